/-- two worlds side by side -/
def apart (w u : va_W) : Prop := ∀ (i j : Nat) (p q : Nat × va_E), w[i]? = some p → u[j]? = some q → p.1 ≠ q.1
theorem apart.symm {w u : va_W} (h : apart w u) : apart u w := fun i j p q hp hq e => h j i q p hq hp e.symm
theorem apart.off {D : va_G} {w u : va_W} {H : Heap} (h : apart w u) (hU : va_P D vwCl u H) {k : Nat} {q : Nat × va_E} (hq : u[k]? = some q) : q.1 < H.size ∧ ¬ va_A w H.size q.1 := by
  refine ⟨(hU k q hq).lt, fun z => ?_⟩
  rcases z with ⟨i, e, z⟩ | z
  · exact h i k (q.1, e) q z hq rfl
  · have := (hU k q hq).lt
    omega
theorem apart.call {D : va_G} {w w1 u : va_W} {H : Heap} {A1 : Nat → Prop} (h : apart w u) (hU : va_P D vwCl u H) (hD1 : va_D (va_A w H.size) w1) : apart w1 u := by
  intro i j p q hp hq e
  have h1 := hD1.2 i p hp
  rw [e] at h1
  exact (h.off hU hq).2 h1
section
variable {p : Program} {l : Launch} {e : Env} {R : Room} {s : State} {m : MethodId} {args : Array Value} {below : List Frame} {meth : Method} {c : Code} {H : Heap} {locs : List Loc} {cells slots : Nat} {Q : State → Prop} {cc : ByteArray} {pc : Nat} {ls : Array Slot} {rest st0 As : List Value} {D : va_G} {A : Nat → Prop} {cI : ClassId} {Ts wsC : List Cond} {own C : String} {index nL maxL n : Nat} {y : MethodName} {rm : Room} {b : Addr} {w u : va_W} {bytes : ByteArray} {ret : Option FieldType} {k t : Nat}

theorem jj_i {wf : (Nat → Int32) → (Nat → Nat → Int32) → Int64 → va_W} {post : Int32 → (Nat → Int32) → (Nat → Nat → Int32) → Int64 → Prop} (S : CallFix p m c cc nL s args Ts own) (hM : Met l y wsC rm (va_Pc (.ref b :: As) (mP D cI w H.size)) (mQi post D cI wf (va_A w H.size)) 0 0 (va_A w H.size)) (cw : CallW R s args own C index y bytes maxL ret wsC rm 0 0 n) (hK : va_K D vwCl [(cI, .int)] s) (hP : va_P D vwCl w H) (hU : va_P D vwCl u H) (hN : NW s) (hD : va_D A w) (hap : apart w u) (hS : va_S A s.heap H locs) (hA : ∀ q, s.heap.size ≤ q → A q) (hrec : ∃ cell : Cell, H[b]? = some cell ∧ cell.vm.isStatics = false ∧ s.vm.findClass C = some cell.cls) (hn : As.length = n) (hsz : ls.size = nL) (hst : st0 = As.reverse ++ .ref b :: rest) (hW : (rest.map fun v => v.category).sum ≤ 8) (hdg : decode cc pc = .ok (.invokevirtual index, 3)) (hc : cells ≤ R.cells) (hs : slots ≤ R.slots)
    (kk : ∀ (r : Int32) (v1 : Nat → Int32) (f1 : Nat → Nat → Int32) (z1 : Int64), post r v1 f1 z1 → ∀ (H1 : Heap) (locs1 : List Loc), va_P D vwCl (wf v1 f1 z1) H1 → va_P D vwCl u H1 → va_D A (wf v1 f1 z1) → apart (wf v1 f1 z1) u → va_S A s.heap H1 locs1 → W p l e R s m args below meth c H1 locs1 cells slots Q (F0 m (pc + 3) ls (.int r :: rest))) : W p l e R s m args below meth c H locs cells slots Q (F0 m pc ls st0) := by
  have hF := freeW hD hS hA
  refine va_calli (va_runV (g := F0 m pc ls st0) S hM cw ⟨mP.blind, hrec, fun U hU2 hW => ⟨rfl, ⟨by rw [hU2], ⟨by rw [hU2]; exact hP, va_K.moved hW.alike hK, NW.warm hW hN⟩, hD.weaken (fun _ _ _ _ => trivial)⟩⟩⟩ rfl hn hsz hst (lv_room hW) hdg ⟨hc, hs⟩) hS (fun q _ h => hF q h) hF (fun r x t H1 locs1 ht hvm hp hB hz hk hS1 => ?_)
  obtain ⟨hP1, hK1, hD1⟩ := hB
  rw [ht] at hP1
  exact kk r x.1 x.2.1 x.2.2 hp H1 locs1 hP1 (hU.kept (fun k q hq => hk q.1 (hap.off hU hq).1 (hap.off hU hq).2)) (hD1.weaken (fun k q _ h => hF q.1 h)) (hap.call (A1 := A) hU hD1) hS1

theorem jj_l {wf : (Nat → Int32) → (Nat → Nat → Int32) → Int64 → va_W} {post : Int64 → (Nat → Int32) → (Nat → Nat → Int32) → Int64 → Prop} (S : CallFix p m c cc nL s args Ts own) (hM : Met l y wsC rm (va_Pc (.ref b :: As) (mP D cI w H.size)) (mQl post D cI wf (va_A w H.size)) 0 0 (va_A w H.size)) (cw : CallW R s args own C index y bytes maxL ret wsC rm 0 0 n) (hK : va_K D vwCl [(cI, .int)] s) (hP : va_P D vwCl w H) (hU : va_P D vwCl u H) (hN : NW s) (hD : va_D A w) (hap : apart w u) (hS : va_S A s.heap H locs) (hA : ∀ q, s.heap.size ≤ q → A q) (hrec : ∃ cell : Cell, H[b]? = some cell ∧ cell.vm.isStatics = false ∧ s.vm.findClass C = some cell.cls) (hn : As.length = n) (hsz : ls.size = nL) (hst : st0 = As.reverse ++ .ref b :: rest) (hW : (rest.map fun v => v.category).sum ≤ 8) (hdg : decode cc pc = .ok (.invokevirtual index, 3)) (hc : cells ≤ R.cells) (hs : slots ≤ R.slots)
    (kk : ∀ (r : Int64) (v1 : Nat → Int32) (f1 : Nat → Nat → Int32) (z1 : Int64), post r v1 f1 z1 → ∀ (H1 : Heap) (locs1 : List Loc), va_P D vwCl (wf v1 f1 z1) H1 → va_P D vwCl u H1 → va_D A (wf v1 f1 z1) → apart (wf v1 f1 z1) u → va_S A s.heap H1 locs1 → W p l e R s m args below meth c H1 locs1 cells slots Q (F0 m (pc + 3) ls (.long r :: rest))) : W p l e R s m args below meth c H locs cells slots Q (F0 m pc ls st0) := by
  have hF := freeW hD hS hA
  refine va_calll (va_runV (g := F0 m pc ls st0) S hM cw ⟨mP.blind, hrec, fun U hU2 hW => ⟨rfl, ⟨by rw [hU2], ⟨by rw [hU2]; exact hP, va_K.moved hW.alike hK, NW.warm hW hN⟩, hD.weaken (fun _ _ _ _ => trivial)⟩⟩⟩ rfl hn hsz hst (lv_room hW) hdg ⟨hc, hs⟩) hS (fun q _ h => hF q h) hF (fun r x t H1 locs1 ht hvm hp hB hz hk hS1 => ?_)
  obtain ⟨hP1, hK1, hD1⟩ := hB
  rw [ht] at hP1
  exact kk r x.1 x.2.1 x.2.2 hp H1 locs1 hP1 (hU.kept (fun k q hq => hk q.1 (hap.off hU hq).1 (hap.off hU hq).2)) (hD1.weaken (fun k q _ h => hF q.1 h)) (hap.call (A1 := A) hU hD1) hS1

theorem jj_ie {wf : (Nat → Int32) → (Nat → Nat → Int32) → Int64 → va_W} {post : Int32 → (Nat → Int32) → (Nat → Nat → Int32) → Int64 → Prop} (S : CallFix p m c cc nL s args Ts own) (hM : Met l y wsC rm (va_Pc (.ref b :: As) (mPe k t D cI w H.size)) (mQi post D cI wf (va_A w H.size)) 0 0 (va_A w H.size)) (cw : CallW R s args own C index y bytes maxL ret wsC rm 0 0 n) (hK : va_K D vwCl [(cI, .int)] s) (hP : va_P D vwCl w H) (hU : va_P D vwCl u H) (hN : NW s) (hD : va_D A w) (hap : apart w u) (hS : va_S A s.heap H locs) (hA : ∀ q, s.heap.size ≤ q → A q) (hE : EV k t A s s.heap) (hrec : ∃ cell : Cell, H[b]? = some cell ∧ cell.vm.isStatics = false ∧ s.vm.findClass C = some cell.cls) (hn : As.length = n) (hsz : ls.size = nL) (hst : st0 = As.reverse ++ .ref b :: rest) (hW : (rest.map fun v => v.category).sum ≤ 8) (hdg : decode cc pc = .ok (.invokevirtual index, 3)) (hc : cells ≤ R.cells) (hs : slots ≤ R.slots)
    (kk : ∀ (r : Int32) (v1 : Nat → Int32) (f1 : Nat → Nat → Int32) (z1 : Int64), post r v1 f1 z1 → ∀ (H1 : Heap) (locs1 : List Loc), va_P D vwCl (wf v1 f1 z1) H1 → va_P D vwCl u H1 → va_D A (wf v1 f1 z1) → apart (wf v1 f1 z1) u → va_S A s.heap H1 locs1 → W p l e R s m args below meth c H1 locs1 cells slots Q (F0 m (pc + 3) ls (.int r :: rest))) : W p l e R s m args below meth c H locs cells slots Q (F0 m pc ls st0) := by
  have hF := freeW hD hS hA
  refine va_calli (va_runV (g := F0 m pc ls st0) S hM cw ⟨mPe.blind, hrec, fun U hU2 hW => ⟨rfl, ⟨⟨by rw [hU2], ⟨by rw [hU2]; exact hP, va_K.moved hW.alike hK, NW.warm hW hN⟩, hD.weaken (fun _ _ _ _ => trivial)⟩, by rw [hU2]; exact ((hE.kept hS.2.1).narrow hF).warm hW⟩⟩⟩ rfl hn hsz hst (lv_room hW) hdg ⟨hc, hs⟩) hS (fun q _ h => hF q h) hF (fun r x t H1 locs1 ht hvm hp hB hz hk hS1 => ?_)
  obtain ⟨hP1, hK1, hD1⟩ := hB
  rw [ht] at hP1
  exact kk r x.1 x.2.1 x.2.2 hp H1 locs1 hP1 (hU.kept (fun k q hq => hk q.1 (hap.off hU hq).1 (hap.off hU hq).2)) (hD1.weaken (fun k q _ h => hF q.1 h)) (hap.call (A1 := A) hU hD1) hS1

theorem sw_0_19 (x : Int32) : x = 0 ∨ x = 1 ∨ x = 2 ∨ x = 3 ∨ x = 4 ∨ x = 5 ∨ x = 6 ∨ x = 7 ∨ x = 8 ∨ x = 9 ∨ x = 10 ∨ x = 11 ∨ x = 12 ∨ x = 13 ∨ x = 14 ∨ x = 15 ∨ x = 16 ∨ x = 17 ∨ x = 18 ∨ x = 19 ∨ (x.toInt < 0 ∨ 19 < x.toInt) := by
  have h : x.toInt = 0 ∨ x.toInt = 1 ∨ x.toInt = 2 ∨ x.toInt = 3 ∨ x.toInt = 4 ∨ x.toInt = 5 ∨ x.toInt = 6 ∨ x.toInt = 7 ∨ x.toInt = 8 ∨ x.toInt = 9 ∨ x.toInt = 10 ∨ x.toInt = 11 ∨ x.toInt = 12 ∨ x.toInt = 13 ∨ x.toInt = 14 ∨ x.toInt = 15 ∨ x.toInt = 16 ∨ x.toInt = 17 ∨ x.toInt = 18 ∨ x.toInt = 19 ∨ (x.toInt < 0 ∨ 19 < x.toInt) := by omega
  exact h.imp (sw_of x 0) (Or.imp (sw_of x 1) (Or.imp (sw_of x 2) (Or.imp (sw_of x 3) (Or.imp (sw_of x 4) (Or.imp (sw_of x 5) (Or.imp (sw_of x 6) (Or.imp (sw_of x 7) (Or.imp (sw_of x 8) (Or.imp (sw_of x 9) (Or.imp (sw_of x 10) (Or.imp (sw_of x 11) (Or.imp (sw_of x 12) (Or.imp (sw_of x 13) (Or.imp (sw_of x 14) (Or.imp (sw_of x 15) (Or.imp (sw_of x 16) (Or.imp (sw_of x 17) (Or.imp (sw_of x 18) (Or.imp (sw_of x 19) (id))))))))))))))))))))
end
def wp_law (L : Nat) (xs : Nat → Int32) : Nat → Int32 → (Nat → Int32) → (Nat → Nat → Int32) → Int64 → (Nat → Int32) → (Nat → Nat → Int32) → Int64 → Prop
  | 0, _, _, _, _, _, _, _ => False
  | n + 1, x3, vx, fx, zx, vy, fy, zy => ((nI L - (4 : Int32) < x3 → True) ∧ (¬ nI L - (4 : Int32) < x3 → (vp_in x3 L ∧ (((xs (x3).toNatClampNeg &&& (31 : Int32)) = 0 → (vp_in (x3 + (1 : Int32)) L ∧ (wp_X6_letter (fun r1 v1x f1x z1x => (vp_in (x3 + (1 : Int32)) L ∧ (wp_X7_letter (fun r2 v2y f2y z2y => ((r1 = r2 → wp_law L xs n (x3 + 4) v1x f1x z1x v2y f2y z2y) ∧ (¬ r1 = r2 → False))) vy fy zy (xs (x3 + (1 : Int32)).toNatClampNeg)))) vx fx zx (xs (x3 + (1 : Int32)).toNatClampNeg)))) ∧ ((xs (x3).toNatClampNeg &&& (31 : Int32)) = 1 → (wp_X6_blank (fun r1 v1x f1x z1x => (wp_X7_blank (fun r2 v2y f2y z2y => ((r1 = r2 → wp_law L xs n (x3 + 4) v1x f1x z1x v2y f2y z2y) ∧ (¬ r1 = r2 → False))) vy fy zy)) vx fx zx)) ∧ ((xs (x3).toNatClampNeg &&& (31 : Int32)) = 2 → (wp_X6_fault (fun r1 v1x f1x z1x => (wp_X7_fault (fun r2 v2y f2y z2y => ((r1 = r2 → wp_law L xs n (x3 + 4) v1x f1x z1x v2y f2y z2y) ∧ (¬ r1 = r2 → False))) vy fy zy)) vx fx zx)) ∧ ((xs (x3).toNatClampNeg &&& (31 : Int32)) = 3 → (wp_X6_room (fun r1 v1x f1x z1x => (wp_X7_room (fun r2 v2y f2y z2y => ((r1 = r2 → wp_law L xs n (x3 + 4) v1x f1x z1x v2y f2y z2y) ∧ (¬ r1 = r2 → False))) vy fy zy)) vx fx zx)) ∧ ((xs (x3).toNatClampNeg &&& (31 : Int32)) = 4 → (vp_in (x3 + (1 : Int32)) L ∧ (wp_X6_fits (fun r1 => (vp_in (x3 + (1 : Int32)) L ∧ (wp_X7_fits (fun r2 => ((r1 = r2 → wp_law L xs n (x3 + 4) vx fx zx vy fy zy) ∧ (¬ r1 = r2 → False))) vy fy zy (xs (x3 + (1 : Int32)).toNatClampNeg)))) vx fx zx (xs (x3 + (1 : Int32)).toNatClampNeg)))) ∧ ((xs (x3).toNatClampNeg &&& (31 : Int32)) = 5 → (vp_in (x3 + (1 : Int32)) L ∧ (vp_in (x3 + (2 : Int32)) L ∧ (wp_X6_about (fun r1 => (vp_in (x3 + (1 : Int32)) L ∧ (vp_in (x3 + (2 : Int32)) L ∧ (wp_X7_about (fun r2 v2y f2y z2y => ((r1 = r2 → wp_law L xs n (x3 + 4) vx fx zx v2y f2y z2y) ∧ (¬ r1 = r2 → False))) vy fy zy (xs (x3 + (1 : Int32)).toNatClampNeg) (xs (x3 + (2 : Int32)).toNatClampNeg))))) vx fx zx (xs (x3 + (1 : Int32)).toNatClampNeg) (xs (x3 + (2 : Int32)).toNatClampNeg))))) ∧ ((xs (x3).toNatClampNeg &&& (31 : Int32)) = 6 → (vp_in (x3 + (1 : Int32)) L ∧ (vp_in (x3 + (2 : Int32)) L ∧ (wp_X6_as (fun r1 => (vp_in (x3 + (1 : Int32)) L ∧ (vp_in (x3 + (2 : Int32)) L ∧ (wp_X7_as (fun r2 => ((r1 = r2 → wp_law L xs n (x3 + 4) vx fx zx vy fy zy) ∧ (¬ r1 = r2 → False))) vy fy zy (xs (x3 + (1 : Int32)).toNatClampNeg) (xs (x3 + (2 : Int32)).toNatClampNeg))))) vx fx zx (xs (x3 + (1 : Int32)).toNatClampNeg) (xs (x3 + (2 : Int32)).toNatClampNeg))))) ∧ ((xs (x3).toNatClampNeg &&& (31 : Int32)) = 7 → (vp_in (x3 + (1 : Int32)) L ∧ (vp_in (x3 + (2 : Int32)) L ∧ (wp_X6_want (fun r1 v1x f1x z1x => (vp_in (x3 + (1 : Int32)) L ∧ (vp_in (x3 + (2 : Int32)) L ∧ (wp_X7_want (fun r2 v2y f2y z2y => ((r1 = r2 → wp_law L xs n (x3 + 4) v1x f1x z1x v2y f2y z2y) ∧ (¬ r1 = r2 → False))) vy fy zy (xs (x3 + (1 : Int32)).toNatClampNeg) (xs (x3 + (2 : Int32)).toNatClampNeg))))) vx fx zx (xs (x3 + (1 : Int32)).toNatClampNeg) (xs (x3 + (2 : Int32)).toNatClampNeg))))) ∧ ((xs (x3).toNatClampNeg &&& (31 : Int32)) = 8 → (vp_in (x3 + (1 : Int32)) L ∧ (vp_in (x3 + (2 : Int32)) L ∧ (wp_X6_would (fun r1 => (vp_in (x3 + (1 : Int32)) L ∧ (vp_in (x3 + (2 : Int32)) L ∧ (wp_X7_would (fun r2 => ((r1 = r2 → wp_law L xs n (x3 + 4) vx fx zx vy fy zy) ∧ (¬ r1 = r2 → False))) vy fy zy (xs (x3 + (1 : Int32)).toNatClampNeg) (xs (x3 + (2 : Int32)).toNatClampNeg))))) vx fx zx (xs (x3 + (1 : Int32)).toNatClampNeg) (xs (x3 + (2 : Int32)).toNatClampNeg))))) ∧ ((xs (x3).toNatClampNeg &&& (31 : Int32)) = 9 → (vp_in (x3 + (1 : Int32)) L ∧ (vp_in (x3 + (2 : Int32)) L ∧ (wp_X6_begin (fun r1 v1x f1x z1x => (vp_in (x3 + (1 : Int32)) L ∧ (vp_in (x3 + (2 : Int32)) L ∧ (wp_X7_begin (fun r2 v2y f2y z2y => ((r1 = r2 → wp_law L xs n (x3 + 4) v1x f1x z1x v2y f2y z2y) ∧ (¬ r1 = r2 → False))) vy fy zy (xs (x3 + (1 : Int32)).toNatClampNeg) (xs (x3 + (2 : Int32)).toNatClampNeg))))) vx fx zx (xs (x3 + (1 : Int32)).toNatClampNeg) (xs (x3 + (2 : Int32)).toNatClampNeg))))) ∧ ((xs (x3).toNatClampNeg &&& (31 : Int32)) = 10 → (vp_in (x3 + (1 : Int32)) L ∧ (vp_in (x3 + (2 : Int32)) L ∧ (wp_X6_end (fun r1 v1x f1x z1x => (vp_in (x3 + (1 : Int32)) L ∧ (vp_in (x3 + (2 : Int32)) L ∧ (wp_X7_end (fun r2 v2y f2y z2y => ((r1 = r2 → wp_law L xs n (x3 + 4) v1x f1x z1x v2y f2y z2y) ∧ (¬ r1 = r2 → False))) vy fy zy (xs (x3 + (1 : Int32)).toNatClampNeg) (xs (x3 + (2 : Int32)).toNatClampNeg))))) vx fx zx (xs (x3 + (1 : Int32)).toNatClampNeg) (xs (x3 + (2 : Int32)).toNatClampNeg))))) ∧ ((xs (x3).toNatClampNeg &&& (31 : Int32)) = 11 → (vp_in (x3 + (1 : Int32)) L ∧ (vp_in (x3 + (2 : Int32)) L ∧ (wp_X6_sentence (fun r1 => (vp_in (x3 + (1 : Int32)) L ∧ (vp_in (x3 + (2 : Int32)) L ∧ (wp_X7_sentence (fun r2 => ((r1 = r2 → wp_law L xs n (x3 + 4) vx fx zx vy fy zy) ∧ (¬ r1 = r2 → False))) vy fy zy (xs (x3 + (1 : Int32)).toNatClampNeg) (xs (x3 + (2 : Int32)).toNatClampNeg))))) vx fx zx (xs (x3 + (1 : Int32)).toNatClampNeg) (xs (x3 + (2 : Int32)).toNatClampNeg))))) ∧ ((xs (x3).toNatClampNeg &&& (31 : Int32)) = 12 → (vp_in (x3 + (1 : Int32)) L ∧ (wp_X6_match (fun r1 v1x f1x z1x => (vp_in (x3 + (1 : Int32)) L ∧ (wp_X7_match (fun r2 v2y f2y z2y => ((r1 = r2 → wp_law L xs n (x3 + 4) v1x f1x z1x v2y f2y z2y) ∧ (¬ r1 = r2 → False))) vy fy zy (xs (x3 + (1 : Int32)).toNatClampNeg)))) vx fx zx (xs (x3 + (1 : Int32)).toNatClampNeg)))) ∧ ((xs (x3).toNatClampNeg &&& (31 : Int32)) = 13 → (vp_in (x3 + (1 : Int32)) L ∧ (vp_in (x3 + (2 : Int32)) L ∧ (vp_in (x3 + (3 : Int32)) L ∧ (wp_X6_hear (fun r1 v1x f1x z1x => (vp_in (x3 + (1 : Int32)) L ∧ (vp_in (x3 + (2 : Int32)) L ∧ (vp_in (x3 + (3 : Int32)) L ∧ (wp_X7_hear (fun r2 v2y f2y z2y => ((r1 = r2 → wp_law L xs n (x3 + 4) v1x f1x z1x v2y f2y z2y) ∧ (¬ r1 = r2 → False))) vy fy zy (xs (x3 + (1 : Int32)).toNatClampNeg) (xs (x3 + (2 : Int32)).toNatClampNeg) (xs (x3 + (3 : Int32)).toNatClampNeg)))))) vx fx zx (xs (x3 + (1 : Int32)).toNatClampNeg) (xs (x3 + (2 : Int32)).toNatClampNeg) (xs (x3 + (3 : Int32)).toNatClampNeg)))))) ∧ ((xs (x3).toNatClampNeg &&& (31 : Int32)) = 14 → (wp_X6_forget (fun r1 v1x f1x z1x => (wp_X7_forget (fun r2 v2y f2y z2y => ((r1 = r2 → wp_law L xs n (x3 + 4) v1x f1x z1x v2y f2y z2y) ∧ (¬ r1 = r2 → False))) vy fy zy)) vx fx zx)) ∧ ((xs (x3).toNatClampNeg &&& (31 : Int32)) = 15 → (vp_in (x3 + (1 : Int32)) L ∧ (vp_in (x3 + (2 : Int32)) L ∧ (vp_in (x3 + (3 : Int32)) L ∧ (wp_X6_talks (fun r1 v1x f1x z1x => (vp_in (x3 + (1 : Int32)) L ∧ (vp_in (x3 + (2 : Int32)) L ∧ (vp_in (x3 + (3 : Int32)) L ∧ (wp_X7_talks (fun r2 v2y f2y z2y => ((r1 = r2 → wp_law L xs n (x3 + 4) v1x f1x z1x v2y f2y z2y) ∧ (¬ r1 = r2 → False))) vy fy zy (xs (x3 + (1 : Int32)).toNatClampNeg) (xs (x3 + (2 : Int32)).toNatClampNeg) (xs (x3 + (3 : Int32)).toNatClampNeg)))))) vx fx zx (xs (x3 + (1 : Int32)).toNatClampNeg) (xs (x3 + (2 : Int32)).toNatClampNeg) (xs (x3 + (3 : Int32)).toNatClampNeg)))))) ∧ ((xs (x3).toNatClampNeg &&& (31 : Int32)) = 16 → (wp_X6_image (fun r1 v1x f1x z1x => (wp_X7_image (fun r2 v2y f2y z2y => ((r1 = r2 → wp_law L xs n (x3 + 4) v1x f1x z1x v2y f2y z2y) ∧ (¬ r1 = r2 → False))) vy fy zy)) vx fx zx)) ∧ ((xs (x3).toNatClampNeg &&& (31 : Int32)) = 17 → (wp_X6_restore (fun r1 v1x f1x z1x => (wp_X7_restore (fun r2 v2y f2y z2y => ((r1 = r2 → wp_law L xs n (x3 + 4) v1x f1x z1x v2y f2y z2y) ∧ (¬ r1 = r2 → False))) vy fy zy)) vx fx zx)) ∧ ((xs (x3).toNatClampNeg &&& (31 : Int32)) = 18 → (vp_in (x3 + (1 : Int32)) L ∧ (wp_X6_count (fun r1 => (vp_in (x3 + (1 : Int32)) L ∧ (wp_X7_count (fun r2 => ((r1 = r2 → wp_law L xs n (x3 + 4) vx fx zx vy fy zy) ∧ (¬ r1 = r2 → False))) vy fy zy (xs (x3 + (1 : Int32)).toNatClampNeg)))) vx fx zx (xs (x3 + (1 : Int32)).toNatClampNeg)))) ∧ ((xs (x3).toNatClampNeg &&& (31 : Int32)) = 19 → (wp_X6_digest (fun r1 v1x f1x z1x => (wp_X7_digest (fun r2 v2y f2y z2y => ((lg_cmp r1 r2 = 0 → wp_law L xs n (x3 + 4) v1x f1x z1x v2y f2y z2y) ∧ (¬ lg_cmp r1 r2 = 0 → False))) vy fy zy)) vx fx zx)) ∧ (((xs (x3).toNatClampNeg &&& (31 : Int32)).toInt < 0 ∨ 19 < (xs (x3).toNatClampNeg &&& (31 : Int32)).toInt) → wp_law L xs n (x3 + 4) vx fx zx vy fy zy)))))
set_option maxHeartbeats 8000000 in
set_option maxRecDepth 100000 in
/-- THE LAW'S LOOP, from its head -/
theorem law_loop {p : Program} {l : Launch} {e : Env} {s : State} {m : MethodId} {below : List Frame} {meth : Method} {c : Code} {D : va_G} {cI : ClassId} {b L : Nat} {xs : Nat → Int32} {Q : State → Prop} {A : Nat → Prop} {k t : Nat} (qx qy : Nat → Nat) (hx : p.tables.exec = Jvm.exec) (hb : c.code = cL_law) (hml : c.maxLocals = 4) (hown : s.vm.findClass RL = some m.cls) (hts : ∀ w ∈ wsL_law, w.before #[Value.ref b] s = true) (hX : va_X b L xs s s.heap) (hbl : b < s.heap.size) (hbA : ¬ A b) (hA : ∀ q, s.heap.size ≤ q → A q) (hK : va_K D vwCl [(cI, .int)] s) (hN : NW s) (hE : EV k t A s s.heap) (hend : ∀ (H : Heap) (locs : List Loc) (ls : Array Slot), va_S A s.heap H locs → W p l e room_1 s m #[Value.ref b] below meth c H locs 600000 7302250 Q (F0 m 636 ls [.int 1])) :
    ∀ (n : Nat) (x3 : Int32) (vx : Nat → Int32) (fx : Nat → Nat → Int32) (zx : Int64) (vy : Nat → Int32) (fy : Nat → Nat → Int32) (zy : Int64), wp_law L xs n x3 vx fx zx vy fy zy → ∀ (H : Heap) (locs : List Loc), va_P D vwCl (wX cI qx vx fx zx) H → va_P D vwCl (wY cI qy vy fy zy) H → va_D A (wX cI qx vx fx zx) → va_D A (wY cI qy vy fy zy) → apart (wX cI qx vx fx zx) (wY cI qy vy fy zy) → va_S A s.heap H locs → ∀ (ls : Array Slot), lv_has ls 4 [(0, .ref b), (1, .ref (qx 0)), (2, .ref (qy 0)), (3, .int x3)] → W p l e room_1 s m #[Value.ref b] below meth c H locs 600000 7302250 Q (F0 m 18 ls []) := by
  intro n
  induction n with
  | zero =>
    intro x3 vx fx zx vy fy zy h
    exact False.elim h
  | succ n ih =>
    intro x3 vx fx zx vy fy zy h H locs hPx hPy hDx hDy hap hS ls hl
    rw [wp_law] at h
    refine lv_iload_n hx hb dL_law_18 rfl (lv_at hl 3 rfl) ?_
    refine lv_aload_n hx hb dL_law_19 rfl (lv_at hl 0 rfl) ?_
    refine va_slen hx hb hX hbl hbA hS dL_law_20 ?_
    refine lv_iconst (v := (4 : Int32)) hx hb dL_law_21 (by decide) ?_
    refine lv_isub hx hb dL_law_22 ?_
    refine lv_icmp_gt (tgt := 635) hx hb dL_law_23 (by decide) (fun c9 => ?_) (fun c9 => ?_)
    · refine lv_iconst (v := (1 : Int32)) hx hb dL_law_635 (by decide) ?_
      exact hend H locs ls hS
    · have h := h.2 c9
      obtain ⟨h9, h⟩ := h
      refine lv_aload_n hx hb dL_law_26 rfl (lv_at hl 0 rfl) ?_
      refine lv_iload_n hx hb dL_law_27 rfl (lv_at hl 3 rfl) ?_
      refine va_sld hx hb hX hbl hbA hS h9 dL_law_28 ?_
      refine lv_bipush (v := (31 : Int32)) hx hb dL_law_29 (by decide) ?_
      refine lv_iand hx hb dL_law_31 ?_
      rcases sw_0_19 (xs (x3).toNatClampNeg &&& (31 : Int32)) with c9 | c9 | c9 | c9 | c9 | c9 | c9 | c9 | c9 | c9 | c9 | c9 | c9 | c9 | c9 | c9 | c9 | c9 | c9 | c9 | c9
      · have h := h.1 c9
        refine lv_tableIn (off := 96) (tgt := 128) hx hb dL_law_32 (by rw [c9]; decide) (by rw [c9]; decide) (by rw [c9]; decide) (by decide) ?_
        refine lv_aload_n hx hb dL_law_128 rfl (lv_at hl 1 rfl) ?_
        refine lv_aload_n hx hb dL_law_129 rfl (lv_at hl 0 rfl) ?_
        refine lv_iload_n hx hb dL_law_130 rfl (lv_at hl 3 rfl) ?_
        refine lv_iconst (v := (1 : Int32)) hx hb dL_law_131 (by decide) ?_
        refine lv_iadd hx hb dL_law_132 ?_
        obtain ⟨h9, h⟩ := h
        refine va_sld hx hb hX hbl hbA hS h9 dL_law_133 ?_
        refine jj_i ⟨hx, hb, hml, hown, hts⟩ (c_X6_letter l D cI qx _ _ _ _ _ _ h) (cwV 1 hts gL_law_X6_letter rfl rfl rfl (by decide +kernel) ⟨Nat.le_of_ble_eq_true rfl, Nat.le_of_ble_eq_true rfl⟩) hK hPx hPy hN hDx hap hS hA (va_recv hK hPx (ci := 6) (q0 := 0) rfl rfl) rfl hl.1 (rest := []) rfl (Nat.le_of_ble_eq_true rfl) dL_law_134 (Nat.le_of_ble_eq_true rfl) (Nat.le_of_ble_eq_true rfl) (fun r1 v1x f1x z1x h H locs hPx hPy hDx hap hS => ?_)
        refine lv_aload_n hx hb dL_law_137 rfl (lv_at hl 2 rfl) ?_
        refine lv_aload_n hx hb dL_law_138 rfl (lv_at hl 0 rfl) ?_
        refine lv_iload_n hx hb dL_law_139 rfl (lv_at hl 3 rfl) ?_
        refine lv_iconst (v := (1 : Int32)) hx hb dL_law_140 (by decide) ?_
        refine lv_iadd hx hb dL_law_141 ?_
        obtain ⟨h9, h⟩ := h
        refine va_sld hx hb hX hbl hbA hS h9 dL_law_142 ?_
        refine jj_i ⟨hx, hb, hml, hown, hts⟩ (c_X7_letter l D cI qy _ _ _ _ _ _ h) (cwV 1 hts gL_law_X7_letter rfl rfl rfl (by decide +kernel) ⟨Nat.le_of_ble_eq_true rfl, Nat.le_of_ble_eq_true rfl⟩) hK hPy hPx hN hDy hap.symm hS hA (va_recv hK hPy (ci := 7) (q0 := 0) rfl rfl) rfl hl.1 (rest := [.int (r1)]) rfl (Nat.le_of_ble_eq_true rfl) dL_law_143 (Nat.le_of_ble_eq_true rfl) (Nat.le_of_ble_eq_true rfl) (fun r2 v2y f2y z2y h H locs hPy hPx hDy hap hS => ?_)
        have hap := hap.symm
        refine lv_icmp_eq (tgt := 629) hx hb dL_law_146 (by decide) (fun c9 => ?_) (fun c9 => ?_)
        · have h := h.1 c9
          refine lv_iinc (v := x3 + 4) (lv' := [(3, .int (x3 + 4)), (0, .ref b), (1, .ref (qx 0)), (2, .ref (qy 0))]) hx hb dL_law_629 hl (k := 3) rfl rfl (by decide) rfl (fun ls hl => ?_)
          refine lv_goto (tgt := 18) hx hb dL_law_632 (by decide) ?_
          exact ih _ _ _ _ _ _ _ h _ _ hPx hPy hDx hDy hap hS ls (lv_sub hl [1, 2, 3, 0] rfl)
        · exact False.elim (h.2 c9)
      · have h := h.2.1 c9
        refine lv_tableIn (off := 119) (tgt := 151) hx hb dL_law_32 (by rw [c9]; decide) (by rw [c9]; decide) (by rw [c9]; decide) (by decide) ?_
        refine lv_aload_n hx hb dL_law_151 rfl (lv_at hl 1 rfl) ?_
        refine jj_i ⟨hx, hb, hml, hown, hts⟩ (c_X6_blank l D cI qx _ _ _ _ _ h) (cwV 0 hts gL_law_X6_blank rfl rfl rfl (by decide +kernel) ⟨Nat.le_of_ble_eq_true rfl, Nat.le_of_ble_eq_true rfl⟩) hK hPx hPy hN hDx hap hS hA (va_recv hK hPx (ci := 6) (q0 := 0) rfl rfl) rfl hl.1 (rest := []) rfl (Nat.le_of_ble_eq_true rfl) dL_law_152 (Nat.le_of_ble_eq_true rfl) (Nat.le_of_ble_eq_true rfl) (fun r1 v1x f1x z1x h H locs hPx hPy hDx hap hS => ?_)
        refine lv_aload_n hx hb dL_law_155 rfl (lv_at hl 2 rfl) ?_
        refine jj_i ⟨hx, hb, hml, hown, hts⟩ (c_X7_blank l D cI qy _ _ _ _ _ h) (cwV 0 hts gL_law_X7_blank rfl rfl rfl (by decide +kernel) ⟨Nat.le_of_ble_eq_true rfl, Nat.le_of_ble_eq_true rfl⟩) hK hPy hPx hN hDy hap.symm hS hA (va_recv hK hPy (ci := 7) (q0 := 0) rfl rfl) rfl hl.1 (rest := [.int (r1)]) rfl (Nat.le_of_ble_eq_true rfl) dL_law_156 (Nat.le_of_ble_eq_true rfl) (Nat.le_of_ble_eq_true rfl) (fun r2 v2y f2y z2y h H locs hPy hPx hDy hap hS => ?_)
        have hap := hap.symm
        refine lv_icmp_eq (tgt := 629) hx hb dL_law_159 (by decide) (fun c9 => ?_) (fun c9 => ?_)
        · have h := h.1 c9
          refine lv_iinc (v := x3 + 4) (lv' := [(3, .int (x3 + 4)), (0, .ref b), (1, .ref (qx 0)), (2, .ref (qy 0))]) hx hb dL_law_629 hl (k := 3) rfl rfl (by decide) rfl (fun ls hl => ?_)
          refine lv_goto (tgt := 18) hx hb dL_law_632 (by decide) ?_
          exact ih _ _ _ _ _ _ _ h _ _ hPx hPy hDx hDy hap hS ls (lv_sub hl [1, 2, 3, 0] rfl)
        · exact False.elim (h.2 c9)
      · have h := h.2.2.1 c9
        refine lv_tableIn (off := 132) (tgt := 164) hx hb dL_law_32 (by rw [c9]; decide) (by rw [c9]; decide) (by rw [c9]; decide) (by decide) ?_
        refine lv_aload_n hx hb dL_law_164 rfl (lv_at hl 1 rfl) ?_
        refine jj_ie ⟨hx, hb, hml, hown, hts⟩ (c_X6_fault l D cI qx _ _ _ _ _ h) (cwV 0 hts gL_law_X6_fault rfl rfl rfl (by decide +kernel) ⟨Nat.le_of_ble_eq_true rfl, Nat.le_of_ble_eq_true rfl⟩) hK hPx hPy hN hDx hap hS hA hE (va_recv hK hPx (ci := 6) (q0 := 0) rfl rfl) rfl hl.1 (rest := []) rfl (Nat.le_of_ble_eq_true rfl) dL_law_165 (Nat.le_of_ble_eq_true rfl) (Nat.le_of_ble_eq_true rfl) (fun r1 v1x f1x z1x h H locs hPx hPy hDx hap hS => ?_)
        refine lv_aload_n hx hb dL_law_168 rfl (lv_at hl 2 rfl) ?_
        refine jj_i ⟨hx, hb, hml, hown, hts⟩ (c_X7_fault l D cI qy _ _ _ _ _ h) (cwV 0 hts gL_law_X7_fault rfl rfl rfl (by decide +kernel) ⟨Nat.le_of_ble_eq_true rfl, Nat.le_of_ble_eq_true rfl⟩) hK hPy hPx hN hDy hap.symm hS hA (va_recv hK hPy (ci := 7) (q0 := 0) rfl rfl) rfl hl.1 (rest := [.int (r1)]) rfl (Nat.le_of_ble_eq_true rfl) dL_law_169 (Nat.le_of_ble_eq_true rfl) (Nat.le_of_ble_eq_true rfl) (fun r2 v2y f2y z2y h H locs hPy hPx hDy hap hS => ?_)
        have hap := hap.symm
        refine lv_icmp_eq (tgt := 629) hx hb dL_law_172 (by decide) (fun c9 => ?_) (fun c9 => ?_)
        · have h := h.1 c9
          refine lv_iinc (v := x3 + 4) (lv' := [(3, .int (x3 + 4)), (0, .ref b), (1, .ref (qx 0)), (2, .ref (qy 0))]) hx hb dL_law_629 hl (k := 3) rfl rfl (by decide) rfl (fun ls hl => ?_)
          refine lv_goto (tgt := 18) hx hb dL_law_632 (by decide) ?_
          exact ih _ _ _ _ _ _ _ h _ _ hPx hPy hDx hDy hap hS ls (lv_sub hl [1, 2, 3, 0] rfl)
        · exact False.elim (h.2 c9)
      · have h := h.2.2.2.1 c9
        refine lv_tableIn (off := 145) (tgt := 177) hx hb dL_law_32 (by rw [c9]; decide) (by rw [c9]; decide) (by rw [c9]; decide) (by decide) ?_
        refine lv_aload_n hx hb dL_law_177 rfl (lv_at hl 1 rfl) ?_
        refine jj_ie ⟨hx, hb, hml, hown, hts⟩ (c_X6_room l D cI qx _ _ _ _ _ h) (cwV 0 hts gL_law_X6_room rfl rfl rfl (by decide +kernel) ⟨Nat.le_of_ble_eq_true rfl, Nat.le_of_ble_eq_true rfl⟩) hK hPx hPy hN hDx hap hS hA hE (va_recv hK hPx (ci := 6) (q0 := 0) rfl rfl) rfl hl.1 (rest := []) rfl (Nat.le_of_ble_eq_true rfl) dL_law_178 (Nat.le_of_ble_eq_true rfl) (Nat.le_of_ble_eq_true rfl) (fun r1 v1x f1x z1x h H locs hPx hPy hDx hap hS => ?_)
        refine lv_aload_n hx hb dL_law_181 rfl (lv_at hl 2 rfl) ?_
        refine jj_i ⟨hx, hb, hml, hown, hts⟩ (c_X7_room l D cI qy _ _ _ _ _ h) (cwV 0 hts gL_law_X7_room rfl rfl rfl (by decide +kernel) ⟨Nat.le_of_ble_eq_true rfl, Nat.le_of_ble_eq_true rfl⟩) hK hPy hPx hN hDy hap.symm hS hA (va_recv hK hPy (ci := 7) (q0 := 0) rfl rfl) rfl hl.1 (rest := [.int (r1)]) rfl (Nat.le_of_ble_eq_true rfl) dL_law_182 (Nat.le_of_ble_eq_true rfl) (Nat.le_of_ble_eq_true rfl) (fun r2 v2y f2y z2y h H locs hPy hPx hDy hap hS => ?_)
        have hap := hap.symm
        refine lv_icmp_eq (tgt := 629) hx hb dL_law_185 (by decide) (fun c9 => ?_) (fun c9 => ?_)
        · have h := h.1 c9
          refine lv_iinc (v := x3 + 4) (lv' := [(3, .int (x3 + 4)), (0, .ref b), (1, .ref (qx 0)), (2, .ref (qy 0))]) hx hb dL_law_629 hl (k := 3) rfl rfl (by decide) rfl (fun ls hl => ?_)
          refine lv_goto (tgt := 18) hx hb dL_law_632 (by decide) ?_
          exact ih _ _ _ _ _ _ _ h _ _ hPx hPy hDx hDy hap hS ls (lv_sub hl [1, 2, 3, 0] rfl)
        · exact False.elim (h.2 c9)
      · have h := h.2.2.2.2.1 c9
        refine lv_tableIn (off := 158) (tgt := 190) hx hb dL_law_32 (by rw [c9]; decide) (by rw [c9]; decide) (by rw [c9]; decide) (by decide) ?_
        refine lv_aload_n hx hb dL_law_190 rfl (lv_at hl 1 rfl) ?_
        refine lv_aload_n hx hb dL_law_191 rfl (lv_at hl 0 rfl) ?_
        refine lv_iload_n hx hb dL_law_192 rfl (lv_at hl 3 rfl) ?_
        refine lv_iconst (v := (1 : Int32)) hx hb dL_law_193 (by decide) ?_
        refine lv_iadd hx hb dL_law_194 ?_
        obtain ⟨h9, h⟩ := h
        refine va_sld hx hb hX hbl hbA hS h9 dL_law_195 ?_
        refine rV_i ⟨hx, hb, hml, hown, hts⟩ (c_X6_fits l D cI qx _ _ _ _ _ h) (cwV 1 hts gL_law_X6_fits rfl rfl rfl (by decide +kernel) ⟨Nat.le_of_ble_eq_true rfl, Nat.le_of_ble_eq_true rfl⟩) hK hPx hN (va_recv hK hPx (ci := 6) (q0 := 0) rfl rfl) rfl hl.1 (rest := []) rfl (Nat.le_of_ble_eq_true rfl) dL_law_196 (Nat.le_of_ble_eq_true rfl) (Nat.le_of_ble_eq_true rfl) (fun r1 h => ?_)
        refine lv_aload_n hx hb dL_law_199 rfl (lv_at hl 2 rfl) ?_
        refine lv_aload_n hx hb dL_law_200 rfl (lv_at hl 0 rfl) ?_
        refine lv_iload_n hx hb dL_law_201 rfl (lv_at hl 3 rfl) ?_
        refine lv_iconst (v := (1 : Int32)) hx hb dL_law_202 (by decide) ?_
        refine lv_iadd hx hb dL_law_203 ?_
        obtain ⟨h9, h⟩ := h
        refine va_sld hx hb hX hbl hbA hS h9 dL_law_204 ?_
        refine rV_i ⟨hx, hb, hml, hown, hts⟩ (c_X7_fits l D cI qy _ _ _ _ _ h) (cwV 1 hts gL_law_X7_fits rfl rfl rfl (by decide +kernel) ⟨Nat.le_of_ble_eq_true rfl, Nat.le_of_ble_eq_true rfl⟩) hK hPy hN (va_recv hK hPy (ci := 7) (q0 := 0) rfl rfl) rfl hl.1 (rest := [.int (r1)]) rfl (Nat.le_of_ble_eq_true rfl) dL_law_205 (Nat.le_of_ble_eq_true rfl) (Nat.le_of_ble_eq_true rfl) (fun r2 h => ?_)
        refine lv_icmp_eq (tgt := 629) hx hb dL_law_208 (by decide) (fun c9 => ?_) (fun c9 => ?_)
        · have h := h.1 c9
          refine lv_iinc (v := x3 + 4) (lv' := [(3, .int (x3 + 4)), (0, .ref b), (1, .ref (qx 0)), (2, .ref (qy 0))]) hx hb dL_law_629 hl (k := 3) rfl rfl (by decide) rfl (fun ls hl => ?_)
          refine lv_goto (tgt := 18) hx hb dL_law_632 (by decide) ?_
          exact ih _ _ _ _ _ _ _ h _ _ hPx hPy hDx hDy hap hS ls (lv_sub hl [1, 2, 3, 0] rfl)
        · exact False.elim (h.2 c9)
      · have h := h.2.2.2.2.2.1 c9
        refine lv_tableIn (off := 181) (tgt := 213) hx hb dL_law_32 (by rw [c9]; decide) (by rw [c9]; decide) (by rw [c9]; decide) (by decide) ?_
        refine lv_aload_n hx hb dL_law_213 rfl (lv_at hl 1 rfl) ?_
        refine lv_aload_n hx hb dL_law_214 rfl (lv_at hl 0 rfl) ?_
        refine lv_iload_n hx hb dL_law_215 rfl (lv_at hl 3 rfl) ?_
        refine lv_iconst (v := (1 : Int32)) hx hb dL_law_216 (by decide) ?_
        refine lv_iadd hx hb dL_law_217 ?_
        obtain ⟨h9, h⟩ := h
        refine va_sld hx hb hX hbl hbA hS h9 dL_law_218 ?_
        refine lv_aload_n hx hb dL_law_219 rfl (lv_at hl 0 rfl) ?_
        refine lv_iload_n hx hb dL_law_220 rfl (lv_at hl 3 rfl) ?_
        refine lv_iconst (v := (2 : Int32)) hx hb dL_law_221 (by decide) ?_
        refine lv_iadd hx hb dL_law_222 ?_
        obtain ⟨h9, h⟩ := h
        refine va_sld hx hb hX hbl hbA hS h9 dL_law_223 ?_
        refine rV_i ⟨hx, hb, hml, hown, hts⟩ (c_X6_about l D cI qx _ _ _ _ _ _ h) (cwV 2 hts gL_law_X6_about rfl rfl rfl (by decide +kernel) ⟨Nat.le_of_ble_eq_true rfl, Nat.le_of_ble_eq_true rfl⟩) hK hPx hN (va_recv hK hPx (ci := 6) (q0 := 0) rfl rfl) rfl hl.1 (rest := []) rfl (Nat.le_of_ble_eq_true rfl) dL_law_224 (Nat.le_of_ble_eq_true rfl) (Nat.le_of_ble_eq_true rfl) (fun r1 h => ?_)
        refine lv_aload_n hx hb dL_law_227 rfl (lv_at hl 2 rfl) ?_
        refine lv_aload_n hx hb dL_law_228 rfl (lv_at hl 0 rfl) ?_
        refine lv_iload_n hx hb dL_law_229 rfl (lv_at hl 3 rfl) ?_
        refine lv_iconst (v := (1 : Int32)) hx hb dL_law_230 (by decide) ?_
        refine lv_iadd hx hb dL_law_231 ?_
        obtain ⟨h9, h⟩ := h
        refine va_sld hx hb hX hbl hbA hS h9 dL_law_232 ?_
        refine lv_aload_n hx hb dL_law_233 rfl (lv_at hl 0 rfl) ?_
        refine lv_iload_n hx hb dL_law_234 rfl (lv_at hl 3 rfl) ?_
        refine lv_iconst (v := (2 : Int32)) hx hb dL_law_235 (by decide) ?_
        refine lv_iadd hx hb dL_law_236 ?_
        obtain ⟨h9, h⟩ := h
        refine va_sld hx hb hX hbl hbA hS h9 dL_law_237 ?_
        refine jj_i ⟨hx, hb, hml, hown, hts⟩ (c_X7_about l D cI qy _ _ _ _ _ _ _ h) (cwV 2 hts gL_law_X7_about rfl rfl rfl (by decide +kernel) ⟨Nat.le_of_ble_eq_true rfl, Nat.le_of_ble_eq_true rfl⟩) hK hPy hPx hN hDy hap.symm hS hA (va_recv hK hPy (ci := 7) (q0 := 0) rfl rfl) rfl hl.1 (rest := [.int (r1)]) rfl (Nat.le_of_ble_eq_true rfl) dL_law_238 (Nat.le_of_ble_eq_true rfl) (Nat.le_of_ble_eq_true rfl) (fun r2 v2y f2y z2y h H locs hPy hPx hDy hap hS => ?_)
        have hap := hap.symm
        refine lv_icmp_eq (tgt := 629) hx hb dL_law_241 (by decide) (fun c9 => ?_) (fun c9 => ?_)
        · have h := h.1 c9
          refine lv_iinc (v := x3 + 4) (lv' := [(3, .int (x3 + 4)), (0, .ref b), (1, .ref (qx 0)), (2, .ref (qy 0))]) hx hb dL_law_629 hl (k := 3) rfl rfl (by decide) rfl (fun ls hl => ?_)
          refine lv_goto (tgt := 18) hx hb dL_law_632 (by decide) ?_
          exact ih _ _ _ _ _ _ _ h _ _ hPx hPy hDx hDy hap hS ls (lv_sub hl [1, 2, 3, 0] rfl)
        · exact False.elim (h.2 c9)
      · have h := h.2.2.2.2.2.2.1 c9
        refine lv_tableIn (off := 214) (tgt := 246) hx hb dL_law_32 (by rw [c9]; decide) (by rw [c9]; decide) (by rw [c9]; decide) (by decide) ?_
        refine lv_aload_n hx hb dL_law_246 rfl (lv_at hl 1 rfl) ?_
        refine lv_aload_n hx hb dL_law_247 rfl (lv_at hl 0 rfl) ?_
        refine lv_iload_n hx hb dL_law_248 rfl (lv_at hl 3 rfl) ?_
        refine lv_iconst (v := (1 : Int32)) hx hb dL_law_249 (by decide) ?_
        refine lv_iadd hx hb dL_law_250 ?_
        obtain ⟨h9, h⟩ := h
        refine va_sld hx hb hX hbl hbA hS h9 dL_law_251 ?_
        refine lv_aload_n hx hb dL_law_252 rfl (lv_at hl 0 rfl) ?_
        refine lv_iload_n hx hb dL_law_253 rfl (lv_at hl 3 rfl) ?_
        refine lv_iconst (v := (2 : Int32)) hx hb dL_law_254 (by decide) ?_
        refine lv_iadd hx hb dL_law_255 ?_
        obtain ⟨h9, h⟩ := h
        refine va_sld hx hb hX hbl hbA hS h9 dL_law_256 ?_
        refine rV_i ⟨hx, hb, hml, hown, hts⟩ (c_X6_as l D cI qx _ _ _ _ _ _ h) (cwV 2 hts gL_law_X6_as rfl rfl rfl (by decide +kernel) ⟨Nat.le_of_ble_eq_true rfl, Nat.le_of_ble_eq_true rfl⟩) hK hPx hN (va_recv hK hPx (ci := 6) (q0 := 0) rfl rfl) rfl hl.1 (rest := []) rfl (Nat.le_of_ble_eq_true rfl) dL_law_257 (Nat.le_of_ble_eq_true rfl) (Nat.le_of_ble_eq_true rfl) (fun r1 h => ?_)
        refine lv_aload_n hx hb dL_law_260 rfl (lv_at hl 2 rfl) ?_
        refine lv_aload_n hx hb dL_law_261 rfl (lv_at hl 0 rfl) ?_
        refine lv_iload_n hx hb dL_law_262 rfl (lv_at hl 3 rfl) ?_
        refine lv_iconst (v := (1 : Int32)) hx hb dL_law_263 (by decide) ?_
        refine lv_iadd hx hb dL_law_264 ?_
        obtain ⟨h9, h⟩ := h
        refine va_sld hx hb hX hbl hbA hS h9 dL_law_265 ?_
        refine lv_aload_n hx hb dL_law_266 rfl (lv_at hl 0 rfl) ?_
        refine lv_iload_n hx hb dL_law_267 rfl (lv_at hl 3 rfl) ?_
        refine lv_iconst (v := (2 : Int32)) hx hb dL_law_268 (by decide) ?_
        refine lv_iadd hx hb dL_law_269 ?_
        obtain ⟨h9, h⟩ := h
        refine va_sld hx hb hX hbl hbA hS h9 dL_law_270 ?_
        refine rV_i ⟨hx, hb, hml, hown, hts⟩ (c_X7_as l D cI qy _ _ _ _ _ _ h) (cwV 2 hts gL_law_X7_as rfl rfl rfl (by decide +kernel) ⟨Nat.le_of_ble_eq_true rfl, Nat.le_of_ble_eq_true rfl⟩) hK hPy hN (va_recv hK hPy (ci := 7) (q0 := 0) rfl rfl) rfl hl.1 (rest := [.int (r1)]) rfl (Nat.le_of_ble_eq_true rfl) dL_law_271 (Nat.le_of_ble_eq_true rfl) (Nat.le_of_ble_eq_true rfl) (fun r2 h => ?_)
        refine lv_icmp_eq (tgt := 629) hx hb dL_law_274 (by decide) (fun c9 => ?_) (fun c9 => ?_)
        · have h := h.1 c9
          refine lv_iinc (v := x3 + 4) (lv' := [(3, .int (x3 + 4)), (0, .ref b), (1, .ref (qx 0)), (2, .ref (qy 0))]) hx hb dL_law_629 hl (k := 3) rfl rfl (by decide) rfl (fun ls hl => ?_)
          refine lv_goto (tgt := 18) hx hb dL_law_632 (by decide) ?_
          exact ih _ _ _ _ _ _ _ h _ _ hPx hPy hDx hDy hap hS ls (lv_sub hl [1, 2, 3, 0] rfl)
        · exact False.elim (h.2 c9)
      · have h := h.2.2.2.2.2.2.2.1 c9
        refine lv_tableIn (off := 247) (tgt := 279) hx hb dL_law_32 (by rw [c9]; decide) (by rw [c9]; decide) (by rw [c9]; decide) (by decide) ?_
        refine lv_aload_n hx hb dL_law_279 rfl (lv_at hl 1 rfl) ?_
        refine lv_aload_n hx hb dL_law_280 rfl (lv_at hl 0 rfl) ?_
        refine lv_iload_n hx hb dL_law_281 rfl (lv_at hl 3 rfl) ?_
        refine lv_iconst (v := (1 : Int32)) hx hb dL_law_282 (by decide) ?_
        refine lv_iadd hx hb dL_law_283 ?_
        obtain ⟨h9, h⟩ := h
        refine va_sld hx hb hX hbl hbA hS h9 dL_law_284 ?_
        refine lv_aload_n hx hb dL_law_285 rfl (lv_at hl 0 rfl) ?_
        refine lv_iload_n hx hb dL_law_286 rfl (lv_at hl 3 rfl) ?_
        refine lv_iconst (v := (2 : Int32)) hx hb dL_law_287 (by decide) ?_
        refine lv_iadd hx hb dL_law_288 ?_
        obtain ⟨h9, h⟩ := h
        refine va_sld hx hb hX hbl hbA hS h9 dL_law_289 ?_
        refine jj_i ⟨hx, hb, hml, hown, hts⟩ (c_X6_want l D cI qx _ _ _ _ _ _ _ h) (cwV 2 hts gL_law_X6_want rfl rfl rfl (by decide +kernel) ⟨Nat.le_of_ble_eq_true rfl, Nat.le_of_ble_eq_true rfl⟩) hK hPx hPy hN hDx hap hS hA (va_recv hK hPx (ci := 6) (q0 := 0) rfl rfl) rfl hl.1 (rest := []) rfl (Nat.le_of_ble_eq_true rfl) dL_law_290 (Nat.le_of_ble_eq_true rfl) (Nat.le_of_ble_eq_true rfl) (fun r1 v1x f1x z1x h H locs hPx hPy hDx hap hS => ?_)
        refine lv_aload_n hx hb dL_law_293 rfl (lv_at hl 2 rfl) ?_
        refine lv_aload_n hx hb dL_law_294 rfl (lv_at hl 0 rfl) ?_
        refine lv_iload_n hx hb dL_law_295 rfl (lv_at hl 3 rfl) ?_
        refine lv_iconst (v := (1 : Int32)) hx hb dL_law_296 (by decide) ?_
        refine lv_iadd hx hb dL_law_297 ?_
        obtain ⟨h9, h⟩ := h
        refine va_sld hx hb hX hbl hbA hS h9 dL_law_298 ?_
        refine lv_aload_n hx hb dL_law_299 rfl (lv_at hl 0 rfl) ?_
        refine lv_iload_n hx hb dL_law_300 rfl (lv_at hl 3 rfl) ?_
        refine lv_iconst (v := (2 : Int32)) hx hb dL_law_301 (by decide) ?_
        refine lv_iadd hx hb dL_law_302 ?_
        obtain ⟨h9, h⟩ := h
        refine va_sld hx hb hX hbl hbA hS h9 dL_law_303 ?_
        refine jj_i ⟨hx, hb, hml, hown, hts⟩ (c_X7_want l D cI qy _ _ _ _ _ _ _ h) (cwV 2 hts gL_law_X7_want rfl rfl rfl (by decide +kernel) ⟨Nat.le_of_ble_eq_true rfl, Nat.le_of_ble_eq_true rfl⟩) hK hPy hPx hN hDy hap.symm hS hA (va_recv hK hPy (ci := 7) (q0 := 0) rfl rfl) rfl hl.1 (rest := [.int (r1)]) rfl (Nat.le_of_ble_eq_true rfl) dL_law_304 (Nat.le_of_ble_eq_true rfl) (Nat.le_of_ble_eq_true rfl) (fun r2 v2y f2y z2y h H locs hPy hPx hDy hap hS => ?_)
        have hap := hap.symm
        refine lv_icmp_eq (tgt := 629) hx hb dL_law_307 (by decide) (fun c9 => ?_) (fun c9 => ?_)
        · have h := h.1 c9
          refine lv_iinc (v := x3 + 4) (lv' := [(3, .int (x3 + 4)), (0, .ref b), (1, .ref (qx 0)), (2, .ref (qy 0))]) hx hb dL_law_629 hl (k := 3) rfl rfl (by decide) rfl (fun ls hl => ?_)
          refine lv_goto (tgt := 18) hx hb dL_law_632 (by decide) ?_
          exact ih _ _ _ _ _ _ _ h _ _ hPx hPy hDx hDy hap hS ls (lv_sub hl [1, 2, 3, 0] rfl)
        · exact False.elim (h.2 c9)
      · have h := h.2.2.2.2.2.2.2.2.1 c9
        refine lv_tableIn (off := 280) (tgt := 312) hx hb dL_law_32 (by rw [c9]; decide) (by rw [c9]; decide) (by rw [c9]; decide) (by decide) ?_
        refine lv_aload_n hx hb dL_law_312 rfl (lv_at hl 1 rfl) ?_
        refine lv_aload_n hx hb dL_law_313 rfl (lv_at hl 0 rfl) ?_
        refine lv_iload_n hx hb dL_law_314 rfl (lv_at hl 3 rfl) ?_
        refine lv_iconst (v := (1 : Int32)) hx hb dL_law_315 (by decide) ?_
        refine lv_iadd hx hb dL_law_316 ?_
        obtain ⟨h9, h⟩ := h
        refine va_sld hx hb hX hbl hbA hS h9 dL_law_317 ?_
        refine lv_aload_n hx hb dL_law_318 rfl (lv_at hl 0 rfl) ?_
        refine lv_iload_n hx hb dL_law_319 rfl (lv_at hl 3 rfl) ?_
        refine lv_iconst (v := (2 : Int32)) hx hb dL_law_320 (by decide) ?_
        refine lv_iadd hx hb dL_law_321 ?_
        obtain ⟨h9, h⟩ := h
        refine va_sld hx hb hX hbl hbA hS h9 dL_law_322 ?_
        refine rV_i ⟨hx, hb, hml, hown, hts⟩ (c_X6_would l D cI qx _ _ _ _ _ _ h) (cwV 2 hts gL_law_X6_would rfl rfl rfl (by decide +kernel) ⟨Nat.le_of_ble_eq_true rfl, Nat.le_of_ble_eq_true rfl⟩) hK hPx hN (va_recv hK hPx (ci := 6) (q0 := 0) rfl rfl) rfl hl.1 (rest := []) rfl (Nat.le_of_ble_eq_true rfl) dL_law_323 (Nat.le_of_ble_eq_true rfl) (Nat.le_of_ble_eq_true rfl) (fun r1 h => ?_)
        refine lv_aload_n hx hb dL_law_326 rfl (lv_at hl 2 rfl) ?_
        refine lv_aload_n hx hb dL_law_327 rfl (lv_at hl 0 rfl) ?_
        refine lv_iload_n hx hb dL_law_328 rfl (lv_at hl 3 rfl) ?_
        refine lv_iconst (v := (1 : Int32)) hx hb dL_law_329 (by decide) ?_
        refine lv_iadd hx hb dL_law_330 ?_
        obtain ⟨h9, h⟩ := h
        refine va_sld hx hb hX hbl hbA hS h9 dL_law_331 ?_
        refine lv_aload_n hx hb dL_law_332 rfl (lv_at hl 0 rfl) ?_
        refine lv_iload_n hx hb dL_law_333 rfl (lv_at hl 3 rfl) ?_
        refine lv_iconst (v := (2 : Int32)) hx hb dL_law_334 (by decide) ?_
        refine lv_iadd hx hb dL_law_335 ?_
        obtain ⟨h9, h⟩ := h
        refine va_sld hx hb hX hbl hbA hS h9 dL_law_336 ?_
        refine rV_i ⟨hx, hb, hml, hown, hts⟩ (c_X7_would l D cI qy _ _ _ _ _ _ h) (cwV 2 hts gL_law_X7_would rfl rfl rfl (by decide +kernel) ⟨Nat.le_of_ble_eq_true rfl, Nat.le_of_ble_eq_true rfl⟩) hK hPy hN (va_recv hK hPy (ci := 7) (q0 := 0) rfl rfl) rfl hl.1 (rest := [.int (r1)]) rfl (Nat.le_of_ble_eq_true rfl) dL_law_337 (Nat.le_of_ble_eq_true rfl) (Nat.le_of_ble_eq_true rfl) (fun r2 h => ?_)
        refine lv_icmp_eq (tgt := 629) hx hb dL_law_340 (by decide) (fun c9 => ?_) (fun c9 => ?_)
        · have h := h.1 c9
          refine lv_iinc (v := x3 + 4) (lv' := [(3, .int (x3 + 4)), (0, .ref b), (1, .ref (qx 0)), (2, .ref (qy 0))]) hx hb dL_law_629 hl (k := 3) rfl rfl (by decide) rfl (fun ls hl => ?_)
          refine lv_goto (tgt := 18) hx hb dL_law_632 (by decide) ?_
          exact ih _ _ _ _ _ _ _ h _ _ hPx hPy hDx hDy hap hS ls (lv_sub hl [1, 2, 3, 0] rfl)
        · exact False.elim (h.2 c9)
      · have h := h.2.2.2.2.2.2.2.2.2.1 c9
        refine lv_tableIn (off := 313) (tgt := 345) hx hb dL_law_32 (by rw [c9]; decide) (by rw [c9]; decide) (by rw [c9]; decide) (by decide) ?_
        refine lv_aload_n hx hb dL_law_345 rfl (lv_at hl 1 rfl) ?_
        refine lv_aload_n hx hb dL_law_346 rfl (lv_at hl 0 rfl) ?_
        refine lv_iload_n hx hb dL_law_347 rfl (lv_at hl 3 rfl) ?_
        refine lv_iconst (v := (1 : Int32)) hx hb dL_law_348 (by decide) ?_
        refine lv_iadd hx hb dL_law_349 ?_
        obtain ⟨h9, h⟩ := h
        refine va_sld hx hb hX hbl hbA hS h9 dL_law_350 ?_
        refine lv_aload_n hx hb dL_law_351 rfl (lv_at hl 0 rfl) ?_
        refine lv_iload_n hx hb dL_law_352 rfl (lv_at hl 3 rfl) ?_
        refine lv_iconst (v := (2 : Int32)) hx hb dL_law_353 (by decide) ?_
        refine lv_iadd hx hb dL_law_354 ?_
        obtain ⟨h9, h⟩ := h
        refine va_sld hx hb hX hbl hbA hS h9 dL_law_355 ?_
        refine jj_i ⟨hx, hb, hml, hown, hts⟩ (c_X6_begin l D cI qx _ _ _ _ _ _ _ h) (cwV 2 hts gL_law_X6_begin rfl rfl rfl (by decide +kernel) ⟨Nat.le_of_ble_eq_true rfl, Nat.le_of_ble_eq_true rfl⟩) hK hPx hPy hN hDx hap hS hA (va_recv hK hPx (ci := 6) (q0 := 0) rfl rfl) rfl hl.1 (rest := []) rfl (Nat.le_of_ble_eq_true rfl) dL_law_356 (Nat.le_of_ble_eq_true rfl) (Nat.le_of_ble_eq_true rfl) (fun r1 v1x f1x z1x h H locs hPx hPy hDx hap hS => ?_)
        refine lv_aload_n hx hb dL_law_359 rfl (lv_at hl 2 rfl) ?_
        refine lv_aload_n hx hb dL_law_360 rfl (lv_at hl 0 rfl) ?_
        refine lv_iload_n hx hb dL_law_361 rfl (lv_at hl 3 rfl) ?_
        refine lv_iconst (v := (1 : Int32)) hx hb dL_law_362 (by decide) ?_
        refine lv_iadd hx hb dL_law_363 ?_
        obtain ⟨h9, h⟩ := h
        refine va_sld hx hb hX hbl hbA hS h9 dL_law_364 ?_
        refine lv_aload_n hx hb dL_law_365 rfl (lv_at hl 0 rfl) ?_
        refine lv_iload_n hx hb dL_law_366 rfl (lv_at hl 3 rfl) ?_
        refine lv_iconst (v := (2 : Int32)) hx hb dL_law_367 (by decide) ?_
        refine lv_iadd hx hb dL_law_368 ?_
        obtain ⟨h9, h⟩ := h
        refine va_sld hx hb hX hbl hbA hS h9 dL_law_369 ?_
        refine jj_i ⟨hx, hb, hml, hown, hts⟩ (c_X7_begin l D cI qy _ _ _ _ _ _ _ h) (cwV 2 hts gL_law_X7_begin rfl rfl rfl (by decide +kernel) ⟨Nat.le_of_ble_eq_true rfl, Nat.le_of_ble_eq_true rfl⟩) hK hPy hPx hN hDy hap.symm hS hA (va_recv hK hPy (ci := 7) (q0 := 0) rfl rfl) rfl hl.1 (rest := [.int (r1)]) rfl (Nat.le_of_ble_eq_true rfl) dL_law_370 (Nat.le_of_ble_eq_true rfl) (Nat.le_of_ble_eq_true rfl) (fun r2 v2y f2y z2y h H locs hPy hPx hDy hap hS => ?_)
        have hap := hap.symm
        refine lv_icmp_eq (tgt := 629) hx hb dL_law_373 (by decide) (fun c9 => ?_) (fun c9 => ?_)
        · have h := h.1 c9
          refine lv_iinc (v := x3 + 4) (lv' := [(3, .int (x3 + 4)), (0, .ref b), (1, .ref (qx 0)), (2, .ref (qy 0))]) hx hb dL_law_629 hl (k := 3) rfl rfl (by decide) rfl (fun ls hl => ?_)
          refine lv_goto (tgt := 18) hx hb dL_law_632 (by decide) ?_
          exact ih _ _ _ _ _ _ _ h _ _ hPx hPy hDx hDy hap hS ls (lv_sub hl [1, 2, 3, 0] rfl)
        · exact False.elim (h.2 c9)
      · have h := h.2.2.2.2.2.2.2.2.2.2.1 c9
        refine lv_tableIn (off := 346) (tgt := 378) hx hb dL_law_32 (by rw [c9]; decide) (by rw [c9]; decide) (by rw [c9]; decide) (by decide) ?_
        refine lv_aload_n hx hb dL_law_378 rfl (lv_at hl 1 rfl) ?_
        refine lv_aload_n hx hb dL_law_379 rfl (lv_at hl 0 rfl) ?_
        refine lv_iload_n hx hb dL_law_380 rfl (lv_at hl 3 rfl) ?_
        refine lv_iconst (v := (1 : Int32)) hx hb dL_law_381 (by decide) ?_
        refine lv_iadd hx hb dL_law_382 ?_
        obtain ⟨h9, h⟩ := h
        refine va_sld hx hb hX hbl hbA hS h9 dL_law_383 ?_
        refine lv_aload_n hx hb dL_law_384 rfl (lv_at hl 0 rfl) ?_
        refine lv_iload_n hx hb dL_law_385 rfl (lv_at hl 3 rfl) ?_
        refine lv_iconst (v := (2 : Int32)) hx hb dL_law_386 (by decide) ?_
        refine lv_iadd hx hb dL_law_387 ?_
        obtain ⟨h9, h⟩ := h
        refine va_sld hx hb hX hbl hbA hS h9 dL_law_388 ?_
        refine jj_i ⟨hx, hb, hml, hown, hts⟩ (c_X6_end l D cI qx _ _ _ _ _ _ _ h) (cwV 2 hts gL_law_X6_end rfl rfl rfl (by decide +kernel) ⟨Nat.le_of_ble_eq_true rfl, Nat.le_of_ble_eq_true rfl⟩) hK hPx hPy hN hDx hap hS hA (va_recv hK hPx (ci := 6) (q0 := 0) rfl rfl) rfl hl.1 (rest := []) rfl (Nat.le_of_ble_eq_true rfl) dL_law_389 (Nat.le_of_ble_eq_true rfl) (Nat.le_of_ble_eq_true rfl) (fun r1 v1x f1x z1x h H locs hPx hPy hDx hap hS => ?_)
        refine lv_aload_n hx hb dL_law_392 rfl (lv_at hl 2 rfl) ?_
        refine lv_aload_n hx hb dL_law_393 rfl (lv_at hl 0 rfl) ?_
        refine lv_iload_n hx hb dL_law_394 rfl (lv_at hl 3 rfl) ?_
        refine lv_iconst (v := (1 : Int32)) hx hb dL_law_395 (by decide) ?_
        refine lv_iadd hx hb dL_law_396 ?_
        obtain ⟨h9, h⟩ := h
        refine va_sld hx hb hX hbl hbA hS h9 dL_law_397 ?_
        refine lv_aload_n hx hb dL_law_398 rfl (lv_at hl 0 rfl) ?_
        refine lv_iload_n hx hb dL_law_399 rfl (lv_at hl 3 rfl) ?_
        refine lv_iconst (v := (2 : Int32)) hx hb dL_law_400 (by decide) ?_
        refine lv_iadd hx hb dL_law_401 ?_
        obtain ⟨h9, h⟩ := h
        refine va_sld hx hb hX hbl hbA hS h9 dL_law_402 ?_
        refine jj_i ⟨hx, hb, hml, hown, hts⟩ (c_X7_end l D cI qy _ _ _ _ _ _ _ h) (cwV 2 hts gL_law_X7_end rfl rfl rfl (by decide +kernel) ⟨Nat.le_of_ble_eq_true rfl, Nat.le_of_ble_eq_true rfl⟩) hK hPy hPx hN hDy hap.symm hS hA (va_recv hK hPy (ci := 7) (q0 := 0) rfl rfl) rfl hl.1 (rest := [.int (r1)]) rfl (Nat.le_of_ble_eq_true rfl) dL_law_403 (Nat.le_of_ble_eq_true rfl) (Nat.le_of_ble_eq_true rfl) (fun r2 v2y f2y z2y h H locs hPy hPx hDy hap hS => ?_)
        have hap := hap.symm
        refine lv_icmp_eq (tgt := 629) hx hb dL_law_406 (by decide) (fun c9 => ?_) (fun c9 => ?_)
        · have h := h.1 c9
          refine lv_iinc (v := x3 + 4) (lv' := [(3, .int (x3 + 4)), (0, .ref b), (1, .ref (qx 0)), (2, .ref (qy 0))]) hx hb dL_law_629 hl (k := 3) rfl rfl (by decide) rfl (fun ls hl => ?_)
          refine lv_goto (tgt := 18) hx hb dL_law_632 (by decide) ?_
          exact ih _ _ _ _ _ _ _ h _ _ hPx hPy hDx hDy hap hS ls (lv_sub hl [1, 2, 3, 0] rfl)
        · exact False.elim (h.2 c9)
      · have h := h.2.2.2.2.2.2.2.2.2.2.2.1 c9
        refine lv_tableIn (off := 379) (tgt := 411) hx hb dL_law_32 (by rw [c9]; decide) (by rw [c9]; decide) (by rw [c9]; decide) (by decide) ?_
        refine lv_aload_n hx hb dL_law_411 rfl (lv_at hl 1 rfl) ?_
        refine lv_aload_n hx hb dL_law_412 rfl (lv_at hl 0 rfl) ?_
        refine lv_iload_n hx hb dL_law_413 rfl (lv_at hl 3 rfl) ?_
        refine lv_iconst (v := (1 : Int32)) hx hb dL_law_414 (by decide) ?_
        refine lv_iadd hx hb dL_law_415 ?_
        obtain ⟨h9, h⟩ := h
        refine va_sld hx hb hX hbl hbA hS h9 dL_law_416 ?_
        refine lv_aload_n hx hb dL_law_417 rfl (lv_at hl 0 rfl) ?_
        refine lv_iload_n hx hb dL_law_418 rfl (lv_at hl 3 rfl) ?_
        refine lv_iconst (v := (2 : Int32)) hx hb dL_law_419 (by decide) ?_
        refine lv_iadd hx hb dL_law_420 ?_
        obtain ⟨h9, h⟩ := h
        refine va_sld hx hb hX hbl hbA hS h9 dL_law_421 ?_
        refine rV_i ⟨hx, hb, hml, hown, hts⟩ (c_X6_sentence l D cI qx _ _ _ _ _ _ h) (cwV 2 hts gL_law_X6_sentence rfl rfl rfl (by decide +kernel) ⟨Nat.le_of_ble_eq_true rfl, Nat.le_of_ble_eq_true rfl⟩) hK hPx hN (va_recv hK hPx (ci := 6) (q0 := 0) rfl rfl) rfl hl.1 (rest := []) rfl (Nat.le_of_ble_eq_true rfl) dL_law_422 (Nat.le_of_ble_eq_true rfl) (Nat.le_of_ble_eq_true rfl) (fun r1 h => ?_)
        refine lv_aload_n hx hb dL_law_425 rfl (lv_at hl 2 rfl) ?_
        refine lv_aload_n hx hb dL_law_426 rfl (lv_at hl 0 rfl) ?_
        refine lv_iload_n hx hb dL_law_427 rfl (lv_at hl 3 rfl) ?_
        refine lv_iconst (v := (1 : Int32)) hx hb dL_law_428 (by decide) ?_
        refine lv_iadd hx hb dL_law_429 ?_
        obtain ⟨h9, h⟩ := h
        refine va_sld hx hb hX hbl hbA hS h9 dL_law_430 ?_
        refine lv_aload_n hx hb dL_law_431 rfl (lv_at hl 0 rfl) ?_
        refine lv_iload_n hx hb dL_law_432 rfl (lv_at hl 3 rfl) ?_
        refine lv_iconst (v := (2 : Int32)) hx hb dL_law_433 (by decide) ?_
        refine lv_iadd hx hb dL_law_434 ?_
        obtain ⟨h9, h⟩ := h
        refine va_sld hx hb hX hbl hbA hS h9 dL_law_435 ?_
        refine rV_i ⟨hx, hb, hml, hown, hts⟩ (c_X7_sentence l D cI qy _ _ _ _ _ _ h) (cwV 2 hts gL_law_X7_sentence rfl rfl rfl (by decide +kernel) ⟨Nat.le_of_ble_eq_true rfl, Nat.le_of_ble_eq_true rfl⟩) hK hPy hN (va_recv hK hPy (ci := 7) (q0 := 0) rfl rfl) rfl hl.1 (rest := [.int (r1)]) rfl (Nat.le_of_ble_eq_true rfl) dL_law_436 (Nat.le_of_ble_eq_true rfl) (Nat.le_of_ble_eq_true rfl) (fun r2 h => ?_)
        refine lv_icmp_eq (tgt := 629) hx hb dL_law_439 (by decide) (fun c9 => ?_) (fun c9 => ?_)
        · have h := h.1 c9
          refine lv_iinc (v := x3 + 4) (lv' := [(3, .int (x3 + 4)), (0, .ref b), (1, .ref (qx 0)), (2, .ref (qy 0))]) hx hb dL_law_629 hl (k := 3) rfl rfl (by decide) rfl (fun ls hl => ?_)
          refine lv_goto (tgt := 18) hx hb dL_law_632 (by decide) ?_
          exact ih _ _ _ _ _ _ _ h _ _ hPx hPy hDx hDy hap hS ls (lv_sub hl [1, 2, 3, 0] rfl)
        · exact False.elim (h.2 c9)
      · have h := h.2.2.2.2.2.2.2.2.2.2.2.2.1 c9
        refine lv_tableIn (off := 412) (tgt := 444) hx hb dL_law_32 (by rw [c9]; decide) (by rw [c9]; decide) (by rw [c9]; decide) (by decide) ?_
        refine lv_aload_n hx hb dL_law_444 rfl (lv_at hl 1 rfl) ?_
        refine lv_aload_n hx hb dL_law_445 rfl (lv_at hl 0 rfl) ?_
        refine lv_iload_n hx hb dL_law_446 rfl (lv_at hl 3 rfl) ?_
        refine lv_iconst (v := (1 : Int32)) hx hb dL_law_447 (by decide) ?_
        refine lv_iadd hx hb dL_law_448 ?_
        obtain ⟨h9, h⟩ := h
        refine va_sld hx hb hX hbl hbA hS h9 dL_law_449 ?_
        refine jj_i ⟨hx, hb, hml, hown, hts⟩ (c_X6_match l D cI qx _ _ _ _ _ _ h) (cwV 1 hts gL_law_X6_match rfl rfl rfl (by decide +kernel) ⟨Nat.le_of_ble_eq_true rfl, Nat.le_of_ble_eq_true rfl⟩) hK hPx hPy hN hDx hap hS hA (va_recv hK hPx (ci := 6) (q0 := 0) rfl rfl) rfl hl.1 (rest := []) rfl (Nat.le_of_ble_eq_true rfl) dL_law_450 (Nat.le_of_ble_eq_true rfl) (Nat.le_of_ble_eq_true rfl) (fun r1 v1x f1x z1x h H locs hPx hPy hDx hap hS => ?_)
        refine lv_aload_n hx hb dL_law_453 rfl (lv_at hl 2 rfl) ?_
        refine lv_aload_n hx hb dL_law_454 rfl (lv_at hl 0 rfl) ?_
        refine lv_iload_n hx hb dL_law_455 rfl (lv_at hl 3 rfl) ?_
        refine lv_iconst (v := (1 : Int32)) hx hb dL_law_456 (by decide) ?_
        refine lv_iadd hx hb dL_law_457 ?_
        obtain ⟨h9, h⟩ := h
        refine va_sld hx hb hX hbl hbA hS h9 dL_law_458 ?_
        refine jj_i ⟨hx, hb, hml, hown, hts⟩ (c_X7_match l D cI qy _ _ _ _ _ _ h) (cwV 1 hts gL_law_X7_match rfl rfl rfl (by decide +kernel) ⟨Nat.le_of_ble_eq_true rfl, Nat.le_of_ble_eq_true rfl⟩) hK hPy hPx hN hDy hap.symm hS hA (va_recv hK hPy (ci := 7) (q0 := 0) rfl rfl) rfl hl.1 (rest := [.int (r1)]) rfl (Nat.le_of_ble_eq_true rfl) dL_law_459 (Nat.le_of_ble_eq_true rfl) (Nat.le_of_ble_eq_true rfl) (fun r2 v2y f2y z2y h H locs hPy hPx hDy hap hS => ?_)
        have hap := hap.symm
        refine lv_icmp_eq (tgt := 629) hx hb dL_law_462 (by decide) (fun c9 => ?_) (fun c9 => ?_)
        · have h := h.1 c9
          refine lv_iinc (v := x3 + 4) (lv' := [(3, .int (x3 + 4)), (0, .ref b), (1, .ref (qx 0)), (2, .ref (qy 0))]) hx hb dL_law_629 hl (k := 3) rfl rfl (by decide) rfl (fun ls hl => ?_)
          refine lv_goto (tgt := 18) hx hb dL_law_632 (by decide) ?_
          exact ih _ _ _ _ _ _ _ h _ _ hPx hPy hDx hDy hap hS ls (lv_sub hl [1, 2, 3, 0] rfl)
        · exact False.elim (h.2 c9)
      · have h := h.2.2.2.2.2.2.2.2.2.2.2.2.2.1 c9
        refine lv_tableIn (off := 435) (tgt := 467) hx hb dL_law_32 (by rw [c9]; decide) (by rw [c9]; decide) (by rw [c9]; decide) (by decide) ?_
        refine lv_aload_n hx hb dL_law_467 rfl (lv_at hl 1 rfl) ?_
        refine lv_aload_n hx hb dL_law_468 rfl (lv_at hl 0 rfl) ?_
        refine lv_iload_n hx hb dL_law_469 rfl (lv_at hl 3 rfl) ?_
        refine lv_iconst (v := (1 : Int32)) hx hb dL_law_470 (by decide) ?_
        refine lv_iadd hx hb dL_law_471 ?_
        obtain ⟨h9, h⟩ := h
        refine va_sld hx hb hX hbl hbA hS h9 dL_law_472 ?_
        refine lv_aload_n hx hb dL_law_473 rfl (lv_at hl 0 rfl) ?_
        refine lv_iload_n hx hb dL_law_474 rfl (lv_at hl 3 rfl) ?_
        refine lv_iconst (v := (2 : Int32)) hx hb dL_law_475 (by decide) ?_
        refine lv_iadd hx hb dL_law_476 ?_
        obtain ⟨h9, h⟩ := h
        refine va_sld hx hb hX hbl hbA hS h9 dL_law_477 ?_
        refine lv_aload_n hx hb dL_law_478 rfl (lv_at hl 0 rfl) ?_
        refine lv_iload_n hx hb dL_law_479 rfl (lv_at hl 3 rfl) ?_
        refine lv_iconst (v := (3 : Int32)) hx hb dL_law_480 (by decide) ?_
        refine lv_iadd hx hb dL_law_481 ?_
        obtain ⟨h9, h⟩ := h
        refine va_sld hx hb hX hbl hbA hS h9 dL_law_482 ?_
        refine jj_i ⟨hx, hb, hml, hown, hts⟩ (c_X6_hear l D cI qx _ _ _ _ _ _ _ _ h) (cwV 3 hts gL_law_X6_hear rfl rfl rfl (by decide +kernel) ⟨Nat.le_of_ble_eq_true rfl, Nat.le_of_ble_eq_true rfl⟩) hK hPx hPy hN hDx hap hS hA (va_recv hK hPx (ci := 6) (q0 := 0) rfl rfl) rfl hl.1 (rest := []) rfl (Nat.le_of_ble_eq_true rfl) dL_law_483 (Nat.le_of_ble_eq_true rfl) (Nat.le_of_ble_eq_true rfl) (fun r1 v1x f1x z1x h H locs hPx hPy hDx hap hS => ?_)
        refine lv_aload_n hx hb dL_law_486 rfl (lv_at hl 2 rfl) ?_
        refine lv_aload_n hx hb dL_law_487 rfl (lv_at hl 0 rfl) ?_
        refine lv_iload_n hx hb dL_law_488 rfl (lv_at hl 3 rfl) ?_
        refine lv_iconst (v := (1 : Int32)) hx hb dL_law_489 (by decide) ?_
        refine lv_iadd hx hb dL_law_490 ?_
        obtain ⟨h9, h⟩ := h
        refine va_sld hx hb hX hbl hbA hS h9 dL_law_491 ?_
        refine lv_aload_n hx hb dL_law_492 rfl (lv_at hl 0 rfl) ?_
        refine lv_iload_n hx hb dL_law_493 rfl (lv_at hl 3 rfl) ?_
        refine lv_iconst (v := (2 : Int32)) hx hb dL_law_494 (by decide) ?_
        refine lv_iadd hx hb dL_law_495 ?_
        obtain ⟨h9, h⟩ := h
        refine va_sld hx hb hX hbl hbA hS h9 dL_law_496 ?_
        refine lv_aload_n hx hb dL_law_497 rfl (lv_at hl 0 rfl) ?_
        refine lv_iload_n hx hb dL_law_498 rfl (lv_at hl 3 rfl) ?_
        refine lv_iconst (v := (3 : Int32)) hx hb dL_law_499 (by decide) ?_
        refine lv_iadd hx hb dL_law_500 ?_
        obtain ⟨h9, h⟩ := h
        refine va_sld hx hb hX hbl hbA hS h9 dL_law_501 ?_
        refine jj_i ⟨hx, hb, hml, hown, hts⟩ (c_X7_hear l D cI qy _ _ _ _ _ _ _ _ h) (cwV 3 hts gL_law_X7_hear rfl rfl rfl (by decide +kernel) ⟨Nat.le_of_ble_eq_true rfl, Nat.le_of_ble_eq_true rfl⟩) hK hPy hPx hN hDy hap.symm hS hA (va_recv hK hPy (ci := 7) (q0 := 0) rfl rfl) rfl hl.1 (rest := [.int (r1)]) rfl (Nat.le_of_ble_eq_true rfl) dL_law_502 (Nat.le_of_ble_eq_true rfl) (Nat.le_of_ble_eq_true rfl) (fun r2 v2y f2y z2y h H locs hPy hPx hDy hap hS => ?_)
        have hap := hap.symm
        refine lv_icmp_eq (tgt := 629) hx hb dL_law_505 (by decide) (fun c9 => ?_) (fun c9 => ?_)
        · have h := h.1 c9
          refine lv_iinc (v := x3 + 4) (lv' := [(3, .int (x3 + 4)), (0, .ref b), (1, .ref (qx 0)), (2, .ref (qy 0))]) hx hb dL_law_629 hl (k := 3) rfl rfl (by decide) rfl (fun ls hl => ?_)
          refine lv_goto (tgt := 18) hx hb dL_law_632 (by decide) ?_
          exact ih _ _ _ _ _ _ _ h _ _ hPx hPy hDx hDy hap hS ls (lv_sub hl [1, 2, 3, 0] rfl)
        · exact False.elim (h.2 c9)
      · have h := h.2.2.2.2.2.2.2.2.2.2.2.2.2.2.1 c9
        refine lv_tableIn (off := 478) (tgt := 510) hx hb dL_law_32 (by rw [c9]; decide) (by rw [c9]; decide) (by rw [c9]; decide) (by decide) ?_
        refine lv_aload_n hx hb dL_law_510 rfl (lv_at hl 1 rfl) ?_
        refine jj_i ⟨hx, hb, hml, hown, hts⟩ (c_X6_forget l D cI qx _ _ _ _ _ h) (cwV 0 hts gL_law_X6_forget rfl rfl rfl (by decide +kernel) ⟨Nat.le_of_ble_eq_true rfl, Nat.le_of_ble_eq_true rfl⟩) hK hPx hPy hN hDx hap hS hA (va_recv hK hPx (ci := 6) (q0 := 0) rfl rfl) rfl hl.1 (rest := []) rfl (Nat.le_of_ble_eq_true rfl) dL_law_511 (Nat.le_of_ble_eq_true rfl) (Nat.le_of_ble_eq_true rfl) (fun r1 v1x f1x z1x h H locs hPx hPy hDx hap hS => ?_)
        refine lv_aload_n hx hb dL_law_514 rfl (lv_at hl 2 rfl) ?_
        refine jj_i ⟨hx, hb, hml, hown, hts⟩ (c_X7_forget l D cI qy _ _ _ _ _ h) (cwV 0 hts gL_law_X7_forget rfl rfl rfl (by decide +kernel) ⟨Nat.le_of_ble_eq_true rfl, Nat.le_of_ble_eq_true rfl⟩) hK hPy hPx hN hDy hap.symm hS hA (va_recv hK hPy (ci := 7) (q0 := 0) rfl rfl) rfl hl.1 (rest := [.int (r1)]) rfl (Nat.le_of_ble_eq_true rfl) dL_law_515 (Nat.le_of_ble_eq_true rfl) (Nat.le_of_ble_eq_true rfl) (fun r2 v2y f2y z2y h H locs hPy hPx hDy hap hS => ?_)
        have hap := hap.symm
        refine lv_icmp_eq (tgt := 629) hx hb dL_law_518 (by decide) (fun c9 => ?_) (fun c9 => ?_)
        · have h := h.1 c9
          refine lv_iinc (v := x3 + 4) (lv' := [(3, .int (x3 + 4)), (0, .ref b), (1, .ref (qx 0)), (2, .ref (qy 0))]) hx hb dL_law_629 hl (k := 3) rfl rfl (by decide) rfl (fun ls hl => ?_)
          refine lv_goto (tgt := 18) hx hb dL_law_632 (by decide) ?_
          exact ih _ _ _ _ _ _ _ h _ _ hPx hPy hDx hDy hap hS ls (lv_sub hl [1, 2, 3, 0] rfl)
        · exact False.elim (h.2 c9)
      · have h := h.2.2.2.2.2.2.2.2.2.2.2.2.2.2.2.1 c9
        refine lv_tableIn (off := 491) (tgt := 523) hx hb dL_law_32 (by rw [c9]; decide) (by rw [c9]; decide) (by rw [c9]; decide) (by decide) ?_
        refine lv_aload_n hx hb dL_law_523 rfl (lv_at hl 1 rfl) ?_
        refine lv_aload_n hx hb dL_law_524 rfl (lv_at hl 0 rfl) ?_
        refine lv_iload_n hx hb dL_law_525 rfl (lv_at hl 3 rfl) ?_
        refine lv_iconst (v := (1 : Int32)) hx hb dL_law_526 (by decide) ?_
        refine lv_iadd hx hb dL_law_527 ?_
        obtain ⟨h9, h⟩ := h
        refine va_sld hx hb hX hbl hbA hS h9 dL_law_528 ?_
        refine lv_aload_n hx hb dL_law_529 rfl (lv_at hl 0 rfl) ?_
        refine lv_iload_n hx hb dL_law_530 rfl (lv_at hl 3 rfl) ?_
        refine lv_iconst (v := (2 : Int32)) hx hb dL_law_531 (by decide) ?_
        refine lv_iadd hx hb dL_law_532 ?_
        obtain ⟨h9, h⟩ := h
        refine va_sld hx hb hX hbl hbA hS h9 dL_law_533 ?_
        refine lv_aload_n hx hb dL_law_534 rfl (lv_at hl 0 rfl) ?_
        refine lv_iload_n hx hb dL_law_535 rfl (lv_at hl 3 rfl) ?_
        refine lv_iconst (v := (3 : Int32)) hx hb dL_law_536 (by decide) ?_
        refine lv_iadd hx hb dL_law_537 ?_
        obtain ⟨h9, h⟩ := h
        refine va_sld hx hb hX hbl hbA hS h9 dL_law_538 ?_
        refine jj_i ⟨hx, hb, hml, hown, hts⟩ (c_X6_talks l D cI qx _ _ _ _ _ _ _ _ h) (cwV 3 hts gL_law_X6_talks rfl rfl rfl (by decide +kernel) ⟨Nat.le_of_ble_eq_true rfl, Nat.le_of_ble_eq_true rfl⟩) hK hPx hPy hN hDx hap hS hA (va_recv hK hPx (ci := 6) (q0 := 0) rfl rfl) rfl hl.1 (rest := []) rfl (Nat.le_of_ble_eq_true rfl) dL_law_539 (Nat.le_of_ble_eq_true rfl) (Nat.le_of_ble_eq_true rfl) (fun r1 v1x f1x z1x h H locs hPx hPy hDx hap hS => ?_)
        refine lv_aload_n hx hb dL_law_542 rfl (lv_at hl 2 rfl) ?_
        refine lv_aload_n hx hb dL_law_543 rfl (lv_at hl 0 rfl) ?_
        refine lv_iload_n hx hb dL_law_544 rfl (lv_at hl 3 rfl) ?_
        refine lv_iconst (v := (1 : Int32)) hx hb dL_law_545 (by decide) ?_
        refine lv_iadd hx hb dL_law_546 ?_
        obtain ⟨h9, h⟩ := h
        refine va_sld hx hb hX hbl hbA hS h9 dL_law_547 ?_
        refine lv_aload_n hx hb dL_law_548 rfl (lv_at hl 0 rfl) ?_
        refine lv_iload_n hx hb dL_law_549 rfl (lv_at hl 3 rfl) ?_
        refine lv_iconst (v := (2 : Int32)) hx hb dL_law_550 (by decide) ?_
        refine lv_iadd hx hb dL_law_551 ?_
        obtain ⟨h9, h⟩ := h
        refine va_sld hx hb hX hbl hbA hS h9 dL_law_552 ?_
        refine lv_aload_n hx hb dL_law_553 rfl (lv_at hl 0 rfl) ?_
        refine lv_iload_n hx hb dL_law_554 rfl (lv_at hl 3 rfl) ?_
        refine lv_iconst (v := (3 : Int32)) hx hb dL_law_555 (by decide) ?_
        refine lv_iadd hx hb dL_law_556 ?_
        obtain ⟨h9, h⟩ := h
        refine va_sld hx hb hX hbl hbA hS h9 dL_law_557 ?_
        refine jj_i ⟨hx, hb, hml, hown, hts⟩ (c_X7_talks l D cI qy _ _ _ _ _ _ _ _ h) (cwV 3 hts gL_law_X7_talks rfl rfl rfl (by decide +kernel) ⟨Nat.le_of_ble_eq_true rfl, Nat.le_of_ble_eq_true rfl⟩) hK hPy hPx hN hDy hap.symm hS hA (va_recv hK hPy (ci := 7) (q0 := 0) rfl rfl) rfl hl.1 (rest := [.int (r1)]) rfl (Nat.le_of_ble_eq_true rfl) dL_law_558 (Nat.le_of_ble_eq_true rfl) (Nat.le_of_ble_eq_true rfl) (fun r2 v2y f2y z2y h H locs hPy hPx hDy hap hS => ?_)
        have hap := hap.symm
        refine lv_icmp_eq (tgt := 629) hx hb dL_law_561 (by decide) (fun c9 => ?_) (fun c9 => ?_)
        · have h := h.1 c9
          refine lv_iinc (v := x3 + 4) (lv' := [(3, .int (x3 + 4)), (0, .ref b), (1, .ref (qx 0)), (2, .ref (qy 0))]) hx hb dL_law_629 hl (k := 3) rfl rfl (by decide) rfl (fun ls hl => ?_)
          refine lv_goto (tgt := 18) hx hb dL_law_632 (by decide) ?_
          exact ih _ _ _ _ _ _ _ h _ _ hPx hPy hDx hDy hap hS ls (lv_sub hl [1, 2, 3, 0] rfl)
        · exact False.elim (h.2 c9)
      · have h := h.2.2.2.2.2.2.2.2.2.2.2.2.2.2.2.2.1 c9
        refine lv_tableIn (off := 534) (tgt := 566) hx hb dL_law_32 (by rw [c9]; decide) (by rw [c9]; decide) (by rw [c9]; decide) (by decide) ?_
        refine lv_aload_n hx hb dL_law_566 rfl (lv_at hl 1 rfl) ?_
        refine jj_i ⟨hx, hb, hml, hown, hts⟩ (c_X6_image l D cI qx _ _ _ _ _ h) (cwV 0 hts gL_law_X6_image rfl rfl rfl (by decide +kernel) ⟨Nat.le_of_ble_eq_true rfl, Nat.le_of_ble_eq_true rfl⟩) hK hPx hPy hN hDx hap hS hA (va_recv hK hPx (ci := 6) (q0 := 0) rfl rfl) rfl hl.1 (rest := []) rfl (Nat.le_of_ble_eq_true rfl) dL_law_567 (Nat.le_of_ble_eq_true rfl) (Nat.le_of_ble_eq_true rfl) (fun r1 v1x f1x z1x h H locs hPx hPy hDx hap hS => ?_)
        refine lv_aload_n hx hb dL_law_570 rfl (lv_at hl 2 rfl) ?_
        refine jj_i ⟨hx, hb, hml, hown, hts⟩ (c_X7_image l D cI qy _ _ _ _ _ h) (cwV 0 hts gL_law_X7_image rfl rfl rfl (by decide +kernel) ⟨Nat.le_of_ble_eq_true rfl, Nat.le_of_ble_eq_true rfl⟩) hK hPy hPx hN hDy hap.symm hS hA (va_recv hK hPy (ci := 7) (q0 := 0) rfl rfl) rfl hl.1 (rest := [.int (r1)]) rfl (Nat.le_of_ble_eq_true rfl) dL_law_571 (Nat.le_of_ble_eq_true rfl) (Nat.le_of_ble_eq_true rfl) (fun r2 v2y f2y z2y h H locs hPy hPx hDy hap hS => ?_)
        have hap := hap.symm
        refine lv_icmp_eq (tgt := 629) hx hb dL_law_574 (by decide) (fun c9 => ?_) (fun c9 => ?_)
        · have h := h.1 c9
          refine lv_iinc (v := x3 + 4) (lv' := [(3, .int (x3 + 4)), (0, .ref b), (1, .ref (qx 0)), (2, .ref (qy 0))]) hx hb dL_law_629 hl (k := 3) rfl rfl (by decide) rfl (fun ls hl => ?_)
          refine lv_goto (tgt := 18) hx hb dL_law_632 (by decide) ?_
          exact ih _ _ _ _ _ _ _ h _ _ hPx hPy hDx hDy hap hS ls (lv_sub hl [1, 2, 3, 0] rfl)
        · exact False.elim (h.2 c9)
      · have h := h.2.2.2.2.2.2.2.2.2.2.2.2.2.2.2.2.2.1 c9
        refine lv_tableIn (off := 547) (tgt := 579) hx hb dL_law_32 (by rw [c9]; decide) (by rw [c9]; decide) (by rw [c9]; decide) (by decide) ?_
        refine lv_aload_n hx hb dL_law_579 rfl (lv_at hl 1 rfl) ?_
        refine jj_i ⟨hx, hb, hml, hown, hts⟩ (c_X6_restore l D cI qx _ _ _ _ _ h) (cwV 0 hts gL_law_X6_restore rfl rfl rfl (by decide +kernel) ⟨Nat.le_of_ble_eq_true rfl, Nat.le_of_ble_eq_true rfl⟩) hK hPx hPy hN hDx hap hS hA (va_recv hK hPx (ci := 6) (q0 := 0) rfl rfl) rfl hl.1 (rest := []) rfl (Nat.le_of_ble_eq_true rfl) dL_law_580 (Nat.le_of_ble_eq_true rfl) (Nat.le_of_ble_eq_true rfl) (fun r1 v1x f1x z1x h H locs hPx hPy hDx hap hS => ?_)
        refine lv_aload_n hx hb dL_law_583 rfl (lv_at hl 2 rfl) ?_
        refine jj_i ⟨hx, hb, hml, hown, hts⟩ (c_X7_restore l D cI qy _ _ _ _ _ h) (cwV 0 hts gL_law_X7_restore rfl rfl rfl (by decide +kernel) ⟨Nat.le_of_ble_eq_true rfl, Nat.le_of_ble_eq_true rfl⟩) hK hPy hPx hN hDy hap.symm hS hA (va_recv hK hPy (ci := 7) (q0 := 0) rfl rfl) rfl hl.1 (rest := [.int (r1)]) rfl (Nat.le_of_ble_eq_true rfl) dL_law_584 (Nat.le_of_ble_eq_true rfl) (Nat.le_of_ble_eq_true rfl) (fun r2 v2y f2y z2y h H locs hPy hPx hDy hap hS => ?_)
        have hap := hap.symm
        refine lv_icmp_eq (tgt := 629) hx hb dL_law_587 (by decide) (fun c9 => ?_) (fun c9 => ?_)
        · have h := h.1 c9
          refine lv_iinc (v := x3 + 4) (lv' := [(3, .int (x3 + 4)), (0, .ref b), (1, .ref (qx 0)), (2, .ref (qy 0))]) hx hb dL_law_629 hl (k := 3) rfl rfl (by decide) rfl (fun ls hl => ?_)
          refine lv_goto (tgt := 18) hx hb dL_law_632 (by decide) ?_
          exact ih _ _ _ _ _ _ _ h _ _ hPx hPy hDx hDy hap hS ls (lv_sub hl [1, 2, 3, 0] rfl)
        · exact False.elim (h.2 c9)
      · have h := h.2.2.2.2.2.2.2.2.2.2.2.2.2.2.2.2.2.2.1 c9
        refine lv_tableIn (off := 560) (tgt := 592) hx hb dL_law_32 (by rw [c9]; decide) (by rw [c9]; decide) (by rw [c9]; decide) (by decide) ?_
        refine lv_aload_n hx hb dL_law_592 rfl (lv_at hl 1 rfl) ?_
        refine lv_aload_n hx hb dL_law_593 rfl (lv_at hl 0 rfl) ?_
        refine lv_iload_n hx hb dL_law_594 rfl (lv_at hl 3 rfl) ?_
        refine lv_iconst (v := (1 : Int32)) hx hb dL_law_595 (by decide) ?_
        refine lv_iadd hx hb dL_law_596 ?_
        obtain ⟨h9, h⟩ := h
        refine va_sld hx hb hX hbl hbA hS h9 dL_law_597 ?_
        refine rV_i ⟨hx, hb, hml, hown, hts⟩ (c_X6_count l D cI qx _ _ _ _ _ h) (cwV 1 hts gL_law_X6_count rfl rfl rfl (by decide +kernel) ⟨Nat.le_of_ble_eq_true rfl, Nat.le_of_ble_eq_true rfl⟩) hK hPx hN (va_recv hK hPx (ci := 6) (q0 := 0) rfl rfl) rfl hl.1 (rest := []) rfl (Nat.le_of_ble_eq_true rfl) dL_law_598 (Nat.le_of_ble_eq_true rfl) (Nat.le_of_ble_eq_true rfl) (fun r1 h => ?_)
        refine lv_aload_n hx hb dL_law_601 rfl (lv_at hl 2 rfl) ?_
        refine lv_aload_n hx hb dL_law_602 rfl (lv_at hl 0 rfl) ?_
        refine lv_iload_n hx hb dL_law_603 rfl (lv_at hl 3 rfl) ?_
        refine lv_iconst (v := (1 : Int32)) hx hb dL_law_604 (by decide) ?_
        refine lv_iadd hx hb dL_law_605 ?_
        obtain ⟨h9, h⟩ := h
        refine va_sld hx hb hX hbl hbA hS h9 dL_law_606 ?_
        refine rV_i ⟨hx, hb, hml, hown, hts⟩ (c_X7_count l D cI qy _ _ _ _ _ h) (cwV 1 hts gL_law_X7_count rfl rfl rfl (by decide +kernel) ⟨Nat.le_of_ble_eq_true rfl, Nat.le_of_ble_eq_true rfl⟩) hK hPy hN (va_recv hK hPy (ci := 7) (q0 := 0) rfl rfl) rfl hl.1 (rest := [.int (r1)]) rfl (Nat.le_of_ble_eq_true rfl) dL_law_607 (Nat.le_of_ble_eq_true rfl) (Nat.le_of_ble_eq_true rfl) (fun r2 h => ?_)
        refine lv_icmp_eq (tgt := 629) hx hb dL_law_610 (by decide) (fun c9 => ?_) (fun c9 => ?_)
        · have h := h.1 c9
          refine lv_iinc (v := x3 + 4) (lv' := [(3, .int (x3 + 4)), (0, .ref b), (1, .ref (qx 0)), (2, .ref (qy 0))]) hx hb dL_law_629 hl (k := 3) rfl rfl (by decide) rfl (fun ls hl => ?_)
          refine lv_goto (tgt := 18) hx hb dL_law_632 (by decide) ?_
          exact ih _ _ _ _ _ _ _ h _ _ hPx hPy hDx hDy hap hS ls (lv_sub hl [1, 2, 3, 0] rfl)
        · exact False.elim (h.2 c9)
      · have h := h.2.2.2.2.2.2.2.2.2.2.2.2.2.2.2.2.2.2.2.1 c9
        refine lv_tableIn (off := 583) (tgt := 615) hx hb dL_law_32 (by rw [c9]; decide) (by rw [c9]; decide) (by rw [c9]; decide) (by decide) ?_
        refine lv_aload_n hx hb dL_law_615 rfl (lv_at hl 1 rfl) ?_
        refine jj_l ⟨hx, hb, hml, hown, hts⟩ (c_X6_digest l D cI qx _ _ _ _ _ h) (cwV 0 hts gL_law_X6_digest rfl rfl rfl (by decide +kernel) ⟨Nat.le_of_ble_eq_true rfl, Nat.le_of_ble_eq_true rfl⟩) hK hPx hPy hN hDx hap hS hA (va_recv hK hPx (ci := 6) (q0 := 0) rfl rfl) rfl hl.1 (rest := []) rfl (Nat.le_of_ble_eq_true rfl) dL_law_616 (Nat.le_of_ble_eq_true rfl) (Nat.le_of_ble_eq_true rfl) (fun r1 v1x f1x z1x h H locs hPx hPy hDx hap hS => ?_)
        refine lv_aload_n hx hb dL_law_619 rfl (lv_at hl 2 rfl) ?_
        refine jj_l ⟨hx, hb, hml, hown, hts⟩ (c_X7_digest l D cI qy _ _ _ _ _ h) (cwV 0 hts gL_law_X7_digest rfl rfl rfl (by decide +kernel) ⟨Nat.le_of_ble_eq_true rfl, Nat.le_of_ble_eq_true rfl⟩) hK hPy hPx hN hDy hap.symm hS hA (va_recv hK hPy (ci := 7) (q0 := 0) rfl rfl) rfl hl.1 (rest := [.long r1]) rfl (Nat.le_of_ble_eq_true rfl) dL_law_620 (Nat.le_of_ble_eq_true rfl) (Nat.le_of_ble_eq_true rfl) (fun r2 v2y f2y z2y h H locs hPy hPx hDy hap hS => ?_)
        have hap := hap.symm
        refine W.lcmp hx hb dL_law_623 ?_
        refine lv_if_eq (tgt := 629) hx hb dL_law_624 (by decide) (fun c9 => ?_) (fun c9 => ?_)
        · have h := h.1 c9
          refine lv_iinc (v := x3 + 4) (lv' := [(3, .int (x3 + 4)), (0, .ref b), (1, .ref (qx 0)), (2, .ref (qy 0))]) hx hb dL_law_629 hl (k := 3) rfl rfl (by decide) rfl (fun ls hl => ?_)
          refine lv_goto (tgt := 18) hx hb dL_law_632 (by decide) ?_
          exact ih _ _ _ _ _ _ _ h _ _ hPx hPy hDx hDy hap hS ls (lv_sub hl [1, 2, 3, 0] rfl)
        · exact False.elim (h.2 c9)
      · have h := h.2.2.2.2.2.2.2.2.2.2.2.2.2.2.2.2.2.2.2.2 c9
        refine lv_tableOut (tgt := 629) hx hb dL_law_32 c9 (by decide) ?_
        refine lv_iinc (v := x3 + 4) (lv' := [(3, .int (x3 + 4)), (0, .ref b), (1, .ref (qx 0)), (2, .ref (qy 0))]) hx hb dL_law_629 hl (k := 3) rfl rfl (by decide) rfl (fun ls hl => ?_)
        refine lv_goto (tgt := 18) hx hb dL_law_632 (by decide) ?_
        exact ih _ _ _ _ _ _ _ h _ _ hPx hPy hDx hDy hap hS ls (lv_sub hl [1, 2, 3, 0] rfl)
