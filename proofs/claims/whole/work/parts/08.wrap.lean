/-- the links between nest mates -/
def NW (U : State) : Prop :=
  (va_Nw (.methodLinkNest "EndedByOthers" 9 yX1_init "EndedByOthers") U ∧ va_Nw (.methodLinkNest "EndedByOthers" 18 yX2_init "EndedByOthers") U ∧ va_Nw (.methodLinkNest "EndedByOthers$Reader" 11 yX3_init "EndedByOthers") U ∧ va_Nw (.methodLinkNest "EndedByOthers" 25 yX3_init "EndedByOthers") U ∧ va_Nw (.methodLinkNest "EndedByOthers" 32 yX4_init "EndedByOthers") U) ∧
  (va_Nw (.methodLinkNest "EndedByOthers" 42 yX0_init "EndedByOthers") U ∧ va_Nw (.methodLinkNest "EndedByOthers" 49 yX5_init "EndedByOthers") U) ∧
  va_Nw (.methodLinkNest "EndedByOthers$Reader" 56 yX6_isEnding "EndedByOthers") U ∧ va_Nw (.methodLinkNest "EndedByOthers$Matching" 30 yX6_has "EndedByOthers") U ∧ va_Nw (.methodLinkNest "EndedByOthers$Trial" 53 yX6_endingBy "EndedByOthers") U
theorem NW.same {u U : State} (h : u.vm = U.vm) (hN : NW u) : NW U := by
  obtain ⟨⟨a1, a2, a3, a4, a5⟩, ⟨b1, b2⟩, c1, c2, c3⟩ := hN
  exact ⟨⟨a1.same rfl h, a2.same rfl h, a3.same rfl h, a4.same rfl h, a5.same rfl h⟩, ⟨b1.same rfl h, b2.same rfl h⟩, c1.same rfl h, c2.same rfl h, c3.same rfl h⟩
theorem NW.warm {s U : State} (hW : s.WarmedH U.vm) (hN : NW s) : NW U := by
  obtain ⟨⟨a1, a2, a3, a4, a5⟩, ⟨b1, b2⟩, c1, c2, c3⟩ := hN
  exact ⟨⟨a1.warmM hW, a2.warmM hW, a3.warmM hW, a4.warmM hW, a5.warmM hW⟩, ⟨b1.warmM hW, b2.warmM hW⟩, c1.warmM hW, c2.warmM hW, c3.warmM hW⟩
/-- a world that is read -/
def rP (D : va_G) (cI : ClassId) (w : va_W) (U : State) : Prop := va_P D vwCl w U.heap ∧ va_K D vwCl [(cI, .int)] U ∧ NW U
/-- a world that is written -/
def mP (D : va_G) (cI : ClassId) (w : va_W) (sz : Nat) (U : State) : Prop := U.heap.size = sz ∧ rP D cI w U ∧ va_D (fun _ => True) w
def sQ (post : Int32 → Prop) : Array Value → State → Outcome → State → Prop := fun _ st oc t => (∃ r : Int32, oc = .returned (some (.int r)) ∧ post r) ∧ t.heap = st.heap
def sQl (post : Int64 → Prop) : Array Value → State → Outcome → State → Prop := fun _ st oc t => (∃ r : Int64, oc = .returned (some (.long r)) ∧ post r) ∧ t.heap = st.heap
abbrev wST : Type := (Nat → Int32) × (Nat → Nat → Int32) × Int64
def mB (D : va_G) (cI : ClassId) (wf : (Nat → Int32) → (Nat → Nat → Int32) → Int64 → va_W) (A : Nat → Prop) : wST → State → Prop := fun u t => va_P D vwCl (wf u.1 u.2.1 u.2.2) t.heap ∧ va_K D vwCl [(cI, .int)] t ∧ va_D A (wf u.1 u.2.1 u.2.2)
def mQi (post : Int32 → (Nat → Int32) → (Nat → Nat → Int32) → Int64 → Prop) (D : va_G) (cI : ClassId) (wf : (Nat → Int32) → (Nat → Nat → Int32) → Int64 → va_W) (A : Nat → Prop) := va_Qi (fun r (u : wST) => post r u.1 u.2.1 u.2.2) (mB D cI wf A) A
def mQl (post : Int64 → (Nat → Int32) → (Nat → Nat → Int32) → Int64 → Prop) (D : va_G) (cI : ClassId) (wf : (Nat → Int32) → (Nat → Nat → Int32) → Int64 → va_W) (A : Nat → Prop) := va_Ql (fun r (u : wST) => post r u.1 u.2.1 u.2.2) (mB D cI wf A) A
def mQv (post : (Nat → Int32) → (Nat → Nat → Int32) → Int64 → Prop) (D : va_G) (cI : ClassId) (wf : (Nat → Int32) → (Nat → Nat → Int32) → Int64 → va_W) (A : Nat → Prop) := va_Qv (fun (u : wST) => post u.1 u.2.1 u.2.2) (mB D cI wf A) A
theorem rP.blind {D : va_G} {cI : ClassId} {w : va_W} {av : List Value} : FrameBlind (va_Pc av (rP D cI w)) := fun a U g mk h => ⟨h.1, h.2.1, va_K.moved (u := U) (U := U.calling g mk a) (Vm.Alike.refl U.vm) h.2.2.1, NW.same (u := U) (U := U.calling g mk a) rfl h.2.2.2⟩
theorem mP.blind {D : va_G} {cI : ClassId} {w : va_W} {sz : Nat} {av : List Value} : FrameBlind (va_Pc av (mP D cI w sz)) := fun a U g mk h => ⟨h.1, h.2.1, ⟨h.2.2.1.1, va_K.moved (u := U) (U := U.calling g mk a) (Vm.Alike.refl U.vm) h.2.2.1.2.1, NW.same (u := U) (U := U.calling g mk a) rfl h.2.2.1.2.2⟩, h.2.2.2⟩
theorem wPnil {D : va_G} {H : Heap} : va_P D vwCl [] H := fun k q h => by simp at h
theorem freeW {A0 : Nat → Prop} {ws : va_W} {H0 H : Heap} {locs : List Loc} (hD : va_D A0 ws) (hS : va_S A0 H0 H locs) (hA : ∀ q, H0.size ≤ q → A0 q) : ∀ q, va_A ws H.size q → A0 q := by
  intro q h
  rcases h with ⟨k, e, h⟩ | h
  · exact hD.2 k (q, e) h
  · exact hA q (Nat.le_trans hS.1 h)
section
variable {p : Program} {l : Launch} {e : Env} {R : Room} {s : State} {m : MethodId} {args : Array Value} {below : List Frame} {meth : Method} {c : Code} {H : Heap} {locs : List Loc} {cells slots : Nat} {Q : State → Prop} {cc : ByteArray} {pc : Nat} {ls : Array Slot} {rest st0 As : List Value} {D : va_G} {A : Nat → Prop} {cI : ClassId} {H0 : Heap} {Ts wsC : List Cond} {own C : String} {index nL maxL n : Nat} {y : MethodName} {rm : Room} {b : Addr} {w : va_W} {bytes : ByteArray} {ret : Option FieldType}
theorem rV_i {post : Int32 → Prop} (S : CallFix p m c cc nL s args Ts own) (hM : Met l y wsC rm (va_Pc (.ref b :: As) (rP D cI w)) (sQ post) 0 0 (fun _ => False)) (cw : CallW R s args own C index y bytes maxL ret wsC rm 0 0 n) (hK : va_K D vwCl [(cI, .int)] s) (hP : va_P D vwCl w H) (hN : NW s) (hrec : ∃ cell : Cell, H[b]? = some cell ∧ cell.vm.isStatics = false ∧ s.vm.findClass C = some cell.cls) (hn : As.length = n) (hsz : ls.size = nL) (hst : st0 = As.reverse ++ .ref b :: rest) (hW : (rest.map fun v => v.category).sum ≤ 8) (hdg : decode cc pc = .ok (.invokevirtual index, 3)) (hc : cells ≤ R.cells) (hs : slots ≤ R.slots)
    (kk : ∀ r : Int32, post r → W p l e R s m args below meth c H locs cells slots Q (F0 m (pc + 3) ls (.int r :: rest))) : W p l e R s m args below meth c H locs cells slots Q (F0 m pc ls st0) := by
  intro T hT X
  obtain ⟨v, st₀, t, T', L, h0, X', hL, e1, -, ⟨⟨r, hv, hp⟩, hh⟩, st⟩ := va_runV (g := F0 m pc ls st0) S hM cw ⟨rP.blind, hrec, fun U hU hW => ⟨rfl, by rw [hU]; exact hP, va_K.moved hW.alike hK, NW.warm hW hN⟩⟩ rfl hn hsz hst (lv_room hW) hdg ⟨hc, hs⟩ T hT X
  cases hv
  obtain ⟨t2, a1, b1⟩ := kk r hp T' (by rw [e1, hh, h0]) (Stand.forget X' (fun q h => (hL q h).elim))
  exact ⟨t2, st t2 a1, b1⟩
theorem rS_i {post : Int32 → Prop} (S : CallFix p m c cc nL s args Ts own) (hM : Met l y wsC rm (va_Pc As (rP D cI w)) (sQ post) 0 0 (fun _ => False)) (cw : CallB R s args own index y bytes maxL ret wsC rm 0 0 n ∧ (Cond.static y).before args s = true) (hK : va_K D vwCl [(cI, .int)] s) (hP : va_P D vwCl w H) (hN : NW s) (hn : As.length = n) (hsz : ls.size = nL) (hst : st0 = As.reverse ++ rest) (hW : (rest.map fun v => v.category).sum ≤ 8) (hdg : decode cc pc = .ok (.invokestatic index, 3)) (hc : cells ≤ R.cells) (hs : slots ≤ R.slots)
    (kk : ∀ r : Int32, post r → W p l e R s m args below meth c H locs cells slots Q (F0 m (pc + 3) ls (.int r :: rest))) : W p l e R s m args below meth c H locs cells slots Q (F0 m pc ls st0) := by
  intro T hT X
  obtain ⟨v, st₀, t, T', L, h0, X', hL, e1, -, ⟨⟨r, hv, hp⟩, hh⟩, st⟩ := va_runS (g := F0 m pc ls st0) S hM cw ⟨rP.blind, fun U hU hW => ⟨rfl, by rw [hU]; exact hP, va_K.moved hW.alike hK, NW.warm hW hN⟩⟩ rfl hn hsz hst (lv_room hW) hdg ⟨hc, hs⟩ T hT X
  cases hv
  obtain ⟨t2, a1, b1⟩ := kk r hp T' (by rw [e1, hh, h0]) (Stand.forget X' (fun q h => (hL q h).elim))
  exact ⟨t2, st t2 a1, b1⟩
theorem rS_l {post : Int64 → Prop} (S : CallFix p m c cc nL s args Ts own) (hM : Met l y wsC rm (va_Pc As (rP D cI w)) (sQl post) 0 0 (fun _ => False)) (cw : CallB R s args own index y bytes maxL ret wsC rm 0 0 n ∧ (Cond.static y).before args s = true) (hK : va_K D vwCl [(cI, .int)] s) (hP : va_P D vwCl w H) (hN : NW s) (hn : As.length = n) (hsz : ls.size = nL) (hst : st0 = As.reverse ++ rest) (hW : (rest.map fun v => v.category).sum ≤ 8) (hdg : decode cc pc = .ok (.invokestatic index, 3)) (hc : cells ≤ R.cells) (hs : slots ≤ R.slots)
    (kk : ∀ r : Int64, post r → W p l e R s m args below meth c H locs cells slots Q (F0 m (pc + 3) ls (.long r :: rest))) : W p l e R s m args below meth c H locs cells slots Q (F0 m pc ls st0) := by
  intro T hT X
  obtain ⟨v, st₀, t, T', L, h0, X', hL, e1, -, ⟨⟨r, hv, hp⟩, hh⟩, st⟩ := va_runS (g := F0 m pc ls st0) S hM cw ⟨rP.blind, fun U hU hW => ⟨rfl, by rw [hU]; exact hP, va_K.moved hW.alike hK, NW.warm hW hN⟩⟩ rfl hn hsz hst (lv_room hW) hdg ⟨hc, hs⟩ T hT X
  cases hv
  obtain ⟨t2, a1, b1⟩ := kk r hp T' (by rw [e1, hh, h0]) (Stand.forget X' (fun q h => (hL q h).elim))
  exact ⟨t2, st t2 a1, b1⟩
theorem rN_i {post : Int32 → Prop} {host : String} (S : CallFix p m c cc nL s args Ts own) (hM : Met l y wsC rm (va_Pc As (rP D cI w)) (sQ post) 0 0 (fun _ => False)) (cw : va_CN R s args own index y host bytes maxL ret wsC rm 0 0 n ∧ (Cond.static y).before args s = true ∧ True) (hK : va_K D vwCl [(cI, .int)] s) (hP : va_P D vwCl w H) (hN : NW s) (hn : As.length = n) (hsz : ls.size = nL) (hst : st0 = As.reverse ++ rest) (hW : (rest.map fun v => v.category).sum ≤ 8) (hdg : decode cc pc = .ok (.invokestatic index, 3)) (hc : cells ≤ R.cells) (hs : slots ≤ R.slots)
    (kk : ∀ r : Int32, post r → W p l e R s m args below meth c H locs cells slots Q (F0 m (pc + 3) ls (.int r :: rest))) : W p l e R s m args below meth c H locs cells slots Q (F0 m pc ls st0) := by
  intro T hT X
  obtain ⟨v, st₀, t, T', L, h0, X', hL, e1, -, ⟨⟨r, hv, hp⟩, hh⟩, st⟩ := va_runSN (g := F0 m pc ls st0) S hM cw ⟨rP.blind, fun U hU hW => ⟨rfl, by rw [hU]; exact hP, va_K.moved hW.alike hK, NW.warm hW hN⟩⟩ rfl hn hsz hst (lv_room hW) hdg ⟨hc, hs⟩ T hT X
  cases hv
  obtain ⟨t2, a1, b1⟩ := kk r hp T' (by rw [e1, hh, h0]) (Stand.forget X' (fun q h => (hL q h).elim))
  exact ⟨t2, st t2 a1, b1⟩
theorem mV_i {wf : (Nat → Int32) → (Nat → Nat → Int32) → Int64 → va_W} {post : Int32 → (Nat → Int32) → (Nat → Nat → Int32) → Int64 → Prop} (S : CallFix p m c cc nL s args Ts own) (hM : Met l y wsC rm (va_Pc (.ref b :: As) (mP D cI w H.size)) (mQi post D cI wf (va_A w H.size)) 0 0 (va_A w H.size)) (cw : CallW R s args own C index y bytes maxL ret wsC rm 0 0 n) (hK : va_K D vwCl [(cI, .int)] s) (hP : va_P D vwCl w H) (hN : NW s) (hD : va_D A w) (hS : va_S A H0 H locs) (hA : ∀ q, H0.size ≤ q → A q) (hrec : ∃ cell : Cell, H[b]? = some cell ∧ cell.vm.isStatics = false ∧ s.vm.findClass C = some cell.cls) (hn : As.length = n) (hsz : ls.size = nL) (hst : st0 = As.reverse ++ .ref b :: rest) (hW : (rest.map fun v => v.category).sum ≤ 8) (hdg : decode cc pc = .ok (.invokevirtual index, 3)) (hc : cells ≤ R.cells) (hs : slots ≤ R.slots)
    (kk : ∀ (r : Int32) (v1 : Nat → Int32) (f1 : Nat → Nat → Int32) (z1 : Int64), post r v1 f1 z1 → ∀ (H1 : Heap) (locs1 : List Loc), va_P D vwCl (wf v1 f1 z1) H1 → va_D A (wf v1 f1 z1) → va_S A H0 H1 locs1 → W p l e R s m args below meth c H1 locs1 cells slots Q (F0 m (pc + 3) ls (.int r :: rest))) : W p l e R s m args below meth c H locs cells slots Q (F0 m pc ls st0) := by
  have hF := freeW hD hS hA
  refine va_calli (va_runV (g := F0 m pc ls st0) S hM cw ⟨mP.blind, hrec, fun U hU hW => ⟨rfl, by rw [hU], ⟨by rw [hU]; exact hP, va_K.moved hW.alike hK, NW.warm hW hN⟩, hD.weaken (fun _ _ _ _ => trivial)⟩⟩ rfl hn hsz hst (lv_room hW) hdg ⟨hc, hs⟩) hS (fun q _ h => hF q h) hF (fun r u t H1 locs1 ht hvm hp hB hz hk hS1 => ?_)
  obtain ⟨hP1, hK1, hD1⟩ := hB
  rw [ht] at hP1
  exact kk r u.1 u.2.1 u.2.2 hp H1 locs1 hP1 (hD1.weaken (fun k q _ h => hF q.1 h)) hS1
theorem mV_l {wf : (Nat → Int32) → (Nat → Nat → Int32) → Int64 → va_W} {post : Int64 → (Nat → Int32) → (Nat → Nat → Int32) → Int64 → Prop} (S : CallFix p m c cc nL s args Ts own) (hM : Met l y wsC rm (va_Pc (.ref b :: As) (mP D cI w H.size)) (mQl post D cI wf (va_A w H.size)) 0 0 (va_A w H.size)) (cw : CallW R s args own C index y bytes maxL ret wsC rm 0 0 n) (hK : va_K D vwCl [(cI, .int)] s) (hP : va_P D vwCl w H) (hN : NW s) (hD : va_D A w) (hS : va_S A H0 H locs) (hA : ∀ q, H0.size ≤ q → A q) (hrec : ∃ cell : Cell, H[b]? = some cell ∧ cell.vm.isStatics = false ∧ s.vm.findClass C = some cell.cls) (hn : As.length = n) (hsz : ls.size = nL) (hst : st0 = As.reverse ++ .ref b :: rest) (hW : (rest.map fun v => v.category).sum ≤ 8) (hdg : decode cc pc = .ok (.invokevirtual index, 3)) (hc : cells ≤ R.cells) (hs : slots ≤ R.slots)
    (kk : ∀ (r : Int64) (v1 : Nat → Int32) (f1 : Nat → Nat → Int32) (z1 : Int64), post r v1 f1 z1 → ∀ (H1 : Heap) (locs1 : List Loc), va_P D vwCl (wf v1 f1 z1) H1 → va_D A (wf v1 f1 z1) → va_S A H0 H1 locs1 → W p l e R s m args below meth c H1 locs1 cells slots Q (F0 m (pc + 3) ls (.long r :: rest))) : W p l e R s m args below meth c H locs cells slots Q (F0 m pc ls st0) := by
  have hF := freeW hD hS hA
  refine va_calll (va_runV (g := F0 m pc ls st0) S hM cw ⟨mP.blind, hrec, fun U hU hW => ⟨rfl, by rw [hU], ⟨by rw [hU]; exact hP, va_K.moved hW.alike hK, NW.warm hW hN⟩, hD.weaken (fun _ _ _ _ => trivial)⟩⟩ rfl hn hsz hst (lv_room hW) hdg ⟨hc, hs⟩) hS (fun q _ h => hF q h) hF (fun r u t H1 locs1 ht hvm hp hB hz hk hS1 => ?_)
  obtain ⟨hP1, hK1, hD1⟩ := hB
  rw [ht] at hP1
  exact kk r u.1 u.2.1 u.2.2 hp H1 locs1 hP1 (hD1.weaken (fun k q _ h => hF q.1 h)) hS1
theorem mV_v {wf : (Nat → Int32) → (Nat → Nat → Int32) → Int64 → va_W} {post : (Nat → Int32) → (Nat → Nat → Int32) → Int64 → Prop} (S : CallFix p m c cc nL s args Ts own) (hM : Met l y wsC rm (va_Pc (.ref b :: As) (mP D cI w H.size)) (mQv post D cI wf (va_A w H.size)) 0 0 (va_A w H.size)) (cw : CallW R s args own C index y bytes maxL ret wsC rm 0 0 n) (hK : va_K D vwCl [(cI, .int)] s) (hP : va_P D vwCl w H) (hN : NW s) (hD : va_D A w) (hS : va_S A H0 H locs) (hA : ∀ q, H0.size ≤ q → A q) (hrec : ∃ cell : Cell, H[b]? = some cell ∧ cell.vm.isStatics = false ∧ s.vm.findClass C = some cell.cls) (hn : As.length = n) (hsz : ls.size = nL) (hst : st0 = As.reverse ++ .ref b :: rest) (hW : (rest.map fun v => v.category).sum ≤ 8) (hdg : decode cc pc = .ok (.invokevirtual index, 3)) (hc : cells ≤ R.cells) (hs : slots ≤ R.slots)
    (kk : ∀ (v1 : Nat → Int32) (f1 : Nat → Nat → Int32) (z1 : Int64), post v1 f1 z1 → ∀ (H1 : Heap) (locs1 : List Loc), va_P D vwCl (wf v1 f1 z1) H1 → va_D A (wf v1 f1 z1) → va_S A H0 H1 locs1 → W p l e R s m args below meth c H1 locs1 cells slots Q (F0 m (pc + 3) ls rest)) : W p l e R s m args below meth c H locs cells slots Q (F0 m pc ls st0) := by
  have hF := freeW hD hS hA
  refine va_callv (va_runV (g := F0 m pc ls st0) S hM cw ⟨mP.blind, hrec, fun U hU hW => ⟨rfl, by rw [hU], ⟨by rw [hU]; exact hP, va_K.moved hW.alike hK, NW.warm hW hN⟩, hD.weaken (fun _ _ _ _ => trivial)⟩⟩ rfl hn hsz hst (lv_room hW) hdg ⟨hc, hs⟩) hS (fun q _ h => hF q h) hF (fun u t H1 locs1 ht hvm hp hB hz hk hS1 => ?_)
  obtain ⟨hP1, hK1, hD1⟩ := hB
  rw [ht] at hP1
  exact kk u.1 u.2.1 u.2.2 hp H1 locs1 hP1 (hD1.weaken (fun k q _ h => hF q.1 h)) hS1
/-! the ends -/
theorem ri_ret {post : Int32 → Prop} {x : Int32} (hx : p.tables.exec = Jvm.exec) (hb : c.code = cc) (hr : meth.sig.returnType = some .int) (hlk : meth.locks = false) (h : post x) (hdg : decode cc pc = .ok (.ireturn, 1)) : W p l e R s m args below meth c s.heap [] 0 0 (MQ below (sQ post) args s 0 0 (fun _ => False)) (F0 m pc ls [.int x]) :=
  W.iret (v := x) hx hb hr (fun t ht _ => ⟨⟨x, rfl, h⟩, ht⟩) (fun _ h => by cases h) hdg hlk
theorem rz_ret {post : Int32 → Prop} {x : Int32} {ty : FieldType} (hx : p.tables.exec = Jvm.exec) (hb : c.code = cc) (hr : meth.sig.returnType = some ty) (hlk : meth.locks = false) (hn : narrow ty (.int x) = .int x) (h : post x) (hdg : decode cc pc = .ok (.ireturn, 1)) : W p l e R s m args below meth c s.heap [] 0 0 (MQ below (sQ post) args s 0 0 (fun _ => False)) (F0 m pc ls [.int x]) :=
  W.zret (v := x) hx hb hr hn (fun t ht _ => ⟨⟨x, rfl, h⟩, ht⟩) (fun _ h => by cases h) hdg hlk
theorem rl_ret {post : Int64 → Prop} {x : Int64} (hx : p.tables.exec = Jvm.exec) (hb : c.code = cc) (hr : meth.sig.returnType = some .long) (hlk : meth.locks = false) (h : post x) (hdg : decode cc pc = .ok (.lreturn, 1)) : W p l e R s m args below meth c s.heap [] 0 0 (MQ below (sQl post) args s 0 0 (fun _ => False)) (F0 m pc ls [.long x]) :=
  W.lret (v := x) hx hb hr (fun t ht _ => ⟨⟨x, rfl, h⟩, ht⟩) (fun _ h => by cases h) hdg hlk
theorem mi_ret {wf : (Nat → Int32) → (Nat → Nat → Int32) → Int64 → va_W} {post : Int32 → (Nat → Int32) → (Nat → Nat → Int32) → Int64 → Prop} {x : Int32} (u : wST) (hx : p.tables.exec = Jvm.exec) (hb : c.code = cc) (hr : meth.sig.returnType = some .int) (hlk : meth.locks = false) (h : post x u.1 u.2.1 u.2.2) (hK : va_K D vwCl [(cI, .int)] s) (hP : va_P D vwCl (wf u.1 u.2.1 u.2.2) H) (hD : va_D A (wf u.1 u.2.1 u.2.2)) (hS : va_S A s.heap H locs) (hdg : decode cc pc = .ok (.ireturn, 1)) : W p l e R s m args below meth c H locs 0 0 (MQ below (mQi post D cI wf A) args s 0 0 A) (F0 m pc ls [.int x]) :=
  W.iret (v := x) hx hb hr (fun t ht hW => ⟨⟨x, u, rfl, h, by rw [ht]; exact hP, va_K.moved hW.alike hK, hD⟩, hS.F ht⟩) hS.2.2 hdg hlk
theorem mz_ret {wf : (Nat → Int32) → (Nat → Nat → Int32) → Int64 → va_W} {post : Int32 → (Nat → Int32) → (Nat → Nat → Int32) → Int64 → Prop} {x : Int32} {ty : FieldType} (u : wST) (hx : p.tables.exec = Jvm.exec) (hb : c.code = cc) (hr : meth.sig.returnType = some ty) (hlk : meth.locks = false) (hn : narrow ty (.int x) = .int x) (h : post x u.1 u.2.1 u.2.2) (hK : va_K D vwCl [(cI, .int)] s) (hP : va_P D vwCl (wf u.1 u.2.1 u.2.2) H) (hD : va_D A (wf u.1 u.2.1 u.2.2)) (hS : va_S A s.heap H locs) (hdg : decode cc pc = .ok (.ireturn, 1)) : W p l e R s m args below meth c H locs 0 0 (MQ below (mQi post D cI wf A) args s 0 0 A) (F0 m pc ls [.int x]) :=
  W.zret (v := x) hx hb hr hn (fun t ht hW => ⟨⟨x, u, rfl, h, by rw [ht]; exact hP, va_K.moved hW.alike hK, hD⟩, hS.F ht⟩) hS.2.2 hdg hlk
theorem ml_ret {wf : (Nat → Int32) → (Nat → Nat → Int32) → Int64 → va_W} {post : Int64 → (Nat → Int32) → (Nat → Nat → Int32) → Int64 → Prop} {x : Int64} (u : wST) (hx : p.tables.exec = Jvm.exec) (hb : c.code = cc) (hr : meth.sig.returnType = some .long) (hlk : meth.locks = false) (h : post x u.1 u.2.1 u.2.2) (hK : va_K D vwCl [(cI, .int)] s) (hP : va_P D vwCl (wf u.1 u.2.1 u.2.2) H) (hD : va_D A (wf u.1 u.2.1 u.2.2)) (hS : va_S A s.heap H locs) (hdg : decode cc pc = .ok (.lreturn, 1)) : W p l e R s m args below meth c H locs 0 0 (MQ below (mQl post D cI wf A) args s 0 0 A) (F0 m pc ls [.long x]) :=
  W.lret (v := x) hx hb hr (fun t ht hW => ⟨⟨x, u, rfl, h, by rw [ht]; exact hP, va_K.moved hW.alike hK, hD⟩, hS.F ht⟩) hS.2.2 hdg hlk
theorem mv_ret {wf : (Nat → Int32) → (Nat → Nat → Int32) → Int64 → va_W} {post : (Nat → Int32) → (Nat → Nat → Int32) → Int64 → Prop} (u : wST) (hx : p.tables.exec = Jvm.exec) (hb : c.code = cc) (hr : meth.sig.returnType = none) (hlk : meth.locks = false) (h : post u.1 u.2.1 u.2.2) (hK : va_K D vwCl [(cI, .int)] s) (hP : va_P D vwCl (wf u.1 u.2.1 u.2.2) H) (hD : va_D A (wf u.1 u.2.1 u.2.2)) (hS : va_S A s.heap H locs) (hdg : decode cc pc = .ok (.return_, 1)) : W p l e R s m args below meth c H locs 0 0 (MQ below (mQv post D cI wf A) args s 0 0 A) (F0 m pc ls []) :=
  W.vret hx hb hr (fun t ht hW => ⟨⟨u, rfl, h, by rw [ht]; exact hP, va_K.moved hW.alike hK, hD⟩, hS.F ht⟩) hS.2.2 hdg hlk
end
