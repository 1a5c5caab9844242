/-- the text of the kinds, and what String is read by: at k, its bytes at t -/
def kTx : List Int32 := [115, 104, 116, 99, 112]
def EV (k t : Nat) (A : Nat → Prop) (U : State) (H : Heap) : Prop := va_O "java/lang/String" k A U H ∧ va_OF "java/lang/String" "coder" "B" (.int 0) k A U H ∧ va_OF "java/lang/String" "value" "[B" (.ref t) k A U H ∧ va_T .byte t 5 (fun j => .int (kTx.getD j 0)) A U H ∧ va_Z "java/lang/String" "COMPACT_STRINGS" "Z" (.int 1) A U H ∧ vk_R "EndedByOthers$Reader" 62 "shtcp" k U
theorem EV.kept {k t : Nat} {A : Nat → Prop} {U : State} {H H1 : Heap} (h : EV k t A U H) (hq : ∀ a : Nat, a < H.size → ¬ A a → H1[a]? = H[a]?) : EV k t A U H1 := ⟨h.1.kept hq, h.2.1.kept hq, h.2.2.1.kept hq, h.2.2.2.1.kept hq, h.2.2.2.2.1.kept hq, h.2.2.2.2.2⟩
theorem EV.narrow {k t : Nat} {A B : Nat → Prop} {U : State} {H : Heap} (h : EV k t A U H) (hAB : ∀ q, B q → A q) : EV k t B U H := ⟨h.1.narrow hAB, h.2.1.narrow hAB, h.2.2.1.narrow hAB, h.2.2.2.1.narrow hAB, h.2.2.2.2.1.narrow hAB, h.2.2.2.2.2⟩
theorem EV.warm {k t : Nat} {A : Nat → Prop} {s U : State} {H : Heap} (h : EV k t A s H) (hW : s.WarmedH U.vm) : EV k t A U H := ⟨va_O.moved hW.alike h.1, va_OF.moved hW.alike h.2.1, va_OF.moved hW.alike h.2.2.1, va_T.moved hW.alike h.2.2.2.1, va_Z.moved hW.alike h.2.2.2.2.1, vk_R.warm hW h.2.2.2.2.2⟩
theorem EV.same {k t : Nat} {A : Nat → Prop} {u U : State} {H : Heap} (h : EV k t A u H) (hv : U.vm = u.vm) : EV k t A U H := by
  have hA : u.vm.Alike U.vm := by rw [hv]; exact Vm.Alike.refl _
  exact ⟨va_O.moved hA h.1, va_OF.moved hA h.2.1, va_OF.moved hA h.2.2.1, va_T.moved hA h.2.2.2.1, va_Z.moved hA h.2.2.2.2.1, vk_R.same hv h.2.2.2.2.2⟩
def JE (k t : Nat) (U : State) : Prop := EV k t (fun _ => False) U U.heap
theorem JE.blind {k t : Nat} {av : List Value} : FrameBlind (va_Pc av (JE k t)) := fun a U g mk h => ⟨h.1, EV.same (u := U) (U := U.calling g mk a) h.2 rfl⟩
theorem JE.of {k t : Nat} {A : Nat → Prop} {s U : State} {H : Heap} {locs : List Loc} (hE : EV k t A s s.heap) (hS : va_S A s.heap H locs) (hU : U.heap = H) (hW : s.WarmedH U.vm) : JE k t U := by
  unfold JE
  rw [hU]
  exact ((hE.kept hS.2.1).narrow (fun _ h => h.elim)).warm hW
def mPe (k t : Nat) (D : va_G) (cI : ClassId) (w : va_W) (sz : Nat) (U : State) : Prop := mP D cI w sz U ∧ EV k t (va_A w sz) U U.heap
theorem mPe.blind {k t : Nat} {D : va_G} {cI : ClassId} {w : va_W} {sz : Nat} {av : List Value} : FrameBlind (va_Pc av (mPe k t D cI w sz)) := fun a U g mk h => ⟨h.1, ((mP.blind (av := av)) a U g mk ⟨h.1, h.2.1⟩).2, EV.same (u := U) (U := U.calling g mk a) h.2.2 rfl⟩
section
variable {p : Program} {l : Launch} {e : Env} {R : Room} {s : State} {m : MethodId} {args : Array Value} {below : List Frame} {meth : Method} {c : Code} {H : Heap} {locs : List Loc} {cells slots : Nat} {Q : State → Prop} {cc : ByteArray} {pc : Nat} {ls : Array Slot} {rest st0 As : List Value} {D : va_G} {A : Nat → Prop} {cI : ClassId} {Ts wsC : List Cond} {own C : String} {index nL maxL n : Nat} {y : MethodName} {rm : Room} {b : Addr} {w : va_W} {bytes : ByteArray} {ret : Option FieldType} {k t : Nat}
theorem EV.recv (hE : EV k t A s s.heap) (hS : va_S A s.heap H locs) : ∃ cell : Cell, H[k]? = some cell ∧ cell.vm.isStatics = false ∧ s.vm.findClass RJ0 = some cell.cls := by
  obtain ⟨cell, h1, h2, h3, -⟩ := hE.1.kept hS.2.1
  exact ⟨cell, h1, h2, h3⟩
theorem jV_i {post : Int32 → Prop} (S : CallFix p m c cc nL s args Ts own) (hM : Met l y wsC rm (va_Pc (.ref b :: As) (JE k t)) (sQ post) 0 0 (fun _ => False)) (cw : CallW R s args own C index y bytes maxL ret wsC rm 0 0 n) (hE : EV k t A s s.heap) (hS : va_S A s.heap H locs) (hrec : ∃ cell : Cell, H[b]? = some cell ∧ cell.vm.isStatics = false ∧ s.vm.findClass C = some cell.cls) (hn : As.length = n) (hsz : ls.size = nL) (hst : st0 = As.reverse ++ .ref b :: rest) (hW : (rest.map fun v => v.category).sum ≤ 8) (hdg : decode cc pc = .ok (.invokevirtual index, 3)) (hc : cells ≤ R.cells) (hs : slots ≤ R.slots)
    (kk : ∀ r : Int32, post r → W p l e R s m args below meth c H locs cells slots Q (F0 m (pc + 3) ls (.int r :: rest))) : W p l e R s m args below meth c H locs cells slots Q (F0 m pc ls st0) := by
  intro T hT X
  obtain ⟨v, st₀, t', T', L, h0, X', hL, e1, -, ⟨⟨r, hv, hp⟩, hh⟩, st⟩ := va_runV (g := F0 m pc ls st0) S hM cw ⟨JE.blind, hrec, fun U hU hW => ⟨rfl, JE.of hE hS hU hW⟩⟩ rfl hn hsz hst (lv_room hW) hdg ⟨hc, hs⟩ T hT X
  cases hv
  obtain ⟨t2, a1, b1⟩ := kk r hp T' (by rw [e1, hh, h0]) (Stand.forget X' (fun q h => (hL q h).elim))
  exact ⟨t2, st t2 a1, b1⟩
theorem jS_i {post : Int32 → Prop} (S : CallFix p m c cc nL s args Ts own) (hM : Met l y wsC rm (va_Pc As (JE k t)) (sQ post) 0 0 (fun _ => False)) (cw : CallB R s args own index y bytes maxL ret wsC rm 0 0 n ∧ (Cond.static y).before args s = true) (hE : EV k t A s s.heap) (hS : va_S A s.heap H locs) (hn : As.length = n) (hsz : ls.size = nL) (hst : st0 = As.reverse ++ rest) (hW : (rest.map fun v => v.category).sum ≤ 8) (hdg : decode cc pc = .ok (.invokestatic index, 3)) (hc : cells ≤ R.cells) (hs : slots ≤ R.slots)
    (kk : ∀ r : Int32, post r → W p l e R s m args below meth c H locs cells slots Q (F0 m (pc + 3) ls (.int r :: rest))) : W p l e R s m args below meth c H locs cells slots Q (F0 m pc ls st0) := by
  intro T hT X
  obtain ⟨v, st₀, t', T', L, h0, X', hL, e1, -, ⟨⟨r, hv, hp⟩, hh⟩, st⟩ := va_runS (g := F0 m pc ls st0) S hM cw ⟨JE.blind, fun U hU hW => ⟨rfl, JE.of hE hS hU hW⟩⟩ rfl hn hsz hst (lv_room hW) hdg ⟨hc, hs⟩ T hT X
  cases hv
  obtain ⟨t2, a1, b1⟩ := kk r hp T' (by rw [e1, hh, h0]) (Stand.forget X' (fun q h => (hL q h).elim))
  exact ⟨t2, st t2 a1, b1⟩
theorem mV_ie {wf : (Nat → Int32) → (Nat → Nat → Int32) → Int64 → va_W} {post : Int32 → (Nat → Int32) → (Nat → Nat → Int32) → Int64 → Prop} (S : CallFix p m c cc nL s args Ts own) (hM : Met l y wsC rm (va_Pc (.ref b :: As) (mPe k t D cI w H.size)) (mQi post D cI wf (va_A w H.size)) 0 0 (va_A w H.size)) (cw : CallW R s args own C index y bytes maxL ret wsC rm 0 0 n) (hK : va_K D vwCl [(cI, .int)] s) (hP : va_P D vwCl w H) (hN : NW s) (hD : va_D A w) (hS : va_S A s.heap H locs) (hA : ∀ q, s.heap.size ≤ q → A q) (hE : EV k t A s s.heap) (hrec : ∃ cell : Cell, H[b]? = some cell ∧ cell.vm.isStatics = false ∧ s.vm.findClass C = some cell.cls) (hn : As.length = n) (hsz : ls.size = nL) (hst : st0 = As.reverse ++ .ref b :: rest) (hW : (rest.map fun v => v.category).sum ≤ 8) (hdg : decode cc pc = .ok (.invokevirtual index, 3)) (hc : cells ≤ R.cells) (hs : slots ≤ R.slots)
    (kk : ∀ (r : Int32) (v1 : Nat → Int32) (f1 : Nat → Nat → Int32) (z1 : Int64), post r v1 f1 z1 → ∀ (H1 : Heap) (locs1 : List Loc), va_P D vwCl (wf v1 f1 z1) H1 → va_D A (wf v1 f1 z1) → va_S A s.heap H1 locs1 → W p l e R s m args below meth c H1 locs1 cells slots Q (F0 m (pc + 3) ls (.int r :: rest))) : W p l e R s m args below meth c H locs cells slots Q (F0 m pc ls st0) := by
  have hF := freeW hD hS hA
  refine va_calli (va_runV (g := F0 m pc ls st0) S hM cw ⟨mPe.blind, hrec, fun U hU hW => ⟨rfl, ⟨by rw [hU], ⟨by rw [hU]; exact hP, va_K.moved hW.alike hK, NW.warm hW hN⟩, hD.weaken (fun _ _ _ _ => trivial)⟩, by rw [hU]; exact ((hE.kept hS.2.1).narrow hF).warm hW⟩⟩ rfl hn hsz hst (lv_room hW) hdg ⟨hc, hs⟩) hS (fun q _ h => hF q h) hF (fun r u t H1 locs1 ht hvm hp hB hz hk hS1 => ?_)
  obtain ⟨hP1, hK1, hD1⟩ := hB
  rw [ht] at hP1
  exact kk r u.1 u.2.1 u.2.2 hp H1 locs1 hP1 (hD1.weaken (fun k q _ h => hF q.1 h)) hS1
end
def rmJ0 : Room := { frames := 0, cells := 0, slots := 0, locals := 0 }
def rmJ1 : Room := { frames := 1, cells := 0, slots := 0, locals := 60 }
def rmJ2 : Room := { frames := 2, cells := 0, slots := 0, locals := 120 }
def rmJ3 : Room := { frames := 3, cells := 0, slots := 0, locals := 160 }
def rmJ4 : Room := { frames := 4, cells := 0, slots := 0, locals := 200 }

set_option maxHeartbeats 4000000 in
set_option maxRecDepth 100000 in
/-- coder() -/
theorem c_J0_coder_7d493 (l : Launch) (k t : Nat) : Met l yJ0_coder_7d493 wsJ0_coder_7d493 rmJ0 (va_Pc [.ref k] (JE k t)) (sQ (fun r => r = 0)) 0 0 (fun _ => False) := by
  refine Met.ofW (cc := cJ0_coder_7d493) (maxL := 1) (ret := (some .byte)) (by decide) rfl ?_
  intro p e s m args below meth c s₁ B hml hv
  obtain ⟨rfl, hE⟩ := hv
  have hE : EV k t (fun _ => False) s s.heap := hE
  have hS : va_S (fun _ => False) s.heap s.heap [] := va_S.rf
  have hx := B.exec
  have hb := B.bytes
  have hr := B.returns
  have hts := atoms_spec (ws := wsJ0_coder_7d493) B.pre
  have hown : s.vm.findClass RJ0 = some m.cls := findClass_of_methodNamed B.named
  have hlocks : meth.locks = false := B.notSynchronized
  have hl := lv_entry ([.ref k]) (n := 1) (Nat.le_of_ble_eq_true rfl)
  rw [lg_entry_eq]
  generalize (lg_sl ([.ref k]) ++ List.replicate (1 - (lg_sl ([.ref k])).length) Slot.unset).toArray = ls at hl ⊢
  have hl : lv_has ls 1 [(0, .ref k)] := hl
  refine va_gets hx hb hE.2.2.2.2.1 hS hown (hts (.fieldLink RJ0 38 "java/lang/String" "COMPACT_STRINGS" "Z") (by decide +kernel)) (fun _ h => h) dJ0_coder_7d493_0 ?_
  refine lv_if_eq (tgt := 13) hx hb dJ0_coder_7d493_3 (by decide) (fun c9 => absurd c9 (by decide)) (fun c9 => ?_)
  refine lv_aload_n hx hb dJ0_coder_7d493_6 rfl (lv_at hl 0 rfl) ?_
  refine vk_getf hx hb hE.2.1 hS hown (hts (.fieldLink RJ0 15 "java/lang/String" "coder" "B") (by decide +kernel)) (fun _ h => h) dJ0_coder_7d493_7 ?_
  refine lv_goto (tgt := 14) hx hb dJ0_coder_7d493_10 (by decide) ?_
  exact rz_ret hx hb hr hlocks rfl rfl dJ0_coder_7d493_14

set_option maxHeartbeats 4000000 in
set_option maxRecDepth 100000 in
/-- isLatin1() -/
theorem c_J0_isLatin1_aae02 (l : Launch) (k t : Nat) : Met l yJ0_isLatin1_aae02 wsJ0_isLatin1_aae02 rmJ0 (va_Pc [.ref k] (JE k t)) (sQ (fun r => r = 1)) 0 0 (fun _ => False) := by
  refine Met.ofW (cc := cJ0_isLatin1_aae02) (maxL := 1) (ret := (some .boolean)) (by decide) rfl ?_
  intro p e s m args below meth c s₁ B hml hv
  obtain ⟨rfl, hE⟩ := hv
  have hE : EV k t (fun _ => False) s s.heap := hE
  have hS : va_S (fun _ => False) s.heap s.heap [] := va_S.rf
  have hx := B.exec
  have hb := B.bytes
  have hr := B.returns
  have hts := atoms_spec (ws := wsJ0_isLatin1_aae02) B.pre
  have hown : s.vm.findClass RJ0 = some m.cls := findClass_of_methodNamed B.named
  have hlocks : meth.locks = false := B.notSynchronized
  have hl := lv_entry ([.ref k]) (n := 1) (Nat.le_of_ble_eq_true rfl)
  rw [lg_entry_eq]
  generalize (lg_sl ([.ref k]) ++ List.replicate (1 - (lg_sl ([.ref k])).length) Slot.unset).toArray = ls at hl ⊢
  have hl : lv_has ls 1 [(0, .ref k)] := hl
  refine va_gets hx hb hE.2.2.2.2.1 hS hown (hts (.fieldLink RJ0 38 "java/lang/String" "COMPACT_STRINGS" "Z") (by decide +kernel)) (fun _ h => h) dJ0_isLatin1_aae02_0 ?_
  refine lv_if_eq (tgt := 17) hx hb dJ0_isLatin1_aae02_3 (by decide) (fun c9 => absurd c9 (by decide)) (fun c9 => ?_)
  refine lv_aload_n hx hb dJ0_isLatin1_aae02_6 rfl (lv_at hl 0 rfl) ?_
  refine vk_getf hx hb hE.2.1 hS hown (hts (.fieldLink RJ0 15 "java/lang/String" "coder" "B") (by decide +kernel)) (fun _ h => h) dJ0_isLatin1_aae02_7 ?_
  refine lv_if_ne (tgt := 17) hx hb dJ0_isLatin1_aae02_10 (by decide) (fun c9 => absurd rfl c9) (fun c9 => ?_)
  refine lv_iconst (v := (1 : Int32)) hx hb dJ0_isLatin1_aae02_13 (by decide) ?_
  refine lv_goto (tgt := 18) hx hb dJ0_isLatin1_aae02_14 (by decide) ?_
  exact rz_ret hx hb hr hlocks rfl rfl dJ0_isLatin1_aae02_18

set_option maxHeartbeats 4000000 in
set_option maxRecDepth 100000 in
/-- length() -/
theorem c_J0_length_8abf5 (l : Launch) (k t : Nat) : Met l yJ0_length_8abf5 wsJ0_length_8abf5 rmJ1 (va_Pc [.ref k] (JE k t)) (sQ (fun r => r = 5)) 0 0 (fun _ => False) := by
  refine Met.ofW (cc := cJ0_length_8abf5) (maxL := 1) (ret := (some .int)) (by decide) rfl ?_
  intro p e s m args below meth c s₁ B hml hv
  obtain ⟨rfl, hE⟩ := hv
  have hE : EV k t (fun _ => False) s s.heap := hE
  have hS : va_S (fun _ => False) s.heap s.heap [] := va_S.rf
  have hx := B.exec
  have hb := B.bytes
  have hr := B.returns
  have hts := atoms_spec (ws := wsJ0_length_8abf5) B.pre
  have hown : s.vm.findClass RJ0 = some m.cls := findClass_of_methodNamed B.named
  have hlocks : meth.locks = false := B.notSynchronized
  have hl := lv_entry ([.ref k]) (n := 1) (Nat.le_of_ble_eq_true rfl)
  rw [lg_entry_eq]
  generalize (lg_sl ([.ref k]) ++ List.replicate (1 - (lg_sl ([.ref k])).length) Slot.unset).toArray = ls at hl ⊢
  have hl : lv_has ls 1 [(0, .ref k)] := hl
  refine lv_aload_n hx hb dJ0_length_8abf5_0 rfl (lv_at hl 0 rfl) ?_
  refine vk_getf hx hb hE.2.2.1 hS hown (hts (.fieldLink RJ0 9 "java/lang/String" "value" "[B") (by decide +kernel)) (fun _ h => h) dJ0_length_8abf5_1 ?_
  refine va_tlen (v := 5) hx hb hE.2.2.2.1 hS (by decide) dJ0_length_8abf5_4 ?_
  refine lv_aload_n hx hb dJ0_length_8abf5_5 rfl (lv_at hl 0 rfl) ?_
  refine jV_i ⟨hx, hb, hml, hown, hts⟩ (c_J0_coder_7d493 l k t) (cwV 0 hts gJ0_length_8abf5_J0_coder_7d493 rfl rfl rfl (by decide +kernel) ⟨Nat.le_of_ble_eq_true rfl, Nat.le_of_ble_eq_true rfl⟩) hE hS (hE.recv hS) rfl hl.1 (rest := [.int 5]) rfl (Nat.le_of_ble_eq_true rfl) dJ0_length_8abf5_6 (Nat.zero_le _) (Nat.zero_le _) (fun r h => ?_)
  obtain rfl := h
  refine lv_ishr hx hb dJ0_length_8abf5_9 ?_
  exact ri_ret hx hb hr hlocks (by decide) dJ0_length_8abf5_10

set_option maxHeartbeats 4000000 in
set_option maxRecDepth 100000 in
/-- canEncode(c) -/
theorem c_J1_canEncode_9a6ad (l : Launch) (k t : Nat) (x0 : Int32) : Met l yJ1_canEncode_9a6ad wsJ1_canEncode_9a6ad rmJ0 (va_Pc [.int x0] (JE k t)) (sQ (fun r => (r = 0 ∧ (x0 < 0 ∨ 255 < x0)) ∨ (r = 1 ∧ ¬ x0 < 0 ∧ ¬ 255 < x0))) 0 0 (fun _ => False) := by
  refine Met.ofW (cc := cJ1_canEncode_9a6ad) (maxL := 1) (ret := (some .boolean)) (by decide) rfl ?_
  intro p e s m args below meth c s₁ B hml hv
  obtain ⟨rfl, hE⟩ := hv
  have hE : EV k t (fun _ => False) s s.heap := hE
  have hS : va_S (fun _ => False) s.heap s.heap [] := va_S.rf
  have hx := B.exec
  have hb := B.bytes
  have hr := B.returns
  have hts := atoms_spec (ws := wsJ1_canEncode_9a6ad) B.pre
  have hown : s.vm.findClass RJ1 = some m.cls := findClass_of_methodNamed B.named
  have hlocks : meth.locks = false := B.notSynchronized
  have hl := lv_entry ([.int x0]) (n := 1) (Nat.le_of_ble_eq_true rfl)
  rw [lg_entry_eq]
  generalize (lg_sl ([.int x0]) ++ List.replicate (1 - (lg_sl ([.int x0])).length) Slot.unset).toArray = ls at hl ⊢
  have hl : lv_has ls 1 [(0, .int x0)] := hl
  refine lv_iload_n hx hb dJ1_canEncode_9a6ad_0 rfl (lv_at hl 0 rfl) ?_
  refine lv_if_lt (tgt := 15) hx hb dJ1_canEncode_9a6ad_1 (by decide) (fun c9 => ?_) (fun c9 => ?_)
  · refine lv_iconst (v := (0 : Int32)) hx hb dJ1_canEncode_9a6ad_15 (by decide) ?_
    exact rz_ret hx hb hr hlocks rfl (Or.inl ⟨rfl, Or.inl c9⟩) dJ1_canEncode_9a6ad_16
  · refine lv_iload_n hx hb dJ1_canEncode_9a6ad_4 rfl (lv_at hl 0 rfl) ?_
    refine lv_sipush (v := (255 : Int32)) hx hb dJ1_canEncode_9a6ad_5 (by decide) ?_
    refine lv_icmp_gt (tgt := 15) hx hb dJ1_canEncode_9a6ad_8 (by decide) (fun c8 => ?_) (fun c8 => ?_)
    · refine lv_iconst (v := (0 : Int32)) hx hb dJ1_canEncode_9a6ad_15 (by decide) ?_
      exact rz_ret hx hb hr hlocks rfl (Or.inl ⟨rfl, Or.inr c8⟩) dJ1_canEncode_9a6ad_16
    · refine lv_iconst (v := (1 : Int32)) hx hb dJ1_canEncode_9a6ad_11 (by decide) ?_
      refine lv_goto (tgt := 16) hx hb dJ1_canEncode_9a6ad_12 (by decide) ?_
      exact rz_ret hx hb hr hlocks rfl (Or.inr ⟨rfl, c9, c8⟩) dJ1_canEncode_9a6ad_16

/-- the place of the first of the bytes from k on that is b; none -/
def kIxB (b : Int32) : List Int32 → Nat → Int32
  | [], _ => -1
  | x :: l, k => if x = b then nI k else kIxB b l (k + 1)
/-- the place of a sign in the text of the kinds; none -/
def kIx (x : Int32) : Int32 := if x = 115 then 0 else if x = 104 then 1 else if x = 116 then 2 else if x = 99 then 3 else if x = 112 then 4 else -1
theorem kIx_n : ∀ n, n < 256 → kIxB (nI n).toInt8.toInt32 kTx 0 = kIx (nI n) := by decide +kernel
theorem kIx_out {x : Int32} (h : x < 0 ∨ 255 < x) : kIx x = -1 := by
  have hn : ∀ b : Int32, ¬ (b < 0 ∨ 255 < b) → x ≠ b := fun b hb e => hb (e ▸ h)
  unfold kIx
  rw [if_neg (hn 115 (by decide)), if_neg (hn 104 (by decide)), if_neg (hn 116 (by decide)), if_neg (hn 99 (by decide)), if_neg (hn 112 (by decide))]
theorem kIx_in {x : Int32} (h0 : ¬ x < 0) (h1 : ¬ 255 < x) : kIxB x.toInt8.toInt32 kTx 0 = kIx x := by
  obtain ⟨n, hn, rfl⟩ := nI_of h0
  refine kIx_n n ?_
  rcases Nat.lt_or_ge n 256 with q | q
  · exact q
  · exact absurd (nI_lt (a := 255) (b := n) (by omega) hn) h1
theorem kTx_d : ∀ i, i < 5 → kTx.drop i = kTx.getD i 0 :: kTx.drop (i + 1) := by decide +kernel

set_option maxHeartbeats 4000000 in
set_option maxRecDepth 100000 in
/-- indexOfChar(bytes, c, 0, 5) -/
theorem c_J1_indexOfChar_4cfef (l : Launch) (k t : Nat) (x0 : Int32) : Met l yJ1_indexOfChar_4cfef wsJ1_indexOfChar_4cfef rmJ0 (va_Pc [.ref t, .int x0, .int 0, .int 5] (JE k t)) (sQ (fun r => r = kIxB x0.toInt8.toInt32 kTx 0)) 0 0 (fun _ => False) := by
  refine Met.ofW (cc := cJ1_indexOfChar_4cfef) (maxL := 6) (ret := (some .int)) (by decide) rfl ?_
  intro p e s m args below meth c s₁ B hml hv
  obtain ⟨rfl, hE⟩ := hv
  have hE : EV k t (fun _ => False) s s.heap := hE
  have hS : va_S (fun _ => False) s.heap s.heap [] := va_S.rf
  have hx := B.exec
  have hb := B.bytes
  have hr := B.returns
  have hts := atoms_spec (ws := wsJ1_indexOfChar_4cfef) B.pre
  have hown : s.vm.findClass RJ1 = some m.cls := findClass_of_methodNamed B.named
  have hlocks : meth.locks = false := B.notSynchronized
  have hl := lv_entry ([.ref t, .int x0, .int 0, .int 5]) (n := 6) (Nat.le_of_ble_eq_true rfl)
  rw [lg_entry_eq]
  generalize (lg_sl ([.ref t, .int x0, .int 0, .int 5]) ++ List.replicate (6 - (lg_sl ([.ref t, .int x0, .int 0, .int 5])).length) Slot.unset).toArray = ls at hl ⊢
  have hl : lv_has ls 6 [(0, .ref t), (1, .int x0), (2, .int 0), (3, .int 5)] := hl
  have B7 : ∀ (j i : Nat), i + j = 5 → kIxB x0.toInt8.toInt32 (kTx.drop i) i = kIxB x0.toInt8.toInt32 kTx 0 → ∀ (ls : Array Slot), lv_has ls 6 [(0, .ref t), (3, .int 5), (4, .int x0.toInt8.toInt32), (5, .int (nI i))] → W p l e (headSpec wsJ1_indexOfChar_4cfef rmJ0).room s m ([.ref t, .int x0, .int 0, .int 5] : List Value).toArray below meth c s.heap [] 0 0 (MQ below (sQ (fun r => r = kIxB x0.toInt8.toInt32 kTx 0)) ([.ref t, .int x0, .int 0, .int 5] : List Value).toArray s 0 0 (fun _ => False)) (F0 m 7 ls []) := by
    intro j
    induction j with
    | zero =>
      intro i hi h ls hl
      obtain rfl : i = 5 := by omega
      refine lv_iload hx hb dJ1_indexOfChar_4cfef_7 (lv_at hl 3 rfl) ?_
      refine lv_iload_n hx hb dJ1_indexOfChar_4cfef_9 rfl (lv_at hl 1 rfl) ?_
      refine lv_icmp_ge (tgt := 31) hx hb dJ1_indexOfChar_4cfef_10 (by decide) (fun c9 => ?_) (fun c9 => absurd (by decide) c9)
      refine lv_iconst (v := (-1 : Int32)) hx hb dJ1_indexOfChar_4cfef_31 (by decide) ?_
      exact ri_ret hx hb hr hlocks (by rw [← h]; rfl) dJ1_indexOfChar_4cfef_32
    | succ j ih =>
      intro i hi h ls hl
      have hi5 : i < 5 := by omega
      refine lv_iload hx hb dJ1_indexOfChar_4cfef_7 (lv_at hl 3 rfl) ?_
      refine lv_iload_n hx hb dJ1_indexOfChar_4cfef_9 rfl (lv_at hl 1 rfl) ?_
      refine lv_icmp_ge (tgt := 31) hx hb dJ1_indexOfChar_4cfef_10 (by decide) (fun c9 => absurd c9 (nI_ge (b := 5) hi5 (by omega))) (fun c9 => ?_)
      refine lv_aload_n hx hb dJ1_indexOfChar_4cfef_13 rfl (lv_at hl 0 rfl) ?_
      refine lv_iload hx hb dJ1_indexOfChar_4cfef_14 (lv_at hl 3 rfl) ?_
      refine va_tb (v := .int (kTx.getD i 0)) hx hb hE.2.2.2.1 hS (vp_in_nI hi5 (by omega)) (by rw [nI_clamp (by omega)]) dJ1_indexOfChar_4cfef_16 ?_
      refine lv_iload hx hb dJ1_indexOfChar_4cfef_17 (lv_at hl 2 rfl) ?_
      rw [kTx_d i hi5, kIxB] at h
      refine lv_icmp_ne (tgt := 25) hx hb dJ1_indexOfChar_4cfef_19 (by decide) (fun c9 => ?_) (fun c9 => ?_)
      · rw [if_neg c9] at h
        refine lv_iinc (v := nI (i + 1)) (lv' := [(5, .int (nI (i + 1))), (0, .ref t), (3, .int 5), (4, .int x0.toInt8.toInt32)]) hx hb dJ1_indexOfChar_4cfef_25 hl (k := 3) rfl (nI_1 i) (by decide) rfl (fun ls hl => ?_)
        refine lv_goto (tgt := 7) hx hb dJ1_indexOfChar_4cfef_28 (by decide) ?_
        exact ih (i + 1) (by omega) h ls (lv_sub hl [1, 2, 3, 0] rfl)
      · rw [if_pos c9] at h
        refine lv_iload hx hb dJ1_indexOfChar_4cfef_22 (lv_at hl 3 rfl) ?_
        exact ri_ret hx hb hr hlocks h dJ1_indexOfChar_4cfef_24
  refine lv_iload_n hx hb dJ1_indexOfChar_4cfef_0 rfl (lv_at hl 1 rfl) ?_
  refine lv_i2b (v := x0.toInt8.toInt32) hx hb dJ1_indexOfChar_4cfef_1 rfl ?_
  refine lv_istore (lv' := [(4, .int x0.toInt8.toInt32), (0, .ref t), (1, .int x0), (2, .int 0), (3, .int 5)]) hx hb dJ1_indexOfChar_4cfef_2 hl (by decide) rfl (fun ls hl => ?_)
  refine lv_iload_n hx hb dJ1_indexOfChar_4cfef_4 rfl (lv_at hl 3 rfl) ?_
  refine lv_istore (lv' := [(5, .int 0), (4, .int x0.toInt8.toInt32), (0, .ref t), (1, .int x0), (2, .int 0), (3, .int 5)]) hx hb dJ1_indexOfChar_4cfef_5 hl (by decide) rfl (fun ls hl => ?_)
  exact B7 5 0 (by omega) rfl ls (lv_sub hl [2, 5, 1, 0] rfl)

set_option maxHeartbeats 4000000 in
set_option maxRecDepth 100000 in
/-- indexOf(bytes, c, 0, 5) -/
theorem c_J1_indexOf_4cfef (l : Launch) (k t : Nat) (x0 : Int32) : Met l yJ1_indexOf_4cfef wsJ1_indexOf_4cfef rmJ2 (va_Pc [.ref t, .int x0, .int 0, .int 5] (JE k t)) (sQ (fun r => r = kIx x0)) 0 0 (fun _ => False) := by
  refine Met.ofW (cc := cJ1_indexOf_4cfef) (maxL := 4) (ret := (some .int)) (by decide) rfl ?_
  intro p e s m args below meth c s₁ B hml hv
  obtain ⟨rfl, hE⟩ := hv
  have hE : EV k t (fun _ => False) s s.heap := hE
  have hS : va_S (fun _ => False) s.heap s.heap [] := va_S.rf
  have hx := B.exec
  have hb := B.bytes
  have hr := B.returns
  have hts := atoms_spec (ws := wsJ1_indexOf_4cfef) B.pre
  have hown : s.vm.findClass RJ1 = some m.cls := findClass_of_methodNamed B.named
  have hlocks : meth.locks = false := B.notSynchronized
  have hl := lv_entry ([.ref t, .int x0, .int 0, .int 5]) (n := 4) (Nat.le_of_ble_eq_true rfl)
  rw [lg_entry_eq]
  generalize (lg_sl ([.ref t, .int x0, .int 0, .int 5]) ++ List.replicate (4 - (lg_sl ([.ref t, .int x0, .int 0, .int 5])).length) Slot.unset).toArray = ls at hl ⊢
  have hl : lv_has ls 4 [(0, .ref t), (1, .int x0), (2, .int 0), (3, .int 5)] := hl
  refine lv_iload_n hx hb dJ1_indexOf_4cfef_0 rfl (lv_at hl 1 rfl) ?_
  refine jS_i ⟨hx, hb, hml, hown, hts⟩ (c_J1_canEncode_9a6ad l k t x0) (va_cwS 1 hts gJ1_indexOf_4cfef_J1_canEncode_9a6ad rfl rfl rfl (by decide +kernel) ⟨Nat.le_of_ble_eq_true rfl, Nat.le_of_ble_eq_true rfl⟩) hE hS rfl hl.1 (rest := []) rfl (Nat.le_of_ble_eq_true rfl) dJ1_indexOf_4cfef_1 (Nat.zero_le _) (Nat.zero_le _) (fun r h => ?_)
  refine lv_if_ne (tgt := 9) hx hb dJ1_indexOf_4cfef_4 (by decide) (fun c9 => ?_) (fun c9 => ?_)
  · rcases h with ⟨h, -⟩ | ⟨-, h0, h1⟩
    · exact absurd h c9
    · refine lv_iload_n hx hb dJ1_indexOf_4cfef_9 rfl (lv_at hl 2 rfl) ?_
      refine lv_iconst (v := (0 : Int32)) hx hb dJ1_indexOf_4cfef_10 (by decide) ?_
      refine va_mmax (R := (headSpec wsJ1_indexOf_4cfef rmJ2).room) (rest := []) hx hb (hml.trans hl.1.symm) hown (hts (.methodLink RJ1 92 Lib.Math.max.name) (by decide +kernel)) (hts (.static Lib.Math.max.name) (by decide +kernel)) (hts (.initialized "java/lang/Math") (by decide +kernel)) (hts (.code Lib.Math.max.name Lib.Math.max.code 2 (some .int)) (by decide +kernel)) (Nat.le_of_ble_eq_true rfl) (Nat.le_of_ble_eq_true rfl) (Nat.zero_le _) (Nat.zero_le _) dJ1_indexOf_4cfef_11 ?_
      refine lv_istore_n (lv' := [(2, .int 0), (0, .ref t), (1, .int x0), (3, .int 5)]) hx hb dJ1_indexOf_4cfef_14 rfl hl (by decide) rfl (fun ls hl => ?_)
      refine lv_iload_n hx hb dJ1_indexOf_4cfef_15 rfl (lv_at hl 3 rfl) ?_
      refine lv_aload_n hx hb dJ1_indexOf_4cfef_16 rfl (lv_at hl 1 rfl) ?_
      refine va_tlen (v := 5) hx hb hE.2.2.2.1 hS (by decide) dJ1_indexOf_4cfef_17 ?_
      refine va_mmin (R := (headSpec wsJ1_indexOf_4cfef rmJ2).room) (rest := []) hx hb (hml.trans hl.1.symm) hown (hts (.methodLink RJ1 38 Lib.Math.min.name) (by decide +kernel)) (hts (.static Lib.Math.min.name) (by decide +kernel)) (hts (.initialized "java/lang/Math") (by decide +kernel)) (hts (.code Lib.Math.min.name Lib.Math.min.code 2 (some .int)) (by decide +kernel)) (Nat.le_of_ble_eq_true rfl) (Nat.le_of_ble_eq_true rfl) (Nat.zero_le _) (Nat.zero_le _) dJ1_indexOf_4cfef_18 ?_
      refine lv_istore_n (lv' := [(3, .int 5), (2, .int 0), (0, .ref t), (1, .int x0)]) hx hb dJ1_indexOf_4cfef_21 rfl hl (by decide) rfl (fun ls hl => ?_)
      refine lv_iload_n hx hb dJ1_indexOf_4cfef_22 rfl (lv_at hl 1 rfl) ?_
      refine lv_iload_n hx hb dJ1_indexOf_4cfef_23 rfl (lv_at hl 0 rfl) ?_
      refine lv_icmp_lt (tgt := 29) hx hb dJ1_indexOf_4cfef_24 (by decide) (fun c9 => ?_) (fun c9 => absurd (by decide) c9)
      refine lv_aload_n hx hb dJ1_indexOf_4cfef_29 rfl (lv_at hl 2 rfl) ?_
      refine lv_iload_n hx hb dJ1_indexOf_4cfef_30 rfl (lv_at hl 3 rfl) ?_
      refine lv_iload_n hx hb dJ1_indexOf_4cfef_31 rfl (lv_at hl 1 rfl) ?_
      refine lv_iload_n hx hb dJ1_indexOf_4cfef_32 rfl (lv_at hl 0 rfl) ?_
      refine jS_i ⟨hx, hb, hml, hown, hts⟩ (c_J1_indexOfChar_4cfef l k t x0) (va_cwS 4 hts gJ1_indexOf_4cfef_J1_indexOfChar_4cfef rfl rfl rfl (by decide +kernel) ⟨Nat.le_of_ble_eq_true rfl, Nat.le_of_ble_eq_true rfl⟩) hE hS rfl hl.1 (rest := []) rfl (Nat.le_of_ble_eq_true rfl) dJ1_indexOf_4cfef_33 (Nat.zero_le _) (Nat.zero_le _) (fun r h => ?_)
      exact ri_ret hx hb hr hlocks (h.trans (kIx_in h0 h1)) dJ1_indexOf_4cfef_36
  · rcases h with ⟨-, h⟩ | ⟨h, -⟩
    · refine lv_iconst (v := (-1 : Int32)) hx hb dJ1_indexOf_4cfef_7 (by decide) ?_
      exact ri_ret hx hb hr hlocks (kIx_out h).symm dJ1_indexOf_4cfef_8
    · exact absurd (h.symm.trans c9) (by decide)

set_option maxHeartbeats 4000000 in
set_option maxRecDepth 100000 in
/-- indexOf(c, 0) -/
theorem c_J0_indexOf_7cf53 (l : Launch) (k t : Nat) (x0 : Int32) : Met l yJ0_indexOf_7cf53 wsJ0_indexOf_7cf53 rmJ3 (va_Pc [.ref k, .int x0, .int 0] (JE k t)) (sQ (fun r => r = kIx x0)) 0 0 (fun _ => False) := by
  refine Met.ofW (cc := cJ0_indexOf_7cf53) (maxL := 3) (ret := (some .int)) (by decide) rfl ?_
  intro p e s m args below meth c s₁ B hml hv
  obtain ⟨rfl, hE⟩ := hv
  have hE : EV k t (fun _ => False) s s.heap := hE
  have hS : va_S (fun _ => False) s.heap s.heap [] := va_S.rf
  have hx := B.exec
  have hb := B.bytes
  have hr := B.returns
  have hts := atoms_spec (ws := wsJ0_indexOf_7cf53) B.pre
  have hown : s.vm.findClass RJ0 = some m.cls := findClass_of_methodNamed B.named
  have hlocks : meth.locks = false := B.notSynchronized
  have hl := lv_entry ([.ref k, .int x0, .int 0]) (n := 3) (Nat.le_of_ble_eq_true rfl)
  rw [lg_entry_eq]
  generalize (lg_sl ([.ref k, .int x0, .int 0]) ++ List.replicate (3 - (lg_sl ([.ref k, .int x0, .int 0])).length) Slot.unset).toArray = ls at hl ⊢
  have hl : lv_has ls 3 [(0, .ref k), (1, .int x0), (2, .int 0)] := hl
  refine lv_aload_n hx hb dJ0_indexOf_7cf53_0 rfl (lv_at hl 0 rfl) ?_
  refine jV_i ⟨hx, hb, hml, hown, hts⟩ (c_J0_isLatin1_aae02 l k t) (cwV 0 hts gJ0_indexOf_7cf53_J0_isLatin1_aae02 rfl rfl rfl (by decide +kernel) ⟨Nat.le_of_ble_eq_true rfl, Nat.le_of_ble_eq_true rfl⟩) hE hS (hE.recv hS) rfl hl.1 (rest := []) rfl (Nat.le_of_ble_eq_true rfl) dJ0_indexOf_7cf53_1 (Nat.zero_le _) (Nat.zero_le _) (fun r h => ?_)
  refine lv_if_eq (tgt := 23) hx hb dJ0_indexOf_7cf53_4 (by decide) (fun c9 => absurd (h.symm.trans c9) (by decide)) (fun c9 => ?_)
  refine lv_aload_n hx hb dJ0_indexOf_7cf53_7 rfl (lv_at hl 0 rfl) ?_
  refine vk_getf hx hb hE.2.2.1 hS hown (hts (.fieldLink RJ0 9 "java/lang/String" "value" "[B") (by decide +kernel)) (fun _ h => h) dJ0_indexOf_7cf53_8 ?_
  refine lv_iload_n hx hb dJ0_indexOf_7cf53_11 rfl (lv_at hl 1 rfl) ?_
  refine lv_iload_n hx hb dJ0_indexOf_7cf53_12 rfl (lv_at hl 2 rfl) ?_
  refine lv_aload_n hx hb dJ0_indexOf_7cf53_13 rfl (lv_at hl 0 rfl) ?_
  refine jV_i ⟨hx, hb, hml, hown, hts⟩ (c_J0_length_8abf5 l k t) (cwV 0 hts gJ0_indexOf_7cf53_J0_length_8abf5 rfl rfl rfl (by decide +kernel) ⟨Nat.le_of_ble_eq_true rfl, Nat.le_of_ble_eq_true rfl⟩) hE hS (hE.recv hS) rfl hl.1 (rest := [.int 0, .int x0, .ref t]) rfl (Nat.le_of_ble_eq_true rfl) dJ0_indexOf_7cf53_14 (Nat.zero_le _) (Nat.zero_le _) (fun r h => ?_)
  obtain rfl := h
  refine jS_i ⟨hx, hb, hml, hown, hts⟩ (c_J1_indexOf_4cfef l k t x0) (va_cwS 4 hts gJ0_indexOf_7cf53_J1_indexOf_4cfef rfl rfl rfl (by decide +kernel) ⟨Nat.le_of_ble_eq_true rfl, Nat.le_of_ble_eq_true rfl⟩) hE hS rfl hl.1 (rest := []) rfl (Nat.le_of_ble_eq_true rfl) dJ0_indexOf_7cf53_17 (Nat.zero_le _) (Nat.zero_le _) (fun r h => ?_)
  refine lv_goto (tgt := 36) hx hb dJ0_indexOf_7cf53_20 (by decide) ?_
  exact ri_ret hx hb hr hlocks h dJ0_indexOf_7cf53_36

set_option maxHeartbeats 4000000 in
set_option maxRecDepth 100000 in
/-- indexOf(c) -/
theorem c_J0_indexOf_0f7a4 (l : Launch) (k t : Nat) (x0 : Int32) : Met l yJ0_indexOf_0f7a4 wsJ0_indexOf_0f7a4 rmJ4 (va_Pc [.ref k, .int x0] (JE k t)) (sQ (fun r => r = kIx x0)) 0 0 (fun _ => False) := by
  refine Met.ofW (cc := cJ0_indexOf_0f7a4) (maxL := 2) (ret := (some .int)) (by decide) rfl ?_
  intro p e s m args below meth c s₁ B hml hv
  obtain ⟨rfl, hE⟩ := hv
  have hE : EV k t (fun _ => False) s s.heap := hE
  have hS : va_S (fun _ => False) s.heap s.heap [] := va_S.rf
  have hx := B.exec
  have hb := B.bytes
  have hr := B.returns
  have hts := atoms_spec (ws := wsJ0_indexOf_0f7a4) B.pre
  have hown : s.vm.findClass RJ0 = some m.cls := findClass_of_methodNamed B.named
  have hlocks : meth.locks = false := B.notSynchronized
  have hl := lv_entry ([.ref k, .int x0]) (n := 2) (Nat.le_of_ble_eq_true rfl)
  rw [lg_entry_eq]
  generalize (lg_sl ([.ref k, .int x0]) ++ List.replicate (2 - (lg_sl ([.ref k, .int x0])).length) Slot.unset).toArray = ls at hl ⊢
  have hl : lv_has ls 2 [(0, .ref k), (1, .int x0)] := hl
  refine lv_aload_n hx hb dJ0_indexOf_0f7a4_0 rfl (lv_at hl 0 rfl) ?_
  refine lv_iload_n hx hb dJ0_indexOf_0f7a4_1 rfl (lv_at hl 1 rfl) ?_
  refine lv_iconst (v := (0 : Int32)) hx hb dJ0_indexOf_0f7a4_2 (by decide) ?_
  refine jV_i ⟨hx, hb, hml, hown, hts⟩ (c_J0_indexOf_7cf53 l k t x0) (cwV 2 hts gJ0_indexOf_0f7a4_J0_indexOf_7cf53 rfl rfl rfl (by decide +kernel) ⟨Nat.le_of_ble_eq_true rfl, Nat.le_of_ble_eq_true rfl⟩) hE hS (hE.recv hS) rfl hl.1 (rest := []) rfl (Nat.le_of_ble_eq_true rfl) dJ0_indexOf_0f7a4_3 (Nat.zero_le _) (Nat.zero_le _) (fun r h => ?_)
  exact ri_ret hx hb hr hlocks h dJ0_indexOf_0f7a4_6
