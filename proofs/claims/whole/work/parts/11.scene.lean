def wp_X1_add (post : (Nat → Int32) → (Nat → Nat → Int32) → Int64 → Prop) (v : Nat → Int32) (f : Nat → Nat → Int32) (z : Int64) (a0 : Int32) : Prop := (((30 : Int32) ≤ (v 2) → post v f z) ∧ (¬ (30 : Int32) ≤ (v 2) → (vp_in (v 2) 30 ∧ post (upd v 2 ((v 2) + (1 : Int32))) (va_up f 0 (upd (f 0) (v 2).toNatClampNeg a0)) z)))
def rmX1_add : Room := { frames := 0, cells := 0, slots := 0, locals := 0 }
set_option maxHeartbeats 4000000 in
set_option maxRecDepth 100000 in
theorem c_X1_add (l : Launch) (D : va_G) (cI : ClassId) (q : Nat → Nat) (sz : Nat) (post : (Nat → Int32) → (Nat → Nat → Int32) → Int64 → Prop) (v : Nat → Int32) (f : Nat → Nat → Int32) (z : Int64) (a0 : Int32) (h : wp_X1_add post v f z a0) : Met l yX1_add wsX1_add rmX1_add (va_Pc [.ref (q 1), .int a0] (mP D cI (wX cI q v f z) sz)) (mQv post D cI (wX cI q) (va_A (wX cI q v f z) sz)) 0 0 (va_A (wX cI q v f z) sz) := by
  refine Met.ofW (cc := cX1_add) (maxL := 2) (ret := none) (by decide) rfl ?_
  intro p e s m args below meth c s₁ B hml hv
  obtain ⟨rfl, hsz, ⟨hP, hK, hN⟩, hD0⟩ := hv
  have hx := B.exec
  have hb := B.bytes
  have hr := B.returns
  have hts := atoms_spec (ws := wsX1_add) B.pre
  have hown : s.vm.findClass RX1 = some m.cls := findClass_of_methodNamed B.named
  have hlocks : meth.locks = false := B.notSynchronized
  subst hsz
  have hD := hD0.self (sz := s.heap.size)
  generalize hAe : va_A (wX cI q v f z) s.heap.size = A at hD ⊢
  have hA : ∀ q : Nat, s.heap.size ≤ q → A q := fun q h => by rw [← hAe]; exact Or.inr h
  have hS : va_S A s.heap s.heap [] := va_S.rf
  have iX1 : ∀ w ∈ wsX10, w ∈ wsX1_add := fun _ h9 => List.mem_cons_of_mem _ (List.mem_append_right _ h9)
  have k15 := hts (.fieldLink RX1 15 "EndedByOthers$Page" "length" "I") (by decide +kernel)
  have k9 := hts (.fieldLink RX1 9 "EndedByOthers$Page" "codes" "[I") (by decide +kernel)
  have hl := lv_entry ([.ref (q 1), .int a0]) (n := 2) (Nat.le_of_ble_eq_true rfl)
  rw [lg_entry_eq]
  generalize (lg_sl ([.ref (q 1), .int a0]) ++ List.replicate (2 - (lg_sl ([.ref (q 1), .int a0])).length) Slot.unset).toArray = ls at hl ⊢
  have hl : lv_has ls 2 [(0, .ref (q 1)), (1, .int a0)] := hl
  unfold wp_X1_add at h
  refine lv_aload_n hx hb dX1_add_0 rfl (lv_at hl 0 rfl) ?_
  refine xg_s2 (x := v 2) hx hb hts iX1 hown hK hP k15 rfl dX1_add_1 ?_
  refine lv_bipush (v := (30 : Int32)) hx hb dX1_add_4 (by decide) ?_
  refine lv_icmp_ge (tgt := 29) hx hb dX1_add_6 (by decide) (fun c9 => ?_) (fun c9 => ?_)
  · have h := h.1 c9
    exact mv_ret (v, f, z) hx hb hr hlocks h hK hP hD hS dX1_add_29
  · have h := h.2 c9
    refine lv_aload_n hx hb dX1_add_9 rfl (lv_at hl 0 rfl) ?_
    refine xg_r1_2 hx hb hts iX1 hown hK hP k9 dX1_add_10 ?_
    refine lv_aload_n hx hb dX1_add_13 rfl (lv_at hl 0 rfl) ?_
    refine xg_s2 (x := v 2) hx hb hts iX1 hown hK hP k15 rfl dX1_add_14 ?_
    refine lv_iload_n hx hb dX1_add_17 rfl (lv_at hl 1 rfl) ?_
    obtain ⟨h9, h⟩ := h
    refine xas_0 hx hb hK hP hD hS h9 dX1_add_18 (fun H locs hP hD hS => ?_)
    have hP : va_P D vwCl (wX cI q v (va_up f 0 (upd (f 0) (v 2).toNatClampNeg a0)) z) H := hP
    have hD : va_D A (wX cI q v (va_up f 0 (upd (f 0) (v 2).toNatClampNeg a0)) z) := hD
    refine lv_aload_n hx hb dX1_add_19 rfl (lv_at hl 0 rfl) ?_
    refine lv_dup hx hb dX1_add_20 rfl ?_
    refine xg_s2 (x := v 2) hx hb hts iX1 hown hK hP k15 rfl dX1_add_21 ?_
    refine lv_iconst (v := (1 : Int32)) hx hb dX1_add_24 (by decide) ?_
    refine lv_iadd hx hb dX1_add_25 ?_
    refine xp_s2 hx hb hts iX1 hown hK hP hD hS k15 dX1_add_26 (fun H locs hP hD hS => ?_)
    exact mv_ret (upd v 2 ((v 2) + (1 : Int32)), va_up f 0 (upd (f 0) (v 2).toNatClampNeg a0), z) hx hb hr hlocks h hK hP hD hS dX1_add_29
def wp_X3_clear_B2 (post : (Nat → Int32) → (Nat → Nat → Int32) → Int64 → Prop) : Nat → (Nat → Int32) → (Nat → Nat → Int32) → Int64 → Int32 → Prop
  | 0, _, _, _, _ => False
  | n2 + 1, v, f, z, x1 => (((4 : Int32) ≤ x1 → post (upd v 6 (0 : Int32)) f z) ∧ (¬ (4 : Int32) ≤ x1 → (vp_in x1 4 ∧ wp_X3_clear_B2 post n2 v (va_up f 1 (upd (f 1) (x1).toNatClampNeg (0 : Int32))) z (x1 + 1))))
def wp_X3_clear (post : (Nat → Int32) → (Nat → Nat → Int32) → Int64 → Prop) (v : Nat → Int32) (f : Nat → Nat → Int32) (z : Int64) : Prop := (∃ j9 : Nat, wp_X3_clear_B2 post j9 v f z (0 : Int32))
def rmX3_clear : Room := { frames := 0, cells := 0, slots := 0, locals := 0 }
set_option maxHeartbeats 4000000 in
set_option maxRecDepth 100000 in
theorem c_X3_clear (l : Launch) (D : va_G) (cI : ClassId) (q : Nat → Nat) (sz : Nat) (post : (Nat → Int32) → (Nat → Nat → Int32) → Int64 → Prop) (v : Nat → Int32) (f : Nat → Nat → Int32) (z : Int64) (h : wp_X3_clear post v f z) : Met l yX3_clear wsX3_clear rmX3_clear (va_Pc [.ref (q 4)] (mP D cI (wX cI q v f z) sz)) (mQv post D cI (wX cI q) (va_A (wX cI q v f z) sz)) 0 0 (va_A (wX cI q v f z) sz) := by
  refine Met.ofW (cc := cX3_clear) (maxL := 2) (ret := none) (by decide) rfl ?_
  intro p e s m args below meth c s₁ B hml hv
  obtain ⟨rfl, hsz, ⟨hP, hK, hN⟩, hD0⟩ := hv
  have hx := B.exec
  have hb := B.bytes
  have hr := B.returns
  have hts := atoms_spec (ws := wsX3_clear) B.pre
  have hown : s.vm.findClass RX3 = some m.cls := findClass_of_methodNamed B.named
  have hlocks : meth.locks = false := B.notSynchronized
  subst hsz
  have hD := hD0.self (sz := s.heap.size)
  generalize hAe : va_A (wX cI q v f z) s.heap.size = A at hD ⊢
  have hA : ∀ q : Nat, s.heap.size ≤ q → A q := fun q h => by rw [← hAe]; exact Or.inr h
  have hS : va_S A s.heap s.heap [] := va_S.rf
  have iX3 : ∀ w ∈ wsX30, w ∈ wsX3_clear := fun _ h9 => List.mem_cons_of_mem _ (List.mem_append_right _ h9)
  have k21 := hts (.fieldLink RX3 21 "EndedByOthers$Room" "speakers" "I") (by decide +kernel)
  have k9 := hts (.fieldLink RX3 9 "EndedByOthers$Room" "fitting" "[I") (by decide +kernel)
  have hl := lv_entry ([.ref (q 4)]) (n := 2) (Nat.le_of_ble_eq_true rfl)
  rw [lg_entry_eq]
  generalize (lg_sl ([.ref (q 4)]) ++ List.replicate (2 - (lg_sl ([.ref (q 4)])).length) Slot.unset).toArray = ls at hl ⊢
  have hl : lv_has ls 2 [(0, .ref (q 4))] := hl
  unfold wp_X3_clear at h
  have B2 : ∀ (n2 : Nat) (v : Nat → Int32) (f : Nat → Nat → Int32) (z : Int64) (x1 : Int32), wp_X3_clear_B2 post n2 v f z x1 → ∀ (H : Heap) (locs : List Loc), va_P D vwCl (wX cI q v f z) H → va_D A (wX cI q v f z) → va_S A s.heap H locs → ∀ (ls : Array Slot), lv_has ls 2 [(0, .ref (q 4)), (1, .int x1)] → W p l e (headSpec wsX3_clear rmX3_clear).room s m ([.ref (q 4)] : List Value).toArray below meth c H locs 0 0 (MQ below (mQv post D cI (wX cI q) A) ([.ref (q 4)] : List Value).toArray s 0 0 A) (F0 m 2 ls []) := by
    intro n2
    induction n2 with
    | zero =>
      intro v f z x1 h
      exact False.elim h
    | succ n2 ih2 =>
      intro v f z x1 h H locs hP hD hS ls hl
      rw [wp_X3_clear_B2] at h
      refine lv_iload_n hx hb dX3_clear_2 rfl (lv_at hl 1 rfl) ?_
      refine lv_iconst (v := (4 : Int32)) hx hb dX3_clear_3 (by decide) ?_
      refine lv_icmp_ge (tgt := 20) hx hb dX3_clear_4 (by decide) (fun c9 => ?_) (fun c9 => ?_)
      · have h := h.1 c9
        refine lv_aload_n hx hb dX3_clear_20 rfl (lv_at hl 0 rfl) ?_
        refine lv_iconst (v := (0 : Int32)) hx hb dX3_clear_21 (by decide) ?_
        refine xp_s6 hx hb hts iX3 hown hK hP hD hS k21 dX3_clear_22 (fun H locs hP hD hS => ?_)
        exact mv_ret (upd v 6 (0 : Int32), f, z) hx hb hr hlocks h hK hP hD hS dX3_clear_25
      · have h := h.2 c9
        refine lv_aload_n hx hb dX3_clear_7 rfl (lv_at hl 0 rfl) ?_
        refine xg_r4_5 hx hb hts iX3 hown hK hP k9 dX3_clear_8 ?_
        refine lv_iload_n hx hb dX3_clear_11 rfl (lv_at hl 1 rfl) ?_
        refine lv_iconst (v := (0 : Int32)) hx hb dX3_clear_12 (by decide) ?_
        obtain ⟨h9, h⟩ := h
        refine xas_1 hx hb hK hP hD hS h9 dX3_clear_13 (fun H locs hP hD hS => ?_)
        have hP : va_P D vwCl (wX cI q v (va_up f 1 (upd (f 1) (x1).toNatClampNeg (0 : Int32))) z) H := hP
        have hD : va_D A (wX cI q v (va_up f 1 (upd (f 1) (x1).toNatClampNeg (0 : Int32))) z) := hD
        refine lv_iinc (v := x1 + 1) (lv' := [(1, .int (x1 + 1)), (0, .ref (q 4))]) hx hb dX3_clear_14 hl (k := 1) rfl rfl (by decide) rfl (fun ls hl => ?_)
        refine lv_goto (tgt := 2) hx hb dX3_clear_17 (by decide) ?_
        exact ih2 _ _ _ _ h _ _ hP hD hS ls (lv_sub hl [1, 0] rfl)
  refine lv_iconst (v := (0 : Int32)) hx hb dX3_clear_0 (by decide) ?_
  refine lv_istore_n (lv' := [(1, .int (0 : Int32)), (0, .ref (q 4))]) hx hb dX3_clear_1 rfl hl (by decide) rfl (fun ls hl => ?_)
  obtain ⟨n9, h⟩ := h
  exact B2 n9 _ _ _ _ h _ _ hP hD hS ls (lv_sub hl [1, 0] rfl)
def wp_X3_copyFrom (post : (Nat → Int32) → (Nat → Nat → Int32) → Int64 → Prop) (v : Nat → Int32) (f : Nat → Nat → Int32) (z : Int64) : Prop := post (upd v 7 (v 6)) (va_up (va_up (va_up f 4 (va_cpy (f 1) (f 4) 0 0 4)) 5 (va_cpy (f 2) (f 5) 0 0 4)) 6 (va_cpy (f 3) (f 6) 0 0 4)) z
def rmX3_copyFrom : Room := { frames := 1, cells := 0, slots := 0, locals := 80 }
set_option maxHeartbeats 4000000 in
set_option maxRecDepth 100000 in
theorem c_X3_copyFrom (l : Launch) (D : va_G) (cI : ClassId) (q : Nat → Nat) (sz : Nat) (post : (Nat → Int32) → (Nat → Nat → Int32) → Int64 → Prop) (v : Nat → Int32) (f : Nat → Nat → Int32) (z : Int64) (h : wp_X3_copyFrom post v f z) : Met l yX3_copyFrom wsX3_copyFrom rmX3_copyFrom (va_Pc [.ref (q 8), .ref (q 4)] (mP D cI (wX cI q v f z) sz)) (mQv post D cI (wX cI q) (va_A (wX cI q v f z) sz)) 0 0 (va_A (wX cI q v f z) sz) := by
  refine Met.ofW (cc := cX3_copyFrom) (maxL := 2) (ret := none) (by decide) rfl ?_
  intro p e s m args below meth c s₁ B hml hv
  obtain ⟨rfl, hsz, ⟨hP, hK, hN⟩, hD0⟩ := hv
  have hx := B.exec
  have hb := B.bytes
  have hr := B.returns
  have hts := atoms_spec (ws := wsX3_copyFrom) B.pre
  have hown : s.vm.findClass RX3 = some m.cls := findClass_of_methodNamed B.named
  have hlocks : meth.locks = false := B.notSynchronized
  subst hsz
  have hD := hD0.self (sz := s.heap.size)
  generalize hAe : va_A (wX cI q v f z) s.heap.size = A at hD ⊢
  have hA : ∀ q : Nat, s.heap.size ≤ q → A q := fun q h => by rw [← hAe]; exact Or.inr h
  have hS : va_S A s.heap s.heap [] := va_S.rf
  have iX3 : ∀ w ∈ wsX30, w ∈ wsX3_copyFrom := fun _ h9 => List.mem_cons_of_mem _ (List.mem_append_right _ h9)
  have k15 := hts (.fieldLink RX3 15 "EndedByOthers$Room" "kinds" "[I") (by decide +kernel)
  have k18 := hts (.fieldLink RX3 18 "EndedByOthers$Room" "wants" "[I") (by decide +kernel)
  have k21 := hts (.fieldLink RX3 21 "EndedByOthers$Room" "speakers" "I") (by decide +kernel)
  have k9 := hts (.fieldLink RX3 9 "EndedByOthers$Room" "fitting" "[I") (by decide +kernel)
  have hl := lv_entry ([.ref (q 8), .ref (q 4)]) (n := 2) (Nat.le_of_ble_eq_true rfl)
  rw [lg_entry_eq]
  generalize (lg_sl ([.ref (q 8), .ref (q 4)]) ++ List.replicate (2 - (lg_sl ([.ref (q 8), .ref (q 4)])).length) Slot.unset).toArray = ls at hl ⊢
  have hl : lv_has ls 2 [(0, .ref (q 8)), (1, .ref (q 4))] := hl
  unfold wp_X3_copyFrom at h
  refine lv_aload_n hx hb dX3_copyFrom_0 rfl (lv_at hl 1 rfl) ?_
  refine xg_r4_5 hx hb hts iX3 hown hK hP k9 dX3_copyFrom_1 ?_
  refine lv_iconst (v := (0 : Int32)) hx hb dX3_copyFrom_4 (by decide) ?_
  refine lv_aload_n hx hb dX3_copyFrom_5 rfl (lv_at hl 0 rfl) ?_
  refine xg_r8_9 hx hb hts iX3 hown hK hP k9 dX3_copyFrom_6 ?_
  refine lv_iconst (v := (0 : Int32)) hx hb dX3_copyFrom_9 (by decide) ?_
  refine lv_iconst (v := (4 : Int32)) hx hb dX3_copyFrom_10 (by decide) ?_
  refine xcp_1_4 hx hb (hml.trans hl.1.symm) hown (hts (.methodLink RX3 25 arraycopyName) (by decide +kernel)) (hts (.native arraycopyName) (by decide +kernel)) (hts (.static arraycopyName) (by decide +kernel)) (hts (.initialized "java/lang/System") (by decide +kernel)) hK hP hD hS (Nat.le_of_ble_eq_true rfl) (by decide +kernel) dX3_copyFrom_11 (fun H locs hP hD hS => ?_)
  have hP : va_P D vwCl (wX cI q v (va_up f 4 (va_cpy (f 1) (f 4) 0 0 4)) z) H := hP
  have hD : va_D A (wX cI q v (va_up f 4 (va_cpy (f 1) (f 4) 0 0 4)) z) := hD
  refine lv_aload_n hx hb dX3_copyFrom_14 rfl (lv_at hl 1 rfl) ?_
  refine xg_r4_6 hx hb hts iX3 hown hK hP k15 dX3_copyFrom_15 ?_
  refine lv_iconst (v := (0 : Int32)) hx hb dX3_copyFrom_18 (by decide) ?_
  refine lv_aload_n hx hb dX3_copyFrom_19 rfl (lv_at hl 0 rfl) ?_
  refine xg_r8_10 hx hb hts iX3 hown hK hP k15 dX3_copyFrom_20 ?_
  refine lv_iconst (v := (0 : Int32)) hx hb dX3_copyFrom_23 (by decide) ?_
  refine lv_iconst (v := (4 : Int32)) hx hb dX3_copyFrom_24 (by decide) ?_
  refine xcp_2_5 hx hb (hml.trans hl.1.symm) hown (hts (.methodLink RX3 25 arraycopyName) (by decide +kernel)) (hts (.native arraycopyName) (by decide +kernel)) (hts (.static arraycopyName) (by decide +kernel)) (hts (.initialized "java/lang/System") (by decide +kernel)) hK hP hD hS (Nat.le_of_ble_eq_true rfl) (by decide +kernel) dX3_copyFrom_25 (fun H locs hP hD hS => ?_)
  have hP : va_P D vwCl (wX cI q v (va_up (va_up f 4 (va_cpy (f 1) (f 4) 0 0 4)) 5 (va_cpy (f 2) (f 5) 0 0 4)) z) H := hP
  have hD : va_D A (wX cI q v (va_up (va_up f 4 (va_cpy (f 1) (f 4) 0 0 4)) 5 (va_cpy (f 2) (f 5) 0 0 4)) z) := hD
  refine lv_aload_n hx hb dX3_copyFrom_28 rfl (lv_at hl 1 rfl) ?_
  refine xg_r4_7 hx hb hts iX3 hown hK hP k18 dX3_copyFrom_29 ?_
  refine lv_iconst (v := (0 : Int32)) hx hb dX3_copyFrom_32 (by decide) ?_
  refine lv_aload_n hx hb dX3_copyFrom_33 rfl (lv_at hl 0 rfl) ?_
  refine xg_r8_11 hx hb hts iX3 hown hK hP k18 dX3_copyFrom_34 ?_
  refine lv_iconst (v := (0 : Int32)) hx hb dX3_copyFrom_37 (by decide) ?_
  refine lv_iconst (v := (4 : Int32)) hx hb dX3_copyFrom_38 (by decide) ?_
  refine xcp_3_6 hx hb (hml.trans hl.1.symm) hown (hts (.methodLink RX3 25 arraycopyName) (by decide +kernel)) (hts (.native arraycopyName) (by decide +kernel)) (hts (.static arraycopyName) (by decide +kernel)) (hts (.initialized "java/lang/System") (by decide +kernel)) hK hP hD hS (Nat.le_of_ble_eq_true rfl) (by decide +kernel) dX3_copyFrom_39 (fun H locs hP hD hS => ?_)
  have hP : va_P D vwCl (wX cI q v (va_up (va_up (va_up f 4 (va_cpy (f 1) (f 4) 0 0 4)) 5 (va_cpy (f 2) (f 5) 0 0 4)) 6 (va_cpy (f 3) (f 6) 0 0 4)) z) H := hP
  have hD : va_D A (wX cI q v (va_up (va_up (va_up f 4 (va_cpy (f 1) (f 4) 0 0 4)) 5 (va_cpy (f 2) (f 5) 0 0 4)) 6 (va_cpy (f 3) (f 6) 0 0 4)) z) := hD
  refine lv_aload_n hx hb dX3_copyFrom_42 rfl (lv_at hl 0 rfl) ?_
  refine lv_aload_n hx hb dX3_copyFrom_43 rfl (lv_at hl 1 rfl) ?_
  refine xg_s6 (x := v 6) hx hb hts iX3 hown hK hP k21 rfl dX3_copyFrom_44 ?_
  refine xp_s7 hx hb hts iX3 hown hK hP hD hS k21 dX3_copyFrom_47 (fun H locs hP hD hS => ?_)
  exact mv_ret (upd v 7 (v 6), va_up (va_up (va_up f 4 (va_cpy (f 1) (f 4) 0 0 4)) 5 (va_cpy (f 2) (f 5) 0 0 4)) 6 (va_cpy (f 3) (f 6) 0 0 4), z) hx hb hr hlocks h hK hP hD hS dX3_copyFrom_50
def wp_X4_start (post : (Nat → Int32) → (Nat → Nat → Int32) → Int64 → Prop) (v : Nat → Int32) (f : Nat → Nat → Int32) (z : Int64) : Prop := post (upd (upd (upd v 8 (0 : Int32)) 9 (0 : Int32)) 10 (0 : Int32)) (va_up f 7 (va_cpy (f 6) (f 7) 0 0 4)) z
def rmX4_start : Room := { frames := 1, cells := 0, slots := 0, locals := 80 }
set_option maxHeartbeats 4000000 in
set_option maxRecDepth 100000 in
theorem c_X4_start (l : Launch) (D : va_G) (cI : ClassId) (q : Nat → Nat) (sz : Nat) (post : (Nat → Int32) → (Nat → Nat → Int32) → Int64 → Prop) (v : Nat → Int32) (f : Nat → Nat → Int32) (z : Int64) (h : wp_X4_start post v f z) : Met l yX4_start wsX4_start rmX4_start (va_Pc [.ref (q 12), .ref (q 11)] (mP D cI (wX cI q v f z) sz)) (mQv post D cI (wX cI q) (va_A (wX cI q v f z) sz)) 0 0 (va_A (wX cI q v f z) sz) := by
  refine Met.ofW (cc := cX4_start) (maxL := 2) (ret := none) (by decide) rfl ?_
  intro p e s m args below meth c s₁ B hml hv
  obtain ⟨rfl, hsz, ⟨hP, hK, hN⟩, hD0⟩ := hv
  have hx := B.exec
  have hb := B.bytes
  have hr := B.returns
  have hts := atoms_spec (ws := wsX4_start) B.pre
  have hown : s.vm.findClass RX4 = some m.cls := findClass_of_methodNamed B.named
  have hlocks : meth.locks = false := B.notSynchronized
  subst hsz
  have hD := hD0.self (sz := s.heap.size)
  generalize hAe : va_A (wX cI q v f z) s.heap.size = A at hD ⊢
  have hA : ∀ q : Nat, s.heap.size ≤ q → A q := fun q h => by rw [← hAe]; exact Or.inr h
  have hS : va_S A s.heap s.heap [] := va_S.rf
  have iX4 : ∀ w ∈ wsX40, w ∈ wsX4_start := fun _ h9 => List.mem_cons_of_mem _ (List.mem_append_right _ h9)
  have k27 := hts (.fieldLink RX4 27 "EndedByOthers$Scene" "sentences" "I") (by decide +kernel)
  have k40 := hts (.fieldLink RX4 40 "EndedByOthers$Scene" "heard" "I") (by decide +kernel)
  have k43 := hts (.fieldLink RX4 43 "EndedByOthers$Scene" "changes" "I") (by decide +kernel)
  have k9 := hts (.fieldLink RX4 9 "EndedByOthers$Scene" "wants" "[I") (by decide +kernel)
  have hl := lv_entry ([.ref (q 12), .ref (q 11)]) (n := 2) (Nat.le_of_ble_eq_true rfl)
  rw [lg_entry_eq]
  generalize (lg_sl ([.ref (q 12), .ref (q 11)]) ++ List.replicate (2 - (lg_sl ([.ref (q 12), .ref (q 11)])).length) Slot.unset).toArray = ls at hl ⊢
  have hl : lv_has ls 2 [(0, .ref (q 12)), (1, .ref (q 11))] := hl
  unfold wp_X4_start at h
  refine lv_aload_n hx hb dX4_start_0 rfl (lv_at hl 1 rfl) ?_
  refine lv_iconst (v := (0 : Int32)) hx hb dX4_start_1 (by decide) ?_
  refine lv_aload_n hx hb dX4_start_2 rfl (lv_at hl 0 rfl) ?_
  refine xg_r12_13 hx hb hts iX4 hown hK hP k9 dX4_start_3 ?_
  refine lv_iconst (v := (0 : Int32)) hx hb dX4_start_6 (by decide) ?_
  refine lv_iconst (v := (4 : Int32)) hx hb dX4_start_7 (by decide) ?_
  refine xcp_6_7 hx hb (hml.trans hl.1.symm) hown (hts (.methodLink RX4 46 arraycopyName) (by decide +kernel)) (hts (.native arraycopyName) (by decide +kernel)) (hts (.static arraycopyName) (by decide +kernel)) (hts (.initialized "java/lang/System") (by decide +kernel)) hK hP hD hS (Nat.le_of_ble_eq_true rfl) (by decide +kernel) dX4_start_8 (fun H locs hP hD hS => ?_)
  have hP : va_P D vwCl (wX cI q v (va_up f 7 (va_cpy (f 6) (f 7) 0 0 4)) z) H := hP
  have hD : va_D A (wX cI q v (va_up f 7 (va_cpy (f 6) (f 7) 0 0 4)) z) := hD
  refine lv_aload_n hx hb dX4_start_11 rfl (lv_at hl 0 rfl) ?_
  refine lv_iconst (v := (0 : Int32)) hx hb dX4_start_12 (by decide) ?_
  refine xp_s8 hx hb hts iX4 hown hK hP hD hS k27 dX4_start_13 (fun H locs hP hD hS => ?_)
  refine lv_aload_n hx hb dX4_start_16 rfl (lv_at hl 0 rfl) ?_
  refine lv_iconst (v := (0 : Int32)) hx hb dX4_start_17 (by decide) ?_
  refine xp_s9 hx hb hts iX4 hown hK hP hD hS k40 dX4_start_18 (fun H locs hP hD hS => ?_)
  refine lv_aload_n hx hb dX4_start_21 rfl (lv_at hl 0 rfl) ?_
  refine lv_iconst (v := (0 : Int32)) hx hb dX4_start_22 (by decide) ?_
  refine xp_s10 hx hb hts iX4 hown hK hP hD hS k43 dX4_start_23 (fun H locs hP hD hS => ?_)
  exact mv_ret (upd (upd (upd v 8 (0 : Int32)) 9 (0 : Int32)) 10 (0 : Int32), va_up f 7 (va_cpy (f 6) (f 7) 0 0 4), z) hx hb hr hlocks h hK hP hD hS dX4_start_26
def wp_X4_copyFrom_im (post : (Nat → Int32) → (Nat → Nat → Int32) → Int64 → Prop) (v : Nat → Int32) (f : Nat → Nat → Int32) (z : Int64) : Prop := post (upd (upd (upd v 11 (v 8)) 12 (v 9)) 13 (v 10)) (va_up (va_up (va_up (va_up (va_up (va_up (va_up (va_up f 15 (va_cpy (f 7) (f 15) 0 0 4)) 16 (va_cpy (f 8) (f 16) 0 0 8)) 17 (va_cpy (f 9) (f 17) 0 0 8)) 18 (va_cpy (f 10) (f 18) 0 0 8)) 19 (va_cpy (f 11) (f 19) 0 0 8)) 20 (va_cpy (f 12) (f 20) 0 0 8)) 21 (va_cpy (f 13) (f 21) 0 0 8)) 22 (va_cpy (f 14) (f 22) 0 0 8)) z
def rmX4_copyFrom_im : Room := { frames := 1, cells := 0, slots := 0, locals := 80 }
set_option maxHeartbeats 4000000 in
set_option maxRecDepth 100000 in
theorem c_X4_copyFrom_im (l : Launch) (D : va_G) (cI : ClassId) (q : Nat → Nat) (sz : Nat) (post : (Nat → Int32) → (Nat → Nat → Int32) → Int64 → Prop) (v : Nat → Int32) (f : Nat → Nat → Int32) (z : Int64) (h : wp_X4_copyFrom_im post v f z) : Met l yX4_copyFrom wsX4_copyFrom rmX4_copyFrom_im (va_Pc [.ref (q 21), .ref (q 12)] (mP D cI (wX cI q v f z) sz)) (mQv post D cI (wX cI q) (va_A (wX cI q v f z) sz)) 0 0 (va_A (wX cI q v f z) sz) := by
  refine Met.ofW (cc := cX4_copyFrom) (maxL := 2) (ret := none) (by decide) rfl ?_
  intro p e s m args below meth c s₁ B hml hv
  obtain ⟨rfl, hsz, ⟨hP, hK, hN⟩, hD0⟩ := hv
  have hx := B.exec
  have hb := B.bytes
  have hr := B.returns
  have hts := atoms_spec (ws := wsX4_copyFrom) B.pre
  have hown : s.vm.findClass RX4 = some m.cls := findClass_of_methodNamed B.named
  have hlocks : meth.locks = false := B.notSynchronized
  subst hsz
  have hD := hD0.self (sz := s.heap.size)
  generalize hAe : va_A (wX cI q v f z) s.heap.size = A at hD ⊢
  have hA : ∀ q : Nat, s.heap.size ≤ q → A q := fun q h => by rw [← hAe]; exact Or.inr h
  have hS : va_S A s.heap s.heap [] := va_S.rf
  have iX4 : ∀ w ∈ wsX40, w ∈ wsX4_copyFrom := fun _ h9 => List.mem_cons_of_mem _ (List.mem_append_right _ h9)
  have k15 := hts (.fieldLink RX4 15 "EndedByOthers$Scene" "beginners" "[I") (by decide +kernel)
  have k18 := hts (.fieldLink RX4 18 "EndedByOthers$Scene" "openings" "[I") (by decide +kernel)
  have k21 := hts (.fieldLink RX4 21 "EndedByOthers$Scene" "enders" "[I") (by decide +kernel)
  have k24 := hts (.fieldLink RX4 24 "EndedByOthers$Scene" "endings" "[I") (by decide +kernel)
  have k27 := hts (.fieldLink RX4 27 "EndedByOthers$Scene" "sentences" "I") (by decide +kernel)
  have k31 := hts (.fieldLink RX4 31 "EndedByOthers$Scene" "heardSpeakers" "[I") (by decide +kernel)
  have k34 := hts (.fieldLink RX4 34 "EndedByOthers$Scene" "heardOpenings" "[I") (by decide +kernel)
  have k37 := hts (.fieldLink RX4 37 "EndedByOthers$Scene" "heardEndings" "[I") (by decide +kernel)
  have k40 := hts (.fieldLink RX4 40 "EndedByOthers$Scene" "heard" "I") (by decide +kernel)
  have k43 := hts (.fieldLink RX4 43 "EndedByOthers$Scene" "changes" "I") (by decide +kernel)
  have k9 := hts (.fieldLink RX4 9 "EndedByOthers$Scene" "wants" "[I") (by decide +kernel)
  have hl := lv_entry ([.ref (q 21), .ref (q 12)]) (n := 2) (Nat.le_of_ble_eq_true rfl)
  rw [lg_entry_eq]
  generalize (lg_sl ([.ref (q 21), .ref (q 12)]) ++ List.replicate (2 - (lg_sl ([.ref (q 21), .ref (q 12)])).length) Slot.unset).toArray = ls at hl ⊢
  have hl : lv_has ls 2 [(0, .ref (q 21)), (1, .ref (q 12))] := hl
  unfold wp_X4_copyFrom_im at h
  refine lv_aload_n hx hb dX4_copyFrom_0 rfl (lv_at hl 1 rfl) ?_
  refine xg_r12_13 hx hb hts iX4 hown hK hP k9 dX4_copyFrom_1 ?_
  refine lv_iconst (v := (0 : Int32)) hx hb dX4_copyFrom_4 (by decide) ?_
  refine lv_aload_n hx hb dX4_copyFrom_5 rfl (lv_at hl 0 rfl) ?_
  refine xg_r21_22 hx hb hts iX4 hown hK hP k9 dX4_copyFrom_6 ?_
  refine lv_iconst (v := (0 : Int32)) hx hb dX4_copyFrom_9 (by decide) ?_
  refine lv_iconst (v := (4 : Int32)) hx hb dX4_copyFrom_10 (by decide) ?_
  refine xcp_7_15 hx hb (hml.trans hl.1.symm) hown (hts (.methodLink RX4 46 arraycopyName) (by decide +kernel)) (hts (.native arraycopyName) (by decide +kernel)) (hts (.static arraycopyName) (by decide +kernel)) (hts (.initialized "java/lang/System") (by decide +kernel)) hK hP hD hS (Nat.le_of_ble_eq_true rfl) (by decide +kernel) dX4_copyFrom_11 (fun H locs hP hD hS => ?_)
  have hP : va_P D vwCl (wX cI q v (va_up f 15 (va_cpy (f 7) (f 15) 0 0 4)) z) H := hP
  have hD : va_D A (wX cI q v (va_up f 15 (va_cpy (f 7) (f 15) 0 0 4)) z) := hD
  refine lv_aload_n hx hb dX4_copyFrom_14 rfl (lv_at hl 1 rfl) ?_
  refine xg_r12_14 hx hb hts iX4 hown hK hP k15 dX4_copyFrom_15 ?_
  refine lv_iconst (v := (0 : Int32)) hx hb dX4_copyFrom_18 (by decide) ?_
  refine lv_aload_n hx hb dX4_copyFrom_19 rfl (lv_at hl 0 rfl) ?_
  refine xg_r21_23 hx hb hts iX4 hown hK hP k15 dX4_copyFrom_20 ?_
  refine lv_iconst (v := (0 : Int32)) hx hb dX4_copyFrom_23 (by decide) ?_
  refine lv_bipush (v := (8 : Int32)) hx hb dX4_copyFrom_24 (by decide) ?_
  refine xcp_8_16 hx hb (hml.trans hl.1.symm) hown (hts (.methodLink RX4 46 arraycopyName) (by decide +kernel)) (hts (.native arraycopyName) (by decide +kernel)) (hts (.static arraycopyName) (by decide +kernel)) (hts (.initialized "java/lang/System") (by decide +kernel)) hK hP hD hS (Nat.le_of_ble_eq_true rfl) (by decide +kernel) dX4_copyFrom_26 (fun H locs hP hD hS => ?_)
  have hP : va_P D vwCl (wX cI q v (va_up (va_up f 15 (va_cpy (f 7) (f 15) 0 0 4)) 16 (va_cpy (f 8) (f 16) 0 0 8)) z) H := hP
  have hD : va_D A (wX cI q v (va_up (va_up f 15 (va_cpy (f 7) (f 15) 0 0 4)) 16 (va_cpy (f 8) (f 16) 0 0 8)) z) := hD
  refine lv_aload_n hx hb dX4_copyFrom_29 rfl (lv_at hl 1 rfl) ?_
  refine xg_r12_15 hx hb hts iX4 hown hK hP k18 dX4_copyFrom_30 ?_
  refine lv_iconst (v := (0 : Int32)) hx hb dX4_copyFrom_33 (by decide) ?_
  refine lv_aload_n hx hb dX4_copyFrom_34 rfl (lv_at hl 0 rfl) ?_
  refine xg_r21_24 hx hb hts iX4 hown hK hP k18 dX4_copyFrom_35 ?_
  refine lv_iconst (v := (0 : Int32)) hx hb dX4_copyFrom_38 (by decide) ?_
  refine lv_bipush (v := (8 : Int32)) hx hb dX4_copyFrom_39 (by decide) ?_
  refine xcp_9_17 hx hb (hml.trans hl.1.symm) hown (hts (.methodLink RX4 46 arraycopyName) (by decide +kernel)) (hts (.native arraycopyName) (by decide +kernel)) (hts (.static arraycopyName) (by decide +kernel)) (hts (.initialized "java/lang/System") (by decide +kernel)) hK hP hD hS (Nat.le_of_ble_eq_true rfl) (by decide +kernel) dX4_copyFrom_41 (fun H locs hP hD hS => ?_)
  have hP : va_P D vwCl (wX cI q v (va_up (va_up (va_up f 15 (va_cpy (f 7) (f 15) 0 0 4)) 16 (va_cpy (f 8) (f 16) 0 0 8)) 17 (va_cpy (f 9) (f 17) 0 0 8)) z) H := hP
  have hD : va_D A (wX cI q v (va_up (va_up (va_up f 15 (va_cpy (f 7) (f 15) 0 0 4)) 16 (va_cpy (f 8) (f 16) 0 0 8)) 17 (va_cpy (f 9) (f 17) 0 0 8)) z) := hD
  refine lv_aload_n hx hb dX4_copyFrom_44 rfl (lv_at hl 1 rfl) ?_
  refine xg_r12_16 hx hb hts iX4 hown hK hP k21 dX4_copyFrom_45 ?_
  refine lv_iconst (v := (0 : Int32)) hx hb dX4_copyFrom_48 (by decide) ?_
  refine lv_aload_n hx hb dX4_copyFrom_49 rfl (lv_at hl 0 rfl) ?_
  refine xg_r21_25 hx hb hts iX4 hown hK hP k21 dX4_copyFrom_50 ?_
  refine lv_iconst (v := (0 : Int32)) hx hb dX4_copyFrom_53 (by decide) ?_
  refine lv_bipush (v := (8 : Int32)) hx hb dX4_copyFrom_54 (by decide) ?_
  refine xcp_10_18 hx hb (hml.trans hl.1.symm) hown (hts (.methodLink RX4 46 arraycopyName) (by decide +kernel)) (hts (.native arraycopyName) (by decide +kernel)) (hts (.static arraycopyName) (by decide +kernel)) (hts (.initialized "java/lang/System") (by decide +kernel)) hK hP hD hS (Nat.le_of_ble_eq_true rfl) (by decide +kernel) dX4_copyFrom_56 (fun H locs hP hD hS => ?_)
  have hP : va_P D vwCl (wX cI q v (va_up (va_up (va_up (va_up f 15 (va_cpy (f 7) (f 15) 0 0 4)) 16 (va_cpy (f 8) (f 16) 0 0 8)) 17 (va_cpy (f 9) (f 17) 0 0 8)) 18 (va_cpy (f 10) (f 18) 0 0 8)) z) H := hP
  have hD : va_D A (wX cI q v (va_up (va_up (va_up (va_up f 15 (va_cpy (f 7) (f 15) 0 0 4)) 16 (va_cpy (f 8) (f 16) 0 0 8)) 17 (va_cpy (f 9) (f 17) 0 0 8)) 18 (va_cpy (f 10) (f 18) 0 0 8)) z) := hD
  refine lv_aload_n hx hb dX4_copyFrom_59 rfl (lv_at hl 1 rfl) ?_
  refine xg_r12_17 hx hb hts iX4 hown hK hP k24 dX4_copyFrom_60 ?_
  refine lv_iconst (v := (0 : Int32)) hx hb dX4_copyFrom_63 (by decide) ?_
  refine lv_aload_n hx hb dX4_copyFrom_64 rfl (lv_at hl 0 rfl) ?_
  refine xg_r21_26 hx hb hts iX4 hown hK hP k24 dX4_copyFrom_65 ?_
  refine lv_iconst (v := (0 : Int32)) hx hb dX4_copyFrom_68 (by decide) ?_
  refine lv_bipush (v := (8 : Int32)) hx hb dX4_copyFrom_69 (by decide) ?_
  refine xcp_11_19 hx hb (hml.trans hl.1.symm) hown (hts (.methodLink RX4 46 arraycopyName) (by decide +kernel)) (hts (.native arraycopyName) (by decide +kernel)) (hts (.static arraycopyName) (by decide +kernel)) (hts (.initialized "java/lang/System") (by decide +kernel)) hK hP hD hS (Nat.le_of_ble_eq_true rfl) (by decide +kernel) dX4_copyFrom_71 (fun H locs hP hD hS => ?_)
  have hP : va_P D vwCl (wX cI q v (va_up (va_up (va_up (va_up (va_up f 15 (va_cpy (f 7) (f 15) 0 0 4)) 16 (va_cpy (f 8) (f 16) 0 0 8)) 17 (va_cpy (f 9) (f 17) 0 0 8)) 18 (va_cpy (f 10) (f 18) 0 0 8)) 19 (va_cpy (f 11) (f 19) 0 0 8)) z) H := hP
  have hD : va_D A (wX cI q v (va_up (va_up (va_up (va_up (va_up f 15 (va_cpy (f 7) (f 15) 0 0 4)) 16 (va_cpy (f 8) (f 16) 0 0 8)) 17 (va_cpy (f 9) (f 17) 0 0 8)) 18 (va_cpy (f 10) (f 18) 0 0 8)) 19 (va_cpy (f 11) (f 19) 0 0 8)) z) := hD
  refine lv_aload_n hx hb dX4_copyFrom_74 rfl (lv_at hl 1 rfl) ?_
  refine xg_r12_18 hx hb hts iX4 hown hK hP k31 dX4_copyFrom_75 ?_
  refine lv_iconst (v := (0 : Int32)) hx hb dX4_copyFrom_78 (by decide) ?_
  refine lv_aload_n hx hb dX4_copyFrom_79 rfl (lv_at hl 0 rfl) ?_
  refine xg_r21_27 hx hb hts iX4 hown hK hP k31 dX4_copyFrom_80 ?_
  refine lv_iconst (v := (0 : Int32)) hx hb dX4_copyFrom_83 (by decide) ?_
  refine lv_bipush (v := (8 : Int32)) hx hb dX4_copyFrom_84 (by decide) ?_
  refine xcp_12_20 hx hb (hml.trans hl.1.symm) hown (hts (.methodLink RX4 46 arraycopyName) (by decide +kernel)) (hts (.native arraycopyName) (by decide +kernel)) (hts (.static arraycopyName) (by decide +kernel)) (hts (.initialized "java/lang/System") (by decide +kernel)) hK hP hD hS (Nat.le_of_ble_eq_true rfl) (by decide +kernel) dX4_copyFrom_86 (fun H locs hP hD hS => ?_)
  have hP : va_P D vwCl (wX cI q v (va_up (va_up (va_up (va_up (va_up (va_up f 15 (va_cpy (f 7) (f 15) 0 0 4)) 16 (va_cpy (f 8) (f 16) 0 0 8)) 17 (va_cpy (f 9) (f 17) 0 0 8)) 18 (va_cpy (f 10) (f 18) 0 0 8)) 19 (va_cpy (f 11) (f 19) 0 0 8)) 20 (va_cpy (f 12) (f 20) 0 0 8)) z) H := hP
  have hD : va_D A (wX cI q v (va_up (va_up (va_up (va_up (va_up (va_up f 15 (va_cpy (f 7) (f 15) 0 0 4)) 16 (va_cpy (f 8) (f 16) 0 0 8)) 17 (va_cpy (f 9) (f 17) 0 0 8)) 18 (va_cpy (f 10) (f 18) 0 0 8)) 19 (va_cpy (f 11) (f 19) 0 0 8)) 20 (va_cpy (f 12) (f 20) 0 0 8)) z) := hD
  refine lv_aload_n hx hb dX4_copyFrom_89 rfl (lv_at hl 1 rfl) ?_
  refine xg_r12_19 hx hb hts iX4 hown hK hP k34 dX4_copyFrom_90 ?_
  refine lv_iconst (v := (0 : Int32)) hx hb dX4_copyFrom_93 (by decide) ?_
  refine lv_aload_n hx hb dX4_copyFrom_94 rfl (lv_at hl 0 rfl) ?_
  refine xg_r21_28 hx hb hts iX4 hown hK hP k34 dX4_copyFrom_95 ?_
  refine lv_iconst (v := (0 : Int32)) hx hb dX4_copyFrom_98 (by decide) ?_
  refine lv_bipush (v := (8 : Int32)) hx hb dX4_copyFrom_99 (by decide) ?_
  refine xcp_13_21 hx hb (hml.trans hl.1.symm) hown (hts (.methodLink RX4 46 arraycopyName) (by decide +kernel)) (hts (.native arraycopyName) (by decide +kernel)) (hts (.static arraycopyName) (by decide +kernel)) (hts (.initialized "java/lang/System") (by decide +kernel)) hK hP hD hS (Nat.le_of_ble_eq_true rfl) (by decide +kernel) dX4_copyFrom_101 (fun H locs hP hD hS => ?_)
  have hP : va_P D vwCl (wX cI q v (va_up (va_up (va_up (va_up (va_up (va_up (va_up f 15 (va_cpy (f 7) (f 15) 0 0 4)) 16 (va_cpy (f 8) (f 16) 0 0 8)) 17 (va_cpy (f 9) (f 17) 0 0 8)) 18 (va_cpy (f 10) (f 18) 0 0 8)) 19 (va_cpy (f 11) (f 19) 0 0 8)) 20 (va_cpy (f 12) (f 20) 0 0 8)) 21 (va_cpy (f 13) (f 21) 0 0 8)) z) H := hP
  have hD : va_D A (wX cI q v (va_up (va_up (va_up (va_up (va_up (va_up (va_up f 15 (va_cpy (f 7) (f 15) 0 0 4)) 16 (va_cpy (f 8) (f 16) 0 0 8)) 17 (va_cpy (f 9) (f 17) 0 0 8)) 18 (va_cpy (f 10) (f 18) 0 0 8)) 19 (va_cpy (f 11) (f 19) 0 0 8)) 20 (va_cpy (f 12) (f 20) 0 0 8)) 21 (va_cpy (f 13) (f 21) 0 0 8)) z) := hD
  refine lv_aload_n hx hb dX4_copyFrom_104 rfl (lv_at hl 1 rfl) ?_
  refine xg_r12_20 hx hb hts iX4 hown hK hP k37 dX4_copyFrom_105 ?_
  refine lv_iconst (v := (0 : Int32)) hx hb dX4_copyFrom_108 (by decide) ?_
  refine lv_aload_n hx hb dX4_copyFrom_109 rfl (lv_at hl 0 rfl) ?_
  refine xg_r21_29 hx hb hts iX4 hown hK hP k37 dX4_copyFrom_110 ?_
  refine lv_iconst (v := (0 : Int32)) hx hb dX4_copyFrom_113 (by decide) ?_
  refine lv_bipush (v := (8 : Int32)) hx hb dX4_copyFrom_114 (by decide) ?_
  refine xcp_14_22 hx hb (hml.trans hl.1.symm) hown (hts (.methodLink RX4 46 arraycopyName) (by decide +kernel)) (hts (.native arraycopyName) (by decide +kernel)) (hts (.static arraycopyName) (by decide +kernel)) (hts (.initialized "java/lang/System") (by decide +kernel)) hK hP hD hS (Nat.le_of_ble_eq_true rfl) (by decide +kernel) dX4_copyFrom_116 (fun H locs hP hD hS => ?_)
  have hP : va_P D vwCl (wX cI q v (va_up (va_up (va_up (va_up (va_up (va_up (va_up (va_up f 15 (va_cpy (f 7) (f 15) 0 0 4)) 16 (va_cpy (f 8) (f 16) 0 0 8)) 17 (va_cpy (f 9) (f 17) 0 0 8)) 18 (va_cpy (f 10) (f 18) 0 0 8)) 19 (va_cpy (f 11) (f 19) 0 0 8)) 20 (va_cpy (f 12) (f 20) 0 0 8)) 21 (va_cpy (f 13) (f 21) 0 0 8)) 22 (va_cpy (f 14) (f 22) 0 0 8)) z) H := hP
  have hD : va_D A (wX cI q v (va_up (va_up (va_up (va_up (va_up (va_up (va_up (va_up f 15 (va_cpy (f 7) (f 15) 0 0 4)) 16 (va_cpy (f 8) (f 16) 0 0 8)) 17 (va_cpy (f 9) (f 17) 0 0 8)) 18 (va_cpy (f 10) (f 18) 0 0 8)) 19 (va_cpy (f 11) (f 19) 0 0 8)) 20 (va_cpy (f 12) (f 20) 0 0 8)) 21 (va_cpy (f 13) (f 21) 0 0 8)) 22 (va_cpy (f 14) (f 22) 0 0 8)) z) := hD
  refine lv_aload_n hx hb dX4_copyFrom_119 rfl (lv_at hl 0 rfl) ?_
  refine lv_aload_n hx hb dX4_copyFrom_120 rfl (lv_at hl 1 rfl) ?_
  refine xg_s8 (x := v 8) hx hb hts iX4 hown hK hP k27 rfl dX4_copyFrom_121 ?_
  refine xp_s11 hx hb hts iX4 hown hK hP hD hS k27 dX4_copyFrom_124 (fun H locs hP hD hS => ?_)
  refine lv_aload_n hx hb dX4_copyFrom_127 rfl (lv_at hl 0 rfl) ?_
  refine lv_aload_n hx hb dX4_copyFrom_128 rfl (lv_at hl 1 rfl) ?_
  refine xg_s9 (x := v 9) hx hb hts iX4 hown hK hP k40 rfl dX4_copyFrom_129 ?_
  refine xp_s12 hx hb hts iX4 hown hK hP hD hS k40 dX4_copyFrom_132 (fun H locs hP hD hS => ?_)
  refine lv_aload_n hx hb dX4_copyFrom_135 rfl (lv_at hl 0 rfl) ?_
  refine lv_aload_n hx hb dX4_copyFrom_136 rfl (lv_at hl 1 rfl) ?_
  refine xg_s10 (x := v 10) hx hb hts iX4 hown hK hP k43 rfl dX4_copyFrom_137 ?_
  refine xp_s13 hx hb hts iX4 hown hK hP hD hS k43 dX4_copyFrom_140 (fun H locs hP hD hS => ?_)
  exact mv_ret (upd (upd (upd v 11 (v 8)) 12 (v 9)) 13 (v 10), va_up (va_up (va_up (va_up (va_up (va_up (va_up (va_up f 15 (va_cpy (f 7) (f 15) 0 0 4)) 16 (va_cpy (f 8) (f 16) 0 0 8)) 17 (va_cpy (f 9) (f 17) 0 0 8)) 18 (va_cpy (f 10) (f 18) 0 0 8)) 19 (va_cpy (f 11) (f 19) 0 0 8)) 20 (va_cpy (f 12) (f 20) 0 0 8)) 21 (va_cpy (f 13) (f 21) 0 0 8)) 22 (va_cpy (f 14) (f 22) 0 0 8), z) hx hb hr hlocks h hK hP hD hS dX4_copyFrom_143
def wp_X4_copyFrom_re (post : (Nat → Int32) → (Nat → Nat → Int32) → Int64 → Prop) (v : Nat → Int32) (f : Nat → Nat → Int32) (z : Int64) : Prop := post (upd (upd (upd v 8 (v 11)) 9 (v 12)) 10 (v 13)) (va_up (va_up (va_up (va_up (va_up (va_up (va_up (va_up f 7 (va_cpy (f 15) (f 7) 0 0 4)) 8 (va_cpy (f 16) (f 8) 0 0 8)) 9 (va_cpy (f 17) (f 9) 0 0 8)) 10 (va_cpy (f 18) (f 10) 0 0 8)) 11 (va_cpy (f 19) (f 11) 0 0 8)) 12 (va_cpy (f 20) (f 12) 0 0 8)) 13 (va_cpy (f 21) (f 13) 0 0 8)) 14 (va_cpy (f 22) (f 14) 0 0 8)) z
def rmX4_copyFrom_re : Room := { frames := 1, cells := 0, slots := 0, locals := 80 }
set_option maxHeartbeats 4000000 in
set_option maxRecDepth 100000 in
theorem c_X4_copyFrom_re (l : Launch) (D : va_G) (cI : ClassId) (q : Nat → Nat) (sz : Nat) (post : (Nat → Int32) → (Nat → Nat → Int32) → Int64 → Prop) (v : Nat → Int32) (f : Nat → Nat → Int32) (z : Int64) (h : wp_X4_copyFrom_re post v f z) : Met l yX4_copyFrom wsX4_copyFrom rmX4_copyFrom_re (va_Pc [.ref (q 12), .ref (q 21)] (mP D cI (wX cI q v f z) sz)) (mQv post D cI (wX cI q) (va_A (wX cI q v f z) sz)) 0 0 (va_A (wX cI q v f z) sz) := by
  refine Met.ofW (cc := cX4_copyFrom) (maxL := 2) (ret := none) (by decide) rfl ?_
  intro p e s m args below meth c s₁ B hml hv
  obtain ⟨rfl, hsz, ⟨hP, hK, hN⟩, hD0⟩ := hv
  have hx := B.exec
  have hb := B.bytes
  have hr := B.returns
  have hts := atoms_spec (ws := wsX4_copyFrom) B.pre
  have hown : s.vm.findClass RX4 = some m.cls := findClass_of_methodNamed B.named
  have hlocks : meth.locks = false := B.notSynchronized
  subst hsz
  have hD := hD0.self (sz := s.heap.size)
  generalize hAe : va_A (wX cI q v f z) s.heap.size = A at hD ⊢
  have hA : ∀ q : Nat, s.heap.size ≤ q → A q := fun q h => by rw [← hAe]; exact Or.inr h
  have hS : va_S A s.heap s.heap [] := va_S.rf
  have iX4 : ∀ w ∈ wsX40, w ∈ wsX4_copyFrom := fun _ h9 => List.mem_cons_of_mem _ (List.mem_append_right _ h9)
  have k15 := hts (.fieldLink RX4 15 "EndedByOthers$Scene" "beginners" "[I") (by decide +kernel)
  have k18 := hts (.fieldLink RX4 18 "EndedByOthers$Scene" "openings" "[I") (by decide +kernel)
  have k21 := hts (.fieldLink RX4 21 "EndedByOthers$Scene" "enders" "[I") (by decide +kernel)
  have k24 := hts (.fieldLink RX4 24 "EndedByOthers$Scene" "endings" "[I") (by decide +kernel)
  have k27 := hts (.fieldLink RX4 27 "EndedByOthers$Scene" "sentences" "I") (by decide +kernel)
  have k31 := hts (.fieldLink RX4 31 "EndedByOthers$Scene" "heardSpeakers" "[I") (by decide +kernel)
  have k34 := hts (.fieldLink RX4 34 "EndedByOthers$Scene" "heardOpenings" "[I") (by decide +kernel)
  have k37 := hts (.fieldLink RX4 37 "EndedByOthers$Scene" "heardEndings" "[I") (by decide +kernel)
  have k40 := hts (.fieldLink RX4 40 "EndedByOthers$Scene" "heard" "I") (by decide +kernel)
  have k43 := hts (.fieldLink RX4 43 "EndedByOthers$Scene" "changes" "I") (by decide +kernel)
  have k9 := hts (.fieldLink RX4 9 "EndedByOthers$Scene" "wants" "[I") (by decide +kernel)
  have hl := lv_entry ([.ref (q 12), .ref (q 21)]) (n := 2) (Nat.le_of_ble_eq_true rfl)
  rw [lg_entry_eq]
  generalize (lg_sl ([.ref (q 12), .ref (q 21)]) ++ List.replicate (2 - (lg_sl ([.ref (q 12), .ref (q 21)])).length) Slot.unset).toArray = ls at hl ⊢
  have hl : lv_has ls 2 [(0, .ref (q 12)), (1, .ref (q 21))] := hl
  unfold wp_X4_copyFrom_re at h
  refine lv_aload_n hx hb dX4_copyFrom_0 rfl (lv_at hl 1 rfl) ?_
  refine xg_r21_22 hx hb hts iX4 hown hK hP k9 dX4_copyFrom_1 ?_
  refine lv_iconst (v := (0 : Int32)) hx hb dX4_copyFrom_4 (by decide) ?_
  refine lv_aload_n hx hb dX4_copyFrom_5 rfl (lv_at hl 0 rfl) ?_
  refine xg_r12_13 hx hb hts iX4 hown hK hP k9 dX4_copyFrom_6 ?_
  refine lv_iconst (v := (0 : Int32)) hx hb dX4_copyFrom_9 (by decide) ?_
  refine lv_iconst (v := (4 : Int32)) hx hb dX4_copyFrom_10 (by decide) ?_
  refine xcp_15_7 hx hb (hml.trans hl.1.symm) hown (hts (.methodLink RX4 46 arraycopyName) (by decide +kernel)) (hts (.native arraycopyName) (by decide +kernel)) (hts (.static arraycopyName) (by decide +kernel)) (hts (.initialized "java/lang/System") (by decide +kernel)) hK hP hD hS (Nat.le_of_ble_eq_true rfl) (by decide +kernel) dX4_copyFrom_11 (fun H locs hP hD hS => ?_)
  have hP : va_P D vwCl (wX cI q v (va_up f 7 (va_cpy (f 15) (f 7) 0 0 4)) z) H := hP
  have hD : va_D A (wX cI q v (va_up f 7 (va_cpy (f 15) (f 7) 0 0 4)) z) := hD
  refine lv_aload_n hx hb dX4_copyFrom_14 rfl (lv_at hl 1 rfl) ?_
  refine xg_r21_23 hx hb hts iX4 hown hK hP k15 dX4_copyFrom_15 ?_
  refine lv_iconst (v := (0 : Int32)) hx hb dX4_copyFrom_18 (by decide) ?_
  refine lv_aload_n hx hb dX4_copyFrom_19 rfl (lv_at hl 0 rfl) ?_
  refine xg_r12_14 hx hb hts iX4 hown hK hP k15 dX4_copyFrom_20 ?_
  refine lv_iconst (v := (0 : Int32)) hx hb dX4_copyFrom_23 (by decide) ?_
  refine lv_bipush (v := (8 : Int32)) hx hb dX4_copyFrom_24 (by decide) ?_
  refine xcp_16_8 hx hb (hml.trans hl.1.symm) hown (hts (.methodLink RX4 46 arraycopyName) (by decide +kernel)) (hts (.native arraycopyName) (by decide +kernel)) (hts (.static arraycopyName) (by decide +kernel)) (hts (.initialized "java/lang/System") (by decide +kernel)) hK hP hD hS (Nat.le_of_ble_eq_true rfl) (by decide +kernel) dX4_copyFrom_26 (fun H locs hP hD hS => ?_)
  have hP : va_P D vwCl (wX cI q v (va_up (va_up f 7 (va_cpy (f 15) (f 7) 0 0 4)) 8 (va_cpy (f 16) (f 8) 0 0 8)) z) H := hP
  have hD : va_D A (wX cI q v (va_up (va_up f 7 (va_cpy (f 15) (f 7) 0 0 4)) 8 (va_cpy (f 16) (f 8) 0 0 8)) z) := hD
  refine lv_aload_n hx hb dX4_copyFrom_29 rfl (lv_at hl 1 rfl) ?_
  refine xg_r21_24 hx hb hts iX4 hown hK hP k18 dX4_copyFrom_30 ?_
  refine lv_iconst (v := (0 : Int32)) hx hb dX4_copyFrom_33 (by decide) ?_
  refine lv_aload_n hx hb dX4_copyFrom_34 rfl (lv_at hl 0 rfl) ?_
  refine xg_r12_15 hx hb hts iX4 hown hK hP k18 dX4_copyFrom_35 ?_
  refine lv_iconst (v := (0 : Int32)) hx hb dX4_copyFrom_38 (by decide) ?_
  refine lv_bipush (v := (8 : Int32)) hx hb dX4_copyFrom_39 (by decide) ?_
  refine xcp_17_9 hx hb (hml.trans hl.1.symm) hown (hts (.methodLink RX4 46 arraycopyName) (by decide +kernel)) (hts (.native arraycopyName) (by decide +kernel)) (hts (.static arraycopyName) (by decide +kernel)) (hts (.initialized "java/lang/System") (by decide +kernel)) hK hP hD hS (Nat.le_of_ble_eq_true rfl) (by decide +kernel) dX4_copyFrom_41 (fun H locs hP hD hS => ?_)
  have hP : va_P D vwCl (wX cI q v (va_up (va_up (va_up f 7 (va_cpy (f 15) (f 7) 0 0 4)) 8 (va_cpy (f 16) (f 8) 0 0 8)) 9 (va_cpy (f 17) (f 9) 0 0 8)) z) H := hP
  have hD : va_D A (wX cI q v (va_up (va_up (va_up f 7 (va_cpy (f 15) (f 7) 0 0 4)) 8 (va_cpy (f 16) (f 8) 0 0 8)) 9 (va_cpy (f 17) (f 9) 0 0 8)) z) := hD
  refine lv_aload_n hx hb dX4_copyFrom_44 rfl (lv_at hl 1 rfl) ?_
  refine xg_r21_25 hx hb hts iX4 hown hK hP k21 dX4_copyFrom_45 ?_
  refine lv_iconst (v := (0 : Int32)) hx hb dX4_copyFrom_48 (by decide) ?_
  refine lv_aload_n hx hb dX4_copyFrom_49 rfl (lv_at hl 0 rfl) ?_
  refine xg_r12_16 hx hb hts iX4 hown hK hP k21 dX4_copyFrom_50 ?_
  refine lv_iconst (v := (0 : Int32)) hx hb dX4_copyFrom_53 (by decide) ?_
  refine lv_bipush (v := (8 : Int32)) hx hb dX4_copyFrom_54 (by decide) ?_
  refine xcp_18_10 hx hb (hml.trans hl.1.symm) hown (hts (.methodLink RX4 46 arraycopyName) (by decide +kernel)) (hts (.native arraycopyName) (by decide +kernel)) (hts (.static arraycopyName) (by decide +kernel)) (hts (.initialized "java/lang/System") (by decide +kernel)) hK hP hD hS (Nat.le_of_ble_eq_true rfl) (by decide +kernel) dX4_copyFrom_56 (fun H locs hP hD hS => ?_)
  have hP : va_P D vwCl (wX cI q v (va_up (va_up (va_up (va_up f 7 (va_cpy (f 15) (f 7) 0 0 4)) 8 (va_cpy (f 16) (f 8) 0 0 8)) 9 (va_cpy (f 17) (f 9) 0 0 8)) 10 (va_cpy (f 18) (f 10) 0 0 8)) z) H := hP
  have hD : va_D A (wX cI q v (va_up (va_up (va_up (va_up f 7 (va_cpy (f 15) (f 7) 0 0 4)) 8 (va_cpy (f 16) (f 8) 0 0 8)) 9 (va_cpy (f 17) (f 9) 0 0 8)) 10 (va_cpy (f 18) (f 10) 0 0 8)) z) := hD
  refine lv_aload_n hx hb dX4_copyFrom_59 rfl (lv_at hl 1 rfl) ?_
  refine xg_r21_26 hx hb hts iX4 hown hK hP k24 dX4_copyFrom_60 ?_
  refine lv_iconst (v := (0 : Int32)) hx hb dX4_copyFrom_63 (by decide) ?_
  refine lv_aload_n hx hb dX4_copyFrom_64 rfl (lv_at hl 0 rfl) ?_
  refine xg_r12_17 hx hb hts iX4 hown hK hP k24 dX4_copyFrom_65 ?_
  refine lv_iconst (v := (0 : Int32)) hx hb dX4_copyFrom_68 (by decide) ?_
  refine lv_bipush (v := (8 : Int32)) hx hb dX4_copyFrom_69 (by decide) ?_
  refine xcp_19_11 hx hb (hml.trans hl.1.symm) hown (hts (.methodLink RX4 46 arraycopyName) (by decide +kernel)) (hts (.native arraycopyName) (by decide +kernel)) (hts (.static arraycopyName) (by decide +kernel)) (hts (.initialized "java/lang/System") (by decide +kernel)) hK hP hD hS (Nat.le_of_ble_eq_true rfl) (by decide +kernel) dX4_copyFrom_71 (fun H locs hP hD hS => ?_)
  have hP : va_P D vwCl (wX cI q v (va_up (va_up (va_up (va_up (va_up f 7 (va_cpy (f 15) (f 7) 0 0 4)) 8 (va_cpy (f 16) (f 8) 0 0 8)) 9 (va_cpy (f 17) (f 9) 0 0 8)) 10 (va_cpy (f 18) (f 10) 0 0 8)) 11 (va_cpy (f 19) (f 11) 0 0 8)) z) H := hP
  have hD : va_D A (wX cI q v (va_up (va_up (va_up (va_up (va_up f 7 (va_cpy (f 15) (f 7) 0 0 4)) 8 (va_cpy (f 16) (f 8) 0 0 8)) 9 (va_cpy (f 17) (f 9) 0 0 8)) 10 (va_cpy (f 18) (f 10) 0 0 8)) 11 (va_cpy (f 19) (f 11) 0 0 8)) z) := hD
  refine lv_aload_n hx hb dX4_copyFrom_74 rfl (lv_at hl 1 rfl) ?_
  refine xg_r21_27 hx hb hts iX4 hown hK hP k31 dX4_copyFrom_75 ?_
  refine lv_iconst (v := (0 : Int32)) hx hb dX4_copyFrom_78 (by decide) ?_
  refine lv_aload_n hx hb dX4_copyFrom_79 rfl (lv_at hl 0 rfl) ?_
  refine xg_r12_18 hx hb hts iX4 hown hK hP k31 dX4_copyFrom_80 ?_
  refine lv_iconst (v := (0 : Int32)) hx hb dX4_copyFrom_83 (by decide) ?_
  refine lv_bipush (v := (8 : Int32)) hx hb dX4_copyFrom_84 (by decide) ?_
  refine xcp_20_12 hx hb (hml.trans hl.1.symm) hown (hts (.methodLink RX4 46 arraycopyName) (by decide +kernel)) (hts (.native arraycopyName) (by decide +kernel)) (hts (.static arraycopyName) (by decide +kernel)) (hts (.initialized "java/lang/System") (by decide +kernel)) hK hP hD hS (Nat.le_of_ble_eq_true rfl) (by decide +kernel) dX4_copyFrom_86 (fun H locs hP hD hS => ?_)
  have hP : va_P D vwCl (wX cI q v (va_up (va_up (va_up (va_up (va_up (va_up f 7 (va_cpy (f 15) (f 7) 0 0 4)) 8 (va_cpy (f 16) (f 8) 0 0 8)) 9 (va_cpy (f 17) (f 9) 0 0 8)) 10 (va_cpy (f 18) (f 10) 0 0 8)) 11 (va_cpy (f 19) (f 11) 0 0 8)) 12 (va_cpy (f 20) (f 12) 0 0 8)) z) H := hP
  have hD : va_D A (wX cI q v (va_up (va_up (va_up (va_up (va_up (va_up f 7 (va_cpy (f 15) (f 7) 0 0 4)) 8 (va_cpy (f 16) (f 8) 0 0 8)) 9 (va_cpy (f 17) (f 9) 0 0 8)) 10 (va_cpy (f 18) (f 10) 0 0 8)) 11 (va_cpy (f 19) (f 11) 0 0 8)) 12 (va_cpy (f 20) (f 12) 0 0 8)) z) := hD
  refine lv_aload_n hx hb dX4_copyFrom_89 rfl (lv_at hl 1 rfl) ?_
  refine xg_r21_28 hx hb hts iX4 hown hK hP k34 dX4_copyFrom_90 ?_
  refine lv_iconst (v := (0 : Int32)) hx hb dX4_copyFrom_93 (by decide) ?_
  refine lv_aload_n hx hb dX4_copyFrom_94 rfl (lv_at hl 0 rfl) ?_
  refine xg_r12_19 hx hb hts iX4 hown hK hP k34 dX4_copyFrom_95 ?_
  refine lv_iconst (v := (0 : Int32)) hx hb dX4_copyFrom_98 (by decide) ?_
  refine lv_bipush (v := (8 : Int32)) hx hb dX4_copyFrom_99 (by decide) ?_
  refine xcp_21_13 hx hb (hml.trans hl.1.symm) hown (hts (.methodLink RX4 46 arraycopyName) (by decide +kernel)) (hts (.native arraycopyName) (by decide +kernel)) (hts (.static arraycopyName) (by decide +kernel)) (hts (.initialized "java/lang/System") (by decide +kernel)) hK hP hD hS (Nat.le_of_ble_eq_true rfl) (by decide +kernel) dX4_copyFrom_101 (fun H locs hP hD hS => ?_)
  have hP : va_P D vwCl (wX cI q v (va_up (va_up (va_up (va_up (va_up (va_up (va_up f 7 (va_cpy (f 15) (f 7) 0 0 4)) 8 (va_cpy (f 16) (f 8) 0 0 8)) 9 (va_cpy (f 17) (f 9) 0 0 8)) 10 (va_cpy (f 18) (f 10) 0 0 8)) 11 (va_cpy (f 19) (f 11) 0 0 8)) 12 (va_cpy (f 20) (f 12) 0 0 8)) 13 (va_cpy (f 21) (f 13) 0 0 8)) z) H := hP
  have hD : va_D A (wX cI q v (va_up (va_up (va_up (va_up (va_up (va_up (va_up f 7 (va_cpy (f 15) (f 7) 0 0 4)) 8 (va_cpy (f 16) (f 8) 0 0 8)) 9 (va_cpy (f 17) (f 9) 0 0 8)) 10 (va_cpy (f 18) (f 10) 0 0 8)) 11 (va_cpy (f 19) (f 11) 0 0 8)) 12 (va_cpy (f 20) (f 12) 0 0 8)) 13 (va_cpy (f 21) (f 13) 0 0 8)) z) := hD
  refine lv_aload_n hx hb dX4_copyFrom_104 rfl (lv_at hl 1 rfl) ?_
  refine xg_r21_29 hx hb hts iX4 hown hK hP k37 dX4_copyFrom_105 ?_
  refine lv_iconst (v := (0 : Int32)) hx hb dX4_copyFrom_108 (by decide) ?_
  refine lv_aload_n hx hb dX4_copyFrom_109 rfl (lv_at hl 0 rfl) ?_
  refine xg_r12_20 hx hb hts iX4 hown hK hP k37 dX4_copyFrom_110 ?_
  refine lv_iconst (v := (0 : Int32)) hx hb dX4_copyFrom_113 (by decide) ?_
  refine lv_bipush (v := (8 : Int32)) hx hb dX4_copyFrom_114 (by decide) ?_
  refine xcp_22_14 hx hb (hml.trans hl.1.symm) hown (hts (.methodLink RX4 46 arraycopyName) (by decide +kernel)) (hts (.native arraycopyName) (by decide +kernel)) (hts (.static arraycopyName) (by decide +kernel)) (hts (.initialized "java/lang/System") (by decide +kernel)) hK hP hD hS (Nat.le_of_ble_eq_true rfl) (by decide +kernel) dX4_copyFrom_116 (fun H locs hP hD hS => ?_)
  have hP : va_P D vwCl (wX cI q v (va_up (va_up (va_up (va_up (va_up (va_up (va_up (va_up f 7 (va_cpy (f 15) (f 7) 0 0 4)) 8 (va_cpy (f 16) (f 8) 0 0 8)) 9 (va_cpy (f 17) (f 9) 0 0 8)) 10 (va_cpy (f 18) (f 10) 0 0 8)) 11 (va_cpy (f 19) (f 11) 0 0 8)) 12 (va_cpy (f 20) (f 12) 0 0 8)) 13 (va_cpy (f 21) (f 13) 0 0 8)) 14 (va_cpy (f 22) (f 14) 0 0 8)) z) H := hP
  have hD : va_D A (wX cI q v (va_up (va_up (va_up (va_up (va_up (va_up (va_up (va_up f 7 (va_cpy (f 15) (f 7) 0 0 4)) 8 (va_cpy (f 16) (f 8) 0 0 8)) 9 (va_cpy (f 17) (f 9) 0 0 8)) 10 (va_cpy (f 18) (f 10) 0 0 8)) 11 (va_cpy (f 19) (f 11) 0 0 8)) 12 (va_cpy (f 20) (f 12) 0 0 8)) 13 (va_cpy (f 21) (f 13) 0 0 8)) 14 (va_cpy (f 22) (f 14) 0 0 8)) z) := hD
  refine lv_aload_n hx hb dX4_copyFrom_119 rfl (lv_at hl 0 rfl) ?_
  refine lv_aload_n hx hb dX4_copyFrom_120 rfl (lv_at hl 1 rfl) ?_
  refine xg_s11 (x := v 11) hx hb hts iX4 hown hK hP k27 rfl dX4_copyFrom_121 ?_
  refine xp_s8 hx hb hts iX4 hown hK hP hD hS k27 dX4_copyFrom_124 (fun H locs hP hD hS => ?_)
  refine lv_aload_n hx hb dX4_copyFrom_127 rfl (lv_at hl 0 rfl) ?_
  refine lv_aload_n hx hb dX4_copyFrom_128 rfl (lv_at hl 1 rfl) ?_
  refine xg_s12 (x := v 12) hx hb hts iX4 hown hK hP k40 rfl dX4_copyFrom_129 ?_
  refine xp_s9 hx hb hts iX4 hown hK hP hD hS k40 dX4_copyFrom_132 (fun H locs hP hD hS => ?_)
  refine lv_aload_n hx hb dX4_copyFrom_135 rfl (lv_at hl 0 rfl) ?_
  refine lv_aload_n hx hb dX4_copyFrom_136 rfl (lv_at hl 1 rfl) ?_
  refine xg_s13 (x := v 13) hx hb hts iX4 hown hK hP k43 rfl dX4_copyFrom_137 ?_
  refine xp_s10 hx hb hts iX4 hown hK hP hD hS k43 dX4_copyFrom_140 (fun H locs hP hD hS => ?_)
  exact mv_ret (upd (upd (upd v 8 (v 11)) 9 (v 12)) 10 (v 13), va_up (va_up (va_up (va_up (va_up (va_up (va_up (va_up f 7 (va_cpy (f 15) (f 7) 0 0 4)) 8 (va_cpy (f 16) (f 8) 0 0 8)) 9 (va_cpy (f 17) (f 9) 0 0 8)) 10 (va_cpy (f 18) (f 10) 0 0 8)) 11 (va_cpy (f 19) (f 11) 0 0 8)) 12 (va_cpy (f 20) (f 12) 0 0 8)) 13 (va_cpy (f 21) (f 13) 0 0 8)) 14 (va_cpy (f 22) (f 14) 0 0 8), z) hx hb hr hlocks h hK hP hD hS dX4_copyFrom_143
def wp_X4_addSentence (post : Int32 → (Nat → Int32) → (Nat → Nat → Int32) → Int64 → Prop) (v : Nat → Int32) (f : Nat → Nat → Int32) (z : Int64) (a0 : Int32) (a1 : Int32) : Prop := (((8 : Int32) ≤ (v 8) → post (v 8) v f z) ∧ (¬ (8 : Int32) ≤ (v 8) → (vp_in (v 8) 8 ∧ (vp_in (v 8) 8 ∧ (vp_in (v 8) 8 ∧ (vp_in (v 8) 8 ∧ post (v 8) (upd v 8 ((v 8) + (1 : Int32))) (va_up (va_up (va_up (va_up f 8 (upd (f 8) (v 8).toNatClampNeg a0)) 9 (upd (f 9) (v 8).toNatClampNeg a1)) 10 (upd (f 10) (v 8).toNatClampNeg (-1 : Int32))) 11 (upd (f 11) (v 8).toNatClampNeg (-1 : Int32))) z))))))
def rmX4_addSentence : Room := { frames := 0, cells := 0, slots := 0, locals := 0 }
set_option maxHeartbeats 4000000 in
set_option maxRecDepth 100000 in
theorem c_X4_addSentence (l : Launch) (D : va_G) (cI : ClassId) (q : Nat → Nat) (sz : Nat) (post : Int32 → (Nat → Int32) → (Nat → Nat → Int32) → Int64 → Prop) (v : Nat → Int32) (f : Nat → Nat → Int32) (z : Int64) (a0 : Int32) (a1 : Int32) (h : wp_X4_addSentence post v f z a0 a1) : Met l yX4_addSentence wsX4_addSentence rmX4_addSentence (va_Pc [.ref (q 12), .int a0, .int a1] (mP D cI (wX cI q v f z) sz)) (mQi post D cI (wX cI q) (va_A (wX cI q v f z) sz)) 0 0 (va_A (wX cI q v f z) sz) := by
  refine Met.ofW (cc := cX4_addSentence) (maxL := 4) (ret := (some .int)) (by decide) rfl ?_
  intro p e s m args below meth c s₁ B hml hv
  obtain ⟨rfl, hsz, ⟨hP, hK, hN⟩, hD0⟩ := hv
  have hx := B.exec
  have hb := B.bytes
  have hr := B.returns
  have hts := atoms_spec (ws := wsX4_addSentence) B.pre
  have hown : s.vm.findClass RX4 = some m.cls := findClass_of_methodNamed B.named
  have hlocks : meth.locks = false := B.notSynchronized
  subst hsz
  have hD := hD0.self (sz := s.heap.size)
  generalize hAe : va_A (wX cI q v f z) s.heap.size = A at hD ⊢
  have hA : ∀ q : Nat, s.heap.size ≤ q → A q := fun q h => by rw [← hAe]; exact Or.inr h
  have hS : va_S A s.heap s.heap [] := va_S.rf
  have iX4 : ∀ w ∈ wsX40, w ∈ wsX4_addSentence := fun _ h9 => List.mem_cons_of_mem _ (List.mem_append_right _ h9)
  have k15 := hts (.fieldLink RX4 15 "EndedByOthers$Scene" "beginners" "[I") (by decide +kernel)
  have k18 := hts (.fieldLink RX4 18 "EndedByOthers$Scene" "openings" "[I") (by decide +kernel)
  have k21 := hts (.fieldLink RX4 21 "EndedByOthers$Scene" "enders" "[I") (by decide +kernel)
  have k24 := hts (.fieldLink RX4 24 "EndedByOthers$Scene" "endings" "[I") (by decide +kernel)
  have k27 := hts (.fieldLink RX4 27 "EndedByOthers$Scene" "sentences" "I") (by decide +kernel)
  have hl := lv_entry ([.ref (q 12), .int a0, .int a1]) (n := 4) (Nat.le_of_ble_eq_true rfl)
  rw [lg_entry_eq]
  generalize (lg_sl ([.ref (q 12), .int a0, .int a1]) ++ List.replicate (4 - (lg_sl ([.ref (q 12), .int a0, .int a1])).length) Slot.unset).toArray = ls at hl ⊢
  have hl : lv_has ls 4 [(0, .ref (q 12)), (1, .int a0), (2, .int a1)] := hl
  unfold wp_X4_addSentence at h
  refine lv_aload_n hx hb dX4_addSentence_0 rfl (lv_at hl 0 rfl) ?_
  refine xg_s8 (x := v 8) hx hb hts iX4 hown hK hP k27 rfl dX4_addSentence_1 ?_
  refine lv_istore_n (lv' := [(3, .int (v 8)), (0, .ref (q 12)), (1, .int a0), (2, .int a1)]) hx hb dX4_addSentence_4 rfl hl (by decide) rfl (fun ls hl => ?_)
  refine lv_iload_n hx hb dX4_addSentence_5 rfl (lv_at hl 0 rfl) ?_
  refine lv_bipush (v := (8 : Int32)) hx hb dX4_addSentence_6 (by decide) ?_
  refine lv_icmp_ge (tgt := 49) hx hb dX4_addSentence_8 (by decide) (fun c9 => ?_) (fun c9 => ?_)
  · have h := h.1 c9
    refine lv_iload_n hx hb dX4_addSentence_49 rfl (lv_at hl 0 rfl) ?_
    exact mi_ret (v, f, z) hx hb hr hlocks h hK hP hD hS dX4_addSentence_50
  · have h := h.2 c9
    refine lv_aload_n hx hb dX4_addSentence_11 rfl (lv_at hl 1 rfl) ?_
    refine xg_r12_14 hx hb hts iX4 hown hK hP k15 dX4_addSentence_12 ?_
    refine lv_iload_n hx hb dX4_addSentence_15 rfl (lv_at hl 0 rfl) ?_
    refine lv_iload_n hx hb dX4_addSentence_16 rfl (lv_at hl 2 rfl) ?_
    obtain ⟨h9, h⟩ := h
    refine xas_8 hx hb hK hP hD hS h9 dX4_addSentence_17 (fun H locs hP hD hS => ?_)
    have hP : va_P D vwCl (wX cI q v (va_up f 8 (upd (f 8) (v 8).toNatClampNeg a0)) z) H := hP
    have hD : va_D A (wX cI q v (va_up f 8 (upd (f 8) (v 8).toNatClampNeg a0)) z) := hD
    refine lv_aload_n hx hb dX4_addSentence_18 rfl (lv_at hl 1 rfl) ?_
    refine xg_r12_15 hx hb hts iX4 hown hK hP k18 dX4_addSentence_19 ?_
    refine lv_iload_n hx hb dX4_addSentence_22 rfl (lv_at hl 0 rfl) ?_
    refine lv_iload_n hx hb dX4_addSentence_23 rfl (lv_at hl 3 rfl) ?_
    obtain ⟨h9, h⟩ := h
    refine xas_9 hx hb hK hP hD hS h9 dX4_addSentence_24 (fun H locs hP hD hS => ?_)
    have hP : va_P D vwCl (wX cI q v (va_up (va_up f 8 (upd (f 8) (v 8).toNatClampNeg a0)) 9 (upd (f 9) (v 8).toNatClampNeg a1)) z) H := hP
    have hD : va_D A (wX cI q v (va_up (va_up f 8 (upd (f 8) (v 8).toNatClampNeg a0)) 9 (upd (f 9) (v 8).toNatClampNeg a1)) z) := hD
    refine lv_aload_n hx hb dX4_addSentence_25 rfl (lv_at hl 1 rfl) ?_
    refine xg_r12_16 hx hb hts iX4 hown hK hP k21 dX4_addSentence_26 ?_
    refine lv_iload_n hx hb dX4_addSentence_29 rfl (lv_at hl 0 rfl) ?_
    refine lv_iconst (v := (-1 : Int32)) hx hb dX4_addSentence_30 (by decide) ?_
    obtain ⟨h9, h⟩ := h
    refine xas_10 hx hb hK hP hD hS h9 dX4_addSentence_31 (fun H locs hP hD hS => ?_)
    have hP : va_P D vwCl (wX cI q v (va_up (va_up (va_up f 8 (upd (f 8) (v 8).toNatClampNeg a0)) 9 (upd (f 9) (v 8).toNatClampNeg a1)) 10 (upd (f 10) (v 8).toNatClampNeg (-1 : Int32))) z) H := hP
    have hD : va_D A (wX cI q v (va_up (va_up (va_up f 8 (upd (f 8) (v 8).toNatClampNeg a0)) 9 (upd (f 9) (v 8).toNatClampNeg a1)) 10 (upd (f 10) (v 8).toNatClampNeg (-1 : Int32))) z) := hD
    refine lv_aload_n hx hb dX4_addSentence_32 rfl (lv_at hl 1 rfl) ?_
    refine xg_r12_17 hx hb hts iX4 hown hK hP k24 dX4_addSentence_33 ?_
    refine lv_iload_n hx hb dX4_addSentence_36 rfl (lv_at hl 0 rfl) ?_
    refine lv_iconst (v := (-1 : Int32)) hx hb dX4_addSentence_37 (by decide) ?_
    obtain ⟨h9, h⟩ := h
    refine xas_11 hx hb hK hP hD hS h9 dX4_addSentence_38 (fun H locs hP hD hS => ?_)
    have hP : va_P D vwCl (wX cI q v (va_up (va_up (va_up (va_up f 8 (upd (f 8) (v 8).toNatClampNeg a0)) 9 (upd (f 9) (v 8).toNatClampNeg a1)) 10 (upd (f 10) (v 8).toNatClampNeg (-1 : Int32))) 11 (upd (f 11) (v 8).toNatClampNeg (-1 : Int32))) z) H := hP
    have hD : va_D A (wX cI q v (va_up (va_up (va_up (va_up f 8 (upd (f 8) (v 8).toNatClampNeg a0)) 9 (upd (f 9) (v 8).toNatClampNeg a1)) 10 (upd (f 10) (v 8).toNatClampNeg (-1 : Int32))) 11 (upd (f 11) (v 8).toNatClampNeg (-1 : Int32))) z) := hD
    refine lv_aload_n hx hb dX4_addSentence_39 rfl (lv_at hl 1 rfl) ?_
    refine lv_dup hx hb dX4_addSentence_40 rfl ?_
    refine xg_s8 (x := v 8) hx hb hts iX4 hown hK hP k27 rfl dX4_addSentence_41 ?_
    refine lv_iconst (v := (1 : Int32)) hx hb dX4_addSentence_44 (by decide) ?_
    refine lv_iadd hx hb dX4_addSentence_45 ?_
    refine xp_s8 hx hb hts iX4 hown hK hP hD hS k27 dX4_addSentence_46 (fun H locs hP hD hS => ?_)
    refine lv_iload_n hx hb dX4_addSentence_49 rfl (lv_at hl 0 rfl) ?_
    exact mi_ret (upd v 8 ((v 8) + (1 : Int32)), va_up (va_up (va_up (va_up f 8 (upd (f 8) (v 8).toNatClampNeg a0)) 9 (upd (f 9) (v 8).toNatClampNeg a1)) 10 (upd (f 10) (v 8).toNatClampNeg (-1 : Int32))) 11 (upd (f 11) (v 8).toNatClampNeg (-1 : Int32)), z) hx hb hr hlocks h hK hP hD hS dX4_addSentence_50
def wp_X4_addHeard (post : (Nat → Int32) → (Nat → Nat → Int32) → Int64 → Prop) (v : Nat → Int32) (f : Nat → Nat → Int32) (z : Int64) (a0 : Int32) (a1 : Int32) (a2 : Int32) : Prop := (((8 : Int32) ≤ (v 9) → post v f z) ∧ (¬ (8 : Int32) ≤ (v 9) → (vp_in (v 9) 8 ∧ (vp_in (v 9) 8 ∧ (vp_in (v 9) 8 ∧ post (upd v 9 ((v 9) + (1 : Int32))) (va_up (va_up (va_up f 12 (upd (f 12) (v 9).toNatClampNeg a0)) 13 (upd (f 13) (v 9).toNatClampNeg a1)) 14 (upd (f 14) (v 9).toNatClampNeg a2)) z)))))
def rmX4_addHeard : Room := { frames := 0, cells := 0, slots := 0, locals := 0 }
set_option maxHeartbeats 4000000 in
set_option maxRecDepth 100000 in
theorem c_X4_addHeard (l : Launch) (D : va_G) (cI : ClassId) (q : Nat → Nat) (sz : Nat) (post : (Nat → Int32) → (Nat → Nat → Int32) → Int64 → Prop) (v : Nat → Int32) (f : Nat → Nat → Int32) (z : Int64) (a0 : Int32) (a1 : Int32) (a2 : Int32) (h : wp_X4_addHeard post v f z a0 a1 a2) : Met l yX4_addHeard wsX4_addHeard rmX4_addHeard (va_Pc [.ref (q 12), .int a0, .int a1, .int a2] (mP D cI (wX cI q v f z) sz)) (mQv post D cI (wX cI q) (va_A (wX cI q v f z) sz)) 0 0 (va_A (wX cI q v f z) sz) := by
  refine Met.ofW (cc := cX4_addHeard) (maxL := 4) (ret := none) (by decide) rfl ?_
  intro p e s m args below meth c s₁ B hml hv
  obtain ⟨rfl, hsz, ⟨hP, hK, hN⟩, hD0⟩ := hv
  have hx := B.exec
  have hb := B.bytes
  have hr := B.returns
  have hts := atoms_spec (ws := wsX4_addHeard) B.pre
  have hown : s.vm.findClass RX4 = some m.cls := findClass_of_methodNamed B.named
  have hlocks : meth.locks = false := B.notSynchronized
  subst hsz
  have hD := hD0.self (sz := s.heap.size)
  generalize hAe : va_A (wX cI q v f z) s.heap.size = A at hD ⊢
  have hA : ∀ q : Nat, s.heap.size ≤ q → A q := fun q h => by rw [← hAe]; exact Or.inr h
  have hS : va_S A s.heap s.heap [] := va_S.rf
  have iX4 : ∀ w ∈ wsX40, w ∈ wsX4_addHeard := fun _ h9 => List.mem_cons_of_mem _ (List.mem_append_right _ h9)
  have k31 := hts (.fieldLink RX4 31 "EndedByOthers$Scene" "heardSpeakers" "[I") (by decide +kernel)
  have k34 := hts (.fieldLink RX4 34 "EndedByOthers$Scene" "heardOpenings" "[I") (by decide +kernel)
  have k37 := hts (.fieldLink RX4 37 "EndedByOthers$Scene" "heardEndings" "[I") (by decide +kernel)
  have k40 := hts (.fieldLink RX4 40 "EndedByOthers$Scene" "heard" "I") (by decide +kernel)
  have hl := lv_entry ([.ref (q 12), .int a0, .int a1, .int a2]) (n := 4) (Nat.le_of_ble_eq_true rfl)
  rw [lg_entry_eq]
  generalize (lg_sl ([.ref (q 12), .int a0, .int a1, .int a2]) ++ List.replicate (4 - (lg_sl ([.ref (q 12), .int a0, .int a1, .int a2])).length) Slot.unset).toArray = ls at hl ⊢
  have hl : lv_has ls 4 [(0, .ref (q 12)), (1, .int a0), (2, .int a1), (3, .int a2)] := hl
  unfold wp_X4_addHeard at h
  refine lv_aload_n hx hb dX4_addHeard_0 rfl (lv_at hl 0 rfl) ?_
  refine xg_s9 (x := v 9) hx hb hts iX4 hown hK hP k40 rfl dX4_addHeard_1 ?_
  refine lv_bipush (v := (8 : Int32)) hx hb dX4_addHeard_4 (by decide) ?_
  refine lv_icmp_ge (tgt := 49) hx hb dX4_addHeard_6 (by decide) (fun c9 => ?_) (fun c9 => ?_)
  · have h := h.1 c9
    exact mv_ret (v, f, z) hx hb hr hlocks h hK hP hD hS dX4_addHeard_49
  · have h := h.2 c9
    refine lv_aload_n hx hb dX4_addHeard_9 rfl (lv_at hl 0 rfl) ?_
    refine xg_r12_18 hx hb hts iX4 hown hK hP k31 dX4_addHeard_10 ?_
    refine lv_aload_n hx hb dX4_addHeard_13 rfl (lv_at hl 0 rfl) ?_
    refine xg_s9 (x := v 9) hx hb hts iX4 hown hK hP k40 rfl dX4_addHeard_14 ?_
    refine lv_iload_n hx hb dX4_addHeard_17 rfl (lv_at hl 1 rfl) ?_
    obtain ⟨h9, h⟩ := h
    refine xas_12 hx hb hK hP hD hS h9 dX4_addHeard_18 (fun H locs hP hD hS => ?_)
    have hP : va_P D vwCl (wX cI q v (va_up f 12 (upd (f 12) (v 9).toNatClampNeg a0)) z) H := hP
    have hD : va_D A (wX cI q v (va_up f 12 (upd (f 12) (v 9).toNatClampNeg a0)) z) := hD
    refine lv_aload_n hx hb dX4_addHeard_19 rfl (lv_at hl 0 rfl) ?_
    refine xg_r12_19 hx hb hts iX4 hown hK hP k34 dX4_addHeard_20 ?_
    refine lv_aload_n hx hb dX4_addHeard_23 rfl (lv_at hl 0 rfl) ?_
    refine xg_s9 (x := v 9) hx hb hts iX4 hown hK hP k40 rfl dX4_addHeard_24 ?_
    refine lv_iload_n hx hb dX4_addHeard_27 rfl (lv_at hl 2 rfl) ?_
    obtain ⟨h9, h⟩ := h
    refine xas_13 hx hb hK hP hD hS h9 dX4_addHeard_28 (fun H locs hP hD hS => ?_)
    have hP : va_P D vwCl (wX cI q v (va_up (va_up f 12 (upd (f 12) (v 9).toNatClampNeg a0)) 13 (upd (f 13) (v 9).toNatClampNeg a1)) z) H := hP
    have hD : va_D A (wX cI q v (va_up (va_up f 12 (upd (f 12) (v 9).toNatClampNeg a0)) 13 (upd (f 13) (v 9).toNatClampNeg a1)) z) := hD
    refine lv_aload_n hx hb dX4_addHeard_29 rfl (lv_at hl 0 rfl) ?_
    refine xg_r12_20 hx hb hts iX4 hown hK hP k37 dX4_addHeard_30 ?_
    refine lv_aload_n hx hb dX4_addHeard_33 rfl (lv_at hl 0 rfl) ?_
    refine xg_s9 (x := v 9) hx hb hts iX4 hown hK hP k40 rfl dX4_addHeard_34 ?_
    refine lv_iload_n hx hb dX4_addHeard_37 rfl (lv_at hl 3 rfl) ?_
    obtain ⟨h9, h⟩ := h
    refine xas_14 hx hb hK hP hD hS h9 dX4_addHeard_38 (fun H locs hP hD hS => ?_)
    have hP : va_P D vwCl (wX cI q v (va_up (va_up (va_up f 12 (upd (f 12) (v 9).toNatClampNeg a0)) 13 (upd (f 13) (v 9).toNatClampNeg a1)) 14 (upd (f 14) (v 9).toNatClampNeg a2)) z) H := hP
    have hD : va_D A (wX cI q v (va_up (va_up (va_up f 12 (upd (f 12) (v 9).toNatClampNeg a0)) 13 (upd (f 13) (v 9).toNatClampNeg a1)) 14 (upd (f 14) (v 9).toNatClampNeg a2)) z) := hD
    refine lv_aload_n hx hb dX4_addHeard_39 rfl (lv_at hl 0 rfl) ?_
    refine lv_dup hx hb dX4_addHeard_40 rfl ?_
    refine xg_s9 (x := v 9) hx hb hts iX4 hown hK hP k40 rfl dX4_addHeard_41 ?_
    refine lv_iconst (v := (1 : Int32)) hx hb dX4_addHeard_44 (by decide) ?_
    refine lv_iadd hx hb dX4_addHeard_45 ?_
    refine xp_s9 hx hb hts iX4 hown hK hP hD hS k40 dX4_addHeard_46 (fun H locs hP hD hS => ?_)
    exact mv_ret (upd v 9 ((v 9) + (1 : Int32)), va_up (va_up (va_up f 12 (upd (f 12) (v 9).toNatClampNeg a0)) 13 (upd (f 13) (v 9).toNatClampNeg a1)) 14 (upd (f 14) (v 9).toNatClampNeg a2), z) hx hb hr hlocks h hK hP hD hS dX4_addHeard_49
def wp_X4_isOpen (post : Int32 → Prop) (v : Nat → Int32) (f : Nat → Nat → Int32) (z : Int64) (a0 : Int32) : Prop := (vp_in a0 8 ∧ (((f 10 (a0).toNatClampNeg) = (-1 : Int32) → post (1 : Int32)) ∧ (¬ (f 10 (a0).toNatClampNeg) = (-1 : Int32) → post (0 : Int32))))
def rmX4_isOpen : Room := { frames := 0, cells := 0, slots := 0, locals := 0 }
set_option maxHeartbeats 4000000 in
set_option maxRecDepth 100000 in
theorem c_X4_isOpen (l : Launch) (D : va_G) (cI : ClassId) (q : Nat → Nat) (post : Int32 → Prop) (v : Nat → Int32) (f : Nat → Nat → Int32) (z : Int64) (a0 : Int32) (h : wp_X4_isOpen post v f z a0) : Met l yX4_isOpen wsX4_isOpen rmX4_isOpen (va_Pc [.ref (q 12), .int a0] (rP D cI (wX cI q v f z))) (sQ post) 0 0 (fun _ => False) := by
  refine Met.ofW (cc := cX4_isOpen) (maxL := 2) (ret := (some .boolean)) (by decide) rfl ?_
  intro p e s m args below meth c s₁ B hml hv
  obtain ⟨rfl, hP, hK, hN⟩ := hv
  have hx := B.exec
  have hb := B.bytes
  have hr := B.returns
  have hts := atoms_spec (ws := wsX4_isOpen) B.pre
  have hown : s.vm.findClass RX4 = some m.cls := findClass_of_methodNamed B.named
  have hlocks : meth.locks = false := B.notSynchronized
  have iX4 : ∀ w ∈ wsX40, w ∈ wsX4_isOpen := fun _ h9 => List.mem_cons_of_mem _ (List.mem_append_right _ h9)
  have k21 := hts (.fieldLink RX4 21 "EndedByOthers$Scene" "enders" "[I") (by decide +kernel)
  have hl := lv_entry ([.ref (q 12), .int a0]) (n := 2) (Nat.le_of_ble_eq_true rfl)
  rw [lg_entry_eq]
  generalize (lg_sl ([.ref (q 12), .int a0]) ++ List.replicate (2 - (lg_sl ([.ref (q 12), .int a0])).length) Slot.unset).toArray = ls at hl ⊢
  have hl : lv_has ls 2 [(0, .ref (q 12)), (1, .int a0)] := hl
  unfold wp_X4_isOpen at h
  refine lv_aload_n hx hb dX4_isOpen_0 rfl (lv_at hl 0 rfl) ?_
  refine xg_r12_16 hx hb hts iX4 hown hK hP k21 dX4_isOpen_1 ?_
  refine lv_iload_n hx hb dX4_isOpen_4 rfl (lv_at hl 1 rfl) ?_
  obtain ⟨h9, h⟩ := h
  refine xal_10 (x := f 10 (a0).toNatClampNeg) hx hb hK hP h9 rfl dX4_isOpen_5 ?_
  refine lv_iconst (v := (-1 : Int32)) hx hb dX4_isOpen_6 (by decide) ?_
  refine lv_icmp_ne (tgt := 14) hx hb dX4_isOpen_7 (by decide) (fun c9 => ?_) (fun c9 => ?_)
  · have h := h.2 c9
    refine lv_iconst (v := (0 : Int32)) hx hb dX4_isOpen_14 (by decide) ?_
    exact rz_ret hx hb hr hlocks rfl h dX4_isOpen_15
  · have h := h.1 c9
    refine lv_iconst (v := (1 : Int32)) hx hb dX4_isOpen_10 (by decide) ?_
    refine lv_goto (tgt := 15) hx hb dX4_isOpen_11 (by decide) ?_
    exact rz_ret hx hb hr hlocks rfl h dX4_isOpen_15
def wp_X4_isAsWanted (post : Int32 → Prop) (v : Nat → Int32) (f : Nat → Nat → Int32) (z : Int64) (a0 : Int32) : Prop := (wp_X4_isOpen (fun r1 => ((r1 = 0 → (vp_in a0 8 ∧ (vp_in a0 8 ∧ (vp_in (f 8 (a0).toNatClampNeg) 4 ∧ (((f 11 (a0).toNatClampNeg) = (f 7 (f 8 (a0).toNatClampNeg).toNatClampNeg) → post (1 : Int32)) ∧ (¬ (f 11 (a0).toNatClampNeg) = (f 7 (f 8 (a0).toNatClampNeg).toNatClampNeg) → post (0 : Int32))))))) ∧ (¬ r1 = 0 → post (0 : Int32)))) v f z a0)
def rmX4_isAsWanted : Room := { frames := 1, cells := 0, slots := 0, locals := 21 }
set_option maxHeartbeats 4000000 in
set_option maxRecDepth 100000 in
theorem c_X4_isAsWanted (l : Launch) (D : va_G) (cI : ClassId) (q : Nat → Nat) (post : Int32 → Prop) (v : Nat → Int32) (f : Nat → Nat → Int32) (z : Int64) (a0 : Int32) (h : wp_X4_isAsWanted post v f z a0) : Met l yX4_isAsWanted wsX4_isAsWanted rmX4_isAsWanted (va_Pc [.ref (q 12), .int a0] (rP D cI (wX cI q v f z))) (sQ post) 0 0 (fun _ => False) := by
  refine Met.ofW (cc := cX4_isAsWanted) (maxL := 2) (ret := (some .boolean)) (by decide) rfl ?_
  intro p e s m args below meth c s₁ B hml hv
  obtain ⟨rfl, hP, hK, hN⟩ := hv
  have hx := B.exec
  have hb := B.bytes
  have hr := B.returns
  have hts := atoms_spec (ws := wsX4_isAsWanted) B.pre
  have hown : s.vm.findClass RX4 = some m.cls := findClass_of_methodNamed B.named
  have hlocks : meth.locks = false := B.notSynchronized
  have iX4 : ∀ w ∈ wsX40, w ∈ wsX4_isAsWanted := fun _ h9 => List.mem_cons_of_mem _ (List.mem_append_right _ h9)
  have k15 := hts (.fieldLink RX4 15 "EndedByOthers$Scene" "beginners" "[I") (by decide +kernel)
  have k24 := hts (.fieldLink RX4 24 "EndedByOthers$Scene" "endings" "[I") (by decide +kernel)
  have k9 := hts (.fieldLink RX4 9 "EndedByOthers$Scene" "wants" "[I") (by decide +kernel)
  have hl := lv_entry ([.ref (q 12), .int a0]) (n := 2) (Nat.le_of_ble_eq_true rfl)
  rw [lg_entry_eq]
  generalize (lg_sl ([.ref (q 12), .int a0]) ++ List.replicate (2 - (lg_sl ([.ref (q 12), .int a0])).length) Slot.unset).toArray = ls at hl ⊢
  have hl : lv_has ls 2 [(0, .ref (q 12)), (1, .int a0)] := hl
  unfold wp_X4_isAsWanted at h
  refine lv_aload_n hx hb dX4_isAsWanted_0 rfl (lv_at hl 0 rfl) ?_
  refine lv_iload_n hx hb dX4_isAsWanted_1 rfl (lv_at hl 1 rfl) ?_
  refine rV_i ⟨hx, hb, hml, hown, hts⟩ (c_X4_isOpen l D cI q _ _ _ _ _ h) (cwV 1 hts gX4_isAsWanted_X4_isOpen rfl rfl rfl (by decide +kernel) ⟨Nat.le_of_ble_eq_true rfl, Nat.le_of_ble_eq_true rfl⟩) hK hP hN (va_recv hK hP (ci := 4) (q0 := 12) rfl rfl) rfl hl.1 (rest := []) rfl (Nat.le_of_ble_eq_true rfl) dX4_isAsWanted_2 (Nat.zero_le _) (Nat.zero_le _) (fun r1 h => ?_)
  refine lv_if_ne (tgt := 32) hx hb dX4_isAsWanted_5 (by decide) (fun c9 => ?_) (fun c9 => ?_)
  · have h := h.2 c9
    refine lv_iconst (v := (0 : Int32)) hx hb dX4_isAsWanted_32 (by decide) ?_
    exact rz_ret hx hb hr hlocks rfl h dX4_isAsWanted_33
  · have h := h.1 c9
    refine lv_aload_n hx hb dX4_isAsWanted_8 rfl (lv_at hl 0 rfl) ?_
    refine xg_r12_17 hx hb hts iX4 hown hK hP k24 dX4_isAsWanted_9 ?_
    refine lv_iload_n hx hb dX4_isAsWanted_12 rfl (lv_at hl 1 rfl) ?_
    obtain ⟨h9, h⟩ := h
    refine xal_11 (x := f 11 (a0).toNatClampNeg) hx hb hK hP h9 rfl dX4_isAsWanted_13 ?_
    refine lv_aload_n hx hb dX4_isAsWanted_14 rfl (lv_at hl 0 rfl) ?_
    refine xg_r12_13 hx hb hts iX4 hown hK hP k9 dX4_isAsWanted_15 ?_
    refine lv_aload_n hx hb dX4_isAsWanted_18 rfl (lv_at hl 0 rfl) ?_
    refine xg_r12_14 hx hb hts iX4 hown hK hP k15 dX4_isAsWanted_19 ?_
    refine lv_iload_n hx hb dX4_isAsWanted_22 rfl (lv_at hl 1 rfl) ?_
    obtain ⟨h9, h⟩ := h
    refine xal_8 (x := f 8 (a0).toNatClampNeg) hx hb hK hP h9 rfl dX4_isAsWanted_23 ?_
    obtain ⟨h9, h⟩ := h
    refine xal_7 (x := f 7 (f 8 (a0).toNatClampNeg).toNatClampNeg) hx hb hK hP h9 rfl dX4_isAsWanted_24 ?_
    refine lv_icmp_ne (tgt := 32) hx hb dX4_isAsWanted_25 (by decide) (fun c9 => ?_) (fun c9 => ?_)
    · have h := h.2 c9
      refine lv_iconst (v := (0 : Int32)) hx hb dX4_isAsWanted_32 (by decide) ?_
      exact rz_ret hx hb hr hlocks rfl h dX4_isAsWanted_33
    · have h := h.1 c9
      refine lv_iconst (v := (1 : Int32)) hx hb dX4_isAsWanted_28 (by decide) ?_
      refine lv_goto (tgt := 33) hx hb dX4_isAsWanted_29 (by decide) ?_
      exact rz_ret hx hb hr hlocks rfl h dX4_isAsWanted_33
def wp_X4_openOf_B2 (post : Int32 → Prop) (v : Nat → Int32) (f : Nat → Nat → Int32) (z : Int64) : Nat → Int32 → Int32 → Prop
  | 0, _, _ => False
  | n2 + 1, x1, x2 => (((v 8) ≤ x2 → post (-1 : Int32)) ∧ (¬ (v 8) ≤ x2 → (vp_in x2 8 ∧ (((f 8 (x2).toNatClampNeg) = x1 → (wp_X4_isOpen (fun r1 => ((r1 = 0 → wp_X4_openOf_B2 post v f z n2 x1 (x2 + 1)) ∧ (¬ r1 = 0 → post x2))) v f z x2)) ∧ (¬ (f 8 (x2).toNatClampNeg) = x1 → wp_X4_openOf_B2 post v f z n2 x1 (x2 + 1))))))
def wp_X4_openOf (post : Int32 → Prop) (v : Nat → Int32) (f : Nat → Nat → Int32) (z : Int64) (a0 : Int32) : Prop := (∃ j9 : Nat, wp_X4_openOf_B2 post v f z j9 a0 (0 : Int32))
def rmX4_openOf : Room := { frames := 1, cells := 0, slots := 0, locals := 21 }
set_option maxHeartbeats 4000000 in
set_option maxRecDepth 100000 in
theorem c_X4_openOf (l : Launch) (D : va_G) (cI : ClassId) (q : Nat → Nat) (post : Int32 → Prop) (v : Nat → Int32) (f : Nat → Nat → Int32) (z : Int64) (a0 : Int32) (h : wp_X4_openOf post v f z a0) : Met l yX4_openOf wsX4_openOf rmX4_openOf (va_Pc [.ref (q 12), .int a0] (rP D cI (wX cI q v f z))) (sQ post) 0 0 (fun _ => False) := by
  refine Met.ofW (cc := cX4_openOf) (maxL := 3) (ret := (some .int)) (by decide) rfl ?_
  intro p e s m args below meth c s₁ B hml hv
  obtain ⟨rfl, hP, hK, hN⟩ := hv
  have hx := B.exec
  have hb := B.bytes
  have hr := B.returns
  have hts := atoms_spec (ws := wsX4_openOf) B.pre
  have hown : s.vm.findClass RX4 = some m.cls := findClass_of_methodNamed B.named
  have hlocks : meth.locks = false := B.notSynchronized
  have iX4 : ∀ w ∈ wsX40, w ∈ wsX4_openOf := fun _ h9 => List.mem_cons_of_mem _ (List.mem_append_right _ h9)
  have k15 := hts (.fieldLink RX4 15 "EndedByOthers$Scene" "beginners" "[I") (by decide +kernel)
  have k27 := hts (.fieldLink RX4 27 "EndedByOthers$Scene" "sentences" "I") (by decide +kernel)
  have hl := lv_entry ([.ref (q 12), .int a0]) (n := 3) (Nat.le_of_ble_eq_true rfl)
  rw [lg_entry_eq]
  generalize (lg_sl ([.ref (q 12), .int a0]) ++ List.replicate (3 - (lg_sl ([.ref (q 12), .int a0])).length) Slot.unset).toArray = ls at hl ⊢
  have hl : lv_has ls 3 [(0, .ref (q 12)), (1, .int a0)] := hl
  unfold wp_X4_openOf at h
  have B2 : ∀ (n2 : Nat) (x1 : Int32) (x2 : Int32), wp_X4_openOf_B2 post v f z n2 x1 x2 → ∀ (ls : Array Slot), lv_has ls 3 [(0, .ref (q 12)), (1, .int x1), (2, .int x2)] → W p l e (headSpec wsX4_openOf rmX4_openOf).room s m ([.ref (q 12), .int a0] : List Value).toArray below meth c s.heap [] 0 0 (MQ below (sQ post) ([.ref (q 12), .int a0] : List Value).toArray s 0 0 (fun _ => False)) (F0 m 2 ls []) := by
    intro n2
    induction n2 with
    | zero =>
      intro x1 x2 h
      exact False.elim h
    | succ n2 ih2 =>
      intro x1 x2 h ls hl
      rw [wp_X4_openOf_B2] at h
      refine lv_iload_n hx hb dX4_openOf_2 rfl (lv_at hl 2 rfl) ?_
      refine lv_aload_n hx hb dX4_openOf_3 rfl (lv_at hl 0 rfl) ?_
      refine xg_s8 (x := v 8) hx hb hts iX4 hown hK hP k27 rfl dX4_openOf_4 ?_
      refine lv_icmp_ge (tgt := 36) hx hb dX4_openOf_7 (by decide) (fun c9 => ?_) (fun c9 => ?_)
      · have h := h.1 c9
        refine lv_iconst (v := (-1 : Int32)) hx hb dX4_openOf_36 (by decide) ?_
        exact ri_ret hx hb hr hlocks h dX4_openOf_37
      · have h := h.2 c9
        refine lv_aload_n hx hb dX4_openOf_10 rfl (lv_at hl 0 rfl) ?_
        refine xg_r12_14 hx hb hts iX4 hown hK hP k15 dX4_openOf_11 ?_
        refine lv_iload_n hx hb dX4_openOf_14 rfl (lv_at hl 2 rfl) ?_
        obtain ⟨h9, h⟩ := h
        refine xal_8 (x := f 8 (x2).toNatClampNeg) hx hb hK hP h9 rfl dX4_openOf_15 ?_
        refine lv_iload_n hx hb dX4_openOf_16 rfl (lv_at hl 1 rfl) ?_
        refine lv_icmp_ne (tgt := 30) hx hb dX4_openOf_17 (by decide) (fun c9 => ?_) (fun c9 => ?_)
        · have h := h.2 c9
          refine lv_iinc (v := x2 + 1) (lv' := [(2, .int (x2 + 1)), (0, .ref (q 12)), (1, .int x1)]) hx hb dX4_openOf_30 hl (k := 2) rfl rfl (by decide) rfl (fun ls hl => ?_)
          refine lv_goto (tgt := 2) hx hb dX4_openOf_33 (by decide) ?_
          exact ih2 _ _ h ls (lv_sub hl [1, 2, 0] rfl)
        · have h := h.1 c9
          refine lv_aload_n hx hb dX4_openOf_20 rfl (lv_at hl 0 rfl) ?_
          refine lv_iload_n hx hb dX4_openOf_21 rfl (lv_at hl 2 rfl) ?_
          refine rV_i ⟨hx, hb, hml, hown, hts⟩ (c_X4_isOpen l D cI q _ _ _ _ _ h) (cwV 1 hts gX4_openOf_X4_isOpen rfl rfl rfl (by decide +kernel) ⟨Nat.le_of_ble_eq_true rfl, Nat.le_of_ble_eq_true rfl⟩) hK hP hN (va_recv hK hP (ci := 4) (q0 := 12) rfl rfl) rfl hl.1 (rest := []) rfl (Nat.le_of_ble_eq_true rfl) dX4_openOf_22 (Nat.zero_le _) (Nat.zero_le _) (fun r1 h => ?_)
          refine lv_if_eq (tgt := 30) hx hb dX4_openOf_25 (by decide) (fun c9 => ?_) (fun c9 => ?_)
          · have h := h.1 c9
            refine lv_iinc (v := x2 + 1) (lv' := [(2, .int (x2 + 1)), (0, .ref (q 12)), (1, .int x1)]) hx hb dX4_openOf_30 hl (k := 2) rfl rfl (by decide) rfl (fun ls hl => ?_)
            refine lv_goto (tgt := 2) hx hb dX4_openOf_33 (by decide) ?_
            exact ih2 _ _ h ls (lv_sub hl [1, 2, 0] rfl)
          · have h := h.2 c9
            refine lv_iload_n hx hb dX4_openOf_28 rfl (lv_at hl 2 rfl) ?_
            exact ri_ret hx hb hr hlocks h dX4_openOf_29
  refine lv_iconst (v := (0 : Int32)) hx hb dX4_openOf_0 (by decide) ?_
  refine lv_istore_n (lv' := [(2, .int (0 : Int32)), (0, .ref (q 12)), (1, .int a0)]) hx hb dX4_openOf_1 rfl hl (by decide) rfl (fun ls hl => ?_)
  obtain ⟨n9, h⟩ := h
  exact B2 n9 _ _ h ls (lv_sub hl [1, 2, 0] rfl)
def wp_X4_usedBy_B4 (post : Int32 → Prop) (v : Nat → Int32) (f : Nat → Nat → Int32) (z : Int64) : Nat → Int32 → Int32 → Int32 → Prop
  | 0, _, _, _ => False
  | n4 + 1, x1, x2, x3 => (((v 8) ≤ x3 → post x2) ∧ (¬ (v 8) ≤ x3 → (vp_in x3 8 ∧ (((f 10 (x3).toNatClampNeg) = x1 → (vp_in x3 8 ∧ wp_X4_usedBy_B4 post v f z n4 x1 (x2 ||| ((1 : Int32) <<< ((f 11 (x3).toNatClampNeg) &&& 31))) (x3 + 1))) ∧ (¬ (f 10 (x3).toNatClampNeg) = x1 → wp_X4_usedBy_B4 post v f z n4 x1 x2 (x3 + 1))))))
def wp_X4_usedBy (post : Int32 → Prop) (v : Nat → Int32) (f : Nat → Nat → Int32) (z : Int64) (a0 : Int32) : Prop := (∃ j9 : Nat, wp_X4_usedBy_B4 post v f z j9 a0 (0 : Int32) (0 : Int32))
def rmX4_usedBy : Room := { frames := 0, cells := 0, slots := 0, locals := 0 }
set_option maxHeartbeats 4000000 in
set_option maxRecDepth 100000 in
theorem c_X4_usedBy (l : Launch) (D : va_G) (cI : ClassId) (q : Nat → Nat) (post : Int32 → Prop) (v : Nat → Int32) (f : Nat → Nat → Int32) (z : Int64) (a0 : Int32) (h : wp_X4_usedBy post v f z a0) : Met l yX4_usedBy wsX4_usedBy rmX4_usedBy (va_Pc [.ref (q 12), .int a0] (rP D cI (wX cI q v f z))) (sQ post) 0 0 (fun _ => False) := by
  refine Met.ofW (cc := cX4_usedBy) (maxL := 4) (ret := (some .int)) (by decide) rfl ?_
  intro p e s m args below meth c s₁ B hml hv
  obtain ⟨rfl, hP, hK, hN⟩ := hv
  have hx := B.exec
  have hb := B.bytes
  have hr := B.returns
  have hts := atoms_spec (ws := wsX4_usedBy) B.pre
  have hown : s.vm.findClass RX4 = some m.cls := findClass_of_methodNamed B.named
  have hlocks : meth.locks = false := B.notSynchronized
  have iX4 : ∀ w ∈ wsX40, w ∈ wsX4_usedBy := fun _ h9 => List.mem_cons_of_mem _ (List.mem_append_right _ h9)
  have k21 := hts (.fieldLink RX4 21 "EndedByOthers$Scene" "enders" "[I") (by decide +kernel)
  have k24 := hts (.fieldLink RX4 24 "EndedByOthers$Scene" "endings" "[I") (by decide +kernel)
  have k27 := hts (.fieldLink RX4 27 "EndedByOthers$Scene" "sentences" "I") (by decide +kernel)
  have hl := lv_entry ([.ref (q 12), .int a0]) (n := 4) (Nat.le_of_ble_eq_true rfl)
  rw [lg_entry_eq]
  generalize (lg_sl ([.ref (q 12), .int a0]) ++ List.replicate (4 - (lg_sl ([.ref (q 12), .int a0])).length) Slot.unset).toArray = ls at hl ⊢
  have hl : lv_has ls 4 [(0, .ref (q 12)), (1, .int a0)] := hl
  unfold wp_X4_usedBy at h
  have B4 : ∀ (n4 : Nat) (x1 : Int32) (x2 : Int32) (x3 : Int32), wp_X4_usedBy_B4 post v f z n4 x1 x2 x3 → ∀ (ls : Array Slot), lv_has ls 4 [(0, .ref (q 12)), (1, .int x1), (2, .int x2), (3, .int x3)] → W p l e (headSpec wsX4_usedBy rmX4_usedBy).room s m ([.ref (q 12), .int a0] : List Value).toArray below meth c s.heap [] 0 0 (MQ below (sQ post) ([.ref (q 12), .int a0] : List Value).toArray s 0 0 (fun _ => False)) (F0 m 4 ls []) := by
    intro n4
    induction n4 with
    | zero =>
      intro x1 x2 x3 h
      exact False.elim h
    | succ n4 ih4 =>
      intro x1 x2 x3 h ls hl
      rw [wp_X4_usedBy_B4] at h
      refine lv_iload_n hx hb dX4_usedBy_4 rfl (lv_at hl 3 rfl) ?_
      refine lv_aload_n hx hb dX4_usedBy_5 rfl (lv_at hl 0 rfl) ?_
      refine xg_s8 (x := v 8) hx hb hts iX4 hown hK hP k27 rfl dX4_usedBy_6 ?_
      refine lv_icmp_ge (tgt := 39) hx hb dX4_usedBy_9 (by decide) (fun c9 => ?_) (fun c9 => ?_)
      · have h := h.1 c9
        refine lv_iload_n hx hb dX4_usedBy_39 rfl (lv_at hl 2 rfl) ?_
        exact ri_ret hx hb hr hlocks h dX4_usedBy_40
      · have h := h.2 c9
        refine lv_aload_n hx hb dX4_usedBy_12 rfl (lv_at hl 0 rfl) ?_
        refine xg_r12_16 hx hb hts iX4 hown hK hP k21 dX4_usedBy_13 ?_
        refine lv_iload_n hx hb dX4_usedBy_16 rfl (lv_at hl 3 rfl) ?_
        obtain ⟨h9, h⟩ := h
        refine xal_10 (x := f 10 (x3).toNatClampNeg) hx hb hK hP h9 rfl dX4_usedBy_17 ?_
        refine lv_iload_n hx hb dX4_usedBy_18 rfl (lv_at hl 1 rfl) ?_
        refine lv_icmp_ne (tgt := 33) hx hb dX4_usedBy_19 (by decide) (fun c9 => ?_) (fun c9 => ?_)
        · have h := h.2 c9
          refine lv_iinc (v := x3 + 1) (lv' := [(3, .int (x3 + 1)), (0, .ref (q 12)), (1, .int x1), (2, .int x2)]) hx hb dX4_usedBy_33 hl (k := 3) rfl rfl (by decide) rfl (fun ls hl => ?_)
          refine lv_goto (tgt := 4) hx hb dX4_usedBy_36 (by decide) ?_
          exact ih4 _ _ _ h ls (lv_sub hl [1, 2, 3, 0] rfl)
        · have h := h.1 c9
          refine lv_iload_n hx hb dX4_usedBy_22 rfl (lv_at hl 2 rfl) ?_
          refine lv_iconst (v := (1 : Int32)) hx hb dX4_usedBy_23 (by decide) ?_
          refine lv_aload_n hx hb dX4_usedBy_24 rfl (lv_at hl 0 rfl) ?_
          refine xg_r12_17 hx hb hts iX4 hown hK hP k24 dX4_usedBy_25 ?_
          refine lv_iload_n hx hb dX4_usedBy_28 rfl (lv_at hl 3 rfl) ?_
          obtain ⟨h9, h⟩ := h
          refine xal_11 (x := f 11 (x3).toNatClampNeg) hx hb hK hP h9 rfl dX4_usedBy_29 ?_
          refine lv_ishl hx hb dX4_usedBy_30 ?_
          refine lv_ior hx hb dX4_usedBy_31 ?_
          refine lv_istore_n (lv' := [(2, .int (x2 ||| ((1 : Int32) <<< ((f 11 (x3).toNatClampNeg) &&& 31)))), (0, .ref (q 12)), (1, .int x1), (3, .int x3)]) hx hb dX4_usedBy_32 rfl hl (by decide) rfl (fun ls hl => ?_)
          refine lv_iinc (v := x3 + 1) (lv' := [(3, .int (x3 + 1)), (2, .int (x2 ||| ((1 : Int32) <<< ((f 11 (x3).toNatClampNeg) &&& 31)))), (0, .ref (q 12)), (1, .int x1)]) hx hb dX4_usedBy_33 hl (k := 3) rfl rfl (by decide) rfl (fun ls hl => ?_)
          refine lv_goto (tgt := 4) hx hb dX4_usedBy_36 (by decide) ?_
          exact ih4 _ _ _ h ls (lv_sub hl [2, 3, 1, 0] rfl)
  refine lv_iconst (v := (0 : Int32)) hx hb dX4_usedBy_0 (by decide) ?_
  refine lv_istore_n (lv' := [(2, .int (0 : Int32)), (0, .ref (q 12)), (1, .int a0)]) hx hb dX4_usedBy_1 rfl hl (by decide) rfl (fun ls hl => ?_)
  refine lv_iconst (v := (0 : Int32)) hx hb dX4_usedBy_2 (by decide) ?_
  refine lv_istore_n (lv' := [(3, .int (0 : Int32)), (2, .int (0 : Int32)), (0, .ref (q 12)), (1, .int a0)]) hx hb dX4_usedBy_3 rfl hl (by decide) rfl (fun ls hl => ?_)
  obtain ⟨n9, h⟩ := h
  exact B4 n9 _ _ _ h ls (lv_sub hl [2, 3, 1, 0] rfl)
def wp_X4_howManyBegunBy_B4 (post : Int32 → Prop) (v : Nat → Int32) (f : Nat → Nat → Int32) (z : Int64) : Nat → Int32 → Int32 → Int32 → Prop
  | 0, _, _, _ => False
  | n4 + 1, x1, x2, x3 => (((v 8) ≤ x3 → post x2) ∧ (¬ (v 8) ≤ x3 → (vp_in x3 8 ∧ (((f 8 (x3).toNatClampNeg) = x1 → wp_X4_howManyBegunBy_B4 post v f z n4 x1 (x2 + (1 : Int32)) (x3 + 1)) ∧ (¬ (f 8 (x3).toNatClampNeg) = x1 → wp_X4_howManyBegunBy_B4 post v f z n4 x1 (x2 + (0 : Int32)) (x3 + 1))))))
def wp_X4_howManyBegunBy (post : Int32 → Prop) (v : Nat → Int32) (f : Nat → Nat → Int32) (z : Int64) (a0 : Int32) : Prop := (∃ j9 : Nat, wp_X4_howManyBegunBy_B4 post v f z j9 a0 (0 : Int32) (0 : Int32))
def rmX4_howManyBegunBy : Room := { frames := 0, cells := 0, slots := 0, locals := 0 }
set_option maxHeartbeats 4000000 in
set_option maxRecDepth 100000 in
theorem c_X4_howManyBegunBy (l : Launch) (D : va_G) (cI : ClassId) (q : Nat → Nat) (post : Int32 → Prop) (v : Nat → Int32) (f : Nat → Nat → Int32) (z : Int64) (a0 : Int32) (h : wp_X4_howManyBegunBy post v f z a0) : Met l yX4_howManyBegunBy wsX4_howManyBegunBy rmX4_howManyBegunBy (va_Pc [.ref (q 12), .int a0] (rP D cI (wX cI q v f z))) (sQ post) 0 0 (fun _ => False) := by
  refine Met.ofW (cc := cX4_howManyBegunBy) (maxL := 4) (ret := (some .int)) (by decide) rfl ?_
  intro p e s m args below meth c s₁ B hml hv
  obtain ⟨rfl, hP, hK, hN⟩ := hv
  have hx := B.exec
  have hb := B.bytes
  have hr := B.returns
  have hts := atoms_spec (ws := wsX4_howManyBegunBy) B.pre
  have hown : s.vm.findClass RX4 = some m.cls := findClass_of_methodNamed B.named
  have hlocks : meth.locks = false := B.notSynchronized
  have iX4 : ∀ w ∈ wsX40, w ∈ wsX4_howManyBegunBy := fun _ h9 => List.mem_cons_of_mem _ (List.mem_append_right _ h9)
  have k15 := hts (.fieldLink RX4 15 "EndedByOthers$Scene" "beginners" "[I") (by decide +kernel)
  have k27 := hts (.fieldLink RX4 27 "EndedByOthers$Scene" "sentences" "I") (by decide +kernel)
  have hl := lv_entry ([.ref (q 12), .int a0]) (n := 4) (Nat.le_of_ble_eq_true rfl)
  rw [lg_entry_eq]
  generalize (lg_sl ([.ref (q 12), .int a0]) ++ List.replicate (4 - (lg_sl ([.ref (q 12), .int a0])).length) Slot.unset).toArray = ls at hl ⊢
  have hl : lv_has ls 4 [(0, .ref (q 12)), (1, .int a0)] := hl
  unfold wp_X4_howManyBegunBy at h
  have B4 : ∀ (n4 : Nat) (x1 : Int32) (x2 : Int32) (x3 : Int32), wp_X4_howManyBegunBy_B4 post v f z n4 x1 x2 x3 → ∀ (ls : Array Slot), lv_has ls 4 [(0, .ref (q 12)), (1, .int x1), (2, .int x2), (3, .int x3)] → W p l e (headSpec wsX4_howManyBegunBy rmX4_howManyBegunBy).room s m ([.ref (q 12), .int a0] : List Value).toArray below meth c s.heap [] 0 0 (MQ below (sQ post) ([.ref (q 12), .int a0] : List Value).toArray s 0 0 (fun _ => False)) (F0 m 4 ls []) := by
    intro n4
    induction n4 with
    | zero =>
      intro x1 x2 x3 h
      exact False.elim h
    | succ n4 ih4 =>
      intro x1 x2 x3 h ls hl
      rw [wp_X4_howManyBegunBy_B4] at h
      refine lv_iload_n hx hb dX4_howManyBegunBy_4 rfl (lv_at hl 3 rfl) ?_
      refine lv_aload_n hx hb dX4_howManyBegunBy_5 rfl (lv_at hl 0 rfl) ?_
      refine xg_s8 (x := v 8) hx hb hts iX4 hown hK hP k27 rfl dX4_howManyBegunBy_6 ?_
      refine lv_icmp_ge (tgt := 36) hx hb dX4_howManyBegunBy_9 (by decide) (fun c9 => ?_) (fun c9 => ?_)
      · have h := h.1 c9
        refine lv_iload_n hx hb dX4_howManyBegunBy_36 rfl (lv_at hl 2 rfl) ?_
        exact ri_ret hx hb hr hlocks h dX4_howManyBegunBy_37
      · have h := h.2 c9
        refine lv_iload_n hx hb dX4_howManyBegunBy_12 rfl (lv_at hl 2 rfl) ?_
        refine lv_aload_n hx hb dX4_howManyBegunBy_13 rfl (lv_at hl 0 rfl) ?_
        refine xg_r12_14 hx hb hts iX4 hown hK hP k15 dX4_howManyBegunBy_14 ?_
        refine lv_iload_n hx hb dX4_howManyBegunBy_17 rfl (lv_at hl 3 rfl) ?_
        obtain ⟨h9, h⟩ := h
        refine xal_8 (x := f 8 (x3).toNatClampNeg) hx hb hK hP h9 rfl dX4_howManyBegunBy_18 ?_
        refine lv_iload_n hx hb dX4_howManyBegunBy_19 rfl (lv_at hl 1 rfl) ?_
        refine lv_icmp_ne (tgt := 27) hx hb dX4_howManyBegunBy_20 (by decide) (fun c9 => ?_) (fun c9 => ?_)
        · have h := h.2 c9
          refine lv_iconst (v := (0 : Int32)) hx hb dX4_howManyBegunBy_27 (by decide) ?_
          refine lv_iadd hx hb dX4_howManyBegunBy_28 ?_
          refine lv_istore_n (lv' := [(2, .int (x2 + (0 : Int32))), (0, .ref (q 12)), (1, .int x1), (3, .int x3)]) hx hb dX4_howManyBegunBy_29 rfl hl (by decide) rfl (fun ls hl => ?_)
          refine lv_iinc (v := x3 + 1) (lv' := [(3, .int (x3 + 1)), (2, .int (x2 + (0 : Int32))), (0, .ref (q 12)), (1, .int x1)]) hx hb dX4_howManyBegunBy_30 hl (k := 3) rfl rfl (by decide) rfl (fun ls hl => ?_)
          refine lv_goto (tgt := 4) hx hb dX4_howManyBegunBy_33 (by decide) ?_
          exact ih4 _ _ _ h ls (lv_sub hl [2, 3, 1, 0] rfl)
        · have h := h.1 c9
          refine lv_iconst (v := (1 : Int32)) hx hb dX4_howManyBegunBy_23 (by decide) ?_
          refine lv_goto (tgt := 28) hx hb dX4_howManyBegunBy_24 (by decide) ?_
          refine lv_iadd hx hb dX4_howManyBegunBy_28 ?_
          refine lv_istore_n (lv' := [(2, .int (x2 + (1 : Int32))), (0, .ref (q 12)), (1, .int x1), (3, .int x3)]) hx hb dX4_howManyBegunBy_29 rfl hl (by decide) rfl (fun ls hl => ?_)
          refine lv_iinc (v := x3 + 1) (lv' := [(3, .int (x3 + 1)), (2, .int (x2 + (1 : Int32))), (0, .ref (q 12)), (1, .int x1)]) hx hb dX4_howManyBegunBy_30 hl (k := 3) rfl rfl (by decide) rfl (fun ls hl => ?_)
          refine lv_goto (tgt := 4) hx hb dX4_howManyBegunBy_33 (by decide) ?_
          exact ih4 _ _ _ h ls (lv_sub hl [2, 3, 1, 0] rfl)
  refine lv_iconst (v := (0 : Int32)) hx hb dX4_howManyBegunBy_0 (by decide) ?_
  refine lv_istore_n (lv' := [(2, .int (0 : Int32)), (0, .ref (q 12)), (1, .int a0)]) hx hb dX4_howManyBegunBy_1 rfl hl (by decide) rfl (fun ls hl => ?_)
  refine lv_iconst (v := (0 : Int32)) hx hb dX4_howManyBegunBy_2 (by decide) ?_
  refine lv_istore_n (lv' := [(3, .int (0 : Int32)), (2, .int (0 : Int32)), (0, .ref (q 12)), (1, .int a0)]) hx hb dX4_howManyBegunBy_3 rfl hl (by decide) rfl (fun ls hl => ?_)
  obtain ⟨n9, h⟩ := h
  exact B4 n9 _ _ _ h ls (lv_sub hl [2, 3, 1, 0] rfl)
def wp_X4_howManyEndedBy_B4 (post : Int32 → Prop) (v : Nat → Int32) (f : Nat → Nat → Int32) (z : Int64) : Nat → Int32 → Int32 → Int32 → Prop
  | 0, _, _, _ => False
  | n4 + 1, x1, x2, x3 => (((v 8) ≤ x3 → post x2) ∧ (¬ (v 8) ≤ x3 → (vp_in x3 8 ∧ (((f 10 (x3).toNatClampNeg) = x1 → wp_X4_howManyEndedBy_B4 post v f z n4 x1 (x2 + (1 : Int32)) (x3 + 1)) ∧ (¬ (f 10 (x3).toNatClampNeg) = x1 → wp_X4_howManyEndedBy_B4 post v f z n4 x1 (x2 + (0 : Int32)) (x3 + 1))))))
def wp_X4_howManyEndedBy (post : Int32 → Prop) (v : Nat → Int32) (f : Nat → Nat → Int32) (z : Int64) (a0 : Int32) : Prop := (∃ j9 : Nat, wp_X4_howManyEndedBy_B4 post v f z j9 a0 (0 : Int32) (0 : Int32))
def rmX4_howManyEndedBy : Room := { frames := 0, cells := 0, slots := 0, locals := 0 }
set_option maxHeartbeats 4000000 in
set_option maxRecDepth 100000 in
theorem c_X4_howManyEndedBy (l : Launch) (D : va_G) (cI : ClassId) (q : Nat → Nat) (post : Int32 → Prop) (v : Nat → Int32) (f : Nat → Nat → Int32) (z : Int64) (a0 : Int32) (h : wp_X4_howManyEndedBy post v f z a0) : Met l yX4_howManyEndedBy wsX4_howManyEndedBy rmX4_howManyEndedBy (va_Pc [.ref (q 12), .int a0] (rP D cI (wX cI q v f z))) (sQ post) 0 0 (fun _ => False) := by
  refine Met.ofW (cc := cX4_howManyEndedBy) (maxL := 4) (ret := (some .int)) (by decide) rfl ?_
  intro p e s m args below meth c s₁ B hml hv
  obtain ⟨rfl, hP, hK, hN⟩ := hv
  have hx := B.exec
  have hb := B.bytes
  have hr := B.returns
  have hts := atoms_spec (ws := wsX4_howManyEndedBy) B.pre
  have hown : s.vm.findClass RX4 = some m.cls := findClass_of_methodNamed B.named
  have hlocks : meth.locks = false := B.notSynchronized
  have iX4 : ∀ w ∈ wsX40, w ∈ wsX4_howManyEndedBy := fun _ h9 => List.mem_cons_of_mem _ (List.mem_append_right _ h9)
  have k21 := hts (.fieldLink RX4 21 "EndedByOthers$Scene" "enders" "[I") (by decide +kernel)
  have k27 := hts (.fieldLink RX4 27 "EndedByOthers$Scene" "sentences" "I") (by decide +kernel)
  have hl := lv_entry ([.ref (q 12), .int a0]) (n := 4) (Nat.le_of_ble_eq_true rfl)
  rw [lg_entry_eq]
  generalize (lg_sl ([.ref (q 12), .int a0]) ++ List.replicate (4 - (lg_sl ([.ref (q 12), .int a0])).length) Slot.unset).toArray = ls at hl ⊢
  have hl : lv_has ls 4 [(0, .ref (q 12)), (1, .int a0)] := hl
  unfold wp_X4_howManyEndedBy at h
  have B4 : ∀ (n4 : Nat) (x1 : Int32) (x2 : Int32) (x3 : Int32), wp_X4_howManyEndedBy_B4 post v f z n4 x1 x2 x3 → ∀ (ls : Array Slot), lv_has ls 4 [(0, .ref (q 12)), (1, .int x1), (2, .int x2), (3, .int x3)] → W p l e (headSpec wsX4_howManyEndedBy rmX4_howManyEndedBy).room s m ([.ref (q 12), .int a0] : List Value).toArray below meth c s.heap [] 0 0 (MQ below (sQ post) ([.ref (q 12), .int a0] : List Value).toArray s 0 0 (fun _ => False)) (F0 m 4 ls []) := by
    intro n4
    induction n4 with
    | zero =>
      intro x1 x2 x3 h
      exact False.elim h
    | succ n4 ih4 =>
      intro x1 x2 x3 h ls hl
      rw [wp_X4_howManyEndedBy_B4] at h
      refine lv_iload_n hx hb dX4_howManyEndedBy_4 rfl (lv_at hl 3 rfl) ?_
      refine lv_aload_n hx hb dX4_howManyEndedBy_5 rfl (lv_at hl 0 rfl) ?_
      refine xg_s8 (x := v 8) hx hb hts iX4 hown hK hP k27 rfl dX4_howManyEndedBy_6 ?_
      refine lv_icmp_ge (tgt := 36) hx hb dX4_howManyEndedBy_9 (by decide) (fun c9 => ?_) (fun c9 => ?_)
      · have h := h.1 c9
        refine lv_iload_n hx hb dX4_howManyEndedBy_36 rfl (lv_at hl 2 rfl) ?_
        exact ri_ret hx hb hr hlocks h dX4_howManyEndedBy_37
      · have h := h.2 c9
        refine lv_iload_n hx hb dX4_howManyEndedBy_12 rfl (lv_at hl 2 rfl) ?_
        refine lv_aload_n hx hb dX4_howManyEndedBy_13 rfl (lv_at hl 0 rfl) ?_
        refine xg_r12_16 hx hb hts iX4 hown hK hP k21 dX4_howManyEndedBy_14 ?_
        refine lv_iload_n hx hb dX4_howManyEndedBy_17 rfl (lv_at hl 3 rfl) ?_
        obtain ⟨h9, h⟩ := h
        refine xal_10 (x := f 10 (x3).toNatClampNeg) hx hb hK hP h9 rfl dX4_howManyEndedBy_18 ?_
        refine lv_iload_n hx hb dX4_howManyEndedBy_19 rfl (lv_at hl 1 rfl) ?_
        refine lv_icmp_ne (tgt := 27) hx hb dX4_howManyEndedBy_20 (by decide) (fun c9 => ?_) (fun c9 => ?_)
        · have h := h.2 c9
          refine lv_iconst (v := (0 : Int32)) hx hb dX4_howManyEndedBy_27 (by decide) ?_
          refine lv_iadd hx hb dX4_howManyEndedBy_28 ?_
          refine lv_istore_n (lv' := [(2, .int (x2 + (0 : Int32))), (0, .ref (q 12)), (1, .int x1), (3, .int x3)]) hx hb dX4_howManyEndedBy_29 rfl hl (by decide) rfl (fun ls hl => ?_)
          refine lv_iinc (v := x3 + 1) (lv' := [(3, .int (x3 + 1)), (2, .int (x2 + (0 : Int32))), (0, .ref (q 12)), (1, .int x1)]) hx hb dX4_howManyEndedBy_30 hl (k := 3) rfl rfl (by decide) rfl (fun ls hl => ?_)
          refine lv_goto (tgt := 4) hx hb dX4_howManyEndedBy_33 (by decide) ?_
          exact ih4 _ _ _ h ls (lv_sub hl [2, 3, 1, 0] rfl)
        · have h := h.1 c9
          refine lv_iconst (v := (1 : Int32)) hx hb dX4_howManyEndedBy_23 (by decide) ?_
          refine lv_goto (tgt := 28) hx hb dX4_howManyEndedBy_24 (by decide) ?_
          refine lv_iadd hx hb dX4_howManyEndedBy_28 ?_
          refine lv_istore_n (lv' := [(2, .int (x2 + (1 : Int32))), (0, .ref (q 12)), (1, .int x1), (3, .int x3)]) hx hb dX4_howManyEndedBy_29 rfl hl (by decide) rfl (fun ls hl => ?_)
          refine lv_iinc (v := x3 + 1) (lv' := [(3, .int (x3 + 1)), (2, .int (x2 + (1 : Int32))), (0, .ref (q 12)), (1, .int x1)]) hx hb dX4_howManyEndedBy_30 hl (k := 3) rfl rfl (by decide) rfl (fun ls hl => ?_)
          refine lv_goto (tgt := 4) hx hb dX4_howManyEndedBy_33 (by decide) ?_
          exact ih4 _ _ _ h ls (lv_sub hl [2, 3, 1, 0] rfl)
  refine lv_iconst (v := (0 : Int32)) hx hb dX4_howManyEndedBy_0 (by decide) ?_
  refine lv_istore_n (lv' := [(2, .int (0 : Int32)), (0, .ref (q 12)), (1, .int a0)]) hx hb dX4_howManyEndedBy_1 rfl hl (by decide) rfl (fun ls hl => ?_)
  refine lv_iconst (v := (0 : Int32)) hx hb dX4_howManyEndedBy_2 (by decide) ?_
  refine lv_istore_n (lv' := [(3, .int (0 : Int32)), (2, .int (0 : Int32)), (0, .ref (q 12)), (1, .int a0)]) hx hb dX4_howManyEndedBy_3 rfl hl (by decide) rfl (fun ls hl => ?_)
  obtain ⟨n9, h⟩ := h
  exact B4 n9 _ _ _ h ls (lv_sub hl [2, 3, 1, 0] rfl)
def wp_X4_howManyOpen (post : Int32 → Prop) (v : Nat → Int32) (f : Nat → Nat → Int32) (z : Int64) : Prop := (wp_X4_howManyEndedBy (fun r1 => post r1) v f z (-1 : Int32))
def rmX4_howManyOpen : Room := { frames := 1, cells := 0, slots := 0, locals := 23 }
set_option maxHeartbeats 4000000 in
set_option maxRecDepth 100000 in
theorem c_X4_howManyOpen (l : Launch) (D : va_G) (cI : ClassId) (q : Nat → Nat) (post : Int32 → Prop) (v : Nat → Int32) (f : Nat → Nat → Int32) (z : Int64) (h : wp_X4_howManyOpen post v f z) : Met l yX4_howManyOpen wsX4_howManyOpen rmX4_howManyOpen (va_Pc [.ref (q 12)] (rP D cI (wX cI q v f z))) (sQ post) 0 0 (fun _ => False) := by
  refine Met.ofW (cc := cX4_howManyOpen) (maxL := 1) (ret := (some .int)) (by decide) rfl ?_
  intro p e s m args below meth c s₁ B hml hv
  obtain ⟨rfl, hP, hK, hN⟩ := hv
  have hx := B.exec
  have hb := B.bytes
  have hr := B.returns
  have hts := atoms_spec (ws := wsX4_howManyOpen) B.pre
  have hown : s.vm.findClass RX4 = some m.cls := findClass_of_methodNamed B.named
  have hlocks : meth.locks = false := B.notSynchronized
  have hl := lv_entry ([.ref (q 12)]) (n := 1) (Nat.le_of_ble_eq_true rfl)
  rw [lg_entry_eq]
  generalize (lg_sl ([.ref (q 12)]) ++ List.replicate (1 - (lg_sl ([.ref (q 12)])).length) Slot.unset).toArray = ls at hl ⊢
  have hl : lv_has ls 1 [(0, .ref (q 12))] := hl
  unfold wp_X4_howManyOpen at h
  refine lv_aload_n hx hb dX4_howManyOpen_0 rfl (lv_at hl 0 rfl) ?_
  refine lv_iconst (v := (-1 : Int32)) hx hb dX4_howManyOpen_1 (by decide) ?_
  refine rV_i ⟨hx, hb, hml, hown, hts⟩ (c_X4_howManyEndedBy l D cI q _ _ _ _ _ h) (cwV 1 hts gX4_howManyOpen_X4_howManyEndedBy rfl rfl rfl (by decide +kernel) ⟨Nat.le_of_ble_eq_true rfl, Nat.le_of_ble_eq_true rfl⟩) hK hP hN (va_recv hK hP (ci := 4) (q0 := 12) rfl rfl) rfl hl.1 (rest := []) rfl (Nat.le_of_ble_eq_true rfl) dX4_howManyOpen_2 (Nat.zero_le _) (Nat.zero_le _) (fun r1 h => ?_)
  exact ri_ret hx hb hr hlocks h dX4_howManyOpen_5
def wp_X4_howManyAsWanted_B4 (post : Int32 → Prop) (v : Nat → Int32) (f : Nat → Nat → Int32) (z : Int64) : Nat → Int32 → Int32 → Prop
  | 0, _, _ => False
  | n4 + 1, x1, x2 => (((v 8) ≤ x2 → post x1) ∧ (¬ (v 8) ≤ x2 → (wp_X4_isAsWanted (fun r1 => ((r1 = 0 → wp_X4_howManyAsWanted_B4 post v f z n4 (x1 + (0 : Int32)) (x2 + 1)) ∧ (¬ r1 = 0 → wp_X4_howManyAsWanted_B4 post v f z n4 (x1 + (1 : Int32)) (x2 + 1)))) v f z x2)))
def wp_X4_howManyAsWanted (post : Int32 → Prop) (v : Nat → Int32) (f : Nat → Nat → Int32) (z : Int64) : Prop := (∃ j9 : Nat, wp_X4_howManyAsWanted_B4 post v f z j9 (0 : Int32) (0 : Int32))
def rmX4_howManyAsWanted : Room := { frames := 2, cells := 0, slots := 0, locals := 42 }
set_option maxHeartbeats 4000000 in
set_option maxRecDepth 100000 in
theorem c_X4_howManyAsWanted (l : Launch) (D : va_G) (cI : ClassId) (q : Nat → Nat) (post : Int32 → Prop) (v : Nat → Int32) (f : Nat → Nat → Int32) (z : Int64) (h : wp_X4_howManyAsWanted post v f z) : Met l yX4_howManyAsWanted wsX4_howManyAsWanted rmX4_howManyAsWanted (va_Pc [.ref (q 12)] (rP D cI (wX cI q v f z))) (sQ post) 0 0 (fun _ => False) := by
  refine Met.ofW (cc := cX4_howManyAsWanted) (maxL := 3) (ret := (some .int)) (by decide) rfl ?_
  intro p e s m args below meth c s₁ B hml hv
  obtain ⟨rfl, hP, hK, hN⟩ := hv
  have hx := B.exec
  have hb := B.bytes
  have hr := B.returns
  have hts := atoms_spec (ws := wsX4_howManyAsWanted) B.pre
  have hown : s.vm.findClass RX4 = some m.cls := findClass_of_methodNamed B.named
  have hlocks : meth.locks = false := B.notSynchronized
  have iX4 : ∀ w ∈ wsX40, w ∈ wsX4_howManyAsWanted := fun _ h9 => List.mem_cons_of_mem _ (List.mem_append_right _ h9)
  have k27 := hts (.fieldLink RX4 27 "EndedByOthers$Scene" "sentences" "I") (by decide +kernel)
  have hl := lv_entry ([.ref (q 12)]) (n := 3) (Nat.le_of_ble_eq_true rfl)
  rw [lg_entry_eq]
  generalize (lg_sl ([.ref (q 12)]) ++ List.replicate (3 - (lg_sl ([.ref (q 12)])).length) Slot.unset).toArray = ls at hl ⊢
  have hl : lv_has ls 3 [(0, .ref (q 12))] := hl
  unfold wp_X4_howManyAsWanted at h
  have B4 : ∀ (n4 : Nat) (x1 : Int32) (x2 : Int32), wp_X4_howManyAsWanted_B4 post v f z n4 x1 x2 → ∀ (ls : Array Slot), lv_has ls 3 [(0, .ref (q 12)), (1, .int x1), (2, .int x2)] → W p l e (headSpec wsX4_howManyAsWanted rmX4_howManyAsWanted).room s m ([.ref (q 12)] : List Value).toArray below meth c s.heap [] 0 0 (MQ below (sQ post) ([.ref (q 12)] : List Value).toArray s 0 0 (fun _ => False)) (F0 m 4 ls []) := by
    intro n4
    induction n4 with
    | zero =>
      intro x1 x2 h
      exact False.elim h
    | succ n4 ih4 =>
      intro x1 x2 h ls hl
      rw [wp_X4_howManyAsWanted_B4] at h
      refine lv_iload_n hx hb dX4_howManyAsWanted_4 rfl (lv_at hl 2 rfl) ?_
      refine lv_aload_n hx hb dX4_howManyAsWanted_5 rfl (lv_at hl 0 rfl) ?_
      refine xg_s8 (x := v 8) hx hb hts iX4 hown hK hP k27 rfl dX4_howManyAsWanted_6 ?_
      refine lv_icmp_ge (tgt := 34) hx hb dX4_howManyAsWanted_9 (by decide) (fun c9 => ?_) (fun c9 => ?_)
      · have h := h.1 c9
        refine lv_iload_n hx hb dX4_howManyAsWanted_34 rfl (lv_at hl 1 rfl) ?_
        exact ri_ret hx hb hr hlocks h dX4_howManyAsWanted_35
      · have h := h.2 c9
        refine lv_iload_n hx hb dX4_howManyAsWanted_12 rfl (lv_at hl 1 rfl) ?_
        refine lv_aload_n hx hb dX4_howManyAsWanted_13 rfl (lv_at hl 0 rfl) ?_
        refine lv_iload_n hx hb dX4_howManyAsWanted_14 rfl (lv_at hl 2 rfl) ?_
        refine rV_i ⟨hx, hb, hml, hown, hts⟩ (c_X4_isAsWanted l D cI q _ _ _ _ _ h) (cwV 1 hts gX4_howManyAsWanted_X4_isAsWanted rfl rfl rfl (by decide +kernel) ⟨Nat.le_of_ble_eq_true rfl, Nat.le_of_ble_eq_true rfl⟩) hK hP hN (va_recv hK hP (ci := 4) (q0 := 12) rfl rfl) rfl hl.1 (rest := [.int x1]) rfl (Nat.le_of_ble_eq_true rfl) dX4_howManyAsWanted_15 (Nat.zero_le _) (Nat.zero_le _) (fun r1 h => ?_)
        refine lv_if_eq (tgt := 25) hx hb dX4_howManyAsWanted_18 (by decide) (fun c9 => ?_) (fun c9 => ?_)
        · have h := h.1 c9
          refine lv_iconst (v := (0 : Int32)) hx hb dX4_howManyAsWanted_25 (by decide) ?_
          refine lv_iadd hx hb dX4_howManyAsWanted_26 ?_
          refine lv_istore_n (lv' := [(1, .int (x1 + (0 : Int32))), (0, .ref (q 12)), (2, .int x2)]) hx hb dX4_howManyAsWanted_27 rfl hl (by decide) rfl (fun ls hl => ?_)
          refine lv_iinc (v := x2 + 1) (lv' := [(2, .int (x2 + 1)), (1, .int (x1 + (0 : Int32))), (0, .ref (q 12))]) hx hb dX4_howManyAsWanted_28 hl (k := 2) rfl rfl (by decide) rfl (fun ls hl => ?_)
          refine lv_goto (tgt := 4) hx hb dX4_howManyAsWanted_31 (by decide) ?_
          exact ih4 _ _ h ls (lv_sub hl [2, 1, 0] rfl)
        · have h := h.2 c9
          refine lv_iconst (v := (1 : Int32)) hx hb dX4_howManyAsWanted_21 (by decide) ?_
          refine lv_goto (tgt := 26) hx hb dX4_howManyAsWanted_22 (by decide) ?_
          refine lv_iadd hx hb dX4_howManyAsWanted_26 ?_
          refine lv_istore_n (lv' := [(1, .int (x1 + (1 : Int32))), (0, .ref (q 12)), (2, .int x2)]) hx hb dX4_howManyAsWanted_27 rfl hl (by decide) rfl (fun ls hl => ?_)
          refine lv_iinc (v := x2 + 1) (lv' := [(2, .int (x2 + 1)), (1, .int (x1 + (1 : Int32))), (0, .ref (q 12))]) hx hb dX4_howManyAsWanted_28 hl (k := 2) rfl rfl (by decide) rfl (fun ls hl => ?_)
          refine lv_goto (tgt := 4) hx hb dX4_howManyAsWanted_31 (by decide) ?_
          exact ih4 _ _ h ls (lv_sub hl [2, 1, 0] rfl)
  refine lv_iconst (v := (0 : Int32)) hx hb dX4_howManyAsWanted_0 (by decide) ?_
  refine lv_istore_n (lv' := [(1, .int (0 : Int32)), (0, .ref (q 12))]) hx hb dX4_howManyAsWanted_1 rfl hl (by decide) rfl (fun ls hl => ?_)
  refine lv_iconst (v := (0 : Int32)) hx hb dX4_howManyAsWanted_2 (by decide) ?_
  refine lv_istore_n (lv' := [(2, .int (0 : Int32)), (1, .int (0 : Int32)), (0, .ref (q 12))]) hx hb dX4_howManyAsWanted_3 rfl hl (by decide) rfl (fun ls hl => ?_)
  obtain ⟨n9, h⟩ := h
  exact B4 n9 _ _ h ls (lv_sub hl [2, 1, 0] rfl)
def wp_X4_howManyUnlikeEndings_B4 (post : Int32 → Prop) (v : Nat → Int32) (f : Nat → Nat → Int32) (z : Int64) : Nat → Int32 → Int32 → Prop
  | 0, _, _ => False
  | n4 + 1, x1, x2 => (((4 : Int32) ≤ x2 → (wp_J6_bitCount_0f7a4 (fun r1 => post r1) x1)) ∧ (¬ (4 : Int32) ≤ x2 → (wp_X4_usedBy (fun r2 => wp_X4_howManyUnlikeEndings_B4 post v f z n4 (x1 ||| r2) (x2 + 1)) v f z x2)))
def wp_X4_howManyUnlikeEndings (post : Int32 → Prop) (v : Nat → Int32) (f : Nat → Nat → Int32) (z : Int64) : Prop := (∃ j9 : Nat, wp_X4_howManyUnlikeEndings_B4 post v f z j9 (0 : Int32) (0 : Int32))
def rmX4_howManyUnlikeEndings : Room := { frames := 1, cells := 0, slots := 0, locals := 23 }
set_option maxHeartbeats 4000000 in
set_option maxRecDepth 100000 in
theorem c_X4_howManyUnlikeEndings (l : Launch) (D : va_G) (cI : ClassId) (q : Nat → Nat) (post : Int32 → Prop) (v : Nat → Int32) (f : Nat → Nat → Int32) (z : Int64) (h : wp_X4_howManyUnlikeEndings post v f z) : Met l yX4_howManyUnlikeEndings wsX4_howManyUnlikeEndings rmX4_howManyUnlikeEndings (va_Pc [.ref (q 12)] (rP D cI (wX cI q v f z))) (sQ post) 0 0 (fun _ => False) := by
  refine Met.ofW (cc := cX4_howManyUnlikeEndings) (maxL := 3) (ret := (some .int)) (by decide) rfl ?_
  intro p e s m args below meth c s₁ B hml hv
  obtain ⟨rfl, hP, hK, hN⟩ := hv
  have hx := B.exec
  have hb := B.bytes
  have hr := B.returns
  have hts := atoms_spec (ws := wsX4_howManyUnlikeEndings) B.pre
  have hown : s.vm.findClass RX4 = some m.cls := findClass_of_methodNamed B.named
  have hlocks : meth.locks = false := B.notSynchronized
  have hl := lv_entry ([.ref (q 12)]) (n := 3) (Nat.le_of_ble_eq_true rfl)
  rw [lg_entry_eq]
  generalize (lg_sl ([.ref (q 12)]) ++ List.replicate (3 - (lg_sl ([.ref (q 12)])).length) Slot.unset).toArray = ls at hl ⊢
  have hl : lv_has ls 3 [(0, .ref (q 12))] := hl
  unfold wp_X4_howManyUnlikeEndings at h
  have B4 : ∀ (n4 : Nat) (x1 : Int32) (x2 : Int32), wp_X4_howManyUnlikeEndings_B4 post v f z n4 x1 x2 → ∀ (ls : Array Slot), lv_has ls 3 [(0, .ref (q 12)), (1, .int x1), (2, .int x2)] → W p l e (headSpec wsX4_howManyUnlikeEndings rmX4_howManyUnlikeEndings).room s m ([.ref (q 12)] : List Value).toArray below meth c s.heap [] 0 0 (MQ below (sQ post) ([.ref (q 12)] : List Value).toArray s 0 0 (fun _ => False)) (F0 m 4 ls []) := by
    intro n4
    induction n4 with
    | zero =>
      intro x1 x2 h
      exact False.elim h
    | succ n4 ih4 =>
      intro x1 x2 h ls hl
      rw [wp_X4_howManyUnlikeEndings_B4] at h
      refine lv_iload_n hx hb dX4_howManyUnlikeEndings_4 rfl (lv_at hl 2 rfl) ?_
      refine lv_iconst (v := (4 : Int32)) hx hb dX4_howManyUnlikeEndings_5 (by decide) ?_
      refine lv_icmp_ge (tgt := 23) hx hb dX4_howManyUnlikeEndings_6 (by decide) (fun c9 => ?_) (fun c9 => ?_)
      · have h := h.1 c9
        refine lv_iload_n hx hb dX4_howManyUnlikeEndings_23 rfl (lv_at hl 1 rfl) ?_
        refine rS_i ⟨hx, hb, hml, hown, hts⟩ (c_J6_bitCount_0f7a4 l D cI _ _ h) (va_cwS 1 hts gX4_howManyUnlikeEndings_J6_bitCount_0f7a4 rfl rfl rfl (by decide +kernel) ⟨Nat.le_of_ble_eq_true rfl, Nat.le_of_ble_eq_true rfl⟩) hK wPnil hN rfl hl.1 (rest := []) rfl (Nat.le_of_ble_eq_true rfl) dX4_howManyUnlikeEndings_24 (Nat.zero_le _) (Nat.zero_le _) (fun r1 h => ?_)
        exact ri_ret hx hb hr hlocks h dX4_howManyUnlikeEndings_27
      · have h := h.2 c9
        refine lv_iload_n hx hb dX4_howManyUnlikeEndings_9 rfl (lv_at hl 1 rfl) ?_
        refine lv_aload_n hx hb dX4_howManyUnlikeEndings_10 rfl (lv_at hl 0 rfl) ?_
        refine lv_iload_n hx hb dX4_howManyUnlikeEndings_11 rfl (lv_at hl 2 rfl) ?_
        refine rV_i ⟨hx, hb, hml, hown, hts⟩ (c_X4_usedBy l D cI q _ _ _ _ _ h) (cwV 1 hts gX4_howManyUnlikeEndings_X4_usedBy rfl rfl rfl (by decide +kernel) ⟨Nat.le_of_ble_eq_true rfl, Nat.le_of_ble_eq_true rfl⟩) hK hP hN (va_recv hK hP (ci := 4) (q0 := 12) rfl rfl) rfl hl.1 (rest := [.int x1]) rfl (Nat.le_of_ble_eq_true rfl) dX4_howManyUnlikeEndings_12 (Nat.zero_le _) (Nat.zero_le _) (fun r2 h => ?_)
        refine lv_ior hx hb dX4_howManyUnlikeEndings_15 ?_
        refine lv_istore_n (lv' := [(1, .int (x1 ||| r2)), (0, .ref (q 12)), (2, .int x2)]) hx hb dX4_howManyUnlikeEndings_16 rfl hl (by decide) rfl (fun ls hl => ?_)
        refine lv_iinc (v := x2 + 1) (lv' := [(2, .int (x2 + 1)), (1, .int (x1 ||| r2)), (0, .ref (q 12))]) hx hb dX4_howManyUnlikeEndings_17 hl (k := 2) rfl rfl (by decide) rfl (fun ls hl => ?_)
        refine lv_goto (tgt := 4) hx hb dX4_howManyUnlikeEndings_20 (by decide) ?_
        exact ih4 _ _ h ls (lv_sub hl [2, 1, 0] rfl)
  refine lv_iconst (v := (0 : Int32)) hx hb dX4_howManyUnlikeEndings_0 (by decide) ?_
  refine lv_istore_n (lv' := [(1, .int (0 : Int32)), (0, .ref (q 12))]) hx hb dX4_howManyUnlikeEndings_1 rfl hl (by decide) rfl (fun ls hl => ?_)
  refine lv_iconst (v := (0 : Int32)) hx hb dX4_howManyUnlikeEndings_2 (by decide) ?_
  refine lv_istore_n (lv' := [(2, .int (0 : Int32)), (1, .int (0 : Int32)), (0, .ref (q 12))]) hx hb dX4_howManyUnlikeEndings_3 rfl hl (by decide) rfl (fun ls hl => ?_)
  obtain ⟨n9, h⟩ := h
  exact B4 n9 _ _ h ls (lv_sub hl [2, 1, 0] rfl)
