def wp_X7_letter (post : Int32 → (Nat → Int32) → (Nat → Nat → Int32) → Int64 → Prop) (v : Nat → Int32) (f : Nat → Nat → Int32) (z : Int64) (a0 : Int32) : Prop := (wp_X7_in (fun r1 => ((r1 = 0 → post (-102 : Int32) v f z) ∧ (¬ r1 = 0 → (((v 0) = (30 : Int32) → post (-104 : Int32) v f z) ∧ (¬ (v 0) = (30 : Int32) → (vp_in (v 0) 30 ∧ post ((v 0) + (1 : Int32)) (upd v 0 ((v 0) + (1 : Int32))) (va_up f 0 (upd (f 0) (v 0).toNatClampNeg a0)) z)))))) ((a0).toInt64) (1 : Int64) (126 : Int64))
def rmX7_letter : Room := { frames := 1, cells := 0, slots := 0, locals := 25 }
set_option maxHeartbeats 4000000 in
set_option maxRecDepth 100000 in
theorem c_X7_letter (l : Launch) (D : va_G) (cI : ClassId) (q : Nat → Nat) (sz : Nat) (post : Int32 → (Nat → Int32) → (Nat → Nat → Int32) → Int64 → Prop) (v : Nat → Int32) (f : Nat → Nat → Int32) (z : Int64) (a0 : Int32) (h : wp_X7_letter post v f z a0) : Met l yX7_letter wsX7_letter rmX7_letter (va_Pc [.ref (q 0), .int a0] (mP D cI (wY cI q v f z) sz)) (mQi post D cI (wY cI q) (va_A (wY cI q v f z) sz)) 0 0 (va_A (wY cI q v f z) sz) := by
  refine Met.ofW (cc := cX7_letter) (maxL := 2) (ret := (some .int)) (by decide) rfl ?_
  intro p e s m args below meth c s₁ B hml hv
  obtain ⟨rfl, hsz, ⟨hP, hK, hN⟩, hD0⟩ := hv
  have hx := B.exec
  have hb := B.bytes
  have hr := B.returns
  have hts := atoms_spec (ws := wsX7_letter) B.pre
  have hown : s.vm.findClass RX7 = some m.cls := findClass_of_methodNamed B.named
  have hlocks : meth.locks = false := B.notSynchronized
  subst hsz
  have hD := hD0.self (sz := s.heap.size)
  generalize hAe : va_A (wY cI q v f z) s.heap.size = A at hD ⊢
  have hA : ∀ q : Nat, s.heap.size ≤ q → A q := fun q h => by rw [← hAe]; exact Or.inr h
  have hS : va_S A s.heap s.heap [] := va_S.rf
  have iX7 : ∀ w ∈ wsX70, w ∈ wsX7_letter := fun _ h9 => List.mem_cons_of_mem _ (List.mem_append_right _ h9)
  have k62 := hts (.fieldLink RX7 62 "EndedByOthersModel" "pageMany" "I") (by decide +kernel)
  have k7 := hts (.fieldLink RX7 7 "EndedByOthersModel" "page" "[I") (by decide +kernel)
  have hl := lv_entry ([.ref (q 0), .int a0]) (n := 2) (Nat.le_of_ble_eq_true rfl)
  rw [lg_entry_eq]
  generalize (lg_sl ([.ref (q 0), .int a0]) ++ List.replicate (2 - (lg_sl ([.ref (q 0), .int a0])).length) Slot.unset).toArray = ls at hl ⊢
  have hl : lv_has ls 2 [(0, .ref (q 0)), (1, .int a0)] := hl
  unfold wp_X7_letter at h
  refine lv_iload_n hx hb dX7_letter_0 rfl (lv_at hl 1 rfl) ?_
  refine lv_i2l (v := (a0).toInt64) hx hb dX7_letter_1 rfl ?_
  refine lv_lconst (v := (1 : Int64)) hx hb dX7_letter_2 (by decide) ?_
  refine lv_ldc2 (v := (126 : Int64)) hx hb hown (hts (.constantLong RX7 56 (126)) (by decide +kernel)) dX7_letter_3 ?_
  refine rS_i ⟨hx, hb, hml, hown, hts⟩ (c_X7_in l D cI _ _ _ _ h) (va_cwS 3 hts gX7_letter_X7_in rfl rfl rfl (by decide +kernel) ⟨Nat.le_of_ble_eq_true rfl, Nat.le_of_ble_eq_true rfl⟩) hK wPnil hN rfl hl.1 (rest := []) rfl (Nat.le_of_ble_eq_true rfl) dX7_letter_6 (Nat.zero_le _) (Nat.zero_le _) (fun r1 h => ?_)
  refine lv_if_ne (tgt := 15) hx hb dX7_letter_9 (by decide) (fun c9 => ?_) (fun c9 => ?_)
  · have h := h.2 c9
    refine lv_aload_n hx hb dX7_letter_15 rfl (lv_at hl 0 rfl) ?_
    refine yg_s0 (x := v 0) hx hb hts iX7 hown hK hP k62 rfl dX7_letter_16 ?_
    refine lv_bipush (v := (30 : Int32)) hx hb dX7_letter_19 (by decide) ?_
    refine lv_icmp_ne (tgt := 27) hx hb dX7_letter_21 (by decide) (fun c9 => ?_) (fun c9 => ?_)
    · have h := h.2 c9
      refine lv_aload_n hx hb dX7_letter_27 rfl (lv_at hl 0 rfl) ?_
      refine yg_r0_1 hx hb hts iX7 hown hK hP k7 dX7_letter_28 ?_
      refine lv_aload_n hx hb dX7_letter_31 rfl (lv_at hl 0 rfl) ?_
      refine yg_s0 (x := v 0) hx hb hts iX7 hown hK hP k62 rfl dX7_letter_32 ?_
      refine lv_iload_n hx hb dX7_letter_35 rfl (lv_at hl 1 rfl) ?_
      obtain ⟨h9, h⟩ := h
      refine yas_0 hx hb hK hP hD hS h9 dX7_letter_36 (fun H locs hP hD hS => ?_)
      have hP : va_P D vwCl (wY cI q v (va_up f 0 (upd (f 0) (v 0).toNatClampNeg a0)) z) H := hP
      have hD : va_D A (wY cI q v (va_up f 0 (upd (f 0) (v 0).toNatClampNeg a0)) z) := hD
      refine lv_aload_n hx hb dX7_letter_37 rfl (lv_at hl 0 rfl) ?_
      refine lv_dup hx hb dX7_letter_38 rfl ?_
      refine yg_s0 (x := v 0) hx hb hts iX7 hown hK hP k62 rfl dX7_letter_39 ?_
      refine lv_iconst (v := (1 : Int32)) hx hb dX7_letter_42 (by decide) ?_
      refine lv_iadd hx hb dX7_letter_43 ?_
      refine yp_s0 hx hb hts iX7 hown hK hP hD hS k62 dX7_letter_44 (fun H locs hP hD hS => ?_)
      refine lv_aload_n hx hb dX7_letter_47 rfl (lv_at hl 0 rfl) ?_
      refine yg_s0 (x := (v 0) + (1 : Int32)) hx hb hts iX7 hown hK hP k62 rfl dX7_letter_48 ?_
      exact mi_ret (upd v 0 ((v 0) + (1 : Int32)), va_up f 0 (upd (f 0) (v 0).toNatClampNeg a0), z) hx hb hr hlocks h hK hP hD hS dX7_letter_51
    · have h := h.1 c9
      refine lv_bipush (v := (-104 : Int32)) hx hb dX7_letter_24 (by decide) ?_
      exact mi_ret (v, f, z) hx hb hr hlocks h hK hP hD hS dX7_letter_26
  · have h := h.1 c9
    refine lv_bipush (v := (-102 : Int32)) hx hb dX7_letter_12 (by decide) ?_
    exact mi_ret (v, f, z) hx hb hr hlocks h hK hP hD hS dX7_letter_14
def wp_X7_blank (post : Int32 → (Nat → Int32) → (Nat → Nat → Int32) → Int64 → Prop) (v : Nat → Int32) (f : Nat → Nat → Int32) (z : Int64) : Prop := post (v 0) (upd v 0 (0 : Int32)) f z
def rmX7_blank : Room := { frames := 0, cells := 0, slots := 0, locals := 0 }
set_option maxHeartbeats 4000000 in
set_option maxRecDepth 100000 in
theorem c_X7_blank (l : Launch) (D : va_G) (cI : ClassId) (q : Nat → Nat) (sz : Nat) (post : Int32 → (Nat → Int32) → (Nat → Nat → Int32) → Int64 → Prop) (v : Nat → Int32) (f : Nat → Nat → Int32) (z : Int64) (h : wp_X7_blank post v f z) : Met l yX7_blank wsX7_blank rmX7_blank (va_Pc [.ref (q 0)] (mP D cI (wY cI q v f z) sz)) (mQi post D cI (wY cI q) (va_A (wY cI q v f z) sz)) 0 0 (va_A (wY cI q v f z) sz) := by
  refine Met.ofW (cc := cX7_blank) (maxL := 2) (ret := (some .int)) (by decide) rfl ?_
  intro p e s m args below meth c s₁ B hml hv
  obtain ⟨rfl, hsz, ⟨hP, hK, hN⟩, hD0⟩ := hv
  have hx := B.exec
  have hb := B.bytes
  have hr := B.returns
  have hts := atoms_spec (ws := wsX7_blank) B.pre
  have hown : s.vm.findClass RX7 = some m.cls := findClass_of_methodNamed B.named
  have hlocks : meth.locks = false := B.notSynchronized
  subst hsz
  have hD := hD0.self (sz := s.heap.size)
  generalize hAe : va_A (wY cI q v f z) s.heap.size = A at hD ⊢
  have hA : ∀ q : Nat, s.heap.size ≤ q → A q := fun q h => by rw [← hAe]; exact Or.inr h
  have hS : va_S A s.heap s.heap [] := va_S.rf
  have iX7 : ∀ w ∈ wsX70, w ∈ wsX7_blank := fun _ h9 => List.mem_cons_of_mem _ (List.mem_append_right _ h9)
  have k62 := hts (.fieldLink RX7 62 "EndedByOthersModel" "pageMany" "I") (by decide +kernel)
  have hl := lv_entry ([.ref (q 0)]) (n := 2) (Nat.le_of_ble_eq_true rfl)
  rw [lg_entry_eq]
  generalize (lg_sl ([.ref (q 0)]) ++ List.replicate (2 - (lg_sl ([.ref (q 0)])).length) Slot.unset).toArray = ls at hl ⊢
  have hl : lv_has ls 2 [(0, .ref (q 0))] := hl
  unfold wp_X7_blank at h
  refine lv_aload_n hx hb dX7_blank_0 rfl (lv_at hl 0 rfl) ?_
  refine yg_s0 (x := v 0) hx hb hts iX7 hown hK hP k62 rfl dX7_blank_1 ?_
  refine lv_istore_n (lv' := [(1, .int (v 0)), (0, .ref (q 0))]) hx hb dX7_blank_4 rfl hl (by decide) rfl (fun ls hl => ?_)
  refine lv_aload_n hx hb dX7_blank_5 rfl (lv_at hl 1 rfl) ?_
  refine lv_iconst (v := (0 : Int32)) hx hb dX7_blank_6 (by decide) ?_
  refine yp_s0 hx hb hts iX7 hown hK hP hD hS k62 dX7_blank_7 (fun H locs hP hD hS => ?_)
  refine lv_iload_n hx hb dX7_blank_10 rfl (lv_at hl 0 rfl) ?_
  exact mi_ret (upd v 0 (0 : Int32), f, z) hx hb hr hlocks h hK hP hD hS dX7_blank_11
def wp_X7_goOpening_B56 (post : Int32 → (Nat → Int32) → (Nat → Nat → Int32) → Int64 → Prop) (v : Nat → Int32) (f : Nat → Nat → Int32) (z : Int64) (y0 : Int32) : Prop := (nb y0 ∧ post y0 (upd (upd (upd v 1 ((v 1) + (1 : Int32))) 2 (0 : Int32)) 3 (-1 : Int32)) f z)
def wp_X7_goOpening_B35 (post : Int32 → (Nat → Int32) → (Nat → Nat → Int32) → Int64 → Prop) (v : Nat → Int32) (f : Nat → Nat → Int32) (z : Int64) (y0 : Int32) : Prop := (((v 1) = (3 : Int32) → ((y0 = (1 : Int32) → wp_X7_goOpening_B56 post v f z (1 : Int32)) ∧ (¬ y0 = (1 : Int32) → wp_X7_goOpening_B56 post v f z (0 : Int32)))) ∧ (¬ (v 1) = (3 : Int32) → ((y0 = (0 : Int32) → wp_X7_goOpening_B56 post v f z (1 : Int32)) ∧ (¬ y0 = (0 : Int32) → wp_X7_goOpening_B56 post v f z (0 : Int32)))))
def wp_X7_goOpening (post : Int32 → (Nat → Int32) → (Nat → Nat → Int32) → Int64 → Prop) (v : Nat → Int32) (f : Nat → Nat → Int32) (z : Int64) (a0 : Int32) : Prop := ((a0 = (44 : Int32) → (((v 2) ≤ 0 → wp_X7_goOpening_B56 post v f z (0 : Int32)) ∧ (¬ (v 2) ≤ 0 → ((a0 = (59 : Int32) → wp_X7_goOpening_B35 post v f z (1 : Int32)) ∧ (¬ a0 = (59 : Int32) → wp_X7_goOpening_B35 post v f z (0 : Int32)))))) ∧ (¬ a0 = (44 : Int32) → ((a0 = (59 : Int32) → (((v 2) ≤ 0 → wp_X7_goOpening_B56 post v f z (0 : Int32)) ∧ (¬ (v 2) ≤ 0 → ((a0 = (59 : Int32) → wp_X7_goOpening_B35 post v f z (1 : Int32)) ∧ (¬ a0 = (59 : Int32) → wp_X7_goOpening_B35 post v f z (0 : Int32)))))) ∧ (¬ a0 = (59 : Int32) → (wp_X7_in (fun r1 => ((r1 = 0 → post (0 : Int32) v f z) ∧ (¬ r1 = 0 → (((v 2) = (3 : Int32) → post (0 : Int32) v f z) ∧ (¬ (v 2) = (3 : Int32) → (((v 3) < (a0 - (97 : Int32)) → (((v 2) = 0 → (vp_in (v 1) 4 ∧ post (1 : Int32) (upd (upd v 2 ((v 2) + (1 : Int32))) 3 (a0 - (97 : Int32))) (va_up f 1 (upd (f 1) (v 1).toNatClampNeg ((1 : Int32) <<< ((a0 - (97 : Int32)) &&& 31)))) z)) ∧ (¬ (v 2) = 0 → (vp_in (v 1) 4 ∧ (vp_in (v 1) 4 ∧ post (1 : Int32) (upd (upd v 2 ((v 2) + (1 : Int32))) 3 (a0 - (97 : Int32))) (va_up f 1 (upd (f 1) (v 1).toNatClampNeg ((f 1 (v 1).toNatClampNeg) ||| ((1 : Int32) <<< ((a0 - (97 : Int32)) &&& 31))))) z))))) ∧ (¬ (v 3) < (a0 - (97 : Int32)) → post (0 : Int32) v f z))))))) ((a0 - (97 : Int32)).toInt64) (0 : Int64) (5 : Int64))))))
def rmX7_goOpening : Room := { frames := 1, cells := 0, slots := 0, locals := 25 }
set_option maxHeartbeats 4000000 in
set_option maxRecDepth 100000 in
theorem c_X7_goOpening (l : Launch) (D : va_G) (cI : ClassId) (q : Nat → Nat) (sz : Nat) (post : Int32 → (Nat → Int32) → (Nat → Nat → Int32) → Int64 → Prop) (v : Nat → Int32) (f : Nat → Nat → Int32) (z : Int64) (a0 : Int32) (h : wp_X7_goOpening post v f z a0) : Met l yX7_goOpening wsX7_goOpening rmX7_goOpening (va_Pc [.ref (q 0), .int a0] (mP D cI (wY cI q v f z) sz)) (mQi post D cI (wY cI q) (va_A (wY cI q v f z) sz)) 0 0 (va_A (wY cI q v f z) sz) := by
  refine Met.ofW (cc := cX7_goOpening) (maxL := 4) (ret := (some .boolean)) (by decide) rfl ?_
  intro p e s m args below meth c s₁ B hml hv
  obtain ⟨rfl, hsz, ⟨hP, hK, hN⟩, hD0⟩ := hv
  have hx := B.exec
  have hb := B.bytes
  have hr := B.returns
  have hts := atoms_spec (ws := wsX7_goOpening) B.pre
  have hown : s.vm.findClass RX7 = some m.cls := findClass_of_methodNamed B.named
  have hlocks : meth.locks = false := B.notSynchronized
  subst hsz
  have hD := hD0.self (sz := s.heap.size)
  generalize hAe : va_A (wY cI q v f z) s.heap.size = A at hD ⊢
  have hA : ∀ q : Nat, s.heap.size ≤ q → A q := fun q h => by rw [← hAe]; exact Or.inr h
  have hS : va_S A s.heap s.heap [] := va_S.rf
  have iX7 : ∀ w ∈ wsX70, w ∈ wsX7_goOpening := fun _ h9 => List.mem_cons_of_mem _ (List.mem_append_right _ h9)
  have k13 := hts (.fieldLink RX7 13 "EndedByOthersModel" "readFits" "[I") (by decide +kernel)
  have k65 := hts (.fieldLink RX7 65 "EndedByOthersModel" "partMany" "I") (by decide +kernel)
  have k68 := hts (.fieldLink RX7 68 "EndedByOthersModel" "part" "I") (by decide +kernel)
  have k71 := hts (.fieldLink RX7 71 "EndedByOthersModel" "lastOne" "I") (by decide +kernel)
  have hl := lv_entry ([.ref (q 0), .int a0]) (n := 4) (Nat.le_of_ble_eq_true rfl)
  rw [lg_entry_eq]
  generalize (lg_sl ([.ref (q 0), .int a0]) ++ List.replicate (4 - (lg_sl ([.ref (q 0), .int a0])).length) Slot.unset).toArray = ls at hl ⊢
  have hl : lv_has ls 4 [(0, .ref (q 0)), (1, .int a0)] := hl
  unfold wp_X7_goOpening at h
  have B56 : ∀ (v : Nat → Int32) (f : Nat → Nat → Int32) (z : Int64) (y0 : Int32), wp_X7_goOpening_B56 post v f z y0 → ∀ (H : Heap) (locs : List Loc), va_P D vwCl (wY cI q v f z) H → va_D A (wY cI q v f z) → va_S A s.heap H locs → ∀ (ls : Array Slot), lv_has ls 4 [(0, .ref (q 0))] → W p l e (headSpec wsX7_goOpening rmX7_goOpening).room s m ([.ref (q 0), .int a0] : List Value).toArray below meth c H locs 0 0 (MQ below (mQi post D cI (wY cI q) A) ([.ref (q 0), .int a0] : List Value).toArray s 0 0 A) (F0 m 56 ls [.int y0]) := by
    intro v f z y0 h H locs hP hD hS ls hl
    unfold wp_X7_goOpening_B56 at h
    refine lv_istore_n (lv' := [(3, .int y0), (0, .ref (q 0))]) hx hb dX7_goOpening_56 rfl hl (by decide) rfl (fun ls hl => ?_)
    refine lv_aload_n hx hb dX7_goOpening_57 rfl (lv_at hl 1 rfl) ?_
    refine lv_dup hx hb dX7_goOpening_58 rfl ?_
    refine yg_s1 (x := v 1) hx hb hts iX7 hown hK hP k68 rfl dX7_goOpening_59 ?_
    refine lv_iconst (v := (1 : Int32)) hx hb dX7_goOpening_62 (by decide) ?_
    refine lv_iadd hx hb dX7_goOpening_63 ?_
    refine yp_s1 hx hb hts iX7 hown hK hP hD hS k68 dX7_goOpening_64 (fun H locs hP hD hS => ?_)
    refine lv_aload_n hx hb dX7_goOpening_67 rfl (lv_at hl 1 rfl) ?_
    refine lv_iconst (v := (0 : Int32)) hx hb dX7_goOpening_68 (by decide) ?_
    refine yp_s2 hx hb hts iX7 hown hK hP hD hS k65 dX7_goOpening_69 (fun H locs hP hD hS => ?_)
    refine lv_aload_n hx hb dX7_goOpening_72 rfl (lv_at hl 1 rfl) ?_
    refine lv_iconst (v := (-1 : Int32)) hx hb dX7_goOpening_73 (by decide) ?_
    refine yp_s3 hx hb hts iX7 hown hK hP hD hS k71 dX7_goOpening_74 (fun H locs hP hD hS => ?_)
    refine lv_iload_n hx hb dX7_goOpening_77 rfl (lv_at hl 0 rfl) ?_
    obtain ⟨h9, h⟩ := h
    exact mz_ret (upd (upd (upd v 1 ((v 1) + (1 : Int32))) 2 (0 : Int32)) 3 (-1 : Int32), f, z) hx hb hr hlocks h9 h hK hP hD hS dX7_goOpening_78
  have B35 : ∀ (v : Nat → Int32) (f : Nat → Nat → Int32) (z : Int64) (y0 : Int32), wp_X7_goOpening_B35 post v f z y0 → ∀ (H : Heap) (locs : List Loc), va_P D vwCl (wY cI q v f z) H → va_D A (wY cI q v f z) → va_S A s.heap H locs → ∀ (ls : Array Slot), lv_has ls 4 [(0, .ref (q 0))] → W p l e (headSpec wsX7_goOpening rmX7_goOpening).room s m ([.ref (q 0), .int a0] : List Value).toArray below meth c H locs 0 0 (MQ below (mQi post D cI (wY cI q) A) ([.ref (q 0), .int a0] : List Value).toArray s 0 0 A) (F0 m 35 ls [.int y0]) := by
    intro v f z y0 h H locs hP hD hS ls hl
    unfold wp_X7_goOpening_B35 at h
    refine lv_aload_n hx hb dX7_goOpening_35 rfl (lv_at hl 0 rfl) ?_
    refine yg_s1 (x := v 1) hx hb hts iX7 hown hK hP k68 rfl dX7_goOpening_36 ?_
    refine lv_iconst (v := (3 : Int32)) hx hb dX7_goOpening_39 (by decide) ?_
    refine lv_icmp_ne (tgt := 47) hx hb dX7_goOpening_40 (by decide) (fun c9 => ?_) (fun c9 => ?_)
    · have h := h.2 c9
      refine lv_iconst (v := (0 : Int32)) hx hb dX7_goOpening_47 (by decide) ?_
      refine lv_icmp_ne (tgt := 55) hx hb dX7_goOpening_48 (by decide) (fun c9 => ?_) (fun c9 => ?_)
      · have h := h.2 c9
        refine lv_iconst (v := (0 : Int32)) hx hb dX7_goOpening_55 (by decide) ?_
        exact B56 _ _ _ _ h _ _ hP hD hS ls (lv_sub hl [0] rfl)
      · have h := h.1 c9
        refine lv_iconst (v := (1 : Int32)) hx hb dX7_goOpening_51 (by decide) ?_
        refine lv_goto (tgt := 56) hx hb dX7_goOpening_52 (by decide) ?_
        exact B56 _ _ _ _ h _ _ hP hD hS ls (lv_sub hl [0] rfl)
    · have h := h.1 c9
      refine lv_iconst (v := (1 : Int32)) hx hb dX7_goOpening_43 (by decide) ?_
      refine lv_goto (tgt := 48) hx hb dX7_goOpening_44 (by decide) ?_
      refine lv_icmp_ne (tgt := 55) hx hb dX7_goOpening_48 (by decide) (fun c9 => ?_) (fun c9 => ?_)
      · have h := h.2 c9
        refine lv_iconst (v := (0 : Int32)) hx hb dX7_goOpening_55 (by decide) ?_
        exact B56 _ _ _ _ h _ _ hP hD hS ls (lv_sub hl [0] rfl)
      · have h := h.1 c9
        refine lv_iconst (v := (1 : Int32)) hx hb dX7_goOpening_51 (by decide) ?_
        refine lv_goto (tgt := 56) hx hb dX7_goOpening_52 (by decide) ?_
        exact B56 _ _ _ _ h _ _ hP hD hS ls (lv_sub hl [0] rfl)
  refine lv_iload_n hx hb dX7_goOpening_0 rfl (lv_at hl 1 rfl) ?_
  refine lv_bipush (v := (97 : Int32)) hx hb dX7_goOpening_1 (by decide) ?_
  refine lv_isub hx hb dX7_goOpening_3 ?_
  refine lv_istore_n (lv' := [(2, .int (a0 - (97 : Int32))), (0, .ref (q 0)), (1, .int a0)]) hx hb dX7_goOpening_4 rfl hl (by decide) rfl (fun ls hl => ?_)
  refine lv_iload_n hx hb dX7_goOpening_5 rfl (lv_at hl 2 rfl) ?_
  refine lv_bipush (v := (44 : Int32)) hx hb dX7_goOpening_6 (by decide) ?_
  refine lv_icmp_eq (tgt := 17) hx hb dX7_goOpening_8 (by decide) (fun c9 => ?_) (fun c9 => ?_)
  · have h := h.1 c9
    refine lv_aload_n hx hb dX7_goOpening_17 rfl (lv_at hl 1 rfl) ?_
    refine yg_s2 (x := v 2) hx hb hts iX7 hown hK hP k65 rfl dX7_goOpening_18 ?_
    refine lv_if_le (tgt := 55) hx hb dX7_goOpening_21 (by decide) (fun c9 => ?_) (fun c9 => ?_)
    · have h := h.1 c9
      refine lv_iconst (v := (0 : Int32)) hx hb dX7_goOpening_55 (by decide) ?_
      exact B56 _ _ _ _ h _ _ hP hD hS ls (lv_sub hl [1] rfl)
    · have h := h.2 c9
      refine lv_iload_n hx hb dX7_goOpening_24 rfl (lv_at hl 2 rfl) ?_
      refine lv_bipush (v := (59 : Int32)) hx hb dX7_goOpening_25 (by decide) ?_
      refine lv_icmp_ne (tgt := 34) hx hb dX7_goOpening_27 (by decide) (fun c9 => ?_) (fun c9 => ?_)
      · have h := h.2 c9
        refine lv_iconst (v := (0 : Int32)) hx hb dX7_goOpening_34 (by decide) ?_
        exact B35 _ _ _ _ h _ _ hP hD hS ls (lv_sub hl [1] rfl)
      · have h := h.1 c9
        refine lv_iconst (v := (1 : Int32)) hx hb dX7_goOpening_30 (by decide) ?_
        refine lv_goto (tgt := 35) hx hb dX7_goOpening_31 (by decide) ?_
        exact B35 _ _ _ _ h _ _ hP hD hS ls (lv_sub hl [1] rfl)
  · have h := h.2 c9
    refine lv_iload_n hx hb dX7_goOpening_11 rfl (lv_at hl 2 rfl) ?_
    refine lv_bipush (v := (59 : Int32)) hx hb dX7_goOpening_12 (by decide) ?_
    refine lv_icmp_ne (tgt := 79) hx hb dX7_goOpening_14 (by decide) (fun c9 => ?_) (fun c9 => ?_)
    · have h := h.2 c9
      refine lv_iload_n hx hb dX7_goOpening_79 rfl (lv_at hl 0 rfl) ?_
      refine lv_i2l (v := (a0 - (97 : Int32)).toInt64) hx hb dX7_goOpening_80 rfl ?_
      refine lv_lconst (v := (0 : Int64)) hx hb dX7_goOpening_81 (by decide) ?_
      refine lv_ldc2 (v := (5 : Int64)) hx hb hown (hts (.constantLong RX7 74 (5)) (by decide +kernel)) dX7_goOpening_82 ?_
      refine rS_i ⟨hx, hb, hml, hown, hts⟩ (c_X7_in l D cI _ _ _ _ h) (va_cwS 3 hts gX7_goOpening_X7_in rfl rfl rfl (by decide +kernel) ⟨Nat.le_of_ble_eq_true rfl, Nat.le_of_ble_eq_true rfl⟩) hK wPnil hN rfl hl.1 (rest := []) rfl (Nat.le_of_ble_eq_true rfl) dX7_goOpening_85 (Nat.zero_le _) (Nat.zero_le _) (fun r1 h => ?_)
      refine lv_if_eq (tgt := 107) hx hb dX7_goOpening_88 (by decide) (fun c9 => ?_) (fun c9 => ?_)
      · have h := h.1 c9
        refine lv_iconst (v := (0 : Int32)) hx hb dX7_goOpening_107 (by decide) ?_
        exact mz_ret (v, f, z) hx hb hr hlocks rfl h hK hP hD hS dX7_goOpening_108
      · have h := h.2 c9
        refine lv_aload_n hx hb dX7_goOpening_91 rfl (lv_at hl 1 rfl) ?_
        refine yg_s2 (x := v 2) hx hb hts iX7 hown hK hP k65 rfl dX7_goOpening_92 ?_
        refine lv_iconst (v := (3 : Int32)) hx hb dX7_goOpening_95 (by decide) ?_
        refine lv_icmp_eq (tgt := 107) hx hb dX7_goOpening_96 (by decide) (fun c9 => ?_) (fun c9 => ?_)
        · have h := h.1 c9
          refine lv_iconst (v := (0 : Int32)) hx hb dX7_goOpening_107 (by decide) ?_
          exact mz_ret (v, f, z) hx hb hr hlocks rfl h hK hP hD hS dX7_goOpening_108
        · have h := h.2 c9
          refine lv_iload_n hx hb dX7_goOpening_99 rfl (lv_at hl 0 rfl) ?_
          refine lv_aload_n hx hb dX7_goOpening_100 rfl (lv_at hl 1 rfl) ?_
          refine yg_s3 (x := v 3) hx hb hts iX7 hown hK hP k71 rfl dX7_goOpening_101 ?_
          refine lv_icmp_gt (tgt := 109) hx hb dX7_goOpening_104 (by decide) (fun c9 => ?_) (fun c9 => ?_)
          · have h := h.1 c9
            refine lv_aload_n hx hb dX7_goOpening_109 rfl (lv_at hl 1 rfl) ?_
            refine yg_r0_2 hx hb hts iX7 hown hK hP k13 dX7_goOpening_110 ?_
            refine lv_aload_n hx hb dX7_goOpening_113 rfl (lv_at hl 1 rfl) ?_
            refine yg_s1 (x := v 1) hx hb hts iX7 hown hK hP k68 rfl dX7_goOpening_114 ?_
            refine lv_aload_n hx hb dX7_goOpening_117 rfl (lv_at hl 1 rfl) ?_
            refine yg_s2 (x := v 2) hx hb hts iX7 hown hK hP k65 rfl dX7_goOpening_118 ?_
            refine lv_if_ne (tgt := 130) hx hb dX7_goOpening_121 (by decide) (fun c9 => ?_) (fun c9 => ?_)
            · have h := h.2 c9
              refine lv_aload_n hx hb dX7_goOpening_130 rfl (lv_at hl 1 rfl) ?_
              refine yg_r0_2 hx hb hts iX7 hown hK hP k13 dX7_goOpening_131 ?_
              refine lv_aload_n hx hb dX7_goOpening_134 rfl (lv_at hl 1 rfl) ?_
              refine yg_s1 (x := v 1) hx hb hts iX7 hown hK hP k68 rfl dX7_goOpening_135 ?_
              obtain ⟨h9, h⟩ := h
              refine yal_1 (x := f 1 (v 1).toNatClampNeg) hx hb hK hP h9 rfl dX7_goOpening_138 ?_
              refine lv_iconst (v := (1 : Int32)) hx hb dX7_goOpening_139 (by decide) ?_
              refine lv_iload_n hx hb dX7_goOpening_140 rfl (lv_at hl 0 rfl) ?_
              refine lv_ishl hx hb dX7_goOpening_141 ?_
              refine lv_ior hx hb dX7_goOpening_142 ?_
              obtain ⟨h9, h⟩ := h
              refine yas_1 hx hb hK hP hD hS h9 dX7_goOpening_143 (fun H locs hP hD hS => ?_)
              have hP : va_P D vwCl (wY cI q v (va_up f 1 (upd (f 1) (v 1).toNatClampNeg ((f 1 (v 1).toNatClampNeg) ||| ((1 : Int32) <<< ((a0 - (97 : Int32)) &&& 31))))) z) H := hP
              have hD : va_D A (wY cI q v (va_up f 1 (upd (f 1) (v 1).toNatClampNeg ((f 1 (v 1).toNatClampNeg) ||| ((1 : Int32) <<< ((a0 - (97 : Int32)) &&& 31))))) z) := hD
              refine lv_aload_n hx hb dX7_goOpening_144 rfl (lv_at hl 1 rfl) ?_
              refine lv_dup hx hb dX7_goOpening_145 rfl ?_
              refine yg_s2 (x := v 2) hx hb hts iX7 hown hK hP k65 rfl dX7_goOpening_146 ?_
              refine lv_iconst (v := (1 : Int32)) hx hb dX7_goOpening_149 (by decide) ?_
              refine lv_iadd hx hb dX7_goOpening_150 ?_
              refine yp_s2 hx hb hts iX7 hown hK hP hD hS k65 dX7_goOpening_151 (fun H locs hP hD hS => ?_)
              refine lv_aload_n hx hb dX7_goOpening_154 rfl (lv_at hl 1 rfl) ?_
              refine lv_iload_n hx hb dX7_goOpening_155 rfl (lv_at hl 0 rfl) ?_
              refine yp_s3 hx hb hts iX7 hown hK hP hD hS k71 dX7_goOpening_156 (fun H locs hP hD hS => ?_)
              refine lv_iconst (v := (1 : Int32)) hx hb dX7_goOpening_159 (by decide) ?_
              exact mz_ret (upd (upd v 2 ((v 2) + (1 : Int32))) 3 (a0 - (97 : Int32)), va_up f 1 (upd (f 1) (v 1).toNatClampNeg ((f 1 (v 1).toNatClampNeg) ||| ((1 : Int32) <<< ((a0 - (97 : Int32)) &&& 31)))), z) hx hb hr hlocks rfl h hK hP hD hS dX7_goOpening_160
            · have h := h.1 c9
              refine lv_iconst (v := (1 : Int32)) hx hb dX7_goOpening_124 (by decide) ?_
              refine lv_iload_n hx hb dX7_goOpening_125 rfl (lv_at hl 0 rfl) ?_
              refine lv_ishl hx hb dX7_goOpening_126 ?_
              refine lv_goto (tgt := 143) hx hb dX7_goOpening_127 (by decide) ?_
              obtain ⟨h9, h⟩ := h
              refine yas_1 hx hb hK hP hD hS h9 dX7_goOpening_143 (fun H locs hP hD hS => ?_)
              have hP : va_P D vwCl (wY cI q v (va_up f 1 (upd (f 1) (v 1).toNatClampNeg ((1 : Int32) <<< ((a0 - (97 : Int32)) &&& 31)))) z) H := hP
              have hD : va_D A (wY cI q v (va_up f 1 (upd (f 1) (v 1).toNatClampNeg ((1 : Int32) <<< ((a0 - (97 : Int32)) &&& 31)))) z) := hD
              refine lv_aload_n hx hb dX7_goOpening_144 rfl (lv_at hl 1 rfl) ?_
              refine lv_dup hx hb dX7_goOpening_145 rfl ?_
              refine yg_s2 (x := v 2) hx hb hts iX7 hown hK hP k65 rfl dX7_goOpening_146 ?_
              refine lv_iconst (v := (1 : Int32)) hx hb dX7_goOpening_149 (by decide) ?_
              refine lv_iadd hx hb dX7_goOpening_150 ?_
              refine yp_s2 hx hb hts iX7 hown hK hP hD hS k65 dX7_goOpening_151 (fun H locs hP hD hS => ?_)
              refine lv_aload_n hx hb dX7_goOpening_154 rfl (lv_at hl 1 rfl) ?_
              refine lv_iload_n hx hb dX7_goOpening_155 rfl (lv_at hl 0 rfl) ?_
              refine yp_s3 hx hb hts iX7 hown hK hP hD hS k71 dX7_goOpening_156 (fun H locs hP hD hS => ?_)
              refine lv_iconst (v := (1 : Int32)) hx hb dX7_goOpening_159 (by decide) ?_
              exact mz_ret (upd (upd v 2 ((v 2) + (1 : Int32))) 3 (a0 - (97 : Int32)), va_up f 1 (upd (f 1) (v 1).toNatClampNeg ((1 : Int32) <<< ((a0 - (97 : Int32)) &&& 31))), z) hx hb hr hlocks rfl h hK hP hD hS dX7_goOpening_160
          · have h := h.2 c9
            refine lv_iconst (v := (0 : Int32)) hx hb dX7_goOpening_107 (by decide) ?_
            exact mz_ret (v, f, z) hx hb hr hlocks rfl h hK hP hD hS dX7_goOpening_108
    · have h := h.1 c9
      refine lv_aload_n hx hb dX7_goOpening_17 rfl (lv_at hl 1 rfl) ?_
      refine yg_s2 (x := v 2) hx hb hts iX7 hown hK hP k65 rfl dX7_goOpening_18 ?_
      refine lv_if_le (tgt := 55) hx hb dX7_goOpening_21 (by decide) (fun c9 => ?_) (fun c9 => ?_)
      · have h := h.1 c9
        refine lv_iconst (v := (0 : Int32)) hx hb dX7_goOpening_55 (by decide) ?_
        exact B56 _ _ _ _ h _ _ hP hD hS ls (lv_sub hl [1] rfl)
      · have h := h.2 c9
        refine lv_iload_n hx hb dX7_goOpening_24 rfl (lv_at hl 2 rfl) ?_
        refine lv_bipush (v := (59 : Int32)) hx hb dX7_goOpening_25 (by decide) ?_
        refine lv_icmp_ne (tgt := 34) hx hb dX7_goOpening_27 (by decide) (fun c9 => ?_) (fun c9 => ?_)
        · have h := h.2 c9
          refine lv_iconst (v := (0 : Int32)) hx hb dX7_goOpening_34 (by decide) ?_
          exact B35 _ _ _ _ h _ _ hP hD hS ls (lv_sub hl [1] rfl)
        · have h := h.1 c9
          refine lv_iconst (v := (1 : Int32)) hx hb dX7_goOpening_30 (by decide) ?_
          refine lv_goto (tgt := 35) hx hb dX7_goOpening_31 (by decide) ?_
          exact B35 _ _ _ _ h _ _ hP hD hS ls (lv_sub hl [1] rfl)
def wp_X7_goSpeaker (post : Int32 → (Nat → Int32) → (Nat → Nat → Int32) → Int64 → Prop) (v : Nat → Int32) (f : Nat → Nat → Int32) (z : Int64) (a0 : Int32) : Prop := (((v 5) = 0 → (wp_X7_kindBy (fun r2 => (vp_in ((2 : Int32) * (v 4)) 8 ∧ (wp_X7_kindBy (fun r3 => ((r3 = (-1 : Int32) → post (0 : Int32) (upd v 5 (((v 5) + (1 : Int32)) - ((v 5) + (1 : Int32)) / (3 : Int32) * (3 : Int32))) (va_up f 2 (upd (f 2) ((2 : Int32) * (v 4)).toNatClampNeg r2)) z) ∧ (¬ r3 = (-1 : Int32) → post (1 : Int32) (upd v 5 (((v 5) + (1 : Int32)) - ((v 5) + (1 : Int32)) / (3 : Int32) * (3 : Int32))) (va_up f 2 (upd (f 2) ((2 : Int32) * (v 4)).toNatClampNeg r2)) z))) a0))) a0)) ∧ (¬ (v 5) = 0 → (((v 5) = (1 : Int32) → (vp_in (((2 : Int32) * (v 4)) + (1 : Int32)) 8 ∧ (wp_X7_in (fun r1 => (nb r1 ∧ post r1 (upd (upd v 5 (((v 5) + (1 : Int32)) - ((v 5) + (1 : Int32)) / (3 : Int32) * (3 : Int32))) 4 ((v 4) + (1 : Int32))) (va_up f 2 (upd (f 2) (((2 : Int32) * (v 4)) + (1 : Int32)).toNatClampNeg (a0 - (97 : Int32)))) z)) ((a0).toInt64) (97 : Int64) (102 : Int64)))) ∧ (¬ (v 5) = (1 : Int32) → ((a0 = (44 : Int32) → (((4 : Int32) ≤ (v 4) → post (0 : Int32) (upd v 5 (((v 5) + (1 : Int32)) - ((v 5) + (1 : Int32)) / (3 : Int32) * (3 : Int32))) f z) ∧ (¬ (4 : Int32) ≤ (v 4) → post (1 : Int32) (upd v 5 (((v 5) + (1 : Int32)) - ((v 5) + (1 : Int32)) / (3 : Int32) * (3 : Int32))) f z))) ∧ (¬ a0 = (44 : Int32) → post (0 : Int32) (upd v 5 (((v 5) + (1 : Int32)) - ((v 5) + (1 : Int32)) / (3 : Int32) * (3 : Int32))) f z))))))
def rmX7_goSpeaker : Room := { frames := 1, cells := 0, slots := 0, locals := 25 }
set_option maxHeartbeats 4000000 in
set_option maxRecDepth 100000 in
theorem c_X7_goSpeaker (l : Launch) (D : va_G) (cI : ClassId) (q : Nat → Nat) (sz : Nat) (post : Int32 → (Nat → Int32) → (Nat → Nat → Int32) → Int64 → Prop) (v : Nat → Int32) (f : Nat → Nat → Int32) (z : Int64) (a0 : Int32) (h : wp_X7_goSpeaker post v f z a0) : Met l yX7_goSpeaker wsX7_goSpeaker rmX7_goSpeaker (va_Pc [.ref (q 0), .int a0] (mP D cI (wY cI q v f z) sz)) (mQi post D cI (wY cI q) (va_A (wY cI q v f z) sz)) 0 0 (va_A (wY cI q v f z) sz) := by
  refine Met.ofW (cc := cX7_goSpeaker) (maxL := 3) (ret := (some .boolean)) (by decide) rfl ?_
  intro p e s m args below meth c s₁ B hml hv
  obtain ⟨rfl, hsz, ⟨hP, hK, hN⟩, hD0⟩ := hv
  have hx := B.exec
  have hb := B.bytes
  have hr := B.returns
  have hts := atoms_spec (ws := wsX7_goSpeaker) B.pre
  have hown : s.vm.findClass RX7 = some m.cls := findClass_of_methodNamed B.named
  have hlocks : meth.locks = false := B.notSynchronized
  subst hsz
  have hD := hD0.self (sz := s.heap.size)
  generalize hAe : va_A (wY cI q v f z) s.heap.size = A at hD ⊢
  have hA : ∀ q : Nat, s.heap.size ≤ q → A q := fun q h => by rw [← hAe]; exact Or.inr h
  have hS : va_S A s.heap s.heap [] := va_S.rf
  have iX7 : ∀ w ∈ wsX70, w ∈ wsX7_goSpeaker := fun _ h9 => List.mem_cons_of_mem _ (List.mem_append_right _ h9)
  have k16 := hts (.fieldLink RX7 16 "EndedByOthersModel" "readRows" "[I") (by decide +kernel)
  have k76 := hts (.fieldLink RX7 76 "EndedByOthersModel" "step" "I") (by decide +kernel)
  have k79 := hts (.fieldLink RX7 79 "EndedByOthersModel" "readMany" "I") (by decide +kernel)
  have hl := lv_entry ([.ref (q 0), .int a0]) (n := 3) (Nat.le_of_ble_eq_true rfl)
  rw [lg_entry_eq]
  generalize (lg_sl ([.ref (q 0), .int a0]) ++ List.replicate (3 - (lg_sl ([.ref (q 0), .int a0])).length) Slot.unset).toArray = ls at hl ⊢
  have hl : lv_has ls 3 [(0, .ref (q 0)), (1, .int a0)] := hl
  unfold wp_X7_goSpeaker at h
  refine lv_aload_n hx hb dX7_goSpeaker_0 rfl (lv_at hl 0 rfl) ?_
  refine yg_s5 (x := v 5) hx hb hts iX7 hown hK hP k76 rfl dX7_goSpeaker_1 ?_
  refine lv_istore_n (lv' := [(2, .int (v 5)), (0, .ref (q 0)), (1, .int a0)]) hx hb dX7_goSpeaker_4 rfl hl (by decide) rfl (fun ls hl => ?_)
  refine lv_aload_n hx hb dX7_goSpeaker_5 rfl (lv_at hl 1 rfl) ?_
  refine lv_aload_n hx hb dX7_goSpeaker_6 rfl (lv_at hl 1 rfl) ?_
  refine yg_s5 (x := v 5) hx hb hts iX7 hown hK hP k76 rfl dX7_goSpeaker_7 ?_
  refine lv_iconst (v := (1 : Int32)) hx hb dX7_goSpeaker_10 (by decide) ?_
  refine lv_iadd hx hb dX7_goSpeaker_11 ?_
  refine lv_iconst (v := (3 : Int32)) hx hb dX7_goSpeaker_12 (by decide) ?_
  refine lv_irem hx hb dX7_goSpeaker_13 (by decide) ?_
  refine yp_s5 hx hb hts iX7 hown hK hP hD hS k76 dX7_goSpeaker_14 (fun H locs hP hD hS => ?_)
  refine lv_iload_n hx hb dX7_goSpeaker_17 rfl (lv_at hl 0 rfl) ?_
  refine lv_if_ne (tgt := 50) hx hb dX7_goSpeaker_18 (by decide) (fun c9 => ?_) (fun c9 => ?_)
  · have h := h.2 c9
    refine lv_iload_n hx hb dX7_goSpeaker_50 rfl (lv_at hl 0 rfl) ?_
    refine lv_iconst (v := (1 : Int32)) hx hb dX7_goSpeaker_51 (by decide) ?_
    refine lv_icmp_ne (tgt := 94) hx hb dX7_goSpeaker_52 (by decide) (fun c9 => ?_) (fun c9 => ?_)
    · have h := h.2 c9
      refine lv_iload_n hx hb dX7_goSpeaker_94 rfl (lv_at hl 2 rfl) ?_
      refine lv_bipush (v := (44 : Int32)) hx hb dX7_goSpeaker_95 (by decide) ?_
      refine lv_icmp_ne (tgt := 112) hx hb dX7_goSpeaker_97 (by decide) (fun c9 => ?_) (fun c9 => ?_)
      · have h := h.2 c9
        refine lv_iconst (v := (0 : Int32)) hx hb dX7_goSpeaker_112 (by decide) ?_
        exact mz_ret (upd v 5 (((v 5) + (1 : Int32)) - ((v 5) + (1 : Int32)) / (3 : Int32) * (3 : Int32)), f, z) hx hb hr hlocks rfl h hK hP hD hS dX7_goSpeaker_113
      · have h := h.1 c9
        refine lv_aload_n hx hb dX7_goSpeaker_100 rfl (lv_at hl 1 rfl) ?_
        refine yg_s4 (x := v 4) hx hb hts iX7 hown hK hP k79 rfl dX7_goSpeaker_101 ?_
        refine lv_iconst (v := (4 : Int32)) hx hb dX7_goSpeaker_104 (by decide) ?_
        refine lv_icmp_ge (tgt := 112) hx hb dX7_goSpeaker_105 (by decide) (fun c9 => ?_) (fun c9 => ?_)
        · have h := h.1 c9
          refine lv_iconst (v := (0 : Int32)) hx hb dX7_goSpeaker_112 (by decide) ?_
          exact mz_ret (upd v 5 (((v 5) + (1 : Int32)) - ((v 5) + (1 : Int32)) / (3 : Int32) * (3 : Int32)), f, z) hx hb hr hlocks rfl h hK hP hD hS dX7_goSpeaker_113
        · have h := h.2 c9
          refine lv_iconst (v := (1 : Int32)) hx hb dX7_goSpeaker_108 (by decide) ?_
          refine lv_goto (tgt := 113) hx hb dX7_goSpeaker_109 (by decide) ?_
          exact mz_ret (upd v 5 (((v 5) + (1 : Int32)) - ((v 5) + (1 : Int32)) / (3 : Int32) * (3 : Int32)), f, z) hx hb hr hlocks rfl h hK hP hD hS dX7_goSpeaker_113
    · have h := h.1 c9
      refine lv_aload_n hx hb dX7_goSpeaker_55 rfl (lv_at hl 1 rfl) ?_
      refine yg_r0_3 hx hb hts iX7 hown hK hP k16 dX7_goSpeaker_56 ?_
      refine lv_iconst (v := (2 : Int32)) hx hb dX7_goSpeaker_59 (by decide) ?_
      refine lv_aload_n hx hb dX7_goSpeaker_60 rfl (lv_at hl 1 rfl) ?_
      refine yg_s4 (x := v 4) hx hb hts iX7 hown hK hP k79 rfl dX7_goSpeaker_61 ?_
      refine lv_imul hx hb dX7_goSpeaker_64 ?_
      refine lv_iconst (v := (1 : Int32)) hx hb dX7_goSpeaker_65 (by decide) ?_
      refine lv_iadd hx hb dX7_goSpeaker_66 ?_
      refine lv_iload_n hx hb dX7_goSpeaker_67 rfl (lv_at hl 2 rfl) ?_
      refine lv_bipush (v := (97 : Int32)) hx hb dX7_goSpeaker_68 (by decide) ?_
      refine lv_isub hx hb dX7_goSpeaker_70 ?_
      obtain ⟨h9, h⟩ := h
      refine yas_2 hx hb hK hP hD hS h9 dX7_goSpeaker_71 (fun H locs hP hD hS => ?_)
      have hP : va_P D vwCl (wY cI q (upd v 5 (((v 5) + (1 : Int32)) - ((v 5) + (1 : Int32)) / (3 : Int32) * (3 : Int32))) (va_up f 2 (upd (f 2) (((2 : Int32) * (v 4)) + (1 : Int32)).toNatClampNeg (a0 - (97 : Int32)))) z) H := hP
      have hD : va_D A (wY cI q (upd v 5 (((v 5) + (1 : Int32)) - ((v 5) + (1 : Int32)) / (3 : Int32) * (3 : Int32))) (va_up f 2 (upd (f 2) (((2 : Int32) * (v 4)) + (1 : Int32)).toNatClampNeg (a0 - (97 : Int32)))) z) := hD
      refine lv_aload_n hx hb dX7_goSpeaker_72 rfl (lv_at hl 1 rfl) ?_
      refine lv_dup hx hb dX7_goSpeaker_73 rfl ?_
      refine yg_s4 (x := v 4) hx hb hts iX7 hown hK hP k79 rfl dX7_goSpeaker_74 ?_
      refine lv_iconst (v := (1 : Int32)) hx hb dX7_goSpeaker_77 (by decide) ?_
      refine lv_iadd hx hb dX7_goSpeaker_78 ?_
      refine yp_s4 hx hb hts iX7 hown hK hP hD hS k79 dX7_goSpeaker_79 (fun H locs hP hD hS => ?_)
      refine lv_iload_n hx hb dX7_goSpeaker_82 rfl (lv_at hl 2 rfl) ?_
      refine lv_i2l (v := (a0).toInt64) hx hb dX7_goSpeaker_83 rfl ?_
      refine lv_ldc2 (v := (97 : Int64)) hx hb hown (hts (.constantLong RX7 86 (97)) (by decide +kernel)) dX7_goSpeaker_84 ?_
      refine lv_ldc2 (v := (102 : Int64)) hx hb hown (hts (.constantLong RX7 88 (102)) (by decide +kernel)) dX7_goSpeaker_87 ?_
      refine rS_i ⟨hx, hb, hml, hown, hts⟩ (c_X7_in l D cI _ _ _ _ h) (va_cwS 3 hts gX7_goSpeaker_X7_in rfl rfl rfl (by decide +kernel) ⟨Nat.le_of_ble_eq_true rfl, Nat.le_of_ble_eq_true rfl⟩) hK wPnil hN rfl hl.1 (rest := []) rfl (Nat.le_of_ble_eq_true rfl) dX7_goSpeaker_90 (Nat.zero_le _) (Nat.zero_le _) (fun r1 h => ?_)
      obtain ⟨h9, h⟩ := h
      exact mz_ret (upd (upd v 5 (((v 5) + (1 : Int32)) - ((v 5) + (1 : Int32)) / (3 : Int32) * (3 : Int32))) 4 ((v 4) + (1 : Int32)), va_up f 2 (upd (f 2) (((2 : Int32) * (v 4)) + (1 : Int32)).toNatClampNeg (a0 - (97 : Int32))), z) hx hb hr hlocks h9 h hK hP hD hS dX7_goSpeaker_93
  · have h := h.1 c9
    refine lv_aload_n hx hb dX7_goSpeaker_21 rfl (lv_at hl 1 rfl) ?_
    refine yg_r0_3 hx hb hts iX7 hown hK hP k16 dX7_goSpeaker_22 ?_
    refine lv_iconst (v := (2 : Int32)) hx hb dX7_goSpeaker_25 (by decide) ?_
    refine lv_aload_n hx hb dX7_goSpeaker_26 rfl (lv_at hl 1 rfl) ?_
    refine yg_s4 (x := v 4) hx hb hts iX7 hown hK hP k79 rfl dX7_goSpeaker_27 ?_
    refine lv_imul hx hb dX7_goSpeaker_30 ?_
    refine lv_iload_n hx hb dX7_goSpeaker_31 rfl (lv_at hl 2 rfl) ?_
    refine rS_i ⟨hx, hb, hml, hown, hts⟩ (c_X7_kindBy l D cI _ _ h) (va_cwS 1 hts gX7_goSpeaker_X7_kindBy rfl rfl rfl (by decide +kernel) ⟨Nat.le_of_ble_eq_true rfl, Nat.le_of_ble_eq_true rfl⟩) hK wPnil hN rfl hl.1 (rest := [.int ((2 : Int32) * (v 4)), .ref (q 3)]) rfl (Nat.le_of_ble_eq_true rfl) dX7_goSpeaker_32 (Nat.zero_le _) (Nat.zero_le _) (fun r2 h => ?_)
    obtain ⟨h9, h⟩ := h
    refine yas_2 hx hb hK hP hD hS h9 dX7_goSpeaker_35 (fun H locs hP hD hS => ?_)
    have hP : va_P D vwCl (wY cI q (upd v 5 (((v 5) + (1 : Int32)) - ((v 5) + (1 : Int32)) / (3 : Int32) * (3 : Int32))) (va_up f 2 (upd (f 2) ((2 : Int32) * (v 4)).toNatClampNeg r2)) z) H := hP
    have hD : va_D A (wY cI q (upd v 5 (((v 5) + (1 : Int32)) - ((v 5) + (1 : Int32)) / (3 : Int32) * (3 : Int32))) (va_up f 2 (upd (f 2) ((2 : Int32) * (v 4)).toNatClampNeg r2)) z) := hD
    refine lv_iload_n hx hb dX7_goSpeaker_36 rfl (lv_at hl 2 rfl) ?_
    refine rS_i ⟨hx, hb, hml, hown, hts⟩ (c_X7_kindBy l D cI _ _ h) (va_cwS 1 hts gX7_goSpeaker_X7_kindBy rfl rfl rfl (by decide +kernel) ⟨Nat.le_of_ble_eq_true rfl, Nat.le_of_ble_eq_true rfl⟩) hK wPnil hN rfl hl.1 (rest := []) rfl (Nat.le_of_ble_eq_true rfl) dX7_goSpeaker_37 (Nat.zero_le _) (Nat.zero_le _) (fun r3 h => ?_)
    refine lv_iconst (v := (-1 : Int32)) hx hb dX7_goSpeaker_40 (by decide) ?_
    refine lv_icmp_eq (tgt := 48) hx hb dX7_goSpeaker_41 (by decide) (fun c9 => ?_) (fun c9 => ?_)
    · have h := h.1 c9
      refine lv_iconst (v := (0 : Int32)) hx hb dX7_goSpeaker_48 (by decide) ?_
      exact mz_ret (upd v 5 (((v 5) + (1 : Int32)) - ((v 5) + (1 : Int32)) / (3 : Int32) * (3 : Int32)), va_up f 2 (upd (f 2) ((2 : Int32) * (v 4)).toNatClampNeg r2), z) hx hb hr hlocks rfl h hK hP hD hS dX7_goSpeaker_49
    · have h := h.2 c9
      refine lv_iconst (v := (1 : Int32)) hx hb dX7_goSpeaker_44 (by decide) ?_
      refine lv_goto (tgt := 49) hx hb dX7_goSpeaker_45 (by decide) ?_
      exact mz_ret (upd v 5 (((v 5) + (1 : Int32)) - ((v 5) + (1 : Int32)) / (3 : Int32) * (3 : Int32)), va_up f 2 (upd (f 2) ((2 : Int32) * (v 4)).toNatClampNeg r2), z) hx hb hr hlocks rfl h hK hP hD hS dX7_goSpeaker_49
def wp_X7_faultOf_B27 (post : Int32 → (Nat → Int32) → (Nat → Nat → Int32) → Int64 → Prop) : Nat → (Nat → Int32) → (Nat → Nat → Int32) → Int64 → Int32 → Prop
  | 0, _, _, _, _ => False
  | n27 + 1, v, f, z, x1 => (((v 0) ≤ x1 → post x1 v f z) ∧ (¬ (v 0) ≤ x1 → (((4 : Int32) ≤ (v 1) → (vp_in x1 30 ∧ (wp_X7_goSpeaker (fun r1 v2 f3 z4 => ((r1 = 0 → post x1 v2 f3 z4) ∧ (¬ r1 = 0 → wp_X7_faultOf_B27 post n27 v2 f3 z4 (x1 + 1)))) v f z (f 0 (x1).toNatClampNeg)))) ∧ (¬ (4 : Int32) ≤ (v 1) → (vp_in x1 30 ∧ (wp_X7_goOpening (fun r5 v6 f7 z8 => ((r5 = 0 → post x1 v6 f7 z8) ∧ (¬ r5 = 0 → wp_X7_faultOf_B27 post n27 v6 f7 z8 (x1 + 1)))) v f z (f 0 (x1).toNatClampNeg)))))))
def wp_X7_faultOf (post : Int32 → (Nat → Int32) → (Nat → Nat → Int32) → Int64 → Prop) (v : Nat → Int32) (f : Nat → Nat → Int32) (z : Int64) : Prop := (∃ j9 : Nat, wp_X7_faultOf_B27 post j9 (upd (upd (upd (upd (upd v 1 (0 : Int32)) 2 (0 : Int32)) 3 (-1 : Int32)) 4 (0 : Int32)) 5 (0 : Int32)) f z (0 : Int32))
def rmX7_faultOf : Room := { frames := 2, cells := 0, slots := 0, locals := 48 }
set_option maxHeartbeats 4000000 in
set_option maxRecDepth 100000 in
theorem c_X7_faultOf (l : Launch) (D : va_G) (cI : ClassId) (q : Nat → Nat) (sz : Nat) (post : Int32 → (Nat → Int32) → (Nat → Nat → Int32) → Int64 → Prop) (v : Nat → Int32) (f : Nat → Nat → Int32) (z : Int64) (h : wp_X7_faultOf post v f z) : Met l yX7_faultOf wsX7_faultOf rmX7_faultOf (va_Pc [.ref (q 0)] (mP D cI (wY cI q v f z) sz)) (mQi post D cI (wY cI q) (va_A (wY cI q v f z) sz)) 0 0 (va_A (wY cI q v f z) sz) := by
  refine Met.ofW (cc := cX7_faultOf) (maxL := 2) (ret := (some .int)) (by decide) rfl ?_
  intro p e s m args below meth c s₁ B hml hv
  obtain ⟨rfl, hsz, ⟨hP, hK, hN⟩, hD0⟩ := hv
  have hx := B.exec
  have hb := B.bytes
  have hr := B.returns
  have hts := atoms_spec (ws := wsX7_faultOf) B.pre
  have hown : s.vm.findClass RX7 = some m.cls := findClass_of_methodNamed B.named
  have hlocks : meth.locks = false := B.notSynchronized
  subst hsz
  have hD := hD0.self (sz := s.heap.size)
  generalize hAe : va_A (wY cI q v f z) s.heap.size = A at hD ⊢
  have hA : ∀ q : Nat, s.heap.size ≤ q → A q := fun q h => by rw [← hAe]; exact Or.inr h
  have hS : va_S A s.heap s.heap [] := va_S.rf
  have iX7 : ∀ w ∈ wsX70, w ∈ wsX7_faultOf := fun _ h9 => List.mem_cons_of_mem _ (List.mem_append_right _ h9)
  have k62 := hts (.fieldLink RX7 62 "EndedByOthersModel" "pageMany" "I") (by decide +kernel)
  have k65 := hts (.fieldLink RX7 65 "EndedByOthersModel" "partMany" "I") (by decide +kernel)
  have k68 := hts (.fieldLink RX7 68 "EndedByOthersModel" "part" "I") (by decide +kernel)
  have k7 := hts (.fieldLink RX7 7 "EndedByOthersModel" "page" "[I") (by decide +kernel)
  have k71 := hts (.fieldLink RX7 71 "EndedByOthersModel" "lastOne" "I") (by decide +kernel)
  have k76 := hts (.fieldLink RX7 76 "EndedByOthersModel" "step" "I") (by decide +kernel)
  have k79 := hts (.fieldLink RX7 79 "EndedByOthersModel" "readMany" "I") (by decide +kernel)
  have hl := lv_entry ([.ref (q 0)]) (n := 2) (Nat.le_of_ble_eq_true rfl)
  rw [lg_entry_eq]
  generalize (lg_sl ([.ref (q 0)]) ++ List.replicate (2 - (lg_sl ([.ref (q 0)])).length) Slot.unset).toArray = ls at hl ⊢
  have hl : lv_has ls 2 [(0, .ref (q 0))] := hl
  unfold wp_X7_faultOf at h
  have B27 : ∀ (n27 : Nat) (v : Nat → Int32) (f : Nat → Nat → Int32) (z : Int64) (x1 : Int32), wp_X7_faultOf_B27 post n27 v f z x1 → ∀ (H : Heap) (locs : List Loc), va_P D vwCl (wY cI q v f z) H → va_D A (wY cI q v f z) → va_S A s.heap H locs → ∀ (ls : Array Slot), lv_has ls 2 [(0, .ref (q 0)), (1, .int x1)] → W p l e (headSpec wsX7_faultOf rmX7_faultOf).room s m ([.ref (q 0)] : List Value).toArray below meth c H locs 0 0 (MQ below (mQi post D cI (wY cI q) A) ([.ref (q 0)] : List Value).toArray s 0 0 A) (F0 m 27 ls []) := by
    intro n27
    induction n27 with
    | zero =>
      intro v f z x1 h
      exact False.elim h
    | succ n27 ih27 =>
      intro v f z x1 h H locs hP hD hS ls hl
      rw [wp_X7_faultOf_B27] at h
      refine lv_iload_n hx hb dX7_faultOf_27 rfl (lv_at hl 1 rfl) ?_
      refine lv_aload_n hx hb dX7_faultOf_28 rfl (lv_at hl 0 rfl) ?_
      refine yg_s0 (x := v 0) hx hb hts iX7 hown hK hP k62 rfl dX7_faultOf_29 ?_
      refine lv_icmp_ge (tgt := 78) hx hb dX7_faultOf_32 (by decide) (fun c9 => ?_) (fun c9 => ?_)
      · have h := h.1 c9
        refine lv_iload_n hx hb dX7_faultOf_78 rfl (lv_at hl 1 rfl) ?_
        exact mi_ret (v, f, z) hx hb hr hlocks h hK hP hD hS dX7_faultOf_79
      · have h := h.2 c9
        refine lv_aload_n hx hb dX7_faultOf_35 rfl (lv_at hl 0 rfl) ?_
        refine yg_s1 (x := v 1) hx hb hts iX7 hown hK hP k68 rfl dX7_faultOf_36 ?_
        refine lv_iconst (v := (4 : Int32)) hx hb dX7_faultOf_39 (by decide) ?_
        refine lv_icmp_ge (tgt := 59) hx hb dX7_faultOf_40 (by decide) (fun c9 => ?_) (fun c9 => ?_)
        · have h := h.1 c9
          refine lv_aload_n hx hb dX7_faultOf_59 rfl (lv_at hl 0 rfl) ?_
          refine lv_aload_n hx hb dX7_faultOf_60 rfl (lv_at hl 0 rfl) ?_
          refine yg_r0_1 hx hb hts iX7 hown hK hP k7 dX7_faultOf_61 ?_
          refine lv_iload_n hx hb dX7_faultOf_64 rfl (lv_at hl 1 rfl) ?_
          obtain ⟨h9, h⟩ := h
          refine yal_0 (x := f 0 (x1).toNatClampNeg) hx hb hK hP h9 rfl dX7_faultOf_65 ?_
          refine mV_i ⟨hx, hb, hml, hown, hts⟩ (c_X7_goSpeaker l D cI q _ _ _ _ _ _ h) (cwV 1 hts gX7_faultOf_X7_goSpeaker rfl rfl rfl (by decide +kernel) ⟨Nat.le_of_ble_eq_true rfl, Nat.le_of_ble_eq_true rfl⟩) hK hP hN hD hS hA (va_recv hK hP (ci := 7) (q0 := 0) rfl rfl) rfl hl.1 (rest := []) rfl (Nat.le_of_ble_eq_true rfl) dX7_faultOf_66 (Nat.zero_le _) (Nat.zero_le _) (fun r1 v2 f3 z4 h H locs hP hD hS => ?_)
          refine lv_if_eq (tgt := 78) hx hb dX7_faultOf_69 (by decide) (fun c9 => ?_) (fun c9 => ?_)
          · have h := h.1 c9
            refine lv_iload_n hx hb dX7_faultOf_78 rfl (lv_at hl 1 rfl) ?_
            exact mi_ret (v2, f3, z4) hx hb hr hlocks h hK hP hD hS dX7_faultOf_79
          · have h := h.2 c9
            refine lv_iinc (v := x1 + 1) (lv' := [(1, .int (x1 + 1)), (0, .ref (q 0))]) hx hb dX7_faultOf_72 hl (k := 1) rfl rfl (by decide) rfl (fun ls hl => ?_)
            refine lv_goto (tgt := 27) hx hb dX7_faultOf_75 (by decide) ?_
            exact ih27 _ _ _ _ h _ _ hP hD hS ls (lv_sub hl [1, 0] rfl)
        · have h := h.2 c9
          refine lv_aload_n hx hb dX7_faultOf_43 rfl (lv_at hl 0 rfl) ?_
          refine lv_aload_n hx hb dX7_faultOf_44 rfl (lv_at hl 0 rfl) ?_
          refine yg_r0_1 hx hb hts iX7 hown hK hP k7 dX7_faultOf_45 ?_
          refine lv_iload_n hx hb dX7_faultOf_48 rfl (lv_at hl 1 rfl) ?_
          obtain ⟨h9, h⟩ := h
          refine yal_0 (x := f 0 (x1).toNatClampNeg) hx hb hK hP h9 rfl dX7_faultOf_49 ?_
          refine mV_i ⟨hx, hb, hml, hown, hts⟩ (c_X7_goOpening l D cI q _ _ _ _ _ _ h) (cwV 1 hts gX7_faultOf_X7_goOpening rfl rfl rfl (by decide +kernel) ⟨Nat.le_of_ble_eq_true rfl, Nat.le_of_ble_eq_true rfl⟩) hK hP hN hD hS hA (va_recv hK hP (ci := 7) (q0 := 0) rfl rfl) rfl hl.1 (rest := []) rfl (Nat.le_of_ble_eq_true rfl) dX7_faultOf_50 (Nat.zero_le _) (Nat.zero_le _) (fun r5 v6 f7 z8 h H locs hP hD hS => ?_)
          refine lv_if_eq (tgt := 78) hx hb dX7_faultOf_53 (by decide) (fun c9 => ?_) (fun c9 => ?_)
          · have h := h.1 c9
            refine lv_iload_n hx hb dX7_faultOf_78 rfl (lv_at hl 1 rfl) ?_
            exact mi_ret (v6, f7, z8) hx hb hr hlocks h hK hP hD hS dX7_faultOf_79
          · have h := h.2 c9
            refine lv_goto (tgt := 72) hx hb dX7_faultOf_56 (by decide) ?_
            refine lv_iinc (v := x1 + 1) (lv' := [(1, .int (x1 + 1)), (0, .ref (q 0))]) hx hb dX7_faultOf_72 hl (k := 1) rfl rfl (by decide) rfl (fun ls hl => ?_)
            refine lv_goto (tgt := 27) hx hb dX7_faultOf_75 (by decide) ?_
            exact ih27 _ _ _ _ h _ _ hP hD hS ls (lv_sub hl [1, 0] rfl)
  refine lv_aload_n hx hb dX7_faultOf_0 rfl (lv_at hl 0 rfl) ?_
  refine lv_iconst (v := (0 : Int32)) hx hb dX7_faultOf_1 (by decide) ?_
  refine yp_s1 hx hb hts iX7 hown hK hP hD hS k68 dX7_faultOf_2 (fun H locs hP hD hS => ?_)
  refine lv_aload_n hx hb dX7_faultOf_5 rfl (lv_at hl 0 rfl) ?_
  refine lv_iconst (v := (0 : Int32)) hx hb dX7_faultOf_6 (by decide) ?_
  refine yp_s2 hx hb hts iX7 hown hK hP hD hS k65 dX7_faultOf_7 (fun H locs hP hD hS => ?_)
  refine lv_aload_n hx hb dX7_faultOf_10 rfl (lv_at hl 0 rfl) ?_
  refine lv_iconst (v := (-1 : Int32)) hx hb dX7_faultOf_11 (by decide) ?_
  refine yp_s3 hx hb hts iX7 hown hK hP hD hS k71 dX7_faultOf_12 (fun H locs hP hD hS => ?_)
  refine lv_aload_n hx hb dX7_faultOf_15 rfl (lv_at hl 0 rfl) ?_
  refine lv_iconst (v := (0 : Int32)) hx hb dX7_faultOf_16 (by decide) ?_
  refine yp_s4 hx hb hts iX7 hown hK hP hD hS k79 dX7_faultOf_17 (fun H locs hP hD hS => ?_)
  refine lv_aload_n hx hb dX7_faultOf_20 rfl (lv_at hl 0 rfl) ?_
  refine lv_iconst (v := (0 : Int32)) hx hb dX7_faultOf_21 (by decide) ?_
  refine yp_s5 hx hb hts iX7 hown hK hP hD hS k76 dX7_faultOf_22 (fun H locs hP hD hS => ?_)
  refine lv_iconst (v := (0 : Int32)) hx hb dX7_faultOf_25 (by decide) ?_
  refine lv_istore_n (lv' := [(1, .int (0 : Int32)), (0, .ref (q 0))]) hx hb dX7_faultOf_26 rfl hl (by decide) rfl (fun ls hl => ?_)
  obtain ⟨n9, h⟩ := h
  exact B27 n9 _ _ _ _ h _ _ hP hD hS ls (lv_sub hl [1, 0] rfl)
def wp_X7_fault (post : Int32 → (Nat → Int32) → (Nat → Nat → Int32) → Int64 → Prop) (v : Nat → Int32) (f : Nat → Nat → Int32) (z : Int64) : Prop := (wp_X7_faultOf (fun r1 v2 f3 z4 => post r1 v2 f3 z4) v f z)
def rmX7_fault : Room := { frames := 3, cells := 0, slots := 0, locals := 69 }
set_option maxHeartbeats 4000000 in
set_option maxRecDepth 100000 in
theorem c_X7_fault (l : Launch) (D : va_G) (cI : ClassId) (q : Nat → Nat) (sz : Nat) (post : Int32 → (Nat → Int32) → (Nat → Nat → Int32) → Int64 → Prop) (v : Nat → Int32) (f : Nat → Nat → Int32) (z : Int64) (h : wp_X7_fault post v f z) : Met l yX7_fault wsX7_fault rmX7_fault (va_Pc [.ref (q 0)] (mP D cI (wY cI q v f z) sz)) (mQi post D cI (wY cI q) (va_A (wY cI q v f z) sz)) 0 0 (va_A (wY cI q v f z) sz) := by
  refine Met.ofW (cc := cX7_fault) (maxL := 1) (ret := (some .int)) (by decide) rfl ?_
  intro p e s m args below meth c s₁ B hml hv
  obtain ⟨rfl, hsz, ⟨hP, hK, hN⟩, hD0⟩ := hv
  have hx := B.exec
  have hb := B.bytes
  have hr := B.returns
  have hts := atoms_spec (ws := wsX7_fault) B.pre
  have hown : s.vm.findClass RX7 = some m.cls := findClass_of_methodNamed B.named
  have hlocks : meth.locks = false := B.notSynchronized
  subst hsz
  have hD := hD0.self (sz := s.heap.size)
  generalize hAe : va_A (wY cI q v f z) s.heap.size = A at hD ⊢
  have hA : ∀ q : Nat, s.heap.size ≤ q → A q := fun q h => by rw [← hAe]; exact Or.inr h
  have hS : va_S A s.heap s.heap [] := va_S.rf
  have hl := lv_entry ([.ref (q 0)]) (n := 1) (Nat.le_of_ble_eq_true rfl)
  rw [lg_entry_eq]
  generalize (lg_sl ([.ref (q 0)]) ++ List.replicate (1 - (lg_sl ([.ref (q 0)])).length) Slot.unset).toArray = ls at hl ⊢
  have hl : lv_has ls 1 [(0, .ref (q 0))] := hl
  unfold wp_X7_fault at h
  refine lv_aload_n hx hb dX7_fault_0 rfl (lv_at hl 0 rfl) ?_
  refine mV_i ⟨hx, hb, hml, hown, hts⟩ (c_X7_faultOf l D cI q _ _ _ _ _ h) (cwV 0 hts gX7_fault_X7_faultOf rfl rfl rfl (by decide +kernel) ⟨Nat.le_of_ble_eq_true rfl, Nat.le_of_ble_eq_true rfl⟩) hK hP hN hD hS hA (va_recv hK hP (ci := 7) (q0 := 0) rfl rfl) rfl hl.1 (rest := []) rfl (Nat.le_of_ble_eq_true rfl) dX7_fault_1 (Nat.zero_le _) (Nat.zero_le _) (fun r1 v2 f3 z4 h H locs hP hD hS => ?_)
  exact mi_ret (v2, f3, z4) hx hb hr hlocks h hK hP hD hS dX7_fault_4
def wp_X7_room_B51 (post : Int32 → (Nat → Int32) → (Nat → Nat → Int32) → Int64 → Prop) : Nat → (Nat → Int32) → (Nat → Nat → Int32) → Int64 → Int32 → Prop
  | 0, _, _, _, _ => False
  | n51 + 1, v, f, z, x1 => (((v 6) ≤ x1 → post (v 6) (upd (upd (upd (upd (upd v 7 (0 : Int32)) 9 (0 : Int32)) 10 (0 : Int32)) 8 ((v 8) + (1 : Int32))) 0 (0 : Int32)) f z) ∧ (¬ (v 6) ≤ x1 → (vp_in ((2 : Int32) * x1) 8 ∧ (vp_in ((3 : Int32) * x1) 12 ∧ (vp_in (((2 : Int32) * x1) + (1 : Int32)) 8 ∧ (vp_in (((3 : Int32) * x1) + (1 : Int32)) 12 ∧ (vp_in (((3 : Int32) * x1) + (2 : Int32)) 12 ∧ wp_X7_room_B51 post n51 v (va_up (va_up (va_up f 4 (upd (f 4) ((3 : Int32) * x1).toNatClampNeg (f 2 ((2 : Int32) * x1).toNatClampNeg))) 4 (upd (upd (f 4) ((3 : Int32) * x1).toNatClampNeg (f 2 ((2 : Int32) * x1).toNatClampNeg)) (((3 : Int32) * x1) + (1 : Int32)).toNatClampNeg (f 2 (((2 : Int32) * x1) + (1 : Int32)).toNatClampNeg))) 4 (upd (upd (upd (f 4) ((3 : Int32) * x1).toNatClampNeg (f 2 ((2 : Int32) * x1).toNatClampNeg)) (((3 : Int32) * x1) + (1 : Int32)).toNatClampNeg (f 2 (((2 : Int32) * x1) + (1 : Int32)).toNatClampNeg)) (((3 : Int32) * x1) + (2 : Int32)).toNatClampNeg (0 : Int32))) z (x1 + 1))))))))
def wp_X7_room (post : Int32 → (Nat → Int32) → (Nat → Nat → Int32) → Int64 → Prop) (v : Nat → Int32) (f : Nat → Nat → Int32) (z : Int64) : Prop := (wp_X7_faultOf (fun r1 v2 f3 z4 => ((r1 < (v2 0) → post (-103 : Int32) v2 f3 z4) ∧ (¬ r1 < (v2 0) → (((v2 5) = (2 : Int32) → (((2 : Int32) ≤ (v2 4) → (∃ j9 : Nat, wp_X7_room_B51 post j9 (upd v2 6 (v2 4)) (va_up f3 3 (va_cpy (f3 1) (f3 3) 0 0 4)) z4 (0 : Int32))) ∧ (¬ (2 : Int32) ≤ (v2 4) → post (-103 : Int32) v2 f3 z4))) ∧ (¬ (v2 5) = (2 : Int32) → post (-103 : Int32) v2 f3 z4))))) v f z)
def rmX7_room : Room := { frames := 3, cells := 0, slots := 0, locals := 69 }
set_option maxHeartbeats 4000000 in
set_option maxRecDepth 100000 in
theorem c_X7_room (l : Launch) (D : va_G) (cI : ClassId) (q : Nat → Nat) (sz : Nat) (post : Int32 → (Nat → Int32) → (Nat → Nat → Int32) → Int64 → Prop) (v : Nat → Int32) (f : Nat → Nat → Int32) (z : Int64) (h : wp_X7_room post v f z) : Met l yX7_room wsX7_room rmX7_room (va_Pc [.ref (q 0)] (mP D cI (wY cI q v f z) sz)) (mQi post D cI (wY cI q) (va_A (wY cI q v f z) sz)) 0 0 (va_A (wY cI q v f z) sz) := by
  refine Met.ofW (cc := cX7_room) (maxL := 2) (ret := (some .int)) (by decide) rfl ?_
  intro p e s m args below meth c s₁ B hml hv
  obtain ⟨rfl, hsz, ⟨hP, hK, hN⟩, hD0⟩ := hv
  have hx := B.exec
  have hb := B.bytes
  have hr := B.returns
  have hts := atoms_spec (ws := wsX7_room) B.pre
  have hown : s.vm.findClass RX7 = some m.cls := findClass_of_methodNamed B.named
  have hlocks : meth.locks = false := B.notSynchronized
  subst hsz
  have hD := hD0.self (sz := s.heap.size)
  generalize hAe : va_A (wY cI q v f z) s.heap.size = A at hD ⊢
  have hA : ∀ q : Nat, s.heap.size ≤ q → A q := fun q h => by rw [← hAe]; exact Or.inr h
  have hS : va_S A s.heap s.heap [] := va_S.rf
  have iX7 : ∀ w ∈ wsX70, w ∈ wsX7_room := fun _ h9 => List.mem_cons_of_mem _ (List.mem_append_right _ h9)
  have k101 := hts (.fieldLink RX7 101 "EndedByOthersModel" "speakers" "I") (by decide +kernel)
  have k108 := hts (.fieldLink RX7 108 "EndedByOthersModel" "wants" "I") (by decide +kernel)
  have k111 := hts (.fieldLink RX7 111 "EndedByOthersModel" "sentences" "I") (by decide +kernel)
  have k114 := hts (.fieldLink RX7 114 "EndedByOthersModel" "heardMany" "I") (by decide +kernel)
  have k117 := hts (.fieldLink RX7 117 "EndedByOthersModel" "roomsRead" "I") (by decide +kernel)
  have k13 := hts (.fieldLink RX7 13 "EndedByOthersModel" "readFits" "[I") (by decide +kernel)
  have k16 := hts (.fieldLink RX7 16 "EndedByOthersModel" "readRows" "[I") (by decide +kernel)
  have k19 := hts (.fieldLink RX7 19 "EndedByOthersModel" "fitting" "[I") (by decide +kernel)
  have k22 := hts (.fieldLink RX7 22 "EndedByOthersModel" "rows" "[I") (by decide +kernel)
  have k62 := hts (.fieldLink RX7 62 "EndedByOthersModel" "pageMany" "I") (by decide +kernel)
  have k76 := hts (.fieldLink RX7 76 "EndedByOthersModel" "step" "I") (by decide +kernel)
  have k79 := hts (.fieldLink RX7 79 "EndedByOthersModel" "readMany" "I") (by decide +kernel)
  have hl := lv_entry ([.ref (q 0)]) (n := 2) (Nat.le_of_ble_eq_true rfl)
  rw [lg_entry_eq]
  generalize (lg_sl ([.ref (q 0)]) ++ List.replicate (2 - (lg_sl ([.ref (q 0)])).length) Slot.unset).toArray = ls at hl ⊢
  have hl : lv_has ls 2 [(0, .ref (q 0))] := hl
  unfold wp_X7_room at h
  have B51 : ∀ (n51 : Nat) (v : Nat → Int32) (f : Nat → Nat → Int32) (z : Int64) (x1 : Int32), wp_X7_room_B51 post n51 v f z x1 → ∀ (H : Heap) (locs : List Loc), va_P D vwCl (wY cI q v f z) H → va_D A (wY cI q v f z) → va_S A s.heap H locs → ∀ (ls : Array Slot), lv_has ls 2 [(0, .ref (q 0)), (1, .int x1)] → W p l e (headSpec wsX7_room rmX7_room).room s m ([.ref (q 0)] : List Value).toArray below meth c H locs 0 0 (MQ below (mQi post D cI (wY cI q) A) ([.ref (q 0)] : List Value).toArray s 0 0 A) (F0 m 51 ls []) := by
    intro n51
    induction n51 with
    | zero =>
      intro v f z x1 h
      exact False.elim h
    | succ n51 ih51 =>
      intro v f z x1 h H locs hP hD hS ls hl
      rw [wp_X7_room_B51] at h
      refine lv_iload_n hx hb dX7_room_51 rfl (lv_at hl 1 rfl) ?_
      refine lv_aload_n hx hb dX7_room_52 rfl (lv_at hl 0 rfl) ?_
      refine yg_s6 (x := v 6) hx hb hts iX7 hown hK hP k101 rfl dX7_room_53 ?_
      refine lv_icmp_ge (tgt := 112) hx hb dX7_room_56 (by decide) (fun c9 => ?_) (fun c9 => ?_)
      · have h := h.1 c9
        refine lv_aload_n hx hb dX7_room_112 rfl (lv_at hl 0 rfl) ?_
        refine lv_iconst (v := (0 : Int32)) hx hb dX7_room_113 (by decide) ?_
        refine yp_s7 hx hb hts iX7 hown hK hP hD hS k108 dX7_room_114 (fun H locs hP hD hS => ?_)
        refine lv_aload_n hx hb dX7_room_117 rfl (lv_at hl 0 rfl) ?_
        refine lv_iconst (v := (0 : Int32)) hx hb dX7_room_118 (by decide) ?_
        refine yp_s9 hx hb hts iX7 hown hK hP hD hS k111 dX7_room_119 (fun H locs hP hD hS => ?_)
        refine lv_aload_n hx hb dX7_room_122 rfl (lv_at hl 0 rfl) ?_
        refine lv_iconst (v := (0 : Int32)) hx hb dX7_room_123 (by decide) ?_
        refine yp_s10 hx hb hts iX7 hown hK hP hD hS k114 dX7_room_124 (fun H locs hP hD hS => ?_)
        refine lv_aload_n hx hb dX7_room_127 rfl (lv_at hl 0 rfl) ?_
        refine lv_dup hx hb dX7_room_128 rfl ?_
        refine yg_s8 (x := v 8) hx hb hts iX7 hown hK hP k117 rfl dX7_room_129 ?_
        refine lv_iconst (v := (1 : Int32)) hx hb dX7_room_132 (by decide) ?_
        refine lv_iadd hx hb dX7_room_133 ?_
        refine yp_s8 hx hb hts iX7 hown hK hP hD hS k117 dX7_room_134 (fun H locs hP hD hS => ?_)
        refine lv_aload_n hx hb dX7_room_137 rfl (lv_at hl 0 rfl) ?_
        refine lv_iconst (v := (0 : Int32)) hx hb dX7_room_138 (by decide) ?_
        refine yp_s0 hx hb hts iX7 hown hK hP hD hS k62 dX7_room_139 (fun H locs hP hD hS => ?_)
        refine lv_aload_n hx hb dX7_room_142 rfl (lv_at hl 0 rfl) ?_
        refine yg_s6 (x := v 6) hx hb hts iX7 hown hK hP k101 rfl dX7_room_143 ?_
        exact mi_ret (upd (upd (upd (upd (upd v 7 (0 : Int32)) 9 (0 : Int32)) 10 (0 : Int32)) 8 ((v 8) + (1 : Int32))) 0 (0 : Int32), f, z) hx hb hr hlocks h hK hP hD hS dX7_room_146
      · have h := h.2 c9
        refine lv_aload_n hx hb dX7_room_59 rfl (lv_at hl 0 rfl) ?_
        refine yg_r0_5 hx hb hts iX7 hown hK hP k22 dX7_room_60 ?_
        refine lv_iconst (v := (3 : Int32)) hx hb dX7_room_63 (by decide) ?_
        refine lv_iload_n hx hb dX7_room_64 rfl (lv_at hl 1 rfl) ?_
        refine lv_imul hx hb dX7_room_65 ?_
        refine lv_aload_n hx hb dX7_room_66 rfl (lv_at hl 0 rfl) ?_
        refine yg_r0_3 hx hb hts iX7 hown hK hP k16 dX7_room_67 ?_
        refine lv_iconst (v := (2 : Int32)) hx hb dX7_room_70 (by decide) ?_
        refine lv_iload_n hx hb dX7_room_71 rfl (lv_at hl 1 rfl) ?_
        refine lv_imul hx hb dX7_room_72 ?_
        obtain ⟨h9, h⟩ := h
        refine yal_2 (x := f 2 ((2 : Int32) * x1).toNatClampNeg) hx hb hK hP h9 rfl dX7_room_73 ?_
        obtain ⟨h9, h⟩ := h
        refine yas_4 hx hb hK hP hD hS h9 dX7_room_74 (fun H locs hP hD hS => ?_)
        have hP : va_P D vwCl (wY cI q v (va_up f 4 (upd (f 4) ((3 : Int32) * x1).toNatClampNeg (f 2 ((2 : Int32) * x1).toNatClampNeg))) z) H := hP
        have hD : va_D A (wY cI q v (va_up f 4 (upd (f 4) ((3 : Int32) * x1).toNatClampNeg (f 2 ((2 : Int32) * x1).toNatClampNeg))) z) := hD
        refine lv_aload_n hx hb dX7_room_75 rfl (lv_at hl 0 rfl) ?_
        refine yg_r0_5 hx hb hts iX7 hown hK hP k22 dX7_room_76 ?_
        refine lv_iconst (v := (3 : Int32)) hx hb dX7_room_79 (by decide) ?_
        refine lv_iload_n hx hb dX7_room_80 rfl (lv_at hl 1 rfl) ?_
        refine lv_imul hx hb dX7_room_81 ?_
        refine lv_iconst (v := (1 : Int32)) hx hb dX7_room_82 (by decide) ?_
        refine lv_iadd hx hb dX7_room_83 ?_
        refine lv_aload_n hx hb dX7_room_84 rfl (lv_at hl 0 rfl) ?_
        refine yg_r0_3 hx hb hts iX7 hown hK hP k16 dX7_room_85 ?_
        refine lv_iconst (v := (2 : Int32)) hx hb dX7_room_88 (by decide) ?_
        refine lv_iload_n hx hb dX7_room_89 rfl (lv_at hl 1 rfl) ?_
        refine lv_imul hx hb dX7_room_90 ?_
        refine lv_iconst (v := (1 : Int32)) hx hb dX7_room_91 (by decide) ?_
        refine lv_iadd hx hb dX7_room_92 ?_
        obtain ⟨h9, h⟩ := h
        refine yal_2 (x := f 2 (((2 : Int32) * x1) + (1 : Int32)).toNatClampNeg) hx hb hK hP h9 rfl dX7_room_93 ?_
        obtain ⟨h9, h⟩ := h
        refine yas_4 hx hb hK hP hD hS h9 dX7_room_94 (fun H locs hP hD hS => ?_)
        have hP : va_P D vwCl (wY cI q v (va_up (va_up f 4 (upd (f 4) ((3 : Int32) * x1).toNatClampNeg (f 2 ((2 : Int32) * x1).toNatClampNeg))) 4 (upd (upd (f 4) ((3 : Int32) * x1).toNatClampNeg (f 2 ((2 : Int32) * x1).toNatClampNeg)) (((3 : Int32) * x1) + (1 : Int32)).toNatClampNeg (f 2 (((2 : Int32) * x1) + (1 : Int32)).toNatClampNeg))) z) H := hP
        have hD : va_D A (wY cI q v (va_up (va_up f 4 (upd (f 4) ((3 : Int32) * x1).toNatClampNeg (f 2 ((2 : Int32) * x1).toNatClampNeg))) 4 (upd (upd (f 4) ((3 : Int32) * x1).toNatClampNeg (f 2 ((2 : Int32) * x1).toNatClampNeg)) (((3 : Int32) * x1) + (1 : Int32)).toNatClampNeg (f 2 (((2 : Int32) * x1) + (1 : Int32)).toNatClampNeg))) z) := hD
        refine lv_aload_n hx hb dX7_room_95 rfl (lv_at hl 0 rfl) ?_
        refine yg_r0_5 hx hb hts iX7 hown hK hP k22 dX7_room_96 ?_
        refine lv_iconst (v := (3 : Int32)) hx hb dX7_room_99 (by decide) ?_
        refine lv_iload_n hx hb dX7_room_100 rfl (lv_at hl 1 rfl) ?_
        refine lv_imul hx hb dX7_room_101 ?_
        refine lv_iconst (v := (2 : Int32)) hx hb dX7_room_102 (by decide) ?_
        refine lv_iadd hx hb dX7_room_103 ?_
        refine lv_iconst (v := (0 : Int32)) hx hb dX7_room_104 (by decide) ?_
        obtain ⟨h9, h⟩ := h
        refine yas_4 hx hb hK hP hD hS h9 dX7_room_105 (fun H locs hP hD hS => ?_)
        have hP : va_P D vwCl (wY cI q v (va_up (va_up (va_up f 4 (upd (f 4) ((3 : Int32) * x1).toNatClampNeg (f 2 ((2 : Int32) * x1).toNatClampNeg))) 4 (upd (upd (f 4) ((3 : Int32) * x1).toNatClampNeg (f 2 ((2 : Int32) * x1).toNatClampNeg)) (((3 : Int32) * x1) + (1 : Int32)).toNatClampNeg (f 2 (((2 : Int32) * x1) + (1 : Int32)).toNatClampNeg))) 4 (upd (upd (upd (f 4) ((3 : Int32) * x1).toNatClampNeg (f 2 ((2 : Int32) * x1).toNatClampNeg)) (((3 : Int32) * x1) + (1 : Int32)).toNatClampNeg (f 2 (((2 : Int32) * x1) + (1 : Int32)).toNatClampNeg)) (((3 : Int32) * x1) + (2 : Int32)).toNatClampNeg (0 : Int32))) z) H := hP
        have hD : va_D A (wY cI q v (va_up (va_up (va_up f 4 (upd (f 4) ((3 : Int32) * x1).toNatClampNeg (f 2 ((2 : Int32) * x1).toNatClampNeg))) 4 (upd (upd (f 4) ((3 : Int32) * x1).toNatClampNeg (f 2 ((2 : Int32) * x1).toNatClampNeg)) (((3 : Int32) * x1) + (1 : Int32)).toNatClampNeg (f 2 (((2 : Int32) * x1) + (1 : Int32)).toNatClampNeg))) 4 (upd (upd (upd (f 4) ((3 : Int32) * x1).toNatClampNeg (f 2 ((2 : Int32) * x1).toNatClampNeg)) (((3 : Int32) * x1) + (1 : Int32)).toNatClampNeg (f 2 (((2 : Int32) * x1) + (1 : Int32)).toNatClampNeg)) (((3 : Int32) * x1) + (2 : Int32)).toNatClampNeg (0 : Int32))) z) := hD
        refine lv_iinc (v := x1 + 1) (lv' := [(1, .int (x1 + 1)), (0, .ref (q 0))]) hx hb dX7_room_106 hl (k := 1) rfl rfl (by decide) rfl (fun ls hl => ?_)
        refine lv_goto (tgt := 51) hx hb dX7_room_109 (by decide) ?_
        exact ih51 _ _ _ _ h _ _ hP hD hS ls (lv_sub hl [1, 0] rfl)
  refine lv_aload_n hx hb dX7_room_0 rfl (lv_at hl 0 rfl) ?_
  refine mV_i ⟨hx, hb, hml, hown, hts⟩ (c_X7_faultOf l D cI q _ _ _ _ _ h) (cwV 0 hts gX7_room_X7_faultOf rfl rfl rfl (by decide +kernel) ⟨Nat.le_of_ble_eq_true rfl, Nat.le_of_ble_eq_true rfl⟩) hK hP hN hD hS hA (va_recv hK hP (ci := 7) (q0 := 0) rfl rfl) rfl hl.1 (rest := []) rfl (Nat.le_of_ble_eq_true rfl) dX7_room_1 (Nat.zero_le _) (Nat.zero_le _) (fun r1 v2 f3 z4 h H locs hP hD hS => ?_)
  refine lv_aload_n hx hb dX7_room_4 rfl (lv_at hl 0 rfl) ?_
  refine yg_s0 (x := v2 0) hx hb hts iX7 hown hK hP k62 rfl dX7_room_5 ?_
  refine lv_icmp_lt (tgt := 27) hx hb dX7_room_8 (by decide) (fun c9 => ?_) (fun c9 => ?_)
  · have h := h.1 c9
    refine lv_bipush (v := (-103 : Int32)) hx hb dX7_room_27 (by decide) ?_
    exact mi_ret (v2, f3, z4) hx hb hr hlocks h hK hP hD hS dX7_room_29
  · have h := h.2 c9
    refine lv_aload_n hx hb dX7_room_11 rfl (lv_at hl 0 rfl) ?_
    refine yg_s5 (x := v2 5) hx hb hts iX7 hown hK hP k76 rfl dX7_room_12 ?_
    refine lv_iconst (v := (2 : Int32)) hx hb dX7_room_15 (by decide) ?_
    refine lv_icmp_ne (tgt := 27) hx hb dX7_room_16 (by decide) (fun c9 => ?_) (fun c9 => ?_)
    · have h := h.2 c9
      refine lv_bipush (v := (-103 : Int32)) hx hb dX7_room_27 (by decide) ?_
      exact mi_ret (v2, f3, z4) hx hb hr hlocks h hK hP hD hS dX7_room_29
    · have h := h.1 c9
      refine lv_aload_n hx hb dX7_room_19 rfl (lv_at hl 0 rfl) ?_
      refine yg_s4 (x := v2 4) hx hb hts iX7 hown hK hP k79 rfl dX7_room_20 ?_
      refine lv_iconst (v := (2 : Int32)) hx hb dX7_room_23 (by decide) ?_
      refine lv_icmp_ge (tgt := 30) hx hb dX7_room_24 (by decide) (fun c9 => ?_) (fun c9 => ?_)
      · have h := h.1 c9
        refine lv_aload_n hx hb dX7_room_30 rfl (lv_at hl 0 rfl) ?_
        refine lv_aload_n hx hb dX7_room_31 rfl (lv_at hl 0 rfl) ?_
        refine yg_s4 (x := v2 4) hx hb hts iX7 hown hK hP k79 rfl dX7_room_32 ?_
        refine yp_s6 hx hb hts iX7 hown hK hP hD hS k101 dX7_room_35 (fun H locs hP hD hS => ?_)
        refine lv_aload_n hx hb dX7_room_38 rfl (lv_at hl 0 rfl) ?_
        refine yg_r0_2 hx hb hts iX7 hown hK hP k13 dX7_room_39 ?_
        refine lv_aload_n hx hb dX7_room_42 rfl (lv_at hl 0 rfl) ?_
        refine yg_r0_4 hx hb hts iX7 hown hK hP k19 dX7_room_43 ?_
        refine cpW 2 4 ⟨hx, hb, hml, hown, hts⟩ (va_cwS 2 hts gX7_room_X7_copy rfl rfl rfl (by decide +kernel) ⟨Nat.le_of_ble_eq_true rfl, Nat.le_of_ble_eq_true rfl⟩) (f0 := f3 1) (f1 := f3 3) (n := 4) (by decide) hK hP hN hD hS hA (by decide) rfl rfl hl.1 (rest := []) rfl (Nat.le_of_ble_eq_true rfl) dX7_room_46 (Nat.zero_le _) (Nat.zero_le _) (fun H locs hP hD hS => ?_)
        have hP : va_P D vwCl (wY cI q (upd v2 6 (v2 4)) (va_up f3 3 (va_cpy (f3 1) (f3 3) 0 0 4)) z4) H := hP
        have hD : va_D A (wY cI q (upd v2 6 (v2 4)) (va_up f3 3 (va_cpy (f3 1) (f3 3) 0 0 4)) z4) := hD
        refine lv_iconst (v := (0 : Int32)) hx hb dX7_room_49 (by decide) ?_
        refine lv_istore_n (lv' := [(1, .int (0 : Int32)), (0, .ref (q 0))]) hx hb dX7_room_50 rfl hl (by decide) rfl (fun ls hl => ?_)
        obtain ⟨n9, h⟩ := h
        exact B51 n9 _ _ _ _ h _ _ hP hD hS ls (lv_sub hl [1, 0] rfl)
      · have h := h.2 c9
        refine lv_bipush (v := (-103 : Int32)) hx hb dX7_room_27 (by decide) ?_
        exact mi_ret (v2, f3, z4) hx hb hr hlocks h hK hP hD hS dX7_room_29
def wp_X7_lacks (post : Int32 → Prop) (v : Nat → Int32) (f : Nat → Nat → Int32) (z : Int64) : Prop := (((v 6) = 0 → post (1 : Int32)) ∧ (¬ (v 6) = 0 → post (0 : Int32)))
def rmX7_lacks : Room := { frames := 0, cells := 0, slots := 0, locals := 0 }
set_option maxHeartbeats 4000000 in
set_option maxRecDepth 100000 in
theorem c_X7_lacks (l : Launch) (D : va_G) (cI : ClassId) (q : Nat → Nat) (post : Int32 → Prop) (v : Nat → Int32) (f : Nat → Nat → Int32) (z : Int64) (h : wp_X7_lacks post v f z) : Met l yX7_lacks wsX7_lacks rmX7_lacks (va_Pc [.ref (q 0)] (rP D cI (wY cI q v f z))) (sQ post) 0 0 (fun _ => False) := by
  refine Met.ofW (cc := cX7_lacks) (maxL := 1) (ret := (some .boolean)) (by decide) rfl ?_
  intro p e s m args below meth c s₁ B hml hv
  obtain ⟨rfl, hP, hK, hN⟩ := hv
  have hx := B.exec
  have hb := B.bytes
  have hr := B.returns
  have hts := atoms_spec (ws := wsX7_lacks) B.pre
  have hown : s.vm.findClass RX7 = some m.cls := findClass_of_methodNamed B.named
  have hlocks : meth.locks = false := B.notSynchronized
  have iX7 : ∀ w ∈ wsX70, w ∈ wsX7_lacks := fun _ h9 => List.mem_cons_of_mem _ (List.mem_append_right _ h9)
  have k101 := hts (.fieldLink RX7 101 "EndedByOthersModel" "speakers" "I") (by decide +kernel)
  have hl := lv_entry ([.ref (q 0)]) (n := 1) (Nat.le_of_ble_eq_true rfl)
  rw [lg_entry_eq]
  generalize (lg_sl ([.ref (q 0)]) ++ List.replicate (1 - (lg_sl ([.ref (q 0)])).length) Slot.unset).toArray = ls at hl ⊢
  have hl : lv_has ls 1 [(0, .ref (q 0))] := hl
  unfold wp_X7_lacks at h
  refine lv_aload_n hx hb dX7_lacks_0 rfl (lv_at hl 0 rfl) ?_
  refine yg_s6 (x := v 6) hx hb hts iX7 hown hK hP k101 rfl dX7_lacks_1 ?_
  refine lv_if_ne (tgt := 11) hx hb dX7_lacks_4 (by decide) (fun c9 => ?_) (fun c9 => ?_)
  · have h := h.2 c9
    refine lv_iconst (v := (0 : Int32)) hx hb dX7_lacks_11 (by decide) ?_
    exact rz_ret hx hb hr hlocks rfl h dX7_lacks_12
  · have h := h.1 c9
    refine lv_iconst (v := (1 : Int32)) hx hb dX7_lacks_7 (by decide) ?_
    refine lv_goto (tgt := 12) hx hb dX7_lacks_8 (by decide) ?_
    exact rz_ret hx hb hr hlocks rfl h dX7_lacks_12
def wp_X7_isOpening (post : Int32 → Prop) (v : Nat → Int32) (f : Nat → Nat → Int32) (z : Int64) (a0 : Int32) : Prop := (wp_X7_lacks (fun r1 => ((r1 = 0 → (wp_X7_in (fun r2 => ((r2 = 0 → post (0 : Int32)) ∧ (¬ r2 = 0 → post (1 : Int32)))) ((a0).toInt64) (0 : Int64) (3 : Int64))) ∧ (¬ r1 = 0 → post (0 : Int32)))) v f z)
def rmX7_isOpening : Room := { frames := 1, cells := 0, slots := 0, locals := 25 }
set_option maxHeartbeats 4000000 in
set_option maxRecDepth 100000 in
theorem c_X7_isOpening (l : Launch) (D : va_G) (cI : ClassId) (q : Nat → Nat) (post : Int32 → Prop) (v : Nat → Int32) (f : Nat → Nat → Int32) (z : Int64) (a0 : Int32) (h : wp_X7_isOpening post v f z a0) : Met l yX7_isOpening wsX7_isOpening rmX7_isOpening (va_Pc [.ref (q 0), .int a0] (rP D cI (wY cI q v f z))) (sQ post) 0 0 (fun _ => False) := by
  refine Met.ofW (cc := cX7_isOpening) (maxL := 2) (ret := (some .boolean)) (by decide) rfl ?_
  intro p e s m args below meth c s₁ B hml hv
  obtain ⟨rfl, hP, hK, hN⟩ := hv
  have hx := B.exec
  have hb := B.bytes
  have hr := B.returns
  have hts := atoms_spec (ws := wsX7_isOpening) B.pre
  have hown : s.vm.findClass RX7 = some m.cls := findClass_of_methodNamed B.named
  have hlocks : meth.locks = false := B.notSynchronized
  have hl := lv_entry ([.ref (q 0), .int a0]) (n := 2) (Nat.le_of_ble_eq_true rfl)
  rw [lg_entry_eq]
  generalize (lg_sl ([.ref (q 0), .int a0]) ++ List.replicate (2 - (lg_sl ([.ref (q 0), .int a0])).length) Slot.unset).toArray = ls at hl ⊢
  have hl : lv_has ls 2 [(0, .ref (q 0)), (1, .int a0)] := hl
  unfold wp_X7_isOpening at h
  refine lv_aload_n hx hb dX7_isOpening_0 rfl (lv_at hl 0 rfl) ?_
  refine rV_i ⟨hx, hb, hml, hown, hts⟩ (c_X7_lacks l D cI q _ _ _ _ h) (cwV 0 hts gX7_isOpening_X7_lacks rfl rfl rfl (by decide +kernel) ⟨Nat.le_of_ble_eq_true rfl, Nat.le_of_ble_eq_true rfl⟩) hK hP hN (va_recv hK hP (ci := 7) (q0 := 0) rfl rfl) rfl hl.1 (rest := []) rfl (Nat.le_of_ble_eq_true rfl) dX7_isOpening_1 (Nat.zero_le _) (Nat.zero_le _) (fun r1 h => ?_)
  refine lv_if_ne (tgt := 23) hx hb dX7_isOpening_4 (by decide) (fun c9 => ?_) (fun c9 => ?_)
  · have h := h.2 c9
    refine lv_iconst (v := (0 : Int32)) hx hb dX7_isOpening_23 (by decide) ?_
    exact rz_ret hx hb hr hlocks rfl h dX7_isOpening_24
  · have h := h.1 c9
    refine lv_iload_n hx hb dX7_isOpening_7 rfl (lv_at hl 1 rfl) ?_
    refine lv_i2l (v := (a0).toInt64) hx hb dX7_isOpening_8 rfl ?_
    refine lv_lconst (v := (0 : Int64)) hx hb dX7_isOpening_9 (by decide) ?_
    refine lv_ldc2 (v := (3 : Int64)) hx hb hown (hts (.constantLong RX7 124 (3)) (by decide +kernel)) dX7_isOpening_10 ?_
    refine rS_i ⟨hx, hb, hml, hown, hts⟩ (c_X7_in l D cI _ _ _ _ h) (va_cwS 3 hts gX7_isOpening_X7_in rfl rfl rfl (by decide +kernel) ⟨Nat.le_of_ble_eq_true rfl, Nat.le_of_ble_eq_true rfl⟩) hK wPnil hN rfl hl.1 (rest := []) rfl (Nat.le_of_ble_eq_true rfl) dX7_isOpening_13 (Nat.zero_le _) (Nat.zero_le _) (fun r2 h => ?_)
    refine lv_if_eq (tgt := 23) hx hb dX7_isOpening_16 (by decide) (fun c9 => ?_) (fun c9 => ?_)
    · have h := h.1 c9
      refine lv_iconst (v := (0 : Int32)) hx hb dX7_isOpening_23 (by decide) ?_
      exact rz_ret hx hb hr hlocks rfl h dX7_isOpening_24
    · have h := h.2 c9
      refine lv_iconst (v := (1 : Int32)) hx hb dX7_isOpening_19 (by decide) ?_
      refine lv_goto (tgt := 24) hx hb dX7_isOpening_20 (by decide) ?_
      exact rz_ret hx hb hr hlocks rfl h dX7_isOpening_24
def wp_X7_isSpeaker (post : Int32 → Prop) (v : Nat → Int32) (f : Nat → Nat → Int32) (z : Int64) (a0 : Int32) : Prop := (wp_X7_in (fun r1 => (nb r1 ∧ post r1)) ((a0).toInt64) (0 : Int64) (((v 6) - (1 : Int32)).toInt64))
def rmX7_isSpeaker : Room := { frames := 1, cells := 0, slots := 0, locals := 25 }
set_option maxHeartbeats 4000000 in
set_option maxRecDepth 100000 in
theorem c_X7_isSpeaker (l : Launch) (D : va_G) (cI : ClassId) (q : Nat → Nat) (post : Int32 → Prop) (v : Nat → Int32) (f : Nat → Nat → Int32) (z : Int64) (a0 : Int32) (h : wp_X7_isSpeaker post v f z a0) : Met l yX7_isSpeaker wsX7_isSpeaker rmX7_isSpeaker (va_Pc [.ref (q 0), .int a0] (rP D cI (wY cI q v f z))) (sQ post) 0 0 (fun _ => False) := by
  refine Met.ofW (cc := cX7_isSpeaker) (maxL := 2) (ret := (some .boolean)) (by decide) rfl ?_
  intro p e s m args below meth c s₁ B hml hv
  obtain ⟨rfl, hP, hK, hN⟩ := hv
  have hx := B.exec
  have hb := B.bytes
  have hr := B.returns
  have hts := atoms_spec (ws := wsX7_isSpeaker) B.pre
  have hown : s.vm.findClass RX7 = some m.cls := findClass_of_methodNamed B.named
  have hlocks : meth.locks = false := B.notSynchronized
  have iX7 : ∀ w ∈ wsX70, w ∈ wsX7_isSpeaker := fun _ h9 => List.mem_cons_of_mem _ (List.mem_append_right _ h9)
  have k101 := hts (.fieldLink RX7 101 "EndedByOthersModel" "speakers" "I") (by decide +kernel)
  have hl := lv_entry ([.ref (q 0), .int a0]) (n := 2) (Nat.le_of_ble_eq_true rfl)
  rw [lg_entry_eq]
  generalize (lg_sl ([.ref (q 0), .int a0]) ++ List.replicate (2 - (lg_sl ([.ref (q 0), .int a0])).length) Slot.unset).toArray = ls at hl ⊢
  have hl : lv_has ls 2 [(0, .ref (q 0)), (1, .int a0)] := hl
  unfold wp_X7_isSpeaker at h
  refine lv_iload_n hx hb dX7_isSpeaker_0 rfl (lv_at hl 1 rfl) ?_
  refine lv_i2l (v := (a0).toInt64) hx hb dX7_isSpeaker_1 rfl ?_
  refine lv_lconst (v := (0 : Int64)) hx hb dX7_isSpeaker_2 (by decide) ?_
  refine lv_aload_n hx hb dX7_isSpeaker_3 rfl (lv_at hl 0 rfl) ?_
  refine yg_s6 (x := v 6) hx hb hts iX7 hown hK hP k101 rfl dX7_isSpeaker_4 ?_
  refine lv_iconst (v := (1 : Int32)) hx hb dX7_isSpeaker_7 (by decide) ?_
  refine lv_isub hx hb dX7_isSpeaker_8 ?_
  refine lv_i2l (v := ((v 6) - (1 : Int32)).toInt64) hx hb dX7_isSpeaker_9 rfl ?_
  refine rS_i ⟨hx, hb, hml, hown, hts⟩ (c_X7_in l D cI _ _ _ _ h) (va_cwS 3 hts gX7_isSpeaker_X7_in rfl rfl rfl (by decide +kernel) ⟨Nat.le_of_ble_eq_true rfl, Nat.le_of_ble_eq_true rfl⟩) hK wPnil hN rfl hl.1 (rest := []) rfl (Nat.le_of_ble_eq_true rfl) dX7_isSpeaker_10 (Nat.zero_le _) (Nat.zero_le _) (fun r1 h => ?_)
  obtain ⟨h9, h⟩ := h
  exact rz_ret hx hb hr hlocks h9 h dX7_isSpeaker_13
def wp_X7_fits (post : Int32 → Prop) (v : Nat → Int32) (f : Nat → Nat → Int32) (z : Int64) (a0 : Int32) : Prop := (wp_X7_isOpening (fun r1 => ((r1 = 0 → post (-101 : Int32)) ∧ (¬ r1 = 0 → (vp_in a0 4 ∧ post (f 3 (a0).toNatClampNeg))))) v f z a0)
def rmX7_fits : Room := { frames := 2, cells := 0, slots := 0, locals := 46 }
set_option maxHeartbeats 4000000 in
set_option maxRecDepth 100000 in
theorem c_X7_fits (l : Launch) (D : va_G) (cI : ClassId) (q : Nat → Nat) (post : Int32 → Prop) (v : Nat → Int32) (f : Nat → Nat → Int32) (z : Int64) (a0 : Int32) (h : wp_X7_fits post v f z a0) : Met l yX7_fits wsX7_fits rmX7_fits (va_Pc [.ref (q 0), .int a0] (rP D cI (wY cI q v f z))) (sQ post) 0 0 (fun _ => False) := by
  refine Met.ofW (cc := cX7_fits) (maxL := 2) (ret := (some .int)) (by decide) rfl ?_
  intro p e s m args below meth c s₁ B hml hv
  obtain ⟨rfl, hP, hK, hN⟩ := hv
  have hx := B.exec
  have hb := B.bytes
  have hr := B.returns
  have hts := atoms_spec (ws := wsX7_fits) B.pre
  have hown : s.vm.findClass RX7 = some m.cls := findClass_of_methodNamed B.named
  have hlocks : meth.locks = false := B.notSynchronized
  have iX7 : ∀ w ∈ wsX70, w ∈ wsX7_fits := fun _ h9 => List.mem_cons_of_mem _ (List.mem_append_right _ h9)
  have k19 := hts (.fieldLink RX7 19 "EndedByOthersModel" "fitting" "[I") (by decide +kernel)
  have hl := lv_entry ([.ref (q 0), .int a0]) (n := 2) (Nat.le_of_ble_eq_true rfl)
  rw [lg_entry_eq]
  generalize (lg_sl ([.ref (q 0), .int a0]) ++ List.replicate (2 - (lg_sl ([.ref (q 0), .int a0])).length) Slot.unset).toArray = ls at hl ⊢
  have hl : lv_has ls 2 [(0, .ref (q 0)), (1, .int a0)] := hl
  unfold wp_X7_fits at h
  refine lv_aload_n hx hb dX7_fits_0 rfl (lv_at hl 0 rfl) ?_
  refine lv_iload_n hx hb dX7_fits_1 rfl (lv_at hl 1 rfl) ?_
  refine rV_i ⟨hx, hb, hml, hown, hts⟩ (c_X7_isOpening l D cI q _ _ _ _ _ h) (cwV 1 hts gX7_fits_X7_isOpening rfl rfl rfl (by decide +kernel) ⟨Nat.le_of_ble_eq_true rfl, Nat.le_of_ble_eq_true rfl⟩) hK hP hN (va_recv hK hP (ci := 7) (q0 := 0) rfl rfl) rfl hl.1 (rest := []) rfl (Nat.le_of_ble_eq_true rfl) dX7_fits_2 (Nat.zero_le _) (Nat.zero_le _) (fun r1 h => ?_)
  refine lv_if_eq (tgt := 17) hx hb dX7_fits_5 (by decide) (fun c9 => ?_) (fun c9 => ?_)
  · have h := h.1 c9
    refine lv_bipush (v := (-101 : Int32)) hx hb dX7_fits_17 (by decide) ?_
    exact ri_ret hx hb hr hlocks h dX7_fits_19
  · have h := h.2 c9
    refine lv_aload_n hx hb dX7_fits_8 rfl (lv_at hl 0 rfl) ?_
    refine yg_r0_4 hx hb hts iX7 hown hK hP k19 dX7_fits_9 ?_
    refine lv_iload_n hx hb dX7_fits_12 rfl (lv_at hl 1 rfl) ?_
    obtain ⟨h9, h⟩ := h
    refine yal_3 (x := f 3 (a0).toNatClampNeg) hx hb hK hP h9 rfl dX7_fits_13 ?_
    refine lv_goto (tgt := 19) hx hb dX7_fits_14 (by decide) ?_
    exact ri_ret hx hb hr hlocks h dX7_fits_19
def wp_X7_endsBy_B24 (post : Int32 → Prop) (v : Nat → Int32) (f : Nat → Nat → Int32) (z : Int64) (x1 : Int32) (x2 : Int32) (x3 : Int32) (x5 : Int32) (y0 : Int32) : Prop := ((x1 = 1 → ((y0 = 0 → post (-1 : Int32)) ∧ (¬ y0 = 0 → post x2))) ∧ (x1 = 2 → post x2) ∧ (x1 = 3 → (wp_X7_greatestOf (fun r1 => post r1) x5)) ∧ (x1 = 4 → (((x5 &&& (x3 ^^^ (-1 : Int32))) = 0 → (wp_X7_greatestOf (fun r3 => post r3) x5)) ∧ (¬ (x5 &&& (x3 ^^^ (-1 : Int32))) = 0 → (wp_X7_greatestOf (fun r2 => post r2) (x5 &&& (x3 ^^^ (-1 : Int32))))))) ∧ (((x1).toInt < 1 ∨ 4 < (x1).toInt) → ((y0 = 0 → (wp_X7_leastOf (fun r4 => post r4) x5)) ∧ (¬ y0 = 0 → post x2))))
def wp_X7_endsBy (post : Int32 → Prop) (v : Nat → Int32) (f : Nat → Nat → Int32) (z : Int64) (a0 : Int32) (a1 : Int32) (a2 : Int32) (a3 : Int32) : Prop := (vp_in a3 4 ∧ (((((f 3 (a3).toNatClampNeg) >>> (a1 &&& 31)) &&& (1 : Int32)) = (1 : Int32) → wp_X7_endsBy_B24 post v f z a0 a1 a2 (f 3 (a3).toNatClampNeg) (1 : Int32)) ∧ (¬ (((f 3 (a3).toNatClampNeg) >>> (a1 &&& 31)) &&& (1 : Int32)) = (1 : Int32) → wp_X7_endsBy_B24 post v f z a0 a1 a2 (f 3 (a3).toNatClampNeg) (0 : Int32))))
def rmX7_endsBy : Room := { frames := 1, cells := 0, slots := 0, locals := 22 }
set_option maxHeartbeats 4000000 in
set_option maxRecDepth 100000 in
theorem c_X7_endsBy (l : Launch) (D : va_G) (cI : ClassId) (q : Nat → Nat) (post : Int32 → Prop) (v : Nat → Int32) (f : Nat → Nat → Int32) (z : Int64) (a0 : Int32) (a1 : Int32) (a2 : Int32) (a3 : Int32) (h : wp_X7_endsBy post v f z a0 a1 a2 a3) : Met l yX7_endsBy wsX7_endsBy rmX7_endsBy (va_Pc [.ref (q 0), .int a0, .int a1, .int a2, .int a3] (rP D cI (wY cI q v f z))) (sQ post) 0 0 (fun _ => False) := by
  refine Met.ofW (cc := cX7_endsBy) (maxL := 8) (ret := (some .int)) (by decide) rfl ?_
  intro p e s m args below meth c s₁ B hml hv
  obtain ⟨rfl, hP, hK, hN⟩ := hv
  have hx := B.exec
  have hb := B.bytes
  have hr := B.returns
  have hts := atoms_spec (ws := wsX7_endsBy) B.pre
  have hown : s.vm.findClass RX7 = some m.cls := findClass_of_methodNamed B.named
  have hlocks : meth.locks = false := B.notSynchronized
  have iX7 : ∀ w ∈ wsX70, w ∈ wsX7_endsBy := fun _ h9 => List.mem_cons_of_mem _ (List.mem_append_right _ h9)
  have k19 := hts (.fieldLink RX7 19 "EndedByOthersModel" "fitting" "[I") (by decide +kernel)
  have hl := lv_entry ([.ref (q 0), .int a0, .int a1, .int a2, .int a3]) (n := 8) (Nat.le_of_ble_eq_true rfl)
  rw [lg_entry_eq]
  generalize (lg_sl ([.ref (q 0), .int a0, .int a1, .int a2, .int a3]) ++ List.replicate (8 - (lg_sl ([.ref (q 0), .int a0, .int a1, .int a2, .int a3])).length) Slot.unset).toArray = ls at hl ⊢
  have hl : lv_has ls 8 [(0, .ref (q 0)), (1, .int a0), (2, .int a1), (3, .int a2), (4, .int a3)] := hl
  unfold wp_X7_endsBy at h
  have B24 : ∀ (x1 : Int32) (x2 : Int32) (x3 : Int32) (x5 : Int32) (y0 : Int32), wp_X7_endsBy_B24 post v f z x1 x2 x3 x5 y0 → ∀ (ls : Array Slot), lv_has ls 8 [(0, .ref (q 0)), (1, .int x1), (2, .int x2), (3, .int x3), (5, .int x5)] → W p l e (headSpec wsX7_endsBy rmX7_endsBy).room s m ([.ref (q 0), .int a0, .int a1, .int a2, .int a3] : List Value).toArray below meth c s.heap [] 0 0 (MQ below (sQ post) ([.ref (q 0), .int a0, .int a1, .int a2, .int a3] : List Value).toArray s 0 0 (fun _ => False)) (F0 m 24 ls [.int y0]) := by
    intro x1 x2 x3 x5 y0 h ls hl
    unfold wp_X7_endsBy_B24 at h
    refine lv_istore (lv' := [(6, .int y0), (0, .ref (q 0)), (1, .int x1), (2, .int x2), (3, .int x3), (5, .int x5)]) hx hb dX7_endsBy_24 hl (by decide) rfl (fun ls hl => ?_)
    refine lv_iload hx hb dX7_endsBy_26 (lv_at hl 5 rfl) ?_
    refine lv_iload_n hx hb dX7_endsBy_28 rfl (lv_at hl 4 rfl) ?_
    refine lv_iconst (v := (-1 : Int32)) hx hb dX7_endsBy_29 (by decide) ?_
    refine lv_ixor hx hb dX7_endsBy_30 ?_
    refine lv_iand hx hb dX7_endsBy_31 ?_
    refine lv_istore (lv' := [(7, .int (x5 &&& (x3 ^^^ (-1 : Int32)))), (6, .int y0), (0, .ref (q 0)), (1, .int x1), (2, .int x2), (3, .int x3), (5, .int x5)]) hx hb dX7_endsBy_32 hl (by decide) rfl (fun ls hl => ?_)
    refine lv_iload_n hx hb dX7_endsBy_34 rfl (lv_at hl 3 rfl) ?_
    rcases sw_1_4 (x1) with c9 | c9 | c9 | c9 | c9
    · have h := h.1 c9
      refine lv_tableIn (off := 29) (tgt := 64) hx hb dX7_endsBy_35 (by rw [c9]; decide) (by rw [c9]; decide) (by rw [c9]; decide) (by decide) ?_
      refine lv_iload hx hb dX7_endsBy_64 (lv_at hl 1 rfl) ?_
      refine lv_if_eq (tgt := 73) hx hb dX7_endsBy_66 (by decide) (fun c9 => ?_) (fun c9 => ?_)
      · have h := h.1 c9
        refine lv_iconst (v := (-1 : Int32)) hx hb dX7_endsBy_73 (by decide) ?_
        exact ri_ret hx hb hr hlocks h dX7_endsBy_74
      · have h := h.2 c9
        refine lv_iload_n hx hb dX7_endsBy_69 rfl (lv_at hl 4 rfl) ?_
        refine lv_goto (tgt := 74) hx hb dX7_endsBy_70 (by decide) ?_
        exact ri_ret hx hb hr hlocks h dX7_endsBy_74
    · have h := h.2.1 c9
      refine lv_tableIn (off := 40) (tgt := 75) hx hb dX7_endsBy_35 (by rw [c9]; decide) (by rw [c9]; decide) (by rw [c9]; decide) (by decide) ?_
      refine lv_iload_n hx hb dX7_endsBy_75 rfl (lv_at hl 4 rfl) ?_
      exact ri_ret hx hb hr hlocks h dX7_endsBy_76
    · have h := h.2.2.1 c9
      refine lv_tableIn (off := 42) (tgt := 77) hx hb dX7_endsBy_35 (by rw [c9]; decide) (by rw [c9]; decide) (by rw [c9]; decide) (by decide) ?_
      refine lv_iload hx hb dX7_endsBy_77 (lv_at hl 6 rfl) ?_
      refine rS_i ⟨hx, hb, hml, hown, hts⟩ (c_X7_greatestOf l D cI _ _ h) (va_cwS 1 hts gX7_endsBy_X7_greatestOf rfl rfl rfl (by decide +kernel) ⟨Nat.le_of_ble_eq_true rfl, Nat.le_of_ble_eq_true rfl⟩) hK wPnil hN rfl hl.1 (rest := []) rfl (Nat.le_of_ble_eq_true rfl) dX7_endsBy_79 (Nat.zero_le _) (Nat.zero_le _) (fun r1 h => ?_)
      exact ri_ret hx hb hr hlocks h dX7_endsBy_82
    · have h := h.2.2.2.1 c9
      refine lv_tableIn (off := 48) (tgt := 83) hx hb dX7_endsBy_35 (by rw [c9]; decide) (by rw [c9]; decide) (by rw [c9]; decide) (by decide) ?_
      refine lv_iload hx hb dX7_endsBy_83 (lv_at hl 0 rfl) ?_
      refine lv_if_ne (tgt := 93) hx hb dX7_endsBy_85 (by decide) (fun c9 => ?_) (fun c9 => ?_)
      · have h := h.2 c9
        refine lv_iload hx hb dX7_endsBy_93 (lv_at hl 0 rfl) ?_
        refine rS_i ⟨hx, hb, hml, hown, hts⟩ (c_X7_greatestOf l D cI _ _ h) (va_cwS 1 hts gX7_endsBy_X7_greatestOf rfl rfl rfl (by decide +kernel) ⟨Nat.le_of_ble_eq_true rfl, Nat.le_of_ble_eq_true rfl⟩) hK wPnil hN rfl hl.1 (rest := []) rfl (Nat.le_of_ble_eq_true rfl) dX7_endsBy_95 (Nat.zero_le _) (Nat.zero_le _) (fun r2 h => ?_)
        exact ri_ret hx hb hr hlocks h dX7_endsBy_98
      · have h := h.1 c9
        refine lv_iload hx hb dX7_endsBy_88 (lv_at hl 6 rfl) ?_
        refine lv_goto (tgt := 95) hx hb dX7_endsBy_90 (by decide) ?_
        refine rS_i ⟨hx, hb, hml, hown, hts⟩ (c_X7_greatestOf l D cI _ _ h) (va_cwS 1 hts gX7_endsBy_X7_greatestOf rfl rfl rfl (by decide +kernel) ⟨Nat.le_of_ble_eq_true rfl, Nat.le_of_ble_eq_true rfl⟩) hK wPnil hN rfl hl.1 (rest := []) rfl (Nat.le_of_ble_eq_true rfl) dX7_endsBy_95 (Nat.zero_le _) (Nat.zero_le _) (fun r3 h => ?_)
        exact ri_ret hx hb hr hlocks h dX7_endsBy_98
    · have h := h.2.2.2.2 c9
      refine lv_tableOut (tgt := 99) hx hb dX7_endsBy_35 c9 (by decide) ?_
      refine lv_iload hx hb dX7_endsBy_99 (lv_at hl 1 rfl) ?_
      refine lv_if_eq (tgt := 108) hx hb dX7_endsBy_101 (by decide) (fun c9 => ?_) (fun c9 => ?_)
      · have h := h.1 c9
        refine lv_iload hx hb dX7_endsBy_108 (lv_at hl 6 rfl) ?_
        refine rS_i ⟨hx, hb, hml, hown, hts⟩ (c_X7_leastOf l D cI _ _ h) (va_cwS 1 hts gX7_endsBy_X7_leastOf rfl rfl rfl (by decide +kernel) ⟨Nat.le_of_ble_eq_true rfl, Nat.le_of_ble_eq_true rfl⟩) hK wPnil hN rfl hl.1 (rest := []) rfl (Nat.le_of_ble_eq_true rfl) dX7_endsBy_110 (Nat.zero_le _) (Nat.zero_le _) (fun r4 h => ?_)
        exact ri_ret hx hb hr hlocks h dX7_endsBy_113
      · have h := h.2 c9
        refine lv_iload_n hx hb dX7_endsBy_104 rfl (lv_at hl 4 rfl) ?_
        refine lv_goto (tgt := 113) hx hb dX7_endsBy_105 (by decide) ?_
        exact ri_ret hx hb hr hlocks h dX7_endsBy_113
  refine lv_aload_n hx hb dX7_endsBy_0 rfl (lv_at hl 0 rfl) ?_
  refine yg_r0_4 hx hb hts iX7 hown hK hP k19 dX7_endsBy_1 ?_
  refine lv_iload hx hb dX7_endsBy_4 (lv_at hl 4 rfl) ?_
  obtain ⟨h9, h⟩ := h
  refine yal_3 (x := f 3 (a3).toNatClampNeg) hx hb hK hP h9 rfl dX7_endsBy_6 ?_
  refine lv_istore (lv' := [(5, .int (f 3 (a3).toNatClampNeg)), (0, .ref (q 0)), (1, .int a0), (2, .int a1), (3, .int a2), (4, .int a3)]) hx hb dX7_endsBy_7 hl (by decide) rfl (fun ls hl => ?_)
  refine lv_iload hx hb dX7_endsBy_9 (lv_at hl 0 rfl) ?_
  refine lv_iload_n hx hb dX7_endsBy_11 rfl (lv_at hl 3 rfl) ?_
  refine lv_ishr hx hb dX7_endsBy_12 ?_
  refine lv_iconst (v := (1 : Int32)) hx hb dX7_endsBy_13 (by decide) ?_
  refine lv_iand hx hb dX7_endsBy_14 ?_
  refine lv_iconst (v := (1 : Int32)) hx hb dX7_endsBy_15 (by decide) ?_
  refine lv_icmp_ne (tgt := 23) hx hb dX7_endsBy_16 (by decide) (fun c9 => ?_) (fun c9 => ?_)
  · have h := h.2 c9
    refine lv_iconst (v := (0 : Int32)) hx hb dX7_endsBy_23 (by decide) ?_
    exact B24 _ _ _ _ _ h ls (lv_sub hl [1, 2, 3, 4, 0] rfl)
  · have h := h.1 c9
    refine lv_iconst (v := (1 : Int32)) hx hb dX7_endsBy_19 (by decide) ?_
    refine lv_goto (tgt := 24) hx hb dX7_endsBy_20 (by decide) ?_
    exact B24 _ _ _ _ _ h ls (lv_sub hl [1, 2, 3, 4, 0] rfl)
def wp_X7_wouldOf (post : Int32 → Prop) (v : Nat → Int32) (f : Nat → Nat → Int32) (z : Int64) (a0 : Int32) (a1 : Int32) : Prop := (vp_in ((3 : Int32) * a0) 12 ∧ (vp_in (((3 : Int32) * a0) + (1 : Int32)) 12 ∧ (vp_in (((3 : Int32) * a0) + (2 : Int32)) 12 ∧ (wp_X7_endsBy (fun r1 => post r1) v f z (f 4 ((3 : Int32) * a0).toNatClampNeg) (f 4 (((3 : Int32) * a0) + (1 : Int32)).toNatClampNeg) (f 4 (((3 : Int32) * a0) + (2 : Int32)).toNatClampNeg) a1))))
def rmX7_wouldOf : Room := { frames := 2, cells := 0, slots := 0, locals := 49 }
set_option maxHeartbeats 4000000 in
set_option maxRecDepth 100000 in
theorem c_X7_wouldOf (l : Launch) (D : va_G) (cI : ClassId) (q : Nat → Nat) (post : Int32 → Prop) (v : Nat → Int32) (f : Nat → Nat → Int32) (z : Int64) (a0 : Int32) (a1 : Int32) (h : wp_X7_wouldOf post v f z a0 a1) : Met l yX7_wouldOf wsX7_wouldOf rmX7_wouldOf (va_Pc [.ref (q 0), .int a0, .int a1] (rP D cI (wY cI q v f z))) (sQ post) 0 0 (fun _ => False) := by
  refine Met.ofW (cc := cX7_wouldOf) (maxL := 3) (ret := (some .int)) (by decide) rfl ?_
  intro p e s m args below meth c s₁ B hml hv
  obtain ⟨rfl, hP, hK, hN⟩ := hv
  have hx := B.exec
  have hb := B.bytes
  have hr := B.returns
  have hts := atoms_spec (ws := wsX7_wouldOf) B.pre
  have hown : s.vm.findClass RX7 = some m.cls := findClass_of_methodNamed B.named
  have hlocks : meth.locks = false := B.notSynchronized
  have iX7 : ∀ w ∈ wsX70, w ∈ wsX7_wouldOf := fun _ h9 => List.mem_cons_of_mem _ (List.mem_append_right _ h9)
  have k22 := hts (.fieldLink RX7 22 "EndedByOthersModel" "rows" "[I") (by decide +kernel)
  have hl := lv_entry ([.ref (q 0), .int a0, .int a1]) (n := 3) (Nat.le_of_ble_eq_true rfl)
  rw [lg_entry_eq]
  generalize (lg_sl ([.ref (q 0), .int a0, .int a1]) ++ List.replicate (3 - (lg_sl ([.ref (q 0), .int a0, .int a1])).length) Slot.unset).toArray = ls at hl ⊢
  have hl : lv_has ls 3 [(0, .ref (q 0)), (1, .int a0), (2, .int a1)] := hl
  unfold wp_X7_wouldOf at h
  refine lv_aload_n hx hb dX7_wouldOf_0 rfl (lv_at hl 0 rfl) ?_
  refine lv_aload_n hx hb dX7_wouldOf_1 rfl (lv_at hl 0 rfl) ?_
  refine yg_r0_5 hx hb hts iX7 hown hK hP k22 dX7_wouldOf_2 ?_
  refine lv_iconst (v := (3 : Int32)) hx hb dX7_wouldOf_5 (by decide) ?_
  refine lv_iload_n hx hb dX7_wouldOf_6 rfl (lv_at hl 1 rfl) ?_
  refine lv_imul hx hb dX7_wouldOf_7 ?_
  obtain ⟨h9, h⟩ := h
  refine yal_4 (x := f 4 ((3 : Int32) * a0).toNatClampNeg) hx hb hK hP h9 rfl dX7_wouldOf_8 ?_
  refine lv_aload_n hx hb dX7_wouldOf_9 rfl (lv_at hl 0 rfl) ?_
  refine yg_r0_5 hx hb hts iX7 hown hK hP k22 dX7_wouldOf_10 ?_
  refine lv_iconst (v := (3 : Int32)) hx hb dX7_wouldOf_13 (by decide) ?_
  refine lv_iload_n hx hb dX7_wouldOf_14 rfl (lv_at hl 1 rfl) ?_
  refine lv_imul hx hb dX7_wouldOf_15 ?_
  refine lv_iconst (v := (1 : Int32)) hx hb dX7_wouldOf_16 (by decide) ?_
  refine lv_iadd hx hb dX7_wouldOf_17 ?_
  obtain ⟨h9, h⟩ := h
  refine yal_4 (x := f 4 (((3 : Int32) * a0) + (1 : Int32)).toNatClampNeg) hx hb hK hP h9 rfl dX7_wouldOf_18 ?_
  refine lv_aload_n hx hb dX7_wouldOf_19 rfl (lv_at hl 0 rfl) ?_
  refine yg_r0_5 hx hb hts iX7 hown hK hP k22 dX7_wouldOf_20 ?_
  refine lv_iconst (v := (3 : Int32)) hx hb dX7_wouldOf_23 (by decide) ?_
  refine lv_iload_n hx hb dX7_wouldOf_24 rfl (lv_at hl 1 rfl) ?_
  refine lv_imul hx hb dX7_wouldOf_25 ?_
  refine lv_iconst (v := (2 : Int32)) hx hb dX7_wouldOf_26 (by decide) ?_
  refine lv_iadd hx hb dX7_wouldOf_27 ?_
  obtain ⟨h9, h⟩ := h
  refine yal_4 (x := f 4 (((3 : Int32) * a0) + (2 : Int32)).toNatClampNeg) hx hb hK hP h9 rfl dX7_wouldOf_28 ?_
  refine lv_iload_n hx hb dX7_wouldOf_29 rfl (lv_at hl 2 rfl) ?_
  refine rV_i ⟨hx, hb, hml, hown, hts⟩ (c_X7_endsBy l D cI q _ _ _ _ _ _ _ _ h) (cwV 4 hts gX7_wouldOf_X7_endsBy rfl rfl rfl (by decide +kernel) ⟨Nat.le_of_ble_eq_true rfl, Nat.le_of_ble_eq_true rfl⟩) hK hP hN (va_recv hK hP (ci := 7) (q0 := 0) rfl rfl) rfl hl.1 (rest := []) rfl (Nat.le_of_ble_eq_true rfl) dX7_wouldOf_30 (Nat.zero_le _) (Nat.zero_le _) (fun r1 h => ?_)
  exact ri_ret hx hb hr hlocks h dX7_wouldOf_33
def wp_X7_openOf_B4 (post : Int32 → Prop) (v : Nat → Int32) (f : Nat → Nat → Int32) (z : Int64) : Nat → Int32 → Int32 → Int32 → Prop
  | 0, _, _, _ => False
  | n4 + 1, x1, x2, x3 => (((v 9) ≤ x3 → post x2) ∧ (¬ (v 9) ≤ x3 → (vp_in ((4 : Int32) * x3) 32 ∧ (((f 5 ((4 : Int32) * x3).toNatClampNeg) = x1 → (vp_in (((4 : Int32) * x3) + (2 : Int32)) 32 ∧ (((f 5 (((4 : Int32) * x3) + (2 : Int32)).toNatClampNeg) = (-1 : Int32) → wp_X7_openOf_B4 post v f z n4 x1 x3 (x3 + 1)) ∧ (¬ (f 5 (((4 : Int32) * x3) + (2 : Int32)).toNatClampNeg) = (-1 : Int32) → wp_X7_openOf_B4 post v f z n4 x1 x2 (x3 + 1))))) ∧ (¬ (f 5 ((4 : Int32) * x3).toNatClampNeg) = x1 → wp_X7_openOf_B4 post v f z n4 x1 x2 (x3 + 1))))))
def wp_X7_openOf (post : Int32 → Prop) (v : Nat → Int32) (f : Nat → Nat → Int32) (z : Int64) (a0 : Int32) : Prop := (∃ j9 : Nat, wp_X7_openOf_B4 post v f z j9 a0 (-1 : Int32) (0 : Int32))
def rmX7_openOf : Room := { frames := 0, cells := 0, slots := 0, locals := 0 }
set_option maxHeartbeats 4000000 in
set_option maxRecDepth 100000 in
theorem c_X7_openOf (l : Launch) (D : va_G) (cI : ClassId) (q : Nat → Nat) (post : Int32 → Prop) (v : Nat → Int32) (f : Nat → Nat → Int32) (z : Int64) (a0 : Int32) (h : wp_X7_openOf post v f z a0) : Met l yX7_openOf wsX7_openOf rmX7_openOf (va_Pc [.ref (q 0), .int a0] (rP D cI (wY cI q v f z))) (sQ post) 0 0 (fun _ => False) := by
  refine Met.ofW (cc := cX7_openOf) (maxL := 4) (ret := (some .int)) (by decide) rfl ?_
  intro p e s m args below meth c s₁ B hml hv
  obtain ⟨rfl, hP, hK, hN⟩ := hv
  have hx := B.exec
  have hb := B.bytes
  have hr := B.returns
  have hts := atoms_spec (ws := wsX7_openOf) B.pre
  have hown : s.vm.findClass RX7 = some m.cls := findClass_of_methodNamed B.named
  have hlocks : meth.locks = false := B.notSynchronized
  have iX7 : ∀ w ∈ wsX70, w ∈ wsX7_openOf := fun _ h9 => List.mem_cons_of_mem _ (List.mem_append_right _ h9)
  have k111 := hts (.fieldLink RX7 111 "EndedByOthersModel" "sentences" "I") (by decide +kernel)
  have k25 := hts (.fieldLink RX7 25 "EndedByOthersModel" "said" "[I") (by decide +kernel)
  have hl := lv_entry ([.ref (q 0), .int a0]) (n := 4) (Nat.le_of_ble_eq_true rfl)
  rw [lg_entry_eq]
  generalize (lg_sl ([.ref (q 0), .int a0]) ++ List.replicate (4 - (lg_sl ([.ref (q 0), .int a0])).length) Slot.unset).toArray = ls at hl ⊢
  have hl : lv_has ls 4 [(0, .ref (q 0)), (1, .int a0)] := hl
  unfold wp_X7_openOf at h
  have B4 : ∀ (n4 : Nat) (x1 : Int32) (x2 : Int32) (x3 : Int32), wp_X7_openOf_B4 post v f z n4 x1 x2 x3 → ∀ (ls : Array Slot), lv_has ls 4 [(0, .ref (q 0)), (1, .int x1), (2, .int x2), (3, .int x3)] → W p l e (headSpec wsX7_openOf rmX7_openOf).room s m ([.ref (q 0), .int a0] : List Value).toArray below meth c s.heap [] 0 0 (MQ below (sQ post) ([.ref (q 0), .int a0] : List Value).toArray s 0 0 (fun _ => False)) (F0 m 4 ls []) := by
    intro n4
    induction n4 with
    | zero =>
      intro x1 x2 x3 h
      exact False.elim h
    | succ n4 ih4 =>
      intro x1 x2 x3 h ls hl
      rw [wp_X7_openOf_B4] at h
      refine lv_iload_n hx hb dX7_openOf_4 rfl (lv_at hl 3 rfl) ?_
      refine lv_aload_n hx hb dX7_openOf_5 rfl (lv_at hl 0 rfl) ?_
      refine yg_s9 (x := v 9) hx hb hts iX7 hown hK hP k111 rfl dX7_openOf_6 ?_
      refine lv_icmp_ge (tgt := 50) hx hb dX7_openOf_9 (by decide) (fun c9 => ?_) (fun c9 => ?_)
      · have h := h.1 c9
        refine lv_iload_n hx hb dX7_openOf_50 rfl (lv_at hl 2 rfl) ?_
        exact ri_ret hx hb hr hlocks h dX7_openOf_51
      · have h := h.2 c9
        refine lv_aload_n hx hb dX7_openOf_12 rfl (lv_at hl 0 rfl) ?_
        refine yg_r0_6 hx hb hts iX7 hown hK hP k25 dX7_openOf_13 ?_
        refine lv_iconst (v := (4 : Int32)) hx hb dX7_openOf_16 (by decide) ?_
        refine lv_iload_n hx hb dX7_openOf_17 rfl (lv_at hl 3 rfl) ?_
        refine lv_imul hx hb dX7_openOf_18 ?_
        obtain ⟨h9, h⟩ := h
        refine yal_5 (x := f 5 ((4 : Int32) * x3).toNatClampNeg) hx hb hK hP h9 rfl dX7_openOf_19 ?_
        refine lv_iload_n hx hb dX7_openOf_20 rfl (lv_at hl 1 rfl) ?_
        refine lv_icmp_ne (tgt := 42) hx hb dX7_openOf_21 (by decide) (fun c9 => ?_) (fun c9 => ?_)
        · have h := h.2 c9
          refine lv_iload_n hx hb dX7_openOf_42 rfl (lv_at hl 2 rfl) ?_
          refine lv_istore_n (lv' := [(2, .int x2), (0, .ref (q 0)), (1, .int x1), (3, .int x3)]) hx hb dX7_openOf_43 rfl hl (by decide) rfl (fun ls hl => ?_)
          refine lv_iinc (v := x3 + 1) (lv' := [(3, .int (x3 + 1)), (2, .int x2), (0, .ref (q 0)), (1, .int x1)]) hx hb dX7_openOf_44 hl (k := 3) rfl rfl (by decide) rfl (fun ls hl => ?_)
          refine lv_goto (tgt := 4) hx hb dX7_openOf_47 (by decide) ?_
          exact ih4 _ _ _ h ls (lv_sub hl [2, 3, 1, 0] rfl)
        · have h := h.1 c9
          refine lv_aload_n hx hb dX7_openOf_24 rfl (lv_at hl 0 rfl) ?_
          refine yg_r0_6 hx hb hts iX7 hown hK hP k25 dX7_openOf_25 ?_
          refine lv_iconst (v := (4 : Int32)) hx hb dX7_openOf_28 (by decide) ?_
          refine lv_iload_n hx hb dX7_openOf_29 rfl (lv_at hl 3 rfl) ?_
          refine lv_imul hx hb dX7_openOf_30 ?_
          refine lv_iconst (v := (2 : Int32)) hx hb dX7_openOf_31 (by decide) ?_
          refine lv_iadd hx hb dX7_openOf_32 ?_
          obtain ⟨h9, h⟩ := h
          refine yal_5 (x := f 5 (((4 : Int32) * x3) + (2 : Int32)).toNatClampNeg) hx hb hK hP h9 rfl dX7_openOf_33 ?_
          refine lv_iconst (v := (-1 : Int32)) hx hb dX7_openOf_34 (by decide) ?_
          refine lv_icmp_ne (tgt := 42) hx hb dX7_openOf_35 (by decide) (fun c9 => ?_) (fun c9 => ?_)
          · have h := h.2 c9
            refine lv_iload_n hx hb dX7_openOf_42 rfl (lv_at hl 2 rfl) ?_
            refine lv_istore_n (lv' := [(2, .int x2), (0, .ref (q 0)), (1, .int x1), (3, .int x3)]) hx hb dX7_openOf_43 rfl hl (by decide) rfl (fun ls hl => ?_)
            refine lv_iinc (v := x3 + 1) (lv' := [(3, .int (x3 + 1)), (2, .int x2), (0, .ref (q 0)), (1, .int x1)]) hx hb dX7_openOf_44 hl (k := 3) rfl rfl (by decide) rfl (fun ls hl => ?_)
            refine lv_goto (tgt := 4) hx hb dX7_openOf_47 (by decide) ?_
            exact ih4 _ _ _ h ls (lv_sub hl [2, 3, 1, 0] rfl)
          · have h := h.1 c9
            refine lv_iload_n hx hb dX7_openOf_38 rfl (lv_at hl 3 rfl) ?_
            refine lv_goto (tgt := 43) hx hb dX7_openOf_39 (by decide) ?_
            refine lv_istore_n (lv' := [(2, .int x3), (0, .ref (q 0)), (1, .int x1), (3, .int x3)]) hx hb dX7_openOf_43 rfl hl (by decide) rfl (fun ls hl => ?_)
            refine lv_iinc (v := x3 + 1) (lv' := [(3, .int (x3 + 1)), (2, .int x3), (0, .ref (q 0)), (1, .int x1)]) hx hb dX7_openOf_44 hl (k := 3) rfl rfl (by decide) rfl (fun ls hl => ?_)
            refine lv_goto (tgt := 4) hx hb dX7_openOf_47 (by decide) ?_
            exact ih4 _ _ _ h ls (lv_sub hl [2, 3, 1, 0] rfl)
  refine lv_iconst (v := (-1 : Int32)) hx hb dX7_openOf_0 (by decide) ?_
  refine lv_istore_n (lv' := [(2, .int (-1 : Int32)), (0, .ref (q 0)), (1, .int a0)]) hx hb dX7_openOf_1 rfl hl (by decide) rfl (fun ls hl => ?_)
  refine lv_iconst (v := (0 : Int32)) hx hb dX7_openOf_2 (by decide) ?_
  refine lv_istore_n (lv' := [(3, .int (0 : Int32)), (2, .int (-1 : Int32)), (0, .ref (q 0)), (1, .int a0)]) hx hb dX7_openOf_3 rfl hl (by decide) rfl (fun ls hl => ?_)
  obtain ⟨n9, h⟩ := h
  exact B4 n9 _ _ _ h ls (lv_sub hl [2, 3, 1, 0] rfl)
def wp_X7_saidBy_B5 (post : Int32 → Prop) (v : Nat → Int32) (f : Nat → Nat → Int32) (z : Int64) : Nat → Int32 → Int32 → Int32 → Int32 → Prop
  | 0, _, _, _, _ => False
  | n5 + 1, x1, x2, x3, x4 => (((v 9) ≤ x4 → post x3) ∧ (¬ (v 9) ≤ x4 → (vp_in (((4 : Int32) * x4) + x1) 32 ∧ (((f 5 (((4 : Int32) * x4) + x1).toNatClampNeg) = x2 → wp_X7_saidBy_B5 post v f z n5 x1 x2 (x3 + (1 : Int32)) (x4 + 1)) ∧ (¬ (f 5 (((4 : Int32) * x4) + x1).toNatClampNeg) = x2 → wp_X7_saidBy_B5 post v f z n5 x1 x2 (x3 + (0 : Int32)) (x4 + 1))))))
def wp_X7_saidBy (post : Int32 → Prop) (v : Nat → Int32) (f : Nat → Nat → Int32) (z : Int64) (a0 : Int32) (a1 : Int32) : Prop := (∃ j9 : Nat, wp_X7_saidBy_B5 post v f z j9 a0 a1 (0 : Int32) (0 : Int32))
def rmX7_saidBy : Room := { frames := 0, cells := 0, slots := 0, locals := 0 }
set_option maxHeartbeats 4000000 in
set_option maxRecDepth 100000 in
theorem c_X7_saidBy (l : Launch) (D : va_G) (cI : ClassId) (q : Nat → Nat) (post : Int32 → Prop) (v : Nat → Int32) (f : Nat → Nat → Int32) (z : Int64) (a0 : Int32) (a1 : Int32) (h : wp_X7_saidBy post v f z a0 a1) : Met l yX7_saidBy wsX7_saidBy rmX7_saidBy (va_Pc [.ref (q 0), .int a0, .int a1] (rP D cI (wY cI q v f z))) (sQ post) 0 0 (fun _ => False) := by
  refine Met.ofW (cc := cX7_saidBy) (maxL := 5) (ret := (some .int)) (by decide) rfl ?_
  intro p e s m args below meth c s₁ B hml hv
  obtain ⟨rfl, hP, hK, hN⟩ := hv
  have hx := B.exec
  have hb := B.bytes
  have hr := B.returns
  have hts := atoms_spec (ws := wsX7_saidBy) B.pre
  have hown : s.vm.findClass RX7 = some m.cls := findClass_of_methodNamed B.named
  have hlocks : meth.locks = false := B.notSynchronized
  have iX7 : ∀ w ∈ wsX70, w ∈ wsX7_saidBy := fun _ h9 => List.mem_cons_of_mem _ (List.mem_append_right _ h9)
  have k111 := hts (.fieldLink RX7 111 "EndedByOthersModel" "sentences" "I") (by decide +kernel)
  have k25 := hts (.fieldLink RX7 25 "EndedByOthersModel" "said" "[I") (by decide +kernel)
  have hl := lv_entry ([.ref (q 0), .int a0, .int a1]) (n := 5) (Nat.le_of_ble_eq_true rfl)
  rw [lg_entry_eq]
  generalize (lg_sl ([.ref (q 0), .int a0, .int a1]) ++ List.replicate (5 - (lg_sl ([.ref (q 0), .int a0, .int a1])).length) Slot.unset).toArray = ls at hl ⊢
  have hl : lv_has ls 5 [(0, .ref (q 0)), (1, .int a0), (2, .int a1)] := hl
  unfold wp_X7_saidBy at h
  have B5 : ∀ (n5 : Nat) (x1 : Int32) (x2 : Int32) (x3 : Int32) (x4 : Int32), wp_X7_saidBy_B5 post v f z n5 x1 x2 x3 x4 → ∀ (ls : Array Slot), lv_has ls 5 [(0, .ref (q 0)), (1, .int x1), (2, .int x2), (3, .int x3), (4, .int x4)] → W p l e (headSpec wsX7_saidBy rmX7_saidBy).room s m ([.ref (q 0), .int a0, .int a1] : List Value).toArray below meth c s.heap [] 0 0 (MQ below (sQ post) ([.ref (q 0), .int a0, .int a1] : List Value).toArray s 0 0 (fun _ => False)) (F0 m 5 ls []) := by
    intro n5
    induction n5 with
    | zero =>
      intro x1 x2 x3 x4 h
      exact False.elim h
    | succ n5 ih5 =>
      intro x1 x2 x3 x4 h ls hl
      rw [wp_X7_saidBy_B5] at h
      refine lv_iload hx hb dX7_saidBy_5 (lv_at hl 4 rfl) ?_
      refine lv_aload_n hx hb dX7_saidBy_7 rfl (lv_at hl 0 rfl) ?_
      refine yg_s9 (x := v 9) hx hb hts iX7 hown hK hP k111 rfl dX7_saidBy_8 ?_
      refine lv_icmp_ge (tgt := 43) hx hb dX7_saidBy_11 (by decide) (fun c9 => ?_) (fun c9 => ?_)
      · have h := h.1 c9
        refine lv_iload_n hx hb dX7_saidBy_43 rfl (lv_at hl 3 rfl) ?_
        exact ri_ret hx hb hr hlocks h dX7_saidBy_44
      · have h := h.2 c9
        refine lv_iload_n hx hb dX7_saidBy_14 rfl (lv_at hl 3 rfl) ?_
        refine lv_aload_n hx hb dX7_saidBy_15 rfl (lv_at hl 0 rfl) ?_
        refine yg_r0_6 hx hb hts iX7 hown hK hP k25 dX7_saidBy_16 ?_
        refine lv_iconst (v := (4 : Int32)) hx hb dX7_saidBy_19 (by decide) ?_
        refine lv_iload hx hb dX7_saidBy_20 (lv_at hl 4 rfl) ?_
        refine lv_imul hx hb dX7_saidBy_22 ?_
        refine lv_iload_n hx hb dX7_saidBy_23 rfl (lv_at hl 1 rfl) ?_
        refine lv_iadd hx hb dX7_saidBy_24 ?_
        obtain ⟨h9, h⟩ := h
        refine yal_5 (x := f 5 (((4 : Int32) * x4) + x1).toNatClampNeg) hx hb hK hP h9 rfl dX7_saidBy_25 ?_
        refine lv_iload_n hx hb dX7_saidBy_26 rfl (lv_at hl 2 rfl) ?_
        refine lv_icmp_ne (tgt := 34) hx hb dX7_saidBy_27 (by decide) (fun c9 => ?_) (fun c9 => ?_)
        · have h := h.2 c9
          refine lv_iconst (v := (0 : Int32)) hx hb dX7_saidBy_34 (by decide) ?_
          refine lv_iadd hx hb dX7_saidBy_35 ?_
          refine lv_istore_n (lv' := [(3, .int (x3 + (0 : Int32))), (0, .ref (q 0)), (1, .int x1), (2, .int x2), (4, .int x4)]) hx hb dX7_saidBy_36 rfl hl (by decide) rfl (fun ls hl => ?_)
          refine lv_iinc (v := x4 + 1) (lv' := [(4, .int (x4 + 1)), (3, .int (x3 + (0 : Int32))), (0, .ref (q 0)), (1, .int x1), (2, .int x2)]) hx hb dX7_saidBy_37 hl (k := 4) rfl rfl (by decide) rfl (fun ls hl => ?_)
          refine lv_goto (tgt := 5) hx hb dX7_saidBy_40 (by decide) ?_
          exact ih5 _ _ _ _ h ls (lv_sub hl [2, 3, 4, 1, 0] rfl)
        · have h := h.1 c9
          refine lv_iconst (v := (1 : Int32)) hx hb dX7_saidBy_30 (by decide) ?_
          refine lv_goto (tgt := 35) hx hb dX7_saidBy_31 (by decide) ?_
          refine lv_iadd hx hb dX7_saidBy_35 ?_
          refine lv_istore_n (lv' := [(3, .int (x3 + (1 : Int32))), (0, .ref (q 0)), (1, .int x1), (2, .int x2), (4, .int x4)]) hx hb dX7_saidBy_36 rfl hl (by decide) rfl (fun ls hl => ?_)
          refine lv_iinc (v := x4 + 1) (lv' := [(4, .int (x4 + 1)), (3, .int (x3 + (1 : Int32))), (0, .ref (q 0)), (1, .int x1), (2, .int x2)]) hx hb dX7_saidBy_37 hl (k := 4) rfl rfl (by decide) rfl (fun ls hl => ?_)
          refine lv_goto (tgt := 5) hx hb dX7_saidBy_40 (by decide) ?_
          exact ih5 _ _ _ _ h ls (lv_sub hl [2, 3, 4, 1, 0] rfl)
  refine lv_iconst (v := (0 : Int32)) hx hb dX7_saidBy_0 (by decide) ?_
  refine lv_istore_n (lv' := [(3, .int (0 : Int32)), (0, .ref (q 0)), (1, .int a0), (2, .int a1)]) hx hb dX7_saidBy_1 rfl hl (by decide) rfl (fun ls hl => ?_)
  refine lv_iconst (v := (0 : Int32)) hx hb dX7_saidBy_2 (by decide) ?_
  refine lv_istore (lv' := [(4, .int (0 : Int32)), (3, .int (0 : Int32)), (0, .ref (q 0)), (1, .int a0), (2, .int a1)]) hx hb dX7_saidBy_3 hl (by decide) rfl (fun ls hl => ?_)
  obtain ⟨n9, h⟩ := h
  exact B5 n9 _ _ _ _ h ls (lv_sub hl [2, 3, 4, 1, 0] rfl)
def wp_X7_sureOf_B76 (post : Int32 → Prop) (v : Nat → Int32) (f : Nat → Nat → Int32) (z : Int64) (K4 : Int32 → Int32 → Int32 → Prop) (K17 : Int32 → Int32 → Int32 → Int32 → Int32 → Int32 → Prop) (x1 : Int32) (x2 : Int32) (x3 : Int32) (x5 : Int32) (x6 : Int32) (x7 : Int32) (y0 : Int32) : Prop := ((x7 = (-1 : Int32) → K17 x1 x2 x3 y0 (x5 + (0 : Int32)) (x6 + 1)) ∧ (¬ x7 = (-1 : Int32) → K17 x1 x2 x3 y0 (x5 + (1 : Int32)) (x6 + 1)))
def wp_X7_sureOf_B43 (post : Int32 → Prop) (v : Nat → Int32) (f : Nat → Nat → Int32) (z : Int64) (K4 : Int32 → Int32 → Int32 → Prop) (K17 : Int32 → Int32 → Int32 → Int32 → Int32 → Int32 → Prop) (x1 : Int32) (x2 : Int32) (x3 : Int32) (x4 : Int32) (x5 : Int32) (x6 : Int32) (y0 : Int32) : Prop := ((x4 = 0 → wp_X7_sureOf_B76 post v f z K4 K17 x1 x2 x3 x5 x6 y0 (0 : Int32)) ∧ (¬ x4 = 0 → ((y0 = (-1 : Int32) → wp_X7_sureOf_B76 post v f z K4 K17 x1 x2 x3 x5 x6 y0 (1 : Int32)) ∧ (¬ y0 = (-1 : Int32) → (vp_in (((3 : Int32) * x1) + (1 : Int32)) 12 ∧ ((y0 = (f 4 (((3 : Int32) * x1) + (1 : Int32)).toNatClampNeg) → wp_X7_sureOf_B76 post v f z K4 K17 x1 x2 x3 x5 x6 y0 (1 : Int32)) ∧ (¬ y0 = (f 4 (((3 : Int32) * x1) + (1 : Int32)).toNatClampNeg) → wp_X7_sureOf_B76 post v f z K4 K17 x1 x2 x3 x5 x6 y0 (0 : Int32))))))))
def wp_X7_sureOf_B17 (post : Int32 → Prop) (v : Nat → Int32) (f : Nat → Nat → Int32) (z : Int64) (K4 : Int32 → Int32 → Int32 → Prop) : Nat → Int32 → Int32 → Int32 → Int32 → Int32 → Int32 → Prop
  | 0, _, _, _, _, _, _ => False
  | n17 + 1, x1, x2, x3, x4, x5, x6 => (((v 6) ≤ x6 → ((x4 = 0 → K4 x1 x2 (x3 + (-1))) ∧ (¬ x4 = 0 → ((x5 ≤ 0 → K4 x1 x2 (x3 + (-1))) ∧ (¬ x5 ≤ 0 → K4 x1 x3 (x3 + (-1))))))) ∧ (¬ (v 6) ≤ x6 → ((x6 = x1 → wp_X7_sureOf_B43 post v f z K4 (wp_X7_sureOf_B17 post v f z K4 n17) x1 x2 x3 x4 x5 x6 (-1 : Int32)) ∧ (¬ x6 = x1 → (wp_X7_wouldOf (fun r1 => wp_X7_sureOf_B43 post v f z K4 (wp_X7_sureOf_B17 post v f z K4 n17) x1 x2 x3 x4 x5 x6 r1) v f z x6 x3)))))
def wp_X7_sureOf_B4 (post : Int32 → Prop) (v : Nat → Int32) (f : Nat → Nat → Int32) (z : Int64) : Nat → Int32 → Int32 → Int32 → Prop
  | 0, _, _, _ => False
  | n4 + 1, x1, x2, x3 => ((x3 < 0 → post x2) ∧ (¬ x3 < 0 → (∃ j9 : Nat, wp_X7_sureOf_B17 post v f z (wp_X7_sureOf_B4 post v f z n4) j9 x1 x2 x3 (1 : Int32) (0 : Int32) (0 : Int32))))
def wp_X7_sureOf (post : Int32 → Prop) (v : Nat → Int32) (f : Nat → Nat → Int32) (z : Int64) (a0 : Int32) : Prop := (∃ j9 : Nat, wp_X7_sureOf_B4 post v f z j9 a0 (-1 : Int32) (3 : Int32))
def rmX7_sureOf : Room := { frames := 3, cells := 0, slots := 0, locals := 71 }
set_option maxHeartbeats 4000000 in
set_option maxRecDepth 100000 in
theorem c_X7_sureOf (l : Launch) (D : va_G) (cI : ClassId) (q : Nat → Nat) (post : Int32 → Prop) (v : Nat → Int32) (f : Nat → Nat → Int32) (z : Int64) (a0 : Int32) (h : wp_X7_sureOf post v f z a0) : Met l yX7_sureOf wsX7_sureOf rmX7_sureOf (va_Pc [.ref (q 0), .int a0] (rP D cI (wY cI q v f z))) (sQ post) 0 0 (fun _ => False) := by
  refine Met.ofW (cc := cX7_sureOf) (maxL := 8) (ret := (some .int)) (by decide) rfl ?_
  intro p e s m args below meth c s₁ B hml hv
  obtain ⟨rfl, hP, hK, hN⟩ := hv
  have hx := B.exec
  have hb := B.bytes
  have hr := B.returns
  have hts := atoms_spec (ws := wsX7_sureOf) B.pre
  have hown : s.vm.findClass RX7 = some m.cls := findClass_of_methodNamed B.named
  have hlocks : meth.locks = false := B.notSynchronized
  have iX7 : ∀ w ∈ wsX70, w ∈ wsX7_sureOf := fun _ h9 => List.mem_cons_of_mem _ (List.mem_append_right _ h9)
  have k101 := hts (.fieldLink RX7 101 "EndedByOthersModel" "speakers" "I") (by decide +kernel)
  have k22 := hts (.fieldLink RX7 22 "EndedByOthersModel" "rows" "[I") (by decide +kernel)
  have hl := lv_entry ([.ref (q 0), .int a0]) (n := 8) (Nat.le_of_ble_eq_true rfl)
  rw [lg_entry_eq]
  generalize (lg_sl ([.ref (q 0), .int a0]) ++ List.replicate (8 - (lg_sl ([.ref (q 0), .int a0])).length) Slot.unset).toArray = ls at hl ⊢
  have hl : lv_has ls 8 [(0, .ref (q 0)), (1, .int a0)] := hl
  unfold wp_X7_sureOf at h
  have B4 : ∀ (n4 : Nat) (x1 : Int32) (x2 : Int32) (x3 : Int32), wp_X7_sureOf_B4 post v f z n4 x1 x2 x3 → ∀ (ls : Array Slot), lv_has ls 8 [(0, .ref (q 0)), (1, .int x1), (2, .int x2), (3, .int x3)] → W p l e (headSpec wsX7_sureOf rmX7_sureOf).room s m ([.ref (q 0), .int a0] : List Value).toArray below meth c s.heap [] 0 0 (MQ below (sQ post) ([.ref (q 0), .int a0] : List Value).toArray s 0 0 (fun _ => False)) (F0 m 4 ls []) := by
    intro n4
    induction n4 with
    | zero =>
      intro x1 x2 x3 h
      exact False.elim h
    | succ n4 ih4 =>
      have B17 : ∀ (n17 : Nat) (x1 : Int32) (x2 : Int32) (x3 : Int32) (x4 : Int32) (x5 : Int32) (x6 : Int32), wp_X7_sureOf_B17 post v f z (wp_X7_sureOf_B4 post v f z n4) n17 x1 x2 x3 x4 x5 x6 → ∀ (ls : Array Slot), lv_has ls 8 [(0, .ref (q 0)), (1, .int x1), (2, .int x2), (3, .int x3), (4, .int x4), (5, .int x5), (6, .int x6)] → W p l e (headSpec wsX7_sureOf rmX7_sureOf).room s m ([.ref (q 0), .int a0] : List Value).toArray below meth c s.heap [] 0 0 (MQ below (sQ post) ([.ref (q 0), .int a0] : List Value).toArray s 0 0 (fun _ => False)) (F0 m 17 ls []) := by
        intro n17
        induction n17 with
        | zero =>
          intro x1 x2 x3 x4 x5 x6 h
          exact False.elim h
        | succ n17 ih17 =>
          have B76 : ∀ (x1 : Int32) (x2 : Int32) (x3 : Int32) (x5 : Int32) (x6 : Int32) (x7 : Int32) (y0 : Int32), wp_X7_sureOf_B76 post v f z (wp_X7_sureOf_B4 post v f z n4) (wp_X7_sureOf_B17 post v f z (wp_X7_sureOf_B4 post v f z n4) n17) x1 x2 x3 x5 x6 x7 y0 → ∀ (ls : Array Slot), lv_has ls 8 [(0, .ref (q 0)), (1, .int x1), (2, .int x2), (3, .int x3), (5, .int x5), (6, .int x6), (7, .int x7)] → W p l e (headSpec wsX7_sureOf rmX7_sureOf).room s m ([.ref (q 0), .int a0] : List Value).toArray below meth c s.heap [] 0 0 (MQ below (sQ post) ([.ref (q 0), .int a0] : List Value).toArray s 0 0 (fun _ => False)) (F0 m 76 ls [.int y0]) := by
            intro x1 x2 x3 x5 x6 x7 y0 h ls hl
            unfold wp_X7_sureOf_B76 at h
            refine lv_istore (lv' := [(4, .int y0), (0, .ref (q 0)), (1, .int x1), (2, .int x2), (3, .int x3), (5, .int x5), (6, .int x6), (7, .int x7)]) hx hb dX7_sureOf_76 hl (by decide) rfl (fun ls hl => ?_)
            refine lv_iload hx hb dX7_sureOf_78 (lv_at hl 5 rfl) ?_
            refine lv_iload hx hb dX7_sureOf_80 (lv_at hl 7 rfl) ?_
            refine lv_iconst (v := (-1 : Int32)) hx hb dX7_sureOf_82 (by decide) ?_
            refine lv_icmp_ne (tgt := 90) hx hb dX7_sureOf_83 (by decide) (fun c9 => ?_) (fun c9 => ?_)
            · have h := h.2 c9
              refine lv_iconst (v := (1 : Int32)) hx hb dX7_sureOf_90 (by decide) ?_
              refine lv_iadd hx hb dX7_sureOf_91 ?_
              refine lv_istore (lv' := [(5, .int (x5 + (1 : Int32))), (4, .int y0), (0, .ref (q 0)), (1, .int x1), (2, .int x2), (3, .int x3), (6, .int x6), (7, .int x7)]) hx hb dX7_sureOf_92 hl (by decide) rfl (fun ls hl => ?_)
              refine lv_iinc (v := x6 + 1) (lv' := [(6, .int (x6 + 1)), (5, .int (x5 + (1 : Int32))), (4, .int y0), (0, .ref (q 0)), (1, .int x1), (2, .int x2), (3, .int x3), (7, .int x7)]) hx hb dX7_sureOf_94 hl (k := 6) rfl rfl (by decide) rfl (fun ls hl => ?_)
              refine lv_goto (tgt := 17) hx hb dX7_sureOf_97 (by decide) ?_
              exact ih17 _ _ _ _ _ _ h ls (lv_sub hl [3, 4, 5, 6, 2, 1, 0] rfl)
            · have h := h.1 c9
              refine lv_iconst (v := (0 : Int32)) hx hb dX7_sureOf_86 (by decide) ?_
              refine lv_goto (tgt := 91) hx hb dX7_sureOf_87 (by decide) ?_
              refine lv_iadd hx hb dX7_sureOf_91 ?_
              refine lv_istore (lv' := [(5, .int (x5 + (0 : Int32))), (4, .int y0), (0, .ref (q 0)), (1, .int x1), (2, .int x2), (3, .int x3), (6, .int x6), (7, .int x7)]) hx hb dX7_sureOf_92 hl (by decide) rfl (fun ls hl => ?_)
              refine lv_iinc (v := x6 + 1) (lv' := [(6, .int (x6 + 1)), (5, .int (x5 + (0 : Int32))), (4, .int y0), (0, .ref (q 0)), (1, .int x1), (2, .int x2), (3, .int x3), (7, .int x7)]) hx hb dX7_sureOf_94 hl (k := 6) rfl rfl (by decide) rfl (fun ls hl => ?_)
              refine lv_goto (tgt := 17) hx hb dX7_sureOf_97 (by decide) ?_
              exact ih17 _ _ _ _ _ _ h ls (lv_sub hl [3, 4, 5, 6, 2, 1, 0] rfl)
          have B43 : ∀ (x1 : Int32) (x2 : Int32) (x3 : Int32) (x4 : Int32) (x5 : Int32) (x6 : Int32) (y0 : Int32), wp_X7_sureOf_B43 post v f z (wp_X7_sureOf_B4 post v f z n4) (wp_X7_sureOf_B17 post v f z (wp_X7_sureOf_B4 post v f z n4) n17) x1 x2 x3 x4 x5 x6 y0 → ∀ (ls : Array Slot), lv_has ls 8 [(0, .ref (q 0)), (1, .int x1), (2, .int x2), (3, .int x3), (4, .int x4), (5, .int x5), (6, .int x6)] → W p l e (headSpec wsX7_sureOf rmX7_sureOf).room s m ([.ref (q 0), .int a0] : List Value).toArray below meth c s.heap [] 0 0 (MQ below (sQ post) ([.ref (q 0), .int a0] : List Value).toArray s 0 0 (fun _ => False)) (F0 m 43 ls [.int y0]) := by
            intro x1 x2 x3 x4 x5 x6 y0 h ls hl
            unfold wp_X7_sureOf_B43 at h
            refine lv_istore (lv' := [(7, .int y0), (0, .ref (q 0)), (1, .int x1), (2, .int x2), (3, .int x3), (4, .int x4), (5, .int x5), (6, .int x6)]) hx hb dX7_sureOf_43 hl (by decide) rfl (fun ls hl => ?_)
            refine lv_iload hx hb dX7_sureOf_45 (lv_at hl 5 rfl) ?_
            refine lv_if_eq (tgt := 75) hx hb dX7_sureOf_47 (by decide) (fun c9 => ?_) (fun c9 => ?_)
            · have h := h.1 c9
              refine lv_iconst (v := (0 : Int32)) hx hb dX7_sureOf_75 (by decide) ?_
              exact B76 _ _ _ _ _ _ _ h ls (lv_sub hl [1, 2, 3, 4, 6, 7, 0] rfl)
            · have h := h.2 c9
              refine lv_iload hx hb dX7_sureOf_50 (lv_at hl 0 rfl) ?_
              refine lv_iconst (v := (-1 : Int32)) hx hb dX7_sureOf_52 (by decide) ?_
              refine lv_icmp_eq (tgt := 71) hx hb dX7_sureOf_53 (by decide) (fun c9 => ?_) (fun c9 => ?_)
              · have h := h.1 c9
                refine lv_iconst (v := (1 : Int32)) hx hb dX7_sureOf_71 (by decide) ?_
                refine lv_goto (tgt := 76) hx hb dX7_sureOf_72 (by decide) ?_
                exact B76 _ _ _ _ _ _ _ h ls (lv_sub hl [1, 2, 3, 4, 6, 7, 0] rfl)
              · have h := h.2 c9
                refine lv_iload hx hb dX7_sureOf_56 (lv_at hl 0 rfl) ?_
                refine lv_aload_n hx hb dX7_sureOf_58 rfl (lv_at hl 1 rfl) ?_
                refine yg_r0_5 hx hb hts iX7 hown hK hP k22 dX7_sureOf_59 ?_
                refine lv_iconst (v := (3 : Int32)) hx hb dX7_sureOf_62 (by decide) ?_
                refine lv_iload_n hx hb dX7_sureOf_63 rfl (lv_at hl 2 rfl) ?_
                refine lv_imul hx hb dX7_sureOf_64 ?_
                refine lv_iconst (v := (1 : Int32)) hx hb dX7_sureOf_65 (by decide) ?_
                refine lv_iadd hx hb dX7_sureOf_66 ?_
                obtain ⟨h9, h⟩ := h
                refine yal_4 (x := f 4 (((3 : Int32) * x1) + (1 : Int32)).toNatClampNeg) hx hb hK hP h9 rfl dX7_sureOf_67 ?_
                refine lv_icmp_ne (tgt := 75) hx hb dX7_sureOf_68 (by decide) (fun c9 => ?_) (fun c9 => ?_)
                · have h := h.2 c9
                  refine lv_iconst (v := (0 : Int32)) hx hb dX7_sureOf_75 (by decide) ?_
                  exact B76 _ _ _ _ _ _ _ h ls (lv_sub hl [1, 2, 3, 4, 6, 7, 0] rfl)
                · have h := h.1 c9
                  refine lv_iconst (v := (1 : Int32)) hx hb dX7_sureOf_71 (by decide) ?_
                  refine lv_goto (tgt := 76) hx hb dX7_sureOf_72 (by decide) ?_
                  exact B76 _ _ _ _ _ _ _ h ls (lv_sub hl [1, 2, 3, 4, 6, 7, 0] rfl)
          intro x1 x2 x3 x4 x5 x6 h ls hl
          rw [wp_X7_sureOf_B17] at h
          refine lv_iload hx hb dX7_sureOf_17 (lv_at hl 6 rfl) ?_
          refine lv_aload_n hx hb dX7_sureOf_19 rfl (lv_at hl 0 rfl) ?_
          refine yg_s6 (x := v 6) hx hb hts iX7 hown hK hP k101 rfl dX7_sureOf_20 ?_
          refine lv_icmp_ge (tgt := 100) hx hb dX7_sureOf_23 (by decide) (fun c9 => ?_) (fun c9 => ?_)
          · have h := h.1 c9
            refine lv_iload hx hb dX7_sureOf_100 (lv_at hl 4 rfl) ?_
            refine lv_if_eq (tgt := 114) hx hb dX7_sureOf_102 (by decide) (fun c9 => ?_) (fun c9 => ?_)
            · have h := h.1 c9
              refine lv_iload_n hx hb dX7_sureOf_114 rfl (lv_at hl 2 rfl) ?_
              refine lv_istore_n (lv' := [(2, .int x2), (0, .ref (q 0)), (1, .int x1), (3, .int x3), (4, .int x4), (5, .int x5), (6, .int x6)]) hx hb dX7_sureOf_115 rfl hl (by decide) rfl (fun ls hl => ?_)
              refine lv_iinc (v := x3 + (-1)) (lv' := [(3, .int (x3 + (-1))), (2, .int x2), (0, .ref (q 0)), (1, .int x1), (4, .int x4), (5, .int x5), (6, .int x6)]) hx hb dX7_sureOf_116 hl (k := 3) rfl rfl (by decide) rfl (fun ls hl => ?_)
              refine lv_goto (tgt := 4) hx hb dX7_sureOf_119 (by decide) ?_
              exact ih4 _ _ _ h ls (lv_sub hl [2, 3, 1, 0] rfl)
            · have h := h.2 c9
              refine lv_iload hx hb dX7_sureOf_105 (lv_at hl 5 rfl) ?_
              refine lv_if_le (tgt := 114) hx hb dX7_sureOf_107 (by decide) (fun c9 => ?_) (fun c9 => ?_)
              · have h := h.1 c9
                refine lv_iload_n hx hb dX7_sureOf_114 rfl (lv_at hl 2 rfl) ?_
                refine lv_istore_n (lv' := [(2, .int x2), (0, .ref (q 0)), (1, .int x1), (3, .int x3), (4, .int x4), (5, .int x5), (6, .int x6)]) hx hb dX7_sureOf_115 rfl hl (by decide) rfl (fun ls hl => ?_)
                refine lv_iinc (v := x3 + (-1)) (lv' := [(3, .int (x3 + (-1))), (2, .int x2), (0, .ref (q 0)), (1, .int x1), (4, .int x4), (5, .int x5), (6, .int x6)]) hx hb dX7_sureOf_116 hl (k := 3) rfl rfl (by decide) rfl (fun ls hl => ?_)
                refine lv_goto (tgt := 4) hx hb dX7_sureOf_119 (by decide) ?_
                exact ih4 _ _ _ h ls (lv_sub hl [2, 3, 1, 0] rfl)
              · have h := h.2 c9
                refine lv_iload_n hx hb dX7_sureOf_110 rfl (lv_at hl 3 rfl) ?_
                refine lv_goto (tgt := 115) hx hb dX7_sureOf_111 (by decide) ?_
                refine lv_istore_n (lv' := [(2, .int x3), (0, .ref (q 0)), (1, .int x1), (3, .int x3), (4, .int x4), (5, .int x5), (6, .int x6)]) hx hb dX7_sureOf_115 rfl hl (by decide) rfl (fun ls hl => ?_)
                refine lv_iinc (v := x3 + (-1)) (lv' := [(3, .int (x3 + (-1))), (2, .int x3), (0, .ref (q 0)), (1, .int x1), (4, .int x4), (5, .int x5), (6, .int x6)]) hx hb dX7_sureOf_116 hl (k := 3) rfl rfl (by decide) rfl (fun ls hl => ?_)
                refine lv_goto (tgt := 4) hx hb dX7_sureOf_119 (by decide) ?_
                exact ih4 _ _ _ h ls (lv_sub hl [2, 3, 1, 0] rfl)
          · have h := h.2 c9
            refine lv_iload hx hb dX7_sureOf_26 (lv_at hl 6 rfl) ?_
            refine lv_iload_n hx hb dX7_sureOf_28 rfl (lv_at hl 1 rfl) ?_
            refine lv_icmp_ne (tgt := 36) hx hb dX7_sureOf_29 (by decide) (fun c9 => ?_) (fun c9 => ?_)
            · have h := h.2 c9
              refine lv_aload_n hx hb dX7_sureOf_36 rfl (lv_at hl 0 rfl) ?_
              refine lv_iload hx hb dX7_sureOf_37 (lv_at hl 6 rfl) ?_
              refine lv_iload_n hx hb dX7_sureOf_39 rfl (lv_at hl 3 rfl) ?_
              refine rV_i ⟨hx, hb, hml, hown, hts⟩ (c_X7_wouldOf l D cI q _ _ _ _ _ _ h) (cwV 2 hts gX7_sureOf_X7_wouldOf rfl rfl rfl (by decide +kernel) ⟨Nat.le_of_ble_eq_true rfl, Nat.le_of_ble_eq_true rfl⟩) hK hP hN (va_recv hK hP (ci := 7) (q0 := 0) rfl rfl) rfl hl.1 (rest := []) rfl (Nat.le_of_ble_eq_true rfl) dX7_sureOf_40 (Nat.zero_le _) (Nat.zero_le _) (fun r1 h => ?_)
              exact B43 _ _ _ _ _ _ _ h ls (lv_sub hl [0, 1, 2, 3, 4, 5, 6] rfl)
            · have h := h.1 c9
              refine lv_iconst (v := (-1 : Int32)) hx hb dX7_sureOf_32 (by decide) ?_
              refine lv_goto (tgt := 43) hx hb dX7_sureOf_33 (by decide) ?_
              exact B43 _ _ _ _ _ _ _ h ls (lv_sub hl [0, 1, 2, 3, 4, 5, 6] rfl)
      intro x1 x2 x3 h ls hl
      rw [wp_X7_sureOf_B4] at h
      refine lv_iload_n hx hb dX7_sureOf_4 rfl (lv_at hl 3 rfl) ?_
      refine lv_if_lt (tgt := 122) hx hb dX7_sureOf_5 (by decide) (fun c9 => ?_) (fun c9 => ?_)
      · have h := h.1 c9
        refine lv_iload_n hx hb dX7_sureOf_122 rfl (lv_at hl 2 rfl) ?_
        exact ri_ret hx hb hr hlocks h dX7_sureOf_123
      · have h := h.2 c9
        refine lv_iconst (v := (1 : Int32)) hx hb dX7_sureOf_8 (by decide) ?_
        refine lv_istore (lv' := [(4, .int (1 : Int32)), (0, .ref (q 0)), (1, .int x1), (2, .int x2), (3, .int x3)]) hx hb dX7_sureOf_9 hl (by decide) rfl (fun ls hl => ?_)
        refine lv_iconst (v := (0 : Int32)) hx hb dX7_sureOf_11 (by decide) ?_
        refine lv_istore (lv' := [(5, .int (0 : Int32)), (4, .int (1 : Int32)), (0, .ref (q 0)), (1, .int x1), (2, .int x2), (3, .int x3)]) hx hb dX7_sureOf_12 hl (by decide) rfl (fun ls hl => ?_)
        refine lv_iconst (v := (0 : Int32)) hx hb dX7_sureOf_14 (by decide) ?_
        refine lv_istore (lv' := [(6, .int (0 : Int32)), (5, .int (0 : Int32)), (4, .int (1 : Int32)), (0, .ref (q 0)), (1, .int x1), (2, .int x2), (3, .int x3)]) hx hb dX7_sureOf_15 hl (by decide) rfl (fun ls hl => ?_)
        obtain ⟨n9, h⟩ := h
        exact B17 n9 _ _ _ _ _ _ h ls (lv_sub hl [3, 4, 5, 6, 2, 1, 0] rfl)
  refine lv_iconst (v := (-1 : Int32)) hx hb dX7_sureOf_0 (by decide) ?_
  refine lv_istore_n (lv' := [(2, .int (-1 : Int32)), (0, .ref (q 0)), (1, .int a0)]) hx hb dX7_sureOf_1 rfl hl (by decide) rfl (fun ls hl => ?_)
  refine lv_iconst (v := (3 : Int32)) hx hb dX7_sureOf_2 (by decide) ?_
  refine lv_istore_n (lv' := [(3, .int (3 : Int32)), (2, .int (-1 : Int32)), (0, .ref (q 0)), (1, .int a0)]) hx hb dX7_sureOf_3 rfl hl (by decide) rfl (fun ls hl => ?_)
  obtain ⟨n9, h⟩ := h
  exact B4 n9 _ _ _ h ls (lv_sub hl [2, 3, 1, 0] rfl)
def wp_X7_whichOf_B15 (post : Int32 → Prop) (v : Nat → Int32) (f : Nat → Nat → Int32) (z : Int64) (K4 : Int32 → Int32 → Int32 → Prop) : Nat → Int32 → Int32 → Int32 → Int32 → Int32 → Prop
  | 0, _, _, _, _, _ => False
  | n15 + 1, x1, x2, x3, x4, x5 => (((v 10) ≤ x5 → ((x4 = 0 → K4 x1 (x2 ||| (0 : Int32)) (x3 + 1)) ∧ (¬ x4 = 0 → K4 x1 (x2 ||| ((1 : Int32) <<< (x3 &&& 31))) (x3 + 1)))) ∧ (¬ (v 10) ≤ x5 → (vp_in (((3 : Int32) * x1) + (1 : Int32)) 12 ∧ (vp_in (((3 : Int32) * x5) + (1 : Int32)) 24 ∧ (wp_X7_endsBy (fun r1 => ((x4 = 0 → wp_X7_whichOf_B15 post v f z K4 n15 x1 x2 x3 (0 : Int32) (x5 + 1)) ∧ (¬ x4 = 0 → (vp_in ((3 : Int32) * x5) 24 ∧ (((f 8 ((3 : Int32) * x5).toNatClampNeg) = x1 → (vp_in (((3 : Int32) * x5) + (2 : Int32)) 24 ∧ ((r1 = (f 8 (((3 : Int32) * x5) + (2 : Int32)).toNatClampNeg) → wp_X7_whichOf_B15 post v f z K4 n15 x1 x2 x3 (1 : Int32) (x5 + 1)) ∧ (¬ r1 = (f 8 (((3 : Int32) * x5) + (2 : Int32)).toNatClampNeg) → wp_X7_whichOf_B15 post v f z K4 n15 x1 x2 x3 (0 : Int32) (x5 + 1))))) ∧ (¬ (f 8 ((3 : Int32) * x5).toNatClampNeg) = x1 → wp_X7_whichOf_B15 post v f z K4 n15 x1 x2 x3 (1 : Int32) (x5 + 1))))))) v f z x3 (f 4 (((3 : Int32) * x1) + (1 : Int32)).toNatClampNeg) (0 : Int32) (f 8 (((3 : Int32) * x5) + (1 : Int32)).toNatClampNeg))))))
def wp_X7_whichOf_B4 (post : Int32 → Prop) (v : Nat → Int32) (f : Nat → Nat → Int32) (z : Int64) : Nat → Int32 → Int32 → Int32 → Prop
  | 0, _, _, _ => False
  | n4 + 1, x1, x2, x3 => (((5 : Int32) ≤ x3 → post x2) ∧ (¬ (5 : Int32) ≤ x3 → (∃ j9 : Nat, wp_X7_whichOf_B15 post v f z (wp_X7_whichOf_B4 post v f z n4) j9 x1 x2 x3 (1 : Int32) (0 : Int32))))
def wp_X7_whichOf (post : Int32 → Prop) (v : Nat → Int32) (f : Nat → Nat → Int32) (z : Int64) (a0 : Int32) : Prop := (∃ j9 : Nat, wp_X7_whichOf_B4 post v f z j9 a0 (0 : Int32) (0 : Int32))
def rmX7_whichOf : Room := { frames := 2, cells := 0, slots := 0, locals := 49 }
set_option maxHeartbeats 4000000 in
set_option maxRecDepth 100000 in
theorem c_X7_whichOf (l : Launch) (D : va_G) (cI : ClassId) (q : Nat → Nat) (post : Int32 → Prop) (v : Nat → Int32) (f : Nat → Nat → Int32) (z : Int64) (a0 : Int32) (h : wp_X7_whichOf post v f z a0) : Met l yX7_whichOf wsX7_whichOf rmX7_whichOf (va_Pc [.ref (q 0), .int a0] (rP D cI (wY cI q v f z))) (sQ post) 0 0 (fun _ => False) := by
  refine Met.ofW (cc := cX7_whichOf) (maxL := 7) (ret := (some .int)) (by decide) rfl ?_
  intro p e s m args below meth c s₁ B hml hv
  obtain ⟨rfl, hP, hK, hN⟩ := hv
  have hx := B.exec
  have hb := B.bytes
  have hr := B.returns
  have hts := atoms_spec (ws := wsX7_whichOf) B.pre
  have hown : s.vm.findClass RX7 = some m.cls := findClass_of_methodNamed B.named
  have hlocks : meth.locks = false := B.notSynchronized
  have iX7 : ∀ w ∈ wsX70, w ∈ wsX7_whichOf := fun _ h9 => List.mem_cons_of_mem _ (List.mem_append_right _ h9)
  have k114 := hts (.fieldLink RX7 114 "EndedByOthersModel" "heardMany" "I") (by decide +kernel)
  have k22 := hts (.fieldLink RX7 22 "EndedByOthersModel" "rows" "[I") (by decide +kernel)
  have k34 := hts (.fieldLink RX7 34 "EndedByOthersModel" "heards" "[I") (by decide +kernel)
  have hl := lv_entry ([.ref (q 0), .int a0]) (n := 7) (Nat.le_of_ble_eq_true rfl)
  rw [lg_entry_eq]
  generalize (lg_sl ([.ref (q 0), .int a0]) ++ List.replicate (7 - (lg_sl ([.ref (q 0), .int a0])).length) Slot.unset).toArray = ls at hl ⊢
  have hl : lv_has ls 7 [(0, .ref (q 0)), (1, .int a0)] := hl
  unfold wp_X7_whichOf at h
  have B4 : ∀ (n4 : Nat) (x1 : Int32) (x2 : Int32) (x3 : Int32), wp_X7_whichOf_B4 post v f z n4 x1 x2 x3 → ∀ (ls : Array Slot), lv_has ls 7 [(0, .ref (q 0)), (1, .int x1), (2, .int x2), (3, .int x3)] → W p l e (headSpec wsX7_whichOf rmX7_whichOf).room s m ([.ref (q 0), .int a0] : List Value).toArray below meth c s.heap [] 0 0 (MQ below (sQ post) ([.ref (q 0), .int a0] : List Value).toArray s 0 0 (fun _ => False)) (F0 m 4 ls []) := by
    intro n4
    induction n4 with
    | zero =>
      intro x1 x2 x3 h
      exact False.elim h
    | succ n4 ih4 =>
      have B15 : ∀ (n15 : Nat) (x1 : Int32) (x2 : Int32) (x3 : Int32) (x4 : Int32) (x5 : Int32), wp_X7_whichOf_B15 post v f z (wp_X7_whichOf_B4 post v f z n4) n15 x1 x2 x3 x4 x5 → ∀ (ls : Array Slot), lv_has ls 7 [(0, .ref (q 0)), (1, .int x1), (2, .int x2), (3, .int x3), (4, .int x4), (5, .int x5)] → W p l e (headSpec wsX7_whichOf rmX7_whichOf).room s m ([.ref (q 0), .int a0] : List Value).toArray below meth c s.heap [] 0 0 (MQ below (sQ post) ([.ref (q 0), .int a0] : List Value).toArray s 0 0 (fun _ => False)) (F0 m 15 ls []) := by
        intro n15
        induction n15 with
        | zero =>
          intro x1 x2 x3 x4 x5 h
          exact False.elim h
        | succ n15 ih15 =>
          intro x1 x2 x3 x4 x5 h ls hl
          rw [wp_X7_whichOf_B15] at h
          refine lv_iload hx hb dX7_whichOf_15 (lv_at hl 5 rfl) ?_
          refine lv_aload_n hx hb dX7_whichOf_17 rfl (lv_at hl 0 rfl) ?_
          refine yg_s10 (x := v 10) hx hb hts iX7 hown hK hP k114 rfl dX7_whichOf_18 ?_
          refine lv_icmp_ge (tgt := 100) hx hb dX7_whichOf_21 (by decide) (fun c9 => ?_) (fun c9 => ?_)
          · have h := h.1 c9
            refine lv_iload_n hx hb dX7_whichOf_100 rfl (lv_at hl 2 rfl) ?_
            refine lv_iload hx hb dX7_whichOf_101 (lv_at hl 4 rfl) ?_
            refine lv_if_eq (tgt := 112) hx hb dX7_whichOf_103 (by decide) (fun c9 => ?_) (fun c9 => ?_)
            · have h := h.1 c9
              refine lv_iconst (v := (0 : Int32)) hx hb dX7_whichOf_112 (by decide) ?_
              refine lv_ior hx hb dX7_whichOf_113 ?_
              refine lv_istore_n (lv' := [(2, .int (x2 ||| (0 : Int32))), (0, .ref (q 0)), (1, .int x1), (3, .int x3), (4, .int x4), (5, .int x5)]) hx hb dX7_whichOf_114 rfl hl (by decide) rfl (fun ls hl => ?_)
              refine lv_iinc (v := x3 + 1) (lv' := [(3, .int (x3 + 1)), (2, .int (x2 ||| (0 : Int32))), (0, .ref (q 0)), (1, .int x1), (4, .int x4), (5, .int x5)]) hx hb dX7_whichOf_115 hl (k := 3) rfl rfl (by decide) rfl (fun ls hl => ?_)
              refine lv_goto (tgt := 4) hx hb dX7_whichOf_118 (by decide) ?_
              exact ih4 _ _ _ h ls (lv_sub hl [2, 3, 1, 0] rfl)
            · have h := h.2 c9
              refine lv_iconst (v := (1 : Int32)) hx hb dX7_whichOf_106 (by decide) ?_
              refine lv_iload_n hx hb dX7_whichOf_107 rfl (lv_at hl 3 rfl) ?_
              refine lv_ishl hx hb dX7_whichOf_108 ?_
              refine lv_goto (tgt := 113) hx hb dX7_whichOf_109 (by decide) ?_
              refine lv_ior hx hb dX7_whichOf_113 ?_
              refine lv_istore_n (lv' := [(2, .int (x2 ||| ((1 : Int32) <<< (x3 &&& 31)))), (0, .ref (q 0)), (1, .int x1), (3, .int x3), (4, .int x4), (5, .int x5)]) hx hb dX7_whichOf_114 rfl hl (by decide) rfl (fun ls hl => ?_)
              refine lv_iinc (v := x3 + 1) (lv' := [(3, .int (x3 + 1)), (2, .int (x2 ||| ((1 : Int32) <<< (x3 &&& 31)))), (0, .ref (q 0)), (1, .int x1), (4, .int x4), (5, .int x5)]) hx hb dX7_whichOf_115 hl (k := 3) rfl rfl (by decide) rfl (fun ls hl => ?_)
              refine lv_goto (tgt := 4) hx hb dX7_whichOf_118 (by decide) ?_
              exact ih4 _ _ _ h ls (lv_sub hl [2, 3, 1, 0] rfl)
          · have h := h.2 c9
            refine lv_aload_n hx hb dX7_whichOf_24 rfl (lv_at hl 0 rfl) ?_
            refine lv_iload_n hx hb dX7_whichOf_25 rfl (lv_at hl 3 rfl) ?_
            refine lv_aload_n hx hb dX7_whichOf_26 rfl (lv_at hl 0 rfl) ?_
            refine yg_r0_5 hx hb hts iX7 hown hK hP k22 dX7_whichOf_27 ?_
            refine lv_iconst (v := (3 : Int32)) hx hb dX7_whichOf_30 (by decide) ?_
            refine lv_iload_n hx hb dX7_whichOf_31 rfl (lv_at hl 1 rfl) ?_
            refine lv_imul hx hb dX7_whichOf_32 ?_
            refine lv_iconst (v := (1 : Int32)) hx hb dX7_whichOf_33 (by decide) ?_
            refine lv_iadd hx hb dX7_whichOf_34 ?_
            obtain ⟨h9, h⟩ := h
            refine yal_4 (x := f 4 (((3 : Int32) * x1) + (1 : Int32)).toNatClampNeg) hx hb hK hP h9 rfl dX7_whichOf_35 ?_
            refine lv_iconst (v := (0 : Int32)) hx hb dX7_whichOf_36 (by decide) ?_
            refine lv_aload_n hx hb dX7_whichOf_37 rfl (lv_at hl 0 rfl) ?_
            refine yg_r0_9 hx hb hts iX7 hown hK hP k34 dX7_whichOf_38 ?_
            refine lv_iconst (v := (3 : Int32)) hx hb dX7_whichOf_41 (by decide) ?_
            refine lv_iload hx hb dX7_whichOf_42 (lv_at hl 5 rfl) ?_
            refine lv_imul hx hb dX7_whichOf_44 ?_
            refine lv_iconst (v := (1 : Int32)) hx hb dX7_whichOf_45 (by decide) ?_
            refine lv_iadd hx hb dX7_whichOf_46 ?_
            obtain ⟨h9, h⟩ := h
            refine yal_8 (x := f 8 (((3 : Int32) * x5) + (1 : Int32)).toNatClampNeg) hx hb hK hP h9 rfl dX7_whichOf_47 ?_
            refine rV_i ⟨hx, hb, hml, hown, hts⟩ (c_X7_endsBy l D cI q _ _ _ _ _ _ _ _ h) (cwV 4 hts gX7_whichOf_X7_endsBy rfl rfl rfl (by decide +kernel) ⟨Nat.le_of_ble_eq_true rfl, Nat.le_of_ble_eq_true rfl⟩) hK hP hN (va_recv hK hP (ci := 7) (q0 := 0) rfl rfl) rfl hl.1 (rest := []) rfl (Nat.le_of_ble_eq_true rfl) dX7_whichOf_48 (Nat.zero_le _) (Nat.zero_le _) (fun r1 h => ?_)
            refine lv_istore (lv' := [(6, .int r1), (0, .ref (q 0)), (1, .int x1), (2, .int x2), (3, .int x3), (4, .int x4), (5, .int x5)]) hx hb dX7_whichOf_51 hl (by decide) rfl (fun ls hl => ?_)
            refine lv_iload hx hb dX7_whichOf_53 (lv_at hl 5 rfl) ?_
            refine lv_if_eq (tgt := 91) hx hb dX7_whichOf_55 (by decide) (fun c9 => ?_) (fun c9 => ?_)
            · have h := h.1 c9
              refine lv_iconst (v := (0 : Int32)) hx hb dX7_whichOf_91 (by decide) ?_
              refine lv_istore (lv' := [(4, .int (0 : Int32)), (6, .int r1), (0, .ref (q 0)), (1, .int x1), (2, .int x2), (3, .int x3), (5, .int x5)]) hx hb dX7_whichOf_92 hl (by decide) rfl (fun ls hl => ?_)
              refine lv_iinc (v := x5 + 1) (lv' := [(5, .int (x5 + 1)), (4, .int (0 : Int32)), (6, .int r1), (0, .ref (q 0)), (1, .int x1), (2, .int x2), (3, .int x3)]) hx hb dX7_whichOf_94 hl (k := 6) rfl rfl (by decide) rfl (fun ls hl => ?_)
              refine lv_goto (tgt := 15) hx hb dX7_whichOf_97 (by decide) ?_
              exact ih15 _ _ _ _ _ h ls (lv_sub hl [3, 4, 5, 6, 1, 0] rfl)
            · have h := h.2 c9
              refine lv_aload_n hx hb dX7_whichOf_58 rfl (lv_at hl 1 rfl) ?_
              refine yg_r0_9 hx hb hts iX7 hown hK hP k34 dX7_whichOf_59 ?_
              refine lv_iconst (v := (3 : Int32)) hx hb dX7_whichOf_62 (by decide) ?_
              refine lv_iload hx hb dX7_whichOf_63 (lv_at hl 6 rfl) ?_
              refine lv_imul hx hb dX7_whichOf_65 ?_
              obtain ⟨h9, h⟩ := h
              refine yal_8 (x := f 8 ((3 : Int32) * x5).toNatClampNeg) hx hb hK hP h9 rfl dX7_whichOf_66 ?_
              refine lv_iload_n hx hb dX7_whichOf_67 rfl (lv_at hl 2 rfl) ?_
              refine lv_icmp_ne (tgt := 87) hx hb dX7_whichOf_68 (by decide) (fun c9 => ?_) (fun c9 => ?_)
              · have h := h.2 c9
                refine lv_iconst (v := (1 : Int32)) hx hb dX7_whichOf_87 (by decide) ?_
                refine lv_goto (tgt := 92) hx hb dX7_whichOf_88 (by decide) ?_
                refine lv_istore (lv' := [(4, .int (1 : Int32)), (6, .int r1), (0, .ref (q 0)), (1, .int x1), (2, .int x2), (3, .int x3), (5, .int x5)]) hx hb dX7_whichOf_92 hl (by decide) rfl (fun ls hl => ?_)
                refine lv_iinc (v := x5 + 1) (lv' := [(5, .int (x5 + 1)), (4, .int (1 : Int32)), (6, .int r1), (0, .ref (q 0)), (1, .int x1), (2, .int x2), (3, .int x3)]) hx hb dX7_whichOf_94 hl (k := 6) rfl rfl (by decide) rfl (fun ls hl => ?_)
                refine lv_goto (tgt := 15) hx hb dX7_whichOf_97 (by decide) ?_
                exact ih15 _ _ _ _ _ h ls (lv_sub hl [3, 4, 5, 6, 1, 0] rfl)
              · have h := h.1 c9
                refine lv_iload hx hb dX7_whichOf_71 (lv_at hl 0 rfl) ?_
                refine lv_aload_n hx hb dX7_whichOf_73 rfl (lv_at hl 1 rfl) ?_
                refine yg_r0_9 hx hb hts iX7 hown hK hP k34 dX7_whichOf_74 ?_
                refine lv_iconst (v := (3 : Int32)) hx hb dX7_whichOf_77 (by decide) ?_
                refine lv_iload hx hb dX7_whichOf_78 (lv_at hl 6 rfl) ?_
                refine lv_imul hx hb dX7_whichOf_80 ?_
                refine lv_iconst (v := (2 : Int32)) hx hb dX7_whichOf_81 (by decide) ?_
                refine lv_iadd hx hb dX7_whichOf_82 ?_
                obtain ⟨h9, h⟩ := h
                refine yal_8 (x := f 8 (((3 : Int32) * x5) + (2 : Int32)).toNatClampNeg) hx hb hK hP h9 rfl dX7_whichOf_83 ?_
                refine lv_icmp_ne (tgt := 91) hx hb dX7_whichOf_84 (by decide) (fun c9 => ?_) (fun c9 => ?_)
                · have h := h.2 c9
                  refine lv_iconst (v := (0 : Int32)) hx hb dX7_whichOf_91 (by decide) ?_
                  refine lv_istore (lv' := [(4, .int (0 : Int32)), (6, .int r1), (0, .ref (q 0)), (1, .int x1), (2, .int x2), (3, .int x3), (5, .int x5)]) hx hb dX7_whichOf_92 hl (by decide) rfl (fun ls hl => ?_)
                  refine lv_iinc (v := x5 + 1) (lv' := [(5, .int (x5 + 1)), (4, .int (0 : Int32)), (6, .int r1), (0, .ref (q 0)), (1, .int x1), (2, .int x2), (3, .int x3)]) hx hb dX7_whichOf_94 hl (k := 6) rfl rfl (by decide) rfl (fun ls hl => ?_)
                  refine lv_goto (tgt := 15) hx hb dX7_whichOf_97 (by decide) ?_
                  exact ih15 _ _ _ _ _ h ls (lv_sub hl [3, 4, 5, 6, 1, 0] rfl)
                · have h := h.1 c9
                  refine lv_iconst (v := (1 : Int32)) hx hb dX7_whichOf_87 (by decide) ?_
                  refine lv_goto (tgt := 92) hx hb dX7_whichOf_88 (by decide) ?_
                  refine lv_istore (lv' := [(4, .int (1 : Int32)), (6, .int r1), (0, .ref (q 0)), (1, .int x1), (2, .int x2), (3, .int x3), (5, .int x5)]) hx hb dX7_whichOf_92 hl (by decide) rfl (fun ls hl => ?_)
                  refine lv_iinc (v := x5 + 1) (lv' := [(5, .int (x5 + 1)), (4, .int (1 : Int32)), (6, .int r1), (0, .ref (q 0)), (1, .int x1), (2, .int x2), (3, .int x3)]) hx hb dX7_whichOf_94 hl (k := 6) rfl rfl (by decide) rfl (fun ls hl => ?_)
                  refine lv_goto (tgt := 15) hx hb dX7_whichOf_97 (by decide) ?_
                  exact ih15 _ _ _ _ _ h ls (lv_sub hl [3, 4, 5, 6, 1, 0] rfl)
      intro x1 x2 x3 h ls hl
      rw [wp_X7_whichOf_B4] at h
      refine lv_iload_n hx hb dX7_whichOf_4 rfl (lv_at hl 3 rfl) ?_
      refine lv_iconst (v := (5 : Int32)) hx hb dX7_whichOf_5 (by decide) ?_
      refine lv_icmp_ge (tgt := 121) hx hb dX7_whichOf_6 (by decide) (fun c9 => ?_) (fun c9 => ?_)
      · have h := h.1 c9
        refine lv_iload_n hx hb dX7_whichOf_121 rfl (lv_at hl 2 rfl) ?_
        exact ri_ret hx hb hr hlocks h dX7_whichOf_122
      · have h := h.2 c9
        refine lv_iconst (v := (1 : Int32)) hx hb dX7_whichOf_9 (by decide) ?_
        refine lv_istore (lv' := [(4, .int (1 : Int32)), (0, .ref (q 0)), (1, .int x1), (2, .int x2), (3, .int x3)]) hx hb dX7_whichOf_10 hl (by decide) rfl (fun ls hl => ?_)
        refine lv_iconst (v := (0 : Int32)) hx hb dX7_whichOf_12 (by decide) ?_
        refine lv_istore (lv' := [(5, .int (0 : Int32)), (4, .int (1 : Int32)), (0, .ref (q 0)), (1, .int x1), (2, .int x2), (3, .int x3)]) hx hb dX7_whichOf_13 hl (by decide) rfl (fun ls hl => ?_)
        obtain ⟨n9, h⟩ := h
        exact B15 n9 _ _ _ _ _ h ls (lv_sub hl [2, 3, 4, 5, 1, 0] rfl)
  refine lv_iconst (v := (0 : Int32)) hx hb dX7_whichOf_0 (by decide) ?_
  refine lv_istore_n (lv' := [(2, .int (0 : Int32)), (0, .ref (q 0)), (1, .int a0)]) hx hb dX7_whichOf_1 rfl hl (by decide) rfl (fun ls hl => ?_)
  refine lv_iconst (v := (0 : Int32)) hx hb dX7_whichOf_2 (by decide) ?_
  refine lv_istore_n (lv' := [(3, .int (0 : Int32)), (2, .int (0 : Int32)), (0, .ref (q 0)), (1, .int a0)]) hx hb dX7_whichOf_3 rfl hl (by decide) rfl (fun ls hl => ?_)
  obtain ⟨n9, h⟩ := h
  exact B4 n9 _ _ _ h ls (lv_sub hl [2, 3, 1, 0] rfl)
def wp_X7_beginOf_B145 (post : Int32 → (Nat → Int32) → (Nat → Nat → Int32) → Int64 → Prop) (K15 : (Nat → Int32) → (Nat → Nat → Int32) → Int64 → Int32 → Int32 → Int32 → Int32 → Int32 → Prop) (v : Nat → Int32) (f : Nat → Nat → Int32) (z : Int64) (x1 : Int32) (x2 : Int32) (x4 : Int32) (x5 : Int32) (x6 : Int32) (y0 : Int32) : Prop := ((x4 ≤ x6 → K15 v f z x1 x2 y0 x4 (x5 + 1)) ∧ (¬ x4 ≤ x6 → K15 v f z x1 x2 y0 x6 (x5 + 1)))
def wp_X7_beginOf_B55 (post : Int32 → (Nat → Int32) → (Nat → Nat → Int32) → Int64 → Prop) (K15 : (Nat → Int32) → (Nat → Nat → Int32) → Int64 → Int32 → Int32 → Int32 → Int32 → Int32 → Prop) : Nat → (Nat → Int32) → (Nat → Nat → Int32) → Int64 → Int32 → Int32 → Int32 → Int32 → Int32 → Int32 → Int32 → Prop
  | 0, _, _, _, _, _, _, _, _, _, _ => False
  | n55 + 1, v, f, z, x1, x2, x3, x4, x5, x6, x7 => (((5 : Int32) ≤ x7 → ((x4 ≤ x6 → wp_X7_beginOf_B145 post K15 v f z x1 x2 x4 x5 x6 x3) ∧ (¬ x4 ≤ x6 → wp_X7_beginOf_B145 post K15 v f z x1 x2 x4 x5 x6 x5))) ∧ (¬ (5 : Int32) ≤ x7 → (vp_in (((3 : Int32) * x1) + (1 : Int32)) 12 ∧ (wp_X7_endsBy (fun r1 => (vp_in (r1 + (1 : Int32)) 7 ∧ (vp_in (r1 + (1 : Int32)) 7 ∧ (vp_in (r1 + (1 : Int32)) 7 ∧ ((((upd (f 9) (r1 + (1 : Int32)).toNatClampNeg ((f 9 (r1 + (1 : Int32)).toNatClampNeg) + ((x2 >>> (x7 &&& 31)) &&& (1 : Int32)))) (r1 + (1 : Int32)).toNatClampNeg) ≤ x6 → wp_X7_beginOf_B55 post K15 n55 v (va_up f 9 (upd (f 9) (r1 + (1 : Int32)).toNatClampNeg ((f 9 (r1 + (1 : Int32)).toNatClampNeg) + ((x2 >>> (x7 &&& 31)) &&& (1 : Int32))))) z x1 x2 x3 x4 x5 x6 (x7 + 1)) ∧ (¬ ((upd (f 9) (r1 + (1 : Int32)).toNatClampNeg ((f 9 (r1 + (1 : Int32)).toNatClampNeg) + ((x2 >>> (x7 &&& 31)) &&& (1 : Int32)))) (r1 + (1 : Int32)).toNatClampNeg) ≤ x6 → (vp_in (r1 + (1 : Int32)) 7 ∧ wp_X7_beginOf_B55 post K15 n55 v (va_up f 9 (upd (f 9) (r1 + (1 : Int32)).toNatClampNeg ((f 9 (r1 + (1 : Int32)).toNatClampNeg) + ((x2 >>> (x7 &&& 31)) &&& (1 : Int32))))) z x1 x2 x3 x4 x5 ((upd (f 9) (r1 + (1 : Int32)).toNatClampNeg ((f 9 (r1 + (1 : Int32)).toNatClampNeg) + ((x2 >>> (x7 &&& 31)) &&& (1 : Int32)))) (r1 + (1 : Int32)).toNatClampNeg) (x7 + 1)))))))) v f z x7 (f 4 (((3 : Int32) * x1) + (1 : Int32)).toNatClampNeg) (0 : Int32) x5))))
def wp_X7_beginOf_B28 (post : Int32 → (Nat → Int32) → (Nat → Nat → Int32) → Int64 → Prop) (K15 : (Nat → Int32) → (Nat → Nat → Int32) → Int64 → Int32 → Int32 → Int32 → Int32 → Int32 → Prop) : Nat → (Nat → Int32) → (Nat → Nat → Int32) → Int64 → Int32 → Int32 → Int32 → Int32 → Int32 → Int32 → Prop
  | 0, _, _, _, _, _, _, _, _, _ => False
  | n28 + 1, v, f, z, x1, x2, x3, x4, x5, x6 => (((7 : Int32) ≤ x6 → (∃ j9 : Nat, wp_X7_beginOf_B55 post K15 j9 v f z x1 x2 x3 x4 x5 (0 : Int32) (0 : Int32))) ∧ (¬ (7 : Int32) ≤ x6 → (vp_in x6 7 ∧ wp_X7_beginOf_B28 post K15 n28 v (va_up f 9 (upd (f 9) (x6).toNatClampNeg (0 : Int32))) z x1 x2 x3 x4 x5 (x6 + 1))))
def wp_X7_beginOf_B15 (post : Int32 → (Nat → Int32) → (Nat → Nat → Int32) → Int64 → Prop) : Nat → (Nat → Int32) → (Nat → Nat → Int32) → Int64 → Int32 → Int32 → Int32 → Int32 → Int32 → Prop
  | 0, _, _, _, _, _, _, _, _ => False
  | n15 + 1, v, f, z, x1, x2, x3, x4, x5 => (((4 : Int32) ≤ x5 → post x3 v f z) ∧ (¬ (4 : Int32) ≤ x5 → ((x2 = 0 → post x3 v f z) ∧ (¬ x2 = 0 → (∃ j9 : Nat, wp_X7_beginOf_B28 post (wp_X7_beginOf_B15 post n15) j9 v f z x1 x2 x3 x4 x5 (0 : Int32))))))
def wp_X7_beginOf (post : Int32 → (Nat → Int32) → (Nat → Nat → Int32) → Int64 → Prop) (v : Nat → Int32) (f : Nat → Nat → Int32) (z : Int64) (a0 : Int32) : Prop := (wp_X7_whichOf (fun r2 => (∃ j9 : Nat, wp_X7_beginOf_B15 post j9 v f z a0 r2 (-1 : Int32) (6 : Int32) (0 : Int32))) v f z a0)
def rmX7_beginOf : Room := { frames := 3, cells := 0, slots := 0, locals := 75 }
set_option maxHeartbeats 4000000 in
set_option maxRecDepth 100000 in
theorem c_X7_beginOf (l : Launch) (D : va_G) (cI : ClassId) (q : Nat → Nat) (sz : Nat) (post : Int32 → (Nat → Int32) → (Nat → Nat → Int32) → Int64 → Prop) (v : Nat → Int32) (f : Nat → Nat → Int32) (z : Int64) (a0 : Int32) (h : wp_X7_beginOf post v f z a0) : Met l yX7_beginOf wsX7_beginOf rmX7_beginOf (va_Pc [.ref (q 0), .int a0] (mP D cI (wY cI q v f z) sz)) (mQi post D cI (wY cI q) (va_A (wY cI q v f z) sz)) 0 0 (va_A (wY cI q v f z) sz) := by
  refine Met.ofW (cc := cX7_beginOf) (maxL := 9) (ret := (some .int)) (by decide) rfl ?_
  intro p e s m args below meth c s₁ B hml hv
  obtain ⟨rfl, hsz, ⟨hP, hK, hN⟩, hD0⟩ := hv
  have hx := B.exec
  have hb := B.bytes
  have hr := B.returns
  have hts := atoms_spec (ws := wsX7_beginOf) B.pre
  have hown : s.vm.findClass RX7 = some m.cls := findClass_of_methodNamed B.named
  have hlocks : meth.locks = false := B.notSynchronized
  subst hsz
  have hD := hD0.self (sz := s.heap.size)
  generalize hAe : va_A (wY cI q v f z) s.heap.size = A at hD ⊢
  have hA : ∀ q : Nat, s.heap.size ≤ q → A q := fun q h => by rw [← hAe]; exact Or.inr h
  have hS : va_S A s.heap s.heap [] := va_S.rf
  have iX7 : ∀ w ∈ wsX70, w ∈ wsX7_beginOf := fun _ h9 => List.mem_cons_of_mem _ (List.mem_append_right _ h9)
  have k22 := hts (.fieldLink RX7 22 "EndedByOthersModel" "rows" "[I") (by decide +kernel)
  have k37 := hts (.fieldLink RX7 37 "EndedByOthersModel" "parts" "[I") (by decide +kernel)
  have hl := lv_entry ([.ref (q 0), .int a0]) (n := 9) (Nat.le_of_ble_eq_true rfl)
  rw [lg_entry_eq]
  generalize (lg_sl ([.ref (q 0), .int a0]) ++ List.replicate (9 - (lg_sl ([.ref (q 0), .int a0])).length) Slot.unset).toArray = ls at hl ⊢
  have hl : lv_has ls 9 [(0, .ref (q 0)), (1, .int a0)] := hl
  unfold wp_X7_beginOf at h
  have B15 : ∀ (n15 : Nat) (v : Nat → Int32) (f : Nat → Nat → Int32) (z : Int64) (x1 : Int32) (x2 : Int32) (x3 : Int32) (x4 : Int32) (x5 : Int32), wp_X7_beginOf_B15 post n15 v f z x1 x2 x3 x4 x5 → ∀ (H : Heap) (locs : List Loc), va_P D vwCl (wY cI q v f z) H → va_D A (wY cI q v f z) → va_S A s.heap H locs → ∀ (ls : Array Slot), lv_has ls 9 [(0, .ref (q 0)), (1, .int x1), (2, .int x2), (3, .int x3), (4, .int x4), (5, .int x5)] → W p l e (headSpec wsX7_beginOf rmX7_beginOf).room s m ([.ref (q 0), .int a0] : List Value).toArray below meth c H locs 0 0 (MQ below (mQi post D cI (wY cI q) A) ([.ref (q 0), .int a0] : List Value).toArray s 0 0 A) (F0 m 15 ls []) := by
    intro n15
    induction n15 with
    | zero =>
      intro v f z x1 x2 x3 x4 x5 h
      exact False.elim h
    | succ n15 ih15 =>
      have B145 : ∀ (v : Nat → Int32) (f : Nat → Nat → Int32) (z : Int64) (x1 : Int32) (x2 : Int32) (x4 : Int32) (x5 : Int32) (x6 : Int32) (y0 : Int32), wp_X7_beginOf_B145 post (wp_X7_beginOf_B15 post n15) v f z x1 x2 x4 x5 x6 y0 → ∀ (H : Heap) (locs : List Loc), va_P D vwCl (wY cI q v f z) H → va_D A (wY cI q v f z) → va_S A s.heap H locs → ∀ (ls : Array Slot), lv_has ls 9 [(0, .ref (q 0)), (1, .int x1), (2, .int x2), (4, .int x4), (5, .int x5), (6, .int x6)] → W p l e (headSpec wsX7_beginOf rmX7_beginOf).room s m ([.ref (q 0), .int a0] : List Value).toArray below meth c H locs 0 0 (MQ below (mQi post D cI (wY cI q) A) ([.ref (q 0), .int a0] : List Value).toArray s 0 0 A) (F0 m 145 ls [.int y0]) := by
        intro v f z x1 x2 x4 x5 x6 y0 h H locs hP hD hS ls hl
        unfold wp_X7_beginOf_B145 at h
        refine lv_istore_n (lv' := [(3, .int y0), (0, .ref (q 0)), (1, .int x1), (2, .int x2), (4, .int x4), (5, .int x5), (6, .int x6)]) hx hb dX7_beginOf_145 rfl hl (by decide) rfl (fun ls hl => ?_)
        refine lv_iload hx hb dX7_beginOf_146 (lv_at hl 6 rfl) ?_
        refine lv_iload hx hb dX7_beginOf_148 (lv_at hl 4 rfl) ?_
        refine lv_icmp_ge (tgt := 158) hx hb dX7_beginOf_150 (by decide) (fun c9 => ?_) (fun c9 => ?_)
        · have h := h.1 c9
          refine lv_iload hx hb dX7_beginOf_158 (lv_at hl 4 rfl) ?_
          refine lv_istore (lv' := [(4, .int x4), (3, .int y0), (0, .ref (q 0)), (1, .int x1), (2, .int x2), (5, .int x5), (6, .int x6)]) hx hb dX7_beginOf_160 hl (by decide) rfl (fun ls hl => ?_)
          refine lv_iinc (v := x5 + 1) (lv' := [(5, .int (x5 + 1)), (4, .int x4), (3, .int y0), (0, .ref (q 0)), (1, .int x1), (2, .int x2), (6, .int x6)]) hx hb dX7_beginOf_162 hl (k := 5) rfl rfl (by decide) rfl (fun ls hl => ?_)
          refine lv_goto (tgt := 15) hx hb dX7_beginOf_165 (by decide) ?_
          exact ih15 _ _ _ _ _ _ _ _ h _ _ hP hD hS ls (lv_sub hl [3, 4, 5, 2, 1, 0] rfl)
        · have h := h.2 c9
          refine lv_iload hx hb dX7_beginOf_153 (lv_at hl 6 rfl) ?_
          refine lv_goto (tgt := 160) hx hb dX7_beginOf_155 (by decide) ?_
          refine lv_istore (lv' := [(4, .int x6), (3, .int y0), (0, .ref (q 0)), (1, .int x1), (2, .int x2), (5, .int x5), (6, .int x6)]) hx hb dX7_beginOf_160 hl (by decide) rfl (fun ls hl => ?_)
          refine lv_iinc (v := x5 + 1) (lv' := [(5, .int (x5 + 1)), (4, .int x6), (3, .int y0), (0, .ref (q 0)), (1, .int x1), (2, .int x2), (6, .int x6)]) hx hb dX7_beginOf_162 hl (k := 5) rfl rfl (by decide) rfl (fun ls hl => ?_)
          refine lv_goto (tgt := 15) hx hb dX7_beginOf_165 (by decide) ?_
          exact ih15 _ _ _ _ _ _ _ _ h _ _ hP hD hS ls (lv_sub hl [3, 4, 5, 2, 1, 0] rfl)
      have B55 : ∀ (n55 : Nat) (v : Nat → Int32) (f : Nat → Nat → Int32) (z : Int64) (x1 : Int32) (x2 : Int32) (x3 : Int32) (x4 : Int32) (x5 : Int32) (x6 : Int32) (x7 : Int32), wp_X7_beginOf_B55 post (wp_X7_beginOf_B15 post n15) n55 v f z x1 x2 x3 x4 x5 x6 x7 → ∀ (H : Heap) (locs : List Loc), va_P D vwCl (wY cI q v f z) H → va_D A (wY cI q v f z) → va_S A s.heap H locs → ∀ (ls : Array Slot), lv_has ls 9 [(0, .ref (q 0)), (1, .int x1), (2, .int x2), (3, .int x3), (4, .int x4), (5, .int x5), (6, .int x6), (7, .int x7)] → W p l e (headSpec wsX7_beginOf rmX7_beginOf).room s m ([.ref (q 0), .int a0] : List Value).toArray below meth c H locs 0 0 (MQ below (mQi post D cI (wY cI q) A) ([.ref (q 0), .int a0] : List Value).toArray s 0 0 A) (F0 m 55 ls []) := by
        intro n55
        induction n55 with
        | zero =>
          intro v f z x1 x2 x3 x4 x5 x6 x7 h
          exact False.elim h
        | succ n55 ih55 =>
          intro v f z x1 x2 x3 x4 x5 x6 x7 h H locs hP hD hS ls hl
          rw [wp_X7_beginOf_B55] at h
          refine lv_iload hx hb dX7_beginOf_55 (lv_at hl 7 rfl) ?_
          refine lv_iconst (v := (5 : Int32)) hx hb dX7_beginOf_57 (by decide) ?_
          refine lv_icmp_ge (tgt := 132) hx hb dX7_beginOf_58 (by decide) (fun c9 => ?_) (fun c9 => ?_)
          · have h := h.1 c9
            refine lv_iload hx hb dX7_beginOf_132 (lv_at hl 6 rfl) ?_
            refine lv_iload hx hb dX7_beginOf_134 (lv_at hl 4 rfl) ?_
            refine lv_icmp_ge (tgt := 144) hx hb dX7_beginOf_136 (by decide) (fun c9 => ?_) (fun c9 => ?_)
            · have h := h.1 c9
              refine lv_iload_n hx hb dX7_beginOf_144 rfl (lv_at hl 3 rfl) ?_
              exact B145 _ _ _ _ _ _ _ _ _ h _ _ hP hD hS ls (lv_sub hl [0, 1, 2, 4, 5, 6] rfl)
            · have h := h.2 c9
              refine lv_iload hx hb dX7_beginOf_139 (lv_at hl 5 rfl) ?_
              refine lv_goto (tgt := 145) hx hb dX7_beginOf_141 (by decide) ?_
              exact B145 _ _ _ _ _ _ _ _ _ h _ _ hP hD hS ls (lv_sub hl [0, 1, 2, 4, 5, 6] rfl)
          · have h := h.2 c9
            refine lv_aload_n hx hb dX7_beginOf_61 rfl (lv_at hl 0 rfl) ?_
            refine lv_iload hx hb dX7_beginOf_62 (lv_at hl 7 rfl) ?_
            refine lv_aload_n hx hb dX7_beginOf_64 rfl (lv_at hl 0 rfl) ?_
            refine yg_r0_5 hx hb hts iX7 hown hK hP k22 dX7_beginOf_65 ?_
            refine lv_iconst (v := (3 : Int32)) hx hb dX7_beginOf_68 (by decide) ?_
            refine lv_iload_n hx hb dX7_beginOf_69 rfl (lv_at hl 1 rfl) ?_
            refine lv_imul hx hb dX7_beginOf_70 ?_
            refine lv_iconst (v := (1 : Int32)) hx hb dX7_beginOf_71 (by decide) ?_
            refine lv_iadd hx hb dX7_beginOf_72 ?_
            obtain ⟨h9, h⟩ := h
            refine yal_4 (x := f 4 (((3 : Int32) * x1) + (1 : Int32)).toNatClampNeg) hx hb hK hP h9 rfl dX7_beginOf_73 ?_
            refine lv_iconst (v := (0 : Int32)) hx hb dX7_beginOf_74 (by decide) ?_
            refine lv_iload hx hb dX7_beginOf_75 (lv_at hl 5 rfl) ?_
            refine rV_i ⟨hx, hb, hml, hown, hts⟩ (c_X7_endsBy l D cI q _ _ _ _ _ _ _ _ h) (cwV 4 hts gX7_beginOf_X7_endsBy rfl rfl rfl (by decide +kernel) ⟨Nat.le_of_ble_eq_true rfl, Nat.le_of_ble_eq_true rfl⟩) hK hP hN (va_recv hK hP (ci := 7) (q0 := 0) rfl rfl) rfl hl.1 (rest := []) rfl (Nat.le_of_ble_eq_true rfl) dX7_beginOf_77 (Nat.zero_le _) (Nat.zero_le _) (fun r1 h => ?_)
            refine lv_iconst (v := (1 : Int32)) hx hb dX7_beginOf_80 (by decide) ?_
            refine lv_iadd hx hb dX7_beginOf_81 ?_
            refine lv_istore (lv' := [(8, .int (r1 + (1 : Int32))), (0, .ref (q 0)), (1, .int x1), (2, .int x2), (3, .int x3), (4, .int x4), (5, .int x5), (6, .int x6), (7, .int x7)]) hx hb dX7_beginOf_82 hl (by decide) rfl (fun ls hl => ?_)
            refine lv_aload_n hx hb dX7_beginOf_84 rfl (lv_at hl 1 rfl) ?_
            refine yg_r0_10 hx hb hts iX7 hown hK hP k37 dX7_beginOf_85 ?_
            refine lv_iload hx hb dX7_beginOf_88 (lv_at hl 0 rfl) ?_
            refine lv_dup2_11 hx hb dX7_beginOf_90 rfl rfl ?_
            obtain ⟨h9, h⟩ := h
            refine yal_9 (x := f 9 (r1 + (1 : Int32)).toNatClampNeg) hx hb hK hP h9 rfl dX7_beginOf_91 ?_
            refine lv_iload_n hx hb dX7_beginOf_92 rfl (lv_at hl 3 rfl) ?_
            refine lv_iload hx hb dX7_beginOf_93 (lv_at hl 8 rfl) ?_
            refine lv_ishr hx hb dX7_beginOf_95 ?_
            refine lv_iconst (v := (1 : Int32)) hx hb dX7_beginOf_96 (by decide) ?_
            refine lv_iand hx hb dX7_beginOf_97 ?_
            refine lv_iadd hx hb dX7_beginOf_98 ?_
            obtain ⟨h9, h⟩ := h
            refine yas_9 hx hb hK hP hD hS h9 dX7_beginOf_99 (fun H locs hP hD hS => ?_)
            have hP : va_P D vwCl (wY cI q v (va_up f 9 (upd (f 9) (r1 + (1 : Int32)).toNatClampNeg ((f 9 (r1 + (1 : Int32)).toNatClampNeg) + ((x2 >>> (x7 &&& 31)) &&& (1 : Int32))))) z) H := hP
            have hD : va_D A (wY cI q v (va_up f 9 (upd (f 9) (r1 + (1 : Int32)).toNatClampNeg ((f 9 (r1 + (1 : Int32)).toNatClampNeg) + ((x2 >>> (x7 &&& 31)) &&& (1 : Int32))))) z) := hD
            refine lv_aload_n hx hb dX7_beginOf_100 rfl (lv_at hl 1 rfl) ?_
            refine yg_r0_10 hx hb hts iX7 hown hK hP k37 dX7_beginOf_101 ?_
            refine lv_iload hx hb dX7_beginOf_104 (lv_at hl 0 rfl) ?_
            obtain ⟨h9, h⟩ := h
            refine yal_9 (x := (upd (f 9) (r1 + (1 : Int32)).toNatClampNeg ((f 9 (r1 + (1 : Int32)).toNatClampNeg) + ((x2 >>> (x7 &&& 31)) &&& (1 : Int32)))) (r1 + (1 : Int32)).toNatClampNeg) hx hb hK hP h9 rfl dX7_beginOf_106 ?_
            refine lv_iload hx hb dX7_beginOf_107 (lv_at hl 7 rfl) ?_
            refine lv_icmp_le (tgt := 122) hx hb dX7_beginOf_109 (by decide) (fun c9 => ?_) (fun c9 => ?_)
            · have h := h.1 c9
              refine lv_iload hx hb dX7_beginOf_122 (lv_at hl 7 rfl) ?_
              refine lv_istore (lv' := [(6, .int x6), (8, .int (r1 + (1 : Int32))), (0, .ref (q 0)), (1, .int x1), (2, .int x2), (3, .int x3), (4, .int x4), (5, .int x5), (7, .int x7)]) hx hb dX7_beginOf_124 hl (by decide) rfl (fun ls hl => ?_)
              refine lv_iinc (v := x7 + 1) (lv' := [(7, .int (x7 + 1)), (6, .int x6), (8, .int (r1 + (1 : Int32))), (0, .ref (q 0)), (1, .int x1), (2, .int x2), (3, .int x3), (4, .int x4), (5, .int x5)]) hx hb dX7_beginOf_126 hl (k := 8) rfl rfl (by decide) rfl (fun ls hl => ?_)
              refine lv_goto (tgt := 55) hx hb dX7_beginOf_129 (by decide) ?_
              exact ih55 _ _ _ _ _ _ _ _ _ _ h _ _ hP hD hS ls (lv_sub hl [3, 4, 5, 6, 7, 8, 1, 0] rfl)
            · have h := h.2 c9
              refine lv_aload_n hx hb dX7_beginOf_112 rfl (lv_at hl 1 rfl) ?_
              refine yg_r0_10 hx hb hts iX7 hown hK hP k37 dX7_beginOf_113 ?_
              refine lv_iload hx hb dX7_beginOf_116 (lv_at hl 0 rfl) ?_
              obtain ⟨h9, h⟩ := h
              refine yal_9 (x := (upd (f 9) (r1 + (1 : Int32)).toNatClampNeg ((f 9 (r1 + (1 : Int32)).toNatClampNeg) + ((x2 >>> (x7 &&& 31)) &&& (1 : Int32)))) (r1 + (1 : Int32)).toNatClampNeg) hx hb hK hP h9 rfl dX7_beginOf_118 ?_
              refine lv_goto (tgt := 124) hx hb dX7_beginOf_119 (by decide) ?_
              refine lv_istore (lv' := [(6, .int ((upd (f 9) (r1 + (1 : Int32)).toNatClampNeg ((f 9 (r1 + (1 : Int32)).toNatClampNeg) + ((x2 >>> (x7 &&& 31)) &&& (1 : Int32)))) (r1 + (1 : Int32)).toNatClampNeg)), (8, .int (r1 + (1 : Int32))), (0, .ref (q 0)), (1, .int x1), (2, .int x2), (3, .int x3), (4, .int x4), (5, .int x5), (7, .int x7)]) hx hb dX7_beginOf_124 hl (by decide) rfl (fun ls hl => ?_)
              refine lv_iinc (v := x7 + 1) (lv' := [(7, .int (x7 + 1)), (6, .int ((upd (f 9) (r1 + (1 : Int32)).toNatClampNeg ((f 9 (r1 + (1 : Int32)).toNatClampNeg) + ((x2 >>> (x7 &&& 31)) &&& (1 : Int32)))) (r1 + (1 : Int32)).toNatClampNeg)), (8, .int (r1 + (1 : Int32))), (0, .ref (q 0)), (1, .int x1), (2, .int x2), (3, .int x3), (4, .int x4), (5, .int x5)]) hx hb dX7_beginOf_126 hl (k := 8) rfl rfl (by decide) rfl (fun ls hl => ?_)
              refine lv_goto (tgt := 55) hx hb dX7_beginOf_129 (by decide) ?_
              exact ih55 _ _ _ _ _ _ _ _ _ _ h _ _ hP hD hS ls (lv_sub hl [3, 4, 5, 6, 7, 8, 1, 0] rfl)
      have B28 : ∀ (n28 : Nat) (v : Nat → Int32) (f : Nat → Nat → Int32) (z : Int64) (x1 : Int32) (x2 : Int32) (x3 : Int32) (x4 : Int32) (x5 : Int32) (x6 : Int32), wp_X7_beginOf_B28 post (wp_X7_beginOf_B15 post n15) n28 v f z x1 x2 x3 x4 x5 x6 → ∀ (H : Heap) (locs : List Loc), va_P D vwCl (wY cI q v f z) H → va_D A (wY cI q v f z) → va_S A s.heap H locs → ∀ (ls : Array Slot), lv_has ls 9 [(0, .ref (q 0)), (1, .int x1), (2, .int x2), (3, .int x3), (4, .int x4), (5, .int x5), (6, .int x6)] → W p l e (headSpec wsX7_beginOf rmX7_beginOf).room s m ([.ref (q 0), .int a0] : List Value).toArray below meth c H locs 0 0 (MQ below (mQi post D cI (wY cI q) A) ([.ref (q 0), .int a0] : List Value).toArray s 0 0 A) (F0 m 28 ls []) := by
        intro n28
        induction n28 with
        | zero =>
          intro v f z x1 x2 x3 x4 x5 x6 h
          exact False.elim h
        | succ n28 ih28 =>
          intro v f z x1 x2 x3 x4 x5 x6 h H locs hP hD hS ls hl
          rw [wp_X7_beginOf_B28] at h
          refine lv_iload hx hb dX7_beginOf_28 (lv_at hl 6 rfl) ?_
          refine lv_bipush (v := (7 : Int32)) hx hb dX7_beginOf_30 (by decide) ?_
          refine lv_icmp_ge (tgt := 49) hx hb dX7_beginOf_32 (by decide) (fun c9 => ?_) (fun c9 => ?_)
          · have h := h.1 c9
            refine lv_iconst (v := (0 : Int32)) hx hb dX7_beginOf_49 (by decide) ?_
            refine lv_istore (lv' := [(6, .int (0 : Int32)), (0, .ref (q 0)), (1, .int x1), (2, .int x2), (3, .int x3), (4, .int x4), (5, .int x5)]) hx hb dX7_beginOf_50 hl (by decide) rfl (fun ls hl => ?_)
            refine lv_iconst (v := (0 : Int32)) hx hb dX7_beginOf_52 (by decide) ?_
            refine lv_istore (lv' := [(7, .int (0 : Int32)), (6, .int (0 : Int32)), (0, .ref (q 0)), (1, .int x1), (2, .int x2), (3, .int x3), (4, .int x4), (5, .int x5)]) hx hb dX7_beginOf_53 hl (by decide) rfl (fun ls hl => ?_)
            obtain ⟨n9, h⟩ := h
            exact B55 n9 _ _ _ _ _ _ _ _ _ _ h _ _ hP hD hS ls (lv_sub hl [2, 3, 4, 5, 6, 7, 1, 0] rfl)
          · have h := h.2 c9
            refine lv_aload_n hx hb dX7_beginOf_35 rfl (lv_at hl 0 rfl) ?_
            refine yg_r0_10 hx hb hts iX7 hown hK hP k37 dX7_beginOf_36 ?_
            refine lv_iload hx hb dX7_beginOf_39 (lv_at hl 6 rfl) ?_
            refine lv_iconst (v := (0 : Int32)) hx hb dX7_beginOf_41 (by decide) ?_
            obtain ⟨h9, h⟩ := h
            refine yas_9 hx hb hK hP hD hS h9 dX7_beginOf_42 (fun H locs hP hD hS => ?_)
            have hP : va_P D vwCl (wY cI q v (va_up f 9 (upd (f 9) (x6).toNatClampNeg (0 : Int32))) z) H := hP
            have hD : va_D A (wY cI q v (va_up f 9 (upd (f 9) (x6).toNatClampNeg (0 : Int32))) z) := hD
            refine lv_iinc (v := x6 + 1) (lv' := [(6, .int (x6 + 1)), (0, .ref (q 0)), (1, .int x1), (2, .int x2), (3, .int x3), (4, .int x4), (5, .int x5)]) hx hb dX7_beginOf_43 hl (k := 6) rfl rfl (by decide) rfl (fun ls hl => ?_)
            refine lv_goto (tgt := 28) hx hb dX7_beginOf_46 (by decide) ?_
            exact ih28 _ _ _ _ _ _ _ _ _ h _ _ hP hD hS ls (lv_sub hl [1, 2, 3, 4, 5, 6, 0] rfl)
      intro v f z x1 x2 x3 x4 x5 h H locs hP hD hS ls hl
      rw [wp_X7_beginOf_B15] at h
      refine lv_iload hx hb dX7_beginOf_15 (lv_at hl 5 rfl) ?_
      refine lv_iconst (v := (4 : Int32)) hx hb dX7_beginOf_17 (by decide) ?_
      refine lv_icmp_ge (tgt := 168) hx hb dX7_beginOf_18 (by decide) (fun c9 => ?_) (fun c9 => ?_)
      · have h := h.1 c9
        refine lv_iload_n hx hb dX7_beginOf_168 rfl (lv_at hl 3 rfl) ?_
        exact mi_ret (v, f, z) hx hb hr hlocks h hK hP hD hS dX7_beginOf_169
      · have h := h.2 c9
        refine lv_iload_n hx hb dX7_beginOf_21 rfl (lv_at hl 2 rfl) ?_
        refine lv_if_eq (tgt := 168) hx hb dX7_beginOf_22 (by decide) (fun c9 => ?_) (fun c9 => ?_)
        · have h := h.1 c9
          refine lv_iload_n hx hb dX7_beginOf_168 rfl (lv_at hl 3 rfl) ?_
          exact mi_ret (v, f, z) hx hb hr hlocks h hK hP hD hS dX7_beginOf_169
        · have h := h.2 c9
          refine lv_iconst (v := (0 : Int32)) hx hb dX7_beginOf_25 (by decide) ?_
          refine lv_istore (lv' := [(6, .int (0 : Int32)), (0, .ref (q 0)), (1, .int x1), (2, .int x2), (3, .int x3), (4, .int x4), (5, .int x5)]) hx hb dX7_beginOf_26 hl (by decide) rfl (fun ls hl => ?_)
          obtain ⟨n9, h⟩ := h
          exact B28 n9 _ _ _ _ _ _ _ _ _ h _ _ hP hD hS ls (lv_sub hl [1, 2, 3, 4, 5, 6, 0] rfl)
  refine lv_aload_n hx hb dX7_beginOf_0 rfl (lv_at hl 0 rfl) ?_
  refine lv_iload_n hx hb dX7_beginOf_1 rfl (lv_at hl 1 rfl) ?_
  refine rV_i ⟨hx, hb, hml, hown, hts⟩ (c_X7_whichOf l D cI q _ _ _ _ _ h) (cwV 1 hts gX7_beginOf_X7_whichOf rfl rfl rfl (by decide +kernel) ⟨Nat.le_of_ble_eq_true rfl, Nat.le_of_ble_eq_true rfl⟩) hK hP hN (va_recv hK hP (ci := 7) (q0 := 0) rfl rfl) rfl hl.1 (rest := []) rfl (Nat.le_of_ble_eq_true rfl) dX7_beginOf_2 (Nat.zero_le _) (Nat.zero_le _) (fun r2 h => ?_)
  refine lv_istore_n (lv' := [(2, .int r2), (0, .ref (q 0)), (1, .int a0)]) hx hb dX7_beginOf_5 rfl hl (by decide) rfl (fun ls hl => ?_)
  refine lv_iconst (v := (-1 : Int32)) hx hb dX7_beginOf_6 (by decide) ?_
  refine lv_istore_n (lv' := [(3, .int (-1 : Int32)), (2, .int r2), (0, .ref (q 0)), (1, .int a0)]) hx hb dX7_beginOf_7 rfl hl (by decide) rfl (fun ls hl => ?_)
  refine lv_bipush (v := (6 : Int32)) hx hb dX7_beginOf_8 (by decide) ?_
  refine lv_istore (lv' := [(4, .int (6 : Int32)), (3, .int (-1 : Int32)), (2, .int r2), (0, .ref (q 0)), (1, .int a0)]) hx hb dX7_beginOf_10 hl (by decide) rfl (fun ls hl => ?_)
  refine lv_iconst (v := (0 : Int32)) hx hb dX7_beginOf_12 (by decide) ?_
  refine lv_istore (lv' := [(5, .int (0 : Int32)), (4, .int (6 : Int32)), (3, .int (-1 : Int32)), (2, .int r2), (0, .ref (q 0)), (1, .int a0)]) hx hb dX7_beginOf_13 hl (by decide) rfl (fun ls hl => ?_)
  obtain ⟨n9, h⟩ := h
  exact B15 n9 _ _ _ _ _ _ _ _ h _ _ hP hD hS ls (lv_sub hl [4, 5, 3, 2, 1, 0] rfl)
