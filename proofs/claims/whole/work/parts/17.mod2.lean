def wp_X7_tell (post : Int32 → (Nat → Int32) → (Nat → Nat → Int32) → Int64 → Prop) (v : Nat → Int32) (f : Nat → Nat → Int32) (z : Int64) (a0 : Int32) (a1 : Int32) : Prop := ((a1 = 0 → (vp_in (((3 : Int32) * a0) + a1) 12 ∧ post (f 4 (((3 : Int32) * a0) + a1).toNatClampNeg) v f z)) ∧ (a1 = 1 → (vp_in (((3 : Int32) * a0) + a1) 12 ∧ post (f 4 (((3 : Int32) * a0) + a1).toNatClampNeg) v f z)) ∧ (a1 = 2 → (vp_in (((3 : Int32) * a0) + a1) 12 ∧ post (f 4 (((3 : Int32) * a0) + a1).toNatClampNeg) v f z)) ∧ (a1 = 3 → (wp_X7_openOf (fun r1 => post r1 v f z) v f z a0)) ∧ (a1 = 4 → (wp_X7_saidBy (fun r2 => post r2 v f z) v f z (0 : Int32) a0)) ∧ (a1 = 5 → (wp_X7_saidBy (fun r3 => post r3 v f z) v f z (2 : Int32) a0)) ∧ (a1 = 6 → (wp_X7_sureOf (fun r4 => post r4 v f z) v f z a0)) ∧ (a1 = 7 → (wp_X7_whichOf (fun r5 => post r5 v f z) v f z a0)) ∧ (a1 = 8 → (wp_X7_beginOf (fun r6 v7 f8 z9 => post r6 v7 f8 z9) v f z a0)) ∧ (((a1).toInt < 0 ∨ 8 < (a1).toInt) → post (-102 : Int32) v f z))
def rmX7_tell : Room := { frames := 4, cells := 0, slots := 0, locals := 103 }
set_option maxHeartbeats 4000000 in
set_option maxRecDepth 100000 in
theorem c_X7_tell (l : Launch) (D : va_G) (cI : ClassId) (q : Nat → Nat) (sz : Nat) (post : Int32 → (Nat → Int32) → (Nat → Nat → Int32) → Int64 → Prop) (v : Nat → Int32) (f : Nat → Nat → Int32) (z : Int64) (a0 : Int32) (a1 : Int32) (h : wp_X7_tell post v f z a0 a1) : Met l yX7_tell wsX7_tell rmX7_tell (va_Pc [.ref (q 0), .int a0, .int a1] (mP D cI (wY cI q v f z) sz)) (mQi post D cI (wY cI q) (va_A (wY cI q v f z) sz)) 0 0 (va_A (wY cI q v f z) sz) := by
  refine Met.ofW (cc := cX7_tell) (maxL := 3) (ret := (some .int)) (by decide) rfl ?_
  intro p e s m args below meth c s₁ B hml hv
  obtain ⟨rfl, hsz, ⟨hP, hK, hN⟩, hD0⟩ := hv
  have hx := B.exec
  have hb := B.bytes
  have hr := B.returns
  have hts := atoms_spec (ws := wsX7_tell) B.pre
  have hown : s.vm.findClass RX7 = some m.cls := findClass_of_methodNamed B.named
  have hlocks : meth.locks = false := B.notSynchronized
  subst hsz
  have hD := hD0.self (sz := s.heap.size)
  generalize hAe : va_A (wY cI q v f z) s.heap.size = A at hD ⊢
  have hA : ∀ q : Nat, s.heap.size ≤ q → A q := fun q h => by rw [← hAe]; exact Or.inr h
  have hS : va_S A s.heap s.heap [] := va_S.rf
  have iX7 : ∀ w ∈ wsX70, w ∈ wsX7_tell := fun _ h9 => List.mem_cons_of_mem _ (List.mem_append_right _ h9)
  have k22 := hts (.fieldLink RX7 22 "EndedByOthersModel" "rows" "[I") (by decide +kernel)
  have hl := lv_entry ([.ref (q 0), .int a0, .int a1]) (n := 3) (Nat.le_of_ble_eq_true rfl)
  rw [lg_entry_eq]
  generalize (lg_sl ([.ref (q 0), .int a0, .int a1]) ++ List.replicate (3 - (lg_sl ([.ref (q 0), .int a0, .int a1])).length) Slot.unset).toArray = ls at hl ⊢
  have hl : lv_has ls 3 [(0, .ref (q 0)), (1, .int a0), (2, .int a1)] := hl
  unfold wp_X7_tell at h
  refine lv_iload_n hx hb dX7_tell_0 rfl (lv_at hl 2 rfl) ?_
  rcases sw_0_8 (a1) with c9 | c9 | c9 | c9 | c9 | c9 | c9 | c9 | c9 | c9
  · have h := h.1 c9
    refine lv_tableIn (off := 51) (tgt := 52) hx hb dX7_tell_1 (by rw [c9]; decide) (by rw [c9]; decide) (by rw [c9]; decide) (by decide) ?_
    refine lv_aload_n hx hb dX7_tell_52 rfl (lv_at hl 0 rfl) ?_
    refine yg_r0_5 hx hb hts iX7 hown hK hP k22 dX7_tell_53 ?_
    refine lv_iconst (v := (3 : Int32)) hx hb dX7_tell_56 (by decide) ?_
    refine lv_iload_n hx hb dX7_tell_57 rfl (lv_at hl 1 rfl) ?_
    refine lv_imul hx hb dX7_tell_58 ?_
    refine lv_iload_n hx hb dX7_tell_59 rfl (lv_at hl 2 rfl) ?_
    refine lv_iadd hx hb dX7_tell_60 ?_
    obtain ⟨h9, h⟩ := h
    refine yal_4 (x := f 4 (((3 : Int32) * a0) + a1).toNatClampNeg) hx hb hK hP h9 rfl dX7_tell_61 ?_
    exact mi_ret (v, f, z) hx hb hr hlocks h hK hP hD hS dX7_tell_62
  · have h := h.2.1 c9
    refine lv_tableIn (off := 51) (tgt := 52) hx hb dX7_tell_1 (by rw [c9]; decide) (by rw [c9]; decide) (by rw [c9]; decide) (by decide) ?_
    refine lv_aload_n hx hb dX7_tell_52 rfl (lv_at hl 0 rfl) ?_
    refine yg_r0_5 hx hb hts iX7 hown hK hP k22 dX7_tell_53 ?_
    refine lv_iconst (v := (3 : Int32)) hx hb dX7_tell_56 (by decide) ?_
    refine lv_iload_n hx hb dX7_tell_57 rfl (lv_at hl 1 rfl) ?_
    refine lv_imul hx hb dX7_tell_58 ?_
    refine lv_iload_n hx hb dX7_tell_59 rfl (lv_at hl 2 rfl) ?_
    refine lv_iadd hx hb dX7_tell_60 ?_
    obtain ⟨h9, h⟩ := h
    refine yal_4 (x := f 4 (((3 : Int32) * a0) + a1).toNatClampNeg) hx hb hK hP h9 rfl dX7_tell_61 ?_
    exact mi_ret (v, f, z) hx hb hr hlocks h hK hP hD hS dX7_tell_62
  · have h := h.2.2.1 c9
    refine lv_tableIn (off := 51) (tgt := 52) hx hb dX7_tell_1 (by rw [c9]; decide) (by rw [c9]; decide) (by rw [c9]; decide) (by decide) ?_
    refine lv_aload_n hx hb dX7_tell_52 rfl (lv_at hl 0 rfl) ?_
    refine yg_r0_5 hx hb hts iX7 hown hK hP k22 dX7_tell_53 ?_
    refine lv_iconst (v := (3 : Int32)) hx hb dX7_tell_56 (by decide) ?_
    refine lv_iload_n hx hb dX7_tell_57 rfl (lv_at hl 1 rfl) ?_
    refine lv_imul hx hb dX7_tell_58 ?_
    refine lv_iload_n hx hb dX7_tell_59 rfl (lv_at hl 2 rfl) ?_
    refine lv_iadd hx hb dX7_tell_60 ?_
    obtain ⟨h9, h⟩ := h
    refine yal_4 (x := f 4 (((3 : Int32) * a0) + a1).toNatClampNeg) hx hb hK hP h9 rfl dX7_tell_61 ?_
    exact mi_ret (v, f, z) hx hb hr hlocks h hK hP hD hS dX7_tell_62
  · have h := h.2.2.2.1 c9
    refine lv_tableIn (off := 62) (tgt := 63) hx hb dX7_tell_1 (by rw [c9]; decide) (by rw [c9]; decide) (by rw [c9]; decide) (by decide) ?_
    refine lv_aload_n hx hb dX7_tell_63 rfl (lv_at hl 0 rfl) ?_
    refine lv_iload_n hx hb dX7_tell_64 rfl (lv_at hl 1 rfl) ?_
    refine rV_i ⟨hx, hb, hml, hown, hts⟩ (c_X7_openOf l D cI q _ _ _ _ _ h) (cwV 1 hts gX7_tell_X7_openOf rfl rfl rfl (by decide +kernel) ⟨Nat.le_of_ble_eq_true rfl, Nat.le_of_ble_eq_true rfl⟩) hK hP hN (va_recv hK hP (ci := 7) (q0 := 0) rfl rfl) rfl hl.1 (rest := []) rfl (Nat.le_of_ble_eq_true rfl) dX7_tell_65 (Nat.zero_le _) (Nat.zero_le _) (fun r1 h => ?_)
    exact mi_ret (v, f, z) hx hb hr hlocks h hK hP hD hS dX7_tell_68
  · have h := h.2.2.2.2.1 c9
    refine lv_tableIn (off := 68) (tgt := 69) hx hb dX7_tell_1 (by rw [c9]; decide) (by rw [c9]; decide) (by rw [c9]; decide) (by decide) ?_
    refine lv_aload_n hx hb dX7_tell_69 rfl (lv_at hl 0 rfl) ?_
    refine lv_iconst (v := (0 : Int32)) hx hb dX7_tell_70 (by decide) ?_
    refine lv_iload_n hx hb dX7_tell_71 rfl (lv_at hl 1 rfl) ?_
    refine rV_i ⟨hx, hb, hml, hown, hts⟩ (c_X7_saidBy l D cI q _ _ _ _ _ _ h) (cwV 2 hts gX7_tell_X7_saidBy rfl rfl rfl (by decide +kernel) ⟨Nat.le_of_ble_eq_true rfl, Nat.le_of_ble_eq_true rfl⟩) hK hP hN (va_recv hK hP (ci := 7) (q0 := 0) rfl rfl) rfl hl.1 (rest := []) rfl (Nat.le_of_ble_eq_true rfl) dX7_tell_72 (Nat.zero_le _) (Nat.zero_le _) (fun r2 h => ?_)
    exact mi_ret (v, f, z) hx hb hr hlocks h hK hP hD hS dX7_tell_75
  · have h := h.2.2.2.2.2.1 c9
    refine lv_tableIn (off := 75) (tgt := 76) hx hb dX7_tell_1 (by rw [c9]; decide) (by rw [c9]; decide) (by rw [c9]; decide) (by decide) ?_
    refine lv_aload_n hx hb dX7_tell_76 rfl (lv_at hl 0 rfl) ?_
    refine lv_iconst (v := (2 : Int32)) hx hb dX7_tell_77 (by decide) ?_
    refine lv_iload_n hx hb dX7_tell_78 rfl (lv_at hl 1 rfl) ?_
    refine rV_i ⟨hx, hb, hml, hown, hts⟩ (c_X7_saidBy l D cI q _ _ _ _ _ _ h) (cwV 2 hts gX7_tell_X7_saidBy rfl rfl rfl (by decide +kernel) ⟨Nat.le_of_ble_eq_true rfl, Nat.le_of_ble_eq_true rfl⟩) hK hP hN (va_recv hK hP (ci := 7) (q0 := 0) rfl rfl) rfl hl.1 (rest := []) rfl (Nat.le_of_ble_eq_true rfl) dX7_tell_79 (Nat.zero_le _) (Nat.zero_le _) (fun r3 h => ?_)
    exact mi_ret (v, f, z) hx hb hr hlocks h hK hP hD hS dX7_tell_82
  · have h := h.2.2.2.2.2.2.1 c9
    refine lv_tableIn (off := 82) (tgt := 83) hx hb dX7_tell_1 (by rw [c9]; decide) (by rw [c9]; decide) (by rw [c9]; decide) (by decide) ?_
    refine lv_aload_n hx hb dX7_tell_83 rfl (lv_at hl 0 rfl) ?_
    refine lv_iload_n hx hb dX7_tell_84 rfl (lv_at hl 1 rfl) ?_
    refine rV_i ⟨hx, hb, hml, hown, hts⟩ (c_X7_sureOf l D cI q _ _ _ _ _ h) (cwV 1 hts gX7_tell_X7_sureOf rfl rfl rfl (by decide +kernel) ⟨Nat.le_of_ble_eq_true rfl, Nat.le_of_ble_eq_true rfl⟩) hK hP hN (va_recv hK hP (ci := 7) (q0 := 0) rfl rfl) rfl hl.1 (rest := []) rfl (Nat.le_of_ble_eq_true rfl) dX7_tell_85 (Nat.zero_le _) (Nat.zero_le _) (fun r4 h => ?_)
    exact mi_ret (v, f, z) hx hb hr hlocks h hK hP hD hS dX7_tell_88
  · have h := h.2.2.2.2.2.2.2.1 c9
    refine lv_tableIn (off := 88) (tgt := 89) hx hb dX7_tell_1 (by rw [c9]; decide) (by rw [c9]; decide) (by rw [c9]; decide) (by decide) ?_
    refine lv_aload_n hx hb dX7_tell_89 rfl (lv_at hl 0 rfl) ?_
    refine lv_iload_n hx hb dX7_tell_90 rfl (lv_at hl 1 rfl) ?_
    refine rV_i ⟨hx, hb, hml, hown, hts⟩ (c_X7_whichOf l D cI q _ _ _ _ _ h) (cwV 1 hts gX7_tell_X7_whichOf rfl rfl rfl (by decide +kernel) ⟨Nat.le_of_ble_eq_true rfl, Nat.le_of_ble_eq_true rfl⟩) hK hP hN (va_recv hK hP (ci := 7) (q0 := 0) rfl rfl) rfl hl.1 (rest := []) rfl (Nat.le_of_ble_eq_true rfl) dX7_tell_91 (Nat.zero_le _) (Nat.zero_le _) (fun r5 h => ?_)
    exact mi_ret (v, f, z) hx hb hr hlocks h hK hP hD hS dX7_tell_94
  · have h := h.2.2.2.2.2.2.2.2.1 c9
    refine lv_tableIn (off := 94) (tgt := 95) hx hb dX7_tell_1 (by rw [c9]; decide) (by rw [c9]; decide) (by rw [c9]; decide) (by decide) ?_
    refine lv_aload_n hx hb dX7_tell_95 rfl (lv_at hl 0 rfl) ?_
    refine lv_iload_n hx hb dX7_tell_96 rfl (lv_at hl 1 rfl) ?_
    refine mV_i ⟨hx, hb, hml, hown, hts⟩ (c_X7_beginOf l D cI q _ _ _ _ _ _ h) (cwV 1 hts gX7_tell_X7_beginOf rfl rfl rfl (by decide +kernel) ⟨Nat.le_of_ble_eq_true rfl, Nat.le_of_ble_eq_true rfl⟩) hK hP hN hD hS hA (va_recv hK hP (ci := 7) (q0 := 0) rfl rfl) rfl hl.1 (rest := []) rfl (Nat.le_of_ble_eq_true rfl) dX7_tell_97 (Nat.zero_le _) (Nat.zero_le _) (fun r6 v7 f8 z9 h H locs hP hD hS => ?_)
    exact mi_ret (v7, f8, z9) hx hb hr hlocks h hK hP hD hS dX7_tell_100
  · have h := h.2.2.2.2.2.2.2.2.2 c9
    refine lv_tableOut (tgt := 101) hx hb dX7_tell_1 c9 (by decide) ?_
    refine lv_bipush (v := (-102 : Int32)) hx hb dX7_tell_101 (by decide) ?_
    exact mi_ret (v, f, z) hx hb hr hlocks h hK hP hD hS dX7_tell_103
def wp_X7_about (post : Int32 → (Nat → Int32) → (Nat → Nat → Int32) → Int64 → Prop) (v : Nat → Int32) (f : Nat → Nat → Int32) (z : Int64) (a0 : Int32) (a1 : Int32) : Prop := (wp_X7_isSpeaker (fun r1 => ((r1 = 0 → post (-101 : Int32) v f z) ∧ (¬ r1 = 0 → (wp_X7_tell (fun r2 v3 f4 z5 => post r2 v3 f4 z5) v f z a0 a1)))) v f z a0)
def rmX7_about : Room := { frames := 5, cells := 0, slots := 0, locals := 125 }
set_option maxHeartbeats 4000000 in
set_option maxRecDepth 100000 in
theorem c_X7_about (l : Launch) (D : va_G) (cI : ClassId) (q : Nat → Nat) (sz : Nat) (post : Int32 → (Nat → Int32) → (Nat → Nat → Int32) → Int64 → Prop) (v : Nat → Int32) (f : Nat → Nat → Int32) (z : Int64) (a0 : Int32) (a1 : Int32) (h : wp_X7_about post v f z a0 a1) : Met l yX7_about wsX7_about rmX7_about (va_Pc [.ref (q 0), .int a0, .int a1] (mP D cI (wY cI q v f z) sz)) (mQi post D cI (wY cI q) (va_A (wY cI q v f z) sz)) 0 0 (va_A (wY cI q v f z) sz) := by
  refine Met.ofW (cc := cX7_about) (maxL := 3) (ret := (some .int)) (by decide) rfl ?_
  intro p e s m args below meth c s₁ B hml hv
  obtain ⟨rfl, hsz, ⟨hP, hK, hN⟩, hD0⟩ := hv
  have hx := B.exec
  have hb := B.bytes
  have hr := B.returns
  have hts := atoms_spec (ws := wsX7_about) B.pre
  have hown : s.vm.findClass RX7 = some m.cls := findClass_of_methodNamed B.named
  have hlocks : meth.locks = false := B.notSynchronized
  subst hsz
  have hD := hD0.self (sz := s.heap.size)
  generalize hAe : va_A (wY cI q v f z) s.heap.size = A at hD ⊢
  have hA : ∀ q : Nat, s.heap.size ≤ q → A q := fun q h => by rw [← hAe]; exact Or.inr h
  have hS : va_S A s.heap s.heap [] := va_S.rf
  have hl := lv_entry ([.ref (q 0), .int a0, .int a1]) (n := 3) (Nat.le_of_ble_eq_true rfl)
  rw [lg_entry_eq]
  generalize (lg_sl ([.ref (q 0), .int a0, .int a1]) ++ List.replicate (3 - (lg_sl ([.ref (q 0), .int a0, .int a1])).length) Slot.unset).toArray = ls at hl ⊢
  have hl : lv_has ls 3 [(0, .ref (q 0)), (1, .int a0), (2, .int a1)] := hl
  unfold wp_X7_about at h
  refine lv_aload_n hx hb dX7_about_0 rfl (lv_at hl 0 rfl) ?_
  refine lv_iload_n hx hb dX7_about_1 rfl (lv_at hl 1 rfl) ?_
  refine rV_i ⟨hx, hb, hml, hown, hts⟩ (c_X7_isSpeaker l D cI q _ _ _ _ _ h) (cwV 1 hts gX7_about_X7_isSpeaker rfl rfl rfl (by decide +kernel) ⟨Nat.le_of_ble_eq_true rfl, Nat.le_of_ble_eq_true rfl⟩) hK hP hN (va_recv hK hP (ci := 7) (q0 := 0) rfl rfl) rfl hl.1 (rest := []) rfl (Nat.le_of_ble_eq_true rfl) dX7_about_2 (Nat.zero_le _) (Nat.zero_le _) (fun r1 h => ?_)
  refine lv_if_eq (tgt := 17) hx hb dX7_about_5 (by decide) (fun c9 => ?_) (fun c9 => ?_)
  · have h := h.1 c9
    refine lv_bipush (v := (-101 : Int32)) hx hb dX7_about_17 (by decide) ?_
    exact mi_ret (v, f, z) hx hb hr hlocks h hK hP hD hS dX7_about_19
  · have h := h.2 c9
    refine lv_aload_n hx hb dX7_about_8 rfl (lv_at hl 0 rfl) ?_
    refine lv_iload_n hx hb dX7_about_9 rfl (lv_at hl 1 rfl) ?_
    refine lv_iload_n hx hb dX7_about_10 rfl (lv_at hl 2 rfl) ?_
    refine mV_i ⟨hx, hb, hml, hown, hts⟩ (c_X7_tell l D cI q _ _ _ _ _ _ _ h) (cwV 2 hts gX7_about_X7_tell rfl rfl rfl (by decide +kernel) ⟨Nat.le_of_ble_eq_true rfl, Nat.le_of_ble_eq_true rfl⟩) hK hP hN hD hS hA (va_recv hK hP (ci := 7) (q0 := 0) rfl rfl) rfl hl.1 (rest := []) rfl (Nat.le_of_ble_eq_true rfl) dX7_about_11 (Nat.zero_le _) (Nat.zero_le _) (fun r2 v3 f4 z5 h H locs hP hD hS => ?_)
    refine lv_goto (tgt := 19) hx hb dX7_about_14 (by decide) ?_
    exact mi_ret (v3, f4, z5) hx hb hr hlocks h hK hP hD hS dX7_about_19
def wp_X7_as (post : Int32 → Prop) (v : Nat → Int32) (f : Nat → Nat → Int32) (z : Int64) (a0 : Int32) (a1 : Int32) : Prop := (wp_X7_isSpeaker (fun r1 => ((r1 = 0 → post (-101 : Int32)) ∧ (¬ r1 = 0 → (wp_X7_in (fun r2 => ((r2 = 0 → post (-102 : Int32)) ∧ (¬ r2 = 0 → (vp_in ((3 : Int32) * a0) 12 ∧ ((a1 = 0 → post a0) ∧ (¬ a1 = 0 → ((a1 = (f 4 ((3 : Int32) * a0).toNatClampNeg) → post a0) ∧ (¬ a1 = (f 4 ((3 : Int32) * a0).toNatClampNeg) → ((a1 = (3 : Int32) → (((f 4 ((3 : Int32) * a0).toNatClampNeg) = (4 : Int32) → post a0) ∧ (¬ (f 4 ((3 : Int32) * a0).toNatClampNeg) = (4 : Int32) → post (-1 : Int32)))) ∧ (¬ a1 = (3 : Int32) → post (-1 : Int32))))))))))) ((a1).toInt64) (0 : Int64) (4 : Int64))))) v f z a0)
def rmX7_as : Room := { frames := 2, cells := 0, slots := 0, locals := 46 }
set_option maxHeartbeats 4000000 in
set_option maxRecDepth 100000 in
theorem c_X7_as (l : Launch) (D : va_G) (cI : ClassId) (q : Nat → Nat) (post : Int32 → Prop) (v : Nat → Int32) (f : Nat → Nat → Int32) (z : Int64) (a0 : Int32) (a1 : Int32) (h : wp_X7_as post v f z a0 a1) : Met l yX7_as wsX7_as rmX7_as (va_Pc [.ref (q 0), .int a0, .int a1] (rP D cI (wY cI q v f z))) (sQ post) 0 0 (fun _ => False) := by
  refine Met.ofW (cc := cX7_as) (maxL := 5) (ret := (some .int)) (by decide) rfl ?_
  intro p e s m args below meth c s₁ B hml hv
  obtain ⟨rfl, hP, hK, hN⟩ := hv
  have hx := B.exec
  have hb := B.bytes
  have hr := B.returns
  have hts := atoms_spec (ws := wsX7_as) B.pre
  have hown : s.vm.findClass RX7 = some m.cls := findClass_of_methodNamed B.named
  have hlocks : meth.locks = false := B.notSynchronized
  have iX7 : ∀ w ∈ wsX70, w ∈ wsX7_as := fun _ h9 => List.mem_cons_of_mem _ (List.mem_append_right _ h9)
  have k22 := hts (.fieldLink RX7 22 "EndedByOthersModel" "rows" "[I") (by decide +kernel)
  have hl := lv_entry ([.ref (q 0), .int a0, .int a1]) (n := 5) (Nat.le_of_ble_eq_true rfl)
  rw [lg_entry_eq]
  generalize (lg_sl ([.ref (q 0), .int a0, .int a1]) ++ List.replicate (5 - (lg_sl ([.ref (q 0), .int a0, .int a1])).length) Slot.unset).toArray = ls at hl ⊢
  have hl : lv_has ls 5 [(0, .ref (q 0)), (1, .int a0), (2, .int a1)] := hl
  unfold wp_X7_as at h
  refine lv_aload_n hx hb dX7_as_0 rfl (lv_at hl 0 rfl) ?_
  refine lv_iload_n hx hb dX7_as_1 rfl (lv_at hl 1 rfl) ?_
  refine rV_i ⟨hx, hb, hml, hown, hts⟩ (c_X7_isSpeaker l D cI q _ _ _ _ _ h) (cwV 1 hts gX7_as_X7_isSpeaker rfl rfl rfl (by decide +kernel) ⟨Nat.le_of_ble_eq_true rfl, Nat.le_of_ble_eq_true rfl⟩) hK hP hN (va_recv hK hP (ci := 7) (q0 := 0) rfl rfl) rfl hl.1 (rest := []) rfl (Nat.le_of_ble_eq_true rfl) dX7_as_2 (Nat.zero_le _) (Nat.zero_le _) (fun r1 h => ?_)
  refine lv_if_ne (tgt := 11) hx hb dX7_as_5 (by decide) (fun c9 => ?_) (fun c9 => ?_)
  · have h := h.2 c9
    refine lv_iload_n hx hb dX7_as_11 rfl (lv_at hl 2 rfl) ?_
    refine lv_i2l (v := (a1).toInt64) hx hb dX7_as_12 rfl ?_
    refine lv_lconst (v := (0 : Int64)) hx hb dX7_as_13 (by decide) ?_
    refine lv_ldc2 (v := (4 : Int64)) hx hb hown (hts (.constantLong RX7 164 (4)) (by decide +kernel)) dX7_as_14 ?_
    refine rS_i ⟨hx, hb, hml, hown, hts⟩ (c_X7_in l D cI _ _ _ _ h) (va_cwS 3 hts gX7_as_X7_in rfl rfl rfl (by decide +kernel) ⟨Nat.le_of_ble_eq_true rfl, Nat.le_of_ble_eq_true rfl⟩) hK wPnil hN rfl hl.1 (rest := []) rfl (Nat.le_of_ble_eq_true rfl) dX7_as_17 (Nat.zero_le _) (Nat.zero_le _) (fun r2 h => ?_)
    refine lv_if_ne (tgt := 26) hx hb dX7_as_20 (by decide) (fun c9 => ?_) (fun c9 => ?_)
    · have h := h.2 c9
      refine lv_aload_n hx hb dX7_as_26 rfl (lv_at hl 0 rfl) ?_
      refine yg_r0_5 hx hb hts iX7 hown hK hP k22 dX7_as_27 ?_
      refine lv_iconst (v := (3 : Int32)) hx hb dX7_as_30 (by decide) ?_
      refine lv_iload_n hx hb dX7_as_31 rfl (lv_at hl 1 rfl) ?_
      refine lv_imul hx hb dX7_as_32 ?_
      obtain ⟨h9, h⟩ := h
      refine yal_4 (x := f 4 ((3 : Int32) * a0).toNatClampNeg) hx hb hK hP h9 rfl dX7_as_33 ?_
      refine lv_istore_n (lv' := [(3, .int (f 4 ((3 : Int32) * a0).toNatClampNeg)), (0, .ref (q 0)), (1, .int a0), (2, .int a1)]) hx hb dX7_as_34 rfl hl (by decide) rfl (fun ls hl => ?_)
      refine lv_iload_n hx hb dX7_as_35 rfl (lv_at hl 3 rfl) ?_
      refine lv_if_eq (tgt := 54) hx hb dX7_as_36 (by decide) (fun c9 => ?_) (fun c9 => ?_)
      · have h := h.1 c9
        refine lv_iconst (v := (1 : Int32)) hx hb dX7_as_54 (by decide) ?_
        refine lv_goto (tgt := 59) hx hb dX7_as_55 (by decide) ?_
        refine lv_istore (lv' := [(4, .int (1 : Int32)), (3, .int (f 4 ((3 : Int32) * a0).toNatClampNeg)), (0, .ref (q 0)), (1, .int a0), (2, .int a1)]) hx hb dX7_as_59 hl (by decide) rfl (fun ls hl => ?_)
        refine lv_iload hx hb dX7_as_61 (lv_at hl 0 rfl) ?_
        refine lv_if_eq (tgt := 70) hx hb dX7_as_63 (by decide) (fun c9 => absurd c9 (by decide)) (fun c9 => ?_)
        refine lv_iload_n hx hb dX7_as_66 rfl (lv_at hl 3 rfl) ?_
        refine lv_goto (tgt := 71) hx hb dX7_as_67 (by decide) ?_
        exact ri_ret hx hb hr hlocks h dX7_as_71
      · have h := h.2 c9
        refine lv_iload_n hx hb dX7_as_39 rfl (lv_at hl 3 rfl) ?_
        refine lv_iload_n hx hb dX7_as_40 rfl (lv_at hl 0 rfl) ?_
        refine lv_icmp_eq (tgt := 54) hx hb dX7_as_41 (by decide) (fun c9 => ?_) (fun c9 => ?_)
        · have h := h.1 c9
          refine lv_iconst (v := (1 : Int32)) hx hb dX7_as_54 (by decide) ?_
          refine lv_goto (tgt := 59) hx hb dX7_as_55 (by decide) ?_
          refine lv_istore (lv' := [(4, .int (1 : Int32)), (3, .int (f 4 ((3 : Int32) * a0).toNatClampNeg)), (0, .ref (q 0)), (1, .int a0), (2, .int a1)]) hx hb dX7_as_59 hl (by decide) rfl (fun ls hl => ?_)
          refine lv_iload hx hb dX7_as_61 (lv_at hl 0 rfl) ?_
          refine lv_if_eq (tgt := 70) hx hb dX7_as_63 (by decide) (fun c9 => absurd c9 (by decide)) (fun c9 => ?_)
          refine lv_iload_n hx hb dX7_as_66 rfl (lv_at hl 3 rfl) ?_
          refine lv_goto (tgt := 71) hx hb dX7_as_67 (by decide) ?_
          exact ri_ret hx hb hr hlocks h dX7_as_71
        · have h := h.2 c9
          refine lv_iload_n hx hb dX7_as_44 rfl (lv_at hl 3 rfl) ?_
          refine lv_iconst (v := (3 : Int32)) hx hb dX7_as_45 (by decide) ?_
          refine lv_icmp_ne (tgt := 58) hx hb dX7_as_46 (by decide) (fun c9 => ?_) (fun c9 => ?_)
          · have h := h.2 c9
            refine lv_iconst (v := (0 : Int32)) hx hb dX7_as_58 (by decide) ?_
            refine lv_istore (lv' := [(4, .int (0 : Int32)), (3, .int (f 4 ((3 : Int32) * a0).toNatClampNeg)), (0, .ref (q 0)), (1, .int a0), (2, .int a1)]) hx hb dX7_as_59 hl (by decide) rfl (fun ls hl => ?_)
            refine lv_iload hx hb dX7_as_61 (lv_at hl 0 rfl) ?_
            refine lv_if_eq (tgt := 70) hx hb dX7_as_63 (by decide) (fun c9 => ?_) (fun c9 => absurd c9 (by decide))
            refine lv_iconst (v := (-1 : Int32)) hx hb dX7_as_70 (by decide) ?_
            exact ri_ret hx hb hr hlocks h dX7_as_71
          · have h := h.1 c9
            refine lv_iload_n hx hb dX7_as_49 rfl (lv_at hl 0 rfl) ?_
            refine lv_iconst (v := (4 : Int32)) hx hb dX7_as_50 (by decide) ?_
            refine lv_icmp_ne (tgt := 58) hx hb dX7_as_51 (by decide) (fun c9 => ?_) (fun c9 => ?_)
            · have h := h.2 c9
              refine lv_iconst (v := (0 : Int32)) hx hb dX7_as_58 (by decide) ?_
              refine lv_istore (lv' := [(4, .int (0 : Int32)), (3, .int (f 4 ((3 : Int32) * a0).toNatClampNeg)), (0, .ref (q 0)), (1, .int a0), (2, .int a1)]) hx hb dX7_as_59 hl (by decide) rfl (fun ls hl => ?_)
              refine lv_iload hx hb dX7_as_61 (lv_at hl 0 rfl) ?_
              refine lv_if_eq (tgt := 70) hx hb dX7_as_63 (by decide) (fun c9 => ?_) (fun c9 => absurd c9 (by decide))
              refine lv_iconst (v := (-1 : Int32)) hx hb dX7_as_70 (by decide) ?_
              exact ri_ret hx hb hr hlocks h dX7_as_71
            · have h := h.1 c9
              refine lv_iconst (v := (1 : Int32)) hx hb dX7_as_54 (by decide) ?_
              refine lv_goto (tgt := 59) hx hb dX7_as_55 (by decide) ?_
              refine lv_istore (lv' := [(4, .int (1 : Int32)), (3, .int (f 4 ((3 : Int32) * a0).toNatClampNeg)), (0, .ref (q 0)), (1, .int a0), (2, .int a1)]) hx hb dX7_as_59 hl (by decide) rfl (fun ls hl => ?_)
              refine lv_iload hx hb dX7_as_61 (lv_at hl 0 rfl) ?_
              refine lv_if_eq (tgt := 70) hx hb dX7_as_63 (by decide) (fun c9 => absurd c9 (by decide)) (fun c9 => ?_)
              refine lv_iload_n hx hb dX7_as_66 rfl (lv_at hl 3 rfl) ?_
              refine lv_goto (tgt := 71) hx hb dX7_as_67 (by decide) ?_
              exact ri_ret hx hb hr hlocks h dX7_as_71
    · have h := h.1 c9
      refine lv_bipush (v := (-102 : Int32)) hx hb dX7_as_23 (by decide) ?_
      exact ri_ret hx hb hr hlocks h dX7_as_25
  · have h := h.1 c9
    refine lv_bipush (v := (-101 : Int32)) hx hb dX7_as_8 (by decide) ?_
    exact ri_ret hx hb hr hlocks h dX7_as_10
def wp_X7_want (post : Int32 → (Nat → Int32) → (Nat → Nat → Int32) → Int64 → Prop) (v : Nat → Int32) (f : Nat → Nat → Int32) (z : Int64) (a0 : Int32) (a1 : Int32) : Prop := (wp_X7_isSpeaker (fun r1 => ((r1 = 0 → post (-101 : Int32) v f z) ∧ (¬ r1 = 0 → (wp_X7_in (fun r2 => ((r2 = 0 → post (-102 : Int32) v f z) ∧ (¬ r2 = 0 → (vp_in (((3 : Int32) * a0) + (1 : Int32)) 12 ∧ (vp_in (((3 : Int32) * a0) + (1 : Int32)) 12 ∧ post (f 4 (((3 : Int32) * a0) + (1 : Int32)).toNatClampNeg) (upd v 7 ((v 7) + (1 : Int32))) (va_up f 4 (upd (f 4) (((3 : Int32) * a0) + (1 : Int32)).toNatClampNeg a1)) z))))) ((a1).toInt64) (0 : Int64) (5 : Int64))))) v f z a0)
def rmX7_want : Room := { frames := 2, cells := 0, slots := 0, locals := 46 }
set_option maxHeartbeats 4000000 in
set_option maxRecDepth 100000 in
theorem c_X7_want (l : Launch) (D : va_G) (cI : ClassId) (q : Nat → Nat) (sz : Nat) (post : Int32 → (Nat → Int32) → (Nat → Nat → Int32) → Int64 → Prop) (v : Nat → Int32) (f : Nat → Nat → Int32) (z : Int64) (a0 : Int32) (a1 : Int32) (h : wp_X7_want post v f z a0 a1) : Met l yX7_want wsX7_want rmX7_want (va_Pc [.ref (q 0), .int a0, .int a1] (mP D cI (wY cI q v f z) sz)) (mQi post D cI (wY cI q) (va_A (wY cI q v f z) sz)) 0 0 (va_A (wY cI q v f z) sz) := by
  refine Met.ofW (cc := cX7_want) (maxL := 4) (ret := (some .int)) (by decide) rfl ?_
  intro p e s m args below meth c s₁ B hml hv
  obtain ⟨rfl, hsz, ⟨hP, hK, hN⟩, hD0⟩ := hv
  have hx := B.exec
  have hb := B.bytes
  have hr := B.returns
  have hts := atoms_spec (ws := wsX7_want) B.pre
  have hown : s.vm.findClass RX7 = some m.cls := findClass_of_methodNamed B.named
  have hlocks : meth.locks = false := B.notSynchronized
  subst hsz
  have hD := hD0.self (sz := s.heap.size)
  generalize hAe : va_A (wY cI q v f z) s.heap.size = A at hD ⊢
  have hA : ∀ q : Nat, s.heap.size ≤ q → A q := fun q h => by rw [← hAe]; exact Or.inr h
  have hS : va_S A s.heap s.heap [] := va_S.rf
  have iX7 : ∀ w ∈ wsX70, w ∈ wsX7_want := fun _ h9 => List.mem_cons_of_mem _ (List.mem_append_right _ h9)
  have k108 := hts (.fieldLink RX7 108 "EndedByOthersModel" "wants" "I") (by decide +kernel)
  have k22 := hts (.fieldLink RX7 22 "EndedByOthersModel" "rows" "[I") (by decide +kernel)
  have hl := lv_entry ([.ref (q 0), .int a0, .int a1]) (n := 4) (Nat.le_of_ble_eq_true rfl)
  rw [lg_entry_eq]
  generalize (lg_sl ([.ref (q 0), .int a0, .int a1]) ++ List.replicate (4 - (lg_sl ([.ref (q 0), .int a0, .int a1])).length) Slot.unset).toArray = ls at hl ⊢
  have hl : lv_has ls 4 [(0, .ref (q 0)), (1, .int a0), (2, .int a1)] := hl
  unfold wp_X7_want at h
  refine lv_aload_n hx hb dX7_want_0 rfl (lv_at hl 0 rfl) ?_
  refine lv_iload_n hx hb dX7_want_1 rfl (lv_at hl 1 rfl) ?_
  refine rV_i ⟨hx, hb, hml, hown, hts⟩ (c_X7_isSpeaker l D cI q _ _ _ _ _ h) (cwV 1 hts gX7_want_X7_isSpeaker rfl rfl rfl (by decide +kernel) ⟨Nat.le_of_ble_eq_true rfl, Nat.le_of_ble_eq_true rfl⟩) hK hP hN (va_recv hK hP (ci := 7) (q0 := 0) rfl rfl) rfl hl.1 (rest := []) rfl (Nat.le_of_ble_eq_true rfl) dX7_want_2 (Nat.zero_le _) (Nat.zero_le _) (fun r1 h => ?_)
  refine lv_if_ne (tgt := 11) hx hb dX7_want_5 (by decide) (fun c9 => ?_) (fun c9 => ?_)
  · have h := h.2 c9
    refine lv_iload_n hx hb dX7_want_11 rfl (lv_at hl 2 rfl) ?_
    refine lv_i2l (v := (a1).toInt64) hx hb dX7_want_12 rfl ?_
    refine lv_lconst (v := (0 : Int64)) hx hb dX7_want_13 (by decide) ?_
    refine lv_ldc2 (v := (5 : Int64)) hx hb hown (hts (.constantLong RX7 74 (5)) (by decide +kernel)) dX7_want_14 ?_
    refine rS_i ⟨hx, hb, hml, hown, hts⟩ (c_X7_in l D cI _ _ _ _ h) (va_cwS 3 hts gX7_want_X7_in rfl rfl rfl (by decide +kernel) ⟨Nat.le_of_ble_eq_true rfl, Nat.le_of_ble_eq_true rfl⟩) hK wPnil hN rfl hl.1 (rest := []) rfl (Nat.le_of_ble_eq_true rfl) dX7_want_17 (Nat.zero_le _) (Nat.zero_le _) (fun r2 h => ?_)
    refine lv_if_ne (tgt := 26) hx hb dX7_want_20 (by decide) (fun c9 => ?_) (fun c9 => ?_)
    · have h := h.2 c9
      refine lv_aload_n hx hb dX7_want_26 rfl (lv_at hl 0 rfl) ?_
      refine yg_r0_5 hx hb hts iX7 hown hK hP k22 dX7_want_27 ?_
      refine lv_iconst (v := (3 : Int32)) hx hb dX7_want_30 (by decide) ?_
      refine lv_iload_n hx hb dX7_want_31 rfl (lv_at hl 1 rfl) ?_
      refine lv_imul hx hb dX7_want_32 ?_
      refine lv_iconst (v := (1 : Int32)) hx hb dX7_want_33 (by decide) ?_
      refine lv_iadd hx hb dX7_want_34 ?_
      obtain ⟨h9, h⟩ := h
      refine yal_4 (x := f 4 (((3 : Int32) * a0) + (1 : Int32)).toNatClampNeg) hx hb hK hP h9 rfl dX7_want_35 ?_
      refine lv_istore_n (lv' := [(3, .int (f 4 (((3 : Int32) * a0) + (1 : Int32)).toNatClampNeg)), (0, .ref (q 0)), (1, .int a0), (2, .int a1)]) hx hb dX7_want_36 rfl hl (by decide) rfl (fun ls hl => ?_)
      refine lv_aload_n hx hb dX7_want_37 rfl (lv_at hl 1 rfl) ?_
      refine yg_r0_5 hx hb hts iX7 hown hK hP k22 dX7_want_38 ?_
      refine lv_iconst (v := (3 : Int32)) hx hb dX7_want_41 (by decide) ?_
      refine lv_iload_n hx hb dX7_want_42 rfl (lv_at hl 2 rfl) ?_
      refine lv_imul hx hb dX7_want_43 ?_
      refine lv_iconst (v := (1 : Int32)) hx hb dX7_want_44 (by decide) ?_
      refine lv_iadd hx hb dX7_want_45 ?_
      refine lv_iload_n hx hb dX7_want_46 rfl (lv_at hl 3 rfl) ?_
      obtain ⟨h9, h⟩ := h
      refine yas_4 hx hb hK hP hD hS h9 dX7_want_47 (fun H locs hP hD hS => ?_)
      have hP : va_P D vwCl (wY cI q v (va_up f 4 (upd (f 4) (((3 : Int32) * a0) + (1 : Int32)).toNatClampNeg a1)) z) H := hP
      have hD : va_D A (wY cI q v (va_up f 4 (upd (f 4) (((3 : Int32) * a0) + (1 : Int32)).toNatClampNeg a1)) z) := hD
      refine lv_aload_n hx hb dX7_want_48 rfl (lv_at hl 1 rfl) ?_
      refine lv_dup hx hb dX7_want_49 rfl ?_
      refine yg_s7 (x := v 7) hx hb hts iX7 hown hK hP k108 rfl dX7_want_50 ?_
      refine lv_iconst (v := (1 : Int32)) hx hb dX7_want_53 (by decide) ?_
      refine lv_iadd hx hb dX7_want_54 ?_
      refine yp_s7 hx hb hts iX7 hown hK hP hD hS k108 dX7_want_55 (fun H locs hP hD hS => ?_)
      refine lv_iload_n hx hb dX7_want_58 rfl (lv_at hl 0 rfl) ?_
      exact mi_ret (upd v 7 ((v 7) + (1 : Int32)), va_up f 4 (upd (f 4) (((3 : Int32) * a0) + (1 : Int32)).toNatClampNeg a1), z) hx hb hr hlocks h hK hP hD hS dX7_want_59
    · have h := h.1 c9
      refine lv_bipush (v := (-102 : Int32)) hx hb dX7_want_23 (by decide) ?_
      exact mi_ret (v, f, z) hx hb hr hlocks h hK hP hD hS dX7_want_25
  · have h := h.1 c9
    refine lv_bipush (v := (-101 : Int32)) hx hb dX7_want_8 (by decide) ?_
    exact mi_ret (v, f, z) hx hb hr hlocks h hK hP hD hS dX7_want_10
def wp_X7_would (post : Int32 → Prop) (v : Nat → Int32) (f : Nat → Nat → Int32) (z : Int64) (a0 : Int32) (a1 : Int32) : Prop := (wp_X7_isSpeaker (fun r1 => ((r1 = 0 → post (-101 : Int32)) ∧ (¬ r1 = 0 → (wp_X7_isOpening (fun r2 => ((r2 = 0 → post (-101 : Int32)) ∧ (¬ r2 = 0 → (wp_X7_wouldOf (fun r3 => post r3) v f z a0 a1)))) v f z a1)))) v f z a0)
def rmX7_would : Room := { frames := 3, cells := 0, slots := 0, locals := 71 }
set_option maxHeartbeats 4000000 in
set_option maxRecDepth 100000 in
theorem c_X7_would (l : Launch) (D : va_G) (cI : ClassId) (q : Nat → Nat) (post : Int32 → Prop) (v : Nat → Int32) (f : Nat → Nat → Int32) (z : Int64) (a0 : Int32) (a1 : Int32) (h : wp_X7_would post v f z a0 a1) : Met l yX7_would wsX7_would rmX7_would (va_Pc [.ref (q 0), .int a0, .int a1] (rP D cI (wY cI q v f z))) (sQ post) 0 0 (fun _ => False) := by
  refine Met.ofW (cc := cX7_would) (maxL := 3) (ret := (some .int)) (by decide) rfl ?_
  intro p e s m args below meth c s₁ B hml hv
  obtain ⟨rfl, hP, hK, hN⟩ := hv
  have hx := B.exec
  have hb := B.bytes
  have hr := B.returns
  have hts := atoms_spec (ws := wsX7_would) B.pre
  have hown : s.vm.findClass RX7 = some m.cls := findClass_of_methodNamed B.named
  have hlocks : meth.locks = false := B.notSynchronized
  have hl := lv_entry ([.ref (q 0), .int a0, .int a1]) (n := 3) (Nat.le_of_ble_eq_true rfl)
  rw [lg_entry_eq]
  generalize (lg_sl ([.ref (q 0), .int a0, .int a1]) ++ List.replicate (3 - (lg_sl ([.ref (q 0), .int a0, .int a1])).length) Slot.unset).toArray = ls at hl ⊢
  have hl : lv_has ls 3 [(0, .ref (q 0)), (1, .int a0), (2, .int a1)] := hl
  unfold wp_X7_would at h
  refine lv_aload_n hx hb dX7_would_0 rfl (lv_at hl 0 rfl) ?_
  refine lv_iload_n hx hb dX7_would_1 rfl (lv_at hl 1 rfl) ?_
  refine rV_i ⟨hx, hb, hml, hown, hts⟩ (c_X7_isSpeaker l D cI q _ _ _ _ _ h) (cwV 1 hts gX7_would_X7_isSpeaker rfl rfl rfl (by decide +kernel) ⟨Nat.le_of_ble_eq_true rfl, Nat.le_of_ble_eq_true rfl⟩) hK hP hN (va_recv hK hP (ci := 7) (q0 := 0) rfl rfl) rfl hl.1 (rest := []) rfl (Nat.le_of_ble_eq_true rfl) dX7_would_2 (Nat.zero_le _) (Nat.zero_le _) (fun r1 h => ?_)
  refine lv_if_eq (tgt := 25) hx hb dX7_would_5 (by decide) (fun c9 => ?_) (fun c9 => ?_)
  · have h := h.1 c9
    refine lv_bipush (v := (-101 : Int32)) hx hb dX7_would_25 (by decide) ?_
    exact ri_ret hx hb hr hlocks h dX7_would_27
  · have h := h.2 c9
    refine lv_aload_n hx hb dX7_would_8 rfl (lv_at hl 0 rfl) ?_
    refine lv_iload_n hx hb dX7_would_9 rfl (lv_at hl 2 rfl) ?_
    refine rV_i ⟨hx, hb, hml, hown, hts⟩ (c_X7_isOpening l D cI q _ _ _ _ _ h) (cwV 1 hts gX7_would_X7_isOpening rfl rfl rfl (by decide +kernel) ⟨Nat.le_of_ble_eq_true rfl, Nat.le_of_ble_eq_true rfl⟩) hK hP hN (va_recv hK hP (ci := 7) (q0 := 0) rfl rfl) rfl hl.1 (rest := []) rfl (Nat.le_of_ble_eq_true rfl) dX7_would_10 (Nat.zero_le _) (Nat.zero_le _) (fun r2 h => ?_)
    refine lv_if_eq (tgt := 25) hx hb dX7_would_13 (by decide) (fun c9 => ?_) (fun c9 => ?_)
    · have h := h.1 c9
      refine lv_bipush (v := (-101 : Int32)) hx hb dX7_would_25 (by decide) ?_
      exact ri_ret hx hb hr hlocks h dX7_would_27
    · have h := h.2 c9
      refine lv_aload_n hx hb dX7_would_16 rfl (lv_at hl 0 rfl) ?_
      refine lv_iload_n hx hb dX7_would_17 rfl (lv_at hl 1 rfl) ?_
      refine lv_iload_n hx hb dX7_would_18 rfl (lv_at hl 2 rfl) ?_
      refine rV_i ⟨hx, hb, hml, hown, hts⟩ (c_X7_wouldOf l D cI q _ _ _ _ _ _ h) (cwV 2 hts gX7_would_X7_wouldOf rfl rfl rfl (by decide +kernel) ⟨Nat.le_of_ble_eq_true rfl, Nat.le_of_ble_eq_true rfl⟩) hK hP hN (va_recv hK hP (ci := 7) (q0 := 0) rfl rfl) rfl hl.1 (rest := []) rfl (Nat.le_of_ble_eq_true rfl) dX7_would_19 (Nat.zero_le _) (Nat.zero_le _) (fun r3 h => ?_)
      refine lv_goto (tgt := 27) hx hb dX7_would_22 (by decide) ?_
      exact ri_ret hx hb hr hlocks h dX7_would_27
def wp_X7_isSentence (post : Int32 → Prop) (v : Nat → Int32) (f : Nat → Nat → Int32) (z : Int64) (a0 : Int32) : Prop := (wp_X7_in (fun r1 => (nb r1 ∧ post r1)) ((a0).toInt64) (0 : Int64) (((v 9) - (1 : Int32)).toInt64))
def rmX7_isSentence : Room := { frames := 1, cells := 0, slots := 0, locals := 25 }
set_option maxHeartbeats 4000000 in
set_option maxRecDepth 100000 in
theorem c_X7_isSentence (l : Launch) (D : va_G) (cI : ClassId) (q : Nat → Nat) (post : Int32 → Prop) (v : Nat → Int32) (f : Nat → Nat → Int32) (z : Int64) (a0 : Int32) (h : wp_X7_isSentence post v f z a0) : Met l yX7_isSentence wsX7_isSentence rmX7_isSentence (va_Pc [.ref (q 0), .int a0] (rP D cI (wY cI q v f z))) (sQ post) 0 0 (fun _ => False) := by
  refine Met.ofW (cc := cX7_isSentence) (maxL := 2) (ret := (some .boolean)) (by decide) rfl ?_
  intro p e s m args below meth c s₁ B hml hv
  obtain ⟨rfl, hP, hK, hN⟩ := hv
  have hx := B.exec
  have hb := B.bytes
  have hr := B.returns
  have hts := atoms_spec (ws := wsX7_isSentence) B.pre
  have hown : s.vm.findClass RX7 = some m.cls := findClass_of_methodNamed B.named
  have hlocks : meth.locks = false := B.notSynchronized
  have iX7 : ∀ w ∈ wsX70, w ∈ wsX7_isSentence := fun _ h9 => List.mem_cons_of_mem _ (List.mem_append_right _ h9)
  have k111 := hts (.fieldLink RX7 111 "EndedByOthersModel" "sentences" "I") (by decide +kernel)
  have hl := lv_entry ([.ref (q 0), .int a0]) (n := 2) (Nat.le_of_ble_eq_true rfl)
  rw [lg_entry_eq]
  generalize (lg_sl ([.ref (q 0), .int a0]) ++ List.replicate (2 - (lg_sl ([.ref (q 0), .int a0])).length) Slot.unset).toArray = ls at hl ⊢
  have hl : lv_has ls 2 [(0, .ref (q 0)), (1, .int a0)] := hl
  unfold wp_X7_isSentence at h
  refine lv_iload_n hx hb dX7_isSentence_0 rfl (lv_at hl 1 rfl) ?_
  refine lv_i2l (v := (a0).toInt64) hx hb dX7_isSentence_1 rfl ?_
  refine lv_lconst (v := (0 : Int64)) hx hb dX7_isSentence_2 (by decide) ?_
  refine lv_aload_n hx hb dX7_isSentence_3 rfl (lv_at hl 0 rfl) ?_
  refine yg_s9 (x := v 9) hx hb hts iX7 hown hK hP k111 rfl dX7_isSentence_4 ?_
  refine lv_iconst (v := (1 : Int32)) hx hb dX7_isSentence_7 (by decide) ?_
  refine lv_isub hx hb dX7_isSentence_8 ?_
  refine lv_i2l (v := ((v 9) - (1 : Int32)).toInt64) hx hb dX7_isSentence_9 rfl ?_
  refine rS_i ⟨hx, hb, hml, hown, hts⟩ (c_X7_in l D cI _ _ _ _ h) (va_cwS 3 hts gX7_isSentence_X7_in rfl rfl rfl (by decide +kernel) ⟨Nat.le_of_ble_eq_true rfl, Nat.le_of_ble_eq_true rfl⟩) hK wPnil hN rfl hl.1 (rest := []) rfl (Nat.le_of_ble_eq_true rfl) dX7_isSentence_10 (Nat.zero_le _) (Nat.zero_le _) (fun r1 h => ?_)
  obtain ⟨h9, h⟩ := h
  exact rz_ret hx hb hr hlocks h9 h dX7_isSentence_13
def wp_X7_begin (post : Int32 → (Nat → Int32) → (Nat → Nat → Int32) → Int64 → Prop) (v : Nat → Int32) (f : Nat → Nat → Int32) (z : Int64) (a0 : Int32) (a1 : Int32) : Prop := (wp_X7_isSpeaker (fun r1 => ((r1 = 0 → post (-101 : Int32) v f z) ∧ (¬ r1 = 0 → (wp_X7_isOpening (fun r2 => ((r2 = 0 → post (-101 : Int32) v f z) ∧ (¬ r2 = 0 → (wp_X7_openOf (fun r3 => ((r3 = (-1 : Int32) → (((v 9) = (8 : Int32) → post (-104 : Int32) v f z) ∧ (¬ (v 9) = (8 : Int32) → (vp_in ((4 : Int32) * (v 9)) 32 ∧ (vp_in (((4 : Int32) * (v 9)) + (1 : Int32)) 32 ∧ (vp_in (((4 : Int32) * (v 9)) + (2 : Int32)) 32 ∧ (vp_in (((4 : Int32) * (v 9)) + (3 : Int32)) 32 ∧ post (((v 9) + (1 : Int32)) - (1 : Int32)) (upd v 9 ((v 9) + (1 : Int32))) (va_up (va_up (va_up (va_up f 5 (upd (f 5) ((4 : Int32) * (v 9)).toNatClampNeg a0)) 5 (upd (upd (f 5) ((4 : Int32) * (v 9)).toNatClampNeg a0) (((4 : Int32) * (v 9)) + (1 : Int32)).toNatClampNeg a1)) 5 (upd (upd (upd (f 5) ((4 : Int32) * (v 9)).toNatClampNeg a0) (((4 : Int32) * (v 9)) + (1 : Int32)).toNatClampNeg a1) (((4 : Int32) * (v 9)) + (2 : Int32)).toNatClampNeg (-1 : Int32))) 5 (upd (upd (upd (upd (f 5) ((4 : Int32) * (v 9)).toNatClampNeg a0) (((4 : Int32) * (v 9)) + (1 : Int32)).toNatClampNeg a1) (((4 : Int32) * (v 9)) + (2 : Int32)).toNatClampNeg (-1 : Int32)) (((4 : Int32) * (v 9)) + (3 : Int32)).toNatClampNeg (-1 : Int32))) z))))))) ∧ (¬ r3 = (-1 : Int32) → post (-103 : Int32) v f z))) v f z a0)))) v f z a1)))) v f z a0)
def rmX7_begin : Room := { frames := 2, cells := 0, slots := 0, locals := 46 }
set_option maxHeartbeats 4000000 in
set_option maxRecDepth 100000 in
theorem c_X7_begin (l : Launch) (D : va_G) (cI : ClassId) (q : Nat → Nat) (sz : Nat) (post : Int32 → (Nat → Int32) → (Nat → Nat → Int32) → Int64 → Prop) (v : Nat → Int32) (f : Nat → Nat → Int32) (z : Int64) (a0 : Int32) (a1 : Int32) (h : wp_X7_begin post v f z a0 a1) : Met l yX7_begin wsX7_begin rmX7_begin (va_Pc [.ref (q 0), .int a0, .int a1] (mP D cI (wY cI q v f z) sz)) (mQi post D cI (wY cI q) (va_A (wY cI q v f z) sz)) 0 0 (va_A (wY cI q v f z) sz) := by
  refine Met.ofW (cc := cX7_begin) (maxL := 3) (ret := (some .int)) (by decide) rfl ?_
  intro p e s m args below meth c s₁ B hml hv
  obtain ⟨rfl, hsz, ⟨hP, hK, hN⟩, hD0⟩ := hv
  have hx := B.exec
  have hb := B.bytes
  have hr := B.returns
  have hts := atoms_spec (ws := wsX7_begin) B.pre
  have hown : s.vm.findClass RX7 = some m.cls := findClass_of_methodNamed B.named
  have hlocks : meth.locks = false := B.notSynchronized
  subst hsz
  have hD := hD0.self (sz := s.heap.size)
  generalize hAe : va_A (wY cI q v f z) s.heap.size = A at hD ⊢
  have hA : ∀ q : Nat, s.heap.size ≤ q → A q := fun q h => by rw [← hAe]; exact Or.inr h
  have hS : va_S A s.heap s.heap [] := va_S.rf
  have iX7 : ∀ w ∈ wsX70, w ∈ wsX7_begin := fun _ h9 => List.mem_cons_of_mem _ (List.mem_append_right _ h9)
  have k111 := hts (.fieldLink RX7 111 "EndedByOthersModel" "sentences" "I") (by decide +kernel)
  have k25 := hts (.fieldLink RX7 25 "EndedByOthersModel" "said" "[I") (by decide +kernel)
  have hl := lv_entry ([.ref (q 0), .int a0, .int a1]) (n := 3) (Nat.le_of_ble_eq_true rfl)
  rw [lg_entry_eq]
  generalize (lg_sl ([.ref (q 0), .int a0, .int a1]) ++ List.replicate (3 - (lg_sl ([.ref (q 0), .int a0, .int a1])).length) Slot.unset).toArray = ls at hl ⊢
  have hl : lv_has ls 3 [(0, .ref (q 0)), (1, .int a0), (2, .int a1)] := hl
  unfold wp_X7_begin at h
  refine lv_aload_n hx hb dX7_begin_0 rfl (lv_at hl 0 rfl) ?_
  refine lv_iload_n hx hb dX7_begin_1 rfl (lv_at hl 1 rfl) ?_
  refine rV_i ⟨hx, hb, hml, hown, hts⟩ (c_X7_isSpeaker l D cI q _ _ _ _ _ h) (cwV 1 hts gX7_begin_X7_isSpeaker rfl rfl rfl (by decide +kernel) ⟨Nat.le_of_ble_eq_true rfl, Nat.le_of_ble_eq_true rfl⟩) hK hP hN (va_recv hK hP (ci := 7) (q0 := 0) rfl rfl) rfl hl.1 (rest := []) rfl (Nat.le_of_ble_eq_true rfl) dX7_begin_2 (Nat.zero_le _) (Nat.zero_le _) (fun r1 h => ?_)
  refine lv_if_eq (tgt := 16) hx hb dX7_begin_5 (by decide) (fun c9 => ?_) (fun c9 => ?_)
  · have h := h.1 c9
    refine lv_bipush (v := (-101 : Int32)) hx hb dX7_begin_16 (by decide) ?_
    exact mi_ret (v, f, z) hx hb hr hlocks h hK hP hD hS dX7_begin_18
  · have h := h.2 c9
    refine lv_aload_n hx hb dX7_begin_8 rfl (lv_at hl 0 rfl) ?_
    refine lv_iload_n hx hb dX7_begin_9 rfl (lv_at hl 2 rfl) ?_
    refine rV_i ⟨hx, hb, hml, hown, hts⟩ (c_X7_isOpening l D cI q _ _ _ _ _ h) (cwV 1 hts gX7_begin_X7_isOpening rfl rfl rfl (by decide +kernel) ⟨Nat.le_of_ble_eq_true rfl, Nat.le_of_ble_eq_true rfl⟩) hK hP hN (va_recv hK hP (ci := 7) (q0 := 0) rfl rfl) rfl hl.1 (rest := []) rfl (Nat.le_of_ble_eq_true rfl) dX7_begin_10 (Nat.zero_le _) (Nat.zero_le _) (fun r2 h => ?_)
    refine lv_if_ne (tgt := 19) hx hb dX7_begin_13 (by decide) (fun c9 => ?_) (fun c9 => ?_)
    · have h := h.2 c9
      refine lv_aload_n hx hb dX7_begin_19 rfl (lv_at hl 0 rfl) ?_
      refine lv_iload_n hx hb dX7_begin_20 rfl (lv_at hl 1 rfl) ?_
      refine rV_i ⟨hx, hb, hml, hown, hts⟩ (c_X7_openOf l D cI q _ _ _ _ _ h) (cwV 1 hts gX7_begin_X7_openOf rfl rfl rfl (by decide +kernel) ⟨Nat.le_of_ble_eq_true rfl, Nat.le_of_ble_eq_true rfl⟩) hK hP hN (va_recv hK hP (ci := 7) (q0 := 0) rfl rfl) rfl hl.1 (rest := []) rfl (Nat.le_of_ble_eq_true rfl) dX7_begin_21 (Nat.zero_le _) (Nat.zero_le _) (fun r3 h => ?_)
      refine lv_iconst (v := (-1 : Int32)) hx hb dX7_begin_24 (by decide) ?_
      refine lv_icmp_eq (tgt := 31) hx hb dX7_begin_25 (by decide) (fun c9 => ?_) (fun c9 => ?_)
      · have h := h.1 c9
        refine lv_aload_n hx hb dX7_begin_31 rfl (lv_at hl 0 rfl) ?_
        refine yg_s9 (x := v 9) hx hb hts iX7 hown hK hP k111 rfl dX7_begin_32 ?_
        refine lv_bipush (v := (8 : Int32)) hx hb dX7_begin_35 (by decide) ?_
        refine lv_icmp_ne (tgt := 43) hx hb dX7_begin_37 (by decide) (fun c9 => ?_) (fun c9 => ?_)
        · have h := h.2 c9
          refine lv_aload_n hx hb dX7_begin_43 rfl (lv_at hl 0 rfl) ?_
          refine yg_r0_6 hx hb hts iX7 hown hK hP k25 dX7_begin_44 ?_
          refine lv_iconst (v := (4 : Int32)) hx hb dX7_begin_47 (by decide) ?_
          refine lv_aload_n hx hb dX7_begin_48 rfl (lv_at hl 0 rfl) ?_
          refine yg_s9 (x := v 9) hx hb hts iX7 hown hK hP k111 rfl dX7_begin_49 ?_
          refine lv_imul hx hb dX7_begin_52 ?_
          refine lv_iload_n hx hb dX7_begin_53 rfl (lv_at hl 1 rfl) ?_
          obtain ⟨h9, h⟩ := h
          refine yas_5 hx hb hK hP hD hS h9 dX7_begin_54 (fun H locs hP hD hS => ?_)
          have hP : va_P D vwCl (wY cI q v (va_up f 5 (upd (f 5) ((4 : Int32) * (v 9)).toNatClampNeg a0)) z) H := hP
          have hD : va_D A (wY cI q v (va_up f 5 (upd (f 5) ((4 : Int32) * (v 9)).toNatClampNeg a0)) z) := hD
          refine lv_aload_n hx hb dX7_begin_55 rfl (lv_at hl 0 rfl) ?_
          refine yg_r0_6 hx hb hts iX7 hown hK hP k25 dX7_begin_56 ?_
          refine lv_iconst (v := (4 : Int32)) hx hb dX7_begin_59 (by decide) ?_
          refine lv_aload_n hx hb dX7_begin_60 rfl (lv_at hl 0 rfl) ?_
          refine yg_s9 (x := v 9) hx hb hts iX7 hown hK hP k111 rfl dX7_begin_61 ?_
          refine lv_imul hx hb dX7_begin_64 ?_
          refine lv_iconst (v := (1 : Int32)) hx hb dX7_begin_65 (by decide) ?_
          refine lv_iadd hx hb dX7_begin_66 ?_
          refine lv_iload_n hx hb dX7_begin_67 rfl (lv_at hl 2 rfl) ?_
          obtain ⟨h9, h⟩ := h
          refine yas_5 hx hb hK hP hD hS h9 dX7_begin_68 (fun H locs hP hD hS => ?_)
          have hP : va_P D vwCl (wY cI q v (va_up (va_up f 5 (upd (f 5) ((4 : Int32) * (v 9)).toNatClampNeg a0)) 5 (upd (upd (f 5) ((4 : Int32) * (v 9)).toNatClampNeg a0) (((4 : Int32) * (v 9)) + (1 : Int32)).toNatClampNeg a1)) z) H := hP
          have hD : va_D A (wY cI q v (va_up (va_up f 5 (upd (f 5) ((4 : Int32) * (v 9)).toNatClampNeg a0)) 5 (upd (upd (f 5) ((4 : Int32) * (v 9)).toNatClampNeg a0) (((4 : Int32) * (v 9)) + (1 : Int32)).toNatClampNeg a1)) z) := hD
          refine lv_aload_n hx hb dX7_begin_69 rfl (lv_at hl 0 rfl) ?_
          refine yg_r0_6 hx hb hts iX7 hown hK hP k25 dX7_begin_70 ?_
          refine lv_iconst (v := (4 : Int32)) hx hb dX7_begin_73 (by decide) ?_
          refine lv_aload_n hx hb dX7_begin_74 rfl (lv_at hl 0 rfl) ?_
          refine yg_s9 (x := v 9) hx hb hts iX7 hown hK hP k111 rfl dX7_begin_75 ?_
          refine lv_imul hx hb dX7_begin_78 ?_
          refine lv_iconst (v := (2 : Int32)) hx hb dX7_begin_79 (by decide) ?_
          refine lv_iadd hx hb dX7_begin_80 ?_
          refine lv_iconst (v := (-1 : Int32)) hx hb dX7_begin_81 (by decide) ?_
          obtain ⟨h9, h⟩ := h
          refine yas_5 hx hb hK hP hD hS h9 dX7_begin_82 (fun H locs hP hD hS => ?_)
          have hP : va_P D vwCl (wY cI q v (va_up (va_up (va_up f 5 (upd (f 5) ((4 : Int32) * (v 9)).toNatClampNeg a0)) 5 (upd (upd (f 5) ((4 : Int32) * (v 9)).toNatClampNeg a0) (((4 : Int32) * (v 9)) + (1 : Int32)).toNatClampNeg a1)) 5 (upd (upd (upd (f 5) ((4 : Int32) * (v 9)).toNatClampNeg a0) (((4 : Int32) * (v 9)) + (1 : Int32)).toNatClampNeg a1) (((4 : Int32) * (v 9)) + (2 : Int32)).toNatClampNeg (-1 : Int32))) z) H := hP
          have hD : va_D A (wY cI q v (va_up (va_up (va_up f 5 (upd (f 5) ((4 : Int32) * (v 9)).toNatClampNeg a0)) 5 (upd (upd (f 5) ((4 : Int32) * (v 9)).toNatClampNeg a0) (((4 : Int32) * (v 9)) + (1 : Int32)).toNatClampNeg a1)) 5 (upd (upd (upd (f 5) ((4 : Int32) * (v 9)).toNatClampNeg a0) (((4 : Int32) * (v 9)) + (1 : Int32)).toNatClampNeg a1) (((4 : Int32) * (v 9)) + (2 : Int32)).toNatClampNeg (-1 : Int32))) z) := hD
          refine lv_aload_n hx hb dX7_begin_83 rfl (lv_at hl 0 rfl) ?_
          refine yg_r0_6 hx hb hts iX7 hown hK hP k25 dX7_begin_84 ?_
          refine lv_iconst (v := (4 : Int32)) hx hb dX7_begin_87 (by decide) ?_
          refine lv_aload_n hx hb dX7_begin_88 rfl (lv_at hl 0 rfl) ?_
          refine yg_s9 (x := v 9) hx hb hts iX7 hown hK hP k111 rfl dX7_begin_89 ?_
          refine lv_imul hx hb dX7_begin_92 ?_
          refine lv_iconst (v := (3 : Int32)) hx hb dX7_begin_93 (by decide) ?_
          refine lv_iadd hx hb dX7_begin_94 ?_
          refine lv_iconst (v := (-1 : Int32)) hx hb dX7_begin_95 (by decide) ?_
          obtain ⟨h9, h⟩ := h
          refine yas_5 hx hb hK hP hD hS h9 dX7_begin_96 (fun H locs hP hD hS => ?_)
          have hP : va_P D vwCl (wY cI q v (va_up (va_up (va_up (va_up f 5 (upd (f 5) ((4 : Int32) * (v 9)).toNatClampNeg a0)) 5 (upd (upd (f 5) ((4 : Int32) * (v 9)).toNatClampNeg a0) (((4 : Int32) * (v 9)) + (1 : Int32)).toNatClampNeg a1)) 5 (upd (upd (upd (f 5) ((4 : Int32) * (v 9)).toNatClampNeg a0) (((4 : Int32) * (v 9)) + (1 : Int32)).toNatClampNeg a1) (((4 : Int32) * (v 9)) + (2 : Int32)).toNatClampNeg (-1 : Int32))) 5 (upd (upd (upd (upd (f 5) ((4 : Int32) * (v 9)).toNatClampNeg a0) (((4 : Int32) * (v 9)) + (1 : Int32)).toNatClampNeg a1) (((4 : Int32) * (v 9)) + (2 : Int32)).toNatClampNeg (-1 : Int32)) (((4 : Int32) * (v 9)) + (3 : Int32)).toNatClampNeg (-1 : Int32))) z) H := hP
          have hD : va_D A (wY cI q v (va_up (va_up (va_up (va_up f 5 (upd (f 5) ((4 : Int32) * (v 9)).toNatClampNeg a0)) 5 (upd (upd (f 5) ((4 : Int32) * (v 9)).toNatClampNeg a0) (((4 : Int32) * (v 9)) + (1 : Int32)).toNatClampNeg a1)) 5 (upd (upd (upd (f 5) ((4 : Int32) * (v 9)).toNatClampNeg a0) (((4 : Int32) * (v 9)) + (1 : Int32)).toNatClampNeg a1) (((4 : Int32) * (v 9)) + (2 : Int32)).toNatClampNeg (-1 : Int32))) 5 (upd (upd (upd (upd (f 5) ((4 : Int32) * (v 9)).toNatClampNeg a0) (((4 : Int32) * (v 9)) + (1 : Int32)).toNatClampNeg a1) (((4 : Int32) * (v 9)) + (2 : Int32)).toNatClampNeg (-1 : Int32)) (((4 : Int32) * (v 9)) + (3 : Int32)).toNatClampNeg (-1 : Int32))) z) := hD
          refine lv_aload_n hx hb dX7_begin_97 rfl (lv_at hl 0 rfl) ?_
          refine lv_dup hx hb dX7_begin_98 rfl ?_
          refine yg_s9 (x := v 9) hx hb hts iX7 hown hK hP k111 rfl dX7_begin_99 ?_
          refine lv_iconst (v := (1 : Int32)) hx hb dX7_begin_102 (by decide) ?_
          refine lv_iadd hx hb dX7_begin_103 ?_
          refine yp_s9 hx hb hts iX7 hown hK hP hD hS k111 dX7_begin_104 (fun H locs hP hD hS => ?_)
          refine lv_aload_n hx hb dX7_begin_107 rfl (lv_at hl 0 rfl) ?_
          refine yg_s9 (x := (v 9) + (1 : Int32)) hx hb hts iX7 hown hK hP k111 rfl dX7_begin_108 ?_
          refine lv_iconst (v := (1 : Int32)) hx hb dX7_begin_111 (by decide) ?_
          refine lv_isub hx hb dX7_begin_112 ?_
          exact mi_ret (upd v 9 ((v 9) + (1 : Int32)), va_up (va_up (va_up (va_up f 5 (upd (f 5) ((4 : Int32) * (v 9)).toNatClampNeg a0)) 5 (upd (upd (f 5) ((4 : Int32) * (v 9)).toNatClampNeg a0) (((4 : Int32) * (v 9)) + (1 : Int32)).toNatClampNeg a1)) 5 (upd (upd (upd (f 5) ((4 : Int32) * (v 9)).toNatClampNeg a0) (((4 : Int32) * (v 9)) + (1 : Int32)).toNatClampNeg a1) (((4 : Int32) * (v 9)) + (2 : Int32)).toNatClampNeg (-1 : Int32))) 5 (upd (upd (upd (upd (f 5) ((4 : Int32) * (v 9)).toNatClampNeg a0) (((4 : Int32) * (v 9)) + (1 : Int32)).toNatClampNeg a1) (((4 : Int32) * (v 9)) + (2 : Int32)).toNatClampNeg (-1 : Int32)) (((4 : Int32) * (v 9)) + (3 : Int32)).toNatClampNeg (-1 : Int32)), z) hx hb hr hlocks h hK hP hD hS dX7_begin_113
        · have h := h.1 c9
          refine lv_bipush (v := (-104 : Int32)) hx hb dX7_begin_40 (by decide) ?_
          exact mi_ret (v, f, z) hx hb hr hlocks h hK hP hD hS dX7_begin_42
      · have h := h.2 c9
        refine lv_bipush (v := (-103 : Int32)) hx hb dX7_begin_28 (by decide) ?_
        exact mi_ret (v, f, z) hx hb hr hlocks h hK hP hD hS dX7_begin_30
    · have h := h.1 c9
      refine lv_bipush (v := (-101 : Int32)) hx hb dX7_begin_16 (by decide) ?_
      exact mi_ret (v, f, z) hx hb hr hlocks h hK hP hD hS dX7_begin_18
def wp_X7_end (post : Int32 → (Nat → Int32) → (Nat → Nat → Int32) → Int64 → Prop) (v : Nat → Int32) (f : Nat → Nat → Int32) (z : Int64) (a0 : Int32) (a1 : Int32) : Prop := (wp_X7_isSentence (fun r1 => ((r1 = 0 → post (-101 : Int32) v f z) ∧ (¬ r1 = 0 → (wp_X7_isSpeaker (fun r2 => ((r2 = 0 → post (-101 : Int32) v f z) ∧ (¬ r2 = 0 → (vp_in (((4 : Int32) * a0) + (2 : Int32)) 32 ∧ (((f 5 (((4 : Int32) * a0) + (2 : Int32)).toNatClampNeg) = (-1 : Int32) → (vp_in ((4 : Int32) * a0) 32 ∧ (((f 5 ((4 : Int32) * a0).toNatClampNeg) = a1 → post (-103 : Int32) v f z) ∧ (¬ (f 5 ((4 : Int32) * a0).toNatClampNeg) = a1 → (vp_in (((4 : Int32) * a0) + (1 : Int32)) 32 ∧ (wp_X7_wouldOf (fun r3 => ((r3 = (-1 : Int32) → post r3 v f z) ∧ (¬ r3 = (-1 : Int32) → (vp_in (((4 : Int32) * a0) + (2 : Int32)) 32 ∧ (vp_in (((4 : Int32) * a0) + (3 : Int32)) 32 ∧ (vp_in (((3 : Int32) * a1) + (2 : Int32)) 12 ∧ (vp_in (((3 : Int32) * a1) + (2 : Int32)) 12 ∧ post r3 v (va_up (va_up (va_up f 5 (upd (f 5) (((4 : Int32) * a0) + (2 : Int32)).toNatClampNeg a1)) 5 (upd (upd (f 5) (((4 : Int32) * a0) + (2 : Int32)).toNatClampNeg a1) (((4 : Int32) * a0) + (3 : Int32)).toNatClampNeg r3)) 4 (upd (f 4) (((3 : Int32) * a1) + (2 : Int32)).toNatClampNeg ((f 4 (((3 : Int32) * a1) + (2 : Int32)).toNatClampNeg) ||| ((1 : Int32) <<< (r3 &&& 31))))) z))))))) v f z a1 (f 5 (((4 : Int32) * a0) + (1 : Int32)).toNatClampNeg))))))) ∧ (¬ (f 5 (((4 : Int32) * a0) + (2 : Int32)).toNatClampNeg) = (-1 : Int32) → post (-103 : Int32) v f z)))))) v f z a1)))) v f z a0)
def rmX7_end : Room := { frames := 3, cells := 0, slots := 0, locals := 71 }
set_option maxHeartbeats 4000000 in
set_option maxRecDepth 100000 in
theorem c_X7_end (l : Launch) (D : va_G) (cI : ClassId) (q : Nat → Nat) (sz : Nat) (post : Int32 → (Nat → Int32) → (Nat → Nat → Int32) → Int64 → Prop) (v : Nat → Int32) (f : Nat → Nat → Int32) (z : Int64) (a0 : Int32) (a1 : Int32) (h : wp_X7_end post v f z a0 a1) : Met l yX7_end wsX7_end rmX7_end (va_Pc [.ref (q 0), .int a0, .int a1] (mP D cI (wY cI q v f z) sz)) (mQi post D cI (wY cI q) (va_A (wY cI q v f z) sz)) 0 0 (va_A (wY cI q v f z) sz) := by
  refine Met.ofW (cc := cX7_end) (maxL := 4) (ret := (some .int)) (by decide) rfl ?_
  intro p e s m args below meth c s₁ B hml hv
  obtain ⟨rfl, hsz, ⟨hP, hK, hN⟩, hD0⟩ := hv
  have hx := B.exec
  have hb := B.bytes
  have hr := B.returns
  have hts := atoms_spec (ws := wsX7_end) B.pre
  have hown : s.vm.findClass RX7 = some m.cls := findClass_of_methodNamed B.named
  have hlocks : meth.locks = false := B.notSynchronized
  subst hsz
  have hD := hD0.self (sz := s.heap.size)
  generalize hAe : va_A (wY cI q v f z) s.heap.size = A at hD ⊢
  have hA : ∀ q : Nat, s.heap.size ≤ q → A q := fun q h => by rw [← hAe]; exact Or.inr h
  have hS : va_S A s.heap s.heap [] := va_S.rf
  have iX7 : ∀ w ∈ wsX70, w ∈ wsX7_end := fun _ h9 => List.mem_cons_of_mem _ (List.mem_append_right _ h9)
  have k22 := hts (.fieldLink RX7 22 "EndedByOthersModel" "rows" "[I") (by decide +kernel)
  have k25 := hts (.fieldLink RX7 25 "EndedByOthersModel" "said" "[I") (by decide +kernel)
  have hl := lv_entry ([.ref (q 0), .int a0, .int a1]) (n := 4) (Nat.le_of_ble_eq_true rfl)
  rw [lg_entry_eq]
  generalize (lg_sl ([.ref (q 0), .int a0, .int a1]) ++ List.replicate (4 - (lg_sl ([.ref (q 0), .int a0, .int a1])).length) Slot.unset).toArray = ls at hl ⊢
  have hl : lv_has ls 4 [(0, .ref (q 0)), (1, .int a0), (2, .int a1)] := hl
  unfold wp_X7_end at h
  refine lv_aload_n hx hb dX7_end_0 rfl (lv_at hl 0 rfl) ?_
  refine lv_iload_n hx hb dX7_end_1 rfl (lv_at hl 1 rfl) ?_
  refine rV_i ⟨hx, hb, hml, hown, hts⟩ (c_X7_isSentence l D cI q _ _ _ _ _ h) (cwV 1 hts gX7_end_X7_isSentence rfl rfl rfl (by decide +kernel) ⟨Nat.le_of_ble_eq_true rfl, Nat.le_of_ble_eq_true rfl⟩) hK hP hN (va_recv hK hP (ci := 7) (q0 := 0) rfl rfl) rfl hl.1 (rest := []) rfl (Nat.le_of_ble_eq_true rfl) dX7_end_2 (Nat.zero_le _) (Nat.zero_le _) (fun r1 h => ?_)
  refine lv_if_eq (tgt := 16) hx hb dX7_end_5 (by decide) (fun c9 => ?_) (fun c9 => ?_)
  · have h := h.1 c9
    refine lv_bipush (v := (-101 : Int32)) hx hb dX7_end_16 (by decide) ?_
    exact mi_ret (v, f, z) hx hb hr hlocks h hK hP hD hS dX7_end_18
  · have h := h.2 c9
    refine lv_aload_n hx hb dX7_end_8 rfl (lv_at hl 0 rfl) ?_
    refine lv_iload_n hx hb dX7_end_9 rfl (lv_at hl 2 rfl) ?_
    refine rV_i ⟨hx, hb, hml, hown, hts⟩ (c_X7_isSpeaker l D cI q _ _ _ _ _ h) (cwV 1 hts gX7_end_X7_isSpeaker rfl rfl rfl (by decide +kernel) ⟨Nat.le_of_ble_eq_true rfl, Nat.le_of_ble_eq_true rfl⟩) hK hP hN (va_recv hK hP (ci := 7) (q0 := 0) rfl rfl) rfl hl.1 (rest := []) rfl (Nat.le_of_ble_eq_true rfl) dX7_end_10 (Nat.zero_le _) (Nat.zero_le _) (fun r2 h => ?_)
    refine lv_if_ne (tgt := 19) hx hb dX7_end_13 (by decide) (fun c9 => ?_) (fun c9 => ?_)
    · have h := h.2 c9
      refine lv_aload_n hx hb dX7_end_19 rfl (lv_at hl 0 rfl) ?_
      refine yg_r0_6 hx hb hts iX7 hown hK hP k25 dX7_end_20 ?_
      refine lv_iconst (v := (4 : Int32)) hx hb dX7_end_23 (by decide) ?_
      refine lv_iload_n hx hb dX7_end_24 rfl (lv_at hl 1 rfl) ?_
      refine lv_imul hx hb dX7_end_25 ?_
      refine lv_iconst (v := (2 : Int32)) hx hb dX7_end_26 (by decide) ?_
      refine lv_iadd hx hb dX7_end_27 ?_
      obtain ⟨h9, h⟩ := h
      refine yal_5 (x := f 5 (((4 : Int32) * a0) + (2 : Int32)).toNatClampNeg) hx hb hK hP h9 rfl dX7_end_28 ?_
      refine lv_iconst (v := (-1 : Int32)) hx hb dX7_end_29 (by decide) ?_
      refine lv_icmp_ne (tgt := 45) hx hb dX7_end_30 (by decide) (fun c9 => ?_) (fun c9 => ?_)
      · have h := h.2 c9
        refine lv_bipush (v := (-103 : Int32)) hx hb dX7_end_45 (by decide) ?_
        exact mi_ret (v, f, z) hx hb hr hlocks h hK hP hD hS dX7_end_47
      · have h := h.1 c9
        refine lv_aload_n hx hb dX7_end_33 rfl (lv_at hl 0 rfl) ?_
        refine yg_r0_6 hx hb hts iX7 hown hK hP k25 dX7_end_34 ?_
        refine lv_iconst (v := (4 : Int32)) hx hb dX7_end_37 (by decide) ?_
        refine lv_iload_n hx hb dX7_end_38 rfl (lv_at hl 1 rfl) ?_
        refine lv_imul hx hb dX7_end_39 ?_
        obtain ⟨h9, h⟩ := h
        refine yal_5 (x := f 5 ((4 : Int32) * a0).toNatClampNeg) hx hb hK hP h9 rfl dX7_end_40 ?_
        refine lv_iload_n hx hb dX7_end_41 rfl (lv_at hl 2 rfl) ?_
        refine lv_icmp_ne (tgt := 48) hx hb dX7_end_42 (by decide) (fun c9 => ?_) (fun c9 => ?_)
        · have h := h.2 c9
          refine lv_aload_n hx hb dX7_end_48 rfl (lv_at hl 0 rfl) ?_
          refine lv_iload_n hx hb dX7_end_49 rfl (lv_at hl 2 rfl) ?_
          refine lv_aload_n hx hb dX7_end_50 rfl (lv_at hl 0 rfl) ?_
          refine yg_r0_6 hx hb hts iX7 hown hK hP k25 dX7_end_51 ?_
          refine lv_iconst (v := (4 : Int32)) hx hb dX7_end_54 (by decide) ?_
          refine lv_iload_n hx hb dX7_end_55 rfl (lv_at hl 1 rfl) ?_
          refine lv_imul hx hb dX7_end_56 ?_
          refine lv_iconst (v := (1 : Int32)) hx hb dX7_end_57 (by decide) ?_
          refine lv_iadd hx hb dX7_end_58 ?_
          obtain ⟨h9, h⟩ := h
          refine yal_5 (x := f 5 (((4 : Int32) * a0) + (1 : Int32)).toNatClampNeg) hx hb hK hP h9 rfl dX7_end_59 ?_
          refine rV_i ⟨hx, hb, hml, hown, hts⟩ (c_X7_wouldOf l D cI q _ _ _ _ _ _ h) (cwV 2 hts gX7_end_X7_wouldOf rfl rfl rfl (by decide +kernel) ⟨Nat.le_of_ble_eq_true rfl, Nat.le_of_ble_eq_true rfl⟩) hK hP hN (va_recv hK hP (ci := 7) (q0 := 0) rfl rfl) rfl hl.1 (rest := []) rfl (Nat.le_of_ble_eq_true rfl) dX7_end_60 (Nat.zero_le _) (Nat.zero_le _) (fun r3 h => ?_)
          refine lv_istore_n (lv' := [(3, .int r3), (0, .ref (q 0)), (1, .int a0), (2, .int a1)]) hx hb dX7_end_63 rfl hl (by decide) rfl (fun ls hl => ?_)
          refine lv_iload_n hx hb dX7_end_64 rfl (lv_at hl 0 rfl) ?_
          refine lv_iconst (v := (-1 : Int32)) hx hb dX7_end_65 (by decide) ?_
          refine lv_icmp_eq (tgt := 107) hx hb dX7_end_66 (by decide) (fun c9 => ?_) (fun c9 => ?_)
          · have h := h.1 c9
            refine lv_iload_n hx hb dX7_end_107 rfl (lv_at hl 0 rfl) ?_
            exact mi_ret (v, f, z) hx hb hr hlocks h hK hP hD hS dX7_end_108
          · have h := h.2 c9
            refine lv_aload_n hx hb dX7_end_69 rfl (lv_at hl 1 rfl) ?_
            refine yg_r0_6 hx hb hts iX7 hown hK hP k25 dX7_end_70 ?_
            refine lv_iconst (v := (4 : Int32)) hx hb dX7_end_73 (by decide) ?_
            refine lv_iload_n hx hb dX7_end_74 rfl (lv_at hl 2 rfl) ?_
            refine lv_imul hx hb dX7_end_75 ?_
            refine lv_iconst (v := (2 : Int32)) hx hb dX7_end_76 (by decide) ?_
            refine lv_iadd hx hb dX7_end_77 ?_
            refine lv_iload_n hx hb dX7_end_78 rfl (lv_at hl 3 rfl) ?_
            obtain ⟨h9, h⟩ := h
            refine yas_5 hx hb hK hP hD hS h9 dX7_end_79 (fun H locs hP hD hS => ?_)
            have hP : va_P D vwCl (wY cI q v (va_up f 5 (upd (f 5) (((4 : Int32) * a0) + (2 : Int32)).toNatClampNeg a1)) z) H := hP
            have hD : va_D A (wY cI q v (va_up f 5 (upd (f 5) (((4 : Int32) * a0) + (2 : Int32)).toNatClampNeg a1)) z) := hD
            refine lv_aload_n hx hb dX7_end_80 rfl (lv_at hl 1 rfl) ?_
            refine yg_r0_6 hx hb hts iX7 hown hK hP k25 dX7_end_81 ?_
            refine lv_iconst (v := (4 : Int32)) hx hb dX7_end_84 (by decide) ?_
            refine lv_iload_n hx hb dX7_end_85 rfl (lv_at hl 2 rfl) ?_
            refine lv_imul hx hb dX7_end_86 ?_
            refine lv_iconst (v := (3 : Int32)) hx hb dX7_end_87 (by decide) ?_
            refine lv_iadd hx hb dX7_end_88 ?_
            refine lv_iload_n hx hb dX7_end_89 rfl (lv_at hl 0 rfl) ?_
            obtain ⟨h9, h⟩ := h
            refine yas_5 hx hb hK hP hD hS h9 dX7_end_90 (fun H locs hP hD hS => ?_)
            have hP : va_P D vwCl (wY cI q v (va_up (va_up f 5 (upd (f 5) (((4 : Int32) * a0) + (2 : Int32)).toNatClampNeg a1)) 5 (upd (upd (f 5) (((4 : Int32) * a0) + (2 : Int32)).toNatClampNeg a1) (((4 : Int32) * a0) + (3 : Int32)).toNatClampNeg r3)) z) H := hP
            have hD : va_D A (wY cI q v (va_up (va_up f 5 (upd (f 5) (((4 : Int32) * a0) + (2 : Int32)).toNatClampNeg a1)) 5 (upd (upd (f 5) (((4 : Int32) * a0) + (2 : Int32)).toNatClampNeg a1) (((4 : Int32) * a0) + (3 : Int32)).toNatClampNeg r3)) z) := hD
            refine lv_aload_n hx hb dX7_end_91 rfl (lv_at hl 1 rfl) ?_
            refine yg_r0_5 hx hb hts iX7 hown hK hP k22 dX7_end_92 ?_
            refine lv_iconst (v := (3 : Int32)) hx hb dX7_end_95 (by decide) ?_
            refine lv_iload_n hx hb dX7_end_96 rfl (lv_at hl 3 rfl) ?_
            refine lv_imul hx hb dX7_end_97 ?_
            refine lv_iconst (v := (2 : Int32)) hx hb dX7_end_98 (by decide) ?_
            refine lv_iadd hx hb dX7_end_99 ?_
            refine lv_dup2_11 hx hb dX7_end_100 rfl rfl ?_
            obtain ⟨h9, h⟩ := h
            refine yal_4 (x := f 4 (((3 : Int32) * a1) + (2 : Int32)).toNatClampNeg) hx hb hK hP h9 rfl dX7_end_101 ?_
            refine lv_iconst (v := (1 : Int32)) hx hb dX7_end_102 (by decide) ?_
            refine lv_iload_n hx hb dX7_end_103 rfl (lv_at hl 0 rfl) ?_
            refine lv_ishl hx hb dX7_end_104 ?_
            refine lv_ior hx hb dX7_end_105 ?_
            obtain ⟨h9, h⟩ := h
            refine yas_4 hx hb hK hP hD hS h9 dX7_end_106 (fun H locs hP hD hS => ?_)
            have hP : va_P D vwCl (wY cI q v (va_up (va_up (va_up f 5 (upd (f 5) (((4 : Int32) * a0) + (2 : Int32)).toNatClampNeg a1)) 5 (upd (upd (f 5) (((4 : Int32) * a0) + (2 : Int32)).toNatClampNeg a1) (((4 : Int32) * a0) + (3 : Int32)).toNatClampNeg r3)) 4 (upd (f 4) (((3 : Int32) * a1) + (2 : Int32)).toNatClampNeg ((f 4 (((3 : Int32) * a1) + (2 : Int32)).toNatClampNeg) ||| ((1 : Int32) <<< (r3 &&& 31))))) z) H := hP
            have hD : va_D A (wY cI q v (va_up (va_up (va_up f 5 (upd (f 5) (((4 : Int32) * a0) + (2 : Int32)).toNatClampNeg a1)) 5 (upd (upd (f 5) (((4 : Int32) * a0) + (2 : Int32)).toNatClampNeg a1) (((4 : Int32) * a0) + (3 : Int32)).toNatClampNeg r3)) 4 (upd (f 4) (((3 : Int32) * a1) + (2 : Int32)).toNatClampNeg ((f 4 (((3 : Int32) * a1) + (2 : Int32)).toNatClampNeg) ||| ((1 : Int32) <<< (r3 &&& 31))))) z) := hD
            refine lv_iload_n hx hb dX7_end_107 rfl (lv_at hl 0 rfl) ?_
            exact mi_ret (v, va_up (va_up (va_up f 5 (upd (f 5) (((4 : Int32) * a0) + (2 : Int32)).toNatClampNeg a1)) 5 (upd (upd (f 5) (((4 : Int32) * a0) + (2 : Int32)).toNatClampNeg a1) (((4 : Int32) * a0) + (3 : Int32)).toNatClampNeg r3)) 4 (upd (f 4) (((3 : Int32) * a1) + (2 : Int32)).toNatClampNeg ((f 4 (((3 : Int32) * a1) + (2 : Int32)).toNatClampNeg) ||| ((1 : Int32) <<< (r3 &&& 31)))), z) hx hb hr hlocks h hK hP hD hS dX7_end_108
        · have h := h.1 c9
          refine lv_bipush (v := (-103 : Int32)) hx hb dX7_end_45 (by decide) ?_
          exact mi_ret (v, f, z) hx hb hr hlocks h hK hP hD hS dX7_end_47
    · have h := h.1 c9
      refine lv_bipush (v := (-101 : Int32)) hx hb dX7_end_16 (by decide) ?_
      exact mi_ret (v, f, z) hx hb hr hlocks h hK hP hD hS dX7_end_18
def wp_X7_isWanted (post : Int32 → Prop) (v : Nat → Int32) (f : Nat → Nat → Int32) (z : Int64) (a0 : Int32) : Prop := (vp_in (((4 : Int32) * a0) + (2 : Int32)) 32 ∧ (((f 5 (((4 : Int32) * a0) + (2 : Int32)).toNatClampNeg) = (-1 : Int32) → post (0 : Int32)) ∧ (¬ (f 5 (((4 : Int32) * a0) + (2 : Int32)).toNatClampNeg) = (-1 : Int32) → (vp_in (((4 : Int32) * a0) + (3 : Int32)) 32 ∧ (vp_in ((4 : Int32) * a0) 32 ∧ (vp_in (((3 : Int32) * (f 5 ((4 : Int32) * a0).toNatClampNeg)) + (1 : Int32)) 12 ∧ (((f 5 (((4 : Int32) * a0) + (3 : Int32)).toNatClampNeg) = (f 4 (((3 : Int32) * (f 5 ((4 : Int32) * a0).toNatClampNeg)) + (1 : Int32)).toNatClampNeg) → post (1 : Int32)) ∧ (¬ (f 5 (((4 : Int32) * a0) + (3 : Int32)).toNatClampNeg) = (f 4 (((3 : Int32) * (f 5 ((4 : Int32) * a0).toNatClampNeg)) + (1 : Int32)).toNatClampNeg) → post (0 : Int32)))))))))
def rmX7_isWanted : Room := { frames := 0, cells := 0, slots := 0, locals := 0 }
set_option maxHeartbeats 4000000 in
set_option maxRecDepth 100000 in
theorem c_X7_isWanted (l : Launch) (D : va_G) (cI : ClassId) (q : Nat → Nat) (post : Int32 → Prop) (v : Nat → Int32) (f : Nat → Nat → Int32) (z : Int64) (a0 : Int32) (h : wp_X7_isWanted post v f z a0) : Met l yX7_isWanted wsX7_isWanted rmX7_isWanted (va_Pc [.ref (q 0), .int a0] (rP D cI (wY cI q v f z))) (sQ post) 0 0 (fun _ => False) := by
  refine Met.ofW (cc := cX7_isWanted) (maxL := 2) (ret := (some .boolean)) (by decide) rfl ?_
  intro p e s m args below meth c s₁ B hml hv
  obtain ⟨rfl, hP, hK, hN⟩ := hv
  have hx := B.exec
  have hb := B.bytes
  have hr := B.returns
  have hts := atoms_spec (ws := wsX7_isWanted) B.pre
  have hown : s.vm.findClass RX7 = some m.cls := findClass_of_methodNamed B.named
  have hlocks : meth.locks = false := B.notSynchronized
  have iX7 : ∀ w ∈ wsX70, w ∈ wsX7_isWanted := fun _ h9 => List.mem_cons_of_mem _ (List.mem_append_right _ h9)
  have k22 := hts (.fieldLink RX7 22 "EndedByOthersModel" "rows" "[I") (by decide +kernel)
  have k25 := hts (.fieldLink RX7 25 "EndedByOthersModel" "said" "[I") (by decide +kernel)
  have hl := lv_entry ([.ref (q 0), .int a0]) (n := 2) (Nat.le_of_ble_eq_true rfl)
  rw [lg_entry_eq]
  generalize (lg_sl ([.ref (q 0), .int a0]) ++ List.replicate (2 - (lg_sl ([.ref (q 0), .int a0])).length) Slot.unset).toArray = ls at hl ⊢
  have hl : lv_has ls 2 [(0, .ref (q 0)), (1, .int a0)] := hl
  unfold wp_X7_isWanted at h
  refine lv_aload_n hx hb dX7_isWanted_0 rfl (lv_at hl 0 rfl) ?_
  refine yg_r0_6 hx hb hts iX7 hown hK hP k25 dX7_isWanted_1 ?_
  refine lv_iconst (v := (4 : Int32)) hx hb dX7_isWanted_4 (by decide) ?_
  refine lv_iload_n hx hb dX7_isWanted_5 rfl (lv_at hl 1 rfl) ?_
  refine lv_imul hx hb dX7_isWanted_6 ?_
  refine lv_iconst (v := (2 : Int32)) hx hb dX7_isWanted_7 (by decide) ?_
  refine lv_iadd hx hb dX7_isWanted_8 ?_
  obtain ⟨h9, h⟩ := h
  refine yal_5 (x := f 5 (((4 : Int32) * a0) + (2 : Int32)).toNatClampNeg) hx hb hK hP h9 rfl dX7_isWanted_9 ?_
  refine lv_iconst (v := (-1 : Int32)) hx hb dX7_isWanted_10 (by decide) ?_
  refine lv_icmp_eq (tgt := 48) hx hb dX7_isWanted_11 (by decide) (fun c9 => ?_) (fun c9 => ?_)
  · have h := h.1 c9
    refine lv_iconst (v := (0 : Int32)) hx hb dX7_isWanted_48 (by decide) ?_
    exact rz_ret hx hb hr hlocks rfl h dX7_isWanted_49
  · have h := h.2 c9
    refine lv_aload_n hx hb dX7_isWanted_14 rfl (lv_at hl 0 rfl) ?_
    refine yg_r0_6 hx hb hts iX7 hown hK hP k25 dX7_isWanted_15 ?_
    refine lv_iconst (v := (4 : Int32)) hx hb dX7_isWanted_18 (by decide) ?_
    refine lv_iload_n hx hb dX7_isWanted_19 rfl (lv_at hl 1 rfl) ?_
    refine lv_imul hx hb dX7_isWanted_20 ?_
    refine lv_iconst (v := (3 : Int32)) hx hb dX7_isWanted_21 (by decide) ?_
    refine lv_iadd hx hb dX7_isWanted_22 ?_
    obtain ⟨h9, h⟩ := h
    refine yal_5 (x := f 5 (((4 : Int32) * a0) + (3 : Int32)).toNatClampNeg) hx hb hK hP h9 rfl dX7_isWanted_23 ?_
    refine lv_aload_n hx hb dX7_isWanted_24 rfl (lv_at hl 0 rfl) ?_
    refine yg_r0_5 hx hb hts iX7 hown hK hP k22 dX7_isWanted_25 ?_
    refine lv_iconst (v := (3 : Int32)) hx hb dX7_isWanted_28 (by decide) ?_
    refine lv_aload_n hx hb dX7_isWanted_29 rfl (lv_at hl 0 rfl) ?_
    refine yg_r0_6 hx hb hts iX7 hown hK hP k25 dX7_isWanted_30 ?_
    refine lv_iconst (v := (4 : Int32)) hx hb dX7_isWanted_33 (by decide) ?_
    refine lv_iload_n hx hb dX7_isWanted_34 rfl (lv_at hl 1 rfl) ?_
    refine lv_imul hx hb dX7_isWanted_35 ?_
    obtain ⟨h9, h⟩ := h
    refine yal_5 (x := f 5 ((4 : Int32) * a0).toNatClampNeg) hx hb hK hP h9 rfl dX7_isWanted_36 ?_
    refine lv_imul hx hb dX7_isWanted_37 ?_
    refine lv_iconst (v := (1 : Int32)) hx hb dX7_isWanted_38 (by decide) ?_
    refine lv_iadd hx hb dX7_isWanted_39 ?_
    obtain ⟨h9, h⟩ := h
    refine yal_4 (x := f 4 (((3 : Int32) * (f 5 ((4 : Int32) * a0).toNatClampNeg)) + (1 : Int32)).toNatClampNeg) hx hb hK hP h9 rfl dX7_isWanted_40 ?_
    refine lv_icmp_ne (tgt := 48) hx hb dX7_isWanted_41 (by decide) (fun c9 => ?_) (fun c9 => ?_)
    · have h := h.2 c9
      refine lv_iconst (v := (0 : Int32)) hx hb dX7_isWanted_48 (by decide) ?_
      exact rz_ret hx hb hr hlocks rfl h dX7_isWanted_49
    · have h := h.1 c9
      refine lv_iconst (v := (1 : Int32)) hx hb dX7_isWanted_44 (by decide) ?_
      refine lv_goto (tgt := 49) hx hb dX7_isWanted_45 (by decide) ?_
      exact rz_ret hx hb hr hlocks rfl h dX7_isWanted_49
def wp_X7_tellSentence (post : Int32 → Prop) (v : Nat → Int32) (f : Nat → Nat → Int32) (z : Int64) (a0 : Int32) (a1 : Int32) : Prop := (wp_X7_in (fun r1 => ((r1 = 0 → ((a1 = (4 : Int32) → (wp_X7_isWanted (fun r2 => ((r2 = 0 → post (0 : Int32)) ∧ (¬ r2 = 0 → post (1 : Int32)))) v f z a0)) ∧ (¬ a1 = (4 : Int32) → post (-102 : Int32)))) ∧ (¬ r1 = 0 → (vp_in (((4 : Int32) * a0) + a1) 32 ∧ post (f 5 (((4 : Int32) * a0) + a1).toNatClampNeg))))) ((a1).toInt64) (0 : Int64) (3 : Int64))
def rmX7_tellSentence : Room := { frames := 1, cells := 0, slots := 0, locals := 25 }
set_option maxHeartbeats 4000000 in
set_option maxRecDepth 100000 in
theorem c_X7_tellSentence (l : Launch) (D : va_G) (cI : ClassId) (q : Nat → Nat) (post : Int32 → Prop) (v : Nat → Int32) (f : Nat → Nat → Int32) (z : Int64) (a0 : Int32) (a1 : Int32) (h : wp_X7_tellSentence post v f z a0 a1) : Met l yX7_tellSentence wsX7_tellSentence rmX7_tellSentence (va_Pc [.ref (q 0), .int a0, .int a1] (rP D cI (wY cI q v f z))) (sQ post) 0 0 (fun _ => False) := by
  refine Met.ofW (cc := cX7_tellSentence) (maxL := 3) (ret := (some .int)) (by decide) rfl ?_
  intro p e s m args below meth c s₁ B hml hv
  obtain ⟨rfl, hP, hK, hN⟩ := hv
  have hx := B.exec
  have hb := B.bytes
  have hr := B.returns
  have hts := atoms_spec (ws := wsX7_tellSentence) B.pre
  have hown : s.vm.findClass RX7 = some m.cls := findClass_of_methodNamed B.named
  have hlocks : meth.locks = false := B.notSynchronized
  have iX7 : ∀ w ∈ wsX70, w ∈ wsX7_tellSentence := fun _ h9 => List.mem_cons_of_mem _ (List.mem_append_right _ h9)
  have k25 := hts (.fieldLink RX7 25 "EndedByOthersModel" "said" "[I") (by decide +kernel)
  have hl := lv_entry ([.ref (q 0), .int a0, .int a1]) (n := 3) (Nat.le_of_ble_eq_true rfl)
  rw [lg_entry_eq]
  generalize (lg_sl ([.ref (q 0), .int a0, .int a1]) ++ List.replicate (3 - (lg_sl ([.ref (q 0), .int a0, .int a1])).length) Slot.unset).toArray = ls at hl ⊢
  have hl : lv_has ls 3 [(0, .ref (q 0)), (1, .int a0), (2, .int a1)] := hl
  unfold wp_X7_tellSentence at h
  refine lv_iload_n hx hb dX7_tellSentence_0 rfl (lv_at hl 2 rfl) ?_
  refine lv_i2l (v := (a1).toInt64) hx hb dX7_tellSentence_1 rfl ?_
  refine lv_lconst (v := (0 : Int64)) hx hb dX7_tellSentence_2 (by decide) ?_
  refine lv_ldc2 (v := (3 : Int64)) hx hb hown (hts (.constantLong RX7 124 (3)) (by decide +kernel)) dX7_tellSentence_3 ?_
  refine rS_i ⟨hx, hb, hml, hown, hts⟩ (c_X7_in l D cI _ _ _ _ h) (va_cwS 3 hts gX7_tellSentence_X7_in rfl rfl rfl (by decide +kernel) ⟨Nat.le_of_ble_eq_true rfl, Nat.le_of_ble_eq_true rfl⟩) hK wPnil hN rfl hl.1 (rest := []) rfl (Nat.le_of_ble_eq_true rfl) dX7_tellSentence_6 (Nat.zero_le _) (Nat.zero_le _) (fun r1 h => ?_)
  refine lv_if_eq (tgt := 25) hx hb dX7_tellSentence_9 (by decide) (fun c9 => ?_) (fun c9 => ?_)
  · have h := h.1 c9
    refine lv_iload_n hx hb dX7_tellSentence_25 rfl (lv_at hl 2 rfl) ?_
    refine lv_iconst (v := (4 : Int32)) hx hb dX7_tellSentence_26 (by decide) ?_
    refine lv_icmp_ne (tgt := 46) hx hb dX7_tellSentence_27 (by decide) (fun c9 => ?_) (fun c9 => ?_)
    · have h := h.2 c9
      refine lv_bipush (v := (-102 : Int32)) hx hb dX7_tellSentence_46 (by decide) ?_
      exact ri_ret hx hb hr hlocks h dX7_tellSentence_48
    · have h := h.1 c9
      refine lv_aload_n hx hb dX7_tellSentence_30 rfl (lv_at hl 0 rfl) ?_
      refine lv_iload_n hx hb dX7_tellSentence_31 rfl (lv_at hl 1 rfl) ?_
      refine rV_i ⟨hx, hb, hml, hown, hts⟩ (c_X7_isWanted l D cI q _ _ _ _ _ h) (cwV 1 hts gX7_tellSentence_X7_isWanted rfl rfl rfl (by decide +kernel) ⟨Nat.le_of_ble_eq_true rfl, Nat.le_of_ble_eq_true rfl⟩) hK hP hN (va_recv hK hP (ci := 7) (q0 := 0) rfl rfl) rfl hl.1 (rest := []) rfl (Nat.le_of_ble_eq_true rfl) dX7_tellSentence_32 (Nat.zero_le _) (Nat.zero_le _) (fun r2 h => ?_)
      refine lv_if_eq (tgt := 42) hx hb dX7_tellSentence_35 (by decide) (fun c9 => ?_) (fun c9 => ?_)
      · have h := h.1 c9
        refine lv_iconst (v := (0 : Int32)) hx hb dX7_tellSentence_42 (by decide) ?_
        refine lv_goto (tgt := 48) hx hb dX7_tellSentence_43 (by decide) ?_
        exact ri_ret hx hb hr hlocks h dX7_tellSentence_48
      · have h := h.2 c9
        refine lv_iconst (v := (1 : Int32)) hx hb dX7_tellSentence_38 (by decide) ?_
        refine lv_goto (tgt := 48) hx hb dX7_tellSentence_39 (by decide) ?_
        exact ri_ret hx hb hr hlocks h dX7_tellSentence_48
  · have h := h.2 c9
    refine lv_aload_n hx hb dX7_tellSentence_12 rfl (lv_at hl 0 rfl) ?_
    refine yg_r0_6 hx hb hts iX7 hown hK hP k25 dX7_tellSentence_13 ?_
    refine lv_iconst (v := (4 : Int32)) hx hb dX7_tellSentence_16 (by decide) ?_
    refine lv_iload_n hx hb dX7_tellSentence_17 rfl (lv_at hl 1 rfl) ?_
    refine lv_imul hx hb dX7_tellSentence_18 ?_
    refine lv_iload_n hx hb dX7_tellSentence_19 rfl (lv_at hl 2 rfl) ?_
    refine lv_iadd hx hb dX7_tellSentence_20 ?_
    obtain ⟨h9, h⟩ := h
    refine yal_5 (x := f 5 (((4 : Int32) * a0) + a1).toNatClampNeg) hx hb hK hP h9 rfl dX7_tellSentence_21 ?_
    refine lv_goto (tgt := 48) hx hb dX7_tellSentence_22 (by decide) ?_
    exact ri_ret hx hb hr hlocks h dX7_tellSentence_48
def wp_X7_sentence (post : Int32 → Prop) (v : Nat → Int32) (f : Nat → Nat → Int32) (z : Int64) (a0 : Int32) (a1 : Int32) : Prop := (wp_X7_isSentence (fun r1 => ((r1 = 0 → post (-101 : Int32)) ∧ (¬ r1 = 0 → (wp_X7_tellSentence (fun r2 => post r2) v f z a0 a1)))) v f z a0)
def rmX7_sentence : Room := { frames := 2, cells := 0, slots := 0, locals := 47 }
set_option maxHeartbeats 4000000 in
set_option maxRecDepth 100000 in
theorem c_X7_sentence (l : Launch) (D : va_G) (cI : ClassId) (q : Nat → Nat) (post : Int32 → Prop) (v : Nat → Int32) (f : Nat → Nat → Int32) (z : Int64) (a0 : Int32) (a1 : Int32) (h : wp_X7_sentence post v f z a0 a1) : Met l yX7_sentence wsX7_sentence rmX7_sentence (va_Pc [.ref (q 0), .int a0, .int a1] (rP D cI (wY cI q v f z))) (sQ post) 0 0 (fun _ => False) := by
  refine Met.ofW (cc := cX7_sentence) (maxL := 3) (ret := (some .int)) (by decide) rfl ?_
  intro p e s m args below meth c s₁ B hml hv
  obtain ⟨rfl, hP, hK, hN⟩ := hv
  have hx := B.exec
  have hb := B.bytes
  have hr := B.returns
  have hts := atoms_spec (ws := wsX7_sentence) B.pre
  have hown : s.vm.findClass RX7 = some m.cls := findClass_of_methodNamed B.named
  have hlocks : meth.locks = false := B.notSynchronized
  have hl := lv_entry ([.ref (q 0), .int a0, .int a1]) (n := 3) (Nat.le_of_ble_eq_true rfl)
  rw [lg_entry_eq]
  generalize (lg_sl ([.ref (q 0), .int a0, .int a1]) ++ List.replicate (3 - (lg_sl ([.ref (q 0), .int a0, .int a1])).length) Slot.unset).toArray = ls at hl ⊢
  have hl : lv_has ls 3 [(0, .ref (q 0)), (1, .int a0), (2, .int a1)] := hl
  unfold wp_X7_sentence at h
  refine lv_aload_n hx hb dX7_sentence_0 rfl (lv_at hl 0 rfl) ?_
  refine lv_iload_n hx hb dX7_sentence_1 rfl (lv_at hl 1 rfl) ?_
  refine rV_i ⟨hx, hb, hml, hown, hts⟩ (c_X7_isSentence l D cI q _ _ _ _ _ h) (cwV 1 hts gX7_sentence_X7_isSentence rfl rfl rfl (by decide +kernel) ⟨Nat.le_of_ble_eq_true rfl, Nat.le_of_ble_eq_true rfl⟩) hK hP hN (va_recv hK hP (ci := 7) (q0 := 0) rfl rfl) rfl hl.1 (rest := []) rfl (Nat.le_of_ble_eq_true rfl) dX7_sentence_2 (Nat.zero_le _) (Nat.zero_le _) (fun r1 h => ?_)
  refine lv_if_eq (tgt := 17) hx hb dX7_sentence_5 (by decide) (fun c9 => ?_) (fun c9 => ?_)
  · have h := h.1 c9
    refine lv_bipush (v := (-101 : Int32)) hx hb dX7_sentence_17 (by decide) ?_
    exact ri_ret hx hb hr hlocks h dX7_sentence_19
  · have h := h.2 c9
    refine lv_aload_n hx hb dX7_sentence_8 rfl (lv_at hl 0 rfl) ?_
    refine lv_iload_n hx hb dX7_sentence_9 rfl (lv_at hl 1 rfl) ?_
    refine lv_iload_n hx hb dX7_sentence_10 rfl (lv_at hl 2 rfl) ?_
    refine rV_i ⟨hx, hb, hml, hown, hts⟩ (c_X7_tellSentence l D cI q _ _ _ _ _ _ h) (cwV 2 hts gX7_sentence_X7_tellSentence rfl rfl rfl (by decide +kernel) ⟨Nat.le_of_ble_eq_true rfl, Nat.le_of_ble_eq_true rfl⟩) hK hP hN (va_recv hK hP (ci := 7) (q0 := 0) rfl rfl) rfl hl.1 (rest := []) rfl (Nat.le_of_ble_eq_true rfl) dX7_sentence_11 (Nat.zero_le _) (Nat.zero_le _) (fun r2 h => ?_)
    refine lv_goto (tgt := 19) hx hb dX7_sentence_14 (by decide) ?_
    exact ri_ret hx hb hr hlocks h dX7_sentence_19
def wp_X7_endsAsWanted (post : Int32 → Prop) (v : Nat → Int32) (f : Nat → Nat → Int32) (z : Int64) (a0 : Int32) (a1 : Int32) : Prop := (vp_in ((4 : Int32) * a1) 32 ∧ (vp_in (((4 : Int32) * a1) + (2 : Int32)) 32 ∧ (((f 5 (((4 : Int32) * a1) + (2 : Int32)).toNatClampNeg) = (-1 : Int32) → (((f 5 ((4 : Int32) * a1).toNatClampNeg) = a0 → post (0 : Int32)) ∧ (¬ (f 5 ((4 : Int32) * a1).toNatClampNeg) = a0 → (vp_in (((4 : Int32) * a1) + (1 : Int32)) 32 ∧ (wp_X7_wouldOf (fun r1 => (vp_in (((3 : Int32) * (f 5 ((4 : Int32) * a1).toNatClampNeg)) + (1 : Int32)) 12 ∧ ((r1 = (f 4 (((3 : Int32) * (f 5 ((4 : Int32) * a1).toNatClampNeg)) + (1 : Int32)).toNatClampNeg) → post (1 : Int32)) ∧ (¬ r1 = (f 4 (((3 : Int32) * (f 5 ((4 : Int32) * a1).toNatClampNeg)) + (1 : Int32)).toNatClampNeg) → post (0 : Int32))))) v f z a0 (f 5 (((4 : Int32) * a1) + (1 : Int32)).toNatClampNeg)))))) ∧ (¬ (f 5 (((4 : Int32) * a1) + (2 : Int32)).toNatClampNeg) = (-1 : Int32) → post (0 : Int32)))))
def rmX7_endsAsWanted : Room := { frames := 3, cells := 0, slots := 0, locals := 71 }
set_option maxHeartbeats 4000000 in
set_option maxRecDepth 100000 in
theorem c_X7_endsAsWanted (l : Launch) (D : va_G) (cI : ClassId) (q : Nat → Nat) (post : Int32 → Prop) (v : Nat → Int32) (f : Nat → Nat → Int32) (z : Int64) (a0 : Int32) (a1 : Int32) (h : wp_X7_endsAsWanted post v f z a0 a1) : Met l yX7_endsAsWanted wsX7_endsAsWanted rmX7_endsAsWanted (va_Pc [.ref (q 0), .int a0, .int a1] (rP D cI (wY cI q v f z))) (sQ post) 0 0 (fun _ => False) := by
  refine Met.ofW (cc := cX7_endsAsWanted) (maxL := 4) (ret := (some .boolean)) (by decide) rfl ?_
  intro p e s m args below meth c s₁ B hml hv
  obtain ⟨rfl, hP, hK, hN⟩ := hv
  have hx := B.exec
  have hb := B.bytes
  have hr := B.returns
  have hts := atoms_spec (ws := wsX7_endsAsWanted) B.pre
  have hown : s.vm.findClass RX7 = some m.cls := findClass_of_methodNamed B.named
  have hlocks : meth.locks = false := B.notSynchronized
  have iX7 : ∀ w ∈ wsX70, w ∈ wsX7_endsAsWanted := fun _ h9 => List.mem_cons_of_mem _ (List.mem_append_right _ h9)
  have k22 := hts (.fieldLink RX7 22 "EndedByOthersModel" "rows" "[I") (by decide +kernel)
  have k25 := hts (.fieldLink RX7 25 "EndedByOthersModel" "said" "[I") (by decide +kernel)
  have hl := lv_entry ([.ref (q 0), .int a0, .int a1]) (n := 4) (Nat.le_of_ble_eq_true rfl)
  rw [lg_entry_eq]
  generalize (lg_sl ([.ref (q 0), .int a0, .int a1]) ++ List.replicate (4 - (lg_sl ([.ref (q 0), .int a0, .int a1])).length) Slot.unset).toArray = ls at hl ⊢
  have hl : lv_has ls 4 [(0, .ref (q 0)), (1, .int a0), (2, .int a1)] := hl
  unfold wp_X7_endsAsWanted at h
  refine lv_aload_n hx hb dX7_endsAsWanted_0 rfl (lv_at hl 0 rfl) ?_
  refine yg_r0_6 hx hb hts iX7 hown hK hP k25 dX7_endsAsWanted_1 ?_
  refine lv_iconst (v := (4 : Int32)) hx hb dX7_endsAsWanted_4 (by decide) ?_
  refine lv_iload_n hx hb dX7_endsAsWanted_5 rfl (lv_at hl 2 rfl) ?_
  refine lv_imul hx hb dX7_endsAsWanted_6 ?_
  obtain ⟨h9, h⟩ := h
  refine yal_5 (x := f 5 ((4 : Int32) * a1).toNatClampNeg) hx hb hK hP h9 rfl dX7_endsAsWanted_7 ?_
  refine lv_istore_n (lv' := [(3, .int (f 5 ((4 : Int32) * a1).toNatClampNeg)), (0, .ref (q 0)), (1, .int a0), (2, .int a1)]) hx hb dX7_endsAsWanted_8 rfl hl (by decide) rfl (fun ls hl => ?_)
  refine lv_aload_n hx hb dX7_endsAsWanted_9 rfl (lv_at hl 1 rfl) ?_
  refine yg_r0_6 hx hb hts iX7 hown hK hP k25 dX7_endsAsWanted_10 ?_
  refine lv_iconst (v := (4 : Int32)) hx hb dX7_endsAsWanted_13 (by decide) ?_
  refine lv_iload_n hx hb dX7_endsAsWanted_14 rfl (lv_at hl 3 rfl) ?_
  refine lv_imul hx hb dX7_endsAsWanted_15 ?_
  refine lv_iconst (v := (2 : Int32)) hx hb dX7_endsAsWanted_16 (by decide) ?_
  refine lv_iadd hx hb dX7_endsAsWanted_17 ?_
  obtain ⟨h9, h⟩ := h
  refine yal_5 (x := f 5 (((4 : Int32) * a1) + (2 : Int32)).toNatClampNeg) hx hb hK hP h9 rfl dX7_endsAsWanted_18 ?_
  refine lv_iconst (v := (-1 : Int32)) hx hb dX7_endsAsWanted_19 (by decide) ?_
  refine lv_icmp_ne (tgt := 60) hx hb dX7_endsAsWanted_20 (by decide) (fun c9 => ?_) (fun c9 => ?_)
  · have h := h.2 c9
    refine lv_iconst (v := (0 : Int32)) hx hb dX7_endsAsWanted_60 (by decide) ?_
    exact rz_ret hx hb hr hlocks rfl h dX7_endsAsWanted_61
  · have h := h.1 c9
    refine lv_iload_n hx hb dX7_endsAsWanted_23 rfl (lv_at hl 0 rfl) ?_
    refine lv_iload_n hx hb dX7_endsAsWanted_24 rfl (lv_at hl 2 rfl) ?_
    refine lv_icmp_eq (tgt := 60) hx hb dX7_endsAsWanted_25 (by decide) (fun c9 => ?_) (fun c9 => ?_)
    · have h := h.1 c9
      refine lv_iconst (v := (0 : Int32)) hx hb dX7_endsAsWanted_60 (by decide) ?_
      exact rz_ret hx hb hr hlocks rfl h dX7_endsAsWanted_61
    · have h := h.2 c9
      refine lv_aload_n hx hb dX7_endsAsWanted_28 rfl (lv_at hl 1 rfl) ?_
      refine lv_iload_n hx hb dX7_endsAsWanted_29 rfl (lv_at hl 2 rfl) ?_
      refine lv_aload_n hx hb dX7_endsAsWanted_30 rfl (lv_at hl 1 rfl) ?_
      refine yg_r0_6 hx hb hts iX7 hown hK hP k25 dX7_endsAsWanted_31 ?_
      refine lv_iconst (v := (4 : Int32)) hx hb dX7_endsAsWanted_34 (by decide) ?_
      refine lv_iload_n hx hb dX7_endsAsWanted_35 rfl (lv_at hl 3 rfl) ?_
      refine lv_imul hx hb dX7_endsAsWanted_36 ?_
      refine lv_iconst (v := (1 : Int32)) hx hb dX7_endsAsWanted_37 (by decide) ?_
      refine lv_iadd hx hb dX7_endsAsWanted_38 ?_
      obtain ⟨h9, h⟩ := h
      refine yal_5 (x := f 5 (((4 : Int32) * a1) + (1 : Int32)).toNatClampNeg) hx hb hK hP h9 rfl dX7_endsAsWanted_39 ?_
      refine rV_i ⟨hx, hb, hml, hown, hts⟩ (c_X7_wouldOf l D cI q _ _ _ _ _ _ h) (cwV 2 hts gX7_endsAsWanted_X7_wouldOf rfl rfl rfl (by decide +kernel) ⟨Nat.le_of_ble_eq_true rfl, Nat.le_of_ble_eq_true rfl⟩) hK hP hN (va_recv hK hP (ci := 7) (q0 := 0) rfl rfl) rfl hl.1 (rest := []) rfl (Nat.le_of_ble_eq_true rfl) dX7_endsAsWanted_40 (Nat.zero_le _) (Nat.zero_le _) (fun r1 h => ?_)
      refine lv_aload_n hx hb dX7_endsAsWanted_43 rfl (lv_at hl 1 rfl) ?_
      refine yg_r0_5 hx hb hts iX7 hown hK hP k22 dX7_endsAsWanted_44 ?_
      refine lv_iconst (v := (3 : Int32)) hx hb dX7_endsAsWanted_47 (by decide) ?_
      refine lv_iload_n hx hb dX7_endsAsWanted_48 rfl (lv_at hl 0 rfl) ?_
      refine lv_imul hx hb dX7_endsAsWanted_49 ?_
      refine lv_iconst (v := (1 : Int32)) hx hb dX7_endsAsWanted_50 (by decide) ?_
      refine lv_iadd hx hb dX7_endsAsWanted_51 ?_
      obtain ⟨h9, h⟩ := h
      refine yal_4 (x := f 4 (((3 : Int32) * (f 5 ((4 : Int32) * a1).toNatClampNeg)) + (1 : Int32)).toNatClampNeg) hx hb hK hP h9 rfl dX7_endsAsWanted_52 ?_
      refine lv_icmp_ne (tgt := 60) hx hb dX7_endsAsWanted_53 (by decide) (fun c9 => ?_) (fun c9 => ?_)
      · have h := h.2 c9
        refine lv_iconst (v := (0 : Int32)) hx hb dX7_endsAsWanted_60 (by decide) ?_
        exact rz_ret hx hb hr hlocks rfl h dX7_endsAsWanted_61
      · have h := h.1 c9
        refine lv_iconst (v := (1 : Int32)) hx hb dX7_endsAsWanted_56 (by decide) ?_
        refine lv_goto (tgt := 61) hx hb dX7_endsAsWanted_57 (by decide) ?_
        exact rz_ret hx hb hr hlocks rfl h dX7_endsAsWanted_61
def wp_X7_layRow_B96 (post : Int32 → (Nat → Int32) → (Nat → Nat → Int32) → Int64 → Prop) (K15 : (Nat → Int32) → (Nat → Nat → Int32) → Int64 → Int32 → Int32 → Int32 → Int32 → Prop) (v : Nat → Int32) (f : Nat → Nat → Int32) (z : Int64) (x2 : Int32) (x3 : Int32) (x5 : Int32) : Prop := (vp_in x5 4 ∧ K15 v f z x2 (x3 ||| ((1 : Int32) <<< ((f 6 (x5).toNatClampNeg) &&& 31))) (0 : Int32) (x5 + (-1)))
def wp_X7_layRow_B15 (post : Int32 → (Nat → Int32) → (Nat → Nat → Int32) → Int64 → Prop) : Nat → (Nat → Int32) → (Nat → Nat → Int32) → Int64 → Int32 → Int32 → Int32 → Int32 → Prop
  | 0, _, _, _, _, _, _, _ => False
  | n15 + 1, v, f, z, x2, x3, x4, x5 => ((x5 < 0 → (nb x4 ∧ post x4 v f z)) ∧ (¬ x5 < 0 → (¬ ((v 9) + (1 : Int32)) = 0 ∧ (vp_in x5 4 ∧ (¬ ((v 9) + (1 : Int32)) = 0 ∧ (vp_in x5 4 ∧ ((((upd (f 6) (x5).toNatClampNeg ((x2 - x2 / ((v 9) + (1 : Int32)) * ((v 9) + (1 : Int32))) - (1 : Int32))) (x5).toNatClampNeg) = (-1 : Int32) → wp_X7_layRow_B15 post n15 v (va_up f 6 (upd (f 6) (x5).toNatClampNeg ((x2 - x2 / ((v 9) + (1 : Int32)) * ((v 9) + (1 : Int32))) - (1 : Int32)))) z (x2 / ((v 9) + (1 : Int32))) x3 x4 (x5 + (-1))) ∧ (¬ ((upd (f 6) (x5).toNatClampNeg ((x2 - x2 / ((v 9) + (1 : Int32)) * ((v 9) + (1 : Int32))) - (1 : Int32))) (x5).toNatClampNeg) = (-1 : Int32) → ((x4 = 0 → wp_X7_layRow_B96 post (wp_X7_layRow_B15 post n15) v (va_up f 6 (upd (f 6) (x5).toNatClampNeg ((x2 - x2 / ((v 9) + (1 : Int32)) * ((v 9) + (1 : Int32))) - (1 : Int32)))) z (x2 / ((v 9) + (1 : Int32))) x3 x5) ∧ (¬ x4 = 0 → (vp_in x5 4 ∧ ((((x3 >>> (((upd (f 6) (x5).toNatClampNeg ((x2 - x2 / ((v 9) + (1 : Int32)) * ((v 9) + (1 : Int32))) - (1 : Int32))) (x5).toNatClampNeg) &&& 31)) &&& (1 : Int32)) = 0 → (vp_in x5 4 ∧ (wp_X7_endsAsWanted (fun r1 => ((r1 = 0 → wp_X7_layRow_B96 post (wp_X7_layRow_B15 post n15) v (va_up f 6 (upd (f 6) (x5).toNatClampNeg ((x2 - x2 / ((v 9) + (1 : Int32)) * ((v 9) + (1 : Int32))) - (1 : Int32)))) z (x2 / ((v 9) + (1 : Int32))) x3 x5) ∧ (¬ r1 = 0 → (vp_in x5 4 ∧ wp_X7_layRow_B15 post n15 v (va_up f 6 (upd (f 6) (x5).toNatClampNeg ((x2 - x2 / ((v 9) + (1 : Int32)) * ((v 9) + (1 : Int32))) - (1 : Int32)))) z (x2 / ((v 9) + (1 : Int32))) (x3 ||| ((1 : Int32) <<< (((upd (f 6) (x5).toNatClampNeg ((x2 - x2 / ((v 9) + (1 : Int32)) * ((v 9) + (1 : Int32))) - (1 : Int32))) (x5).toNatClampNeg) &&& 31))) (1 : Int32) (x5 + (-1)))))) v (va_up f 6 (upd (f 6) (x5).toNatClampNeg ((x2 - x2 / ((v 9) + (1 : Int32)) * ((v 9) + (1 : Int32))) - (1 : Int32)))) z x5 ((upd (f 6) (x5).toNatClampNeg ((x2 - x2 / ((v 9) + (1 : Int32)) * ((v 9) + (1 : Int32))) - (1 : Int32))) (x5).toNatClampNeg)))) ∧ (¬ ((x3 >>> (((upd (f 6) (x5).toNatClampNeg ((x2 - x2 / ((v 9) + (1 : Int32)) * ((v 9) + (1 : Int32))) - (1 : Int32))) (x5).toNatClampNeg) &&& 31)) &&& (1 : Int32)) = 0 → wp_X7_layRow_B96 post (wp_X7_layRow_B15 post n15) v (va_up f 6 (upd (f 6) (x5).toNatClampNeg ((x2 - x2 / ((v 9) + (1 : Int32)) * ((v 9) + (1 : Int32))) - (1 : Int32)))) z (x2 / ((v 9) + (1 : Int32))) x3 x5)))))))))))))
def wp_X7_layRow (post : Int32 → (Nat → Int32) → (Nat → Nat → Int32) → Int64 → Prop) (v : Nat → Int32) (f : Nat → Nat → Int32) (z : Int64) (a0 : Int32) : Prop := (∃ j9 : Nat, wp_X7_layRow_B15 post j9 v f z a0 (0 : Int32) (1 : Int32) ((v 6) - (1 : Int32)))
def rmX7_layRow : Room := { frames := 4, cells := 0, slots := 0, locals := 94 }
set_option maxHeartbeats 4000000 in
set_option maxRecDepth 100000 in
theorem c_X7_layRow (l : Launch) (D : va_G) (cI : ClassId) (q : Nat → Nat) (sz : Nat) (post : Int32 → (Nat → Int32) → (Nat → Nat → Int32) → Int64 → Prop) (v : Nat → Int32) (f : Nat → Nat → Int32) (z : Int64) (a0 : Int32) (h : wp_X7_layRow post v f z a0) : Met l yX7_layRow wsX7_layRow rmX7_layRow (va_Pc [.ref (q 0), .int a0] (mP D cI (wY cI q v f z) sz)) (mQi post D cI (wY cI q) (va_A (wY cI q v f z) sz)) 0 0 (va_A (wY cI q v f z) sz) := by
  refine Met.ofW (cc := cX7_layRow) (maxL := 6) (ret := (some .boolean)) (by decide) rfl ?_
  intro p e s m args below meth c s₁ B hml hv
  obtain ⟨rfl, hsz, ⟨hP, hK, hN⟩, hD0⟩ := hv
  have hx := B.exec
  have hb := B.bytes
  have hr := B.returns
  have hts := atoms_spec (ws := wsX7_layRow) B.pre
  have hown : s.vm.findClass RX7 = some m.cls := findClass_of_methodNamed B.named
  have hlocks : meth.locks = false := B.notSynchronized
  subst hsz
  have hD := hD0.self (sz := s.heap.size)
  generalize hAe : va_A (wY cI q v f z) s.heap.size = A at hD ⊢
  have hA : ∀ q : Nat, s.heap.size ≤ q → A q := fun q h => by rw [← hAe]; exact Or.inr h
  have hS : va_S A s.heap s.heap [] := va_S.rf
  have iX7 : ∀ w ∈ wsX70, w ∈ wsX7_layRow := fun _ h9 => List.mem_cons_of_mem _ (List.mem_append_right _ h9)
  have k101 := hts (.fieldLink RX7 101 "EndedByOthersModel" "speakers" "I") (by decide +kernel)
  have k111 := hts (.fieldLink RX7 111 "EndedByOthersModel" "sentences" "I") (by decide +kernel)
  have k28 := hts (.fieldLink RX7 28 "EndedByOthersModel" "row" "[I") (by decide +kernel)
  have hl := lv_entry ([.ref (q 0), .int a0]) (n := 6) (Nat.le_of_ble_eq_true rfl)
  rw [lg_entry_eq]
  generalize (lg_sl ([.ref (q 0), .int a0]) ++ List.replicate (6 - (lg_sl ([.ref (q 0), .int a0])).length) Slot.unset).toArray = ls at hl ⊢
  have hl : lv_has ls 6 [(0, .ref (q 0)), (1, .int a0)] := hl
  unfold wp_X7_layRow at h
  have B15 : ∀ (n15 : Nat) (v : Nat → Int32) (f : Nat → Nat → Int32) (z : Int64) (x2 : Int32) (x3 : Int32) (x4 : Int32) (x5 : Int32), wp_X7_layRow_B15 post n15 v f z x2 x3 x4 x5 → ∀ (H : Heap) (locs : List Loc), va_P D vwCl (wY cI q v f z) H → va_D A (wY cI q v f z) → va_S A s.heap H locs → ∀ (ls : Array Slot), lv_has ls 6 [(0, .ref (q 0)), (2, .int x2), (3, .int x3), (4, .int x4), (5, .int x5)] → W p l e (headSpec wsX7_layRow rmX7_layRow).room s m ([.ref (q 0), .int a0] : List Value).toArray below meth c H locs 0 0 (MQ below (mQi post D cI (wY cI q) A) ([.ref (q 0), .int a0] : List Value).toArray s 0 0 A) (F0 m 15 ls []) := by
    intro n15
    induction n15 with
    | zero =>
      intro v f z x2 x3 x4 x5 h
      exact False.elim h
    | succ n15 ih15 =>
      have B96 : ∀ (v : Nat → Int32) (f : Nat → Nat → Int32) (z : Int64) (x2 : Int32) (x3 : Int32) (x5 : Int32), wp_X7_layRow_B96 post (wp_X7_layRow_B15 post n15) v f z x2 x3 x5 → ∀ (H : Heap) (locs : List Loc), va_P D vwCl (wY cI q v f z) H → va_D A (wY cI q v f z) → va_S A s.heap H locs → ∀ (ls : Array Slot), lv_has ls 6 [(0, .ref (q 0)), (2, .int x2), (3, .int x3), (5, .int x5)] → W p l e (headSpec wsX7_layRow rmX7_layRow).room s m ([.ref (q 0), .int a0] : List Value).toArray below meth c H locs 0 0 (MQ below (mQi post D cI (wY cI q) A) ([.ref (q 0), .int a0] : List Value).toArray s 0 0 A) (F0 m 96 ls []) := by
        intro v f z x2 x3 x5 h H locs hP hD hS ls hl
        unfold wp_X7_layRow_B96 at h
        refine lv_iconst (v := (0 : Int32)) hx hb dX7_layRow_96 (by decide) ?_
        refine lv_istore (lv' := [(4, .int (0 : Int32)), (0, .ref (q 0)), (2, .int x2), (3, .int x3), (5, .int x5)]) hx hb dX7_layRow_97 hl (by decide) rfl (fun ls hl => ?_)
        refine lv_iload_n hx hb dX7_layRow_99 rfl (lv_at hl 3 rfl) ?_
        refine lv_iconst (v := (1 : Int32)) hx hb dX7_layRow_100 (by decide) ?_
        refine lv_aload_n hx hb dX7_layRow_101 rfl (lv_at hl 1 rfl) ?_
        refine yg_r0_7 hx hb hts iX7 hown hK hP k28 dX7_layRow_102 ?_
        refine lv_iload hx hb dX7_layRow_105 (lv_at hl 4 rfl) ?_
        obtain ⟨h9, h⟩ := h
        refine yal_6 (x := f 6 (x5).toNatClampNeg) hx hb hK hP h9 rfl dX7_layRow_107 ?_
        refine lv_ishl hx hb dX7_layRow_108 ?_
        refine lv_ior hx hb dX7_layRow_109 ?_
        refine lv_istore_n (lv' := [(3, .int (x3 ||| ((1 : Int32) <<< ((f 6 (x5).toNatClampNeg) &&& 31)))), (4, .int (0 : Int32)), (0, .ref (q 0)), (2, .int x2), (5, .int x5)]) hx hb dX7_layRow_110 rfl hl (by decide) rfl (fun ls hl => ?_)
        refine lv_iinc (v := x5 + (-1)) (lv' := [(5, .int (x5 + (-1))), (3, .int (x3 ||| ((1 : Int32) <<< ((f 6 (x5).toNatClampNeg) &&& 31)))), (4, .int (0 : Int32)), (0, .ref (q 0)), (2, .int x2)]) hx hb dX7_layRow_111 hl (k := 4) rfl rfl (by decide) rfl (fun ls hl => ?_)
        refine lv_goto (tgt := 15) hx hb dX7_layRow_114 (by decide) ?_
        exact ih15 _ _ _ _ _ _ _ h _ _ hP hD hS ls (lv_sub hl [3, 4, 1, 2, 0] rfl)
      intro v f z x2 x3 x4 x5 h H locs hP hD hS ls hl
      rw [wp_X7_layRow_B15] at h
      refine lv_iload hx hb dX7_layRow_15 (lv_at hl 4 rfl) ?_
      refine lv_if_lt (tgt := 117) hx hb dX7_layRow_17 (by decide) (fun c9 => ?_) (fun c9 => ?_)
      · have h := h.1 c9
        refine lv_iload hx hb dX7_layRow_117 (lv_at hl 3 rfl) ?_
        obtain ⟨h9, h⟩ := h
        exact mz_ret (v, f, z) hx hb hr hlocks h9 h hK hP hD hS dX7_layRow_119
      · have h := h.2 c9
        refine lv_aload_n hx hb dX7_layRow_20 rfl (lv_at hl 0 rfl) ?_
        refine yg_r0_7 hx hb hts iX7 hown hK hP k28 dX7_layRow_21 ?_
        refine lv_iload hx hb dX7_layRow_24 (lv_at hl 4 rfl) ?_
        refine lv_iload_n hx hb dX7_layRow_26 rfl (lv_at hl 1 rfl) ?_
        refine lv_aload_n hx hb dX7_layRow_27 rfl (lv_at hl 0 rfl) ?_
        refine yg_s9 (x := v 9) hx hb hts iX7 hown hK hP k111 rfl dX7_layRow_28 ?_
        refine lv_iconst (v := (1 : Int32)) hx hb dX7_layRow_31 (by decide) ?_
        refine lv_iadd hx hb dX7_layRow_32 ?_
        obtain ⟨h9, h⟩ := h
        refine lv_irem hx hb dX7_layRow_33 h9 ?_
        refine lv_iconst (v := (1 : Int32)) hx hb dX7_layRow_34 (by decide) ?_
        refine lv_isub hx hb dX7_layRow_35 ?_
        obtain ⟨h9, h⟩ := h
        refine yas_6 hx hb hK hP hD hS h9 dX7_layRow_36 (fun H locs hP hD hS => ?_)
        have hP : va_P D vwCl (wY cI q v (va_up f 6 (upd (f 6) (x5).toNatClampNeg ((x2 - x2 / ((v 9) + (1 : Int32)) * ((v 9) + (1 : Int32))) - (1 : Int32)))) z) H := hP
        have hD : va_D A (wY cI q v (va_up f 6 (upd (f 6) (x5).toNatClampNeg ((x2 - x2 / ((v 9) + (1 : Int32)) * ((v 9) + (1 : Int32))) - (1 : Int32)))) z) := hD
        refine lv_iload_n hx hb dX7_layRow_37 rfl (lv_at hl 1 rfl) ?_
        refine lv_aload_n hx hb dX7_layRow_38 rfl (lv_at hl 0 rfl) ?_
        refine yg_s9 (x := v 9) hx hb hts iX7 hown hK hP k111 rfl dX7_layRow_39 ?_
        refine lv_iconst (v := (1 : Int32)) hx hb dX7_layRow_42 (by decide) ?_
        refine lv_iadd hx hb dX7_layRow_43 ?_
        obtain ⟨h9, h⟩ := h
        refine lv_idiv hx hb dX7_layRow_44 h9 ?_
        refine lv_istore_n (lv' := [(2, .int (x2 / ((v 9) + (1 : Int32)))), (0, .ref (q 0)), (3, .int x3), (4, .int x4), (5, .int x5)]) hx hb dX7_layRow_45 rfl hl (by decide) rfl (fun ls hl => ?_)
        refine lv_aload_n hx hb dX7_layRow_46 rfl (lv_at hl 1 rfl) ?_
        refine yg_r0_7 hx hb hts iX7 hown hK hP k28 dX7_layRow_47 ?_
        refine lv_iload hx hb dX7_layRow_50 (lv_at hl 4 rfl) ?_
        obtain ⟨h9, h⟩ := h
        refine yal_6 (x := (upd (f 6) (x5).toNatClampNeg ((x2 - x2 / ((v 9) + (1 : Int32)) * ((v 9) + (1 : Int32))) - (1 : Int32))) (x5).toNatClampNeg) hx hb hK hP h9 rfl dX7_layRow_52 ?_
        refine lv_iconst (v := (-1 : Int32)) hx hb dX7_layRow_53 (by decide) ?_
        refine lv_icmp_eq (tgt := 111) hx hb dX7_layRow_54 (by decide) (fun c9 => ?_) (fun c9 => ?_)
        · have h := h.1 c9
          refine lv_iinc (v := x5 + (-1)) (lv' := [(5, .int (x5 + (-1))), (2, .int (x2 / ((v 9) + (1 : Int32)))), (0, .ref (q 0)), (3, .int x3), (4, .int x4)]) hx hb dX7_layRow_111 hl (k := 4) rfl rfl (by decide) rfl (fun ls hl => ?_)
          refine lv_goto (tgt := 15) hx hb dX7_layRow_114 (by decide) ?_
          exact ih15 _ _ _ _ _ _ _ h _ _ hP hD hS ls (lv_sub hl [2, 1, 3, 4, 0] rfl)
        · have h := h.2 c9
          refine lv_iload hx hb dX7_layRow_57 (lv_at hl 3 rfl) ?_
          refine lv_if_eq (tgt := 96) hx hb dX7_layRow_59 (by decide) (fun c9 => ?_) (fun c9 => ?_)
          · have h := h.1 c9
            exact B96 _ _ _ _ _ _ h _ _ hP hD hS ls (lv_sub hl [1, 0, 2, 4] rfl)
          · have h := h.2 c9
            refine lv_iload_n hx hb dX7_layRow_62 rfl (lv_at hl 2 rfl) ?_
            refine lv_aload_n hx hb dX7_layRow_63 rfl (lv_at hl 1 rfl) ?_
            refine yg_r0_7 hx hb hts iX7 hown hK hP k28 dX7_layRow_64 ?_
            refine lv_iload hx hb dX7_layRow_67 (lv_at hl 4 rfl) ?_
            obtain ⟨h9, h⟩ := h
            refine yal_6 (x := (upd (f 6) (x5).toNatClampNeg ((x2 - x2 / ((v 9) + (1 : Int32)) * ((v 9) + (1 : Int32))) - (1 : Int32))) (x5).toNatClampNeg) hx hb hK hP h9 rfl dX7_layRow_69 ?_
            refine lv_ishr hx hb dX7_layRow_70 ?_
            refine lv_iconst (v := (1 : Int32)) hx hb dX7_layRow_71 (by decide) ?_
            refine lv_iand hx hb dX7_layRow_72 ?_
            refine lv_if_ne (tgt := 96) hx hb dX7_layRow_73 (by decide) (fun c9 => ?_) (fun c9 => ?_)
            · have h := h.2 c9
              exact B96 _ _ _ _ _ _ h _ _ hP hD hS ls (lv_sub hl [1, 0, 2, 4] rfl)
            · have h := h.1 c9
              refine lv_aload_n hx hb dX7_layRow_76 rfl (lv_at hl 1 rfl) ?_
              refine lv_iload hx hb dX7_layRow_77 (lv_at hl 4 rfl) ?_
              refine lv_aload_n hx hb dX7_layRow_79 rfl (lv_at hl 1 rfl) ?_
              refine yg_r0_7 hx hb hts iX7 hown hK hP k28 dX7_layRow_80 ?_
              refine lv_iload hx hb dX7_layRow_83 (lv_at hl 4 rfl) ?_
              obtain ⟨h9, h⟩ := h
              refine yal_6 (x := (upd (f 6) (x5).toNatClampNeg ((x2 - x2 / ((v 9) + (1 : Int32)) * ((v 9) + (1 : Int32))) - (1 : Int32))) (x5).toNatClampNeg) hx hb hK hP h9 rfl dX7_layRow_85 ?_
              refine rV_i ⟨hx, hb, hml, hown, hts⟩ (c_X7_endsAsWanted l D cI q _ _ _ _ _ _ h) (cwV 2 hts gX7_layRow_X7_endsAsWanted rfl rfl rfl (by decide +kernel) ⟨Nat.le_of_ble_eq_true rfl, Nat.le_of_ble_eq_true rfl⟩) hK hP hN (va_recv hK hP (ci := 7) (q0 := 0) rfl rfl) rfl hl.1 (rest := []) rfl (Nat.le_of_ble_eq_true rfl) dX7_layRow_86 (Nat.zero_le _) (Nat.zero_le _) (fun r1 h => ?_)
              refine lv_if_eq (tgt := 96) hx hb dX7_layRow_89 (by decide) (fun c9 => ?_) (fun c9 => ?_)
              · have h := h.1 c9
                exact B96 _ _ _ _ _ _ h _ _ hP hD hS ls (lv_sub hl [1, 0, 2, 4] rfl)
              · have h := h.2 c9
                refine lv_iconst (v := (1 : Int32)) hx hb dX7_layRow_92 (by decide) ?_
                refine lv_goto (tgt := 97) hx hb dX7_layRow_93 (by decide) ?_
                refine lv_istore (lv' := [(4, .int (1 : Int32)), (2, .int (x2 / ((v 9) + (1 : Int32)))), (0, .ref (q 0)), (3, .int x3), (5, .int x5)]) hx hb dX7_layRow_97 hl (by decide) rfl (fun ls hl => ?_)
                refine lv_iload_n hx hb dX7_layRow_99 rfl (lv_at hl 3 rfl) ?_
                refine lv_iconst (v := (1 : Int32)) hx hb dX7_layRow_100 (by decide) ?_
                refine lv_aload_n hx hb dX7_layRow_101 rfl (lv_at hl 2 rfl) ?_
                refine yg_r0_7 hx hb hts iX7 hown hK hP k28 dX7_layRow_102 ?_
                refine lv_iload hx hb dX7_layRow_105 (lv_at hl 4 rfl) ?_
                obtain ⟨h9, h⟩ := h
                refine yal_6 (x := (upd (f 6) (x5).toNatClampNeg ((x2 - x2 / ((v 9) + (1 : Int32)) * ((v 9) + (1 : Int32))) - (1 : Int32))) (x5).toNatClampNeg) hx hb hK hP h9 rfl dX7_layRow_107 ?_
                refine lv_ishl hx hb dX7_layRow_108 ?_
                refine lv_ior hx hb dX7_layRow_109 ?_
                refine lv_istore_n (lv' := [(3, .int (x3 ||| ((1 : Int32) <<< (((upd (f 6) (x5).toNatClampNeg ((x2 - x2 / ((v 9) + (1 : Int32)) * ((v 9) + (1 : Int32))) - (1 : Int32))) (x5).toNatClampNeg) &&& 31)))), (4, .int (1 : Int32)), (2, .int (x2 / ((v 9) + (1 : Int32)))), (0, .ref (q 0)), (5, .int x5)]) hx hb dX7_layRow_110 rfl hl (by decide) rfl (fun ls hl => ?_)
                refine lv_iinc (v := x5 + (-1)) (lv' := [(5, .int (x5 + (-1))), (3, .int (x3 ||| ((1 : Int32) <<< (((upd (f 6) (x5).toNatClampNeg ((x2 - x2 / ((v 9) + (1 : Int32)) * ((v 9) + (1 : Int32))) - (1 : Int32))) (x5).toNatClampNeg) &&& 31)))), (4, .int (1 : Int32)), (2, .int (x2 / ((v 9) + (1 : Int32)))), (0, .ref (q 0))]) hx hb dX7_layRow_111 hl (k := 4) rfl rfl (by decide) rfl (fun ls hl => ?_)
                refine lv_goto (tgt := 15) hx hb dX7_layRow_114 (by decide) ?_
                exact ih15 _ _ _ _ _ _ _ h _ _ hP hD hS ls (lv_sub hl [4, 3, 1, 2, 0] rfl)
  refine lv_iload_n hx hb dX7_layRow_0 rfl (lv_at hl 1 rfl) ?_
  refine lv_istore_n (lv' := [(2, .int a0), (0, .ref (q 0)), (1, .int a0)]) hx hb dX7_layRow_1 rfl hl (by decide) rfl (fun ls hl => ?_)
  refine lv_iconst (v := (0 : Int32)) hx hb dX7_layRow_2 (by decide) ?_
  refine lv_istore_n (lv' := [(3, .int (0 : Int32)), (2, .int a0), (0, .ref (q 0)), (1, .int a0)]) hx hb dX7_layRow_3 rfl hl (by decide) rfl (fun ls hl => ?_)
  refine lv_iconst (v := (1 : Int32)) hx hb dX7_layRow_4 (by decide) ?_
  refine lv_istore (lv' := [(4, .int (1 : Int32)), (3, .int (0 : Int32)), (2, .int a0), (0, .ref (q 0)), (1, .int a0)]) hx hb dX7_layRow_5 hl (by decide) rfl (fun ls hl => ?_)
  refine lv_aload_n hx hb dX7_layRow_7 rfl (lv_at hl 3 rfl) ?_
  refine yg_s6 (x := v 6) hx hb hts iX7 hown hK hP k101 rfl dX7_layRow_8 ?_
  refine lv_iconst (v := (1 : Int32)) hx hb dX7_layRow_11 (by decide) ?_
  refine lv_isub hx hb dX7_layRow_12 ?_
  refine lv_istore (lv' := [(5, .int ((v 6) - (1 : Int32))), (4, .int (1 : Int32)), (3, .int (0 : Int32)), (2, .int a0), (0, .ref (q 0)), (1, .int a0)]) hx hb dX7_layRow_13 hl (by decide) rfl (fun ls hl => ?_)
  obtain ⟨n9, h⟩ := h
  exact B15 n9 _ _ _ _ _ _ _ h _ _ hP hD hS ls (lv_sub hl [4, 3, 2, 1, 0] rfl)
def wp_X7_matchOf_B53 (post : Int32 → (Nat → Int32) → (Nat → Nat → Int32) → Int64 → Prop) (K32 : (Nat → Int32) → (Nat → Nat → Int32) → Int64 → Int32 → Int32 → Int32 → Int32 → Prop) : Nat → (Nat → Int32) → (Nat → Nat → Int32) → Int64 → Int32 → Int32 → Int32 → Int32 → Int32 → Int32 → Prop
  | 0, _, _, _, _, _, _, _, _, _ => False
  | n53 + 1, v, f, z, x1, x2, x3, x4, x5, x6 => (((v 6) ≤ x6 → ((x5 ≤ x3 → K32 v f z x1 x2 x3 (x4 + 1)) ∧ (¬ x5 ≤ x3 → K32 v (va_up f 7 (va_cpy (f 6) (f 7) 0 0 4)) z x1 x2 x5 (x4 + 1)))) ∧ (¬ (v 6) ≤ x6 → (vp_in x6 4 ∧ (((f 6 (x6).toNatClampNeg) = (-1 : Int32) → wp_X7_matchOf_B53 post K32 n53 v f z x1 x2 x3 x4 (x5 + (0 : Int32)) (x6 + 1)) ∧ (¬ (f 6 (x6).toNatClampNeg) = (-1 : Int32) → wp_X7_matchOf_B53 post K32 n53 v f z x1 x2 x3 x4 (x5 + (1 : Int32)) (x6 + 1))))))
def wp_X7_matchOf_B32 (post : Int32 → (Nat → Int32) → (Nat → Nat → Int32) → Int64 → Prop) : Nat → (Nat → Int32) → (Nat → Nat → Int32) → Int64 → Int32 → Int32 → Int32 → Int32 → Prop
  | 0, _, _, _, _, _, _, _ => False
  | n32 + 1, v, f, z, x1, x2, x3, x4 => ((x2 ≤ x4 → ((x1 = 0 → post x3 v f z) ∧ (¬ x1 = 0 → (((v 6) ≤ (x1 - (10 : Int32)) → post (-1 : Int32) v f z) ∧ (¬ (v 6) ≤ (x1 - (10 : Int32)) → (vp_in (x1 - (10 : Int32)) 4 ∧ post (f 7 (x1 - (10 : Int32)).toNatClampNeg) v f z)))))) ∧ (¬ x2 ≤ x4 → (wp_X7_layRow (fun r1 v2 f3 z4 => ((r1 = 0 → wp_X7_matchOf_B32 post n32 v2 f3 z4 x1 x2 x3 (x4 + 1)) ∧ (¬ r1 = 0 → (∃ j9 : Nat, wp_X7_matchOf_B53 post (wp_X7_matchOf_B32 post n32) j9 v2 f3 z4 x1 x2 x3 x4 (0 : Int32) (0 : Int32))))) v f z x4)))
def wp_X7_matchOf_B4 (post : Int32 → (Nat → Int32) → (Nat → Nat → Int32) → Int64 → Prop) : Nat → (Nat → Int32) → (Nat → Nat → Int32) → Int64 → Int32 → Int32 → Int32 → Prop
  | 0, _, _, _, _, _, _ => False
  | n4 + 1, v, f, z, x1, x2, x3 => (((v 6) ≤ x3 → (∃ j9 : Nat, wp_X7_matchOf_B32 post j9 v f z x1 x2 (-1 : Int32) (0 : Int32))) ∧ (¬ (v 6) ≤ x3 → wp_X7_matchOf_B4 post n4 v f z x1 (x2 * ((v 9) + (1 : Int32))) (x3 + 1)))
def wp_X7_matchOf (post : Int32 → (Nat → Int32) → (Nat → Nat → Int32) → Int64 → Prop) (v : Nat → Int32) (f : Nat → Nat → Int32) (z : Int64) (a0 : Int32) : Prop := (∃ j9 : Nat, wp_X7_matchOf_B4 post j9 v f z a0 (1 : Int32) (0 : Int32))
def rmX7_matchOf : Room := { frames := 5, cells := 0, slots := 0, locals := 119 }
set_option maxHeartbeats 4000000 in
set_option maxRecDepth 100000 in
theorem c_X7_matchOf (l : Launch) (D : va_G) (cI : ClassId) (q : Nat → Nat) (sz : Nat) (post : Int32 → (Nat → Int32) → (Nat → Nat → Int32) → Int64 → Prop) (v : Nat → Int32) (f : Nat → Nat → Int32) (z : Int64) (a0 : Int32) (h : wp_X7_matchOf post v f z a0) : Met l yX7_matchOf wsX7_matchOf rmX7_matchOf (va_Pc [.ref (q 0), .int a0] (mP D cI (wY cI q v f z) sz)) (mQi post D cI (wY cI q) (va_A (wY cI q v f z) sz)) 0 0 (va_A (wY cI q v f z) sz) := by
  refine Met.ofW (cc := cX7_matchOf) (maxL := 7) (ret := (some .int)) (by decide) rfl ?_
  intro p e s m args below meth c s₁ B hml hv
  obtain ⟨rfl, hsz, ⟨hP, hK, hN⟩, hD0⟩ := hv
  have hx := B.exec
  have hb := B.bytes
  have hr := B.returns
  have hts := atoms_spec (ws := wsX7_matchOf) B.pre
  have hown : s.vm.findClass RX7 = some m.cls := findClass_of_methodNamed B.named
  have hlocks : meth.locks = false := B.notSynchronized
  subst hsz
  have hD := hD0.self (sz := s.heap.size)
  generalize hAe : va_A (wY cI q v f z) s.heap.size = A at hD ⊢
  have hA : ∀ q : Nat, s.heap.size ≤ q → A q := fun q h => by rw [← hAe]; exact Or.inr h
  have hS : va_S A s.heap s.heap [] := va_S.rf
  have iX7 : ∀ w ∈ wsX70, w ∈ wsX7_matchOf := fun _ h9 => List.mem_cons_of_mem _ (List.mem_append_right _ h9)
  have k101 := hts (.fieldLink RX7 101 "EndedByOthersModel" "speakers" "I") (by decide +kernel)
  have k111 := hts (.fieldLink RX7 111 "EndedByOthersModel" "sentences" "I") (by decide +kernel)
  have k28 := hts (.fieldLink RX7 28 "EndedByOthersModel" "row" "[I") (by decide +kernel)
  have k31 := hts (.fieldLink RX7 31 "EndedByOthersModel" "bestRow" "[I") (by decide +kernel)
  have hl := lv_entry ([.ref (q 0), .int a0]) (n := 7) (Nat.le_of_ble_eq_true rfl)
  rw [lg_entry_eq]
  generalize (lg_sl ([.ref (q 0), .int a0]) ++ List.replicate (7 - (lg_sl ([.ref (q 0), .int a0])).length) Slot.unset).toArray = ls at hl ⊢
  have hl : lv_has ls 7 [(0, .ref (q 0)), (1, .int a0)] := hl
  unfold wp_X7_matchOf at h
  have B32 : ∀ (n32 : Nat) (v : Nat → Int32) (f : Nat → Nat → Int32) (z : Int64) (x1 : Int32) (x2 : Int32) (x3 : Int32) (x4 : Int32), wp_X7_matchOf_B32 post n32 v f z x1 x2 x3 x4 → ∀ (H : Heap) (locs : List Loc), va_P D vwCl (wY cI q v f z) H → va_D A (wY cI q v f z) → va_S A s.heap H locs → ∀ (ls : Array Slot), lv_has ls 7 [(0, .ref (q 0)), (1, .int x1), (2, .int x2), (3, .int x3), (4, .int x4)] → W p l e (headSpec wsX7_matchOf rmX7_matchOf).room s m ([.ref (q 0), .int a0] : List Value).toArray below meth c H locs 0 0 (MQ below (mQi post D cI (wY cI q) A) ([.ref (q 0), .int a0] : List Value).toArray s 0 0 A) (F0 m 32 ls []) := by
    intro n32
    induction n32 with
    | zero =>
      intro v f z x1 x2 x3 x4 h
      exact False.elim h
    | succ n32 ih32 =>
      have B53 : ∀ (n53 : Nat) (v : Nat → Int32) (f : Nat → Nat → Int32) (z : Int64) (x1 : Int32) (x2 : Int32) (x3 : Int32) (x4 : Int32) (x5 : Int32) (x6 : Int32), wp_X7_matchOf_B53 post (wp_X7_matchOf_B32 post n32) n53 v f z x1 x2 x3 x4 x5 x6 → ∀ (H : Heap) (locs : List Loc), va_P D vwCl (wY cI q v f z) H → va_D A (wY cI q v f z) → va_S A s.heap H locs → ∀ (ls : Array Slot), lv_has ls 7 [(0, .ref (q 0)), (1, .int x1), (2, .int x2), (3, .int x3), (4, .int x4), (5, .int x5), (6, .int x6)] → W p l e (headSpec wsX7_matchOf rmX7_matchOf).room s m ([.ref (q 0), .int a0] : List Value).toArray below meth c H locs 0 0 (MQ below (mQi post D cI (wY cI q) A) ([.ref (q 0), .int a0] : List Value).toArray s 0 0 A) (F0 m 53 ls []) := by
        intro n53
        induction n53 with
        | zero =>
          intro v f z x1 x2 x3 x4 x5 x6 h
          exact False.elim h
        | succ n53 ih53 =>
          intro v f z x1 x2 x3 x4 x5 x6 h H locs hP hD hS ls hl
          rw [wp_X7_matchOf_B53] at h
          refine lv_iload hx hb dX7_matchOf_53 (lv_at hl 6 rfl) ?_
          refine lv_aload_n hx hb dX7_matchOf_55 rfl (lv_at hl 0 rfl) ?_
          refine yg_s6 (x := v 6) hx hb hts iX7 hown hK hP k101 rfl dX7_matchOf_56 ?_
          refine lv_icmp_ge (tgt := 89) hx hb dX7_matchOf_59 (by decide) (fun c9 => ?_) (fun c9 => ?_)
          · have h := h.1 c9
            refine lv_iload hx hb dX7_matchOf_89 (lv_at hl 5 rfl) ?_
            refine lv_iload_n hx hb dX7_matchOf_91 rfl (lv_at hl 3 rfl) ?_
            refine lv_icmp_le (tgt := 109) hx hb dX7_matchOf_92 (by decide) (fun c9 => ?_) (fun c9 => ?_)
            · have h := h.1 c9
              refine lv_iinc (v := x4 + 1) (lv' := [(4, .int (x4 + 1)), (0, .ref (q 0)), (1, .int x1), (2, .int x2), (3, .int x3), (5, .int x5), (6, .int x6)]) hx hb dX7_matchOf_109 hl (k := 4) rfl rfl (by decide) rfl (fun ls hl => ?_)
              refine lv_goto (tgt := 32) hx hb dX7_matchOf_112 (by decide) ?_
              exact ih32 _ _ _ _ _ _ _ h _ _ hP hD hS ls (lv_sub hl [1, 2, 3, 4, 0] rfl)
            · have h := h.2 c9
              refine lv_iload hx hb dX7_matchOf_95 (lv_at hl 5 rfl) ?_
              refine lv_istore_n (lv' := [(3, .int x5), (0, .ref (q 0)), (1, .int x1), (2, .int x2), (4, .int x4), (5, .int x5), (6, .int x6)]) hx hb dX7_matchOf_97 rfl hl (by decide) rfl (fun ls hl => ?_)
              refine lv_aload_n hx hb dX7_matchOf_98 rfl (lv_at hl 1 rfl) ?_
              refine yg_r0_7 hx hb hts iX7 hown hK hP k28 dX7_matchOf_99 ?_
              refine lv_aload_n hx hb dX7_matchOf_102 rfl (lv_at hl 1 rfl) ?_
              refine yg_r0_8 hx hb hts iX7 hown hK hP k31 dX7_matchOf_103 ?_
              refine cpW 7 8 ⟨hx, hb, hml, hown, hts⟩ (va_cwS 2 hts gX7_matchOf_X7_copy rfl rfl rfl (by decide +kernel) ⟨Nat.le_of_ble_eq_true rfl, Nat.le_of_ble_eq_true rfl⟩) (f0 := f 6) (f1 := f 7) (n := 4) (by decide) hK hP hN hD hS hA (by decide) rfl rfl hl.1 (rest := []) rfl (Nat.le_of_ble_eq_true rfl) dX7_matchOf_106 (Nat.zero_le _) (Nat.zero_le _) (fun H locs hP hD hS => ?_)
              have hP : va_P D vwCl (wY cI q v (va_up f 7 (va_cpy (f 6) (f 7) 0 0 4)) z) H := hP
              have hD : va_D A (wY cI q v (va_up f 7 (va_cpy (f 6) (f 7) 0 0 4)) z) := hD
              refine lv_iinc (v := x4 + 1) (lv' := [(4, .int (x4 + 1)), (3, .int x5), (0, .ref (q 0)), (1, .int x1), (2, .int x2), (5, .int x5), (6, .int x6)]) hx hb dX7_matchOf_109 hl (k := 4) rfl rfl (by decide) rfl (fun ls hl => ?_)
              refine lv_goto (tgt := 32) hx hb dX7_matchOf_112 (by decide) ?_
              exact ih32 _ _ _ _ _ _ _ h _ _ hP hD hS ls (lv_sub hl [2, 3, 4, 1, 0] rfl)
          · have h := h.2 c9
            refine lv_iload hx hb dX7_matchOf_62 (lv_at hl 5 rfl) ?_
            refine lv_aload_n hx hb dX7_matchOf_64 rfl (lv_at hl 0 rfl) ?_
            refine yg_r0_7 hx hb hts iX7 hown hK hP k28 dX7_matchOf_65 ?_
            refine lv_iload hx hb dX7_matchOf_68 (lv_at hl 6 rfl) ?_
            obtain ⟨h9, h⟩ := h
            refine yal_6 (x := f 6 (x6).toNatClampNeg) hx hb hK hP h9 rfl dX7_matchOf_70 ?_
            refine lv_iconst (v := (-1 : Int32)) hx hb dX7_matchOf_71 (by decide) ?_
            refine lv_icmp_ne (tgt := 79) hx hb dX7_matchOf_72 (by decide) (fun c9 => ?_) (fun c9 => ?_)
            · have h := h.2 c9
              refine lv_iconst (v := (1 : Int32)) hx hb dX7_matchOf_79 (by decide) ?_
              refine lv_iadd hx hb dX7_matchOf_80 ?_
              refine lv_istore (lv' := [(5, .int (x5 + (1 : Int32))), (0, .ref (q 0)), (1, .int x1), (2, .int x2), (3, .int x3), (4, .int x4), (6, .int x6)]) hx hb dX7_matchOf_81 hl (by decide) rfl (fun ls hl => ?_)
              refine lv_iinc (v := x6 + 1) (lv' := [(6, .int (x6 + 1)), (5, .int (x5 + (1 : Int32))), (0, .ref (q 0)), (1, .int x1), (2, .int x2), (3, .int x3), (4, .int x4)]) hx hb dX7_matchOf_83 hl (k := 6) rfl rfl (by decide) rfl (fun ls hl => ?_)
              refine lv_goto (tgt := 53) hx hb dX7_matchOf_86 (by decide) ?_
              exact ih53 _ _ _ _ _ _ _ _ _ h _ _ hP hD hS ls (lv_sub hl [2, 3, 4, 5, 6, 1, 0] rfl)
            · have h := h.1 c9
              refine lv_iconst (v := (0 : Int32)) hx hb dX7_matchOf_75 (by decide) ?_
              refine lv_goto (tgt := 80) hx hb dX7_matchOf_76 (by decide) ?_
              refine lv_iadd hx hb dX7_matchOf_80 ?_
              refine lv_istore (lv' := [(5, .int (x5 + (0 : Int32))), (0, .ref (q 0)), (1, .int x1), (2, .int x2), (3, .int x3), (4, .int x4), (6, .int x6)]) hx hb dX7_matchOf_81 hl (by decide) rfl (fun ls hl => ?_)
              refine lv_iinc (v := x6 + 1) (lv' := [(6, .int (x6 + 1)), (5, .int (x5 + (0 : Int32))), (0, .ref (q 0)), (1, .int x1), (2, .int x2), (3, .int x3), (4, .int x4)]) hx hb dX7_matchOf_83 hl (k := 6) rfl rfl (by decide) rfl (fun ls hl => ?_)
              refine lv_goto (tgt := 53) hx hb dX7_matchOf_86 (by decide) ?_
              exact ih53 _ _ _ _ _ _ _ _ _ h _ _ hP hD hS ls (lv_sub hl [2, 3, 4, 5, 6, 1, 0] rfl)
      intro v f z x1 x2 x3 x4 h H locs hP hD hS ls hl
      rw [wp_X7_matchOf_B32] at h
      refine lv_iload hx hb dX7_matchOf_32 (lv_at hl 4 rfl) ?_
      refine lv_iload_n hx hb dX7_matchOf_34 rfl (lv_at hl 2 rfl) ?_
      refine lv_icmp_ge (tgt := 115) hx hb dX7_matchOf_35 (by decide) (fun c9 => ?_) (fun c9 => ?_)
      · have h := h.1 c9
        refine lv_iload_n hx hb dX7_matchOf_115 rfl (lv_at hl 1 rfl) ?_
        refine lv_if_ne (tgt := 123) hx hb dX7_matchOf_116 (by decide) (fun c9 => ?_) (fun c9 => ?_)
        · have h := h.2 c9
          refine lv_iload_n hx hb dX7_matchOf_123 rfl (lv_at hl 1 rfl) ?_
          refine lv_bipush (v := (10 : Int32)) hx hb dX7_matchOf_124 (by decide) ?_
          refine lv_isub hx hb dX7_matchOf_126 ?_
          refine lv_aload_n hx hb dX7_matchOf_127 rfl (lv_at hl 0 rfl) ?_
          refine yg_s6 (x := v 6) hx hb hts iX7 hown hK hP k101 rfl dX7_matchOf_128 ?_
          refine lv_icmp_ge (tgt := 146) hx hb dX7_matchOf_131 (by decide) (fun c9 => ?_) (fun c9 => ?_)
          · have h := h.1 c9
            refine lv_iconst (v := (-1 : Int32)) hx hb dX7_matchOf_146 (by decide) ?_
            exact mi_ret (v, f, z) hx hb hr hlocks h hK hP hD hS dX7_matchOf_147
          · have h := h.2 c9
            refine lv_aload_n hx hb dX7_matchOf_134 rfl (lv_at hl 0 rfl) ?_
            refine yg_r0_8 hx hb hts iX7 hown hK hP k31 dX7_matchOf_135 ?_
            refine lv_iload_n hx hb dX7_matchOf_138 rfl (lv_at hl 1 rfl) ?_
            refine lv_bipush (v := (10 : Int32)) hx hb dX7_matchOf_139 (by decide) ?_
            refine lv_isub hx hb dX7_matchOf_141 ?_
            obtain ⟨h9, h⟩ := h
            refine yal_7 (x := f 7 (x1 - (10 : Int32)).toNatClampNeg) hx hb hK hP h9 rfl dX7_matchOf_142 ?_
            refine lv_goto (tgt := 147) hx hb dX7_matchOf_143 (by decide) ?_
            exact mi_ret (v, f, z) hx hb hr hlocks h hK hP hD hS dX7_matchOf_147
        · have h := h.1 c9
          refine lv_iload_n hx hb dX7_matchOf_119 rfl (lv_at hl 3 rfl) ?_
          refine lv_goto (tgt := 147) hx hb dX7_matchOf_120 (by decide) ?_
          exact mi_ret (v, f, z) hx hb hr hlocks h hK hP hD hS dX7_matchOf_147
      · have h := h.2 c9
        refine lv_aload_n hx hb dX7_matchOf_38 rfl (lv_at hl 0 rfl) ?_
        refine lv_iload hx hb dX7_matchOf_39 (lv_at hl 4 rfl) ?_
        refine mV_i ⟨hx, hb, hml, hown, hts⟩ (c_X7_layRow l D cI q _ _ _ _ _ _ h) (cwV 1 hts gX7_matchOf_X7_layRow rfl rfl rfl (by decide +kernel) ⟨Nat.le_of_ble_eq_true rfl, Nat.le_of_ble_eq_true rfl⟩) hK hP hN hD hS hA (va_recv hK hP (ci := 7) (q0 := 0) rfl rfl) rfl hl.1 (rest := []) rfl (Nat.le_of_ble_eq_true rfl) dX7_matchOf_41 (Nat.zero_le _) (Nat.zero_le _) (fun r1 v2 f3 z4 h H locs hP hD hS => ?_)
        refine lv_if_eq (tgt := 109) hx hb dX7_matchOf_44 (by decide) (fun c9 => ?_) (fun c9 => ?_)
        · have h := h.1 c9
          refine lv_iinc (v := x4 + 1) (lv' := [(4, .int (x4 + 1)), (0, .ref (q 0)), (1, .int x1), (2, .int x2), (3, .int x3)]) hx hb dX7_matchOf_109 hl (k := 4) rfl rfl (by decide) rfl (fun ls hl => ?_)
          refine lv_goto (tgt := 32) hx hb dX7_matchOf_112 (by decide) ?_
          exact ih32 _ _ _ _ _ _ _ h _ _ hP hD hS ls (lv_sub hl [1, 2, 3, 4, 0] rfl)
        · have h := h.2 c9
          refine lv_iconst (v := (0 : Int32)) hx hb dX7_matchOf_47 (by decide) ?_
          refine lv_istore (lv' := [(5, .int (0 : Int32)), (0, .ref (q 0)), (1, .int x1), (2, .int x2), (3, .int x3), (4, .int x4)]) hx hb dX7_matchOf_48 hl (by decide) rfl (fun ls hl => ?_)
          refine lv_iconst (v := (0 : Int32)) hx hb dX7_matchOf_50 (by decide) ?_
          refine lv_istore (lv' := [(6, .int (0 : Int32)), (5, .int (0 : Int32)), (0, .ref (q 0)), (1, .int x1), (2, .int x2), (3, .int x3), (4, .int x4)]) hx hb dX7_matchOf_51 hl (by decide) rfl (fun ls hl => ?_)
          obtain ⟨n9, h⟩ := h
          exact B53 n9 _ _ _ _ _ _ _ _ _ h _ _ hP hD hS ls (lv_sub hl [2, 3, 4, 5, 6, 1, 0] rfl)
  have B4 : ∀ (n4 : Nat) (v : Nat → Int32) (f : Nat → Nat → Int32) (z : Int64) (x1 : Int32) (x2 : Int32) (x3 : Int32), wp_X7_matchOf_B4 post n4 v f z x1 x2 x3 → ∀ (H : Heap) (locs : List Loc), va_P D vwCl (wY cI q v f z) H → va_D A (wY cI q v f z) → va_S A s.heap H locs → ∀ (ls : Array Slot), lv_has ls 7 [(0, .ref (q 0)), (1, .int x1), (2, .int x2), (3, .int x3)] → W p l e (headSpec wsX7_matchOf rmX7_matchOf).room s m ([.ref (q 0), .int a0] : List Value).toArray below meth c H locs 0 0 (MQ below (mQi post D cI (wY cI q) A) ([.ref (q 0), .int a0] : List Value).toArray s 0 0 A) (F0 m 4 ls []) := by
    intro n4
    induction n4 with
    | zero =>
      intro v f z x1 x2 x3 h
      exact False.elim h
    | succ n4 ih4 =>
      intro v f z x1 x2 x3 h H locs hP hD hS ls hl
      rw [wp_X7_matchOf_B4] at h
      refine lv_iload_n hx hb dX7_matchOf_4 rfl (lv_at hl 3 rfl) ?_
      refine lv_aload_n hx hb dX7_matchOf_5 rfl (lv_at hl 0 rfl) ?_
      refine yg_s6 (x := v 6) hx hb hts iX7 hown hK hP k101 rfl dX7_matchOf_6 ?_
      refine lv_icmp_ge (tgt := 27) hx hb dX7_matchOf_9 (by decide) (fun c9 => ?_) (fun c9 => ?_)
      · have h := h.1 c9
        refine lv_iconst (v := (-1 : Int32)) hx hb dX7_matchOf_27 (by decide) ?_
        refine lv_istore_n (lv' := [(3, .int (-1 : Int32)), (0, .ref (q 0)), (1, .int x1), (2, .int x2)]) hx hb dX7_matchOf_28 rfl hl (by decide) rfl (fun ls hl => ?_)
        refine lv_iconst (v := (0 : Int32)) hx hb dX7_matchOf_29 (by decide) ?_
        refine lv_istore (lv' := [(4, .int (0 : Int32)), (3, .int (-1 : Int32)), (0, .ref (q 0)), (1, .int x1), (2, .int x2)]) hx hb dX7_matchOf_30 hl (by decide) rfl (fun ls hl => ?_)
        obtain ⟨n9, h⟩ := h
        exact B32 n9 _ _ _ _ _ _ _ h _ _ hP hD hS ls (lv_sub hl [2, 3, 4, 1, 0] rfl)
      · have h := h.2 c9
        refine lv_iload_n hx hb dX7_matchOf_12 rfl (lv_at hl 2 rfl) ?_
        refine lv_aload_n hx hb dX7_matchOf_13 rfl (lv_at hl 0 rfl) ?_
        refine yg_s9 (x := v 9) hx hb hts iX7 hown hK hP k111 rfl dX7_matchOf_14 ?_
        refine lv_iconst (v := (1 : Int32)) hx hb dX7_matchOf_17 (by decide) ?_
        refine lv_iadd hx hb dX7_matchOf_18 ?_
        refine lv_imul hx hb dX7_matchOf_19 ?_
        refine lv_istore_n (lv' := [(2, .int (x2 * ((v 9) + (1 : Int32)))), (0, .ref (q 0)), (1, .int x1), (3, .int x3)]) hx hb dX7_matchOf_20 rfl hl (by decide) rfl (fun ls hl => ?_)
        refine lv_iinc (v := x3 + 1) (lv' := [(3, .int (x3 + 1)), (2, .int (x2 * ((v 9) + (1 : Int32)))), (0, .ref (q 0)), (1, .int x1)]) hx hb dX7_matchOf_21 hl (k := 3) rfl rfl (by decide) rfl (fun ls hl => ?_)
        refine lv_goto (tgt := 4) hx hb dX7_matchOf_24 (by decide) ?_
        exact ih4 _ _ _ _ _ _ h _ _ hP hD hS ls (lv_sub hl [2, 3, 1, 0] rfl)
  refine lv_iconst (v := (1 : Int32)) hx hb dX7_matchOf_0 (by decide) ?_
  refine lv_istore_n (lv' := [(2, .int (1 : Int32)), (0, .ref (q 0)), (1, .int a0)]) hx hb dX7_matchOf_1 rfl hl (by decide) rfl (fun ls hl => ?_)
  refine lv_iconst (v := (0 : Int32)) hx hb dX7_matchOf_2 (by decide) ?_
  refine lv_istore_n (lv' := [(3, .int (0 : Int32)), (2, .int (1 : Int32)), (0, .ref (q 0)), (1, .int a0)]) hx hb dX7_matchOf_3 rfl hl (by decide) rfl (fun ls hl => ?_)
  obtain ⟨n9, h⟩ := h
  exact B4 n9 _ _ _ _ _ _ h _ _ hP hD hS ls (lv_sub hl [2, 3, 1, 0] rfl)
def wp_X7_match (post : Int32 → (Nat → Int32) → (Nat → Nat → Int32) → Int64 → Prop) (v : Nat → Int32) (f : Nat → Nat → Int32) (z : Int64) (a0 : Int32) : Prop := ((a0 = 0 → (wp_X7_lacks (fun r1 => ((r1 = 0 → (wp_X7_matchOf (fun r2 v3 f4 z5 => post r2 v3 f4 z5) v f z a0)) ∧ (¬ r1 = 0 → post (-103 : Int32) v f z))) v f z)) ∧ (¬ a0 = 0 → (wp_X7_in (fun r6 => ((r6 = 0 → post (-102 : Int32) v f z) ∧ (¬ r6 = 0 → (wp_X7_lacks (fun r7 => ((r7 = 0 → (wp_X7_matchOf (fun r8 v9 f10 z11 => post r8 v9 f10 z11) v f z a0)) ∧ (¬ r7 = 0 → post (-103 : Int32) v f z))) v f z)))) ((a0).toInt64) (10 : Int64) (13 : Int64))))
def rmX7_match : Room := { frames := 6, cells := 0, slots := 0, locals := 145 }
set_option maxHeartbeats 4000000 in
set_option maxRecDepth 100000 in
theorem c_X7_match (l : Launch) (D : va_G) (cI : ClassId) (q : Nat → Nat) (sz : Nat) (post : Int32 → (Nat → Int32) → (Nat → Nat → Int32) → Int64 → Prop) (v : Nat → Int32) (f : Nat → Nat → Int32) (z : Int64) (a0 : Int32) (h : wp_X7_match post v f z a0) : Met l yX7_match wsX7_match rmX7_match (va_Pc [.ref (q 0), .int a0] (mP D cI (wY cI q v f z) sz)) (mQi post D cI (wY cI q) (va_A (wY cI q v f z) sz)) 0 0 (va_A (wY cI q v f z) sz) := by
  refine Met.ofW (cc := cX7_match) (maxL := 2) (ret := (some .int)) (by decide) rfl ?_
  intro p e s m args below meth c s₁ B hml hv
  obtain ⟨rfl, hsz, ⟨hP, hK, hN⟩, hD0⟩ := hv
  have hx := B.exec
  have hb := B.bytes
  have hr := B.returns
  have hts := atoms_spec (ws := wsX7_match) B.pre
  have hown : s.vm.findClass RX7 = some m.cls := findClass_of_methodNamed B.named
  have hlocks : meth.locks = false := B.notSynchronized
  subst hsz
  have hD := hD0.self (sz := s.heap.size)
  generalize hAe : va_A (wY cI q v f z) s.heap.size = A at hD ⊢
  have hA : ∀ q : Nat, s.heap.size ≤ q → A q := fun q h => by rw [← hAe]; exact Or.inr h
  have hS : va_S A s.heap s.heap [] := va_S.rf
  have hl := lv_entry ([.ref (q 0), .int a0]) (n := 2) (Nat.le_of_ble_eq_true rfl)
  rw [lg_entry_eq]
  generalize (lg_sl ([.ref (q 0), .int a0]) ++ List.replicate (2 - (lg_sl ([.ref (q 0), .int a0])).length) Slot.unset).toArray = ls at hl ⊢
  have hl : lv_has ls 2 [(0, .ref (q 0)), (1, .int a0)] := hl
  unfold wp_X7_match at h
  refine lv_iload_n hx hb dX7_match_0 rfl (lv_at hl 1 rfl) ?_
  refine lv_if_eq (tgt := 21) hx hb dX7_match_1 (by decide) (fun c9 => ?_) (fun c9 => ?_)
  · have h := h.1 c9
    refine lv_aload_n hx hb dX7_match_21 rfl (lv_at hl 0 rfl) ?_
    refine rV_i ⟨hx, hb, hml, hown, hts⟩ (c_X7_lacks l D cI q _ _ _ _ h) (cwV 0 hts gX7_match_X7_lacks rfl rfl rfl (by decide +kernel) ⟨Nat.le_of_ble_eq_true rfl, Nat.le_of_ble_eq_true rfl⟩) hK hP hN (va_recv hK hP (ci := 7) (q0 := 0) rfl rfl) rfl hl.1 (rest := []) rfl (Nat.le_of_ble_eq_true rfl) dX7_match_22 (Nat.zero_le _) (Nat.zero_le _) (fun r1 h => ?_)
    refine lv_if_eq (tgt := 33) hx hb dX7_match_25 (by decide) (fun c9 => ?_) (fun c9 => ?_)
    · have h := h.1 c9
      refine lv_aload_n hx hb dX7_match_33 rfl (lv_at hl 0 rfl) ?_
      refine lv_iload_n hx hb dX7_match_34 rfl (lv_at hl 1 rfl) ?_
      refine mV_i ⟨hx, hb, hml, hown, hts⟩ (c_X7_matchOf l D cI q _ _ _ _ _ _ h) (cwV 1 hts gX7_match_X7_matchOf rfl rfl rfl (by decide +kernel) ⟨Nat.le_of_ble_eq_true rfl, Nat.le_of_ble_eq_true rfl⟩) hK hP hN hD hS hA (va_recv hK hP (ci := 7) (q0 := 0) rfl rfl) rfl hl.1 (rest := []) rfl (Nat.le_of_ble_eq_true rfl) dX7_match_35 (Nat.zero_le _) (Nat.zero_le _) (fun r2 v3 f4 z5 h H locs hP hD hS => ?_)
      exact mi_ret (v3, f4, z5) hx hb hr hlocks h hK hP hD hS dX7_match_38
    · have h := h.2 c9
      refine lv_bipush (v := (-103 : Int32)) hx hb dX7_match_28 (by decide) ?_
      refine lv_goto (tgt := 38) hx hb dX7_match_30 (by decide) ?_
      exact mi_ret (v, f, z) hx hb hr hlocks h hK hP hD hS dX7_match_38
  · have h := h.2 c9
    refine lv_iload_n hx hb dX7_match_4 rfl (lv_at hl 1 rfl) ?_
    refine lv_i2l (v := (a0).toInt64) hx hb dX7_match_5 rfl ?_
    refine lv_ldc2 (v := (10 : Int64)) hx hb hown (hts (.constantLong RX7 182 (10)) (by decide +kernel)) dX7_match_6 ?_
    refine lv_ldc2 (v := (13 : Int64)) hx hb hown (hts (.constantLong RX7 184 (13)) (by decide +kernel)) dX7_match_9 ?_
    refine rS_i ⟨hx, hb, hml, hown, hts⟩ (c_X7_in l D cI _ _ _ _ h) (va_cwS 3 hts gX7_match_X7_in rfl rfl rfl (by decide +kernel) ⟨Nat.le_of_ble_eq_true rfl, Nat.le_of_ble_eq_true rfl⟩) hK wPnil hN rfl hl.1 (rest := []) rfl (Nat.le_of_ble_eq_true rfl) dX7_match_12 (Nat.zero_le _) (Nat.zero_le _) (fun r6 h => ?_)
    refine lv_if_ne (tgt := 21) hx hb dX7_match_15 (by decide) (fun c9 => ?_) (fun c9 => ?_)
    · have h := h.2 c9
      refine lv_aload_n hx hb dX7_match_21 rfl (lv_at hl 0 rfl) ?_
      refine rV_i ⟨hx, hb, hml, hown, hts⟩ (c_X7_lacks l D cI q _ _ _ _ h) (cwV 0 hts gX7_match_X7_lacks rfl rfl rfl (by decide +kernel) ⟨Nat.le_of_ble_eq_true rfl, Nat.le_of_ble_eq_true rfl⟩) hK hP hN (va_recv hK hP (ci := 7) (q0 := 0) rfl rfl) rfl hl.1 (rest := []) rfl (Nat.le_of_ble_eq_true rfl) dX7_match_22 (Nat.zero_le _) (Nat.zero_le _) (fun r7 h => ?_)
      refine lv_if_eq (tgt := 33) hx hb dX7_match_25 (by decide) (fun c9 => ?_) (fun c9 => ?_)
      · have h := h.1 c9
        refine lv_aload_n hx hb dX7_match_33 rfl (lv_at hl 0 rfl) ?_
        refine lv_iload_n hx hb dX7_match_34 rfl (lv_at hl 1 rfl) ?_
        refine mV_i ⟨hx, hb, hml, hown, hts⟩ (c_X7_matchOf l D cI q _ _ _ _ _ _ h) (cwV 1 hts gX7_match_X7_matchOf rfl rfl rfl (by decide +kernel) ⟨Nat.le_of_ble_eq_true rfl, Nat.le_of_ble_eq_true rfl⟩) hK hP hN hD hS hA (va_recv hK hP (ci := 7) (q0 := 0) rfl rfl) rfl hl.1 (rest := []) rfl (Nat.le_of_ble_eq_true rfl) dX7_match_35 (Nat.zero_le _) (Nat.zero_le _) (fun r8 v9 f10 z11 h H locs hP hD hS => ?_)
        exact mi_ret (v9, f10, z11) hx hb hr hlocks h hK hP hD hS dX7_match_38
      · have h := h.2 c9
        refine lv_bipush (v := (-103 : Int32)) hx hb dX7_match_28 (by decide) ?_
        refine lv_goto (tgt := 38) hx hb dX7_match_30 (by decide) ?_
        exact mi_ret (v, f, z) hx hb hr hlocks h hK hP hD hS dX7_match_38
    · have h := h.1 c9
      refine lv_bipush (v := (-102 : Int32)) hx hb dX7_match_18 (by decide) ?_
      exact mi_ret (v, f, z) hx hb hr hlocks h hK hP hD hS dX7_match_20
def wp_X7_hear (post : Int32 → (Nat → Int32) → (Nat → Nat → Int32) → Int64 → Prop) (v : Nat → Int32) (f : Nat → Nat → Int32) (z : Int64) (a0 : Int32) (a1 : Int32) (a2 : Int32) : Prop := (wp_X7_isSpeaker (fun r1 => ((r1 = 0 → post (-101 : Int32) v f z) ∧ (¬ r1 = 0 → (wp_X7_isOpening (fun r2 => ((r2 = 0 → post (-101 : Int32) v f z) ∧ (¬ r2 = 0 → (wp_X7_in (fun r3 => ((r3 = 0 → post (-102 : Int32) v f z) ∧ (¬ r3 = 0 → (((v 10) = (8 : Int32) → post (-104 : Int32) v f z) ∧ (¬ (v 10) = (8 : Int32) → (vp_in ((3 : Int32) * (v 10)) 24 ∧ (vp_in (((3 : Int32) * (v 10)) + (1 : Int32)) 24 ∧ (vp_in (((3 : Int32) * (v 10)) + (2 : Int32)) 24 ∧ post ((v 10) + (1 : Int32)) (upd v 10 ((v 10) + (1 : Int32))) (va_up (va_up (va_up f 8 (upd (f 8) ((3 : Int32) * (v 10)).toNatClampNeg a0)) 8 (upd (upd (f 8) ((3 : Int32) * (v 10)).toNatClampNeg a0) (((3 : Int32) * (v 10)) + (1 : Int32)).toNatClampNeg a1)) 8 (upd (upd (upd (f 8) ((3 : Int32) * (v 10)).toNatClampNeg a0) (((3 : Int32) * (v 10)) + (1 : Int32)).toNatClampNeg a1) (((3 : Int32) * (v 10)) + (2 : Int32)).toNatClampNeg a2)) z)))))))) ((a2).toInt64) (-1 : Int64) (5 : Int64))))) v f z a1)))) v f z a0)
def rmX7_hear : Room := { frames := 2, cells := 0, slots := 0, locals := 46 }
set_option maxHeartbeats 4000000 in
set_option maxRecDepth 100000 in
theorem c_X7_hear (l : Launch) (D : va_G) (cI : ClassId) (q : Nat → Nat) (sz : Nat) (post : Int32 → (Nat → Int32) → (Nat → Nat → Int32) → Int64 → Prop) (v : Nat → Int32) (f : Nat → Nat → Int32) (z : Int64) (a0 : Int32) (a1 : Int32) (a2 : Int32) (h : wp_X7_hear post v f z a0 a1 a2) : Met l yX7_hear wsX7_hear rmX7_hear (va_Pc [.ref (q 0), .int a0, .int a1, .int a2] (mP D cI (wY cI q v f z) sz)) (mQi post D cI (wY cI q) (va_A (wY cI q v f z) sz)) 0 0 (va_A (wY cI q v f z) sz) := by
  refine Met.ofW (cc := cX7_hear) (maxL := 4) (ret := (some .int)) (by decide) rfl ?_
  intro p e s m args below meth c s₁ B hml hv
  obtain ⟨rfl, hsz, ⟨hP, hK, hN⟩, hD0⟩ := hv
  have hx := B.exec
  have hb := B.bytes
  have hr := B.returns
  have hts := atoms_spec (ws := wsX7_hear) B.pre
  have hown : s.vm.findClass RX7 = some m.cls := findClass_of_methodNamed B.named
  have hlocks : meth.locks = false := B.notSynchronized
  subst hsz
  have hD := hD0.self (sz := s.heap.size)
  generalize hAe : va_A (wY cI q v f z) s.heap.size = A at hD ⊢
  have hA : ∀ q : Nat, s.heap.size ≤ q → A q := fun q h => by rw [← hAe]; exact Or.inr h
  have hS : va_S A s.heap s.heap [] := va_S.rf
  have iX7 : ∀ w ∈ wsX70, w ∈ wsX7_hear := fun _ h9 => List.mem_cons_of_mem _ (List.mem_append_right _ h9)
  have k114 := hts (.fieldLink RX7 114 "EndedByOthersModel" "heardMany" "I") (by decide +kernel)
  have k34 := hts (.fieldLink RX7 34 "EndedByOthersModel" "heards" "[I") (by decide +kernel)
  have hl := lv_entry ([.ref (q 0), .int a0, .int a1, .int a2]) (n := 4) (Nat.le_of_ble_eq_true rfl)
  rw [lg_entry_eq]
  generalize (lg_sl ([.ref (q 0), .int a0, .int a1, .int a2]) ++ List.replicate (4 - (lg_sl ([.ref (q 0), .int a0, .int a1, .int a2])).length) Slot.unset).toArray = ls at hl ⊢
  have hl : lv_has ls 4 [(0, .ref (q 0)), (1, .int a0), (2, .int a1), (3, .int a2)] := hl
  unfold wp_X7_hear at h
  refine lv_aload_n hx hb dX7_hear_0 rfl (lv_at hl 0 rfl) ?_
  refine lv_iload_n hx hb dX7_hear_1 rfl (lv_at hl 1 rfl) ?_
  refine rV_i ⟨hx, hb, hml, hown, hts⟩ (c_X7_isSpeaker l D cI q _ _ _ _ _ h) (cwV 1 hts gX7_hear_X7_isSpeaker rfl rfl rfl (by decide +kernel) ⟨Nat.le_of_ble_eq_true rfl, Nat.le_of_ble_eq_true rfl⟩) hK hP hN (va_recv hK hP (ci := 7) (q0 := 0) rfl rfl) rfl hl.1 (rest := []) rfl (Nat.le_of_ble_eq_true rfl) dX7_hear_2 (Nat.zero_le _) (Nat.zero_le _) (fun r1 h => ?_)
  refine lv_if_eq (tgt := 16) hx hb dX7_hear_5 (by decide) (fun c9 => ?_) (fun c9 => ?_)
  · have h := h.1 c9
    refine lv_bipush (v := (-101 : Int32)) hx hb dX7_hear_16 (by decide) ?_
    exact mi_ret (v, f, z) hx hb hr hlocks h hK hP hD hS dX7_hear_18
  · have h := h.2 c9
    refine lv_aload_n hx hb dX7_hear_8 rfl (lv_at hl 0 rfl) ?_
    refine lv_iload_n hx hb dX7_hear_9 rfl (lv_at hl 2 rfl) ?_
    refine rV_i ⟨hx, hb, hml, hown, hts⟩ (c_X7_isOpening l D cI q _ _ _ _ _ h) (cwV 1 hts gX7_hear_X7_isOpening rfl rfl rfl (by decide +kernel) ⟨Nat.le_of_ble_eq_true rfl, Nat.le_of_ble_eq_true rfl⟩) hK hP hN (va_recv hK hP (ci := 7) (q0 := 0) rfl rfl) rfl hl.1 (rest := []) rfl (Nat.le_of_ble_eq_true rfl) dX7_hear_10 (Nat.zero_le _) (Nat.zero_le _) (fun r2 h => ?_)
    refine lv_if_ne (tgt := 19) hx hb dX7_hear_13 (by decide) (fun c9 => ?_) (fun c9 => ?_)
    · have h := h.2 c9
      refine lv_iload_n hx hb dX7_hear_19 rfl (lv_at hl 3 rfl) ?_
      refine lv_i2l (v := (a2).toInt64) hx hb dX7_hear_20 rfl ?_
      refine lv_ldc2 (v := (-1 : Int64)) hx hb hown (hts (.constantLong RX7 189 (-1)) (by decide +kernel)) dX7_hear_21 ?_
      refine lv_ldc2 (v := (5 : Int64)) hx hb hown (hts (.constantLong RX7 74 (5)) (by decide +kernel)) dX7_hear_24 ?_
      refine rS_i ⟨hx, hb, hml, hown, hts⟩ (c_X7_in l D cI _ _ _ _ h) (va_cwS 3 hts gX7_hear_X7_in rfl rfl rfl (by decide +kernel) ⟨Nat.le_of_ble_eq_true rfl, Nat.le_of_ble_eq_true rfl⟩) hK wPnil hN rfl hl.1 (rest := []) rfl (Nat.le_of_ble_eq_true rfl) dX7_hear_27 (Nat.zero_le _) (Nat.zero_le _) (fun r3 h => ?_)
      refine lv_if_ne (tgt := 36) hx hb dX7_hear_30 (by decide) (fun c9 => ?_) (fun c9 => ?_)
      · have h := h.2 c9
        refine lv_aload_n hx hb dX7_hear_36 rfl (lv_at hl 0 rfl) ?_
        refine yg_s10 (x := v 10) hx hb hts iX7 hown hK hP k114 rfl dX7_hear_37 ?_
        refine lv_bipush (v := (8 : Int32)) hx hb dX7_hear_40 (by decide) ?_
        refine lv_icmp_ne (tgt := 48) hx hb dX7_hear_42 (by decide) (fun c9 => ?_) (fun c9 => ?_)
        · have h := h.2 c9
          refine lv_aload_n hx hb dX7_hear_48 rfl (lv_at hl 0 rfl) ?_
          refine yg_r0_9 hx hb hts iX7 hown hK hP k34 dX7_hear_49 ?_
          refine lv_iconst (v := (3 : Int32)) hx hb dX7_hear_52 (by decide) ?_
          refine lv_aload_n hx hb dX7_hear_53 rfl (lv_at hl 0 rfl) ?_
          refine yg_s10 (x := v 10) hx hb hts iX7 hown hK hP k114 rfl dX7_hear_54 ?_
          refine lv_imul hx hb dX7_hear_57 ?_
          refine lv_iload_n hx hb dX7_hear_58 rfl (lv_at hl 1 rfl) ?_
          obtain ⟨h9, h⟩ := h
          refine yas_8 hx hb hK hP hD hS h9 dX7_hear_59 (fun H locs hP hD hS => ?_)
          have hP : va_P D vwCl (wY cI q v (va_up f 8 (upd (f 8) ((3 : Int32) * (v 10)).toNatClampNeg a0)) z) H := hP
          have hD : va_D A (wY cI q v (va_up f 8 (upd (f 8) ((3 : Int32) * (v 10)).toNatClampNeg a0)) z) := hD
          refine lv_aload_n hx hb dX7_hear_60 rfl (lv_at hl 0 rfl) ?_
          refine yg_r0_9 hx hb hts iX7 hown hK hP k34 dX7_hear_61 ?_
          refine lv_iconst (v := (3 : Int32)) hx hb dX7_hear_64 (by decide) ?_
          refine lv_aload_n hx hb dX7_hear_65 rfl (lv_at hl 0 rfl) ?_
          refine yg_s10 (x := v 10) hx hb hts iX7 hown hK hP k114 rfl dX7_hear_66 ?_
          refine lv_imul hx hb dX7_hear_69 ?_
          refine lv_iconst (v := (1 : Int32)) hx hb dX7_hear_70 (by decide) ?_
          refine lv_iadd hx hb dX7_hear_71 ?_
          refine lv_iload_n hx hb dX7_hear_72 rfl (lv_at hl 2 rfl) ?_
          obtain ⟨h9, h⟩ := h
          refine yas_8 hx hb hK hP hD hS h9 dX7_hear_73 (fun H locs hP hD hS => ?_)
          have hP : va_P D vwCl (wY cI q v (va_up (va_up f 8 (upd (f 8) ((3 : Int32) * (v 10)).toNatClampNeg a0)) 8 (upd (upd (f 8) ((3 : Int32) * (v 10)).toNatClampNeg a0) (((3 : Int32) * (v 10)) + (1 : Int32)).toNatClampNeg a1)) z) H := hP
          have hD : va_D A (wY cI q v (va_up (va_up f 8 (upd (f 8) ((3 : Int32) * (v 10)).toNatClampNeg a0)) 8 (upd (upd (f 8) ((3 : Int32) * (v 10)).toNatClampNeg a0) (((3 : Int32) * (v 10)) + (1 : Int32)).toNatClampNeg a1)) z) := hD
          refine lv_aload_n hx hb dX7_hear_74 rfl (lv_at hl 0 rfl) ?_
          refine yg_r0_9 hx hb hts iX7 hown hK hP k34 dX7_hear_75 ?_
          refine lv_iconst (v := (3 : Int32)) hx hb dX7_hear_78 (by decide) ?_
          refine lv_aload_n hx hb dX7_hear_79 rfl (lv_at hl 0 rfl) ?_
          refine yg_s10 (x := v 10) hx hb hts iX7 hown hK hP k114 rfl dX7_hear_80 ?_
          refine lv_imul hx hb dX7_hear_83 ?_
          refine lv_iconst (v := (2 : Int32)) hx hb dX7_hear_84 (by decide) ?_
          refine lv_iadd hx hb dX7_hear_85 ?_
          refine lv_iload_n hx hb dX7_hear_86 rfl (lv_at hl 3 rfl) ?_
          obtain ⟨h9, h⟩ := h
          refine yas_8 hx hb hK hP hD hS h9 dX7_hear_87 (fun H locs hP hD hS => ?_)
          have hP : va_P D vwCl (wY cI q v (va_up (va_up (va_up f 8 (upd (f 8) ((3 : Int32) * (v 10)).toNatClampNeg a0)) 8 (upd (upd (f 8) ((3 : Int32) * (v 10)).toNatClampNeg a0) (((3 : Int32) * (v 10)) + (1 : Int32)).toNatClampNeg a1)) 8 (upd (upd (upd (f 8) ((3 : Int32) * (v 10)).toNatClampNeg a0) (((3 : Int32) * (v 10)) + (1 : Int32)).toNatClampNeg a1) (((3 : Int32) * (v 10)) + (2 : Int32)).toNatClampNeg a2)) z) H := hP
          have hD : va_D A (wY cI q v (va_up (va_up (va_up f 8 (upd (f 8) ((3 : Int32) * (v 10)).toNatClampNeg a0)) 8 (upd (upd (f 8) ((3 : Int32) * (v 10)).toNatClampNeg a0) (((3 : Int32) * (v 10)) + (1 : Int32)).toNatClampNeg a1)) 8 (upd (upd (upd (f 8) ((3 : Int32) * (v 10)).toNatClampNeg a0) (((3 : Int32) * (v 10)) + (1 : Int32)).toNatClampNeg a1) (((3 : Int32) * (v 10)) + (2 : Int32)).toNatClampNeg a2)) z) := hD
          refine lv_aload_n hx hb dX7_hear_88 rfl (lv_at hl 0 rfl) ?_
          refine lv_dup hx hb dX7_hear_89 rfl ?_
          refine yg_s10 (x := v 10) hx hb hts iX7 hown hK hP k114 rfl dX7_hear_90 ?_
          refine lv_iconst (v := (1 : Int32)) hx hb dX7_hear_93 (by decide) ?_
          refine lv_iadd hx hb dX7_hear_94 ?_
          refine yp_s10 hx hb hts iX7 hown hK hP hD hS k114 dX7_hear_95 (fun H locs hP hD hS => ?_)
          refine lv_aload_n hx hb dX7_hear_98 rfl (lv_at hl 0 rfl) ?_
          refine yg_s10 (x := (v 10) + (1 : Int32)) hx hb hts iX7 hown hK hP k114 rfl dX7_hear_99 ?_
          exact mi_ret (upd v 10 ((v 10) + (1 : Int32)), va_up (va_up (va_up f 8 (upd (f 8) ((3 : Int32) * (v 10)).toNatClampNeg a0)) 8 (upd (upd (f 8) ((3 : Int32) * (v 10)).toNatClampNeg a0) (((3 : Int32) * (v 10)) + (1 : Int32)).toNatClampNeg a1)) 8 (upd (upd (upd (f 8) ((3 : Int32) * (v 10)).toNatClampNeg a0) (((3 : Int32) * (v 10)) + (1 : Int32)).toNatClampNeg a1) (((3 : Int32) * (v 10)) + (2 : Int32)).toNatClampNeg a2), z) hx hb hr hlocks h hK hP hD hS dX7_hear_102
        · have h := h.1 c9
          refine lv_bipush (v := (-104 : Int32)) hx hb dX7_hear_45 (by decide) ?_
          exact mi_ret (v, f, z) hx hb hr hlocks h hK hP hD hS dX7_hear_47
      · have h := h.1 c9
        refine lv_bipush (v := (-102 : Int32)) hx hb dX7_hear_33 (by decide) ?_
        exact mi_ret (v, f, z) hx hb hr hlocks h hK hP hD hS dX7_hear_35
    · have h := h.1 c9
      refine lv_bipush (v := (-101 : Int32)) hx hb dX7_hear_16 (by decide) ?_
      exact mi_ret (v, f, z) hx hb hr hlocks h hK hP hD hS dX7_hear_18
def wp_X7_forget (post : Int32 → (Nat → Int32) → (Nat → Nat → Int32) → Int64 → Prop) (v : Nat → Int32) (f : Nat → Nat → Int32) (z : Int64) : Prop := post (v 10) (upd v 10 (0 : Int32)) f z
def rmX7_forget : Room := { frames := 0, cells := 0, slots := 0, locals := 0 }
set_option maxHeartbeats 4000000 in
set_option maxRecDepth 100000 in
theorem c_X7_forget (l : Launch) (D : va_G) (cI : ClassId) (q : Nat → Nat) (sz : Nat) (post : Int32 → (Nat → Int32) → (Nat → Nat → Int32) → Int64 → Prop) (v : Nat → Int32) (f : Nat → Nat → Int32) (z : Int64) (h : wp_X7_forget post v f z) : Met l yX7_forget wsX7_forget rmX7_forget (va_Pc [.ref (q 0)] (mP D cI (wY cI q v f z) sz)) (mQi post D cI (wY cI q) (va_A (wY cI q v f z) sz)) 0 0 (va_A (wY cI q v f z) sz) := by
  refine Met.ofW (cc := cX7_forget) (maxL := 2) (ret := (some .int)) (by decide) rfl ?_
  intro p e s m args below meth c s₁ B hml hv
  obtain ⟨rfl, hsz, ⟨hP, hK, hN⟩, hD0⟩ := hv
  have hx := B.exec
  have hb := B.bytes
  have hr := B.returns
  have hts := atoms_spec (ws := wsX7_forget) B.pre
  have hown : s.vm.findClass RX7 = some m.cls := findClass_of_methodNamed B.named
  have hlocks : meth.locks = false := B.notSynchronized
  subst hsz
  have hD := hD0.self (sz := s.heap.size)
  generalize hAe : va_A (wY cI q v f z) s.heap.size = A at hD ⊢
  have hA : ∀ q : Nat, s.heap.size ≤ q → A q := fun q h => by rw [← hAe]; exact Or.inr h
  have hS : va_S A s.heap s.heap [] := va_S.rf
  have iX7 : ∀ w ∈ wsX70, w ∈ wsX7_forget := fun _ h9 => List.mem_cons_of_mem _ (List.mem_append_right _ h9)
  have k114 := hts (.fieldLink RX7 114 "EndedByOthersModel" "heardMany" "I") (by decide +kernel)
  have hl := lv_entry ([.ref (q 0)]) (n := 2) (Nat.le_of_ble_eq_true rfl)
  rw [lg_entry_eq]
  generalize (lg_sl ([.ref (q 0)]) ++ List.replicate (2 - (lg_sl ([.ref (q 0)])).length) Slot.unset).toArray = ls at hl ⊢
  have hl : lv_has ls 2 [(0, .ref (q 0))] := hl
  unfold wp_X7_forget at h
  refine lv_aload_n hx hb dX7_forget_0 rfl (lv_at hl 0 rfl) ?_
  refine yg_s10 (x := v 10) hx hb hts iX7 hown hK hP k114 rfl dX7_forget_1 ?_
  refine lv_istore_n (lv' := [(1, .int (v 10)), (0, .ref (q 0))]) hx hb dX7_forget_4 rfl hl (by decide) rfl (fun ls hl => ?_)
  refine lv_aload_n hx hb dX7_forget_5 rfl (lv_at hl 1 rfl) ?_
  refine lv_iconst (v := (0 : Int32)) hx hb dX7_forget_6 (by decide) ?_
  refine yp_s10 hx hb hts iX7 hown hK hP hD hS k114 dX7_forget_7 (fun H locs hP hD hS => ?_)
  refine lv_iload_n hx hb dX7_forget_10 rfl (lv_at hl 0 rfl) ?_
  exact mi_ret (upd v 10 (0 : Int32), f, z) hx hb hr hlocks h hK hP hD hS dX7_forget_11
def wp_X7_draw (post : Int32 → (Nat → Int32) → (Nat → Nat → Int32) → Int64 → Prop) (v : Nat → Int32) (f : Nat → Nat → Int32) (z : Int64) (a0 : Int32) : Prop := (¬ a0 = 0 ∧ post (((((((1103515245 : Int64) * ((v 11).toInt64)) + (12345 : Int64)) &&& (2147483647 : Int64)).toInt32) / (65536 : Int32)) - ((((((1103515245 : Int64) * ((v 11).toInt64)) + (12345 : Int64)) &&& (2147483647 : Int64)).toInt32) / (65536 : Int32)) / a0 * a0) (upd v 11 (((((1103515245 : Int64) * ((v 11).toInt64)) + (12345 : Int64)) &&& (2147483647 : Int64)).toInt32)) f z)
def rmX7_draw : Room := { frames := 0, cells := 0, slots := 0, locals := 0 }
set_option maxHeartbeats 4000000 in
set_option maxRecDepth 100000 in
theorem c_X7_draw (l : Launch) (D : va_G) (cI : ClassId) (q : Nat → Nat) (sz : Nat) (post : Int32 → (Nat → Int32) → (Nat → Nat → Int32) → Int64 → Prop) (v : Nat → Int32) (f : Nat → Nat → Int32) (z : Int64) (a0 : Int32) (h : wp_X7_draw post v f z a0) : Met l yX7_draw wsX7_draw rmX7_draw (va_Pc [.ref (q 0), .int a0] (mP D cI (wY cI q v f z) sz)) (mQi post D cI (wY cI q) (va_A (wY cI q v f z) sz)) 0 0 (va_A (wY cI q v f z) sz) := by
  refine Met.ofW (cc := cX7_draw) (maxL := 2) (ret := (some .int)) (by decide) rfl ?_
  intro p e s m args below meth c s₁ B hml hv
  obtain ⟨rfl, hsz, ⟨hP, hK, hN⟩, hD0⟩ := hv
  have hx := B.exec
  have hb := B.bytes
  have hr := B.returns
  have hts := atoms_spec (ws := wsX7_draw) B.pre
  have hown : s.vm.findClass RX7 = some m.cls := findClass_of_methodNamed B.named
  have hlocks : meth.locks = false := B.notSynchronized
  subst hsz
  have hD := hD0.self (sz := s.heap.size)
  generalize hAe : va_A (wY cI q v f z) s.heap.size = A at hD ⊢
  have hA : ∀ q : Nat, s.heap.size ≤ q → A q := fun q h => by rw [← hAe]; exact Or.inr h
  have hS : va_S A s.heap s.heap [] := va_S.rf
  have iX7 : ∀ w ∈ wsX70, w ∈ wsX7_draw := fun _ h9 => List.mem_cons_of_mem _ (List.mem_append_right _ h9)
  have k193 := hts (.fieldLink RX7 193 "EndedByOthersModel" "seedNow" "I") (by decide +kernel)
  have hl := lv_entry ([.ref (q 0), .int a0]) (n := 2) (Nat.le_of_ble_eq_true rfl)
  rw [lg_entry_eq]
  generalize (lg_sl ([.ref (q 0), .int a0]) ++ List.replicate (2 - (lg_sl ([.ref (q 0), .int a0])).length) Slot.unset).toArray = ls at hl ⊢
  have hl : lv_has ls 2 [(0, .ref (q 0)), (1, .int a0)] := hl
  unfold wp_X7_draw at h
  refine lv_aload_n hx hb dX7_draw_0 rfl (lv_at hl 0 rfl) ?_
  refine lv_ldc2 (v := (1103515245 : Int64)) hx hb hown (hts (.constantLong RX7 191 (1103515245)) (by decide +kernel)) dX7_draw_1 ?_
  refine lv_aload_n hx hb dX7_draw_4 rfl (lv_at hl 0 rfl) ?_
  refine yg_s11 (x := v 11) hx hb hts iX7 hown hK hP k193 rfl dX7_draw_5 ?_
  refine lv_i2l (v := (v 11).toInt64) hx hb dX7_draw_8 rfl ?_
  refine lv_lmul hx hb dX7_draw_9 ?_
  refine lv_ldc2 (v := (12345 : Int64)) hx hb hown (hts (.constantLong RX7 196 (12345)) (by decide +kernel)) dX7_draw_10 ?_
  refine lv_ladd hx hb dX7_draw_13 ?_
  refine lv_ldc2 (v := (2147483647 : Int64)) hx hb hown (hts (.constantLong RX7 198 (2147483647)) (by decide +kernel)) dX7_draw_14 ?_
  refine lv_land hx hb dX7_draw_17 ?_
  refine lv_l2i (v := ((((1103515245 : Int64) * ((v 11).toInt64)) + (12345 : Int64)) &&& (2147483647 : Int64)).toInt32) hx hb dX7_draw_18 rfl ?_
  refine yp_s11 hx hb hts iX7 hown hK hP hD hS k193 dX7_draw_19 (fun H locs hP hD hS => ?_)
  refine lv_aload_n hx hb dX7_draw_22 rfl (lv_at hl 0 rfl) ?_
  refine yg_s11 (x := ((((1103515245 : Int64) * ((v 11).toInt64)) + (12345 : Int64)) &&& (2147483647 : Int64)).toInt32) hx hb hts iX7 hown hK hP k193 rfl dX7_draw_23 ?_
  refine lv_ldc (v := (65536 : Int32)) hx hb hown (hts (.constant RX7 200 (65536)) (by decide +kernel)) dX7_draw_26 ?_
  refine lv_idiv hx hb dX7_draw_28 (by decide) ?_
  refine lv_iload_n hx hb dX7_draw_29 rfl (lv_at hl 1 rfl) ?_
  obtain ⟨h9, h⟩ := h
  refine lv_irem hx hb dX7_draw_30 h9 ?_
  exact mi_ret (upd v 11 (((((1103515245 : Int64) * ((v 11).toInt64)) + (12345 : Int64)) &&& (2147483647 : Int64)).toInt32), f, z) hx hb hr hlocks h hK hP hD hS dX7_draw_31
def wp_X7_talks_B118 (post : Int32 → (Nat → Int32) → (Nat → Nat → Int32) → Int64 → Prop) (K66 : (Nat → Int32) → (Nat → Nat → Int32) → Int64 → Int32 → Int32 → Int32 → Int32 → Int32 → Prop) (v : Nat → Int32) (f : Nat → Nat → Int32) (z : Int64) (x1 : Int32) (x3 : Int32) (x4 : Int32) (x5 : Int32) (x6 : Int32) (x7 : Int32) (x9 : Int32) (y0 : Int32) : Prop := ((y0 = (-1 : Int32) → K66 v f z x1 x3 x4 x5 (x6 + 1)) ∧ (¬ y0 = (-1 : Int32) → (vp_in (((3 : Int32) * x9) + (2 : Int32)) 12 ∧ (vp_in (((3 : Int32) * x9) + (2 : Int32)) 12 ∧ (vp_in (((3 : Int32) * x7) + (1 : Int32)) 12 ∧ ((y0 = ((upd (f 4) (((3 : Int32) * x9) + (2 : Int32)).toNatClampNeg ((f 4 (((3 : Int32) * x9) + (2 : Int32)).toNatClampNeg) ||| ((1 : Int32) <<< (y0 &&& 31)))) (((3 : Int32) * x7) + (1 : Int32)).toNatClampNeg) → K66 v (va_up f 4 (upd (f 4) (((3 : Int32) * x9) + (2 : Int32)).toNatClampNeg ((f 4 (((3 : Int32) * x9) + (2 : Int32)).toNatClampNeg) ||| ((1 : Int32) <<< (y0 &&& 31))))) z x1 x3 (x4 + 1) (x5 + (1 : Int32)) (x6 + 1)) ∧ (¬ y0 = ((upd (f 4) (((3 : Int32) * x9) + (2 : Int32)).toNatClampNeg ((f 4 (((3 : Int32) * x9) + (2 : Int32)).toNatClampNeg) ||| ((1 : Int32) <<< (y0 &&& 31)))) (((3 : Int32) * x7) + (1 : Int32)).toNatClampNeg) → K66 v (va_up f 4 (upd (f 4) (((3 : Int32) * x9) + (2 : Int32)).toNatClampNeg ((f 4 (((3 : Int32) * x9) + (2 : Int32)).toNatClampNeg) ||| ((1 : Int32) <<< (y0 &&& 31))))) z x1 x3 (x4 + 1) (x5 + (0 : Int32)) (x6 + 1))))))))
def wp_X7_talks_B66 (post : Int32 → (Nat → Int32) → (Nat → Nat → Int32) → Int64 → Prop) : Nat → (Nat → Int32) → (Nat → Nat → Int32) → Int64 → Int32 → Int32 → Int32 → Int32 → Int32 → Prop
  | 0, _, _, _, _, _, _, _, _ => False
  | n66 + 1, v, f, z, x1, x3, x4, x5, x6 => ((x1 ≤ x6 → ((x3 = 0 → post x4 v (va_up f 4 (va_cpy (f 10) (f 4) 0 0 12)) z) ∧ (¬ x3 = 0 → ((x3 = (1 : Int32) → post x5 v (va_up f 4 (va_cpy (f 10) (f 4) 0 0 12)) z) ∧ (¬ x3 = (1 : Int32) → post (v 11) v (va_up f 4 (va_cpy (f 10) (f 4) 0 0 12)) z))))) ∧ (¬ x1 ≤ x6 → (wp_X7_draw (fun r1 v2 f3 z4 => (wp_X7_draw (fun r5 v6 f7 z8 => (wp_X7_draw (fun r9 v10 f11 z12 => ((r9 = r1 → wp_X7_talks_B118 post (wp_X7_talks_B66 post n66) v10 f11 z12 x1 x3 x4 x5 x6 r1 r9 (-1 : Int32)) ∧ (¬ r9 = r1 → (wp_X7_wouldOf (fun r13 => wp_X7_talks_B118 post (wp_X7_talks_B66 post n66) v10 f11 z12 x1 x3 x4 x5 x6 r1 r9 r13) v10 f11 z12 r9 r5)))) v6 f7 z8 (v6 6))) v2 f3 z4 (4 : Int32))) v f z (v 6))))
def wp_X7_talks (post : Int32 → (Nat → Int32) → (Nat → Nat → Int32) → Int64 → Prop) (v : Nat → Int32) (f : Nat → Nat → Int32) (z : Int64) (a0 : Int32) (a1 : Int32) (a2 : Int32) : Prop := (wp_X7_in (fun r14 => ((r14 = 0 → post (-102 : Int32) v f z) ∧ (¬ r14 = 0 → ((a1 < 0 → post (-102 : Int32) v f z) ∧ (¬ a1 < 0 → (wp_X7_in (fun r15 => ((r15 = 0 → post (-102 : Int32) v f z) ∧ (¬ r15 = 0 → (wp_X7_lacks (fun r16 => ((r16 = 0 → (∃ j9 : Nat, wp_X7_talks_B66 post j9 (upd v 11 a1) (va_up f 10 (va_cpy (f 4) (f 10) 0 0 12)) z a0 a2 (0 : Int32) (0 : Int32) (0 : Int32))) ∧ (¬ r16 = 0 → post (-103 : Int32) v f z))) v f z)))) ((a2).toInt64) (0 : Int64) (2 : Int64))))))) ((a0).toInt64) (1 : Int64) (60 : Int64))
def rmX7_talks : Room := { frames := 3, cells := 0, slots := 0, locals := 71 }
set_option maxHeartbeats 4000000 in
set_option maxRecDepth 100000 in
theorem c_X7_talks (l : Launch) (D : va_G) (cI : ClassId) (q : Nat → Nat) (sz : Nat) (post : Int32 → (Nat → Int32) → (Nat → Nat → Int32) → Int64 → Prop) (v : Nat → Int32) (f : Nat → Nat → Int32) (z : Int64) (a0 : Int32) (a1 : Int32) (a2 : Int32) (h : wp_X7_talks post v f z a0 a1 a2) : Met l yX7_talks wsX7_talks rmX7_talks (va_Pc [.ref (q 0), .int a0, .int a1, .int a2] (mP D cI (wY cI q v f z) sz)) (mQi post D cI (wY cI q) (va_A (wY cI q v f z) sz)) 0 0 (va_A (wY cI q v f z) sz) := by
  refine Met.ofW (cc := cX7_talks) (maxL := 11) (ret := (some .int)) (by decide) rfl ?_
  intro p e s m args below meth c s₁ B hml hv
  obtain ⟨rfl, hsz, ⟨hP, hK, hN⟩, hD0⟩ := hv
  have hx := B.exec
  have hb := B.bytes
  have hr := B.returns
  have hts := atoms_spec (ws := wsX7_talks) B.pre
  have hown : s.vm.findClass RX7 = some m.cls := findClass_of_methodNamed B.named
  have hlocks : meth.locks = false := B.notSynchronized
  subst hsz
  have hD := hD0.self (sz := s.heap.size)
  generalize hAe : va_A (wY cI q v f z) s.heap.size = A at hD ⊢
  have hA : ∀ q : Nat, s.heap.size ≤ q → A q := fun q h => by rw [← hAe]; exact Or.inr h
  have hS : va_S A s.heap s.heap [] := va_S.rf
  have iX7 : ∀ w ∈ wsX70, w ∈ wsX7_talks := fun _ h9 => List.mem_cons_of_mem _ (List.mem_append_right _ h9)
  have k101 := hts (.fieldLink RX7 101 "EndedByOthersModel" "speakers" "I") (by decide +kernel)
  have k193 := hts (.fieldLink RX7 193 "EndedByOthersModel" "seedNow" "I") (by decide +kernel)
  have k22 := hts (.fieldLink RX7 22 "EndedByOthersModel" "rows" "[I") (by decide +kernel)
  have k40 := hts (.fieldLink RX7 40 "EndedByOthersModel" "savedRows" "[I") (by decide +kernel)
  have hl := lv_entry ([.ref (q 0), .int a0, .int a1, .int a2]) (n := 11) (Nat.le_of_ble_eq_true rfl)
  rw [lg_entry_eq]
  generalize (lg_sl ([.ref (q 0), .int a0, .int a1, .int a2]) ++ List.replicate (11 - (lg_sl ([.ref (q 0), .int a0, .int a1, .int a2])).length) Slot.unset).toArray = ls at hl ⊢
  have hl : lv_has ls 11 [(0, .ref (q 0)), (1, .int a0), (2, .int a1), (3, .int a2)] := hl
  unfold wp_X7_talks at h
  have B66 : ∀ (n66 : Nat) (v : Nat → Int32) (f : Nat → Nat → Int32) (z : Int64) (x1 : Int32) (x3 : Int32) (x4 : Int32) (x5 : Int32) (x6 : Int32), wp_X7_talks_B66 post n66 v f z x1 x3 x4 x5 x6 → ∀ (H : Heap) (locs : List Loc), va_P D vwCl (wY cI q v f z) H → va_D A (wY cI q v f z) → va_S A s.heap H locs → ∀ (ls : Array Slot), lv_has ls 11 [(0, .ref (q 0)), (1, .int x1), (3, .int x3), (4, .int x4), (5, .int x5), (6, .int x6)] → W p l e (headSpec wsX7_talks rmX7_talks).room s m ([.ref (q 0), .int a0, .int a1, .int a2] : List Value).toArray below meth c H locs 0 0 (MQ below (mQi post D cI (wY cI q) A) ([.ref (q 0), .int a0, .int a1, .int a2] : List Value).toArray s 0 0 A) (F0 m 66 ls []) := by
    intro n66
    induction n66 with
    | zero =>
      intro v f z x1 x3 x4 x5 x6 h
      exact False.elim h
    | succ n66 ih66 =>
      have B118 : ∀ (v : Nat → Int32) (f : Nat → Nat → Int32) (z : Int64) (x1 : Int32) (x3 : Int32) (x4 : Int32) (x5 : Int32) (x6 : Int32) (x7 : Int32) (x9 : Int32) (y0 : Int32), wp_X7_talks_B118 post (wp_X7_talks_B66 post n66) v f z x1 x3 x4 x5 x6 x7 x9 y0 → ∀ (H : Heap) (locs : List Loc), va_P D vwCl (wY cI q v f z) H → va_D A (wY cI q v f z) → va_S A s.heap H locs → ∀ (ls : Array Slot), lv_has ls 11 [(0, .ref (q 0)), (1, .int x1), (3, .int x3), (4, .int x4), (5, .int x5), (6, .int x6), (7, .int x7), (9, .int x9)] → W p l e (headSpec wsX7_talks rmX7_talks).room s m ([.ref (q 0), .int a0, .int a1, .int a2] : List Value).toArray below meth c H locs 0 0 (MQ below (mQi post D cI (wY cI q) A) ([.ref (q 0), .int a0, .int a1, .int a2] : List Value).toArray s 0 0 A) (F0 m 118 ls [.int y0]) := by
        intro v f z x1 x3 x4 x5 x6 x7 x9 y0 h H locs hP hD hS ls hl
        unfold wp_X7_talks_B118 at h
        refine lv_istore (lv' := [(10, .int y0), (0, .ref (q 0)), (1, .int x1), (3, .int x3), (4, .int x4), (5, .int x5), (6, .int x6), (7, .int x7), (9, .int x9)]) hx hb dX7_talks_118 hl (by decide) rfl (fun ls hl => ?_)
        refine lv_iload hx hb dX7_talks_120 (lv_at hl 0 rfl) ?_
        refine lv_iconst (v := (-1 : Int32)) hx hb dX7_talks_122 (by decide) ?_
        refine lv_icmp_eq (tgt := 173) hx hb dX7_talks_123 (by decide) (fun c9 => ?_) (fun c9 => ?_)
        · have h := h.1 c9
          refine lv_iinc (v := x6 + 1) (lv' := [(6, .int (x6 + 1)), (10, .int y0), (0, .ref (q 0)), (1, .int x1), (3, .int x3), (4, .int x4), (5, .int x5), (7, .int x7), (9, .int x9)]) hx hb dX7_talks_173 hl (k := 6) rfl rfl (by decide) rfl (fun ls hl => ?_)
          refine lv_goto (tgt := 66) hx hb dX7_talks_176 (by decide) ?_
          exact ih66 _ _ _ _ _ _ _ _ h _ _ hP hD hS ls (lv_sub hl [2, 3, 4, 5, 6, 0] rfl)
        · have h := h.2 c9
          refine lv_aload_n hx hb dX7_talks_126 rfl (lv_at hl 1 rfl) ?_
          refine yg_r0_5 hx hb hts iX7 hown hK hP k22 dX7_talks_127 ?_
          refine lv_iconst (v := (3 : Int32)) hx hb dX7_talks_130 (by decide) ?_
          refine lv_iload hx hb dX7_talks_131 (lv_at hl 8 rfl) ?_
          refine lv_imul hx hb dX7_talks_133 ?_
          refine lv_iconst (v := (2 : Int32)) hx hb dX7_talks_134 (by decide) ?_
          refine lv_iadd hx hb dX7_talks_135 ?_
          refine lv_dup2_11 hx hb dX7_talks_136 rfl rfl ?_
          obtain ⟨h9, h⟩ := h
          refine yal_4 (x := f 4 (((3 : Int32) * x9) + (2 : Int32)).toNatClampNeg) hx hb hK hP h9 rfl dX7_talks_137 ?_
          refine lv_iconst (v := (1 : Int32)) hx hb dX7_talks_138 (by decide) ?_
          refine lv_iload hx hb dX7_talks_139 (lv_at hl 0 rfl) ?_
          refine lv_ishl hx hb dX7_talks_141 ?_
          refine lv_ior hx hb dX7_talks_142 ?_
          obtain ⟨h9, h⟩ := h
          refine yas_4 hx hb hK hP hD hS h9 dX7_talks_143 (fun H locs hP hD hS => ?_)
          have hP : va_P D vwCl (wY cI q v (va_up f 4 (upd (f 4) (((3 : Int32) * x9) + (2 : Int32)).toNatClampNeg ((f 4 (((3 : Int32) * x9) + (2 : Int32)).toNatClampNeg) ||| ((1 : Int32) <<< (y0 &&& 31))))) z) H := hP
          have hD : va_D A (wY cI q v (va_up f 4 (upd (f 4) (((3 : Int32) * x9) + (2 : Int32)).toNatClampNeg ((f 4 (((3 : Int32) * x9) + (2 : Int32)).toNatClampNeg) ||| ((1 : Int32) <<< (y0 &&& 31))))) z) := hD
          refine lv_iinc (v := x4 + 1) (lv' := [(4, .int (x4 + 1)), (10, .int y0), (0, .ref (q 0)), (1, .int x1), (3, .int x3), (5, .int x5), (6, .int x6), (7, .int x7), (9, .int x9)]) hx hb dX7_talks_144 hl (k := 4) rfl rfl (by decide) rfl (fun ls hl => ?_)
          refine lv_iload hx hb dX7_talks_147 (lv_at hl 5 rfl) ?_
          refine lv_iload hx hb dX7_talks_149 (lv_at hl 1 rfl) ?_
          refine lv_aload_n hx hb dX7_talks_151 rfl (lv_at hl 2 rfl) ?_
          refine yg_r0_5 hx hb hts iX7 hown hK hP k22 dX7_talks_152 ?_
          refine lv_iconst (v := (3 : Int32)) hx hb dX7_talks_155 (by decide) ?_
          refine lv_iload hx hb dX7_talks_156 (lv_at hl 7 rfl) ?_
          refine lv_imul hx hb dX7_talks_158 ?_
          refine lv_iconst (v := (1 : Int32)) hx hb dX7_talks_159 (by decide) ?_
          refine lv_iadd hx hb dX7_talks_160 ?_
          obtain ⟨h9, h⟩ := h
          refine yal_4 (x := (upd (f 4) (((3 : Int32) * x9) + (2 : Int32)).toNatClampNeg ((f 4 (((3 : Int32) * x9) + (2 : Int32)).toNatClampNeg) ||| ((1 : Int32) <<< (y0 &&& 31)))) (((3 : Int32) * x7) + (1 : Int32)).toNatClampNeg) hx hb hK hP h9 rfl dX7_talks_161 ?_
          refine lv_icmp_ne (tgt := 169) hx hb dX7_talks_162 (by decide) (fun c9 => ?_) (fun c9 => ?_)
          · have h := h.2 c9
            refine lv_iconst (v := (0 : Int32)) hx hb dX7_talks_169 (by decide) ?_
            refine lv_iadd hx hb dX7_talks_170 ?_
            refine lv_istore (lv' := [(5, .int (x5 + (0 : Int32))), (4, .int (x4 + 1)), (10, .int y0), (0, .ref (q 0)), (1, .int x1), (3, .int x3), (6, .int x6), (7, .int x7), (9, .int x9)]) hx hb dX7_talks_171 hl (by decide) rfl (fun ls hl => ?_)
            refine lv_iinc (v := x6 + 1) (lv' := [(6, .int (x6 + 1)), (5, .int (x5 + (0 : Int32))), (4, .int (x4 + 1)), (10, .int y0), (0, .ref (q 0)), (1, .int x1), (3, .int x3), (7, .int x7), (9, .int x9)]) hx hb dX7_talks_173 hl (k := 6) rfl rfl (by decide) rfl (fun ls hl => ?_)
            refine lv_goto (tgt := 66) hx hb dX7_talks_176 (by decide) ?_
            exact ih66 _ _ _ _ _ _ _ _ h _ _ hP hD hS ls (lv_sub hl [4, 5, 6, 2, 1, 0] rfl)
          · have h := h.1 c9
            refine lv_iconst (v := (1 : Int32)) hx hb dX7_talks_165 (by decide) ?_
            refine lv_goto (tgt := 170) hx hb dX7_talks_166 (by decide) ?_
            refine lv_iadd hx hb dX7_talks_170 ?_
            refine lv_istore (lv' := [(5, .int (x5 + (1 : Int32))), (4, .int (x4 + 1)), (10, .int y0), (0, .ref (q 0)), (1, .int x1), (3, .int x3), (6, .int x6), (7, .int x7), (9, .int x9)]) hx hb dX7_talks_171 hl (by decide) rfl (fun ls hl => ?_)
            refine lv_iinc (v := x6 + 1) (lv' := [(6, .int (x6 + 1)), (5, .int (x5 + (1 : Int32))), (4, .int (x4 + 1)), (10, .int y0), (0, .ref (q 0)), (1, .int x1), (3, .int x3), (7, .int x7), (9, .int x9)]) hx hb dX7_talks_173 hl (k := 6) rfl rfl (by decide) rfl (fun ls hl => ?_)
            refine lv_goto (tgt := 66) hx hb dX7_talks_176 (by decide) ?_
            exact ih66 _ _ _ _ _ _ _ _ h _ _ hP hD hS ls (lv_sub hl [4, 5, 6, 2, 1, 0] rfl)
      intro v f z x1 x3 x4 x5 x6 h H locs hP hD hS ls hl
      rw [wp_X7_talks_B66] at h
      refine lv_iload hx hb dX7_talks_66 (lv_at hl 5 rfl) ?_
      refine lv_iload_n hx hb dX7_talks_68 rfl (lv_at hl 1 rfl) ?_
      refine lv_icmp_ge (tgt := 179) hx hb dX7_talks_69 (by decide) (fun c9 => ?_) (fun c9 => ?_)
      · have h := h.1 c9
        refine lv_aload_n hx hb dX7_talks_179 rfl (lv_at hl 0 rfl) ?_
        refine yg_r0_11 hx hb hts iX7 hown hK hP k40 dX7_talks_180 ?_
        refine lv_aload_n hx hb dX7_talks_183 rfl (lv_at hl 0 rfl) ?_
        refine yg_r0_5 hx hb hts iX7 hown hK hP k22 dX7_talks_184 ?_
        refine cpW 11 5 ⟨hx, hb, hml, hown, hts⟩ (va_cwS 2 hts gX7_talks_X7_copy rfl rfl rfl (by decide +kernel) ⟨Nat.le_of_ble_eq_true rfl, Nat.le_of_ble_eq_true rfl⟩) (f0 := f 10) (f1 := f 4) (n := 12) (by decide) hK hP hN hD hS hA (by decide) rfl rfl hl.1 (rest := []) rfl (Nat.le_of_ble_eq_true rfl) dX7_talks_187 (Nat.zero_le _) (Nat.zero_le _) (fun H locs hP hD hS => ?_)
        have hP : va_P D vwCl (wY cI q v (va_up f 4 (va_cpy (f 10) (f 4) 0 0 12)) z) H := hP
        have hD : va_D A (wY cI q v (va_up f 4 (va_cpy (f 10) (f 4) 0 0 12)) z) := hD
        refine lv_iload_n hx hb dX7_talks_190 rfl (lv_at hl 2 rfl) ?_
        refine lv_if_ne (tgt := 199) hx hb dX7_talks_191 (by decide) (fun c9 => ?_) (fun c9 => ?_)
        · have h := h.2 c9
          refine lv_iload_n hx hb dX7_talks_199 rfl (lv_at hl 2 rfl) ?_
          refine lv_iconst (v := (1 : Int32)) hx hb dX7_talks_200 (by decide) ?_
          refine lv_icmp_ne (tgt := 209) hx hb dX7_talks_201 (by decide) (fun c9 => ?_) (fun c9 => ?_)
          · have h := h.2 c9
            refine lv_aload_n hx hb dX7_talks_209 rfl (lv_at hl 0 rfl) ?_
            refine yg_s11 (x := v 11) hx hb hts iX7 hown hK hP k193 rfl dX7_talks_210 ?_
            exact mi_ret (v, va_up f 4 (va_cpy (f 10) (f 4) 0 0 12), z) hx hb hr hlocks h hK hP hD hS dX7_talks_213
          · have h := h.1 c9
            refine lv_iload hx hb dX7_talks_204 (lv_at hl 4 rfl) ?_
            refine lv_goto (tgt := 213) hx hb dX7_talks_206 (by decide) ?_
            exact mi_ret (v, va_up f 4 (va_cpy (f 10) (f 4) 0 0 12), z) hx hb hr hlocks h hK hP hD hS dX7_talks_213
        · have h := h.1 c9
          refine lv_iload hx hb dX7_talks_194 (lv_at hl 3 rfl) ?_
          refine lv_goto (tgt := 213) hx hb dX7_talks_196 (by decide) ?_
          exact mi_ret (v, va_up f 4 (va_cpy (f 10) (f 4) 0 0 12), z) hx hb hr hlocks h hK hP hD hS dX7_talks_213
      · have h := h.2 c9
        refine lv_aload_n hx hb dX7_talks_72 rfl (lv_at hl 0 rfl) ?_
        refine lv_aload_n hx hb dX7_talks_73 rfl (lv_at hl 0 rfl) ?_
        refine yg_s6 (x := v 6) hx hb hts iX7 hown hK hP k101 rfl dX7_talks_74 ?_
        refine mV_i ⟨hx, hb, hml, hown, hts⟩ (c_X7_draw l D cI q _ _ _ _ _ _ h) (cwV 1 hts gX7_talks_X7_draw rfl rfl rfl (by decide +kernel) ⟨Nat.le_of_ble_eq_true rfl, Nat.le_of_ble_eq_true rfl⟩) hK hP hN hD hS hA (va_recv hK hP (ci := 7) (q0 := 0) rfl rfl) rfl hl.1 (rest := []) rfl (Nat.le_of_ble_eq_true rfl) dX7_talks_77 (Nat.zero_le _) (Nat.zero_le _) (fun r1 v2 f3 z4 h H locs hP hD hS => ?_)
        refine lv_istore (lv' := [(7, .int r1), (0, .ref (q 0)), (1, .int x1), (3, .int x3), (4, .int x4), (5, .int x5), (6, .int x6)]) hx hb dX7_talks_80 hl (by decide) rfl (fun ls hl => ?_)
        refine lv_aload_n hx hb dX7_talks_82 rfl (lv_at hl 1 rfl) ?_
        refine lv_iconst (v := (4 : Int32)) hx hb dX7_talks_83 (by decide) ?_
        refine mV_i ⟨hx, hb, hml, hown, hts⟩ (c_X7_draw l D cI q _ _ _ _ _ _ h) (cwV 1 hts gX7_talks_X7_draw rfl rfl rfl (by decide +kernel) ⟨Nat.le_of_ble_eq_true rfl, Nat.le_of_ble_eq_true rfl⟩) hK hP hN hD hS hA (va_recv hK hP (ci := 7) (q0 := 0) rfl rfl) rfl hl.1 (rest := []) rfl (Nat.le_of_ble_eq_true rfl) dX7_talks_84 (Nat.zero_le _) (Nat.zero_le _) (fun r5 v6 f7 z8 h H locs hP hD hS => ?_)
        refine lv_istore (lv' := [(8, .int r5), (7, .int r1), (0, .ref (q 0)), (1, .int x1), (3, .int x3), (4, .int x4), (5, .int x5), (6, .int x6)]) hx hb dX7_talks_87 hl (by decide) rfl (fun ls hl => ?_)
        refine lv_aload_n hx hb dX7_talks_89 rfl (lv_at hl 2 rfl) ?_
        refine lv_aload_n hx hb dX7_talks_90 rfl (lv_at hl 2 rfl) ?_
        refine yg_s6 (x := v6 6) hx hb hts iX7 hown hK hP k101 rfl dX7_talks_91 ?_
        refine mV_i ⟨hx, hb, hml, hown, hts⟩ (c_X7_draw l D cI q _ _ _ _ _ _ h) (cwV 1 hts gX7_talks_X7_draw rfl rfl rfl (by decide +kernel) ⟨Nat.le_of_ble_eq_true rfl, Nat.le_of_ble_eq_true rfl⟩) hK hP hN hD hS hA (va_recv hK hP (ci := 7) (q0 := 0) rfl rfl) rfl hl.1 (rest := []) rfl (Nat.le_of_ble_eq_true rfl) dX7_talks_94 (Nat.zero_le _) (Nat.zero_le _) (fun r9 v10 f11 z12 h H locs hP hD hS => ?_)
        refine lv_istore (lv' := [(9, .int r9), (8, .int r5), (7, .int r1), (0, .ref (q 0)), (1, .int x1), (3, .int x3), (4, .int x4), (5, .int x5), (6, .int x6)]) hx hb dX7_talks_97 hl (by decide) rfl (fun ls hl => ?_)
        refine lv_iload hx hb dX7_talks_99 (lv_at hl 0 rfl) ?_
        refine lv_iload hx hb dX7_talks_101 (lv_at hl 2 rfl) ?_
        refine lv_icmp_ne (tgt := 110) hx hb dX7_talks_103 (by decide) (fun c9 => ?_) (fun c9 => ?_)
        · have h := h.2 c9
          refine lv_aload_n hx hb dX7_talks_110 rfl (lv_at hl 3 rfl) ?_
          refine lv_iload hx hb dX7_talks_111 (lv_at hl 0 rfl) ?_
          refine lv_iload hx hb dX7_talks_113 (lv_at hl 1 rfl) ?_
          refine rV_i ⟨hx, hb, hml, hown, hts⟩ (c_X7_wouldOf l D cI q _ _ _ _ _ _ h) (cwV 2 hts gX7_talks_X7_wouldOf rfl rfl rfl (by decide +kernel) ⟨Nat.le_of_ble_eq_true rfl, Nat.le_of_ble_eq_true rfl⟩) hK hP hN (va_recv hK hP (ci := 7) (q0 := 0) rfl rfl) rfl hl.1 (rest := []) rfl (Nat.le_of_ble_eq_true rfl) dX7_talks_115 (Nat.zero_le _) (Nat.zero_le _) (fun r13 h => ?_)
          exact B118 _ _ _ _ _ _ _ _ _ _ _ h _ _ hP hD hS ls (lv_sub hl [3, 4, 5, 6, 7, 8, 2, 0] rfl)
        · have h := h.1 c9
          refine lv_iconst (v := (-1 : Int32)) hx hb dX7_talks_106 (by decide) ?_
          refine lv_goto (tgt := 118) hx hb dX7_talks_107 (by decide) ?_
          exact B118 _ _ _ _ _ _ _ _ _ _ _ h _ _ hP hD hS ls (lv_sub hl [3, 4, 5, 6, 7, 8, 2, 0] rfl)
  refine lv_iload_n hx hb dX7_talks_0 rfl (lv_at hl 1 rfl) ?_
  refine lv_i2l (v := (a0).toInt64) hx hb dX7_talks_1 rfl ?_
  refine lv_lconst (v := (1 : Int64)) hx hb dX7_talks_2 (by decide) ?_
  refine lv_ldc2 (v := (60 : Int64)) hx hb hown (hts (.constantLong RX7 201 (60)) (by decide +kernel)) dX7_talks_3 ?_
  refine rS_i ⟨hx, hb, hml, hown, hts⟩ (c_X7_in l D cI _ _ _ _ h) (va_cwS 3 hts gX7_talks_X7_in rfl rfl rfl (by decide +kernel) ⟨Nat.le_of_ble_eq_true rfl, Nat.le_of_ble_eq_true rfl⟩) hK wPnil hN rfl hl.1 (rest := []) rfl (Nat.le_of_ble_eq_true rfl) dX7_talks_6 (Nat.zero_le _) (Nat.zero_le _) (fun r14 h => ?_)
  refine lv_if_eq (tgt := 28) hx hb dX7_talks_9 (by decide) (fun c9 => ?_) (fun c9 => ?_)
  · have h := h.1 c9
    refine lv_bipush (v := (-102 : Int32)) hx hb dX7_talks_28 (by decide) ?_
    exact mi_ret (v, f, z) hx hb hr hlocks h hK hP hD hS dX7_talks_30
  · have h := h.2 c9
    refine lv_iload_n hx hb dX7_talks_12 rfl (lv_at hl 2 rfl) ?_
    refine lv_if_lt (tgt := 28) hx hb dX7_talks_13 (by decide) (fun c9 => ?_) (fun c9 => ?_)
    · have h := h.1 c9
      refine lv_bipush (v := (-102 : Int32)) hx hb dX7_talks_28 (by decide) ?_
      exact mi_ret (v, f, z) hx hb hr hlocks h hK hP hD hS dX7_talks_30
    · have h := h.2 c9
      refine lv_iload_n hx hb dX7_talks_16 rfl (lv_at hl 3 rfl) ?_
      refine lv_i2l (v := (a2).toInt64) hx hb dX7_talks_17 rfl ?_
      refine lv_lconst (v := (0 : Int64)) hx hb dX7_talks_18 (by decide) ?_
      refine lv_ldc2 (v := (2 : Int64)) hx hb hown (hts (.constantLong RX7 203 (2)) (by decide +kernel)) dX7_talks_19 ?_
      refine rS_i ⟨hx, hb, hml, hown, hts⟩ (c_X7_in l D cI _ _ _ _ h) (va_cwS 3 hts gX7_talks_X7_in rfl rfl rfl (by decide +kernel) ⟨Nat.le_of_ble_eq_true rfl, Nat.le_of_ble_eq_true rfl⟩) hK wPnil hN rfl hl.1 (rest := []) rfl (Nat.le_of_ble_eq_true rfl) dX7_talks_22 (Nat.zero_le _) (Nat.zero_le _) (fun r15 h => ?_)
      refine lv_if_ne (tgt := 31) hx hb dX7_talks_25 (by decide) (fun c9 => ?_) (fun c9 => ?_)
      · have h := h.2 c9
        refine lv_aload_n hx hb dX7_talks_31 rfl (lv_at hl 0 rfl) ?_
        refine rV_i ⟨hx, hb, hml, hown, hts⟩ (c_X7_lacks l D cI q _ _ _ _ h) (cwV 0 hts gX7_talks_X7_lacks rfl rfl rfl (by decide +kernel) ⟨Nat.le_of_ble_eq_true rfl, Nat.le_of_ble_eq_true rfl⟩) hK hP hN (va_recv hK hP (ci := 7) (q0 := 0) rfl rfl) rfl hl.1 (rest := []) rfl (Nat.le_of_ble_eq_true rfl) dX7_talks_32 (Nat.zero_le _) (Nat.zero_le _) (fun r16 h => ?_)
        refine lv_if_eq (tgt := 41) hx hb dX7_talks_35 (by decide) (fun c9 => ?_) (fun c9 => ?_)
        · have h := h.1 c9
          refine lv_aload_n hx hb dX7_talks_41 rfl (lv_at hl 0 rfl) ?_
          refine yg_r0_5 hx hb hts iX7 hown hK hP k22 dX7_talks_42 ?_
          refine lv_aload_n hx hb dX7_talks_45 rfl (lv_at hl 0 rfl) ?_
          refine yg_r0_11 hx hb hts iX7 hown hK hP k40 dX7_talks_46 ?_
          refine cpW 5 11 ⟨hx, hb, hml, hown, hts⟩ (va_cwS 2 hts gX7_talks_X7_copy rfl rfl rfl (by decide +kernel) ⟨Nat.le_of_ble_eq_true rfl, Nat.le_of_ble_eq_true rfl⟩) (f0 := f 4) (f1 := f 10) (n := 12) (by decide) hK hP hN hD hS hA (by decide) rfl rfl hl.1 (rest := []) rfl (Nat.le_of_ble_eq_true rfl) dX7_talks_49 (Nat.zero_le _) (Nat.zero_le _) (fun H locs hP hD hS => ?_)
          have hP : va_P D vwCl (wY cI q v (va_up f 10 (va_cpy (f 4) (f 10) 0 0 12)) z) H := hP
          have hD : va_D A (wY cI q v (va_up f 10 (va_cpy (f 4) (f 10) 0 0 12)) z) := hD
          refine lv_aload_n hx hb dX7_talks_52 rfl (lv_at hl 0 rfl) ?_
          refine lv_iload_n hx hb dX7_talks_53 rfl (lv_at hl 2 rfl) ?_
          refine yp_s11 hx hb hts iX7 hown hK hP hD hS k193 dX7_talks_54 (fun H locs hP hD hS => ?_)
          refine lv_iconst (v := (0 : Int32)) hx hb dX7_talks_57 (by decide) ?_
          refine lv_istore (lv' := [(4, .int (0 : Int32)), (0, .ref (q 0)), (1, .int a0), (2, .int a1), (3, .int a2)]) hx hb dX7_talks_58 hl (by decide) rfl (fun ls hl => ?_)
          refine lv_iconst (v := (0 : Int32)) hx hb dX7_talks_60 (by decide) ?_
          refine lv_istore (lv' := [(5, .int (0 : Int32)), (4, .int (0 : Int32)), (0, .ref (q 0)), (1, .int a0), (2, .int a1), (3, .int a2)]) hx hb dX7_talks_61 hl (by decide) rfl (fun ls hl => ?_)
          refine lv_iconst (v := (0 : Int32)) hx hb dX7_talks_63 (by decide) ?_
          refine lv_istore (lv' := [(6, .int (0 : Int32)), (5, .int (0 : Int32)), (4, .int (0 : Int32)), (0, .ref (q 0)), (1, .int a0), (2, .int a1), (3, .int a2)]) hx hb dX7_talks_64 hl (by decide) rfl (fun ls hl => ?_)
          obtain ⟨n9, h⟩ := h
          exact B66 n9 _ _ _ _ _ _ _ _ h _ _ hP hD hS ls (lv_sub hl [3, 4, 6, 2, 1, 0] rfl)
        · have h := h.2 c9
          refine lv_bipush (v := (-103 : Int32)) hx hb dX7_talks_38 (by decide) ?_
          exact mi_ret (v, f, z) hx hb hr hlocks h hK hP hD hS dX7_talks_40
      · have h := h.1 c9
        refine lv_bipush (v := (-102 : Int32)) hx hb dX7_talks_28 (by decide) ?_
        exact mi_ret (v, f, z) hx hb hr hlocks h hK hP hD hS dX7_talks_30
def wp_X7_image (post : Int32 → (Nat → Int32) → (Nat → Nat → Int32) → Int64 → Prop) (v : Nat → Int32) (f : Nat → Nat → Int32) (z : Int64) : Prop := (wp_X7_lacks (fun r1 => ((r1 = 0 → post (v 9) (upd (upd (upd (upd v 13 (v 9)) 14 (v 7)) 15 (v 10)) 12 (v 8)) (va_up (va_up (va_up f 11 (va_cpy (f 4) (f 11) 0 0 12)) 12 (va_cpy (f 5) (f 12) 0 0 32)) 13 (va_cpy (f 8) (f 13) 0 0 24)) z) ∧ (¬ r1 = 0 → post (-103 : Int32) v f z))) v f z)
def rmX7_image : Room := { frames := 1, cells := 0, slots := 0, locals := 60 }
set_option maxHeartbeats 4000000 in
set_option maxRecDepth 100000 in
theorem c_X7_image (l : Launch) (D : va_G) (cI : ClassId) (q : Nat → Nat) (sz : Nat) (post : Int32 → (Nat → Int32) → (Nat → Nat → Int32) → Int64 → Prop) (v : Nat → Int32) (f : Nat → Nat → Int32) (z : Int64) (h : wp_X7_image post v f z) : Met l yX7_image wsX7_image rmX7_image (va_Pc [.ref (q 0)] (mP D cI (wY cI q v f z) sz)) (mQi post D cI (wY cI q) (va_A (wY cI q v f z) sz)) 0 0 (va_A (wY cI q v f z) sz) := by
  refine Met.ofW (cc := cX7_image) (maxL := 1) (ret := (some .int)) (by decide) rfl ?_
  intro p e s m args below meth c s₁ B hml hv
  obtain ⟨rfl, hsz, ⟨hP, hK, hN⟩, hD0⟩ := hv
  have hx := B.exec
  have hb := B.bytes
  have hr := B.returns
  have hts := atoms_spec (ws := wsX7_image) B.pre
  have hown : s.vm.findClass RX7 = some m.cls := findClass_of_methodNamed B.named
  have hlocks : meth.locks = false := B.notSynchronized
  subst hsz
  have hD := hD0.self (sz := s.heap.size)
  generalize hAe : va_A (wY cI q v f z) s.heap.size = A at hD ⊢
  have hA : ∀ q : Nat, s.heap.size ≤ q → A q := fun q h => by rw [← hAe]; exact Or.inr h
  have hS : va_S A s.heap s.heap [] := va_S.rf
  have iX7 : ∀ w ∈ wsX70, w ∈ wsX7_image := fun _ h9 => List.mem_cons_of_mem _ (List.mem_append_right _ h9)
  have k108 := hts (.fieldLink RX7 108 "EndedByOthersModel" "wants" "I") (by decide +kernel)
  have k111 := hts (.fieldLink RX7 111 "EndedByOthersModel" "sentences" "I") (by decide +kernel)
  have k114 := hts (.fieldLink RX7 114 "EndedByOthersModel" "heardMany" "I") (by decide +kernel)
  have k117 := hts (.fieldLink RX7 117 "EndedByOthersModel" "roomsRead" "I") (by decide +kernel)
  have k208 := hts (.fieldLink RX7 208 "EndedByOthersModel" "keptSentences" "I") (by decide +kernel)
  have k211 := hts (.fieldLink RX7 211 "EndedByOthersModel" "keptWants" "I") (by decide +kernel)
  have k214 := hts (.fieldLink RX7 214 "EndedByOthersModel" "keptHeard" "I") (by decide +kernel)
  have k22 := hts (.fieldLink RX7 22 "EndedByOthersModel" "rows" "[I") (by decide +kernel)
  have k25 := hts (.fieldLink RX7 25 "EndedByOthersModel" "said" "[I") (by decide +kernel)
  have k34 := hts (.fieldLink RX7 34 "EndedByOthersModel" "heards" "[I") (by decide +kernel)
  have k43 := hts (.fieldLink RX7 43 "EndedByOthersModel" "keptRows" "[I") (by decide +kernel)
  have k46 := hts (.fieldLink RX7 46 "EndedByOthersModel" "keptSaid" "[I") (by decide +kernel)
  have k49 := hts (.fieldLink RX7 49 "EndedByOthersModel" "keptHeards" "[I") (by decide +kernel)
  have k52 := hts (.fieldLink RX7 52 "EndedByOthersModel" "keptRoom" "I") (by decide +kernel)
  have hl := lv_entry ([.ref (q 0)]) (n := 1) (Nat.le_of_ble_eq_true rfl)
  rw [lg_entry_eq]
  generalize (lg_sl ([.ref (q 0)]) ++ List.replicate (1 - (lg_sl ([.ref (q 0)])).length) Slot.unset).toArray = ls at hl ⊢
  have hl : lv_has ls 1 [(0, .ref (q 0))] := hl
  unfold wp_X7_image at h
  refine lv_aload_n hx hb dX7_image_0 rfl (lv_at hl 0 rfl) ?_
  refine rV_i ⟨hx, hb, hml, hown, hts⟩ (c_X7_lacks l D cI q _ _ _ _ h) (cwV 0 hts gX7_image_X7_lacks rfl rfl rfl (by decide +kernel) ⟨Nat.le_of_ble_eq_true rfl, Nat.le_of_ble_eq_true rfl⟩) hK hP hN (va_recv hK hP (ci := 7) (q0 := 0) rfl rfl) rfl hl.1 (rest := []) rfl (Nat.le_of_ble_eq_true rfl) dX7_image_1 (Nat.zero_le _) (Nat.zero_le _) (fun r1 h => ?_)
  refine lv_if_eq (tgt := 10) hx hb dX7_image_4 (by decide) (fun c9 => ?_) (fun c9 => ?_)
  · have h := h.1 c9
    refine lv_aload_n hx hb dX7_image_10 rfl (lv_at hl 0 rfl) ?_
    refine yg_r0_5 hx hb hts iX7 hown hK hP k22 dX7_image_11 ?_
    refine lv_aload_n hx hb dX7_image_14 rfl (lv_at hl 0 rfl) ?_
    refine yg_r0_12 hx hb hts iX7 hown hK hP k43 dX7_image_15 ?_
    refine cpW 5 12 ⟨hx, hb, hml, hown, hts⟩ (va_cwS 2 hts gX7_image_X7_copy rfl rfl rfl (by decide +kernel) ⟨Nat.le_of_ble_eq_true rfl, Nat.le_of_ble_eq_true rfl⟩) (f0 := f 4) (f1 := f 11) (n := 12) (by decide) hK hP hN hD hS hA (by decide) rfl rfl hl.1 (rest := []) rfl (Nat.le_of_ble_eq_true rfl) dX7_image_18 (Nat.zero_le _) (Nat.zero_le _) (fun H locs hP hD hS => ?_)
    have hP : va_P D vwCl (wY cI q v (va_up f 11 (va_cpy (f 4) (f 11) 0 0 12)) z) H := hP
    have hD : va_D A (wY cI q v (va_up f 11 (va_cpy (f 4) (f 11) 0 0 12)) z) := hD
    refine lv_aload_n hx hb dX7_image_21 rfl (lv_at hl 0 rfl) ?_
    refine yg_r0_6 hx hb hts iX7 hown hK hP k25 dX7_image_22 ?_
    refine lv_aload_n hx hb dX7_image_25 rfl (lv_at hl 0 rfl) ?_
    refine yg_r0_13 hx hb hts iX7 hown hK hP k46 dX7_image_26 ?_
    refine cpW 6 13 ⟨hx, hb, hml, hown, hts⟩ (va_cwS 2 hts gX7_image_X7_copy rfl rfl rfl (by decide +kernel) ⟨Nat.le_of_ble_eq_true rfl, Nat.le_of_ble_eq_true rfl⟩) (f0 := f 5) (f1 := f 12) (n := 32) (by decide) hK hP hN hD hS hA (by decide) rfl rfl hl.1 (rest := []) rfl (Nat.le_of_ble_eq_true rfl) dX7_image_29 (Nat.zero_le _) (Nat.zero_le _) (fun H locs hP hD hS => ?_)
    have hP : va_P D vwCl (wY cI q v (va_up (va_up f 11 (va_cpy (f 4) (f 11) 0 0 12)) 12 (va_cpy (f 5) (f 12) 0 0 32)) z) H := hP
    have hD : va_D A (wY cI q v (va_up (va_up f 11 (va_cpy (f 4) (f 11) 0 0 12)) 12 (va_cpy (f 5) (f 12) 0 0 32)) z) := hD
    refine lv_aload_n hx hb dX7_image_32 rfl (lv_at hl 0 rfl) ?_
    refine yg_r0_9 hx hb hts iX7 hown hK hP k34 dX7_image_33 ?_
    refine lv_aload_n hx hb dX7_image_36 rfl (lv_at hl 0 rfl) ?_
    refine yg_r0_14 hx hb hts iX7 hown hK hP k49 dX7_image_37 ?_
    refine cpW 9 14 ⟨hx, hb, hml, hown, hts⟩ (va_cwS 2 hts gX7_image_X7_copy rfl rfl rfl (by decide +kernel) ⟨Nat.le_of_ble_eq_true rfl, Nat.le_of_ble_eq_true rfl⟩) (f0 := f 8) (f1 := f 13) (n := 24) (by decide) hK hP hN hD hS hA (by decide) rfl rfl hl.1 (rest := []) rfl (Nat.le_of_ble_eq_true rfl) dX7_image_40 (Nat.zero_le _) (Nat.zero_le _) (fun H locs hP hD hS => ?_)
    have hP : va_P D vwCl (wY cI q v (va_up (va_up (va_up f 11 (va_cpy (f 4) (f 11) 0 0 12)) 12 (va_cpy (f 5) (f 12) 0 0 32)) 13 (va_cpy (f 8) (f 13) 0 0 24)) z) H := hP
    have hD : va_D A (wY cI q v (va_up (va_up (va_up f 11 (va_cpy (f 4) (f 11) 0 0 12)) 12 (va_cpy (f 5) (f 12) 0 0 32)) 13 (va_cpy (f 8) (f 13) 0 0 24)) z) := hD
    refine lv_aload_n hx hb dX7_image_43 rfl (lv_at hl 0 rfl) ?_
    refine lv_aload_n hx hb dX7_image_44 rfl (lv_at hl 0 rfl) ?_
    refine yg_s9 (x := v 9) hx hb hts iX7 hown hK hP k111 rfl dX7_image_45 ?_
    refine yp_s13 hx hb hts iX7 hown hK hP hD hS k208 dX7_image_48 (fun H locs hP hD hS => ?_)
    refine lv_aload_n hx hb dX7_image_51 rfl (lv_at hl 0 rfl) ?_
    refine lv_aload_n hx hb dX7_image_52 rfl (lv_at hl 0 rfl) ?_
    refine yg_s7 (x := v 7) hx hb hts iX7 hown hK hP k108 rfl dX7_image_53 ?_
    refine yp_s14 hx hb hts iX7 hown hK hP hD hS k211 dX7_image_56 (fun H locs hP hD hS => ?_)
    refine lv_aload_n hx hb dX7_image_59 rfl (lv_at hl 0 rfl) ?_
    refine lv_aload_n hx hb dX7_image_60 rfl (lv_at hl 0 rfl) ?_
    refine yg_s10 (x := v 10) hx hb hts iX7 hown hK hP k114 rfl dX7_image_61 ?_
    refine yp_s15 hx hb hts iX7 hown hK hP hD hS k214 dX7_image_64 (fun H locs hP hD hS => ?_)
    refine lv_aload_n hx hb dX7_image_67 rfl (lv_at hl 0 rfl) ?_
    refine lv_aload_n hx hb dX7_image_68 rfl (lv_at hl 0 rfl) ?_
    refine yg_s8 (x := v 8) hx hb hts iX7 hown hK hP k117 rfl dX7_image_69 ?_
    refine yp_s12 hx hb hts iX7 hown hK hP hD hS k52 dX7_image_72 (fun H locs hP hD hS => ?_)
    refine lv_aload_n hx hb dX7_image_75 rfl (lv_at hl 0 rfl) ?_
    refine yg_s9 (x := v 9) hx hb hts iX7 hown hK hP k111 rfl dX7_image_76 ?_
    exact mi_ret (upd (upd (upd (upd v 13 (v 9)) 14 (v 7)) 15 (v 10)) 12 (v 8), va_up (va_up (va_up f 11 (va_cpy (f 4) (f 11) 0 0 12)) 12 (va_cpy (f 5) (f 12) 0 0 32)) 13 (va_cpy (f 8) (f 13) 0 0 24), z) hx hb hr hlocks h hK hP hD hS dX7_image_79
  · have h := h.2 c9
    refine lv_bipush (v := (-103 : Int32)) hx hb dX7_image_7 (by decide) ?_
    exact mi_ret (v, f, z) hx hb hr hlocks h hK hP hD hS dX7_image_9
def wp_X7_restore (post : Int32 → (Nat → Int32) → (Nat → Nat → Int32) → Int64 → Prop) (v : Nat → Int32) (f : Nat → Nat → Int32) (z : Int64) : Prop := (((v 12) = (v 8) → post (v 13) (upd (upd (upd v 9 (v 13)) 7 (v 14)) 10 (v 15)) (va_up (va_up (va_up f 4 (va_cpy (f 11) (f 4) 0 0 12)) 5 (va_cpy (f 12) (f 5) 0 0 32)) 8 (va_cpy (f 13) (f 8) 0 0 24)) z) ∧ (¬ (v 12) = (v 8) → post (-103 : Int32) v f z))
def rmX7_restore : Room := { frames := 1, cells := 0, slots := 0, locals := 60 }
set_option maxHeartbeats 4000000 in
set_option maxRecDepth 100000 in
theorem c_X7_restore (l : Launch) (D : va_G) (cI : ClassId) (q : Nat → Nat) (sz : Nat) (post : Int32 → (Nat → Int32) → (Nat → Nat → Int32) → Int64 → Prop) (v : Nat → Int32) (f : Nat → Nat → Int32) (z : Int64) (h : wp_X7_restore post v f z) : Met l yX7_restore wsX7_restore rmX7_restore (va_Pc [.ref (q 0)] (mP D cI (wY cI q v f z) sz)) (mQi post D cI (wY cI q) (va_A (wY cI q v f z) sz)) 0 0 (va_A (wY cI q v f z) sz) := by
  refine Met.ofW (cc := cX7_restore) (maxL := 1) (ret := (some .int)) (by decide) rfl ?_
  intro p e s m args below meth c s₁ B hml hv
  obtain ⟨rfl, hsz, ⟨hP, hK, hN⟩, hD0⟩ := hv
  have hx := B.exec
  have hb := B.bytes
  have hr := B.returns
  have hts := atoms_spec (ws := wsX7_restore) B.pre
  have hown : s.vm.findClass RX7 = some m.cls := findClass_of_methodNamed B.named
  have hlocks : meth.locks = false := B.notSynchronized
  subst hsz
  have hD := hD0.self (sz := s.heap.size)
  generalize hAe : va_A (wY cI q v f z) s.heap.size = A at hD ⊢
  have hA : ∀ q : Nat, s.heap.size ≤ q → A q := fun q h => by rw [← hAe]; exact Or.inr h
  have hS : va_S A s.heap s.heap [] := va_S.rf
  have iX7 : ∀ w ∈ wsX70, w ∈ wsX7_restore := fun _ h9 => List.mem_cons_of_mem _ (List.mem_append_right _ h9)
  have k108 := hts (.fieldLink RX7 108 "EndedByOthersModel" "wants" "I") (by decide +kernel)
  have k111 := hts (.fieldLink RX7 111 "EndedByOthersModel" "sentences" "I") (by decide +kernel)
  have k114 := hts (.fieldLink RX7 114 "EndedByOthersModel" "heardMany" "I") (by decide +kernel)
  have k117 := hts (.fieldLink RX7 117 "EndedByOthersModel" "roomsRead" "I") (by decide +kernel)
  have k208 := hts (.fieldLink RX7 208 "EndedByOthersModel" "keptSentences" "I") (by decide +kernel)
  have k211 := hts (.fieldLink RX7 211 "EndedByOthersModel" "keptWants" "I") (by decide +kernel)
  have k214 := hts (.fieldLink RX7 214 "EndedByOthersModel" "keptHeard" "I") (by decide +kernel)
  have k22 := hts (.fieldLink RX7 22 "EndedByOthersModel" "rows" "[I") (by decide +kernel)
  have k25 := hts (.fieldLink RX7 25 "EndedByOthersModel" "said" "[I") (by decide +kernel)
  have k34 := hts (.fieldLink RX7 34 "EndedByOthersModel" "heards" "[I") (by decide +kernel)
  have k43 := hts (.fieldLink RX7 43 "EndedByOthersModel" "keptRows" "[I") (by decide +kernel)
  have k46 := hts (.fieldLink RX7 46 "EndedByOthersModel" "keptSaid" "[I") (by decide +kernel)
  have k49 := hts (.fieldLink RX7 49 "EndedByOthersModel" "keptHeards" "[I") (by decide +kernel)
  have k52 := hts (.fieldLink RX7 52 "EndedByOthersModel" "keptRoom" "I") (by decide +kernel)
  have hl := lv_entry ([.ref (q 0)]) (n := 1) (Nat.le_of_ble_eq_true rfl)
  rw [lg_entry_eq]
  generalize (lg_sl ([.ref (q 0)]) ++ List.replicate (1 - (lg_sl ([.ref (q 0)])).length) Slot.unset).toArray = ls at hl ⊢
  have hl : lv_has ls 1 [(0, .ref (q 0))] := hl
  unfold wp_X7_restore at h
  refine lv_aload_n hx hb dX7_restore_0 rfl (lv_at hl 0 rfl) ?_
  refine yg_s12 (x := v 12) hx hb hts iX7 hown hK hP k52 rfl dX7_restore_1 ?_
  refine lv_aload_n hx hb dX7_restore_4 rfl (lv_at hl 0 rfl) ?_
  refine yg_s8 (x := v 8) hx hb hts iX7 hown hK hP k117 rfl dX7_restore_5 ?_
  refine lv_icmp_eq (tgt := 14) hx hb dX7_restore_8 (by decide) (fun c9 => ?_) (fun c9 => ?_)
  · have h := h.1 c9
    refine lv_aload_n hx hb dX7_restore_14 rfl (lv_at hl 0 rfl) ?_
    refine yg_r0_12 hx hb hts iX7 hown hK hP k43 dX7_restore_15 ?_
    refine lv_aload_n hx hb dX7_restore_18 rfl (lv_at hl 0 rfl) ?_
    refine yg_r0_5 hx hb hts iX7 hown hK hP k22 dX7_restore_19 ?_
    refine cpW 12 5 ⟨hx, hb, hml, hown, hts⟩ (va_cwS 2 hts gX7_restore_X7_copy rfl rfl rfl (by decide +kernel) ⟨Nat.le_of_ble_eq_true rfl, Nat.le_of_ble_eq_true rfl⟩) (f0 := f 11) (f1 := f 4) (n := 12) (by decide) hK hP hN hD hS hA (by decide) rfl rfl hl.1 (rest := []) rfl (Nat.le_of_ble_eq_true rfl) dX7_restore_22 (Nat.zero_le _) (Nat.zero_le _) (fun H locs hP hD hS => ?_)
    have hP : va_P D vwCl (wY cI q v (va_up f 4 (va_cpy (f 11) (f 4) 0 0 12)) z) H := hP
    have hD : va_D A (wY cI q v (va_up f 4 (va_cpy (f 11) (f 4) 0 0 12)) z) := hD
    refine lv_aload_n hx hb dX7_restore_25 rfl (lv_at hl 0 rfl) ?_
    refine yg_r0_13 hx hb hts iX7 hown hK hP k46 dX7_restore_26 ?_
    refine lv_aload_n hx hb dX7_restore_29 rfl (lv_at hl 0 rfl) ?_
    refine yg_r0_6 hx hb hts iX7 hown hK hP k25 dX7_restore_30 ?_
    refine cpW 13 6 ⟨hx, hb, hml, hown, hts⟩ (va_cwS 2 hts gX7_restore_X7_copy rfl rfl rfl (by decide +kernel) ⟨Nat.le_of_ble_eq_true rfl, Nat.le_of_ble_eq_true rfl⟩) (f0 := f 12) (f1 := f 5) (n := 32) (by decide) hK hP hN hD hS hA (by decide) rfl rfl hl.1 (rest := []) rfl (Nat.le_of_ble_eq_true rfl) dX7_restore_33 (Nat.zero_le _) (Nat.zero_le _) (fun H locs hP hD hS => ?_)
    have hP : va_P D vwCl (wY cI q v (va_up (va_up f 4 (va_cpy (f 11) (f 4) 0 0 12)) 5 (va_cpy (f 12) (f 5) 0 0 32)) z) H := hP
    have hD : va_D A (wY cI q v (va_up (va_up f 4 (va_cpy (f 11) (f 4) 0 0 12)) 5 (va_cpy (f 12) (f 5) 0 0 32)) z) := hD
    refine lv_aload_n hx hb dX7_restore_36 rfl (lv_at hl 0 rfl) ?_
    refine yg_r0_14 hx hb hts iX7 hown hK hP k49 dX7_restore_37 ?_
    refine lv_aload_n hx hb dX7_restore_40 rfl (lv_at hl 0 rfl) ?_
    refine yg_r0_9 hx hb hts iX7 hown hK hP k34 dX7_restore_41 ?_
    refine cpW 14 9 ⟨hx, hb, hml, hown, hts⟩ (va_cwS 2 hts gX7_restore_X7_copy rfl rfl rfl (by decide +kernel) ⟨Nat.le_of_ble_eq_true rfl, Nat.le_of_ble_eq_true rfl⟩) (f0 := f 13) (f1 := f 8) (n := 24) (by decide) hK hP hN hD hS hA (by decide) rfl rfl hl.1 (rest := []) rfl (Nat.le_of_ble_eq_true rfl) dX7_restore_44 (Nat.zero_le _) (Nat.zero_le _) (fun H locs hP hD hS => ?_)
    have hP : va_P D vwCl (wY cI q v (va_up (va_up (va_up f 4 (va_cpy (f 11) (f 4) 0 0 12)) 5 (va_cpy (f 12) (f 5) 0 0 32)) 8 (va_cpy (f 13) (f 8) 0 0 24)) z) H := hP
    have hD : va_D A (wY cI q v (va_up (va_up (va_up f 4 (va_cpy (f 11) (f 4) 0 0 12)) 5 (va_cpy (f 12) (f 5) 0 0 32)) 8 (va_cpy (f 13) (f 8) 0 0 24)) z) := hD
    refine lv_aload_n hx hb dX7_restore_47 rfl (lv_at hl 0 rfl) ?_
    refine lv_aload_n hx hb dX7_restore_48 rfl (lv_at hl 0 rfl) ?_
    refine yg_s13 (x := v 13) hx hb hts iX7 hown hK hP k208 rfl dX7_restore_49 ?_
    refine yp_s9 hx hb hts iX7 hown hK hP hD hS k111 dX7_restore_52 (fun H locs hP hD hS => ?_)
    refine lv_aload_n hx hb dX7_restore_55 rfl (lv_at hl 0 rfl) ?_
    refine lv_aload_n hx hb dX7_restore_56 rfl (lv_at hl 0 rfl) ?_
    refine yg_s14 (x := v 14) hx hb hts iX7 hown hK hP k211 rfl dX7_restore_57 ?_
    refine yp_s7 hx hb hts iX7 hown hK hP hD hS k108 dX7_restore_60 (fun H locs hP hD hS => ?_)
    refine lv_aload_n hx hb dX7_restore_63 rfl (lv_at hl 0 rfl) ?_
    refine lv_aload_n hx hb dX7_restore_64 rfl (lv_at hl 0 rfl) ?_
    refine yg_s15 (x := v 15) hx hb hts iX7 hown hK hP k214 rfl dX7_restore_65 ?_
    refine yp_s10 hx hb hts iX7 hown hK hP hD hS k114 dX7_restore_68 (fun H locs hP hD hS => ?_)
    refine lv_aload_n hx hb dX7_restore_71 rfl (lv_at hl 0 rfl) ?_
    refine yg_s9 (x := v 13) hx hb hts iX7 hown hK hP k111 rfl dX7_restore_72 ?_
    exact mi_ret (upd (upd (upd v 9 (v 13)) 7 (v 14)) 10 (v 15), va_up (va_up (va_up f 4 (va_cpy (f 11) (f 4) 0 0 12)) 5 (va_cpy (f 12) (f 5) 0 0 32)) 8 (va_cpy (f 13) (f 8) 0 0 24), z) hx hb hr hlocks h hK hP hD hS dX7_restore_75
  · have h := h.2 c9
    refine lv_bipush (v := (-103 : Int32)) hx hb dX7_restore_11 (by decide) ?_
    exact mi_ret (v, f, z) hx hb hr hlocks h hK hP hD hS dX7_restore_13
def wp_X7_wantedMany_B4 (post : Int32 → Prop) (v : Nat → Int32) (f : Nat → Nat → Int32) (z : Int64) : Nat → Int32 → Int32 → Prop
  | 0, _, _ => False
  | n4 + 1, x1, x2 => (((v 9) ≤ x2 → post x1) ∧ (¬ (v 9) ≤ x2 → (wp_X7_isWanted (fun r1 => ((r1 = 0 → wp_X7_wantedMany_B4 post v f z n4 (x1 + (0 : Int32)) (x2 + 1)) ∧ (¬ r1 = 0 → wp_X7_wantedMany_B4 post v f z n4 (x1 + (1 : Int32)) (x2 + 1)))) v f z x2)))
def wp_X7_wantedMany (post : Int32 → Prop) (v : Nat → Int32) (f : Nat → Nat → Int32) (z : Int64) : Prop := (∃ j9 : Nat, wp_X7_wantedMany_B4 post v f z j9 (0 : Int32) (0 : Int32))
def rmX7_wantedMany : Room := { frames := 1, cells := 0, slots := 0, locals := 21 }
set_option maxHeartbeats 4000000 in
set_option maxRecDepth 100000 in
theorem c_X7_wantedMany (l : Launch) (D : va_G) (cI : ClassId) (q : Nat → Nat) (post : Int32 → Prop) (v : Nat → Int32) (f : Nat → Nat → Int32) (z : Int64) (h : wp_X7_wantedMany post v f z) : Met l yX7_wantedMany wsX7_wantedMany rmX7_wantedMany (va_Pc [.ref (q 0)] (rP D cI (wY cI q v f z))) (sQ post) 0 0 (fun _ => False) := by
  refine Met.ofW (cc := cX7_wantedMany) (maxL := 3) (ret := (some .int)) (by decide) rfl ?_
  intro p e s m args below meth c s₁ B hml hv
  obtain ⟨rfl, hP, hK, hN⟩ := hv
  have hx := B.exec
  have hb := B.bytes
  have hr := B.returns
  have hts := atoms_spec (ws := wsX7_wantedMany) B.pre
  have hown : s.vm.findClass RX7 = some m.cls := findClass_of_methodNamed B.named
  have hlocks : meth.locks = false := B.notSynchronized
  have iX7 : ∀ w ∈ wsX70, w ∈ wsX7_wantedMany := fun _ h9 => List.mem_cons_of_mem _ (List.mem_append_right _ h9)
  have k111 := hts (.fieldLink RX7 111 "EndedByOthersModel" "sentences" "I") (by decide +kernel)
  have hl := lv_entry ([.ref (q 0)]) (n := 3) (Nat.le_of_ble_eq_true rfl)
  rw [lg_entry_eq]
  generalize (lg_sl ([.ref (q 0)]) ++ List.replicate (3 - (lg_sl ([.ref (q 0)])).length) Slot.unset).toArray = ls at hl ⊢
  have hl : lv_has ls 3 [(0, .ref (q 0))] := hl
  unfold wp_X7_wantedMany at h
  have B4 : ∀ (n4 : Nat) (x1 : Int32) (x2 : Int32), wp_X7_wantedMany_B4 post v f z n4 x1 x2 → ∀ (ls : Array Slot), lv_has ls 3 [(0, .ref (q 0)), (1, .int x1), (2, .int x2)] → W p l e (headSpec wsX7_wantedMany rmX7_wantedMany).room s m ([.ref (q 0)] : List Value).toArray below meth c s.heap [] 0 0 (MQ below (sQ post) ([.ref (q 0)] : List Value).toArray s 0 0 (fun _ => False)) (F0 m 4 ls []) := by
    intro n4
    induction n4 with
    | zero =>
      intro x1 x2 h
      exact False.elim h
    | succ n4 ih4 =>
      intro x1 x2 h ls hl
      rw [wp_X7_wantedMany_B4] at h
      refine lv_iload_n hx hb dX7_wantedMany_4 rfl (lv_at hl 2 rfl) ?_
      refine lv_aload_n hx hb dX7_wantedMany_5 rfl (lv_at hl 0 rfl) ?_
      refine yg_s9 (x := v 9) hx hb hts iX7 hown hK hP k111 rfl dX7_wantedMany_6 ?_
      refine lv_icmp_ge (tgt := 34) hx hb dX7_wantedMany_9 (by decide) (fun c9 => ?_) (fun c9 => ?_)
      · have h := h.1 c9
        refine lv_iload_n hx hb dX7_wantedMany_34 rfl (lv_at hl 1 rfl) ?_
        exact ri_ret hx hb hr hlocks h dX7_wantedMany_35
      · have h := h.2 c9
        refine lv_iload_n hx hb dX7_wantedMany_12 rfl (lv_at hl 1 rfl) ?_
        refine lv_aload_n hx hb dX7_wantedMany_13 rfl (lv_at hl 0 rfl) ?_
        refine lv_iload_n hx hb dX7_wantedMany_14 rfl (lv_at hl 2 rfl) ?_
        refine rV_i ⟨hx, hb, hml, hown, hts⟩ (c_X7_isWanted l D cI q _ _ _ _ _ h) (cwV 1 hts gX7_wantedMany_X7_isWanted rfl rfl rfl (by decide +kernel) ⟨Nat.le_of_ble_eq_true rfl, Nat.le_of_ble_eq_true rfl⟩) hK hP hN (va_recv hK hP (ci := 7) (q0 := 0) rfl rfl) rfl hl.1 (rest := [.int x1]) rfl (Nat.le_of_ble_eq_true rfl) dX7_wantedMany_15 (Nat.zero_le _) (Nat.zero_le _) (fun r1 h => ?_)
        refine lv_if_eq (tgt := 25) hx hb dX7_wantedMany_18 (by decide) (fun c9 => ?_) (fun c9 => ?_)
        · have h := h.1 c9
          refine lv_iconst (v := (0 : Int32)) hx hb dX7_wantedMany_25 (by decide) ?_
          refine lv_iadd hx hb dX7_wantedMany_26 ?_
          refine lv_istore_n (lv' := [(1, .int (x1 + (0 : Int32))), (0, .ref (q 0)), (2, .int x2)]) hx hb dX7_wantedMany_27 rfl hl (by decide) rfl (fun ls hl => ?_)
          refine lv_iinc (v := x2 + 1) (lv' := [(2, .int (x2 + 1)), (1, .int (x1 + (0 : Int32))), (0, .ref (q 0))]) hx hb dX7_wantedMany_28 hl (k := 2) rfl rfl (by decide) rfl (fun ls hl => ?_)
          refine lv_goto (tgt := 4) hx hb dX7_wantedMany_31 (by decide) ?_
          exact ih4 _ _ h ls (lv_sub hl [2, 1, 0] rfl)
        · have h := h.2 c9
          refine lv_iconst (v := (1 : Int32)) hx hb dX7_wantedMany_21 (by decide) ?_
          refine lv_goto (tgt := 26) hx hb dX7_wantedMany_22 (by decide) ?_
          refine lv_iadd hx hb dX7_wantedMany_26 ?_
          refine lv_istore_n (lv' := [(1, .int (x1 + (1 : Int32))), (0, .ref (q 0)), (2, .int x2)]) hx hb dX7_wantedMany_27 rfl hl (by decide) rfl (fun ls hl => ?_)
          refine lv_iinc (v := x2 + 1) (lv' := [(2, .int (x2 + 1)), (1, .int (x1 + (1 : Int32))), (0, .ref (q 0))]) hx hb dX7_wantedMany_28 hl (k := 2) rfl rfl (by decide) rfl (fun ls hl => ?_)
          refine lv_goto (tgt := 4) hx hb dX7_wantedMany_31 (by decide) ?_
          exact ih4 _ _ h ls (lv_sub hl [2, 1, 0] rfl)
  refine lv_iconst (v := (0 : Int32)) hx hb dX7_wantedMany_0 (by decide) ?_
  refine lv_istore_n (lv' := [(1, .int (0 : Int32)), (0, .ref (q 0))]) hx hb dX7_wantedMany_1 rfl hl (by decide) rfl (fun ls hl => ?_)
  refine lv_iconst (v := (0 : Int32)) hx hb dX7_wantedMany_2 (by decide) ?_
  refine lv_istore_n (lv' := [(2, .int (0 : Int32)), (1, .int (0 : Int32)), (0, .ref (q 0))]) hx hb dX7_wantedMany_3 rfl hl (by decide) rfl (fun ls hl => ?_)
  obtain ⟨n9, h⟩ := h
  exact B4 n9 _ _ h ls (lv_sub hl [2, 1, 0] rfl)
def wp_X7_unlike_B4 (post : Int32 → Prop) (v : Nat → Int32) (f : Nat → Nat → Int32) (z : Int64) : Nat → Int32 → Int32 → Prop
  | 0, _, _ => False
  | n4 + 1, x1, x2 => (((v 9) ≤ x2 → (wp_X7_ones (fun r1 => post r1) x1)) ∧ (¬ (v 9) ≤ x2 → (vp_in (((4 : Int32) * x2) + (2 : Int32)) 32 ∧ (((f 5 (((4 : Int32) * x2) + (2 : Int32)).toNatClampNeg) = (-1 : Int32) → wp_X7_unlike_B4 post v f z n4 (x1 ||| (0 : Int32)) (x2 + 1)) ∧ (¬ (f 5 (((4 : Int32) * x2) + (2 : Int32)).toNatClampNeg) = (-1 : Int32) → (vp_in (((4 : Int32) * x2) + (3 : Int32)) 32 ∧ wp_X7_unlike_B4 post v f z n4 (x1 ||| ((1 : Int32) <<< ((f 5 (((4 : Int32) * x2) + (3 : Int32)).toNatClampNeg) &&& 31))) (x2 + 1)))))))
def wp_X7_unlike (post : Int32 → Prop) (v : Nat → Int32) (f : Nat → Nat → Int32) (z : Int64) : Prop := (∃ j9 : Nat, wp_X7_unlike_B4 post v f z j9 (0 : Int32) (0 : Int32))
def rmX7_unlike : Room := { frames := 1, cells := 0, slots := 0, locals := 22 }
set_option maxHeartbeats 4000000 in
set_option maxRecDepth 100000 in
theorem c_X7_unlike (l : Launch) (D : va_G) (cI : ClassId) (q : Nat → Nat) (post : Int32 → Prop) (v : Nat → Int32) (f : Nat → Nat → Int32) (z : Int64) (h : wp_X7_unlike post v f z) : Met l yX7_unlike wsX7_unlike rmX7_unlike (va_Pc [.ref (q 0)] (rP D cI (wY cI q v f z))) (sQ post) 0 0 (fun _ => False) := by
  refine Met.ofW (cc := cX7_unlike) (maxL := 3) (ret := (some .int)) (by decide) rfl ?_
  intro p e s m args below meth c s₁ B hml hv
  obtain ⟨rfl, hP, hK, hN⟩ := hv
  have hx := B.exec
  have hb := B.bytes
  have hr := B.returns
  have hts := atoms_spec (ws := wsX7_unlike) B.pre
  have hown : s.vm.findClass RX7 = some m.cls := findClass_of_methodNamed B.named
  have hlocks : meth.locks = false := B.notSynchronized
  have iX7 : ∀ w ∈ wsX70, w ∈ wsX7_unlike := fun _ h9 => List.mem_cons_of_mem _ (List.mem_append_right _ h9)
  have k111 := hts (.fieldLink RX7 111 "EndedByOthersModel" "sentences" "I") (by decide +kernel)
  have k25 := hts (.fieldLink RX7 25 "EndedByOthersModel" "said" "[I") (by decide +kernel)
  have hl := lv_entry ([.ref (q 0)]) (n := 3) (Nat.le_of_ble_eq_true rfl)
  rw [lg_entry_eq]
  generalize (lg_sl ([.ref (q 0)]) ++ List.replicate (3 - (lg_sl ([.ref (q 0)])).length) Slot.unset).toArray = ls at hl ⊢
  have hl : lv_has ls 3 [(0, .ref (q 0))] := hl
  unfold wp_X7_unlike at h
  have B4 : ∀ (n4 : Nat) (x1 : Int32) (x2 : Int32), wp_X7_unlike_B4 post v f z n4 x1 x2 → ∀ (ls : Array Slot), lv_has ls 3 [(0, .ref (q 0)), (1, .int x1), (2, .int x2)] → W p l e (headSpec wsX7_unlike rmX7_unlike).room s m ([.ref (q 0)] : List Value).toArray below meth c s.heap [] 0 0 (MQ below (sQ post) ([.ref (q 0)] : List Value).toArray s 0 0 (fun _ => False)) (F0 m 4 ls []) := by
    intro n4
    induction n4 with
    | zero =>
      intro x1 x2 h
      exact False.elim h
    | succ n4 ih4 =>
      intro x1 x2 h ls hl
      rw [wp_X7_unlike_B4] at h
      refine lv_iload_n hx hb dX7_unlike_4 rfl (lv_at hl 2 rfl) ?_
      refine lv_aload_n hx hb dX7_unlike_5 rfl (lv_at hl 0 rfl) ?_
      refine yg_s9 (x := v 9) hx hb hts iX7 hown hK hP k111 rfl dX7_unlike_6 ?_
      refine lv_icmp_ge (tgt := 51) hx hb dX7_unlike_9 (by decide) (fun c9 => ?_) (fun c9 => ?_)
      · have h := h.1 c9
        refine lv_iload_n hx hb dX7_unlike_51 rfl (lv_at hl 1 rfl) ?_
        refine rS_i ⟨hx, hb, hml, hown, hts⟩ (c_X7_ones l D cI _ _ h) (va_cwS 1 hts gX7_unlike_X7_ones rfl rfl rfl (by decide +kernel) ⟨Nat.le_of_ble_eq_true rfl, Nat.le_of_ble_eq_true rfl⟩) hK wPnil hN rfl hl.1 (rest := []) rfl (Nat.le_of_ble_eq_true rfl) dX7_unlike_52 (Nat.zero_le _) (Nat.zero_le _) (fun r1 h => ?_)
        exact ri_ret hx hb hr hlocks h dX7_unlike_55
      · have h := h.2 c9
        refine lv_iload_n hx hb dX7_unlike_12 rfl (lv_at hl 1 rfl) ?_
        refine lv_aload_n hx hb dX7_unlike_13 rfl (lv_at hl 0 rfl) ?_
        refine yg_r0_6 hx hb hts iX7 hown hK hP k25 dX7_unlike_14 ?_
        refine lv_iconst (v := (4 : Int32)) hx hb dX7_unlike_17 (by decide) ?_
        refine lv_iload_n hx hb dX7_unlike_18 rfl (lv_at hl 2 rfl) ?_
        refine lv_imul hx hb dX7_unlike_19 ?_
        refine lv_iconst (v := (2 : Int32)) hx hb dX7_unlike_20 (by decide) ?_
        refine lv_iadd hx hb dX7_unlike_21 ?_
        obtain ⟨h9, h⟩ := h
        refine yal_5 (x := f 5 (((4 : Int32) * x2) + (2 : Int32)).toNatClampNeg) hx hb hK hP h9 rfl dX7_unlike_22 ?_
        refine lv_iconst (v := (-1 : Int32)) hx hb dX7_unlike_23 (by decide) ?_
        refine lv_icmp_ne (tgt := 31) hx hb dX7_unlike_24 (by decide) (fun c9 => ?_) (fun c9 => ?_)
        · have h := h.2 c9
          refine lv_iconst (v := (1 : Int32)) hx hb dX7_unlike_31 (by decide) ?_
          refine lv_aload_n hx hb dX7_unlike_32 rfl (lv_at hl 0 rfl) ?_
          refine yg_r0_6 hx hb hts iX7 hown hK hP k25 dX7_unlike_33 ?_
          refine lv_iconst (v := (4 : Int32)) hx hb dX7_unlike_36 (by decide) ?_
          refine lv_iload_n hx hb dX7_unlike_37 rfl (lv_at hl 2 rfl) ?_
          refine lv_imul hx hb dX7_unlike_38 ?_
          refine lv_iconst (v := (3 : Int32)) hx hb dX7_unlike_39 (by decide) ?_
          refine lv_iadd hx hb dX7_unlike_40 ?_
          obtain ⟨h9, h⟩ := h
          refine yal_5 (x := f 5 (((4 : Int32) * x2) + (3 : Int32)).toNatClampNeg) hx hb hK hP h9 rfl dX7_unlike_41 ?_
          refine lv_ishl hx hb dX7_unlike_42 ?_
          refine lv_ior hx hb dX7_unlike_43 ?_
          refine lv_istore_n (lv' := [(1, .int (x1 ||| ((1 : Int32) <<< ((f 5 (((4 : Int32) * x2) + (3 : Int32)).toNatClampNeg) &&& 31)))), (0, .ref (q 0)), (2, .int x2)]) hx hb dX7_unlike_44 rfl hl (by decide) rfl (fun ls hl => ?_)
          refine lv_iinc (v := x2 + 1) (lv' := [(2, .int (x2 + 1)), (1, .int (x1 ||| ((1 : Int32) <<< ((f 5 (((4 : Int32) * x2) + (3 : Int32)).toNatClampNeg) &&& 31)))), (0, .ref (q 0))]) hx hb dX7_unlike_45 hl (k := 2) rfl rfl (by decide) rfl (fun ls hl => ?_)
          refine lv_goto (tgt := 4) hx hb dX7_unlike_48 (by decide) ?_
          exact ih4 _ _ h ls (lv_sub hl [2, 1, 0] rfl)
        · have h := h.1 c9
          refine lv_iconst (v := (0 : Int32)) hx hb dX7_unlike_27 (by decide) ?_
          refine lv_goto (tgt := 43) hx hb dX7_unlike_28 (by decide) ?_
          refine lv_ior hx hb dX7_unlike_43 ?_
          refine lv_istore_n (lv' := [(1, .int (x1 ||| (0 : Int32))), (0, .ref (q 0)), (2, .int x2)]) hx hb dX7_unlike_44 rfl hl (by decide) rfl (fun ls hl => ?_)
          refine lv_iinc (v := x2 + 1) (lv' := [(2, .int (x2 + 1)), (1, .int (x1 ||| (0 : Int32))), (0, .ref (q 0))]) hx hb dX7_unlike_45 hl (k := 2) rfl rfl (by decide) rfl (fun ls hl => ?_)
          refine lv_goto (tgt := 4) hx hb dX7_unlike_48 (by decide) ?_
          exact ih4 _ _ h ls (lv_sub hl [2, 1, 0] rfl)
  refine lv_iconst (v := (0 : Int32)) hx hb dX7_unlike_0 (by decide) ?_
  refine lv_istore_n (lv' := [(1, .int (0 : Int32)), (0, .ref (q 0))]) hx hb dX7_unlike_1 rfl hl (by decide) rfl (fun ls hl => ?_)
  refine lv_iconst (v := (0 : Int32)) hx hb dX7_unlike_2 (by decide) ?_
  refine lv_istore_n (lv' := [(2, .int (0 : Int32)), (1, .int (0 : Int32)), (0, .ref (q 0))]) hx hb dX7_unlike_3 rfl hl (by decide) rfl (fun ls hl => ?_)
  obtain ⟨n9, h⟩ := h
  exact B4 n9 _ _ h ls (lv_sub hl [2, 1, 0] rfl)
def wp_X7_countOf (post : Int32 → Prop) (v : Nat → Int32) (f : Nat → Nat → Int32) (z : Int64) (a0 : Int32) : Prop := ((a0 = 0 → post (v 6)) ∧ (a0 = 1 → post (v 9)) ∧ (a0 = 2 → (wp_X7_saidBy (fun r1 => post r1) v f z (2 : Int32) (-1 : Int32))) ∧ (a0 = 3 → (wp_X7_wantedMany (fun r2 => post r2) v f z)) ∧ (a0 = 4 → (wp_X7_unlike (fun r3 => post r3) v f z)) ∧ (a0 = 5 → post (v 7)) ∧ (a0 = 6 → post (v 10)) ∧ (a0 = 7 → post (v 0)) ∧ (a0 = 8 → post (v 8)) ∧ (((a0).toInt < 0 ∨ 8 < (a0).toInt) → post (-102 : Int32)))
def rmX7_countOf : Room := { frames := 2, cells := 0, slots := 0, locals := 44 }
set_option maxHeartbeats 4000000 in
set_option maxRecDepth 100000 in
theorem c_X7_countOf (l : Launch) (D : va_G) (cI : ClassId) (q : Nat → Nat) (post : Int32 → Prop) (v : Nat → Int32) (f : Nat → Nat → Int32) (z : Int64) (a0 : Int32) (h : wp_X7_countOf post v f z a0) : Met l yX7_countOf wsX7_countOf rmX7_countOf (va_Pc [.ref (q 0), .int a0] (rP D cI (wY cI q v f z))) (sQ post) 0 0 (fun _ => False) := by
  refine Met.ofW (cc := cX7_countOf) (maxL := 2) (ret := (some .int)) (by decide) rfl ?_
  intro p e s m args below meth c s₁ B hml hv
  obtain ⟨rfl, hP, hK, hN⟩ := hv
  have hx := B.exec
  have hb := B.bytes
  have hr := B.returns
  have hts := atoms_spec (ws := wsX7_countOf) B.pre
  have hown : s.vm.findClass RX7 = some m.cls := findClass_of_methodNamed B.named
  have hlocks : meth.locks = false := B.notSynchronized
  have iX7 : ∀ w ∈ wsX70, w ∈ wsX7_countOf := fun _ h9 => List.mem_cons_of_mem _ (List.mem_append_right _ h9)
  have k101 := hts (.fieldLink RX7 101 "EndedByOthersModel" "speakers" "I") (by decide +kernel)
  have k108 := hts (.fieldLink RX7 108 "EndedByOthersModel" "wants" "I") (by decide +kernel)
  have k111 := hts (.fieldLink RX7 111 "EndedByOthersModel" "sentences" "I") (by decide +kernel)
  have k114 := hts (.fieldLink RX7 114 "EndedByOthersModel" "heardMany" "I") (by decide +kernel)
  have k117 := hts (.fieldLink RX7 117 "EndedByOthersModel" "roomsRead" "I") (by decide +kernel)
  have k62 := hts (.fieldLink RX7 62 "EndedByOthersModel" "pageMany" "I") (by decide +kernel)
  have hl := lv_entry ([.ref (q 0), .int a0]) (n := 2) (Nat.le_of_ble_eq_true rfl)
  rw [lg_entry_eq]
  generalize (lg_sl ([.ref (q 0), .int a0]) ++ List.replicate (2 - (lg_sl ([.ref (q 0), .int a0])).length) Slot.unset).toArray = ls at hl ⊢
  have hl : lv_has ls 2 [(0, .ref (q 0)), (1, .int a0)] := hl
  unfold wp_X7_countOf at h
  refine lv_iload_n hx hb dX7_countOf_0 rfl (lv_at hl 1 rfl) ?_
  rcases sw_0_8 (a0) with c9 | c9 | c9 | c9 | c9 | c9 | c9 | c9 | c9 | c9
  · have h := h.1 c9
    refine lv_tableIn (off := 51) (tgt := 52) hx hb dX7_countOf_1 (by rw [c9]; decide) (by rw [c9]; decide) (by rw [c9]; decide) (by decide) ?_
    refine lv_aload_n hx hb dX7_countOf_52 rfl (lv_at hl 0 rfl) ?_
    refine yg_s6 (x := v 6) hx hb hts iX7 hown hK hP k101 rfl dX7_countOf_53 ?_
    exact ri_ret hx hb hr hlocks h dX7_countOf_56
  · have h := h.2.1 c9
    refine lv_tableIn (off := 56) (tgt := 57) hx hb dX7_countOf_1 (by rw [c9]; decide) (by rw [c9]; decide) (by rw [c9]; decide) (by decide) ?_
    refine lv_aload_n hx hb dX7_countOf_57 rfl (lv_at hl 0 rfl) ?_
    refine yg_s9 (x := v 9) hx hb hts iX7 hown hK hP k111 rfl dX7_countOf_58 ?_
    exact ri_ret hx hb hr hlocks h dX7_countOf_61
  · have h := h.2.2.1 c9
    refine lv_tableIn (off := 61) (tgt := 62) hx hb dX7_countOf_1 (by rw [c9]; decide) (by rw [c9]; decide) (by rw [c9]; decide) (by decide) ?_
    refine lv_aload_n hx hb dX7_countOf_62 rfl (lv_at hl 0 rfl) ?_
    refine lv_iconst (v := (2 : Int32)) hx hb dX7_countOf_63 (by decide) ?_
    refine lv_iconst (v := (-1 : Int32)) hx hb dX7_countOf_64 (by decide) ?_
    refine rV_i ⟨hx, hb, hml, hown, hts⟩ (c_X7_saidBy l D cI q _ _ _ _ _ _ h) (cwV 2 hts gX7_countOf_X7_saidBy rfl rfl rfl (by decide +kernel) ⟨Nat.le_of_ble_eq_true rfl, Nat.le_of_ble_eq_true rfl⟩) hK hP hN (va_recv hK hP (ci := 7) (q0 := 0) rfl rfl) rfl hl.1 (rest := []) rfl (Nat.le_of_ble_eq_true rfl) dX7_countOf_65 (Nat.zero_le _) (Nat.zero_le _) (fun r1 h => ?_)
    exact ri_ret hx hb hr hlocks h dX7_countOf_68
  · have h := h.2.2.2.1 c9
    refine lv_tableIn (off := 68) (tgt := 69) hx hb dX7_countOf_1 (by rw [c9]; decide) (by rw [c9]; decide) (by rw [c9]; decide) (by decide) ?_
    refine lv_aload_n hx hb dX7_countOf_69 rfl (lv_at hl 0 rfl) ?_
    refine rV_i ⟨hx, hb, hml, hown, hts⟩ (c_X7_wantedMany l D cI q _ _ _ _ h) (cwV 0 hts gX7_countOf_X7_wantedMany rfl rfl rfl (by decide +kernel) ⟨Nat.le_of_ble_eq_true rfl, Nat.le_of_ble_eq_true rfl⟩) hK hP hN (va_recv hK hP (ci := 7) (q0 := 0) rfl rfl) rfl hl.1 (rest := []) rfl (Nat.le_of_ble_eq_true rfl) dX7_countOf_70 (Nat.zero_le _) (Nat.zero_le _) (fun r2 h => ?_)
    exact ri_ret hx hb hr hlocks h dX7_countOf_73
  · have h := h.2.2.2.2.1 c9
    refine lv_tableIn (off := 73) (tgt := 74) hx hb dX7_countOf_1 (by rw [c9]; decide) (by rw [c9]; decide) (by rw [c9]; decide) (by decide) ?_
    refine lv_aload_n hx hb dX7_countOf_74 rfl (lv_at hl 0 rfl) ?_
    refine rV_i ⟨hx, hb, hml, hown, hts⟩ (c_X7_unlike l D cI q _ _ _ _ h) (cwV 0 hts gX7_countOf_X7_unlike rfl rfl rfl (by decide +kernel) ⟨Nat.le_of_ble_eq_true rfl, Nat.le_of_ble_eq_true rfl⟩) hK hP hN (va_recv hK hP (ci := 7) (q0 := 0) rfl rfl) rfl hl.1 (rest := []) rfl (Nat.le_of_ble_eq_true rfl) dX7_countOf_75 (Nat.zero_le _) (Nat.zero_le _) (fun r3 h => ?_)
    exact ri_ret hx hb hr hlocks h dX7_countOf_78
  · have h := h.2.2.2.2.2.1 c9
    refine lv_tableIn (off := 78) (tgt := 79) hx hb dX7_countOf_1 (by rw [c9]; decide) (by rw [c9]; decide) (by rw [c9]; decide) (by decide) ?_
    refine lv_aload_n hx hb dX7_countOf_79 rfl (lv_at hl 0 rfl) ?_
    refine yg_s7 (x := v 7) hx hb hts iX7 hown hK hP k108 rfl dX7_countOf_80 ?_
    exact ri_ret hx hb hr hlocks h dX7_countOf_83
  · have h := h.2.2.2.2.2.2.1 c9
    refine lv_tableIn (off := 83) (tgt := 84) hx hb dX7_countOf_1 (by rw [c9]; decide) (by rw [c9]; decide) (by rw [c9]; decide) (by decide) ?_
    refine lv_aload_n hx hb dX7_countOf_84 rfl (lv_at hl 0 rfl) ?_
    refine yg_s10 (x := v 10) hx hb hts iX7 hown hK hP k114 rfl dX7_countOf_85 ?_
    exact ri_ret hx hb hr hlocks h dX7_countOf_88
  · have h := h.2.2.2.2.2.2.2.1 c9
    refine lv_tableIn (off := 88) (tgt := 89) hx hb dX7_countOf_1 (by rw [c9]; decide) (by rw [c9]; decide) (by rw [c9]; decide) (by decide) ?_
    refine lv_aload_n hx hb dX7_countOf_89 rfl (lv_at hl 0 rfl) ?_
    refine yg_s0 (x := v 0) hx hb hts iX7 hown hK hP k62 rfl dX7_countOf_90 ?_
    exact ri_ret hx hb hr hlocks h dX7_countOf_93
  · have h := h.2.2.2.2.2.2.2.2.1 c9
    refine lv_tableIn (off := 93) (tgt := 94) hx hb dX7_countOf_1 (by rw [c9]; decide) (by rw [c9]; decide) (by rw [c9]; decide) (by decide) ?_
    refine lv_aload_n hx hb dX7_countOf_94 rfl (lv_at hl 0 rfl) ?_
    refine yg_s8 (x := v 8) hx hb hts iX7 hown hK hP k117 rfl dX7_countOf_95 ?_
    exact ri_ret hx hb hr hlocks h dX7_countOf_98
  · have h := h.2.2.2.2.2.2.2.2.2 c9
    refine lv_tableOut (tgt := 99) hx hb dX7_countOf_1 c9 (by decide) ?_
    refine lv_bipush (v := (-102 : Int32)) hx hb dX7_countOf_99 (by decide) ?_
    exact ri_ret hx hb hr hlocks h dX7_countOf_101
def wp_X7_count (post : Int32 → Prop) (v : Nat → Int32) (f : Nat → Nat → Int32) (z : Int64) (a0 : Int32) : Prop := (wp_X7_countOf (fun r1 => post r1) v f z a0)
def rmX7_count : Room := { frames := 3, cells := 0, slots := 0, locals := 65 }
set_option maxHeartbeats 4000000 in
set_option maxRecDepth 100000 in
theorem c_X7_count (l : Launch) (D : va_G) (cI : ClassId) (q : Nat → Nat) (post : Int32 → Prop) (v : Nat → Int32) (f : Nat → Nat → Int32) (z : Int64) (a0 : Int32) (h : wp_X7_count post v f z a0) : Met l yX7_count wsX7_count rmX7_count (va_Pc [.ref (q 0), .int a0] (rP D cI (wY cI q v f z))) (sQ post) 0 0 (fun _ => False) := by
  refine Met.ofW (cc := cX7_count) (maxL := 2) (ret := (some .int)) (by decide) rfl ?_
  intro p e s m args below meth c s₁ B hml hv
  obtain ⟨rfl, hP, hK, hN⟩ := hv
  have hx := B.exec
  have hb := B.bytes
  have hr := B.returns
  have hts := atoms_spec (ws := wsX7_count) B.pre
  have hown : s.vm.findClass RX7 = some m.cls := findClass_of_methodNamed B.named
  have hlocks : meth.locks = false := B.notSynchronized
  have hl := lv_entry ([.ref (q 0), .int a0]) (n := 2) (Nat.le_of_ble_eq_true rfl)
  rw [lg_entry_eq]
  generalize (lg_sl ([.ref (q 0), .int a0]) ++ List.replicate (2 - (lg_sl ([.ref (q 0), .int a0])).length) Slot.unset).toArray = ls at hl ⊢
  have hl : lv_has ls 2 [(0, .ref (q 0)), (1, .int a0)] := hl
  unfold wp_X7_count at h
  refine lv_aload_n hx hb dX7_count_0 rfl (lv_at hl 0 rfl) ?_
  refine lv_iload_n hx hb dX7_count_1 rfl (lv_at hl 1 rfl) ?_
  refine rV_i ⟨hx, hb, hml, hown, hts⟩ (c_X7_countOf l D cI q _ _ _ _ _ h) (cwV 1 hts gX7_count_X7_countOf rfl rfl rfl (by decide +kernel) ⟨Nat.le_of_ble_eq_true rfl, Nat.le_of_ble_eq_true rfl⟩) hK hP hN (va_recv hK hP (ci := 7) (q0 := 0) rfl rfl) rfl hl.1 (rest := []) rfl (Nat.le_of_ble_eq_true rfl) dX7_count_2 (Nat.zero_le _) (Nat.zero_le _) (fun r1 h => ?_)
  exact ri_ret hx hb hr hlocks h dX7_count_5
def wp_X7_say (post : (Nat → Int32) → (Nat → Nat → Int32) → Int64 → Prop) (v : Nat → Int32) (f : Nat → Nat → Int32) (z : Int64) (a0 : Int64) : Prop := post v f (((31 : Int64) * z) + a0)
def rmX7_say : Room := { frames := 0, cells := 0, slots := 0, locals := 0 }
set_option maxHeartbeats 4000000 in
set_option maxRecDepth 100000 in
theorem c_X7_say (l : Launch) (D : va_G) (cI : ClassId) (q : Nat → Nat) (sz : Nat) (post : (Nat → Int32) → (Nat → Nat → Int32) → Int64 → Prop) (v : Nat → Int32) (f : Nat → Nat → Int32) (z : Int64) (a0 : Int64) (h : wp_X7_say post v f z a0) : Met l yX7_say wsX7_say rmX7_say (va_Pc [.ref (q 0), .long a0] (mP D cI (wY cI q v f z) sz)) (mQv post D cI (wY cI q) (va_A (wY cI q v f z) sz)) 0 0 (va_A (wY cI q v f z) sz) := by
  refine Met.ofW (cc := cX7_say) (maxL := 3) (ret := none) (by decide) rfl ?_
  intro p e s m args below meth c s₁ B hml hv
  obtain ⟨rfl, hsz, ⟨hP, hK, hN⟩, hD0⟩ := hv
  have hx := B.exec
  have hb := B.bytes
  have hr := B.returns
  have hts := atoms_spec (ws := wsX7_say) B.pre
  have hown : s.vm.findClass RX7 = some m.cls := findClass_of_methodNamed B.named
  have hlocks : meth.locks = false := B.notSynchronized
  subst hsz
  have hD := hD0.self (sz := s.heap.size)
  generalize hAe : va_A (wY cI q v f z) s.heap.size = A at hD ⊢
  have hA : ∀ q : Nat, s.heap.size ≤ q → A q := fun q h => by rw [← hAe]; exact Or.inr h
  have hS : va_S A s.heap s.heap [] := va_S.rf
  have iX7 : ∀ w ∈ wsX70, w ∈ wsX7_say := fun _ h9 => List.mem_cons_of_mem _ (List.mem_append_right _ h9)
  have k231 := hts (.fieldLink RX7 231 "EndedByOthersModel" "hash" "J") (by decide +kernel)
  have hl := lv_entry ([.ref (q 0), .long a0]) (n := 3) (Nat.le_of_ble_eq_true rfl)
  rw [lg_entry_eq]
  generalize (lg_sl ([.ref (q 0), .long a0]) ++ List.replicate (3 - (lg_sl ([.ref (q 0), .long a0])).length) Slot.unset).toArray = ls at hl ⊢
  have hl : lv_has ls 3 [(0, .ref (q 0)), (1, .long a0)] := hl
  unfold wp_X7_say at h
  refine lv_aload_n hx hb dX7_say_0 rfl (lv_at hl 0 rfl) ?_
  refine lv_ldc2 (v := (31 : Int64)) hx hb hown (hts (.constantLong RX7 229 (31)) (by decide +kernel)) dX7_say_1 ?_
  refine lv_aload_n hx hb dX7_say_4 rfl (lv_at hl 0 rfl) ?_
  refine yg_l0 (x := z) hx hb hts iX7 hown hK hP k231 rfl dX7_say_5 ?_
  refine lv_lmul hx hb dX7_say_8 ?_
  refine lv_lload_n hx hb dX7_say_9 rfl (lv_at hl 1 rfl) ?_
  refine lv_ladd hx hb dX7_say_10 ?_
  refine yp_l0 hx hb hts iX7 hown hK hP hD hS k231 dX7_say_11 (fun H locs hP hD hS => ?_)
  exact mv_ret (v, f, ((31 : Int64) * z) + a0) hx hb hr hlocks h hK hP hD hS dX7_say_14
def wp_X7_saySpeaker_B27 (post : (Nat → Int32) → (Nat → Nat → Int32) → Int64 → Prop) : Nat → (Nat → Int32) → (Nat → Nat → Int32) → Int64 → Int32 → Int32 → Prop
  | 0, _, _, _, _, _ => False
  | n27 + 1, v, f, z, x1, x2 => (((4 : Int32) ≤ x2 → post v f z) ∧ (¬ (4 : Int32) ≤ x2 → (wp_X7_wouldOf (fun r1 => (wp_X7_say (fun v3 f4 z5 => wp_X7_saySpeaker_B27 post n27 v3 f4 z5 x1 (x2 + 1)) v f z ((r1).toInt64))) v f z x1 x2)))
def wp_X7_saySpeaker_B2 (post : (Nat → Int32) → (Nat → Nat → Int32) → Int64 → Prop) : Nat → (Nat → Int32) → (Nat → Nat → Int32) → Int64 → Int32 → Int32 → Prop
  | 0, _, _, _, _, _ => False
  | n2 + 1, v, f, z, x1, x2 => (((9 : Int32) ≤ x2 → (∃ j9 : Nat, wp_X7_saySpeaker_B27 post j9 v f z x1 (0 : Int32))) ∧ (¬ (9 : Int32) ≤ x2 → (wp_X7_tell (fun r6 v7 f8 z9 => (wp_X7_say (fun v11 f12 z13 => wp_X7_saySpeaker_B2 post n2 v11 f12 z13 x1 (x2 + 1)) v7 f8 z9 ((r6).toInt64))) v f z x1 x2)))
def wp_X7_saySpeaker (post : (Nat → Int32) → (Nat → Nat → Int32) → Int64 → Prop) (v : Nat → Int32) (f : Nat → Nat → Int32) (z : Int64) (a0 : Int32) : Prop := (∃ j9 : Nat, wp_X7_saySpeaker_B2 post j9 v f z a0 (0 : Int32))
def rmX7_saySpeaker : Room := { frames := 5, cells := 0, slots := 0, locals := 125 }
set_option maxHeartbeats 4000000 in
set_option maxRecDepth 100000 in
theorem c_X7_saySpeaker (l : Launch) (D : va_G) (cI : ClassId) (q : Nat → Nat) (sz : Nat) (post : (Nat → Int32) → (Nat → Nat → Int32) → Int64 → Prop) (v : Nat → Int32) (f : Nat → Nat → Int32) (z : Int64) (a0 : Int32) (h : wp_X7_saySpeaker post v f z a0) : Met l yX7_saySpeaker wsX7_saySpeaker rmX7_saySpeaker (va_Pc [.ref (q 0), .int a0] (mP D cI (wY cI q v f z) sz)) (mQv post D cI (wY cI q) (va_A (wY cI q v f z) sz)) 0 0 (va_A (wY cI q v f z) sz) := by
  refine Met.ofW (cc := cX7_saySpeaker) (maxL := 3) (ret := none) (by decide) rfl ?_
  intro p e s m args below meth c s₁ B hml hv
  obtain ⟨rfl, hsz, ⟨hP, hK, hN⟩, hD0⟩ := hv
  have hx := B.exec
  have hb := B.bytes
  have hr := B.returns
  have hts := atoms_spec (ws := wsX7_saySpeaker) B.pre
  have hown : s.vm.findClass RX7 = some m.cls := findClass_of_methodNamed B.named
  have hlocks : meth.locks = false := B.notSynchronized
  subst hsz
  have hD := hD0.self (sz := s.heap.size)
  generalize hAe : va_A (wY cI q v f z) s.heap.size = A at hD ⊢
  have hA : ∀ q : Nat, s.heap.size ≤ q → A q := fun q h => by rw [← hAe]; exact Or.inr h
  have hS : va_S A s.heap s.heap [] := va_S.rf
  have hl := lv_entry ([.ref (q 0), .int a0]) (n := 3) (Nat.le_of_ble_eq_true rfl)
  rw [lg_entry_eq]
  generalize (lg_sl ([.ref (q 0), .int a0]) ++ List.replicate (3 - (lg_sl ([.ref (q 0), .int a0])).length) Slot.unset).toArray = ls at hl ⊢
  have hl : lv_has ls 3 [(0, .ref (q 0)), (1, .int a0)] := hl
  unfold wp_X7_saySpeaker at h
  have B27 : ∀ (n27 : Nat) (v : Nat → Int32) (f : Nat → Nat → Int32) (z : Int64) (x1 : Int32) (x2 : Int32), wp_X7_saySpeaker_B27 post n27 v f z x1 x2 → ∀ (H : Heap) (locs : List Loc), va_P D vwCl (wY cI q v f z) H → va_D A (wY cI q v f z) → va_S A s.heap H locs → ∀ (ls : Array Slot), lv_has ls 3 [(0, .ref (q 0)), (1, .int x1), (2, .int x2)] → W p l e (headSpec wsX7_saySpeaker rmX7_saySpeaker).room s m ([.ref (q 0), .int a0] : List Value).toArray below meth c H locs 0 0 (MQ below (mQv post D cI (wY cI q) A) ([.ref (q 0), .int a0] : List Value).toArray s 0 0 A) (F0 m 27 ls []) := by
    intro n27
    induction n27 with
    | zero =>
      intro v f z x1 x2 h
      exact False.elim h
    | succ n27 ih27 =>
      intro v f z x1 x2 h H locs hP hD hS ls hl
      rw [wp_X7_saySpeaker_B27] at h
      refine lv_iload_n hx hb dX7_saySpeaker_27 rfl (lv_at hl 2 rfl) ?_
      refine lv_iconst (v := (4 : Int32)) hx hb dX7_saySpeaker_28 (by decide) ?_
      refine lv_icmp_ge (tgt := 49) hx hb dX7_saySpeaker_29 (by decide) (fun c9 => ?_) (fun c9 => ?_)
      · have h := h.1 c9
        exact mv_ret (v, f, z) hx hb hr hlocks h hK hP hD hS dX7_saySpeaker_49
      · have h := h.2 c9
        refine lv_aload_n hx hb dX7_saySpeaker_32 rfl (lv_at hl 0 rfl) ?_
        refine lv_aload_n hx hb dX7_saySpeaker_33 rfl (lv_at hl 0 rfl) ?_
        refine lv_iload_n hx hb dX7_saySpeaker_34 rfl (lv_at hl 1 rfl) ?_
        refine lv_iload_n hx hb dX7_saySpeaker_35 rfl (lv_at hl 2 rfl) ?_
        refine rV_i ⟨hx, hb, hml, hown, hts⟩ (c_X7_wouldOf l D cI q _ _ _ _ _ _ h) (cwV 2 hts gX7_saySpeaker_X7_wouldOf rfl rfl rfl (by decide +kernel) ⟨Nat.le_of_ble_eq_true rfl, Nat.le_of_ble_eq_true rfl⟩) hK hP hN (va_recv hK hP (ci := 7) (q0 := 0) rfl rfl) rfl hl.1 (rest := [.ref (q 0)]) rfl (Nat.le_of_ble_eq_true rfl) dX7_saySpeaker_36 (Nat.zero_le _) (Nat.zero_le _) (fun r1 h => ?_)
        refine lv_i2l (v := (r1).toInt64) hx hb dX7_saySpeaker_39 rfl ?_
        refine mV_v ⟨hx, hb, hml, hown, hts⟩ (c_X7_say l D cI q _ _ _ _ _ _ h) (cwV 1 hts gX7_saySpeaker_X7_say rfl rfl rfl (by decide +kernel) ⟨Nat.le_of_ble_eq_true rfl, Nat.le_of_ble_eq_true rfl⟩) hK hP hN hD hS hA (va_recv hK hP (ci := 7) (q0 := 0) rfl rfl) rfl hl.1 (rest := []) rfl (Nat.le_of_ble_eq_true rfl) dX7_saySpeaker_40 (Nat.zero_le _) (Nat.zero_le _) (fun v3 f4 z5 h H locs hP hD hS => ?_)
        refine lv_iinc (v := x2 + 1) (lv' := [(2, .int (x2 + 1)), (0, .ref (q 0)), (1, .int x1)]) hx hb dX7_saySpeaker_43 hl (k := 2) rfl rfl (by decide) rfl (fun ls hl => ?_)
        refine lv_goto (tgt := 27) hx hb dX7_saySpeaker_46 (by decide) ?_
        exact ih27 _ _ _ _ _ h _ _ hP hD hS ls (lv_sub hl [1, 2, 0] rfl)
  have B2 : ∀ (n2 : Nat) (v : Nat → Int32) (f : Nat → Nat → Int32) (z : Int64) (x1 : Int32) (x2 : Int32), wp_X7_saySpeaker_B2 post n2 v f z x1 x2 → ∀ (H : Heap) (locs : List Loc), va_P D vwCl (wY cI q v f z) H → va_D A (wY cI q v f z) → va_S A s.heap H locs → ∀ (ls : Array Slot), lv_has ls 3 [(0, .ref (q 0)), (1, .int x1), (2, .int x2)] → W p l e (headSpec wsX7_saySpeaker rmX7_saySpeaker).room s m ([.ref (q 0), .int a0] : List Value).toArray below meth c H locs 0 0 (MQ below (mQv post D cI (wY cI q) A) ([.ref (q 0), .int a0] : List Value).toArray s 0 0 A) (F0 m 2 ls []) := by
    intro n2
    induction n2 with
    | zero =>
      intro v f z x1 x2 h
      exact False.elim h
    | succ n2 ih2 =>
      intro v f z x1 x2 h H locs hP hD hS ls hl
      rw [wp_X7_saySpeaker_B2] at h
      refine lv_iload_n hx hb dX7_saySpeaker_2 rfl (lv_at hl 2 rfl) ?_
      refine lv_bipush (v := (9 : Int32)) hx hb dX7_saySpeaker_3 (by decide) ?_
      refine lv_icmp_ge (tgt := 25) hx hb dX7_saySpeaker_5 (by decide) (fun c9 => ?_) (fun c9 => ?_)
      · have h := h.1 c9
        refine lv_iconst (v := (0 : Int32)) hx hb dX7_saySpeaker_25 (by decide) ?_
        refine lv_istore_n (lv' := [(2, .int (0 : Int32)), (0, .ref (q 0)), (1, .int x1)]) hx hb dX7_saySpeaker_26 rfl hl (by decide) rfl (fun ls hl => ?_)
        obtain ⟨n9, h⟩ := h
        exact B27 n9 _ _ _ _ _ h _ _ hP hD hS ls (lv_sub hl [1, 2, 0] rfl)
      · have h := h.2 c9
        refine lv_aload_n hx hb dX7_saySpeaker_8 rfl (lv_at hl 0 rfl) ?_
        refine lv_aload_n hx hb dX7_saySpeaker_9 rfl (lv_at hl 0 rfl) ?_
        refine lv_iload_n hx hb dX7_saySpeaker_10 rfl (lv_at hl 1 rfl) ?_
        refine lv_iload_n hx hb dX7_saySpeaker_11 rfl (lv_at hl 2 rfl) ?_
        refine mV_i ⟨hx, hb, hml, hown, hts⟩ (c_X7_tell l D cI q _ _ _ _ _ _ _ h) (cwV 2 hts gX7_saySpeaker_X7_tell rfl rfl rfl (by decide +kernel) ⟨Nat.le_of_ble_eq_true rfl, Nat.le_of_ble_eq_true rfl⟩) hK hP hN hD hS hA (va_recv hK hP (ci := 7) (q0 := 0) rfl rfl) rfl hl.1 (rest := [.ref (q 0)]) rfl (Nat.le_of_ble_eq_true rfl) dX7_saySpeaker_12 (Nat.zero_le _) (Nat.zero_le _) (fun r6 v7 f8 z9 h H locs hP hD hS => ?_)
        refine lv_i2l (v := (r6).toInt64) hx hb dX7_saySpeaker_15 rfl ?_
        refine mV_v ⟨hx, hb, hml, hown, hts⟩ (c_X7_say l D cI q _ _ _ _ _ _ h) (cwV 1 hts gX7_saySpeaker_X7_say rfl rfl rfl (by decide +kernel) ⟨Nat.le_of_ble_eq_true rfl, Nat.le_of_ble_eq_true rfl⟩) hK hP hN hD hS hA (va_recv hK hP (ci := 7) (q0 := 0) rfl rfl) rfl hl.1 (rest := []) rfl (Nat.le_of_ble_eq_true rfl) dX7_saySpeaker_16 (Nat.zero_le _) (Nat.zero_le _) (fun v11 f12 z13 h H locs hP hD hS => ?_)
        refine lv_iinc (v := x2 + 1) (lv' := [(2, .int (x2 + 1)), (0, .ref (q 0)), (1, .int x1)]) hx hb dX7_saySpeaker_19 hl (k := 2) rfl rfl (by decide) rfl (fun ls hl => ?_)
        refine lv_goto (tgt := 2) hx hb dX7_saySpeaker_22 (by decide) ?_
        exact ih2 _ _ _ _ _ h _ _ hP hD hS ls (lv_sub hl [1, 2, 0] rfl)
  refine lv_iconst (v := (0 : Int32)) hx hb dX7_saySpeaker_0 (by decide) ?_
  refine lv_istore_n (lv' := [(2, .int (0 : Int32)), (0, .ref (q 0)), (1, .int a0)]) hx hb dX7_saySpeaker_1 rfl hl (by decide) rfl (fun ls hl => ?_)
  obtain ⟨n9, h⟩ := h
  exact B2 n9 _ _ _ _ _ h _ _ hP hD hS ls (lv_sub hl [1, 2, 0] rfl)
def wp_X7_digest_B71 (post : Int64 → (Nat → Int32) → (Nat → Nat → Int32) → Int64 → Prop) (K61 : (Nat → Int32) → (Nat → Nat → Int32) → Int64 → Int32 → Prop) : Nat → (Nat → Int32) → (Nat → Nat → Int32) → Int64 → Int32 → Int32 → Prop
  | 0, _, _, _, _, _ => False
  | n71 + 1, v, f, z, x1, x2 => (((5 : Int32) ≤ x2 → K61 v f z (x1 + 1)) ∧ (¬ (5 : Int32) ≤ x2 → (wp_X7_tellSentence (fun r1 => (wp_X7_say (fun v3 f4 z5 => wp_X7_digest_B71 post K61 n71 v3 f4 z5 x1 (x2 + 1)) v f z ((r1).toInt64))) v f z x1 x2)))
def wp_X7_digest_B170 (post : Int64 → (Nat → Int32) → (Nat → Nat → Int32) → Int64 → Prop) : Nat → (Nat → Int32) → (Nat → Nat → Int32) → Int64 → Int32 → Prop
  | 0, _, _, _, _ => False
  | n170 + 1, v, f, z, x1 => (((9 : Int32) ≤ x1 → post z v f z) ∧ (¬ (9 : Int32) ≤ x1 → (wp_X7_countOf (fun r6 => (wp_X7_say (fun v8 f9 z10 => wp_X7_digest_B170 post n170 v8 f9 z10 (x1 + 1)) v f z ((r6).toInt64))) v f z x1)))
def wp_X7_digest_B143 (post : Int64 → (Nat → Int32) → (Nat → Nat → Int32) → Int64 → Prop) : Nat → (Nat → Int32) → (Nat → Nat → Int32) → Int64 → Int32 → Prop
  | 0, _, _, _, _ => False
  | n143 + 1, v, f, z, x1 => (((v 0) ≤ x1 → (∃ j9 : Nat, wp_X7_digest_B170 post j9 v f z (0 : Int32))) ∧ (¬ (v 0) ≤ x1 → (vp_in x1 30 ∧ (wp_X7_say (fun v12 f13 z14 => wp_X7_digest_B143 post n143 v12 f13 z14 (x1 + 1)) v f z ((f 0 (x1).toNatClampNeg).toInt64)))))
def wp_X7_digest_B119 (post : Int64 → (Nat → Int32) → (Nat → Nat → Int32) → Int64 → Prop) : Nat → (Nat → Int32) → (Nat → Nat → Int32) → Int64 → Int32 → Prop
  | 0, _, _, _, _ => False
  | n119 + 1, v, f, z, x1 => (((14 : Int32) ≤ x1 → (∃ j9 : Nat, wp_X7_digest_B143 post j9 v f z (0 : Int32))) ∧ (¬ (14 : Int32) ≤ x1 → (wp_X7_matchOf (fun r15 v16 f17 z18 => (wp_X7_say (fun v20 f21 z22 => wp_X7_digest_B119 post n119 v20 f21 z22 (x1 + 1)) v16 f17 z18 ((r15).toInt64))) v f z x1)))
def wp_X7_digest_B61 (post : Int64 → (Nat → Int32) → (Nat → Nat → Int32) → Int64 → Prop) : Nat → (Nat → Int32) → (Nat → Nat → Int32) → Int64 → Int32 → Prop
  | 0, _, _, _, _ => False
  | n61 + 1, v, f, z, x1 => (((v 9) ≤ x1 → (wp_X7_lacks (fun r23 => ((r23 = 0 → (wp_X7_matchOf (fun r24 v25 f26 z27 => (wp_X7_say (fun v29 f30 z31 => (∃ j9 : Nat, wp_X7_digest_B119 post j9 v29 f30 z31 (10 : Int32))) v25 f26 z27 ((r24).toInt64))) v f z (0 : Int32))) ∧ (¬ r23 = 0 → (∃ j9 : Nat, wp_X7_digest_B143 post j9 v f z (0 : Int32))))) v f z)) ∧ (¬ (v 9) ≤ x1 → (∃ j9 : Nat, wp_X7_digest_B71 post (wp_X7_digest_B61 post n61) j9 v f z x1 (0 : Int32))))
def wp_X7_digest_B40 (post : Int64 → (Nat → Int32) → (Nat → Nat → Int32) → Int64 → Prop) : Nat → (Nat → Int32) → (Nat → Nat → Int32) → Int64 → Int32 → Prop
  | 0, _, _, _, _ => False
  | n40 + 1, v, f, z, x1 => (((v 6) ≤ x1 → (∃ j9 : Nat, wp_X7_digest_B61 post j9 v f z (0 : Int32))) ∧ (¬ (v 6) ≤ x1 → (wp_X7_saySpeaker (fun v33 f34 z35 => wp_X7_digest_B40 post n40 v33 f34 z35 (x1 + 1)) v f z x1)))
def wp_X7_digest_B9 (post : Int64 → (Nat → Int32) → (Nat → Nat → Int32) → Int64 → Prop) : Nat → (Nat → Int32) → (Nat → Nat → Int32) → Int64 → Int32 → Prop
  | 0, _, _, _, _ => False
  | n9 + 1, v, f, z, x1 => (((4 : Int32) ≤ x1 → (∃ j9 : Nat, wp_X7_digest_B40 post j9 v f z (0 : Int32))) ∧ (¬ (4 : Int32) ≤ x1 → (wp_X7_lacks (fun r36 => ((r36 = 0 → (vp_in x1 4 ∧ (wp_X7_say (fun v38 f39 z40 => wp_X7_digest_B9 post n9 v38 f39 z40 (x1 + 1)) v f z ((f 3 (x1).toNatClampNeg).toInt64)))) ∧ (¬ r36 = 0 → (∃ j9 : Nat, wp_X7_digest_B40 post j9 v f z (0 : Int32))))) v f z)))
def wp_X7_digest (post : Int64 → (Nat → Int32) → (Nat → Nat → Int32) → Int64 → Prop) (v : Nat → Int32) (f : Nat → Nat → Int32) (z : Int64) : Prop := (∃ j9 : Nat, wp_X7_digest_B9 post j9 v f (1021 : Int64) (0 : Int32))
def rmX7_digest : Room := { frames := 6, cells := 0, slots := 0, locals := 147 }
set_option maxHeartbeats 4000000 in
set_option maxRecDepth 100000 in
theorem c_X7_digest (l : Launch) (D : va_G) (cI : ClassId) (q : Nat → Nat) (sz : Nat) (post : Int64 → (Nat → Int32) → (Nat → Nat → Int32) → Int64 → Prop) (v : Nat → Int32) (f : Nat → Nat → Int32) (z : Int64) (h : wp_X7_digest post v f z) : Met l yX7_digest wsX7_digest rmX7_digest (va_Pc [.ref (q 0)] (mP D cI (wY cI q v f z) sz)) (mQl post D cI (wY cI q) (va_A (wY cI q v f z) sz)) 0 0 (va_A (wY cI q v f z) sz) := by
  refine Met.ofW (cc := cX7_digest) (maxL := 3) (ret := (some .long)) (by decide) rfl ?_
  intro p e s m args below meth c s₁ B hml hv
  obtain ⟨rfl, hsz, ⟨hP, hK, hN⟩, hD0⟩ := hv
  have hx := B.exec
  have hb := B.bytes
  have hr := B.returns
  have hts := atoms_spec (ws := wsX7_digest) B.pre
  have hown : s.vm.findClass RX7 = some m.cls := findClass_of_methodNamed B.named
  have hlocks : meth.locks = false := B.notSynchronized
  subst hsz
  have hD := hD0.self (sz := s.heap.size)
  generalize hAe : va_A (wY cI q v f z) s.heap.size = A at hD ⊢
  have hA : ∀ q : Nat, s.heap.size ≤ q → A q := fun q h => by rw [← hAe]; exact Or.inr h
  have hS : va_S A s.heap s.heap [] := va_S.rf
  have iX7 : ∀ w ∈ wsX70, w ∈ wsX7_digest := fun _ h9 => List.mem_cons_of_mem _ (List.mem_append_right _ h9)
  have k101 := hts (.fieldLink RX7 101 "EndedByOthersModel" "speakers" "I") (by decide +kernel)
  have k111 := hts (.fieldLink RX7 111 "EndedByOthersModel" "sentences" "I") (by decide +kernel)
  have k19 := hts (.fieldLink RX7 19 "EndedByOthersModel" "fitting" "[I") (by decide +kernel)
  have k231 := hts (.fieldLink RX7 231 "EndedByOthersModel" "hash" "J") (by decide +kernel)
  have k62 := hts (.fieldLink RX7 62 "EndedByOthersModel" "pageMany" "I") (by decide +kernel)
  have k7 := hts (.fieldLink RX7 7 "EndedByOthersModel" "page" "[I") (by decide +kernel)
  have hl := lv_entry ([.ref (q 0)]) (n := 3) (Nat.le_of_ble_eq_true rfl)
  rw [lg_entry_eq]
  generalize (lg_sl ([.ref (q 0)]) ++ List.replicate (3 - (lg_sl ([.ref (q 0)])).length) Slot.unset).toArray = ls at hl ⊢
  have hl : lv_has ls 3 [(0, .ref (q 0))] := hl
  unfold wp_X7_digest at h
  have B170 : ∀ (n170 : Nat) (v : Nat → Int32) (f : Nat → Nat → Int32) (z : Int64) (x1 : Int32), wp_X7_digest_B170 post n170 v f z x1 → ∀ (H : Heap) (locs : List Loc), va_P D vwCl (wY cI q v f z) H → va_D A (wY cI q v f z) → va_S A s.heap H locs → ∀ (ls : Array Slot), lv_has ls 3 [(0, .ref (q 0)), (1, .int x1)] → W p l e (headSpec wsX7_digest rmX7_digest).room s m ([.ref (q 0)] : List Value).toArray below meth c H locs 0 0 (MQ below (mQl post D cI (wY cI q) A) ([.ref (q 0)] : List Value).toArray s 0 0 A) (F0 m 170 ls []) := by
    intro n170
    induction n170 with
    | zero =>
      intro v f z x1 h
      exact False.elim h
    | succ n170 ih170 =>
      intro v f z x1 h H locs hP hD hS ls hl
      rw [wp_X7_digest_B170] at h
      refine lv_iload_n hx hb dX7_digest_170 rfl (lv_at hl 1 rfl) ?_
      refine lv_bipush (v := (9 : Int32)) hx hb dX7_digest_171 (by decide) ?_
      refine lv_icmp_ge (tgt := 192) hx hb dX7_digest_173 (by decide) (fun c9 => ?_) (fun c9 => ?_)
      · have h := h.1 c9
        refine lv_aload_n hx hb dX7_digest_192 rfl (lv_at hl 0 rfl) ?_
        refine yg_l0 (x := z) hx hb hts iX7 hown hK hP k231 rfl dX7_digest_193 ?_
        exact ml_ret (v, f, z) hx hb hr hlocks h hK hP hD hS dX7_digest_196
      · have h := h.2 c9
        refine lv_aload_n hx hb dX7_digest_176 rfl (lv_at hl 0 rfl) ?_
        refine lv_aload_n hx hb dX7_digest_177 rfl (lv_at hl 0 rfl) ?_
        refine lv_iload_n hx hb dX7_digest_178 rfl (lv_at hl 1 rfl) ?_
        refine rV_i ⟨hx, hb, hml, hown, hts⟩ (c_X7_countOf l D cI q _ _ _ _ _ h) (cwV 1 hts gX7_digest_X7_countOf rfl rfl rfl (by decide +kernel) ⟨Nat.le_of_ble_eq_true rfl, Nat.le_of_ble_eq_true rfl⟩) hK hP hN (va_recv hK hP (ci := 7) (q0 := 0) rfl rfl) rfl hl.1 (rest := [.ref (q 0)]) rfl (Nat.le_of_ble_eq_true rfl) dX7_digest_179 (Nat.zero_le _) (Nat.zero_le _) (fun r6 h => ?_)
        refine lv_i2l (v := (r6).toInt64) hx hb dX7_digest_182 rfl ?_
        refine mV_v ⟨hx, hb, hml, hown, hts⟩ (c_X7_say l D cI q _ _ _ _ _ _ h) (cwV 1 hts gX7_digest_X7_say rfl rfl rfl (by decide +kernel) ⟨Nat.le_of_ble_eq_true rfl, Nat.le_of_ble_eq_true rfl⟩) hK hP hN hD hS hA (va_recv hK hP (ci := 7) (q0 := 0) rfl rfl) rfl hl.1 (rest := []) rfl (Nat.le_of_ble_eq_true rfl) dX7_digest_183 (Nat.zero_le _) (Nat.zero_le _) (fun v8 f9 z10 h H locs hP hD hS => ?_)
        refine lv_iinc (v := x1 + 1) (lv' := [(1, .int (x1 + 1)), (0, .ref (q 0))]) hx hb dX7_digest_186 hl (k := 1) rfl rfl (by decide) rfl (fun ls hl => ?_)
        refine lv_goto (tgt := 170) hx hb dX7_digest_189 (by decide) ?_
        exact ih170 _ _ _ _ h _ _ hP hD hS ls (lv_sub hl [1, 0] rfl)
  have B143 : ∀ (n143 : Nat) (v : Nat → Int32) (f : Nat → Nat → Int32) (z : Int64) (x1 : Int32), wp_X7_digest_B143 post n143 v f z x1 → ∀ (H : Heap) (locs : List Loc), va_P D vwCl (wY cI q v f z) H → va_D A (wY cI q v f z) → va_S A s.heap H locs → ∀ (ls : Array Slot), lv_has ls 3 [(0, .ref (q 0)), (1, .int x1)] → W p l e (headSpec wsX7_digest rmX7_digest).room s m ([.ref (q 0)] : List Value).toArray below meth c H locs 0 0 (MQ below (mQl post D cI (wY cI q) A) ([.ref (q 0)] : List Value).toArray s 0 0 A) (F0 m 143 ls []) := by
    intro n143
    induction n143 with
    | zero =>
      intro v f z x1 h
      exact False.elim h
    | succ n143 ih143 =>
      intro v f z x1 h H locs hP hD hS ls hl
      rw [wp_X7_digest_B143] at h
      refine lv_iload_n hx hb dX7_digest_143 rfl (lv_at hl 1 rfl) ?_
      refine lv_aload_n hx hb dX7_digest_144 rfl (lv_at hl 0 rfl) ?_
      refine yg_s0 (x := v 0) hx hb hts iX7 hown hK hP k62 rfl dX7_digest_145 ?_
      refine lv_icmp_ge (tgt := 168) hx hb dX7_digest_148 (by decide) (fun c9 => ?_) (fun c9 => ?_)
      · have h := h.1 c9
        refine lv_iconst (v := (0 : Int32)) hx hb dX7_digest_168 (by decide) ?_
        refine lv_istore_n (lv' := [(1, .int (0 : Int32)), (0, .ref (q 0))]) hx hb dX7_digest_169 rfl hl (by decide) rfl (fun ls hl => ?_)
        obtain ⟨n9, h⟩ := h
        exact B170 n9 _ _ _ _ h _ _ hP hD hS ls (lv_sub hl [1, 0] rfl)
      · have h := h.2 c9
        refine lv_aload_n hx hb dX7_digest_151 rfl (lv_at hl 0 rfl) ?_
        refine lv_aload_n hx hb dX7_digest_152 rfl (lv_at hl 0 rfl) ?_
        refine yg_r0_1 hx hb hts iX7 hown hK hP k7 dX7_digest_153 ?_
        refine lv_iload_n hx hb dX7_digest_156 rfl (lv_at hl 1 rfl) ?_
        obtain ⟨h9, h⟩ := h
        refine yal_0 (x := f 0 (x1).toNatClampNeg) hx hb hK hP h9 rfl dX7_digest_157 ?_
        refine lv_i2l (v := (f 0 (x1).toNatClampNeg).toInt64) hx hb dX7_digest_158 rfl ?_
        refine mV_v ⟨hx, hb, hml, hown, hts⟩ (c_X7_say l D cI q _ _ _ _ _ _ h) (cwV 1 hts gX7_digest_X7_say rfl rfl rfl (by decide +kernel) ⟨Nat.le_of_ble_eq_true rfl, Nat.le_of_ble_eq_true rfl⟩) hK hP hN hD hS hA (va_recv hK hP (ci := 7) (q0 := 0) rfl rfl) rfl hl.1 (rest := []) rfl (Nat.le_of_ble_eq_true rfl) dX7_digest_159 (Nat.zero_le _) (Nat.zero_le _) (fun v12 f13 z14 h H locs hP hD hS => ?_)
        refine lv_iinc (v := x1 + 1) (lv' := [(1, .int (x1 + 1)), (0, .ref (q 0))]) hx hb dX7_digest_162 hl (k := 1) rfl rfl (by decide) rfl (fun ls hl => ?_)
        refine lv_goto (tgt := 143) hx hb dX7_digest_165 (by decide) ?_
        exact ih143 _ _ _ _ h _ _ hP hD hS ls (lv_sub hl [1, 0] rfl)
  have B119 : ∀ (n119 : Nat) (v : Nat → Int32) (f : Nat → Nat → Int32) (z : Int64) (x1 : Int32), wp_X7_digest_B119 post n119 v f z x1 → ∀ (H : Heap) (locs : List Loc), va_P D vwCl (wY cI q v f z) H → va_D A (wY cI q v f z) → va_S A s.heap H locs → ∀ (ls : Array Slot), lv_has ls 3 [(0, .ref (q 0)), (1, .int x1)] → W p l e (headSpec wsX7_digest rmX7_digest).room s m ([.ref (q 0)] : List Value).toArray below meth c H locs 0 0 (MQ below (mQl post D cI (wY cI q) A) ([.ref (q 0)] : List Value).toArray s 0 0 A) (F0 m 119 ls []) := by
    intro n119
    induction n119 with
    | zero =>
      intro v f z x1 h
      exact False.elim h
    | succ n119 ih119 =>
      intro v f z x1 h H locs hP hD hS ls hl
      rw [wp_X7_digest_B119] at h
      refine lv_iload_n hx hb dX7_digest_119 rfl (lv_at hl 1 rfl) ?_
      refine lv_bipush (v := (14 : Int32)) hx hb dX7_digest_120 (by decide) ?_
      refine lv_icmp_ge (tgt := 141) hx hb dX7_digest_122 (by decide) (fun c9 => ?_) (fun c9 => ?_)
      · have h := h.1 c9
        refine lv_iconst (v := (0 : Int32)) hx hb dX7_digest_141 (by decide) ?_
        refine lv_istore_n (lv' := [(1, .int (0 : Int32)), (0, .ref (q 0))]) hx hb dX7_digest_142 rfl hl (by decide) rfl (fun ls hl => ?_)
        obtain ⟨n9, h⟩ := h
        exact B143 n9 _ _ _ _ h _ _ hP hD hS ls (lv_sub hl [1, 0] rfl)
      · have h := h.2 c9
        refine lv_aload_n hx hb dX7_digest_125 rfl (lv_at hl 0 rfl) ?_
        refine lv_aload_n hx hb dX7_digest_126 rfl (lv_at hl 0 rfl) ?_
        refine lv_iload_n hx hb dX7_digest_127 rfl (lv_at hl 1 rfl) ?_
        refine mV_i ⟨hx, hb, hml, hown, hts⟩ (c_X7_matchOf l D cI q _ _ _ _ _ _ h) (cwV 1 hts gX7_digest_X7_matchOf rfl rfl rfl (by decide +kernel) ⟨Nat.le_of_ble_eq_true rfl, Nat.le_of_ble_eq_true rfl⟩) hK hP hN hD hS hA (va_recv hK hP (ci := 7) (q0 := 0) rfl rfl) rfl hl.1 (rest := [.ref (q 0)]) rfl (Nat.le_of_ble_eq_true rfl) dX7_digest_128 (Nat.zero_le _) (Nat.zero_le _) (fun r15 v16 f17 z18 h H locs hP hD hS => ?_)
        refine lv_i2l (v := (r15).toInt64) hx hb dX7_digest_131 rfl ?_
        refine mV_v ⟨hx, hb, hml, hown, hts⟩ (c_X7_say l D cI q _ _ _ _ _ _ h) (cwV 1 hts gX7_digest_X7_say rfl rfl rfl (by decide +kernel) ⟨Nat.le_of_ble_eq_true rfl, Nat.le_of_ble_eq_true rfl⟩) hK hP hN hD hS hA (va_recv hK hP (ci := 7) (q0 := 0) rfl rfl) rfl hl.1 (rest := []) rfl (Nat.le_of_ble_eq_true rfl) dX7_digest_132 (Nat.zero_le _) (Nat.zero_le _) (fun v20 f21 z22 h H locs hP hD hS => ?_)
        refine lv_iinc (v := x1 + 1) (lv' := [(1, .int (x1 + 1)), (0, .ref (q 0))]) hx hb dX7_digest_135 hl (k := 1) rfl rfl (by decide) rfl (fun ls hl => ?_)
        refine lv_goto (tgt := 119) hx hb dX7_digest_138 (by decide) ?_
        exact ih119 _ _ _ _ h _ _ hP hD hS ls (lv_sub hl [1, 0] rfl)
  have B61 : ∀ (n61 : Nat) (v : Nat → Int32) (f : Nat → Nat → Int32) (z : Int64) (x1 : Int32), wp_X7_digest_B61 post n61 v f z x1 → ∀ (H : Heap) (locs : List Loc), va_P D vwCl (wY cI q v f z) H → va_D A (wY cI q v f z) → va_S A s.heap H locs → ∀ (ls : Array Slot), lv_has ls 3 [(0, .ref (q 0)), (1, .int x1)] → W p l e (headSpec wsX7_digest rmX7_digest).room s m ([.ref (q 0)] : List Value).toArray below meth c H locs 0 0 (MQ below (mQl post D cI (wY cI q) A) ([.ref (q 0)] : List Value).toArray s 0 0 A) (F0 m 61 ls []) := by
    intro n61
    induction n61 with
    | zero =>
      intro v f z x1 h
      exact False.elim h
    | succ n61 ih61 =>
      have B71 : ∀ (n71 : Nat) (v : Nat → Int32) (f : Nat → Nat → Int32) (z : Int64) (x1 : Int32) (x2 : Int32), wp_X7_digest_B71 post (wp_X7_digest_B61 post n61) n71 v f z x1 x2 → ∀ (H : Heap) (locs : List Loc), va_P D vwCl (wY cI q v f z) H → va_D A (wY cI q v f z) → va_S A s.heap H locs → ∀ (ls : Array Slot), lv_has ls 3 [(0, .ref (q 0)), (1, .int x1), (2, .int x2)] → W p l e (headSpec wsX7_digest rmX7_digest).room s m ([.ref (q 0)] : List Value).toArray below meth c H locs 0 0 (MQ below (mQl post D cI (wY cI q) A) ([.ref (q 0)] : List Value).toArray s 0 0 A) (F0 m 71 ls []) := by
        intro n71
        induction n71 with
        | zero =>
          intro v f z x1 x2 h
          exact False.elim h
        | succ n71 ih71 =>
          intro v f z x1 x2 h H locs hP hD hS ls hl
          rw [wp_X7_digest_B71] at h
          refine lv_iload_n hx hb dX7_digest_71 rfl (lv_at hl 2 rfl) ?_
          refine lv_iconst (v := (5 : Int32)) hx hb dX7_digest_72 (by decide) ?_
          refine lv_icmp_ge (tgt := 93) hx hb dX7_digest_73 (by decide) (fun c9 => ?_) (fun c9 => ?_)
          · have h := h.1 c9
            refine lv_iinc (v := x1 + 1) (lv' := [(1, .int (x1 + 1)), (0, .ref (q 0)), (2, .int x2)]) hx hb dX7_digest_93 hl (k := 1) rfl rfl (by decide) rfl (fun ls hl => ?_)
            refine lv_goto (tgt := 61) hx hb dX7_digest_96 (by decide) ?_
            exact ih61 _ _ _ _ h _ _ hP hD hS ls (lv_sub hl [1, 0] rfl)
          · have h := h.2 c9
            refine lv_aload_n hx hb dX7_digest_76 rfl (lv_at hl 0 rfl) ?_
            refine lv_aload_n hx hb dX7_digest_77 rfl (lv_at hl 0 rfl) ?_
            refine lv_iload_n hx hb dX7_digest_78 rfl (lv_at hl 1 rfl) ?_
            refine lv_iload_n hx hb dX7_digest_79 rfl (lv_at hl 2 rfl) ?_
            refine rV_i ⟨hx, hb, hml, hown, hts⟩ (c_X7_tellSentence l D cI q _ _ _ _ _ _ h) (cwV 2 hts gX7_digest_X7_tellSentence rfl rfl rfl (by decide +kernel) ⟨Nat.le_of_ble_eq_true rfl, Nat.le_of_ble_eq_true rfl⟩) hK hP hN (va_recv hK hP (ci := 7) (q0 := 0) rfl rfl) rfl hl.1 (rest := [.ref (q 0)]) rfl (Nat.le_of_ble_eq_true rfl) dX7_digest_80 (Nat.zero_le _) (Nat.zero_le _) (fun r1 h => ?_)
            refine lv_i2l (v := (r1).toInt64) hx hb dX7_digest_83 rfl ?_
            refine mV_v ⟨hx, hb, hml, hown, hts⟩ (c_X7_say l D cI q _ _ _ _ _ _ h) (cwV 1 hts gX7_digest_X7_say rfl rfl rfl (by decide +kernel) ⟨Nat.le_of_ble_eq_true rfl, Nat.le_of_ble_eq_true rfl⟩) hK hP hN hD hS hA (va_recv hK hP (ci := 7) (q0 := 0) rfl rfl) rfl hl.1 (rest := []) rfl (Nat.le_of_ble_eq_true rfl) dX7_digest_84 (Nat.zero_le _) (Nat.zero_le _) (fun v3 f4 z5 h H locs hP hD hS => ?_)
            refine lv_iinc (v := x2 + 1) (lv' := [(2, .int (x2 + 1)), (0, .ref (q 0)), (1, .int x1)]) hx hb dX7_digest_87 hl (k := 2) rfl rfl (by decide) rfl (fun ls hl => ?_)
            refine lv_goto (tgt := 71) hx hb dX7_digest_90 (by decide) ?_
            exact ih71 _ _ _ _ _ h _ _ hP hD hS ls (lv_sub hl [1, 2, 0] rfl)
      intro v f z x1 h H locs hP hD hS ls hl
      rw [wp_X7_digest_B61] at h
      refine lv_iload_n hx hb dX7_digest_61 rfl (lv_at hl 1 rfl) ?_
      refine lv_aload_n hx hb dX7_digest_62 rfl (lv_at hl 0 rfl) ?_
      refine yg_s9 (x := v 9) hx hb hts iX7 hown hK hP k111 rfl dX7_digest_63 ?_
      refine lv_icmp_ge (tgt := 99) hx hb dX7_digest_66 (by decide) (fun c9 => ?_) (fun c9 => ?_)
      · have h := h.1 c9
        refine lv_aload_n hx hb dX7_digest_99 rfl (lv_at hl 0 rfl) ?_
        refine rV_i ⟨hx, hb, hml, hown, hts⟩ (c_X7_lacks l D cI q _ _ _ _ h) (cwV 0 hts gX7_digest_X7_lacks rfl rfl rfl (by decide +kernel) ⟨Nat.le_of_ble_eq_true rfl, Nat.le_of_ble_eq_true rfl⟩) hK hP hN (va_recv hK hP (ci := 7) (q0 := 0) rfl rfl) rfl hl.1 (rest := []) rfl (Nat.le_of_ble_eq_true rfl) dX7_digest_100 (Nat.zero_le _) (Nat.zero_le _) (fun r23 h => ?_)
        refine lv_if_ne (tgt := 141) hx hb dX7_digest_103 (by decide) (fun c9 => ?_) (fun c9 => ?_)
        · have h := h.2 c9
          refine lv_iconst (v := (0 : Int32)) hx hb dX7_digest_141 (by decide) ?_
          refine lv_istore_n (lv' := [(1, .int (0 : Int32)), (0, .ref (q 0))]) hx hb dX7_digest_142 rfl hl (by decide) rfl (fun ls hl => ?_)
          obtain ⟨n9, h⟩ := h
          exact B143 n9 _ _ _ _ h _ _ hP hD hS ls (lv_sub hl [1, 0] rfl)
        · have h := h.1 c9
          refine lv_aload_n hx hb dX7_digest_106 rfl (lv_at hl 0 rfl) ?_
          refine lv_aload_n hx hb dX7_digest_107 rfl (lv_at hl 0 rfl) ?_
          refine lv_iconst (v := (0 : Int32)) hx hb dX7_digest_108 (by decide) ?_
          refine mV_i ⟨hx, hb, hml, hown, hts⟩ (c_X7_matchOf l D cI q _ _ _ _ _ _ h) (cwV 1 hts gX7_digest_X7_matchOf rfl rfl rfl (by decide +kernel) ⟨Nat.le_of_ble_eq_true rfl, Nat.le_of_ble_eq_true rfl⟩) hK hP hN hD hS hA (va_recv hK hP (ci := 7) (q0 := 0) rfl rfl) rfl hl.1 (rest := [.ref (q 0)]) rfl (Nat.le_of_ble_eq_true rfl) dX7_digest_109 (Nat.zero_le _) (Nat.zero_le _) (fun r24 v25 f26 z27 h H locs hP hD hS => ?_)
          refine lv_i2l (v := (r24).toInt64) hx hb dX7_digest_112 rfl ?_
          refine mV_v ⟨hx, hb, hml, hown, hts⟩ (c_X7_say l D cI q _ _ _ _ _ _ h) (cwV 1 hts gX7_digest_X7_say rfl rfl rfl (by decide +kernel) ⟨Nat.le_of_ble_eq_true rfl, Nat.le_of_ble_eq_true rfl⟩) hK hP hN hD hS hA (va_recv hK hP (ci := 7) (q0 := 0) rfl rfl) rfl hl.1 (rest := []) rfl (Nat.le_of_ble_eq_true rfl) dX7_digest_113 (Nat.zero_le _) (Nat.zero_le _) (fun v29 f30 z31 h H locs hP hD hS => ?_)
          refine lv_bipush (v := (10 : Int32)) hx hb dX7_digest_116 (by decide) ?_
          refine lv_istore_n (lv' := [(1, .int (10 : Int32)), (0, .ref (q 0))]) hx hb dX7_digest_118 rfl hl (by decide) rfl (fun ls hl => ?_)
          obtain ⟨n9, h⟩ := h
          exact B119 n9 _ _ _ _ h _ _ hP hD hS ls (lv_sub hl [1, 0] rfl)
      · have h := h.2 c9
        refine lv_iconst (v := (0 : Int32)) hx hb dX7_digest_69 (by decide) ?_
        refine lv_istore_n (lv' := [(2, .int (0 : Int32)), (0, .ref (q 0)), (1, .int x1)]) hx hb dX7_digest_70 rfl hl (by decide) rfl (fun ls hl => ?_)
        obtain ⟨n9, h⟩ := h
        exact B71 n9 _ _ _ _ _ h _ _ hP hD hS ls (lv_sub hl [1, 2, 0] rfl)
  have B40 : ∀ (n40 : Nat) (v : Nat → Int32) (f : Nat → Nat → Int32) (z : Int64) (x1 : Int32), wp_X7_digest_B40 post n40 v f z x1 → ∀ (H : Heap) (locs : List Loc), va_P D vwCl (wY cI q v f z) H → va_D A (wY cI q v f z) → va_S A s.heap H locs → ∀ (ls : Array Slot), lv_has ls 3 [(0, .ref (q 0)), (1, .int x1)] → W p l e (headSpec wsX7_digest rmX7_digest).room s m ([.ref (q 0)] : List Value).toArray below meth c H locs 0 0 (MQ below (mQl post D cI (wY cI q) A) ([.ref (q 0)] : List Value).toArray s 0 0 A) (F0 m 40 ls []) := by
    intro n40
    induction n40 with
    | zero =>
      intro v f z x1 h
      exact False.elim h
    | succ n40 ih40 =>
      intro v f z x1 h H locs hP hD hS ls hl
      rw [wp_X7_digest_B40] at h
      refine lv_iload_n hx hb dX7_digest_40 rfl (lv_at hl 1 rfl) ?_
      refine lv_aload_n hx hb dX7_digest_41 rfl (lv_at hl 0 rfl) ?_
      refine yg_s6 (x := v 6) hx hb hts iX7 hown hK hP k101 rfl dX7_digest_42 ?_
      refine lv_icmp_ge (tgt := 59) hx hb dX7_digest_45 (by decide) (fun c9 => ?_) (fun c9 => ?_)
      · have h := h.1 c9
        refine lv_iconst (v := (0 : Int32)) hx hb dX7_digest_59 (by decide) ?_
        refine lv_istore_n (lv' := [(1, .int (0 : Int32)), (0, .ref (q 0))]) hx hb dX7_digest_60 rfl hl (by decide) rfl (fun ls hl => ?_)
        obtain ⟨n9, h⟩ := h
        exact B61 n9 _ _ _ _ h _ _ hP hD hS ls (lv_sub hl [1, 0] rfl)
      · have h := h.2 c9
        refine lv_aload_n hx hb dX7_digest_48 rfl (lv_at hl 0 rfl) ?_
        refine lv_iload_n hx hb dX7_digest_49 rfl (lv_at hl 1 rfl) ?_
        refine mV_v ⟨hx, hb, hml, hown, hts⟩ (c_X7_saySpeaker l D cI q _ _ _ _ _ _ h) (cwV 1 hts gX7_digest_X7_saySpeaker rfl rfl rfl (by decide +kernel) ⟨Nat.le_of_ble_eq_true rfl, Nat.le_of_ble_eq_true rfl⟩) hK hP hN hD hS hA (va_recv hK hP (ci := 7) (q0 := 0) rfl rfl) rfl hl.1 (rest := []) rfl (Nat.le_of_ble_eq_true rfl) dX7_digest_50 (Nat.zero_le _) (Nat.zero_le _) (fun v33 f34 z35 h H locs hP hD hS => ?_)
        refine lv_iinc (v := x1 + 1) (lv' := [(1, .int (x1 + 1)), (0, .ref (q 0))]) hx hb dX7_digest_53 hl (k := 1) rfl rfl (by decide) rfl (fun ls hl => ?_)
        refine lv_goto (tgt := 40) hx hb dX7_digest_56 (by decide) ?_
        exact ih40 _ _ _ _ h _ _ hP hD hS ls (lv_sub hl [1, 0] rfl)
  have B9 : ∀ (n9 : Nat) (v : Nat → Int32) (f : Nat → Nat → Int32) (z : Int64) (x1 : Int32), wp_X7_digest_B9 post n9 v f z x1 → ∀ (H : Heap) (locs : List Loc), va_P D vwCl (wY cI q v f z) H → va_D A (wY cI q v f z) → va_S A s.heap H locs → ∀ (ls : Array Slot), lv_has ls 3 [(0, .ref (q 0)), (1, .int x1)] → W p l e (headSpec wsX7_digest rmX7_digest).room s m ([.ref (q 0)] : List Value).toArray below meth c H locs 0 0 (MQ below (mQl post D cI (wY cI q) A) ([.ref (q 0)] : List Value).toArray s 0 0 A) (F0 m 9 ls []) := by
    intro n9
    induction n9 with
    | zero =>
      intro v f z x1 h
      exact False.elim h
    | succ n9 ih9 =>
      intro v f z x1 h H locs hP hD hS ls hl
      rw [wp_X7_digest_B9] at h
      refine lv_iload_n hx hb dX7_digest_9 rfl (lv_at hl 1 rfl) ?_
      refine lv_iconst (v := (4 : Int32)) hx hb dX7_digest_10 (by decide) ?_
      refine lv_icmp_ge (tgt := 38) hx hb dX7_digest_11 (by decide) (fun c9 => ?_) (fun c9 => ?_)
      · have h := h.1 c9
        refine lv_iconst (v := (0 : Int32)) hx hb dX7_digest_38 (by decide) ?_
        refine lv_istore_n (lv' := [(1, .int (0 : Int32)), (0, .ref (q 0))]) hx hb dX7_digest_39 rfl hl (by decide) rfl (fun ls hl => ?_)
        obtain ⟨n9, h⟩ := h
        exact B40 n9 _ _ _ _ h _ _ hP hD hS ls (lv_sub hl [1, 0] rfl)
      · have h := h.2 c9
        refine lv_aload_n hx hb dX7_digest_14 rfl (lv_at hl 0 rfl) ?_
        refine rV_i ⟨hx, hb, hml, hown, hts⟩ (c_X7_lacks l D cI q _ _ _ _ h) (cwV 0 hts gX7_digest_X7_lacks rfl rfl rfl (by decide +kernel) ⟨Nat.le_of_ble_eq_true rfl, Nat.le_of_ble_eq_true rfl⟩) hK hP hN (va_recv hK hP (ci := 7) (q0 := 0) rfl rfl) rfl hl.1 (rest := []) rfl (Nat.le_of_ble_eq_true rfl) dX7_digest_15 (Nat.zero_le _) (Nat.zero_le _) (fun r36 h => ?_)
        refine lv_if_ne (tgt := 38) hx hb dX7_digest_18 (by decide) (fun c9 => ?_) (fun c9 => ?_)
        · have h := h.2 c9
          refine lv_iconst (v := (0 : Int32)) hx hb dX7_digest_38 (by decide) ?_
          refine lv_istore_n (lv' := [(1, .int (0 : Int32)), (0, .ref (q 0))]) hx hb dX7_digest_39 rfl hl (by decide) rfl (fun ls hl => ?_)
          obtain ⟨n9, h⟩ := h
          exact B40 n9 _ _ _ _ h _ _ hP hD hS ls (lv_sub hl [1, 0] rfl)
        · have h := h.1 c9
          refine lv_aload_n hx hb dX7_digest_21 rfl (lv_at hl 0 rfl) ?_
          refine lv_aload_n hx hb dX7_digest_22 rfl (lv_at hl 0 rfl) ?_
          refine yg_r0_4 hx hb hts iX7 hown hK hP k19 dX7_digest_23 ?_
          refine lv_iload_n hx hb dX7_digest_26 rfl (lv_at hl 1 rfl) ?_
          obtain ⟨h9, h⟩ := h
          refine yal_3 (x := f 3 (x1).toNatClampNeg) hx hb hK hP h9 rfl dX7_digest_27 ?_
          refine lv_i2l (v := (f 3 (x1).toNatClampNeg).toInt64) hx hb dX7_digest_28 rfl ?_
          refine mV_v ⟨hx, hb, hml, hown, hts⟩ (c_X7_say l D cI q _ _ _ _ _ _ h) (cwV 1 hts gX7_digest_X7_say rfl rfl rfl (by decide +kernel) ⟨Nat.le_of_ble_eq_true rfl, Nat.le_of_ble_eq_true rfl⟩) hK hP hN hD hS hA (va_recv hK hP (ci := 7) (q0 := 0) rfl rfl) rfl hl.1 (rest := []) rfl (Nat.le_of_ble_eq_true rfl) dX7_digest_29 (Nat.zero_le _) (Nat.zero_le _) (fun v38 f39 z40 h H locs hP hD hS => ?_)
          refine lv_iinc (v := x1 + 1) (lv' := [(1, .int (x1 + 1)), (0, .ref (q 0))]) hx hb dX7_digest_32 hl (k := 1) rfl rfl (by decide) rfl (fun ls hl => ?_)
          refine lv_goto (tgt := 9) hx hb dX7_digest_35 (by decide) ?_
          exact ih9 _ _ _ _ h _ _ hP hD hS ls (lv_sub hl [1, 0] rfl)
  refine lv_aload_n hx hb dX7_digest_0 rfl (lv_at hl 0 rfl) ?_
  refine lv_ldc2 (v := (1021 : Int64)) hx hb hown (hts (.constantLong RX7 239 (1021)) (by decide +kernel)) dX7_digest_1 ?_
  refine yp_l0 hx hb hts iX7 hown hK hP hD hS k231 dX7_digest_4 (fun H locs hP hD hS => ?_)
  refine lv_iconst (v := (0 : Int32)) hx hb dX7_digest_7 (by decide) ?_
  refine lv_istore_n (lv' := [(1, .int (0 : Int32)), (0, .ref (q 0))]) hx hb dX7_digest_8 rfl hl (by decide) rfl (fun ls hl => ?_)
  obtain ⟨n9, h⟩ := h
  exact B9 n9 _ _ _ _ h _ _ hP hD hS ls (lv_sub hl [1, 0] rfl)
