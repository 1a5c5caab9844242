def wp_X6_isSpeaker (post : Int32 → Prop) (v : Nat → Int32) (f : Nat → Nat → Int32) (z : Int64) (a0 : Int32) : Prop := ((a0 < 0 → post (0 : Int32)) ∧ (¬ a0 < 0 → (((v 7) ≤ a0 → post (0 : Int32)) ∧ (¬ (v 7) ≤ a0 → post (1 : Int32)))))
def rmX6_isSpeaker : Room := { frames := 0, cells := 0, slots := 0, locals := 0 }
set_option maxHeartbeats 4000000 in
set_option maxRecDepth 100000 in
theorem c_X6_isSpeaker (l : Launch) (D : va_G) (cI : ClassId) (q : Nat → Nat) (post : Int32 → Prop) (v : Nat → Int32) (f : Nat → Nat → Int32) (z : Int64) (a0 : Int32) (h : wp_X6_isSpeaker post v f z a0) : Met l yX6_isSpeaker wsX6_isSpeaker rmX6_isSpeaker (va_Pc [.ref (q 0), .int a0] (rP D cI (wX cI q v f z))) (sQ post) 0 0 (fun _ => False) := by
  refine Met.ofW (cc := cX6_isSpeaker) (maxL := 2) (ret := (some .boolean)) (by decide) rfl ?_
  intro p e s m args below meth c s₁ B hml hv
  obtain ⟨rfl, hP, hK, hN⟩ := hv
  have hx := B.exec
  have hb := B.bytes
  have hr := B.returns
  have hts := atoms_spec (ws := wsX6_isSpeaker) B.pre
  have hown : s.vm.findClass RX6 = some m.cls := findClass_of_methodNamed B.named
  have hlocks : meth.locks = false := B.notSynchronized
  have iX3 : ∀ w ∈ wsX30, w ∈ wsX6_isSpeaker := fun _ h9 => List.mem_cons_of_mem _ (List.mem_append_right _ h9)
  have iX6 : ∀ w ∈ wsX60, w ∈ wsX6_isSpeaker := fun _ h9 => List.mem_cons_of_mem _ (List.mem_append_left _ (List.mem_append_right _ h9))
  have k26 := hts (.fieldLink RX6 26 "EndedByOthers" "room" "LEndedByOthers$Room;") (by decide +kernel)
  have k92 := hts (.fieldLink RX6 92 "EndedByOthers$Room" "speakers" "I") (by decide +kernel)
  have hl := lv_entry ([.ref (q 0), .int a0]) (n := 2) (Nat.le_of_ble_eq_true rfl)
  rw [lg_entry_eq]
  generalize (lg_sl ([.ref (q 0), .int a0]) ++ List.replicate (2 - (lg_sl ([.ref (q 0), .int a0])).length) Slot.unset).toArray = ls at hl ⊢
  have hl : lv_has ls 2 [(0, .ref (q 0)), (1, .int a0)] := hl
  unfold wp_X6_isSpeaker at h
  refine lv_iload_n hx hb dX6_isSpeaker_0 rfl (lv_at hl 1 rfl) ?_
  refine lv_if_lt (tgt := 19) hx hb dX6_isSpeaker_1 (by decide) (fun c9 => ?_) (fun c9 => ?_)
  · have h := h.1 c9
    refine lv_iconst (v := (0 : Int32)) hx hb dX6_isSpeaker_19 (by decide) ?_
    exact rz_ret hx hb hr hlocks rfl h dX6_isSpeaker_20
  · have h := h.2 c9
    refine lv_iload_n hx hb dX6_isSpeaker_4 rfl (lv_at hl 1 rfl) ?_
    refine lv_aload_n hx hb dX6_isSpeaker_5 rfl (lv_at hl 0 rfl) ?_
    refine xg_r0_8 hx hb hts iX6 hown hK hP k26 dX6_isSpeaker_6 ?_
    refine xg_s7 (x := v 7) hx hb hts iX3 hown hK hP k92 rfl dX6_isSpeaker_9 ?_
    refine lv_icmp_ge (tgt := 19) hx hb dX6_isSpeaker_12 (by decide) (fun c9 => ?_) (fun c9 => ?_)
    · have h := h.1 c9
      refine lv_iconst (v := (0 : Int32)) hx hb dX6_isSpeaker_19 (by decide) ?_
      exact rz_ret hx hb hr hlocks rfl h dX6_isSpeaker_20
    · have h := h.2 c9
      refine lv_iconst (v := (1 : Int32)) hx hb dX6_isSpeaker_15 (by decide) ?_
      refine lv_goto (tgt := 20) hx hb dX6_isSpeaker_16 (by decide) ?_
      exact rz_ret hx hb hr hlocks rfl h dX6_isSpeaker_20
def wp_X6_isSentence (post : Int32 → Prop) (v : Nat → Int32) (f : Nat → Nat → Int32) (z : Int64) (a0 : Int32) : Prop := ((a0 < 0 → post (0 : Int32)) ∧ (¬ a0 < 0 → (((v 8) ≤ a0 → post (0 : Int32)) ∧ (¬ (v 8) ≤ a0 → post (1 : Int32)))))
def rmX6_isSentence : Room := { frames := 0, cells := 0, slots := 0, locals := 0 }
set_option maxHeartbeats 4000000 in
set_option maxRecDepth 100000 in
theorem c_X6_isSentence (l : Launch) (D : va_G) (cI : ClassId) (q : Nat → Nat) (post : Int32 → Prop) (v : Nat → Int32) (f : Nat → Nat → Int32) (z : Int64) (a0 : Int32) (h : wp_X6_isSentence post v f z a0) : Met l yX6_isSentence wsX6_isSentence rmX6_isSentence (va_Pc [.ref (q 0), .int a0] (rP D cI (wX cI q v f z))) (sQ post) 0 0 (fun _ => False) := by
  refine Met.ofW (cc := cX6_isSentence) (maxL := 2) (ret := (some .boolean)) (by decide) rfl ?_
  intro p e s m args below meth c s₁ B hml hv
  obtain ⟨rfl, hP, hK, hN⟩ := hv
  have hx := B.exec
  have hb := B.bytes
  have hr := B.returns
  have hts := atoms_spec (ws := wsX6_isSentence) B.pre
  have hown : s.vm.findClass RX6 = some m.cls := findClass_of_methodNamed B.named
  have hlocks : meth.locks = false := B.notSynchronized
  have iX4 : ∀ w ∈ wsX40, w ∈ wsX6_isSentence := fun _ h9 => List.mem_cons_of_mem _ (List.mem_append_right _ h9)
  have iX6 : ∀ w ∈ wsX60, w ∈ wsX6_isSentence := fun _ h9 => List.mem_cons_of_mem _ (List.mem_append_left _ (List.mem_append_right _ h9))
  have k145 := hts (.fieldLink RX6 145 "EndedByOthers$Scene" "sentences" "I") (by decide +kernel)
  have k33 := hts (.fieldLink RX6 33 "EndedByOthers" "scene" "LEndedByOthers$Scene;") (by decide +kernel)
  have hl := lv_entry ([.ref (q 0), .int a0]) (n := 2) (Nat.le_of_ble_eq_true rfl)
  rw [lg_entry_eq]
  generalize (lg_sl ([.ref (q 0), .int a0]) ++ List.replicate (2 - (lg_sl ([.ref (q 0), .int a0])).length) Slot.unset).toArray = ls at hl ⊢
  have hl : lv_has ls 2 [(0, .ref (q 0)), (1, .int a0)] := hl
  unfold wp_X6_isSentence at h
  refine lv_iload_n hx hb dX6_isSentence_0 rfl (lv_at hl 1 rfl) ?_
  refine lv_if_lt (tgt := 19) hx hb dX6_isSentence_1 (by decide) (fun c9 => ?_) (fun c9 => ?_)
  · have h := h.1 c9
    refine lv_iconst (v := (0 : Int32)) hx hb dX6_isSentence_19 (by decide) ?_
    exact rz_ret hx hb hr hlocks rfl h dX6_isSentence_20
  · have h := h.2 c9
    refine lv_iload_n hx hb dX6_isSentence_4 rfl (lv_at hl 1 rfl) ?_
    refine lv_aload_n hx hb dX6_isSentence_5 rfl (lv_at hl 0 rfl) ?_
    refine xg_r0_12 hx hb hts iX6 hown hK hP k33 dX6_isSentence_6 ?_
    refine xg_s8 (x := v 8) hx hb hts iX4 hown hK hP k145 rfl dX6_isSentence_9 ?_
    refine lv_icmp_ge (tgt := 19) hx hb dX6_isSentence_12 (by decide) (fun c9 => ?_) (fun c9 => ?_)
    · have h := h.1 c9
      refine lv_iconst (v := (0 : Int32)) hx hb dX6_isSentence_19 (by decide) ?_
      exact rz_ret hx hb hr hlocks rfl h dX6_isSentence_20
    · have h := h.2 c9
      refine lv_iconst (v := (1 : Int32)) hx hb dX6_isSentence_15 (by decide) ?_
      refine lv_goto (tgt := 20) hx hb dX6_isSentence_16 (by decide) ?_
      exact rz_ret hx hb hr hlocks rfl h dX6_isSentence_20
def wp_X6_endingNow (post : Int32 → Prop) (v : Nat → Int32) (f : Nat → Nat → Int32) (z : Int64) (a0 : Int32) (a1 : Int32) : Prop := (vp_in a0 4 ∧ (vp_in a1 4 ∧ (vp_in a0 4 ∧ (wp_X4_usedBy (fun r1 => (wp_X6_endingBy (fun r2 => post r2) (f 5 (a0).toNatClampNeg) (f 4 (a1).toNatClampNeg) (f 7 (a0).toNatClampNeg) r1)) v f z a0))))
def rmX6_endingNow : Room := { frames := 2, cells := 0, slots := 0, locals := 45 }
set_option maxHeartbeats 4000000 in
set_option maxRecDepth 100000 in
theorem c_X6_endingNow (l : Launch) (D : va_G) (cI : ClassId) (q : Nat → Nat) (post : Int32 → Prop) (v : Nat → Int32) (f : Nat → Nat → Int32) (z : Int64) (a0 : Int32) (a1 : Int32) (h : wp_X6_endingNow post v f z a0 a1) : Met l yX6_endingNow wsX6_endingNow rmX6_endingNow (va_Pc [.ref (q 0), .int a0, .int a1] (rP D cI (wX cI q v f z))) (sQ post) 0 0 (fun _ => False) := by
  refine Met.ofW (cc := cX6_endingNow) (maxL := 3) (ret := (some .int)) (by decide) rfl ?_
  intro p e s m args below meth c s₁ B hml hv
  obtain ⟨rfl, hP, hK, hN⟩ := hv
  have hx := B.exec
  have hb := B.bytes
  have hr := B.returns
  have hts := atoms_spec (ws := wsX6_endingNow) B.pre
  have hown : s.vm.findClass RX6 = some m.cls := findClass_of_methodNamed B.named
  have hlocks : meth.locks = false := B.notSynchronized
  have iX3 : ∀ w ∈ wsX30, w ∈ wsX6_endingNow := fun _ h9 => List.mem_cons_of_mem _ (List.mem_append_left _ (List.mem_append_right _ h9))
  have iX4 : ∀ w ∈ wsX40, w ∈ wsX6_endingNow := fun _ h9 => List.mem_cons_of_mem _ (List.mem_append_right _ h9)
  have iX6 : ∀ w ∈ wsX60, w ∈ wsX6_endingNow := fun _ h9 => List.mem_cons_of_mem _ (List.mem_append_left _ (List.mem_append_left _ (List.mem_append_right _ h9)))
  have k105 := hts (.fieldLink RX6 105 "EndedByOthers$Room" "kinds" "[I") (by decide +kernel)
  have k108 := hts (.fieldLink RX6 108 "EndedByOthers$Scene" "wants" "[I") (by decide +kernel)
  have k26 := hts (.fieldLink RX6 26 "EndedByOthers" "room" "LEndedByOthers$Room;") (by decide +kernel)
  have k33 := hts (.fieldLink RX6 33 "EndedByOthers" "scene" "LEndedByOthers$Scene;") (by decide +kernel)
  have k99 := hts (.fieldLink RX6 99 "EndedByOthers$Room" "fitting" "[I") (by decide +kernel)
  have hl := lv_entry ([.ref (q 0), .int a0, .int a1]) (n := 3) (Nat.le_of_ble_eq_true rfl)
  rw [lg_entry_eq]
  generalize (lg_sl ([.ref (q 0), .int a0, .int a1]) ++ List.replicate (3 - (lg_sl ([.ref (q 0), .int a0, .int a1])).length) Slot.unset).toArray = ls at hl ⊢
  have hl : lv_has ls 3 [(0, .ref (q 0)), (1, .int a0), (2, .int a1)] := hl
  unfold wp_X6_endingNow at h
  refine lv_aload_n hx hb dX6_endingNow_0 rfl (lv_at hl 0 rfl) ?_
  refine xg_r0_8 hx hb hts iX6 hown hK hP k26 dX6_endingNow_1 ?_
  refine xg_r8_10 hx hb hts iX3 hown hK hP k105 dX6_endingNow_4 ?_
  refine lv_iload_n hx hb dX6_endingNow_7 rfl (lv_at hl 1 rfl) ?_
  obtain ⟨h9, h⟩ := h
  refine xal_5 (x := f 5 (a0).toNatClampNeg) hx hb hK hP h9 rfl dX6_endingNow_8 ?_
  refine lv_aload_n hx hb dX6_endingNow_9 rfl (lv_at hl 0 rfl) ?_
  refine xg_r0_8 hx hb hts iX6 hown hK hP k26 dX6_endingNow_10 ?_
  refine xg_r8_9 hx hb hts iX3 hown hK hP k99 dX6_endingNow_13 ?_
  refine lv_iload_n hx hb dX6_endingNow_16 rfl (lv_at hl 2 rfl) ?_
  obtain ⟨h9, h⟩ := h
  refine xal_4 (x := f 4 (a1).toNatClampNeg) hx hb hK hP h9 rfl dX6_endingNow_17 ?_
  refine lv_aload_n hx hb dX6_endingNow_18 rfl (lv_at hl 0 rfl) ?_
  refine xg_r0_12 hx hb hts iX6 hown hK hP k33 dX6_endingNow_19 ?_
  refine xg_r12_13 hx hb hts iX4 hown hK hP k108 dX6_endingNow_22 ?_
  refine lv_iload_n hx hb dX6_endingNow_25 rfl (lv_at hl 1 rfl) ?_
  obtain ⟨h9, h⟩ := h
  refine xal_7 (x := f 7 (a0).toNatClampNeg) hx hb hK hP h9 rfl dX6_endingNow_26 ?_
  refine lv_aload_n hx hb dX6_endingNow_27 rfl (lv_at hl 0 rfl) ?_
  refine xg_r0_12 hx hb hts iX6 hown hK hP k33 dX6_endingNow_28 ?_
  refine lv_iload_n hx hb dX6_endingNow_31 rfl (lv_at hl 1 rfl) ?_
  refine rV_i ⟨hx, hb, hml, hown, hts⟩ (c_X4_usedBy l D cI q _ _ _ _ _ h) (cwV 1 hts gX6_endingNow_X4_usedBy rfl rfl rfl (by decide +kernel) ⟨Nat.le_of_ble_eq_true rfl, Nat.le_of_ble_eq_true rfl⟩) hK hP hN (va_recv hK hP (ci := 4) (q0 := 12) rfl rfl) rfl hl.1 (rest := [.int (f 7 (a0).toNatClampNeg), .int (f 4 (a1).toNatClampNeg), .int (f 5 (a0).toNatClampNeg)]) rfl (Nat.le_of_ble_eq_true rfl) dX6_endingNow_32 (Nat.zero_le _) (Nat.zero_le _) (fun r1 h => ?_)
  refine rS_i ⟨hx, hb, hml, hown, hts⟩ (c_X6_endingBy l D cI _ _ _ _ _ h) (va_cwS 4 hts gX6_endingNow_X6_endingBy rfl rfl rfl (by decide +kernel) ⟨Nat.le_of_ble_eq_true rfl, Nat.le_of_ble_eq_true rfl⟩) hK wPnil hN rfl hl.1 (rest := []) rfl (Nat.le_of_ble_eq_true rfl) dX6_endingNow_35 (Nat.zero_le _) (Nat.zero_le _) (fun r2 h => ?_)
  exact ri_ret hx hb hr hlocks h dX6_endingNow_38
def wp_X6_isSure_B58 (post : Int32 → Prop) (v : Nat → Int32) (f : Nat → Nat → Int32) (z : Int64) (K5 : Int32 → Int32 → Int32 → Int32 → Prop) (x1 : Int32) (x2 : Int32) (x3 : Int32) (x4 : Int32) (x5 : Int32) : Prop := ((x3 = 0 → ((x5 = (-1 : Int32) → K5 x1 x2 (0 : Int32) (x4 + 1)) ∧ (¬ x5 = (-1 : Int32) → K5 x1 x2 (1 : Int32) (x4 + 1)))) ∧ (¬ x3 = 0 → K5 x1 x2 (1 : Int32) (x4 + 1)))
def wp_X6_isSure_B34 (post : Int32 → Prop) (v : Nat → Int32) (f : Nat → Nat → Int32) (z : Int64) (K5 : Int32 → Int32 → Int32 → Int32 → Prop) (x1 : Int32) (x2 : Int32) (x3 : Int32) (x4 : Int32) (y0 : Int32) : Prop := ((y0 = (-1 : Int32) → wp_X6_isSure_B58 post v f z K5 x1 x2 x3 x4 y0) ∧ (¬ y0 = (-1 : Int32) → (vp_in x1 4 ∧ ((y0 = (f 7 (x1).toNatClampNeg) → wp_X6_isSure_B58 post v f z K5 x1 x2 x3 x4 y0) ∧ (¬ y0 = (f 7 (x1).toNatClampNeg) → post (0 : Int32))))))
def wp_X6_isSure_B5 (post : Int32 → Prop) (v : Nat → Int32) (f : Nat → Nat → Int32) (z : Int64) : Nat → Int32 → Int32 → Int32 → Int32 → Prop
  | 0, _, _, _, _ => False
  | n5 + 1, x1, x2, x3, x4 => (((v 7) ≤ x4 → (nb x3 ∧ post x3)) ∧ (¬ (v 7) ≤ x4 → ((x4 = x1 → wp_X6_isSure_B34 post v f z (wp_X6_isSure_B5 post v f z n5) x1 x2 x3 x4 (-1 : Int32)) ∧ (¬ x4 = x1 → (wp_X6_endingNow (fun r1 => wp_X6_isSure_B34 post v f z (wp_X6_isSure_B5 post v f z n5) x1 x2 x3 x4 r1) v f z x4 x2)))))
def wp_X6_isSure (post : Int32 → Prop) (v : Nat → Int32) (f : Nat → Nat → Int32) (z : Int64) (a0 : Int32) (a1 : Int32) : Prop := (∃ j9 : Nat, wp_X6_isSure_B5 post v f z j9 a0 a1 (0 : Int32) (0 : Int32))
def rmX6_isSure : Room := { frames := 3, cells := 0, slots := 0, locals := 67 }
set_option maxHeartbeats 4000000 in
set_option maxRecDepth 100000 in
theorem c_X6_isSure (l : Launch) (D : va_G) (cI : ClassId) (q : Nat → Nat) (post : Int32 → Prop) (v : Nat → Int32) (f : Nat → Nat → Int32) (z : Int64) (a0 : Int32) (a1 : Int32) (h : wp_X6_isSure post v f z a0 a1) : Met l yX6_isSure wsX6_isSure rmX6_isSure (va_Pc [.ref (q 0), .int a0, .int a1] (rP D cI (wX cI q v f z))) (sQ post) 0 0 (fun _ => False) := by
  refine Met.ofW (cc := cX6_isSure) (maxL := 6) (ret := (some .boolean)) (by decide) rfl ?_
  intro p e s m args below meth c s₁ B hml hv
  obtain ⟨rfl, hP, hK, hN⟩ := hv
  have hx := B.exec
  have hb := B.bytes
  have hr := B.returns
  have hts := atoms_spec (ws := wsX6_isSure) B.pre
  have hown : s.vm.findClass RX6 = some m.cls := findClass_of_methodNamed B.named
  have hlocks : meth.locks = false := B.notSynchronized
  have iX3 : ∀ w ∈ wsX30, w ∈ wsX6_isSure := fun _ h9 => List.mem_cons_of_mem _ (List.mem_append_left _ (List.mem_append_right _ h9))
  have iX4 : ∀ w ∈ wsX40, w ∈ wsX6_isSure := fun _ h9 => List.mem_cons_of_mem _ (List.mem_append_right _ h9)
  have iX6 : ∀ w ∈ wsX60, w ∈ wsX6_isSure := fun _ h9 => List.mem_cons_of_mem _ (List.mem_append_left _ (List.mem_append_left _ (List.mem_append_right _ h9)))
  have k108 := hts (.fieldLink RX6 108 "EndedByOthers$Scene" "wants" "[I") (by decide +kernel)
  have k26 := hts (.fieldLink RX6 26 "EndedByOthers" "room" "LEndedByOthers$Room;") (by decide +kernel)
  have k33 := hts (.fieldLink RX6 33 "EndedByOthers" "scene" "LEndedByOthers$Scene;") (by decide +kernel)
  have k92 := hts (.fieldLink RX6 92 "EndedByOthers$Room" "speakers" "I") (by decide +kernel)
  have hl := lv_entry ([.ref (q 0), .int a0, .int a1]) (n := 6) (Nat.le_of_ble_eq_true rfl)
  rw [lg_entry_eq]
  generalize (lg_sl ([.ref (q 0), .int a0, .int a1]) ++ List.replicate (6 - (lg_sl ([.ref (q 0), .int a0, .int a1])).length) Slot.unset).toArray = ls at hl ⊢
  have hl : lv_has ls 6 [(0, .ref (q 0)), (1, .int a0), (2, .int a1)] := hl
  unfold wp_X6_isSure at h
  have B5 : ∀ (n5 : Nat) (x1 : Int32) (x2 : Int32) (x3 : Int32) (x4 : Int32), wp_X6_isSure_B5 post v f z n5 x1 x2 x3 x4 → ∀ (ls : Array Slot), lv_has ls 6 [(0, .ref (q 0)), (1, .int x1), (2, .int x2), (3, .int x3), (4, .int x4)] → W p l e (headSpec wsX6_isSure rmX6_isSure).room s m ([.ref (q 0), .int a0, .int a1] : List Value).toArray below meth c s.heap [] 0 0 (MQ below (sQ post) ([.ref (q 0), .int a0, .int a1] : List Value).toArray s 0 0 (fun _ => False)) (F0 m 5 ls []) := by
    intro n5
    induction n5 with
    | zero =>
      intro x1 x2 x3 x4 h
      exact False.elim h
    | succ n5 ih5 =>
      have B58 : ∀ (x1 : Int32) (x2 : Int32) (x3 : Int32) (x4 : Int32) (x5 : Int32), wp_X6_isSure_B58 post v f z (wp_X6_isSure_B5 post v f z n5) x1 x2 x3 x4 x5 → ∀ (ls : Array Slot), lv_has ls 6 [(0, .ref (q 0)), (1, .int x1), (2, .int x2), (3, .int x3), (4, .int x4), (5, .int x5)] → W p l e (headSpec wsX6_isSure rmX6_isSure).room s m ([.ref (q 0), .int a0, .int a1] : List Value).toArray below meth c s.heap [] 0 0 (MQ below (sQ post) ([.ref (q 0), .int a0, .int a1] : List Value).toArray s 0 0 (fun _ => False)) (F0 m 58 ls []) := by
        intro x1 x2 x3 x4 x5 h ls hl
        unfold wp_X6_isSure_B58 at h
        refine lv_iload_n hx hb dX6_isSure_58 rfl (lv_at hl 3 rfl) ?_
        refine lv_if_ne (tgt := 68) hx hb dX6_isSure_59 (by decide) (fun c9 => ?_) (fun c9 => ?_)
        · have h := h.2 c9
          refine lv_iconst (v := (1 : Int32)) hx hb dX6_isSure_68 (by decide) ?_
          refine lv_goto (tgt := 73) hx hb dX6_isSure_69 (by decide) ?_
          refine lv_istore_n (lv' := [(3, .int (1 : Int32)), (0, .ref (q 0)), (1, .int x1), (2, .int x2), (4, .int x4), (5, .int x5)]) hx hb dX6_isSure_73 rfl hl (by decide) rfl (fun ls hl => ?_)
          refine lv_iinc (v := x4 + 1) (lv' := [(4, .int (x4 + 1)), (3, .int (1 : Int32)), (0, .ref (q 0)), (1, .int x1), (2, .int x2), (5, .int x5)]) hx hb dX6_isSure_74 hl (k := 4) rfl rfl (by decide) rfl (fun ls hl => ?_)
          refine lv_goto (tgt := 5) hx hb dX6_isSure_77 (by decide) ?_
          exact ih5 _ _ _ _ h ls (lv_sub hl [2, 3, 4, 1, 0] rfl)
        · have h := h.1 c9
          refine lv_iload hx hb dX6_isSure_62 (lv_at hl 5 rfl) ?_
          refine lv_iconst (v := (-1 : Int32)) hx hb dX6_isSure_64 (by decide) ?_
          refine lv_icmp_eq (tgt := 72) hx hb dX6_isSure_65 (by decide) (fun c9 => ?_) (fun c9 => ?_)
          · have h := h.1 c9
            refine lv_iconst (v := (0 : Int32)) hx hb dX6_isSure_72 (by decide) ?_
            refine lv_istore_n (lv' := [(3, .int (0 : Int32)), (0, .ref (q 0)), (1, .int x1), (2, .int x2), (4, .int x4), (5, .int x5)]) hx hb dX6_isSure_73 rfl hl (by decide) rfl (fun ls hl => ?_)
            refine lv_iinc (v := x4 + 1) (lv' := [(4, .int (x4 + 1)), (3, .int (0 : Int32)), (0, .ref (q 0)), (1, .int x1), (2, .int x2), (5, .int x5)]) hx hb dX6_isSure_74 hl (k := 4) rfl rfl (by decide) rfl (fun ls hl => ?_)
            refine lv_goto (tgt := 5) hx hb dX6_isSure_77 (by decide) ?_
            exact ih5 _ _ _ _ h ls (lv_sub hl [2, 3, 4, 1, 0] rfl)
          · have h := h.2 c9
            refine lv_iconst (v := (1 : Int32)) hx hb dX6_isSure_68 (by decide) ?_
            refine lv_goto (tgt := 73) hx hb dX6_isSure_69 (by decide) ?_
            refine lv_istore_n (lv' := [(3, .int (1 : Int32)), (0, .ref (q 0)), (1, .int x1), (2, .int x2), (4, .int x4), (5, .int x5)]) hx hb dX6_isSure_73 rfl hl (by decide) rfl (fun ls hl => ?_)
            refine lv_iinc (v := x4 + 1) (lv' := [(4, .int (x4 + 1)), (3, .int (1 : Int32)), (0, .ref (q 0)), (1, .int x1), (2, .int x2), (5, .int x5)]) hx hb dX6_isSure_74 hl (k := 4) rfl rfl (by decide) rfl (fun ls hl => ?_)
            refine lv_goto (tgt := 5) hx hb dX6_isSure_77 (by decide) ?_
            exact ih5 _ _ _ _ h ls (lv_sub hl [2, 3, 4, 1, 0] rfl)
      have B34 : ∀ (x1 : Int32) (x2 : Int32) (x3 : Int32) (x4 : Int32) (y0 : Int32), wp_X6_isSure_B34 post v f z (wp_X6_isSure_B5 post v f z n5) x1 x2 x3 x4 y0 → ∀ (ls : Array Slot), lv_has ls 6 [(0, .ref (q 0)), (1, .int x1), (2, .int x2), (3, .int x3), (4, .int x4)] → W p l e (headSpec wsX6_isSure rmX6_isSure).room s m ([.ref (q 0), .int a0, .int a1] : List Value).toArray below meth c s.heap [] 0 0 (MQ below (sQ post) ([.ref (q 0), .int a0, .int a1] : List Value).toArray s 0 0 (fun _ => False)) (F0 m 34 ls [.int y0]) := by
        intro x1 x2 x3 x4 y0 h ls hl
        unfold wp_X6_isSure_B34 at h
        refine lv_istore (lv' := [(5, .int y0), (0, .ref (q 0)), (1, .int x1), (2, .int x2), (3, .int x3), (4, .int x4)]) hx hb dX6_isSure_34 hl (by decide) rfl (fun ls hl => ?_)
        refine lv_iload hx hb dX6_isSure_36 (lv_at hl 0 rfl) ?_
        refine lv_iconst (v := (-1 : Int32)) hx hb dX6_isSure_38 (by decide) ?_
        refine lv_icmp_eq (tgt := 58) hx hb dX6_isSure_39 (by decide) (fun c9 => ?_) (fun c9 => ?_)
        · have h := h.1 c9
          exact B58 _ _ _ _ _ h ls (lv_sub hl [1, 2, 3, 4, 5, 0] rfl)
        · have h := h.2 c9
          refine lv_iload hx hb dX6_isSure_42 (lv_at hl 0 rfl) ?_
          refine lv_aload_n hx hb dX6_isSure_44 rfl (lv_at hl 1 rfl) ?_
          refine xg_r0_12 hx hb hts iX6 hown hK hP k33 dX6_isSure_45 ?_
          refine xg_r12_13 hx hb hts iX4 hown hK hP k108 dX6_isSure_48 ?_
          refine lv_iload_n hx hb dX6_isSure_51 rfl (lv_at hl 2 rfl) ?_
          obtain ⟨h9, h⟩ := h
          refine xal_7 (x := f 7 (x1).toNatClampNeg) hx hb hK hP h9 rfl dX6_isSure_52 ?_
          refine lv_icmp_eq (tgt := 58) hx hb dX6_isSure_53 (by decide) (fun c9 => ?_) (fun c9 => ?_)
          · have h := h.1 c9
            exact B58 _ _ _ _ _ h ls (lv_sub hl [1, 2, 3, 4, 5, 0] rfl)
          · have h := h.2 c9
            refine lv_iconst (v := (0 : Int32)) hx hb dX6_isSure_56 (by decide) ?_
            exact rz_ret hx hb hr hlocks rfl h dX6_isSure_57
      intro x1 x2 x3 x4 h ls hl
      rw [wp_X6_isSure_B5] at h
      refine lv_iload hx hb dX6_isSure_5 (lv_at hl 4 rfl) ?_
      refine lv_aload_n hx hb dX6_isSure_7 rfl (lv_at hl 0 rfl) ?_
      refine xg_r0_8 hx hb hts iX6 hown hK hP k26 dX6_isSure_8 ?_
      refine xg_s7 (x := v 7) hx hb hts iX3 hown hK hP k92 rfl dX6_isSure_11 ?_
      refine lv_icmp_ge (tgt := 80) hx hb dX6_isSure_14 (by decide) (fun c9 => ?_) (fun c9 => ?_)
      · have h := h.1 c9
        refine lv_iload_n hx hb dX6_isSure_80 rfl (lv_at hl 3 rfl) ?_
        obtain ⟨h9, h⟩ := h
        exact rz_ret hx hb hr hlocks h9 h dX6_isSure_81
      · have h := h.2 c9
        refine lv_iload hx hb dX6_isSure_17 (lv_at hl 4 rfl) ?_
        refine lv_iload_n hx hb dX6_isSure_19 rfl (lv_at hl 1 rfl) ?_
        refine lv_icmp_ne (tgt := 27) hx hb dX6_isSure_20 (by decide) (fun c9 => ?_) (fun c9 => ?_)
        · have h := h.2 c9
          refine lv_aload_n hx hb dX6_isSure_27 rfl (lv_at hl 0 rfl) ?_
          refine lv_iload hx hb dX6_isSure_28 (lv_at hl 4 rfl) ?_
          refine lv_iload_n hx hb dX6_isSure_30 rfl (lv_at hl 2 rfl) ?_
          refine rV_i ⟨hx, hb, hml, hown, hts⟩ (c_X6_endingNow l D cI q _ _ _ _ _ _ h) (cwV 2 hts gX6_isSure_X6_endingNow rfl rfl rfl (by decide +kernel) ⟨Nat.le_of_ble_eq_true rfl, Nat.le_of_ble_eq_true rfl⟩) hK hP hN (va_recv hK hP (ci := 6) (q0 := 0) rfl rfl) rfl hl.1 (rest := []) rfl (Nat.le_of_ble_eq_true rfl) dX6_isSure_31 (Nat.zero_le _) (Nat.zero_le _) (fun r1 h => ?_)
          exact B34 _ _ _ _ _ h ls (lv_sub hl [0, 1, 2, 3, 4] rfl)
        · have h := h.1 c9
          refine lv_iconst (v := (-1 : Int32)) hx hb dX6_isSure_23 (by decide) ?_
          refine lv_goto (tgt := 34) hx hb dX6_isSure_24 (by decide) ?_
          exact B34 _ _ _ _ _ h ls (lv_sub hl [0, 1, 2, 3, 4] rfl)
  refine lv_iconst (v := (0 : Int32)) hx hb dX6_isSure_0 (by decide) ?_
  refine lv_istore_n (lv' := [(3, .int (0 : Int32)), (0, .ref (q 0)), (1, .int a0), (2, .int a1)]) hx hb dX6_isSure_1 rfl hl (by decide) rfl (fun ls hl => ?_)
  refine lv_iconst (v := (0 : Int32)) hx hb dX6_isSure_2 (by decide) ?_
  refine lv_istore (lv' := [(4, .int (0 : Int32)), (3, .int (0 : Int32)), (0, .ref (q 0)), (1, .int a0), (2, .int a1)]) hx hb dX6_isSure_3 hl (by decide) rfl (fun ls hl => ?_)
  obtain ⟨n9, h⟩ := h
  exact B5 n9 _ _ _ _ h ls (lv_sub hl [2, 3, 4, 1, 0] rfl)
def wp_X6_sureOpening_B2 (post : Int32 → Prop) (v : Nat → Int32) (f : Nat → Nat → Int32) (z : Int64) : Nat → Int32 → Int32 → Prop
  | 0, _, _ => False
  | n2 + 1, x1, x2 => (((4 : Int32) ≤ x2 → post (-1 : Int32)) ∧ (¬ (4 : Int32) ≤ x2 → (wp_X6_isSure (fun r1 => ((r1 = 0 → wp_X6_sureOpening_B2 post v f z n2 x1 (x2 + 1)) ∧ (¬ r1 = 0 → post x2))) v f z x1 x2)))
def wp_X6_sureOpening (post : Int32 → Prop) (v : Nat → Int32) (f : Nat → Nat → Int32) (z : Int64) (a0 : Int32) : Prop := (∃ j9 : Nat, wp_X6_sureOpening_B2 post v f z j9 a0 (0 : Int32))
def rmX6_sureOpening : Room := { frames := 4, cells := 0, slots := 0, locals := 92 }
set_option maxHeartbeats 4000000 in
set_option maxRecDepth 100000 in
theorem c_X6_sureOpening (l : Launch) (D : va_G) (cI : ClassId) (q : Nat → Nat) (post : Int32 → Prop) (v : Nat → Int32) (f : Nat → Nat → Int32) (z : Int64) (a0 : Int32) (h : wp_X6_sureOpening post v f z a0) : Met l yX6_sureOpening wsX6_sureOpening rmX6_sureOpening (va_Pc [.ref (q 0), .int a0] (rP D cI (wX cI q v f z))) (sQ post) 0 0 (fun _ => False) := by
  refine Met.ofW (cc := cX6_sureOpening) (maxL := 3) (ret := (some .int)) (by decide) rfl ?_
  intro p e s m args below meth c s₁ B hml hv
  obtain ⟨rfl, hP, hK, hN⟩ := hv
  have hx := B.exec
  have hb := B.bytes
  have hr := B.returns
  have hts := atoms_spec (ws := wsX6_sureOpening) B.pre
  have hown : s.vm.findClass RX6 = some m.cls := findClass_of_methodNamed B.named
  have hlocks : meth.locks = false := B.notSynchronized
  have hl := lv_entry ([.ref (q 0), .int a0]) (n := 3) (Nat.le_of_ble_eq_true rfl)
  rw [lg_entry_eq]
  generalize (lg_sl ([.ref (q 0), .int a0]) ++ List.replicate (3 - (lg_sl ([.ref (q 0), .int a0])).length) Slot.unset).toArray = ls at hl ⊢
  have hl : lv_has ls 3 [(0, .ref (q 0)), (1, .int a0)] := hl
  unfold wp_X6_sureOpening at h
  have B2 : ∀ (n2 : Nat) (x1 : Int32) (x2 : Int32), wp_X6_sureOpening_B2 post v f z n2 x1 x2 → ∀ (ls : Array Slot), lv_has ls 3 [(0, .ref (q 0)), (1, .int x1), (2, .int x2)] → W p l e (headSpec wsX6_sureOpening rmX6_sureOpening).room s m ([.ref (q 0), .int a0] : List Value).toArray below meth c s.heap [] 0 0 (MQ below (sQ post) ([.ref (q 0), .int a0] : List Value).toArray s 0 0 (fun _ => False)) (F0 m 2 ls []) := by
    intro n2
    induction n2 with
    | zero =>
      intro x1 x2 h
      exact False.elim h
    | succ n2 ih2 =>
      intro x1 x2 h ls hl
      rw [wp_X6_sureOpening_B2] at h
      refine lv_iload_n hx hb dX6_sureOpening_2 rfl (lv_at hl 2 rfl) ?_
      refine lv_iconst (v := (4 : Int32)) hx hb dX6_sureOpening_3 (by decide) ?_
      refine lv_icmp_ge (tgt := 24) hx hb dX6_sureOpening_4 (by decide) (fun c9 => ?_) (fun c9 => ?_)
      · have h := h.1 c9
        refine lv_iconst (v := (-1 : Int32)) hx hb dX6_sureOpening_24 (by decide) ?_
        exact ri_ret hx hb hr hlocks h dX6_sureOpening_25
      · have h := h.2 c9
        refine lv_aload_n hx hb dX6_sureOpening_7 rfl (lv_at hl 0 rfl) ?_
        refine lv_iload_n hx hb dX6_sureOpening_8 rfl (lv_at hl 1 rfl) ?_
        refine lv_iload_n hx hb dX6_sureOpening_9 rfl (lv_at hl 2 rfl) ?_
        refine rV_i ⟨hx, hb, hml, hown, hts⟩ (c_X6_isSure l D cI q _ _ _ _ _ _ h) (cwV 2 hts gX6_sureOpening_X6_isSure rfl rfl rfl (by decide +kernel) ⟨Nat.le_of_ble_eq_true rfl, Nat.le_of_ble_eq_true rfl⟩) hK hP hN (va_recv hK hP (ci := 6) (q0 := 0) rfl rfl) rfl hl.1 (rest := []) rfl (Nat.le_of_ble_eq_true rfl) dX6_sureOpening_10 (Nat.zero_le _) (Nat.zero_le _) (fun r1 h => ?_)
        refine lv_if_eq (tgt := 18) hx hb dX6_sureOpening_13 (by decide) (fun c9 => ?_) (fun c9 => ?_)
        · have h := h.1 c9
          refine lv_iinc (v := x2 + 1) (lv' := [(2, .int (x2 + 1)), (0, .ref (q 0)), (1, .int x1)]) hx hb dX6_sureOpening_18 hl (k := 2) rfl rfl (by decide) rfl (fun ls hl => ?_)
          refine lv_goto (tgt := 2) hx hb dX6_sureOpening_21 (by decide) ?_
          exact ih2 _ _ h ls (lv_sub hl [1, 2, 0] rfl)
        · have h := h.2 c9
          refine lv_iload_n hx hb dX6_sureOpening_16 rfl (lv_at hl 2 rfl) ?_
          exact ri_ret hx hb hr hlocks h dX6_sureOpening_17
  refine lv_iconst (v := (0 : Int32)) hx hb dX6_sureOpening_0 (by decide) ?_
  refine lv_istore_n (lv' := [(2, .int (0 : Int32)), (0, .ref (q 0)), (1, .int a0)]) hx hb dX6_sureOpening_1 rfl hl (by decide) rfl (fun ls hl => ?_)
  obtain ⟨n9, h⟩ := h
  exact B2 n9 _ _ h ls (lv_sub hl [1, 2, 0] rfl)
def wp_X6_agreesWithHeard_B2 (post : Int32 → Prop) (v : Nat → Int32) (f : Nat → Nat → Int32) (z : Int64) : Nat → Int32 → Int32 → Int32 → Prop
  | 0, _, _, _ => False
  | n2 + 1, x1, x2, x3 => (((v 9) ≤ x3 → post (1 : Int32)) ∧ (¬ (v 9) ≤ x3 → (vp_in x3 8 ∧ (((f 12 (x3).toNatClampNeg) = x1 → (vp_in x3 8 ∧ (vp_in (f 13 (x3).toNatClampNeg) 4 ∧ (vp_in x1 4 ∧ (wp_X6_endingBy (fun r1 => (vp_in x3 8 ∧ ((r1 = (f 14 (x3).toNatClampNeg) → wp_X6_agreesWithHeard_B2 post v f z n2 x1 x2 (x3 + 1)) ∧ (¬ r1 = (f 14 (x3).toNatClampNeg) → post (0 : Int32))))) x2 (f 4 (f 13 (x3).toNatClampNeg).toNatClampNeg) (f 7 (x1).toNatClampNeg) (0 : Int32)))))) ∧ (¬ (f 12 (x3).toNatClampNeg) = x1 → wp_X6_agreesWithHeard_B2 post v f z n2 x1 x2 (x3 + 1))))))
def wp_X6_agreesWithHeard (post : Int32 → Prop) (v : Nat → Int32) (f : Nat → Nat → Int32) (z : Int64) (a0 : Int32) (a1 : Int32) : Prop := (∃ j9 : Nat, wp_X6_agreesWithHeard_B2 post v f z j9 a0 a1 (0 : Int32))
def rmX6_agreesWithHeard : Room := { frames := 2, cells := 0, slots := 0, locals := 45 }
set_option maxHeartbeats 4000000 in
set_option maxRecDepth 100000 in
theorem c_X6_agreesWithHeard (l : Launch) (D : va_G) (cI : ClassId) (q : Nat → Nat) (post : Int32 → Prop) (v : Nat → Int32) (f : Nat → Nat → Int32) (z : Int64) (a0 : Int32) (a1 : Int32) (h : wp_X6_agreesWithHeard post v f z a0 a1) : Met l yX6_agreesWithHeard wsX6_agreesWithHeard rmX6_agreesWithHeard (va_Pc [.ref (q 0), .int a0, .int a1] (rP D cI (wX cI q v f z))) (sQ post) 0 0 (fun _ => False) := by
  refine Met.ofW (cc := cX6_agreesWithHeard) (maxL := 5) (ret := (some .boolean)) (by decide) rfl ?_
  intro p e s m args below meth c s₁ B hml hv
  obtain ⟨rfl, hP, hK, hN⟩ := hv
  have hx := B.exec
  have hb := B.bytes
  have hr := B.returns
  have hts := atoms_spec (ws := wsX6_agreesWithHeard) B.pre
  have hown : s.vm.findClass RX6 = some m.cls := findClass_of_methodNamed B.named
  have hlocks : meth.locks = false := B.notSynchronized
  have iX3 : ∀ w ∈ wsX30, w ∈ wsX6_agreesWithHeard := fun _ h9 => List.mem_cons_of_mem _ (List.mem_append_right _ h9)
  have iX4 : ∀ w ∈ wsX40, w ∈ wsX6_agreesWithHeard := fun _ h9 => List.mem_cons_of_mem _ (List.mem_append_left _ (List.mem_append_right _ h9))
  have iX6 : ∀ w ∈ wsX60, w ∈ wsX6_agreesWithHeard := fun _ h9 => List.mem_cons_of_mem _ (List.mem_append_left _ (List.mem_append_left _ (List.mem_append_right _ h9)))
  have k108 := hts (.fieldLink RX6 108 "EndedByOthers$Scene" "wants" "[I") (by decide +kernel)
  have k184 := hts (.fieldLink RX6 184 "EndedByOthers$Scene" "heard" "I") (by decide +kernel)
  have k258 := hts (.fieldLink RX6 258 "EndedByOthers$Scene" "heardSpeakers" "[I") (by decide +kernel)
  have k26 := hts (.fieldLink RX6 26 "EndedByOthers" "room" "LEndedByOthers$Room;") (by decide +kernel)
  have k261 := hts (.fieldLink RX6 261 "EndedByOthers$Scene" "heardOpenings" "[I") (by decide +kernel)
  have k264 := hts (.fieldLink RX6 264 "EndedByOthers$Scene" "heardEndings" "[I") (by decide +kernel)
  have k33 := hts (.fieldLink RX6 33 "EndedByOthers" "scene" "LEndedByOthers$Scene;") (by decide +kernel)
  have k99 := hts (.fieldLink RX6 99 "EndedByOthers$Room" "fitting" "[I") (by decide +kernel)
  have hl := lv_entry ([.ref (q 0), .int a0, .int a1]) (n := 5) (Nat.le_of_ble_eq_true rfl)
  rw [lg_entry_eq]
  generalize (lg_sl ([.ref (q 0), .int a0, .int a1]) ++ List.replicate (5 - (lg_sl ([.ref (q 0), .int a0, .int a1])).length) Slot.unset).toArray = ls at hl ⊢
  have hl : lv_has ls 5 [(0, .ref (q 0)), (1, .int a0), (2, .int a1)] := hl
  unfold wp_X6_agreesWithHeard at h
  have B2 : ∀ (n2 : Nat) (x1 : Int32) (x2 : Int32) (x3 : Int32), wp_X6_agreesWithHeard_B2 post v f z n2 x1 x2 x3 → ∀ (ls : Array Slot), lv_has ls 5 [(0, .ref (q 0)), (1, .int x1), (2, .int x2), (3, .int x3)] → W p l e (headSpec wsX6_agreesWithHeard rmX6_agreesWithHeard).room s m ([.ref (q 0), .int a0, .int a1] : List Value).toArray below meth c s.heap [] 0 0 (MQ below (sQ post) ([.ref (q 0), .int a0, .int a1] : List Value).toArray s 0 0 (fun _ => False)) (F0 m 2 ls []) := by
    intro n2
    induction n2 with
    | zero =>
      intro x1 x2 x3 h
      exact False.elim h
    | succ n2 ih2 =>
      intro x1 x2 x3 h ls hl
      rw [wp_X6_agreesWithHeard_B2] at h
      refine lv_iload_n hx hb dX6_agreesWithHeard_2 rfl (lv_at hl 3 rfl) ?_
      refine lv_aload_n hx hb dX6_agreesWithHeard_3 rfl (lv_at hl 0 rfl) ?_
      refine xg_r0_12 hx hb hts iX6 hown hK hP k33 dX6_agreesWithHeard_4 ?_
      refine xg_s9 (x := v 9) hx hb hts iX4 hown hK hP k184 rfl dX6_agreesWithHeard_7 ?_
      refine lv_icmp_ge (tgt := 81) hx hb dX6_agreesWithHeard_10 (by decide) (fun c9 => ?_) (fun c9 => ?_)
      · have h := h.1 c9
        refine lv_iconst (v := (1 : Int32)) hx hb dX6_agreesWithHeard_81 (by decide) ?_
        exact rz_ret hx hb hr hlocks rfl h dX6_agreesWithHeard_82
      · have h := h.2 c9
        refine lv_aload_n hx hb dX6_agreesWithHeard_13 rfl (lv_at hl 0 rfl) ?_
        refine xg_r0_12 hx hb hts iX6 hown hK hP k33 dX6_agreesWithHeard_14 ?_
        refine xg_r12_18 hx hb hts iX4 hown hK hP k258 dX6_agreesWithHeard_17 ?_
        refine lv_iload_n hx hb dX6_agreesWithHeard_20 rfl (lv_at hl 3 rfl) ?_
        obtain ⟨h9, h⟩ := h
        refine xal_12 (x := f 12 (x3).toNatClampNeg) hx hb hK hP h9 rfl dX6_agreesWithHeard_21 ?_
        refine lv_iload_n hx hb dX6_agreesWithHeard_22 rfl (lv_at hl 1 rfl) ?_
        refine lv_icmp_ne (tgt := 75) hx hb dX6_agreesWithHeard_23 (by decide) (fun c9 => ?_) (fun c9 => ?_)
        · have h := h.2 c9
          refine lv_iinc (v := x3 + 1) (lv' := [(3, .int (x3 + 1)), (0, .ref (q 0)), (1, .int x1), (2, .int x2)]) hx hb dX6_agreesWithHeard_75 hl (k := 3) rfl rfl (by decide) rfl (fun ls hl => ?_)
          refine lv_goto (tgt := 2) hx hb dX6_agreesWithHeard_78 (by decide) ?_
          exact ih2 _ _ _ h ls (lv_sub hl [1, 2, 3, 0] rfl)
        · have h := h.1 c9
          refine lv_aload_n hx hb dX6_agreesWithHeard_26 rfl (lv_at hl 0 rfl) ?_
          refine xg_r0_8 hx hb hts iX6 hown hK hP k26 dX6_agreesWithHeard_27 ?_
          refine xg_r8_9 hx hb hts iX3 hown hK hP k99 dX6_agreesWithHeard_30 ?_
          refine lv_aload_n hx hb dX6_agreesWithHeard_33 rfl (lv_at hl 0 rfl) ?_
          refine xg_r0_12 hx hb hts iX6 hown hK hP k33 dX6_agreesWithHeard_34 ?_
          refine xg_r12_19 hx hb hts iX4 hown hK hP k261 dX6_agreesWithHeard_37 ?_
          refine lv_iload_n hx hb dX6_agreesWithHeard_40 rfl (lv_at hl 3 rfl) ?_
          obtain ⟨h9, h⟩ := h
          refine xal_13 (x := f 13 (x3).toNatClampNeg) hx hb hK hP h9 rfl dX6_agreesWithHeard_41 ?_
          obtain ⟨h9, h⟩ := h
          refine xal_4 (x := f 4 (f 13 (x3).toNatClampNeg).toNatClampNeg) hx hb hK hP h9 rfl dX6_agreesWithHeard_42 ?_
          refine lv_istore (lv' := [(4, .int (f 4 (f 13 (x3).toNatClampNeg).toNatClampNeg)), (0, .ref (q 0)), (1, .int x1), (2, .int x2), (3, .int x3)]) hx hb dX6_agreesWithHeard_43 hl (by decide) rfl (fun ls hl => ?_)
          refine lv_iload_n hx hb dX6_agreesWithHeard_45 rfl (lv_at hl 3 rfl) ?_
          refine lv_iload hx hb dX6_agreesWithHeard_46 (lv_at hl 0 rfl) ?_
          refine lv_aload_n hx hb dX6_agreesWithHeard_48 rfl (lv_at hl 1 rfl) ?_
          refine xg_r0_12 hx hb hts iX6 hown hK hP k33 dX6_agreesWithHeard_49 ?_
          refine xg_r12_13 hx hb hts iX4 hown hK hP k108 dX6_agreesWithHeard_52 ?_
          refine lv_iload_n hx hb dX6_agreesWithHeard_55 rfl (lv_at hl 2 rfl) ?_
          obtain ⟨h9, h⟩ := h
          refine xal_7 (x := f 7 (x1).toNatClampNeg) hx hb hK hP h9 rfl dX6_agreesWithHeard_56 ?_
          refine lv_iconst (v := (0 : Int32)) hx hb dX6_agreesWithHeard_57 (by decide) ?_
          refine rS_i ⟨hx, hb, hml, hown, hts⟩ (c_X6_endingBy l D cI _ _ _ _ _ h) (va_cwS 4 hts gX6_agreesWithHeard_X6_endingBy rfl rfl rfl (by decide +kernel) ⟨Nat.le_of_ble_eq_true rfl, Nat.le_of_ble_eq_true rfl⟩) hK wPnil hN rfl hl.1 (rest := []) rfl (Nat.le_of_ble_eq_true rfl) dX6_agreesWithHeard_58 (Nat.zero_le _) (Nat.zero_le _) (fun r1 h => ?_)
          refine lv_aload_n hx hb dX6_agreesWithHeard_61 rfl (lv_at hl 1 rfl) ?_
          refine xg_r0_12 hx hb hts iX6 hown hK hP k33 dX6_agreesWithHeard_62 ?_
          refine xg_r12_20 hx hb hts iX4 hown hK hP k264 dX6_agreesWithHeard_65 ?_
          refine lv_iload_n hx hb dX6_agreesWithHeard_68 rfl (lv_at hl 4 rfl) ?_
          obtain ⟨h9, h⟩ := h
          refine xal_14 (x := f 14 (x3).toNatClampNeg) hx hb hK hP h9 rfl dX6_agreesWithHeard_69 ?_
          refine lv_icmp_eq (tgt := 75) hx hb dX6_agreesWithHeard_70 (by decide) (fun c9 => ?_) (fun c9 => ?_)
          · have h := h.1 c9
            refine lv_iinc (v := x3 + 1) (lv' := [(3, .int (x3 + 1)), (4, .int (f 4 (f 13 (x3).toNatClampNeg).toNatClampNeg)), (0, .ref (q 0)), (1, .int x1), (2, .int x2)]) hx hb dX6_agreesWithHeard_75 hl (k := 4) rfl rfl (by decide) rfl (fun ls hl => ?_)
            refine lv_goto (tgt := 2) hx hb dX6_agreesWithHeard_78 (by decide) ?_
            exact ih2 _ _ _ h ls (lv_sub hl [2, 3, 4, 0] rfl)
          · have h := h.2 c9
            refine lv_iconst (v := (0 : Int32)) hx hb dX6_agreesWithHeard_73 (by decide) ?_
            exact rz_ret hx hb hr hlocks rfl h dX6_agreesWithHeard_74
  refine lv_iconst (v := (0 : Int32)) hx hb dX6_agreesWithHeard_0 (by decide) ?_
  refine lv_istore_n (lv' := [(3, .int (0 : Int32)), (0, .ref (q 0)), (1, .int a0), (2, .int a1)]) hx hb dX6_agreesWithHeard_1 rfl hl (by decide) rfl (fun ls hl => ?_)
  obtain ⟨n9, h⟩ := h
  exact B2 n9 _ _ _ h ls (lv_sub hl [1, 2, 3, 0] rfl)
def wp_X6_possibleKinds_B4 (post : Int32 → Prop) (v : Nat → Int32) (f : Nat → Nat → Int32) (z : Int64) : Nat → Int32 → Int32 → Int32 → Prop
  | 0, _, _, _ => False
  | n4 + 1, x1, x2, x3 => (((5 : Int32) ≤ x3 → post x2) ∧ (¬ (5 : Int32) ≤ x3 → (wp_X6_agreesWithHeard (fun r1 => ((r1 = 0 → wp_X6_possibleKinds_B4 post v f z n4 x1 x2 (x3 + 1)) ∧ (¬ r1 = 0 → wp_X6_possibleKinds_B4 post v f z n4 x1 (x2 ||| ((1 : Int32) <<< (x3 &&& 31))) (x3 + 1)))) v f z x1 x3)))
def wp_X6_possibleKinds (post : Int32 → Prop) (v : Nat → Int32) (f : Nat → Nat → Int32) (z : Int64) (a0 : Int32) : Prop := (∃ j9 : Nat, wp_X6_possibleKinds_B4 post v f z j9 a0 (0 : Int32) (0 : Int32))
def rmX6_possibleKinds : Room := { frames := 3, cells := 0, slots := 0, locals := 69 }
set_option maxHeartbeats 4000000 in
set_option maxRecDepth 100000 in
theorem c_X6_possibleKinds (l : Launch) (D : va_G) (cI : ClassId) (q : Nat → Nat) (post : Int32 → Prop) (v : Nat → Int32) (f : Nat → Nat → Int32) (z : Int64) (a0 : Int32) (h : wp_X6_possibleKinds post v f z a0) : Met l yX6_possibleKinds wsX6_possibleKinds rmX6_possibleKinds (va_Pc [.ref (q 0), .int a0] (rP D cI (wX cI q v f z))) (sQ post) 0 0 (fun _ => False) := by
  refine Met.ofW (cc := cX6_possibleKinds) (maxL := 4) (ret := (some .int)) (by decide) rfl ?_
  intro p e s m args below meth c s₁ B hml hv
  obtain ⟨rfl, hP, hK, hN⟩ := hv
  have hx := B.exec
  have hb := B.bytes
  have hr := B.returns
  have hts := atoms_spec (ws := wsX6_possibleKinds) B.pre
  have hown : s.vm.findClass RX6 = some m.cls := findClass_of_methodNamed B.named
  have hlocks : meth.locks = false := B.notSynchronized
  have hl := lv_entry ([.ref (q 0), .int a0]) (n := 4) (Nat.le_of_ble_eq_true rfl)
  rw [lg_entry_eq]
  generalize (lg_sl ([.ref (q 0), .int a0]) ++ List.replicate (4 - (lg_sl ([.ref (q 0), .int a0])).length) Slot.unset).toArray = ls at hl ⊢
  have hl : lv_has ls 4 [(0, .ref (q 0)), (1, .int a0)] := hl
  unfold wp_X6_possibleKinds at h
  have B4 : ∀ (n4 : Nat) (x1 : Int32) (x2 : Int32) (x3 : Int32), wp_X6_possibleKinds_B4 post v f z n4 x1 x2 x3 → ∀ (ls : Array Slot), lv_has ls 4 [(0, .ref (q 0)), (1, .int x1), (2, .int x2), (3, .int x3)] → W p l e (headSpec wsX6_possibleKinds rmX6_possibleKinds).room s m ([.ref (q 0), .int a0] : List Value).toArray below meth c s.heap [] 0 0 (MQ below (sQ post) ([.ref (q 0), .int a0] : List Value).toArray s 0 0 (fun _ => False)) (F0 m 4 ls []) := by
    intro n4
    induction n4 with
    | zero =>
      intro x1 x2 x3 h
      exact False.elim h
    | succ n4 ih4 =>
      intro x1 x2 x3 h ls hl
      rw [wp_X6_possibleKinds_B4] at h
      refine lv_iload_n hx hb dX6_possibleKinds_4 rfl (lv_at hl 3 rfl) ?_
      refine lv_iconst (v := (5 : Int32)) hx hb dX6_possibleKinds_5 (by decide) ?_
      refine lv_icmp_ge (tgt := 30) hx hb dX6_possibleKinds_6 (by decide) (fun c9 => ?_) (fun c9 => ?_)
      · have h := h.1 c9
        refine lv_iload_n hx hb dX6_possibleKinds_30 rfl (lv_at hl 2 rfl) ?_
        exact ri_ret hx hb hr hlocks h dX6_possibleKinds_31
      · have h := h.2 c9
        refine lv_aload_n hx hb dX6_possibleKinds_9 rfl (lv_at hl 0 rfl) ?_
        refine lv_iload_n hx hb dX6_possibleKinds_10 rfl (lv_at hl 1 rfl) ?_
        refine lv_iload_n hx hb dX6_possibleKinds_11 rfl (lv_at hl 3 rfl) ?_
        refine rV_i ⟨hx, hb, hml, hown, hts⟩ (c_X6_agreesWithHeard l D cI q _ _ _ _ _ _ h) (cwV 2 hts gX6_possibleKinds_X6_agreesWithHeard rfl rfl rfl (by decide +kernel) ⟨Nat.le_of_ble_eq_true rfl, Nat.le_of_ble_eq_true rfl⟩) hK hP hN (va_recv hK hP (ci := 6) (q0 := 0) rfl rfl) rfl hl.1 (rest := []) rfl (Nat.le_of_ble_eq_true rfl) dX6_possibleKinds_12 (Nat.zero_le _) (Nat.zero_le _) (fun r1 h => ?_)
        refine lv_if_eq (tgt := 24) hx hb dX6_possibleKinds_15 (by decide) (fun c9 => ?_) (fun c9 => ?_)
        · have h := h.1 c9
          refine lv_iinc (v := x3 + 1) (lv' := [(3, .int (x3 + 1)), (0, .ref (q 0)), (1, .int x1), (2, .int x2)]) hx hb dX6_possibleKinds_24 hl (k := 3) rfl rfl (by decide) rfl (fun ls hl => ?_)
          refine lv_goto (tgt := 4) hx hb dX6_possibleKinds_27 (by decide) ?_
          exact ih4 _ _ _ h ls (lv_sub hl [1, 2, 3, 0] rfl)
        · have h := h.2 c9
          refine lv_iload_n hx hb dX6_possibleKinds_18 rfl (lv_at hl 2 rfl) ?_
          refine lv_iconst (v := (1 : Int32)) hx hb dX6_possibleKinds_19 (by decide) ?_
          refine lv_iload_n hx hb dX6_possibleKinds_20 rfl (lv_at hl 3 rfl) ?_
          refine lv_ishl hx hb dX6_possibleKinds_21 ?_
          refine lv_ior hx hb dX6_possibleKinds_22 ?_
          refine lv_istore_n (lv' := [(2, .int (x2 ||| ((1 : Int32) <<< (x3 &&& 31)))), (0, .ref (q 0)), (1, .int x1), (3, .int x3)]) hx hb dX6_possibleKinds_23 rfl hl (by decide) rfl (fun ls hl => ?_)
          refine lv_iinc (v := x3 + 1) (lv' := [(3, .int (x3 + 1)), (2, .int (x2 ||| ((1 : Int32) <<< (x3 &&& 31)))), (0, .ref (q 0)), (1, .int x1)]) hx hb dX6_possibleKinds_24 hl (k := 3) rfl rfl (by decide) rfl (fun ls hl => ?_)
          refine lv_goto (tgt := 4) hx hb dX6_possibleKinds_27 (by decide) ?_
          exact ih4 _ _ _ h ls (lv_sub hl [2, 3, 1, 0] rfl)
  refine lv_iconst (v := (0 : Int32)) hx hb dX6_possibleKinds_0 (by decide) ?_
  refine lv_istore_n (lv' := [(2, .int (0 : Int32)), (0, .ref (q 0)), (1, .int a0)]) hx hb dX6_possibleKinds_1 rfl hl (by decide) rfl (fun ls hl => ?_)
  refine lv_iconst (v := (0 : Int32)) hx hb dX6_possibleKinds_2 (by decide) ?_
  refine lv_istore_n (lv' := [(3, .int (0 : Int32)), (2, .int (0 : Int32)), (0, .ref (q 0)), (1, .int a0)]) hx hb dX6_possibleKinds_3 rfl hl (by decide) rfl (fun ls hl => ?_)
  obtain ⟨n9, h⟩ := h
  exact B4 n9 _ _ _ h ls (lv_sub hl [2, 3, 1, 0] rfl)
def wp_X6_mostKindsLeft_B41 (post : Int32 → Prop) (v : Nat → Int32) (f : Nat → Nat → Int32) (z : Int64) (K28 : Int32 → Int32 → Int32 → Int32 → Int32 → Prop) : Nat → Int32 → Int32 → Int32 → Int32 → Int32 → Int32 → Int32 → Prop
  | 0, _, _, _, _, _, _, _ => False
  | n41 + 1, x3, x4, x5, x6, x7, x8, x9 => (((5 : Int32) ≤ x9 → K28 x3 x4 x5 (if x6 < x8 then x8 else x6) (x7 + 1)) ∧ (¬ (5 : Int32) ≤ x9 → (wp_X6_has (fun r1 => ((r1 = 0 → wp_X6_mostKindsLeft_B41 post v f z K28 n41 x3 x4 x5 x6 x7 x8 (x9 + 1)) ∧ (¬ r1 = 0 → (wp_X6_endingBy (fun r2 => ((r2 = x7 → wp_X6_mostKindsLeft_B41 post v f z K28 n41 x3 x4 x5 x6 x7 (x8 + 1) (x9 + 1)) ∧ (¬ r2 = x7 → wp_X6_mostKindsLeft_B41 post v f z K28 n41 x3 x4 x5 x6 x7 x8 (x9 + 1)))) x9 x4 x5 (0 : Int32))))) x3 x9)))
def wp_X6_mostKindsLeft_B28 (post : Int32 → Prop) (v : Nat → Int32) (f : Nat → Nat → Int32) (z : Int64) : Nat → Int32 → Int32 → Int32 → Int32 → Int32 → Prop
  | 0, _, _, _, _, _ => False
  | n28 + 1, x3, x4, x5, x6, x7 => (((6 : Int32) ≤ x7 → post x6) ∧ (¬ (6 : Int32) ≤ x7 → (∃ j9 : Nat, wp_X6_mostKindsLeft_B41 post v f z (wp_X6_mostKindsLeft_B28 post v f z n28) j9 x3 x4 x5 x6 x7 (0 : Int32) (0 : Int32))))
def wp_X6_mostKindsLeft (post : Int32 → Prop) (v : Nat → Int32) (f : Nat → Nat → Int32) (z : Int64) (a0 : Int32) (a1 : Int32) (a2 : Int32) : Prop := (vp_in a1 4 ∧ (vp_in a0 4 ∧ (∃ j9 : Nat, wp_X6_mostKindsLeft_B28 post v f z j9 a2 (f 4 (a1).toNatClampNeg) (f 7 (a0).toNatClampNeg) (0 : Int32) (-1 : Int32))))
def rmX6_mostKindsLeft : Room := { frames := 2, cells := 0, slots := 0, locals := 45 }
set_option maxHeartbeats 4000000 in
set_option maxRecDepth 100000 in
theorem c_X6_mostKindsLeft (l : Launch) (D : va_G) (cI : ClassId) (q : Nat → Nat) (post : Int32 → Prop) (v : Nat → Int32) (f : Nat → Nat → Int32) (z : Int64) (a0 : Int32) (a1 : Int32) (a2 : Int32) (h : wp_X6_mostKindsLeft post v f z a0 a1 a2) : Met l yX6_mostKindsLeft wsX6_mostKindsLeft rmX6_mostKindsLeft (va_Pc [.ref (q 0), .int a0, .int a1, .int a2] (rP D cI (wX cI q v f z))) (sQ post) 0 0 (fun _ => False) := by
  refine Met.ofW (cc := cX6_mostKindsLeft) (maxL := 10) (ret := (some .int)) (by decide) rfl ?_
  intro p e s m args below meth c s₁ B hml hv
  obtain ⟨rfl, hP, hK, hN⟩ := hv
  have hx := B.exec
  have hb := B.bytes
  have hr := B.returns
  have hts := atoms_spec (ws := wsX6_mostKindsLeft) B.pre
  have hown : s.vm.findClass RX6 = some m.cls := findClass_of_methodNamed B.named
  have hlocks : meth.locks = false := B.notSynchronized
  have iX3 : ∀ w ∈ wsX30, w ∈ wsX6_mostKindsLeft := fun _ h9 => List.mem_cons_of_mem _ (List.mem_append_left _ (List.mem_append_right _ h9))
  have iX4 : ∀ w ∈ wsX40, w ∈ wsX6_mostKindsLeft := fun _ h9 => List.mem_cons_of_mem _ (List.mem_append_right _ h9)
  have iX6 : ∀ w ∈ wsX60, w ∈ wsX6_mostKindsLeft := fun _ h9 => List.mem_cons_of_mem _ (List.mem_append_left _ (List.mem_append_left _ (List.mem_append_right _ h9)))
  have k108 := hts (.fieldLink RX6 108 "EndedByOthers$Scene" "wants" "[I") (by decide +kernel)
  have k26 := hts (.fieldLink RX6 26 "EndedByOthers" "room" "LEndedByOthers$Room;") (by decide +kernel)
  have k33 := hts (.fieldLink RX6 33 "EndedByOthers" "scene" "LEndedByOthers$Scene;") (by decide +kernel)
  have k99 := hts (.fieldLink RX6 99 "EndedByOthers$Room" "fitting" "[I") (by decide +kernel)
  have hl := lv_entry ([.ref (q 0), .int a0, .int a1, .int a2]) (n := 10) (Nat.le_of_ble_eq_true rfl)
  rw [lg_entry_eq]
  generalize (lg_sl ([.ref (q 0), .int a0, .int a1, .int a2]) ++ List.replicate (10 - (lg_sl ([.ref (q 0), .int a0, .int a1, .int a2])).length) Slot.unset).toArray = ls at hl ⊢
  have hl : lv_has ls 10 [(0, .ref (q 0)), (1, .int a0), (2, .int a1), (3, .int a2)] := hl
  unfold wp_X6_mostKindsLeft at h
  have B28 : ∀ (n28 : Nat) (x3 : Int32) (x4 : Int32) (x5 : Int32) (x6 : Int32) (x7 : Int32), wp_X6_mostKindsLeft_B28 post v f z n28 x3 x4 x5 x6 x7 → ∀ (ls : Array Slot), lv_has ls 10 [(0, .ref (q 0)), (3, .int x3), (4, .int x4), (5, .int x5), (6, .int x6), (7, .int x7)] → W p l e (headSpec wsX6_mostKindsLeft rmX6_mostKindsLeft).room s m ([.ref (q 0), .int a0, .int a1, .int a2] : List Value).toArray below meth c s.heap [] 0 0 (MQ below (sQ post) ([.ref (q 0), .int a0, .int a1, .int a2] : List Value).toArray s 0 0 (fun _ => False)) (F0 m 28 ls []) := by
    intro n28
    induction n28 with
    | zero =>
      intro x3 x4 x5 x6 x7 h
      exact False.elim h
    | succ n28 ih28 =>
      have B41 : ∀ (n41 : Nat) (x3 : Int32) (x4 : Int32) (x5 : Int32) (x6 : Int32) (x7 : Int32) (x8 : Int32) (x9 : Int32), wp_X6_mostKindsLeft_B41 post v f z (wp_X6_mostKindsLeft_B28 post v f z n28) n41 x3 x4 x5 x6 x7 x8 x9 → ∀ (ls : Array Slot), lv_has ls 10 [(0, .ref (q 0)), (3, .int x3), (4, .int x4), (5, .int x5), (6, .int x6), (7, .int x7), (8, .int x8), (9, .int x9)] → W p l e (headSpec wsX6_mostKindsLeft rmX6_mostKindsLeft).room s m ([.ref (q 0), .int a0, .int a1, .int a2] : List Value).toArray below meth c s.heap [] 0 0 (MQ below (sQ post) ([.ref (q 0), .int a0, .int a1, .int a2] : List Value).toArray s 0 0 (fun _ => False)) (F0 m 41 ls []) := by
        intro n41
        induction n41 with
        | zero =>
          intro x3 x4 x5 x6 x7 x8 x9 h
          exact False.elim h
        | succ n41 ih41 =>
          intro x3 x4 x5 x6 x7 x8 x9 h ls hl
          rw [wp_X6_mostKindsLeft_B41] at h
          refine lv_iload hx hb dX6_mostKindsLeft_41 (lv_at hl 7 rfl) ?_
          refine lv_iconst (v := (5 : Int32)) hx hb dX6_mostKindsLeft_43 (by decide) ?_
          refine lv_icmp_ge (tgt := 80) hx hb dX6_mostKindsLeft_44 (by decide) (fun c9 => ?_) (fun c9 => ?_)
          · have h := h.1 c9
            refine lv_iload hx hb dX6_mostKindsLeft_80 (lv_at hl 4 rfl) ?_
            refine lv_iload hx hb dX6_mostKindsLeft_82 (lv_at hl 6 rfl) ?_
            refine va_mmax (R := (headSpec wsX6_mostKindsLeft rmX6_mostKindsLeft).room) (rest := []) hx hb (hml.trans hl.1.symm) hown (hts (.methodLink RX6 271 Lib.Math.max.name) (by decide +kernel)) (hts (.static Lib.Math.max.name) (by decide +kernel)) (hts (.initialized "java/lang/Math") (by decide +kernel)) (hts (.code Lib.Math.max.name Lib.Math.max.code 2 (some .int)) (by decide +kernel)) (Nat.le_of_ble_eq_true rfl) (Nat.le_of_ble_eq_true rfl) (Nat.zero_le _) (Nat.zero_le _) dX6_mostKindsLeft_84 ?_
            refine lv_istore (lv' := [(6, .int (if x6 < x8 then x8 else x6)), (0, .ref (q 0)), (3, .int x3), (4, .int x4), (5, .int x5), (7, .int x7), (8, .int x8), (9, .int x9)]) hx hb dX6_mostKindsLeft_87 hl (by decide) rfl (fun ls hl => ?_)
            refine lv_iinc (v := x7 + 1) (lv' := [(7, .int (x7 + 1)), (6, .int (if x6 < x8 then x8 else x6)), (0, .ref (q 0)), (3, .int x3), (4, .int x4), (5, .int x5), (8, .int x8), (9, .int x9)]) hx hb dX6_mostKindsLeft_89 hl (k := 5) rfl rfl (by decide) rfl (fun ls hl => ?_)
            refine lv_goto (tgt := 28) hx hb dX6_mostKindsLeft_92 (by decide) ?_
            exact ih28 _ _ _ _ _ h ls (lv_sub hl [2, 3, 4, 5, 1, 0] rfl)
          · have h := h.2 c9
            refine lv_iload_n hx hb dX6_mostKindsLeft_47 rfl (lv_at hl 1 rfl) ?_
            refine lv_iload hx hb dX6_mostKindsLeft_48 (lv_at hl 7 rfl) ?_
            refine rS_i ⟨hx, hb, hml, hown, hts⟩ (c_X6_has l D cI _ _ _ h) (va_cwS 2 hts gX6_mostKindsLeft_X6_has rfl rfl rfl (by decide +kernel) ⟨Nat.le_of_ble_eq_true rfl, Nat.le_of_ble_eq_true rfl⟩) hK wPnil hN rfl hl.1 (rest := []) rfl (Nat.le_of_ble_eq_true rfl) dX6_mostKindsLeft_50 (Nat.zero_le _) (Nat.zero_le _) (fun r1 h => ?_)
            refine lv_if_eq (tgt := 74) hx hb dX6_mostKindsLeft_53 (by decide) (fun c9 => ?_) (fun c9 => ?_)
            · have h := h.1 c9
              refine lv_iinc (v := x9 + 1) (lv' := [(9, .int (x9 + 1)), (0, .ref (q 0)), (3, .int x3), (4, .int x4), (5, .int x5), (6, .int x6), (7, .int x7), (8, .int x8)]) hx hb dX6_mostKindsLeft_74 hl (k := 7) rfl rfl (by decide) rfl (fun ls hl => ?_)
              refine lv_goto (tgt := 41) hx hb dX6_mostKindsLeft_77 (by decide) ?_
              exact ih41 _ _ _ _ _ _ _ h ls (lv_sub hl [1, 2, 3, 4, 5, 6, 7, 0] rfl)
            · have h := h.2 c9
              refine lv_iload hx hb dX6_mostKindsLeft_56 (lv_at hl 7 rfl) ?_
              refine lv_iload hx hb dX6_mostKindsLeft_58 (lv_at hl 2 rfl) ?_
              refine lv_iload hx hb dX6_mostKindsLeft_60 (lv_at hl 3 rfl) ?_
              refine lv_iconst (v := (0 : Int32)) hx hb dX6_mostKindsLeft_62 (by decide) ?_
              refine rS_i ⟨hx, hb, hml, hown, hts⟩ (c_X6_endingBy l D cI _ _ _ _ _ h) (va_cwS 4 hts gX6_mostKindsLeft_X6_endingBy rfl rfl rfl (by decide +kernel) ⟨Nat.le_of_ble_eq_true rfl, Nat.le_of_ble_eq_true rfl⟩) hK wPnil hN rfl hl.1 (rest := []) rfl (Nat.le_of_ble_eq_true rfl) dX6_mostKindsLeft_63 (Nat.zero_le _) (Nat.zero_le _) (fun r2 h => ?_)
              refine lv_iload hx hb dX6_mostKindsLeft_66 (lv_at hl 5 rfl) ?_
              refine lv_icmp_ne (tgt := 74) hx hb dX6_mostKindsLeft_68 (by decide) (fun c9 => ?_) (fun c9 => ?_)
              · have h := h.2 c9
                refine lv_iinc (v := x9 + 1) (lv' := [(9, .int (x9 + 1)), (0, .ref (q 0)), (3, .int x3), (4, .int x4), (5, .int x5), (6, .int x6), (7, .int x7), (8, .int x8)]) hx hb dX6_mostKindsLeft_74 hl (k := 7) rfl rfl (by decide) rfl (fun ls hl => ?_)
                refine lv_goto (tgt := 41) hx hb dX6_mostKindsLeft_77 (by decide) ?_
                exact ih41 _ _ _ _ _ _ _ h ls (lv_sub hl [1, 2, 3, 4, 5, 6, 7, 0] rfl)
              · have h := h.1 c9
                refine lv_iinc (v := x8 + 1) (lv' := [(8, .int (x8 + 1)), (0, .ref (q 0)), (3, .int x3), (4, .int x4), (5, .int x5), (6, .int x6), (7, .int x7), (9, .int x9)]) hx hb dX6_mostKindsLeft_71 hl (k := 6) rfl rfl (by decide) rfl (fun ls hl => ?_)
                refine lv_iinc (v := x9 + 1) (lv' := [(9, .int (x9 + 1)), (8, .int (x8 + 1)), (0, .ref (q 0)), (3, .int x3), (4, .int x4), (5, .int x5), (6, .int x6), (7, .int x7)]) hx hb dX6_mostKindsLeft_74 hl (k := 7) rfl rfl (by decide) rfl (fun ls hl => ?_)
                refine lv_goto (tgt := 41) hx hb dX6_mostKindsLeft_77 (by decide) ?_
                exact ih41 _ _ _ _ _ _ _ h ls (lv_sub hl [2, 3, 4, 5, 6, 7, 1, 0] rfl)
      intro x3 x4 x5 x6 x7 h ls hl
      rw [wp_X6_mostKindsLeft_B28] at h
      refine lv_iload hx hb dX6_mostKindsLeft_28 (lv_at hl 5 rfl) ?_
      refine lv_bipush (v := (6 : Int32)) hx hb dX6_mostKindsLeft_30 (by decide) ?_
      refine lv_icmp_ge (tgt := 95) hx hb dX6_mostKindsLeft_32 (by decide) (fun c9 => ?_) (fun c9 => ?_)
      · have h := h.1 c9
        refine lv_iload hx hb dX6_mostKindsLeft_95 (lv_at hl 4 rfl) ?_
        exact ri_ret hx hb hr hlocks h dX6_mostKindsLeft_97
      · have h := h.2 c9
        refine lv_iconst (v := (0 : Int32)) hx hb dX6_mostKindsLeft_35 (by decide) ?_
        refine lv_istore (lv' := [(8, .int (0 : Int32)), (0, .ref (q 0)), (3, .int x3), (4, .int x4), (5, .int x5), (6, .int x6), (7, .int x7)]) hx hb dX6_mostKindsLeft_36 hl (by decide) rfl (fun ls hl => ?_)
        refine lv_iconst (v := (0 : Int32)) hx hb dX6_mostKindsLeft_38 (by decide) ?_
        refine lv_istore (lv' := [(9, .int (0 : Int32)), (8, .int (0 : Int32)), (0, .ref (q 0)), (3, .int x3), (4, .int x4), (5, .int x5), (6, .int x6), (7, .int x7)]) hx hb dX6_mostKindsLeft_39 hl (by decide) rfl (fun ls hl => ?_)
        obtain ⟨n9, h⟩ := h
        exact B41 n9 _ _ _ _ _ _ _ h ls (lv_sub hl [2, 3, 4, 5, 6, 7, 1, 0] rfl)
  refine lv_aload_n hx hb dX6_mostKindsLeft_0 rfl (lv_at hl 0 rfl) ?_
  refine xg_r0_8 hx hb hts iX6 hown hK hP k26 dX6_mostKindsLeft_1 ?_
  refine xg_r8_9 hx hb hts iX3 hown hK hP k99 dX6_mostKindsLeft_4 ?_
  refine lv_iload_n hx hb dX6_mostKindsLeft_7 rfl (lv_at hl 2 rfl) ?_
  obtain ⟨h9, h⟩ := h
  refine xal_4 (x := f 4 (a1).toNatClampNeg) hx hb hK hP h9 rfl dX6_mostKindsLeft_8 ?_
  refine lv_istore (lv' := [(4, .int (f 4 (a1).toNatClampNeg)), (0, .ref (q 0)), (1, .int a0), (2, .int a1), (3, .int a2)]) hx hb dX6_mostKindsLeft_9 hl (by decide) rfl (fun ls hl => ?_)
  refine lv_aload_n hx hb dX6_mostKindsLeft_11 rfl (lv_at hl 1 rfl) ?_
  refine xg_r0_12 hx hb hts iX6 hown hK hP k33 dX6_mostKindsLeft_12 ?_
  refine xg_r12_13 hx hb hts iX4 hown hK hP k108 dX6_mostKindsLeft_15 ?_
  refine lv_iload_n hx hb dX6_mostKindsLeft_18 rfl (lv_at hl 2 rfl) ?_
  obtain ⟨h9, h⟩ := h
  refine xal_7 (x := f 7 (a0).toNatClampNeg) hx hb hK hP h9 rfl dX6_mostKindsLeft_19 ?_
  refine lv_istore (lv' := [(5, .int (f 7 (a0).toNatClampNeg)), (4, .int (f 4 (a1).toNatClampNeg)), (0, .ref (q 0)), (1, .int a0), (2, .int a1), (3, .int a2)]) hx hb dX6_mostKindsLeft_20 hl (by decide) rfl (fun ls hl => ?_)
  refine lv_iconst (v := (0 : Int32)) hx hb dX6_mostKindsLeft_22 (by decide) ?_
  refine lv_istore (lv' := [(6, .int (0 : Int32)), (5, .int (f 7 (a0).toNatClampNeg)), (4, .int (f 4 (a1).toNatClampNeg)), (0, .ref (q 0)), (1, .int a0), (2, .int a1), (3, .int a2)]) hx hb dX6_mostKindsLeft_23 hl (by decide) rfl (fun ls hl => ?_)
  refine lv_iconst (v := (-1 : Int32)) hx hb dX6_mostKindsLeft_25 (by decide) ?_
  refine lv_istore (lv' := [(7, .int (-1 : Int32)), (6, .int (0 : Int32)), (5, .int (f 7 (a0).toNatClampNeg)), (4, .int (f 4 (a1).toNatClampNeg)), (0, .ref (q 0)), (1, .int a0), (2, .int a1), (3, .int a2)]) hx hb dX6_mostKindsLeft_26 hl (by decide) rfl (fun ls hl => ?_)
  obtain ⟨n9, h⟩ := h
  exact B28 n9 _ _ _ _ _ h ls (lv_sub hl [4, 7, 3, 2, 1, 0] rfl)
def wp_X6_tellingOpening_B15 (post : Int32 → Prop) (v : Nat → Int32) (f : Nat → Nat → Int32) (z : Int64) : Nat → Int32 → Int32 → Int32 → Int32 → Int32 → Prop
  | 0, _, _, _, _, _ => False
  | n15 + 1, x1, x2, x3, x4, x5 => (((4 : Int32) ≤ x5 → post x3) ∧ (¬ (4 : Int32) ≤ x5 → (wp_X6_mostKindsLeft (fun r1 => ((x4 ≤ r1 → wp_X6_tellingOpening_B15 post v f z n15 x1 x2 x3 x4 (x5 + 1)) ∧ (¬ x4 ≤ r1 → wp_X6_tellingOpening_B15 post v f z n15 x1 x2 x5 r1 (x5 + 1)))) v f z x1 x5 x2)))
def wp_X6_tellingOpening (post : Int32 → Prop) (v : Nat → Int32) (f : Nat → Nat → Int32) (z : Int64) (a0 : Int32) (a1 : Int32) : Prop := ((a1 = 0 → post (-1 : Int32)) ∧ (¬ a1 = 0 → (∃ j9 : Nat, wp_X6_tellingOpening_B15 post v f z j9 a0 a1 (-1 : Int32) (6 : Int32) (0 : Int32))))
def rmX6_tellingOpening : Room := { frames := 3, cells := 0, slots := 0, locals := 74 }
set_option maxHeartbeats 4000000 in
set_option maxRecDepth 100000 in
theorem c_X6_tellingOpening (l : Launch) (D : va_G) (cI : ClassId) (q : Nat → Nat) (post : Int32 → Prop) (v : Nat → Int32) (f : Nat → Nat → Int32) (z : Int64) (a0 : Int32) (a1 : Int32) (h : wp_X6_tellingOpening post v f z a0 a1) : Met l yX6_tellingOpening wsX6_tellingOpening rmX6_tellingOpening (va_Pc [.ref (q 0), .int a0, .int a1] (rP D cI (wX cI q v f z))) (sQ post) 0 0 (fun _ => False) := by
  refine Met.ofW (cc := cX6_tellingOpening) (maxL := 7) (ret := (some .int)) (by decide) rfl ?_
  intro p e s m args below meth c s₁ B hml hv
  obtain ⟨rfl, hP, hK, hN⟩ := hv
  have hx := B.exec
  have hb := B.bytes
  have hr := B.returns
  have hts := atoms_spec (ws := wsX6_tellingOpening) B.pre
  have hown : s.vm.findClass RX6 = some m.cls := findClass_of_methodNamed B.named
  have hlocks : meth.locks = false := B.notSynchronized
  have hl := lv_entry ([.ref (q 0), .int a0, .int a1]) (n := 7) (Nat.le_of_ble_eq_true rfl)
  rw [lg_entry_eq]
  generalize (lg_sl ([.ref (q 0), .int a0, .int a1]) ++ List.replicate (7 - (lg_sl ([.ref (q 0), .int a0, .int a1])).length) Slot.unset).toArray = ls at hl ⊢
  have hl : lv_has ls 7 [(0, .ref (q 0)), (1, .int a0), (2, .int a1)] := hl
  unfold wp_X6_tellingOpening at h
  have B15 : ∀ (n15 : Nat) (x1 : Int32) (x2 : Int32) (x3 : Int32) (x4 : Int32) (x5 : Int32), wp_X6_tellingOpening_B15 post v f z n15 x1 x2 x3 x4 x5 → ∀ (ls : Array Slot), lv_has ls 7 [(0, .ref (q 0)), (1, .int x1), (2, .int x2), (3, .int x3), (4, .int x4), (5, .int x5)] → W p l e (headSpec wsX6_tellingOpening rmX6_tellingOpening).room s m ([.ref (q 0), .int a0, .int a1] : List Value).toArray below meth c s.heap [] 0 0 (MQ below (sQ post) ([.ref (q 0), .int a0, .int a1] : List Value).toArray s 0 0 (fun _ => False)) (F0 m 15 ls []) := by
    intro n15
    induction n15 with
    | zero =>
      intro x1 x2 x3 x4 x5 h
      exact False.elim h
    | succ n15 ih15 =>
      intro x1 x2 x3 x4 x5 h ls hl
      rw [wp_X6_tellingOpening_B15] at h
      refine lv_iload hx hb dX6_tellingOpening_15 (lv_at hl 5 rfl) ?_
      refine lv_iconst (v := (4 : Int32)) hx hb dX6_tellingOpening_17 (by decide) ?_
      refine lv_icmp_ge (tgt := 51) hx hb dX6_tellingOpening_18 (by decide) (fun c9 => ?_) (fun c9 => ?_)
      · have h := h.1 c9
        refine lv_iload_n hx hb dX6_tellingOpening_51 rfl (lv_at hl 3 rfl) ?_
        exact ri_ret hx hb hr hlocks h dX6_tellingOpening_52
      · have h := h.2 c9
        refine lv_aload_n hx hb dX6_tellingOpening_21 rfl (lv_at hl 0 rfl) ?_
        refine lv_iload_n hx hb dX6_tellingOpening_22 rfl (lv_at hl 1 rfl) ?_
        refine lv_iload hx hb dX6_tellingOpening_23 (lv_at hl 5 rfl) ?_
        refine lv_iload_n hx hb dX6_tellingOpening_25 rfl (lv_at hl 2 rfl) ?_
        refine rV_i ⟨hx, hb, hml, hown, hts⟩ (c_X6_mostKindsLeft l D cI q _ _ _ _ _ _ _ h) (cwV 3 hts gX6_tellingOpening_X6_mostKindsLeft rfl rfl rfl (by decide +kernel) ⟨Nat.le_of_ble_eq_true rfl, Nat.le_of_ble_eq_true rfl⟩) hK hP hN (va_recv hK hP (ci := 6) (q0 := 0) rfl rfl) rfl hl.1 (rest := []) rfl (Nat.le_of_ble_eq_true rfl) dX6_tellingOpening_26 (Nat.zero_le _) (Nat.zero_le _) (fun r1 h => ?_)
        refine lv_istore (lv' := [(6, .int r1), (0, .ref (q 0)), (1, .int x1), (2, .int x2), (3, .int x3), (4, .int x4), (5, .int x5)]) hx hb dX6_tellingOpening_29 hl (by decide) rfl (fun ls hl => ?_)
        refine lv_iload hx hb dX6_tellingOpening_31 (lv_at hl 0 rfl) ?_
        refine lv_iload hx hb dX6_tellingOpening_33 (lv_at hl 5 rfl) ?_
        refine lv_icmp_ge (tgt := 45) hx hb dX6_tellingOpening_35 (by decide) (fun c9 => ?_) (fun c9 => ?_)
        · have h := h.1 c9
          refine lv_iinc (v := x5 + 1) (lv' := [(5, .int (x5 + 1)), (6, .int r1), (0, .ref (q 0)), (1, .int x1), (2, .int x2), (3, .int x3), (4, .int x4)]) hx hb dX6_tellingOpening_45 hl (k := 6) rfl rfl (by decide) rfl (fun ls hl => ?_)
          refine lv_goto (tgt := 15) hx hb dX6_tellingOpening_48 (by decide) ?_
          exact ih15 _ _ _ _ _ h ls (lv_sub hl [2, 3, 4, 5, 6, 0] rfl)
        · have h := h.2 c9
          refine lv_iload hx hb dX6_tellingOpening_38 (lv_at hl 0 rfl) ?_
          refine lv_istore (lv' := [(4, .int r1), (6, .int r1), (0, .ref (q 0)), (1, .int x1), (2, .int x2), (3, .int x3), (5, .int x5)]) hx hb dX6_tellingOpening_40 hl (by decide) rfl (fun ls hl => ?_)
          refine lv_iload hx hb dX6_tellingOpening_42 (lv_at hl 6 rfl) ?_
          refine lv_istore_n (lv' := [(3, .int x5), (4, .int r1), (6, .int r1), (0, .ref (q 0)), (1, .int x1), (2, .int x2), (5, .int x5)]) hx hb dX6_tellingOpening_44 rfl hl (by decide) rfl (fun ls hl => ?_)
          refine lv_iinc (v := x5 + 1) (lv' := [(5, .int (x5 + 1)), (3, .int x5), (4, .int r1), (6, .int r1), (0, .ref (q 0)), (1, .int x1), (2, .int x2)]) hx hb dX6_tellingOpening_45 hl (k := 6) rfl rfl (by decide) rfl (fun ls hl => ?_)
          refine lv_goto (tgt := 15) hx hb dX6_tellingOpening_48 (by decide) ?_
          exact ih15 _ _ _ _ _ h ls (lv_sub hl [4, 5, 6, 1, 2, 0] rfl)
  refine lv_iload_n hx hb dX6_tellingOpening_0 rfl (lv_at hl 2 rfl) ?_
  refine lv_if_ne (tgt := 6) hx hb dX6_tellingOpening_1 (by decide) (fun c9 => ?_) (fun c9 => ?_)
  · have h := h.2 c9
    refine lv_iconst (v := (-1 : Int32)) hx hb dX6_tellingOpening_6 (by decide) ?_
    refine lv_istore_n (lv' := [(3, .int (-1 : Int32)), (0, .ref (q 0)), (1, .int a0), (2, .int a1)]) hx hb dX6_tellingOpening_7 rfl hl (by decide) rfl (fun ls hl => ?_)
    refine lv_bipush (v := (6 : Int32)) hx hb dX6_tellingOpening_8 (by decide) ?_
    refine lv_istore (lv' := [(4, .int (6 : Int32)), (3, .int (-1 : Int32)), (0, .ref (q 0)), (1, .int a0), (2, .int a1)]) hx hb dX6_tellingOpening_10 hl (by decide) rfl (fun ls hl => ?_)
    refine lv_iconst (v := (0 : Int32)) hx hb dX6_tellingOpening_12 (by decide) ?_
    refine lv_istore (lv' := [(5, .int (0 : Int32)), (4, .int (6 : Int32)), (3, .int (-1 : Int32)), (0, .ref (q 0)), (1, .int a0), (2, .int a1)]) hx hb dX6_tellingOpening_13 hl (by decide) rfl (fun ls hl => ?_)
    obtain ⟨n9, h⟩ := h
    exact B15 n9 _ _ _ _ _ h ls (lv_sub hl [3, 4, 5, 2, 1, 0] rfl)
  · have h := h.1 c9
    refine lv_iconst (v := (-1 : Int32)) hx hb dX6_tellingOpening_4 (by decide) ?_
    exact ri_ret hx hb hr hlocks h dX6_tellingOpening_5
def wp_X6_wouldPlease (post : Int32 → Prop) (v : Nat → Int32) (f : Nat → Nat → Int32) (z : Int64) (a0 : Int32) (a1 : Int32) : Prop := (vp_in a1 8 ∧ (wp_X4_isOpen (fun r1 => ((r1 = 0 → post (0 : Int32)) ∧ (¬ r1 = 0 → (((f 8 (a1).toNatClampNeg) = a0 → post (0 : Int32)) ∧ (¬ (f 8 (a1).toNatClampNeg) = a0 → (vp_in a1 8 ∧ (wp_X6_endingNow (fun r2 => (vp_in (f 8 (a1).toNatClampNeg) 4 ∧ ((r2 = (f 7 (f 8 (a1).toNatClampNeg).toNatClampNeg) → post (1 : Int32)) ∧ (¬ r2 = (f 7 (f 8 (a1).toNatClampNeg).toNatClampNeg) → post (0 : Int32))))) v f z a0 (f 9 (a1).toNatClampNeg)))))))) v f z a1))
def rmX6_wouldPlease : Room := { frames := 3, cells := 0, slots := 0, locals := 67 }
set_option maxHeartbeats 4000000 in
set_option maxRecDepth 100000 in
theorem c_X6_wouldPlease (l : Launch) (D : va_G) (cI : ClassId) (q : Nat → Nat) (post : Int32 → Prop) (v : Nat → Int32) (f : Nat → Nat → Int32) (z : Int64) (a0 : Int32) (a1 : Int32) (h : wp_X6_wouldPlease post v f z a0 a1) : Met l yX6_wouldPlease wsX6_wouldPlease rmX6_wouldPlease (va_Pc [.ref (q 0), .int a0, .int a1] (rP D cI (wX cI q v f z))) (sQ post) 0 0 (fun _ => False) := by
  refine Met.ofW (cc := cX6_wouldPlease) (maxL := 4) (ret := (some .boolean)) (by decide) rfl ?_
  intro p e s m args below meth c s₁ B hml hv
  obtain ⟨rfl, hP, hK, hN⟩ := hv
  have hx := B.exec
  have hb := B.bytes
  have hr := B.returns
  have hts := atoms_spec (ws := wsX6_wouldPlease) B.pre
  have hown : s.vm.findClass RX6 = some m.cls := findClass_of_methodNamed B.named
  have hlocks : meth.locks = false := B.notSynchronized
  have iX4 : ∀ w ∈ wsX40, w ∈ wsX6_wouldPlease := fun _ h9 => List.mem_cons_of_mem _ (List.mem_append_left _ (List.mem_append_right _ h9))
  have iX6 : ∀ w ∈ wsX60, w ∈ wsX6_wouldPlease := fun _ h9 => List.mem_cons_of_mem _ (List.mem_append_left _ (List.mem_append_left _ (List.mem_append_right _ h9)))
  have k108 := hts (.fieldLink RX6 108 "EndedByOthers$Scene" "wants" "[I") (by decide +kernel)
  have k157 := hts (.fieldLink RX6 157 "EndedByOthers$Scene" "beginners" "[I") (by decide +kernel)
  have k160 := hts (.fieldLink RX6 160 "EndedByOthers$Scene" "openings" "[I") (by decide +kernel)
  have k33 := hts (.fieldLink RX6 33 "EndedByOthers" "scene" "LEndedByOthers$Scene;") (by decide +kernel)
  have hl := lv_entry ([.ref (q 0), .int a0, .int a1]) (n := 4) (Nat.le_of_ble_eq_true rfl)
  rw [lg_entry_eq]
  generalize (lg_sl ([.ref (q 0), .int a0, .int a1]) ++ List.replicate (4 - (lg_sl ([.ref (q 0), .int a0, .int a1])).length) Slot.unset).toArray = ls at hl ⊢
  have hl : lv_has ls 4 [(0, .ref (q 0)), (1, .int a0), (2, .int a1)] := hl
  unfold wp_X6_wouldPlease at h
  refine lv_aload_n hx hb dX6_wouldPlease_0 rfl (lv_at hl 0 rfl) ?_
  refine xg_r0_12 hx hb hts iX6 hown hK hP k33 dX6_wouldPlease_1 ?_
  refine xg_r12_14 hx hb hts iX4 hown hK hP k157 dX6_wouldPlease_4 ?_
  refine lv_iload_n hx hb dX6_wouldPlease_7 rfl (lv_at hl 2 rfl) ?_
  obtain ⟨h9, h⟩ := h
  refine xal_8 (x := f 8 (a1).toNatClampNeg) hx hb hK hP h9 rfl dX6_wouldPlease_8 ?_
  refine lv_istore_n (lv' := [(3, .int (f 8 (a1).toNatClampNeg)), (0, .ref (q 0)), (1, .int a0), (2, .int a1)]) hx hb dX6_wouldPlease_9 rfl hl (by decide) rfl (fun ls hl => ?_)
  refine lv_aload_n hx hb dX6_wouldPlease_10 rfl (lv_at hl 1 rfl) ?_
  refine xg_r0_12 hx hb hts iX6 hown hK hP k33 dX6_wouldPlease_11 ?_
  refine lv_iload_n hx hb dX6_wouldPlease_14 rfl (lv_at hl 3 rfl) ?_
  refine rV_i ⟨hx, hb, hml, hown, hts⟩ (c_X4_isOpen l D cI q _ _ _ _ _ h) (cwV 1 hts gX6_wouldPlease_X4_isOpen rfl rfl rfl (by decide +kernel) ⟨Nat.le_of_ble_eq_true rfl, Nat.le_of_ble_eq_true rfl⟩) hK hP hN (va_recv hK hP (ci := 4) (q0 := 12) rfl rfl) rfl hl.1 (rest := []) rfl (Nat.le_of_ble_eq_true rfl) dX6_wouldPlease_15 (Nat.zero_le _) (Nat.zero_le _) (fun r1 h => ?_)
  refine lv_if_eq (tgt := 56) hx hb dX6_wouldPlease_18 (by decide) (fun c9 => ?_) (fun c9 => ?_)
  · have h := h.1 c9
    refine lv_iconst (v := (0 : Int32)) hx hb dX6_wouldPlease_56 (by decide) ?_
    exact rz_ret hx hb hr hlocks rfl h dX6_wouldPlease_57
  · have h := h.2 c9
    refine lv_iload_n hx hb dX6_wouldPlease_21 rfl (lv_at hl 0 rfl) ?_
    refine lv_iload_n hx hb dX6_wouldPlease_22 rfl (lv_at hl 2 rfl) ?_
    refine lv_icmp_eq (tgt := 56) hx hb dX6_wouldPlease_23 (by decide) (fun c9 => ?_) (fun c9 => ?_)
    · have h := h.1 c9
      refine lv_iconst (v := (0 : Int32)) hx hb dX6_wouldPlease_56 (by decide) ?_
      exact rz_ret hx hb hr hlocks rfl h dX6_wouldPlease_57
    · have h := h.2 c9
      refine lv_aload_n hx hb dX6_wouldPlease_26 rfl (lv_at hl 1 rfl) ?_
      refine lv_iload_n hx hb dX6_wouldPlease_27 rfl (lv_at hl 2 rfl) ?_
      refine lv_aload_n hx hb dX6_wouldPlease_28 rfl (lv_at hl 1 rfl) ?_
      refine xg_r0_12 hx hb hts iX6 hown hK hP k33 dX6_wouldPlease_29 ?_
      refine xg_r12_15 hx hb hts iX4 hown hK hP k160 dX6_wouldPlease_32 ?_
      refine lv_iload_n hx hb dX6_wouldPlease_35 rfl (lv_at hl 3 rfl) ?_
      obtain ⟨h9, h⟩ := h
      refine xal_9 (x := f 9 (a1).toNatClampNeg) hx hb hK hP h9 rfl dX6_wouldPlease_36 ?_
      refine rV_i ⟨hx, hb, hml, hown, hts⟩ (c_X6_endingNow l D cI q _ _ _ _ _ _ h) (cwV 2 hts gX6_wouldPlease_X6_endingNow rfl rfl rfl (by decide +kernel) ⟨Nat.le_of_ble_eq_true rfl, Nat.le_of_ble_eq_true rfl⟩) hK hP hN (va_recv hK hP (ci := 6) (q0 := 0) rfl rfl) rfl hl.1 (rest := []) rfl (Nat.le_of_ble_eq_true rfl) dX6_wouldPlease_37 (Nat.zero_le _) (Nat.zero_le _) (fun r2 h => ?_)
      refine lv_aload_n hx hb dX6_wouldPlease_40 rfl (lv_at hl 1 rfl) ?_
      refine xg_r0_12 hx hb hts iX6 hown hK hP k33 dX6_wouldPlease_41 ?_
      refine xg_r12_13 hx hb hts iX4 hown hK hP k108 dX6_wouldPlease_44 ?_
      refine lv_iload_n hx hb dX6_wouldPlease_47 rfl (lv_at hl 0 rfl) ?_
      obtain ⟨h9, h⟩ := h
      refine xal_7 (x := f 7 (f 8 (a1).toNatClampNeg).toNatClampNeg) hx hb hK hP h9 rfl dX6_wouldPlease_48 ?_
      refine lv_icmp_ne (tgt := 56) hx hb dX6_wouldPlease_49 (by decide) (fun c9 => ?_) (fun c9 => ?_)
      · have h := h.2 c9
        refine lv_iconst (v := (0 : Int32)) hx hb dX6_wouldPlease_56 (by decide) ?_
        exact rz_ret hx hb hr hlocks rfl h dX6_wouldPlease_57
      · have h := h.1 c9
        refine lv_iconst (v := (1 : Int32)) hx hb dX6_wouldPlease_52 (by decide) ?_
        refine lv_goto (tgt := 57) hx hb dX6_wouldPlease_53 (by decide) ?_
        exact rz_ret hx hb hr hlocks rfl h dX6_wouldPlease_57
def wp_X6_findPleasing_B19 (post : (Nat → Int32) → (Nat → Nat → Int32) → Int64 → Prop) (K2 : (Nat → Int32) → (Nat → Nat → Int32) → Int64 → Int32 → Prop) : Nat → (Nat → Int32) → (Nat → Nat → Int32) → Int64 → Int32 → Int32 → Prop
  | 0, _, _, _, _, _ => False
  | n19 + 1, v, f, z, x1, x2 => (wp_X6_isSpeaker (fun r1 => ((r1 = 0 → K2 v f z (x1 + 1)) ∧ (¬ r1 = 0 → (((v 8) ≤ x2 → K2 v f z (x1 + 1)) ∧ (¬ (v 8) ≤ x2 → (wp_X6_wouldPlease (fun r2 => ((r2 = 0 → wp_X6_findPleasing_B19 post K2 n19 v f z x1 (x2 + 1)) ∧ (¬ r2 = 0 → (vp_in x1 4 ∧ (vp_in x1 4 ∧ wp_X6_findPleasing_B19 post K2 n19 v (va_up f 23 (upd (f 23) (x1).toNatClampNeg ((f 23 (x1).toNatClampNeg) ||| ((1 : Int32) <<< (x2 &&& 31))))) z x1 (x2 + 1)))))) v f z x1 x2)))))) v f z x1)
def wp_X6_findPleasing_B2 (post : (Nat → Int32) → (Nat → Nat → Int32) → Int64 → Prop) : Nat → (Nat → Int32) → (Nat → Nat → Int32) → Int64 → Int32 → Prop
  | 0, _, _, _, _ => False
  | n2 + 1, v, f, z, x1 => (((4 : Int32) ≤ x1 → post v f z) ∧ (¬ (4 : Int32) ≤ x1 → (vp_in x1 4 ∧ (∃ j9 : Nat, wp_X6_findPleasing_B19 post (wp_X6_findPleasing_B2 post n2) j9 v (va_up f 23 (upd (f 23) (x1).toNatClampNeg (0 : Int32))) z x1 (0 : Int32)))))
def wp_X6_findPleasing (post : (Nat → Int32) → (Nat → Nat → Int32) → Int64 → Prop) (v : Nat → Int32) (f : Nat → Nat → Int32) (z : Int64) : Prop := (∃ j9 : Nat, wp_X6_findPleasing_B2 post j9 v f z (0 : Int32))
def rmX6_findPleasing : Room := { frames := 4, cells := 0, slots := 0, locals := 90 }
set_option maxHeartbeats 4000000 in
set_option maxRecDepth 100000 in
theorem c_X6_findPleasing (l : Launch) (D : va_G) (cI : ClassId) (q : Nat → Nat) (sz : Nat) (post : (Nat → Int32) → (Nat → Nat → Int32) → Int64 → Prop) (v : Nat → Int32) (f : Nat → Nat → Int32) (z : Int64) (h : wp_X6_findPleasing post v f z) : Met l yX6_findPleasing wsX6_findPleasing rmX6_findPleasing (va_Pc [.ref (q 0)] (mP D cI (wX cI q v f z) sz)) (mQv post D cI (wX cI q) (va_A (wX cI q v f z) sz)) 0 0 (va_A (wX cI q v f z) sz) := by
  refine Met.ofW (cc := cX6_findPleasing) (maxL := 3) (ret := none) (by decide) rfl ?_
  intro p e s m args below meth c s₁ B hml hv
  obtain ⟨rfl, hsz, ⟨hP, hK, hN⟩, hD0⟩ := hv
  have hx := B.exec
  have hb := B.bytes
  have hr := B.returns
  have hts := atoms_spec (ws := wsX6_findPleasing) B.pre
  have hown : s.vm.findClass RX6 = some m.cls := findClass_of_methodNamed B.named
  have hlocks : meth.locks = false := B.notSynchronized
  subst hsz
  have hD := hD0.self (sz := s.heap.size)
  generalize hAe : va_A (wX cI q v f z) s.heap.size = A at hD ⊢
  have hA : ∀ q : Nat, s.heap.size ≤ q → A q := fun q h => by rw [← hAe]; exact Or.inr h
  have hS : va_S A s.heap s.heap [] := va_S.rf
  have iX0 : ∀ w ∈ wsX00, w ∈ wsX6_findPleasing := fun _ h9 => List.mem_cons_of_mem _ (List.mem_append_left _ (List.mem_append_left _ (List.mem_append_right _ h9)))
  have iX4 : ∀ w ∈ wsX40, w ∈ wsX6_findPleasing := fun _ h9 => List.mem_cons_of_mem _ (List.mem_append_left _ (List.mem_append_right _ h9))
  have iX6 : ∀ w ∈ wsX60, w ∈ wsX6_findPleasing := fun _ h9 => List.mem_cons_of_mem _ (List.mem_append_left _ (List.mem_append_left _ (List.mem_append_left _ (List.mem_append_right _ h9))))
  have k145 := hts (.fieldLink RX6 145 "EndedByOthers$Scene" "sentences" "I") (by decide +kernel)
  have k276 := hts (.fieldLink RX6 276 "EndedByOthers$Matching" "pleasing" "[I") (by decide +kernel)
  have k33 := hts (.fieldLink RX6 33 "EndedByOthers" "scene" "LEndedByOthers$Scene;") (by decide +kernel)
  have k43 := hts (.fieldLink RX6 43 "EndedByOthers" "matching" "LEndedByOthers$Matching;") (by decide +kernel)
  have hl := lv_entry ([.ref (q 0)]) (n := 3) (Nat.le_of_ble_eq_true rfl)
  rw [lg_entry_eq]
  generalize (lg_sl ([.ref (q 0)]) ++ List.replicate (3 - (lg_sl ([.ref (q 0)])).length) Slot.unset).toArray = ls at hl ⊢
  have hl : lv_has ls 3 [(0, .ref (q 0))] := hl
  unfold wp_X6_findPleasing at h
  have B2 : ∀ (n2 : Nat) (v : Nat → Int32) (f : Nat → Nat → Int32) (z : Int64) (x1 : Int32), wp_X6_findPleasing_B2 post n2 v f z x1 → ∀ (H : Heap) (locs : List Loc), va_P D vwCl (wX cI q v f z) H → va_D A (wX cI q v f z) → va_S A s.heap H locs → ∀ (ls : Array Slot), lv_has ls 3 [(0, .ref (q 0)), (1, .int x1)] → W p l e (headSpec wsX6_findPleasing rmX6_findPleasing).room s m ([.ref (q 0)] : List Value).toArray below meth c H locs 0 0 (MQ below (mQv post D cI (wX cI q) A) ([.ref (q 0)] : List Value).toArray s 0 0 A) (F0 m 2 ls []) := by
    intro n2
    induction n2 with
    | zero =>
      intro v f z x1 h
      exact False.elim h
    | succ n2 ih2 =>
      have B19 : ∀ (n19 : Nat) (v : Nat → Int32) (f : Nat → Nat → Int32) (z : Int64) (x1 : Int32) (x2 : Int32), wp_X6_findPleasing_B19 post (wp_X6_findPleasing_B2 post n2) n19 v f z x1 x2 → ∀ (H : Heap) (locs : List Loc), va_P D vwCl (wX cI q v f z) H → va_D A (wX cI q v f z) → va_S A s.heap H locs → ∀ (ls : Array Slot), lv_has ls 3 [(0, .ref (q 0)), (1, .int x1), (2, .int x2)] → W p l e (headSpec wsX6_findPleasing rmX6_findPleasing).room s m ([.ref (q 0)] : List Value).toArray below meth c H locs 0 0 (MQ below (mQv post D cI (wX cI q) A) ([.ref (q 0)] : List Value).toArray s 0 0 A) (F0 m 19 ls []) := by
        intro n19
        induction n19 with
        | zero =>
          intro v f z x1 x2 h
          exact False.elim h
        | succ n19 ih19 =>
          intro v f z x1 x2 h H locs hP hD hS ls hl
          rw [wp_X6_findPleasing_B19] at h
          refine lv_aload_n hx hb dX6_findPleasing_19 rfl (lv_at hl 0 rfl) ?_
          refine lv_iload_n hx hb dX6_findPleasing_20 rfl (lv_at hl 1 rfl) ?_
          refine rV_i ⟨hx, hb, hml, hown, hts⟩ (c_X6_isSpeaker l D cI q _ _ _ _ _ h) (cwV 1 hts gX6_findPleasing_X6_isSpeaker rfl rfl rfl (by decide +kernel) ⟨Nat.le_of_ble_eq_true rfl, Nat.le_of_ble_eq_true rfl⟩) hK hP hN (va_recv hK hP (ci := 6) (q0 := 0) rfl rfl) rfl hl.1 (rest := []) rfl (Nat.le_of_ble_eq_true rfl) dX6_findPleasing_21 (Nat.zero_le _) (Nat.zero_le _) (fun r1 h => ?_)
          refine lv_if_eq (tgt := 68) hx hb dX6_findPleasing_24 (by decide) (fun c9 => ?_) (fun c9 => ?_)
          · have h := h.1 c9
            refine lv_iinc (v := x1 + 1) (lv' := [(1, .int (x1 + 1)), (0, .ref (q 0)), (2, .int x2)]) hx hb dX6_findPleasing_68 hl (k := 1) rfl rfl (by decide) rfl (fun ls hl => ?_)
            refine lv_goto (tgt := 2) hx hb dX6_findPleasing_71 (by decide) ?_
            exact ih2 _ _ _ _ h _ _ hP hD hS ls (lv_sub hl [1, 0] rfl)
          · have h := h.2 c9
            refine lv_iload_n hx hb dX6_findPleasing_27 rfl (lv_at hl 2 rfl) ?_
            refine lv_aload_n hx hb dX6_findPleasing_28 rfl (lv_at hl 0 rfl) ?_
            refine xg_r0_12 hx hb hts iX6 hown hK hP k33 dX6_findPleasing_29 ?_
            refine xg_s8 (x := v 8) hx hb hts iX4 hown hK hP k145 rfl dX6_findPleasing_32 ?_
            refine lv_icmp_ge (tgt := 68) hx hb dX6_findPleasing_35 (by decide) (fun c9 => ?_) (fun c9 => ?_)
            · have h := h.1 c9
              refine lv_iinc (v := x1 + 1) (lv' := [(1, .int (x1 + 1)), (0, .ref (q 0)), (2, .int x2)]) hx hb dX6_findPleasing_68 hl (k := 1) rfl rfl (by decide) rfl (fun ls hl => ?_)
              refine lv_goto (tgt := 2) hx hb dX6_findPleasing_71 (by decide) ?_
              exact ih2 _ _ _ _ h _ _ hP hD hS ls (lv_sub hl [1, 0] rfl)
            · have h := h.2 c9
              refine lv_aload_n hx hb dX6_findPleasing_38 rfl (lv_at hl 0 rfl) ?_
              refine lv_iload_n hx hb dX6_findPleasing_39 rfl (lv_at hl 1 rfl) ?_
              refine lv_iload_n hx hb dX6_findPleasing_40 rfl (lv_at hl 2 rfl) ?_
              refine rV_i ⟨hx, hb, hml, hown, hts⟩ (c_X6_wouldPlease l D cI q _ _ _ _ _ _ h) (cwV 2 hts gX6_findPleasing_X6_wouldPlease rfl rfl rfl (by decide +kernel) ⟨Nat.le_of_ble_eq_true rfl, Nat.le_of_ble_eq_true rfl⟩) hK hP hN (va_recv hK hP (ci := 6) (q0 := 0) rfl rfl) rfl hl.1 (rest := []) rfl (Nat.le_of_ble_eq_true rfl) dX6_findPleasing_41 (Nat.zero_le _) (Nat.zero_le _) (fun r2 h => ?_)
              refine lv_if_eq (tgt := 62) hx hb dX6_findPleasing_44 (by decide) (fun c9 => ?_) (fun c9 => ?_)
              · have h := h.1 c9
                refine lv_iinc (v := x2 + 1) (lv' := [(2, .int (x2 + 1)), (0, .ref (q 0)), (1, .int x1)]) hx hb dX6_findPleasing_62 hl (k := 2) rfl rfl (by decide) rfl (fun ls hl => ?_)
                refine lv_goto (tgt := 19) hx hb dX6_findPleasing_65 (by decide) ?_
                exact ih19 _ _ _ _ _ h _ _ hP hD hS ls (lv_sub hl [1, 2, 0] rfl)
              · have h := h.2 c9
                refine lv_aload_n hx hb dX6_findPleasing_47 rfl (lv_at hl 0 rfl) ?_
                refine xg_r0_30 hx hb hts iX6 hown hK hP k43 dX6_findPleasing_48 ?_
                refine xg_r30_31 hx hb hts iX0 hown hK hP k276 dX6_findPleasing_51 ?_
                refine lv_iload_n hx hb dX6_findPleasing_54 rfl (lv_at hl 1 rfl) ?_
                refine lv_dup2_11 hx hb dX6_findPleasing_55 rfl rfl ?_
                obtain ⟨h9, h⟩ := h
                refine xal_23 (x := f 23 (x1).toNatClampNeg) hx hb hK hP h9 rfl dX6_findPleasing_56 ?_
                refine lv_iconst (v := (1 : Int32)) hx hb dX6_findPleasing_57 (by decide) ?_
                refine lv_iload_n hx hb dX6_findPleasing_58 rfl (lv_at hl 2 rfl) ?_
                refine lv_ishl hx hb dX6_findPleasing_59 ?_
                refine lv_ior hx hb dX6_findPleasing_60 ?_
                obtain ⟨h9, h⟩ := h
                refine xas_23 hx hb hK hP hD hS h9 dX6_findPleasing_61 (fun H locs hP hD hS => ?_)
                have hP : va_P D vwCl (wX cI q v (va_up f 23 (upd (f 23) (x1).toNatClampNeg ((f 23 (x1).toNatClampNeg) ||| ((1 : Int32) <<< (x2 &&& 31))))) z) H := hP
                have hD : va_D A (wX cI q v (va_up f 23 (upd (f 23) (x1).toNatClampNeg ((f 23 (x1).toNatClampNeg) ||| ((1 : Int32) <<< (x2 &&& 31))))) z) := hD
                refine lv_iinc (v := x2 + 1) (lv' := [(2, .int (x2 + 1)), (0, .ref (q 0)), (1, .int x1)]) hx hb dX6_findPleasing_62 hl (k := 2) rfl rfl (by decide) rfl (fun ls hl => ?_)
                refine lv_goto (tgt := 19) hx hb dX6_findPleasing_65 (by decide) ?_
                exact ih19 _ _ _ _ _ h _ _ hP hD hS ls (lv_sub hl [1, 2, 0] rfl)
      intro v f z x1 h H locs hP hD hS ls hl
      rw [wp_X6_findPleasing_B2] at h
      refine lv_iload_n hx hb dX6_findPleasing_2 rfl (lv_at hl 1 rfl) ?_
      refine lv_iconst (v := (4 : Int32)) hx hb dX6_findPleasing_3 (by decide) ?_
      refine lv_icmp_ge (tgt := 74) hx hb dX6_findPleasing_4 (by decide) (fun c9 => ?_) (fun c9 => ?_)
      · have h := h.1 c9
        exact mv_ret (v, f, z) hx hb hr hlocks h hK hP hD hS dX6_findPleasing_74
      · have h := h.2 c9
        refine lv_aload_n hx hb dX6_findPleasing_7 rfl (lv_at hl 0 rfl) ?_
        refine xg_r0_30 hx hb hts iX6 hown hK hP k43 dX6_findPleasing_8 ?_
        refine xg_r30_31 hx hb hts iX0 hown hK hP k276 dX6_findPleasing_11 ?_
        refine lv_iload_n hx hb dX6_findPleasing_14 rfl (lv_at hl 1 rfl) ?_
        refine lv_iconst (v := (0 : Int32)) hx hb dX6_findPleasing_15 (by decide) ?_
        obtain ⟨h9, h⟩ := h
        refine xas_23 hx hb hK hP hD hS h9 dX6_findPleasing_16 (fun H locs hP hD hS => ?_)
        have hP : va_P D vwCl (wX cI q v (va_up f 23 (upd (f 23) (x1).toNatClampNeg (0 : Int32))) z) H := hP
        have hD : va_D A (wX cI q v (va_up f 23 (upd (f 23) (x1).toNatClampNeg (0 : Int32))) z) := hD
        refine lv_iconst (v := (0 : Int32)) hx hb dX6_findPleasing_17 (by decide) ?_
        refine lv_istore_n (lv' := [(2, .int (0 : Int32)), (0, .ref (q 0)), (1, .int x1)]) hx hb dX6_findPleasing_18 rfl hl (by decide) rfl (fun ls hl => ?_)
        obtain ⟨n9, h⟩ := h
        exact B19 n9 _ _ _ _ _ h _ _ hP hD hS ls (lv_sub hl [1, 2, 0] rfl)
  refine lv_iconst (v := (0 : Int32)) hx hb dX6_findPleasing_0 (by decide) ?_
  refine lv_istore_n (lv' := [(1, .int (0 : Int32)), (0, .ref (q 0))]) hx hb dX6_findPleasing_1 rfl hl (by decide) rfl (fun ls hl => ?_)
  obtain ⟨n9, h⟩ := h
  exact B2 n9 _ _ _ _ h _ _ hP hD hS ls (lv_sub hl [1, 0] rfl)
def wp_X0_mostFrom_B33 (rec : (Int32 → Prop) → (Nat → Int32) → (Nat → Nat → Int32) → Int64 → Int32 → Int32 → Prop) (post : Int32 → Prop) (v : Nat → Int32) (f : Nat → Nat → Int32) (z : Int64) : Nat → Int32 → Int32 → Int32 → Int32 → Int32 → Prop
  | 0, _, _, _, _, _ => False
  | n33 + 1, x1, x2, x3, x4, x5 => (((8 : Int32) ≤ x5 → post x3) ∧ (¬ (8 : Int32) ≤ x5 → (wp_X6_has (fun r1 => ((r1 = 0 → wp_X0_mostFrom_B33 rec post v f z n33 x1 x2 x3 x4 (x5 + 1)) ∧ (¬ r1 = 0 → (rec (fun r2 => wp_X0_mostFrom_B33 rec post v f z n33 x1 x2 (if x3 < ((1 : Int32) + r2) then (1 : Int32) + r2 else x3) x4 (x5 + 1)) v f z (x1 + (1 : Int32)) (x2 ||| ((1 : Int32) <<< (x5 &&& 31))))))) x4 x5)))
def wp_X0_mostFrom : Nat → (Int32 → Prop) → (Nat → Int32) → (Nat → Nat → Int32) → Int64 → Int32 → Int32 → Prop
  | 0, _, _, _, _, _, _ => False
  | d + 1, post, v, f, z, a1, a2 => ((a1 < 0 → post (0 : Int32)) ∧ (¬ a1 < 0 → ((a1 < (4 : Int32) → ((wp_X0_mostFrom d) (fun r3 => (vp_in a1 4 ∧ (∃ j9 : Nat, wp_X0_mostFrom_B33 (wp_X0_mostFrom d) post v f z j9 a1 a2 r3 ((f 23 (a1).toNatClampNeg) &&& (a2 ^^^ (-1 : Int32))) (0 : Int32)))) v f z (a1 + (1 : Int32)) a2)) ∧ (¬ a1 < (4 : Int32) → post (0 : Int32)))))
def rmX0_mostFrom (d : Nat) : Room := { frames := d + 2, cells := 0, slots := 0, locals := 30 * d + 60 }
set_option maxHeartbeats 4000000 in
set_option maxRecDepth 100000 in
theorem c_X0_mostFrom (l : Launch) (D : va_G) (cI : ClassId) (q : Nat → Nat) : ∀ (d : Nat) (post : Int32 → Prop) (v : Nat → Int32) (f : Nat → Nat → Int32) (z : Int64) (a1 : Int32) (a2 : Int32) (h : wp_X0_mostFrom d post v f z a1 a2), Met l yX0_mostFrom wsX0_mostFrom (rmX0_mostFrom d) (va_Pc [.ref (q 31), .int a1, .int a2] (rP D cI (wX cI q v f z))) (sQ post) 0 0 (fun _ => False) := by
  intro d
  induction d with
  | zero => intro post v f z a1 a2 h; exact False.elim h
  | succ d ihd =>
    intro post v f z a1 a2 h
    rw [wp_X0_mostFrom] at h
    refine Met.ofW (cc := cX0_mostFrom) (maxL := 6) (ret := (some .int)) (by decide) rfl ?_
    intro p e s m args below meth c s₁ B hml hv
    obtain ⟨rfl, hP, hK, hN⟩ := hv
    have hx := B.exec
    have hb := B.bytes
    have hr := B.returns
    have hts := atoms_spec (ws := wsX0_mostFrom) B.pre
    have hown : s.vm.findClass RX0 = some m.cls := findClass_of_methodNamed B.named
    have hlocks : meth.locks = false := B.notSynchronized
    have hl := lv_entry ([.ref (q 31), .int a1, .int a2]) (n := 6) (Nat.le_of_ble_eq_true rfl)
    rw [lg_entry_eq]
    generalize (lg_sl ([.ref (q 31), .int a1, .int a2]) ++ List.replicate (6 - (lg_sl ([.ref (q 31), .int a1, .int a2])).length) Slot.unset).toArray = ls at hl ⊢
    have hl : lv_has ls 6 [(0, .ref (q 31)), (1, .int a1), (2, .int a2)] := hl
    have B33 : ∀ (n33 : Nat) (x1 : Int32) (x2 : Int32) (x3 : Int32) (x4 : Int32) (x5 : Int32), wp_X0_mostFrom_B33 (wp_X0_mostFrom d) post v f z n33 x1 x2 x3 x4 x5 → ∀ (ls : Array Slot), lv_has ls 6 [(0, .ref (q 31)), (1, .int x1), (2, .int x2), (3, .int x3), (4, .int x4), (5, .int x5)] → W p l e (headSpec wsX0_mostFrom (rmX0_mostFrom (d + 1))).room s m ([.ref (q 31), .int a1, .int a2] : List Value).toArray below meth c s.heap [] 0 0 (MQ below (sQ post) ([.ref (q 31), .int a1, .int a2] : List Value).toArray s 0 0 (fun _ => False)) (F0 m 33 ls []) := by
      intro n33
      induction n33 with
      | zero =>
        intro x1 x2 x3 x4 x5 h
        exact False.elim h
      | succ n33 ih33 =>
        intro x1 x2 x3 x4 x5 h ls hl
        rw [wp_X0_mostFrom_B33] at h
        refine lv_iload hx hb dX0_mostFrom_33 (lv_at hl 5 rfl) ?_
        refine lv_bipush (v := (8 : Int32)) hx hb dX0_mostFrom_35 (by decide) ?_
        refine lv_icmp_ge (tgt := 76) hx hb dX0_mostFrom_37 (by decide) (fun c9 => ?_) (fun c9 => ?_)
        · have h := h.1 c9
          refine lv_iload_n hx hb dX0_mostFrom_76 rfl (lv_at hl 3 rfl) ?_
          exact ri_ret hx hb hr hlocks h dX0_mostFrom_77
        · have h := h.2 c9
          refine lv_iload hx hb dX0_mostFrom_40 (lv_at hl 4 rfl) ?_
          refine lv_iload hx hb dX0_mostFrom_42 (lv_at hl 5 rfl) ?_
          refine rN_i ⟨hx, hb, hml, hown, hts⟩ (c_X6_has l D cI _ _ _ h) ⟨va_cnB 2 hts gX0_mostFrom_X6_has_n30 rfl rfl rfl hN.2.2.2.1 (hts (.initialized RX6) (by decide +kernel)) (by decide +kernel) ⟨(show 0 + 1 ≤ (d + 1) + 2 by omega), (show 8 + (2 + 11) + 0 ≤ 30 * (d + 1) + 60 by omega)⟩, hts (.static yX6_has) (by decide +kernel), trivial⟩ hK wPnil hN rfl hl.1 (rest := []) rfl (Nat.le_of_ble_eq_true rfl) dX0_mostFrom_44 (Nat.zero_le _) (Nat.zero_le _) (fun r1 h => ?_)
          refine lv_if_eq (tgt := 70) hx hb dX0_mostFrom_47 (by decide) (fun c9 => ?_) (fun c9 => ?_)
          · have h := h.1 c9
            refine lv_iinc (v := x5 + 1) (lv' := [(5, .int (x5 + 1)), (0, .ref (q 31)), (1, .int x1), (2, .int x2), (3, .int x3), (4, .int x4)]) hx hb dX0_mostFrom_70 hl (k := 5) rfl rfl (by decide) rfl (fun ls hl => ?_)
            refine lv_goto (tgt := 33) hx hb dX0_mostFrom_73 (by decide) ?_
            exact ih33 _ _ _ _ _ h ls (lv_sub hl [1, 2, 3, 4, 5, 0] rfl)
          · have h := h.2 c9
            refine lv_iload_n hx hb dX0_mostFrom_50 rfl (lv_at hl 3 rfl) ?_
            refine lv_iconst (v := (1 : Int32)) hx hb dX0_mostFrom_51 (by decide) ?_
            refine lv_aload_n hx hb dX0_mostFrom_52 rfl (lv_at hl 0 rfl) ?_
            refine lv_iload_n hx hb dX0_mostFrom_53 rfl (lv_at hl 1 rfl) ?_
            refine lv_iconst (v := (1 : Int32)) hx hb dX0_mostFrom_54 (by decide) ?_
            refine lv_iadd hx hb dX0_mostFrom_55 ?_
            refine lv_iload_n hx hb dX0_mostFrom_56 rfl (lv_at hl 2 rfl) ?_
            refine lv_iconst (v := (1 : Int32)) hx hb dX0_mostFrom_57 (by decide) ?_
            refine lv_iload hx hb dX0_mostFrom_58 (lv_at hl 5 rfl) ?_
            refine lv_ishl hx hb dX0_mostFrom_60 ?_
            refine lv_ior hx hb dX0_mostFrom_61 ?_
            refine rS_i ⟨hx, hb, hml, hown, hts⟩ (ihd _ _ _ _ _ _ h) (va_cwS 3 hts gX0_mostFrom_X0_mostFrom rfl rfl rfl (by decide +kernel) ⟨(show (d + 2) + 1 ≤ (d + 1) + 2 by omega), (show 8 + (6 + 11) + (30 * d + 60) ≤ 30 * (d + 1) + 60 by omega)⟩) hK hP hN rfl hl.1 (rest := [.int (1 : Int32), .int x3]) rfl (Nat.le_of_ble_eq_true rfl) dX0_mostFrom_62 (Nat.zero_le _) (Nat.zero_le _) (fun r2 h => ?_)
            refine lv_iadd hx hb dX0_mostFrom_65 ?_
            refine va_mmax (R := (headSpec wsX0_mostFrom (rmX0_mostFrom (d + 1))).room) (rest := []) hx hb (hml.trans hl.1.symm) hown (hts (.methodLink RX0 34 Lib.Math.max.name) (by decide +kernel)) (hts (.static Lib.Math.max.name) (by decide +kernel)) (hts (.initialized "java/lang/Math") (by decide +kernel)) (hts (.code Lib.Math.max.name Lib.Math.max.code 2 (some .int)) (by decide +kernel)) (show 1 ≤ (d + 1) + 2 by omega) (show 0 + 13 ≤ 30 * (d + 1) + 60 by omega) (Nat.zero_le _) (Nat.zero_le _) dX0_mostFrom_66 ?_
            refine lv_istore_n (lv' := [(3, .int (if x3 < ((1 : Int32) + r2) then (1 : Int32) + r2 else x3)), (0, .ref (q 31)), (1, .int x1), (2, .int x2), (4, .int x4), (5, .int x5)]) hx hb dX0_mostFrom_69 rfl hl (by decide) rfl (fun ls hl => ?_)
            refine lv_iinc (v := x5 + 1) (lv' := [(5, .int (x5 + 1)), (3, .int (if x3 < ((1 : Int32) + r2) then (1 : Int32) + r2 else x3)), (0, .ref (q 31)), (1, .int x1), (2, .int x2), (4, .int x4)]) hx hb dX0_mostFrom_70 hl (k := 5) rfl rfl (by decide) rfl (fun ls hl => ?_)
            refine lv_goto (tgt := 33) hx hb dX0_mostFrom_73 (by decide) ?_
            exact ih33 _ _ _ _ _ h ls (lv_sub hl [2, 3, 4, 1, 5, 0] rfl)
    refine lv_iload_n hx hb dX0_mostFrom_0 rfl (lv_at hl 1 rfl) ?_
    refine lv_if_lt (tgt := 10) hx hb dX0_mostFrom_1 (by decide) (fun c9 => ?_) (fun c9 => ?_)
    · have h := h.1 c9
      refine lv_iconst (v := (0 : Int32)) hx hb dX0_mostFrom_10 (by decide) ?_
      exact ri_ret hx hb hr hlocks h dX0_mostFrom_11
    · have h := h.2 c9
      refine lv_iload_n hx hb dX0_mostFrom_4 rfl (lv_at hl 1 rfl) ?_
      refine lv_aload_n hx hb dX0_mostFrom_5 rfl (lv_at hl 0 rfl) ?_
      refine xln_23 hx hb hK hP dX0_mostFrom_6 ?_
      refine lv_icmp_lt (tgt := 12) hx hb dX0_mostFrom_7 (by decide) (fun c9 => ?_) (fun c9 => ?_)
      · have h := h.1 c9
        refine lv_aload_n hx hb dX0_mostFrom_12 rfl (lv_at hl 0 rfl) ?_
        refine lv_iload_n hx hb dX0_mostFrom_13 rfl (lv_at hl 1 rfl) ?_
        refine lv_iconst (v := (1 : Int32)) hx hb dX0_mostFrom_14 (by decide) ?_
        refine lv_iadd hx hb dX0_mostFrom_15 ?_
        refine lv_iload_n hx hb dX0_mostFrom_16 rfl (lv_at hl 2 rfl) ?_
        refine rS_i ⟨hx, hb, hml, hown, hts⟩ (ihd _ _ _ _ _ _ h) (va_cwS 3 hts gX0_mostFrom_X0_mostFrom rfl rfl rfl (by decide +kernel) ⟨(show (d + 2) + 1 ≤ (d + 1) + 2 by omega), (show 8 + (6 + 11) + (30 * d + 60) ≤ 30 * (d + 1) + 60 by omega)⟩) hK hP hN rfl hl.1 (rest := []) rfl (Nat.le_of_ble_eq_true rfl) dX0_mostFrom_17 (Nat.zero_le _) (Nat.zero_le _) (fun r3 h => ?_)
        refine lv_istore_n (lv' := [(3, .int r3), (0, .ref (q 31)), (1, .int a1), (2, .int a2)]) hx hb dX0_mostFrom_20 rfl hl (by decide) rfl (fun ls hl => ?_)
        refine lv_aload_n hx hb dX0_mostFrom_21 rfl (lv_at hl 1 rfl) ?_
        refine lv_iload_n hx hb dX0_mostFrom_22 rfl (lv_at hl 2 rfl) ?_
        obtain ⟨h9, h⟩ := h
        refine xal_23 (x := f 23 (a1).toNatClampNeg) hx hb hK hP h9 rfl dX0_mostFrom_23 ?_
        refine lv_iload_n hx hb dX0_mostFrom_24 rfl (lv_at hl 3 rfl) ?_
        refine lv_iconst (v := (-1 : Int32)) hx hb dX0_mostFrom_25 (by decide) ?_
        refine lv_ixor hx hb dX0_mostFrom_26 ?_
        refine lv_iand hx hb dX0_mostFrom_27 ?_
        refine lv_istore (lv' := [(4, .int ((f 23 (a1).toNatClampNeg) &&& (a2 ^^^ (-1 : Int32)))), (3, .int r3), (0, .ref (q 31)), (1, .int a1), (2, .int a2)]) hx hb dX0_mostFrom_28 hl (by decide) rfl (fun ls hl => ?_)
        refine lv_iconst (v := (0 : Int32)) hx hb dX0_mostFrom_30 (by decide) ?_
        refine lv_istore (lv' := [(5, .int (0 : Int32)), (4, .int ((f 23 (a1).toNatClampNeg) &&& (a2 ^^^ (-1 : Int32)))), (3, .int r3), (0, .ref (q 31)), (1, .int a1), (2, .int a2)]) hx hb dX0_mostFrom_31 hl (by decide) rfl (fun ls hl => ?_)
        obtain ⟨n9, h⟩ := h
        exact B33 n9 _ _ _ _ _ h ls (lv_sub hl [3, 4, 5, 2, 1, 0] rfl)
      · have h := h.2 c9
        refine lv_iconst (v := (0 : Int32)) hx hb dX0_mostFrom_10 (by decide) ?_
        exact ri_ret hx hb hr hlocks h dX0_mostFrom_11
def wp_X0_firstBestPick_B42 (post : Int32 → Prop) (v : Nat → Int32) (f : Nat → Nat → Int32) (z : Int64) : Nat → Int32 → Int32 → Int32 → Int32 → Int32 → Prop
  | 0, _, _, _, _, _ => False
  | n42 + 1, x1, x2, x3, x4, x5 => (((8 : Int32) ≤ x5 → post (-1 : Int32)) ∧ (¬ (8 : Int32) ≤ x5 → (wp_X6_has (fun r1 => ((r1 = 0 → wp_X0_firstBestPick_B42 post v f z n42 x1 x2 x3 x4 (x5 + 1)) ∧ (¬ r1 = 0 → (wp_X0_mostFrom 6 (fun r2 => ((((1 : Int32) + r2) = x3 → post x5) ∧ (¬ ((1 : Int32) + r2) = x3 → wp_X0_firstBestPick_B42 post v f z n42 x1 x2 x3 x4 (x5 + 1)))) v f z (x1 + (1 : Int32)) (x2 ||| ((1 : Int32) <<< (x5 &&& 31))))))) x4 x5)))
def wp_X0_firstBestPick (post : Int32 → Prop) (v : Nat → Int32) (f : Nat → Nat → Int32) (z : Int64) (a0 : Int32) (a1 : Int32) : Prop := (wp_X0_mostFrom 6 (fun r3 => (wp_X0_mostFrom 6 (fun r4 => ((r4 = r3 → post (-1 : Int32)) ∧ (¬ r4 = r3 → (vp_in a0 4 ∧ (∃ j9 : Nat, wp_X0_firstBestPick_B42 post v f z j9 a0 a1 r3 ((f 23 (a0).toNatClampNeg) &&& (a1 ^^^ (-1 : Int32))) (0 : Int32)))))) v f z (a0 + (1 : Int32)) a1)) v f z a0 a1)
def rmX0_firstBestPick : Room := { frames := 9, cells := 0, slots := 0, locals := 325 }
set_option maxHeartbeats 4000000 in
set_option maxRecDepth 100000 in
theorem c_X0_firstBestPick (l : Launch) (D : va_G) (cI : ClassId) (q : Nat → Nat) (post : Int32 → Prop) (v : Nat → Int32) (f : Nat → Nat → Int32) (z : Int64) (a0 : Int32) (a1 : Int32) (h : wp_X0_firstBestPick post v f z a0 a1) : Met l yX0_firstBestPick wsX0_firstBestPick rmX0_firstBestPick (va_Pc [.ref (q 30), .int a0, .int a1] (rP D cI (wX cI q v f z))) (sQ post) 0 0 (fun _ => False) := by
  refine Met.ofW (cc := cX0_firstBestPick) (maxL := 6) (ret := (some .int)) (by decide) rfl ?_
  intro p e s m args below meth c s₁ B hml hv
  obtain ⟨rfl, hP, hK, hN⟩ := hv
  have hx := B.exec
  have hb := B.bytes
  have hr := B.returns
  have hts := atoms_spec (ws := wsX0_firstBestPick) B.pre
  have hown : s.vm.findClass RX0 = some m.cls := findClass_of_methodNamed B.named
  have hlocks : meth.locks = false := B.notSynchronized
  have iX0 : ∀ w ∈ wsX00, w ∈ wsX0_firstBestPick := fun _ h9 => List.mem_cons_of_mem _ (List.mem_append_right _ h9)
  have k9 := hts (.fieldLink RX0 9 "EndedByOthers$Matching" "pleasing" "[I") (by decide +kernel)
  have hl := lv_entry ([.ref (q 30), .int a0, .int a1]) (n := 6) (Nat.le_of_ble_eq_true rfl)
  rw [lg_entry_eq]
  generalize (lg_sl ([.ref (q 30), .int a0, .int a1]) ++ List.replicate (6 - (lg_sl ([.ref (q 30), .int a0, .int a1])).length) Slot.unset).toArray = ls at hl ⊢
  have hl : lv_has ls 6 [(0, .ref (q 30)), (1, .int a0), (2, .int a1)] := hl
  unfold wp_X0_firstBestPick at h
  have B42 : ∀ (n42 : Nat) (x1 : Int32) (x2 : Int32) (x3 : Int32) (x4 : Int32) (x5 : Int32), wp_X0_firstBestPick_B42 post v f z n42 x1 x2 x3 x4 x5 → ∀ (ls : Array Slot), lv_has ls 6 [(0, .ref (q 30)), (1, .int x1), (2, .int x2), (3, .int x3), (4, .int x4), (5, .int x5)] → W p l e (headSpec wsX0_firstBestPick rmX0_firstBestPick).room s m ([.ref (q 30), .int a0, .int a1] : List Value).toArray below meth c s.heap [] 0 0 (MQ below (sQ post) ([.ref (q 30), .int a0, .int a1] : List Value).toArray s 0 0 (fun _ => False)) (F0 m 42 ls []) := by
    intro n42
    induction n42 with
    | zero =>
      intro x1 x2 x3 x4 x5 h
      exact False.elim h
    | succ n42 ih42 =>
      intro x1 x2 x3 x4 x5 h ls hl
      rw [wp_X0_firstBestPick_B42] at h
      refine lv_iload hx hb dX0_firstBestPick_42 (lv_at hl 5 rfl) ?_
      refine lv_bipush (v := (8 : Int32)) hx hb dX0_firstBestPick_44 (by decide) ?_
      refine lv_icmp_ge (tgt := 90) hx hb dX0_firstBestPick_46 (by decide) (fun c9 => ?_) (fun c9 => ?_)
      · have h := h.1 c9
        refine lv_iconst (v := (-1 : Int32)) hx hb dX0_firstBestPick_90 (by decide) ?_
        exact ri_ret hx hb hr hlocks h dX0_firstBestPick_91
      · have h := h.2 c9
        refine lv_iload hx hb dX0_firstBestPick_49 (lv_at hl 4 rfl) ?_
        refine lv_iload hx hb dX0_firstBestPick_51 (lv_at hl 5 rfl) ?_
        refine rN_i ⟨hx, hb, hml, hown, hts⟩ (c_X6_has l D cI _ _ _ h) ⟨va_cnB 2 hts gX0_firstBestPick_X6_has_n30 rfl rfl rfl hN.2.2.2.1 (hts (.initialized RX6) (by decide +kernel)) (by decide +kernel) ⟨Nat.le_of_ble_eq_true rfl, Nat.le_of_ble_eq_true rfl⟩, hts (.static yX6_has) (by decide +kernel), trivial⟩ hK wPnil hN rfl hl.1 (rest := []) rfl (Nat.le_of_ble_eq_true rfl) dX0_firstBestPick_53 (Nat.zero_le _) (Nat.zero_le _) (fun r1 h => ?_)
        refine lv_if_eq (tgt := 84) hx hb dX0_firstBestPick_56 (by decide) (fun c9 => ?_) (fun c9 => ?_)
        · have h := h.1 c9
          refine lv_iinc (v := x5 + 1) (lv' := [(5, .int (x5 + 1)), (0, .ref (q 30)), (1, .int x1), (2, .int x2), (3, .int x3), (4, .int x4)]) hx hb dX0_firstBestPick_84 hl (k := 5) rfl rfl (by decide) rfl (fun ls hl => ?_)
          refine lv_goto (tgt := 42) hx hb dX0_firstBestPick_87 (by decide) ?_
          exact ih42 _ _ _ _ _ h ls (lv_sub hl [1, 2, 3, 4, 5, 0] rfl)
        · have h := h.2 c9
          refine lv_iconst (v := (1 : Int32)) hx hb dX0_firstBestPick_59 (by decide) ?_
          refine lv_aload_n hx hb dX0_firstBestPick_60 rfl (lv_at hl 0 rfl) ?_
          refine xg_r30_31 hx hb hts iX0 hown hK hP k9 dX0_firstBestPick_61 ?_
          refine lv_iload_n hx hb dX0_firstBestPick_64 rfl (lv_at hl 1 rfl) ?_
          refine lv_iconst (v := (1 : Int32)) hx hb dX0_firstBestPick_65 (by decide) ?_
          refine lv_iadd hx hb dX0_firstBestPick_66 ?_
          refine lv_iload_n hx hb dX0_firstBestPick_67 rfl (lv_at hl 2 rfl) ?_
          refine lv_iconst (v := (1 : Int32)) hx hb dX0_firstBestPick_68 (by decide) ?_
          refine lv_iload hx hb dX0_firstBestPick_69 (lv_at hl 5 rfl) ?_
          refine lv_ishl hx hb dX0_firstBestPick_71 ?_
          refine lv_ior hx hb dX0_firstBestPick_72 ?_
          refine rS_i ⟨hx, hb, hml, hown, hts⟩ (c_X0_mostFrom l D cI q 6 _ _ _ _ _ _ h) (va_cwS 3 hts gX0_firstBestPick_X0_mostFrom rfl rfl rfl (by decide +kernel) ⟨Nat.le_of_ble_eq_true rfl, Nat.le_of_ble_eq_true rfl⟩) hK hP hN rfl hl.1 (rest := [.int (1 : Int32)]) rfl (Nat.le_of_ble_eq_true rfl) dX0_firstBestPick_73 (Nat.zero_le _) (Nat.zero_le _) (fun r2 h => ?_)
          refine lv_iadd hx hb dX0_firstBestPick_76 ?_
          refine lv_iload_n hx hb dX0_firstBestPick_77 rfl (lv_at hl 3 rfl) ?_
          refine lv_icmp_ne (tgt := 84) hx hb dX0_firstBestPick_78 (by decide) (fun c9 => ?_) (fun c9 => ?_)
          · have h := h.2 c9
            refine lv_iinc (v := x5 + 1) (lv' := [(5, .int (x5 + 1)), (0, .ref (q 30)), (1, .int x1), (2, .int x2), (3, .int x3), (4, .int x4)]) hx hb dX0_firstBestPick_84 hl (k := 5) rfl rfl (by decide) rfl (fun ls hl => ?_)
            refine lv_goto (tgt := 42) hx hb dX0_firstBestPick_87 (by decide) ?_
            exact ih42 _ _ _ _ _ h ls (lv_sub hl [1, 2, 3, 4, 5, 0] rfl)
          · have h := h.1 c9
            refine lv_iload hx hb dX0_firstBestPick_81 (lv_at hl 5 rfl) ?_
            exact ri_ret hx hb hr hlocks h dX0_firstBestPick_83
  refine lv_aload_n hx hb dX0_firstBestPick_0 rfl (lv_at hl 0 rfl) ?_
  refine xg_r30_31 hx hb hts iX0 hown hK hP k9 dX0_firstBestPick_1 ?_
  refine lv_iload_n hx hb dX0_firstBestPick_4 rfl (lv_at hl 1 rfl) ?_
  refine lv_iload_n hx hb dX0_firstBestPick_5 rfl (lv_at hl 2 rfl) ?_
  refine rS_i ⟨hx, hb, hml, hown, hts⟩ (c_X0_mostFrom l D cI q 6 _ _ _ _ _ _ h) (va_cwS 3 hts gX0_firstBestPick_X0_mostFrom rfl rfl rfl (by decide +kernel) ⟨Nat.le_of_ble_eq_true rfl, Nat.le_of_ble_eq_true rfl⟩) hK hP hN rfl hl.1 (rest := []) rfl (Nat.le_of_ble_eq_true rfl) dX0_firstBestPick_6 (Nat.zero_le _) (Nat.zero_le _) (fun r3 h => ?_)
  refine lv_istore_n (lv' := [(3, .int r3), (0, .ref (q 30)), (1, .int a0), (2, .int a1)]) hx hb dX0_firstBestPick_9 rfl hl (by decide) rfl (fun ls hl => ?_)
  refine lv_aload_n hx hb dX0_firstBestPick_10 rfl (lv_at hl 1 rfl) ?_
  refine xg_r30_31 hx hb hts iX0 hown hK hP k9 dX0_firstBestPick_11 ?_
  refine lv_iload_n hx hb dX0_firstBestPick_14 rfl (lv_at hl 2 rfl) ?_
  refine lv_iconst (v := (1 : Int32)) hx hb dX0_firstBestPick_15 (by decide) ?_
  refine lv_iadd hx hb dX0_firstBestPick_16 ?_
  refine lv_iload_n hx hb dX0_firstBestPick_17 rfl (lv_at hl 3 rfl) ?_
  refine rS_i ⟨hx, hb, hml, hown, hts⟩ (c_X0_mostFrom l D cI q 6 _ _ _ _ _ _ h) (va_cwS 3 hts gX0_firstBestPick_X0_mostFrom rfl rfl rfl (by decide +kernel) ⟨Nat.le_of_ble_eq_true rfl, Nat.le_of_ble_eq_true rfl⟩) hK hP hN rfl hl.1 (rest := []) rfl (Nat.le_of_ble_eq_true rfl) dX0_firstBestPick_18 (Nat.zero_le _) (Nat.zero_le _) (fun r4 h => ?_)
  refine lv_iload_n hx hb dX0_firstBestPick_21 rfl (lv_at hl 0 rfl) ?_
  refine lv_icmp_ne (tgt := 27) hx hb dX0_firstBestPick_22 (by decide) (fun c9 => ?_) (fun c9 => ?_)
  · have h := h.2 c9
    refine lv_aload_n hx hb dX0_firstBestPick_27 rfl (lv_at hl 1 rfl) ?_
    refine xg_r30_31 hx hb hts iX0 hown hK hP k9 dX0_firstBestPick_28 ?_
    refine lv_iload_n hx hb dX0_firstBestPick_31 rfl (lv_at hl 2 rfl) ?_
    obtain ⟨h9, h⟩ := h
    refine xal_23 (x := f 23 (a0).toNatClampNeg) hx hb hK hP h9 rfl dX0_firstBestPick_32 ?_
    refine lv_iload_n hx hb dX0_firstBestPick_33 rfl (lv_at hl 3 rfl) ?_
    refine lv_iconst (v := (-1 : Int32)) hx hb dX0_firstBestPick_34 (by decide) ?_
    refine lv_ixor hx hb dX0_firstBestPick_35 ?_
    refine lv_iand hx hb dX0_firstBestPick_36 ?_
    refine lv_istore (lv' := [(4, .int ((f 23 (a0).toNatClampNeg) &&& (a1 ^^^ (-1 : Int32)))), (3, .int r3), (0, .ref (q 30)), (1, .int a0), (2, .int a1)]) hx hb dX0_firstBestPick_37 hl (by decide) rfl (fun ls hl => ?_)
    refine lv_iconst (v := (0 : Int32)) hx hb dX0_firstBestPick_39 (by decide) ?_
    refine lv_istore (lv' := [(5, .int (0 : Int32)), (4, .int ((f 23 (a0).toNatClampNeg) &&& (a1 ^^^ (-1 : Int32)))), (3, .int r3), (0, .ref (q 30)), (1, .int a0), (2, .int a1)]) hx hb dX0_firstBestPick_40 hl (by decide) rfl (fun ls hl => ?_)
    obtain ⟨n9, h⟩ := h
    exact B42 n9 _ _ _ _ _ h ls (lv_sub hl [3, 4, 5, 2, 1, 0] rfl)
  · have h := h.1 c9
    refine lv_iconst (v := (-1 : Int32)) hx hb dX0_firstBestPick_25 (by decide) ?_
    exact ri_ret hx hb hr hlocks h dX0_firstBestPick_26
def wp_X0_solve_B17 (post : (Nat → Int32) → (Nat → Nat → Int32) → Int64 → Prop) : Nat → (Nat → Int32) → (Nat → Nat → Int32) → Int64 → Int32 → Int32 → Prop
  | 0, _, _, _, _, _ => False
  | n17 + 1, v, f, z, x1, x2 => (((4 : Int32) ≤ x2 → post v f z) ∧ (¬ (4 : Int32) ≤ x2 → (wp_X0_firstBestPick (fun r1 => (vp_in x2 4 ∧ (vp_in x2 4 ∧ ((((upd (f 24) (x2).toNatClampNeg r1) (x2).toNatClampNeg) = (-1 : Int32) → wp_X0_solve_B17 post n17 v (va_up f 24 (upd (f 24) (x2).toNatClampNeg r1)) z x1 (x2 + 1)) ∧ (¬ ((upd (f 24) (x2).toNatClampNeg r1) (x2).toNatClampNeg) = (-1 : Int32) → (vp_in x2 4 ∧ wp_X0_solve_B17 post n17 v (va_up f 24 (upd (f 24) (x2).toNatClampNeg r1)) z (x1 ||| ((1 : Int32) <<< (((upd (f 24) (x2).toNatClampNeg r1) (x2).toNatClampNeg) &&& 31))) (x2 + 1))))))) v f z x2 x1)))
def wp_X0_solve (post : (Nat → Int32) → (Nat → Nat → Int32) → Int64 → Prop) (v : Nat → Int32) (f : Nat → Nat → Int32) (z : Int64) : Prop := (wp_X0_mostFrom 6 (fun r2 => (∃ j9 : Nat, wp_X0_solve_B17 post j9 (upd v 14 r2) f z (0 : Int32) (0 : Int32))) v f z (0 : Int32) (0 : Int32))
def rmX0_solve : Room := { frames := 10, cells := 0, slots := 0, locals := 350 }
set_option maxHeartbeats 4000000 in
set_option maxRecDepth 100000 in
theorem c_X0_solve (l : Launch) (D : va_G) (cI : ClassId) (q : Nat → Nat) (sz : Nat) (post : (Nat → Int32) → (Nat → Nat → Int32) → Int64 → Prop) (v : Nat → Int32) (f : Nat → Nat → Int32) (z : Int64) (h : wp_X0_solve post v f z) : Met l yX0_solve wsX0_solve rmX0_solve (va_Pc [.ref (q 30)] (mP D cI (wX cI q v f z) sz)) (mQv post D cI (wX cI q) (va_A (wX cI q v f z) sz)) 0 0 (va_A (wX cI q v f z) sz) := by
  refine Met.ofW (cc := cX0_solve) (maxL := 3) (ret := none) (by decide) rfl ?_
  intro p e s m args below meth c s₁ B hml hv
  obtain ⟨rfl, hsz, ⟨hP, hK, hN⟩, hD0⟩ := hv
  have hx := B.exec
  have hb := B.bytes
  have hr := B.returns
  have hts := atoms_spec (ws := wsX0_solve) B.pre
  have hown : s.vm.findClass RX0 = some m.cls := findClass_of_methodNamed B.named
  have hlocks : meth.locks = false := B.notSynchronized
  subst hsz
  have hD := hD0.self (sz := s.heap.size)
  generalize hAe : va_A (wX cI q v f z) s.heap.size = A at hD ⊢
  have hA : ∀ q : Nat, s.heap.size ≤ q → A q := fun q h => by rw [← hAe]; exact Or.inr h
  have hS : va_S A s.heap s.heap [] := va_S.rf
  have iX0 : ∀ w ∈ wsX00, w ∈ wsX0_solve := fun _ h9 => List.mem_cons_of_mem _ (List.mem_append_right _ h9)
  have k15 := hts (.fieldLink RX0 15 "EndedByOthers$Matching" "picks" "[I") (by decide +kernel)
  have k18 := hts (.fieldLink RX0 18 "EndedByOthers$Matching" "ended" "I") (by decide +kernel)
  have k9 := hts (.fieldLink RX0 9 "EndedByOthers$Matching" "pleasing" "[I") (by decide +kernel)
  have hl := lv_entry ([.ref (q 30)]) (n := 3) (Nat.le_of_ble_eq_true rfl)
  rw [lg_entry_eq]
  generalize (lg_sl ([.ref (q 30)]) ++ List.replicate (3 - (lg_sl ([.ref (q 30)])).length) Slot.unset).toArray = ls at hl ⊢
  have hl : lv_has ls 3 [(0, .ref (q 30))] := hl
  unfold wp_X0_solve at h
  have B17 : ∀ (n17 : Nat) (v : Nat → Int32) (f : Nat → Nat → Int32) (z : Int64) (x1 : Int32) (x2 : Int32), wp_X0_solve_B17 post n17 v f z x1 x2 → ∀ (H : Heap) (locs : List Loc), va_P D vwCl (wX cI q v f z) H → va_D A (wX cI q v f z) → va_S A s.heap H locs → ∀ (ls : Array Slot), lv_has ls 3 [(0, .ref (q 30)), (1, .int x1), (2, .int x2)] → W p l e (headSpec wsX0_solve rmX0_solve).room s m ([.ref (q 30)] : List Value).toArray below meth c H locs 0 0 (MQ below (mQv post D cI (wX cI q) A) ([.ref (q 30)] : List Value).toArray s 0 0 A) (F0 m 17 ls []) := by
    intro n17
    induction n17 with
    | zero =>
      intro v f z x1 x2 h
      exact False.elim h
    | succ n17 ih17 =>
      intro v f z x1 x2 h H locs hP hD hS ls hl
      rw [wp_X0_solve_B17] at h
      refine lv_iload_n hx hb dX0_solve_17 rfl (lv_at hl 2 rfl) ?_
      refine lv_iconst (v := (4 : Int32)) hx hb dX0_solve_18 (by decide) ?_
      refine lv_icmp_ge (tgt := 61) hx hb dX0_solve_19 (by decide) (fun c9 => ?_) (fun c9 => ?_)
      · have h := h.1 c9
        exact mv_ret (v, f, z) hx hb hr hlocks h hK hP hD hS dX0_solve_61
      · have h := h.2 c9
        refine lv_aload_n hx hb dX0_solve_22 rfl (lv_at hl 0 rfl) ?_
        refine xg_r30_32 hx hb hts iX0 hown hK hP k15 dX0_solve_23 ?_
        refine lv_iload_n hx hb dX0_solve_26 rfl (lv_at hl 2 rfl) ?_
        refine lv_aload_n hx hb dX0_solve_27 rfl (lv_at hl 0 rfl) ?_
        refine lv_iload_n hx hb dX0_solve_28 rfl (lv_at hl 2 rfl) ?_
        refine lv_iload_n hx hb dX0_solve_29 rfl (lv_at hl 1 rfl) ?_
        refine rV_i ⟨hx, hb, hml, hown, hts⟩ (c_X0_firstBestPick l D cI q _ _ _ _ _ _ h) (cwV 2 hts gX0_solve_X0_firstBestPick rfl rfl rfl (by decide +kernel) ⟨Nat.le_of_ble_eq_true rfl, Nat.le_of_ble_eq_true rfl⟩) hK hP hN (va_recv hK hP (ci := 0) (q0 := 30) rfl rfl) rfl hl.1 (rest := [.int x2, .ref (q 32)]) rfl (Nat.le_of_ble_eq_true rfl) dX0_solve_30 (Nat.zero_le _) (Nat.zero_le _) (fun r1 h => ?_)
        obtain ⟨h9, h⟩ := h
        refine xas_24 hx hb hK hP hD hS h9 dX0_solve_33 (fun H locs hP hD hS => ?_)
        have hP : va_P D vwCl (wX cI q v (va_up f 24 (upd (f 24) (x2).toNatClampNeg r1)) z) H := hP
        have hD : va_D A (wX cI q v (va_up f 24 (upd (f 24) (x2).toNatClampNeg r1)) z) := hD
        refine lv_aload_n hx hb dX0_solve_34 rfl (lv_at hl 0 rfl) ?_
        refine xg_r30_32 hx hb hts iX0 hown hK hP k15 dX0_solve_35 ?_
        refine lv_iload_n hx hb dX0_solve_38 rfl (lv_at hl 2 rfl) ?_
        obtain ⟨h9, h⟩ := h
        refine xal_24 (x := (upd (f 24) (x2).toNatClampNeg r1) (x2).toNatClampNeg) hx hb hK hP h9 rfl dX0_solve_39 ?_
        refine lv_iconst (v := (-1 : Int32)) hx hb dX0_solve_40 (by decide) ?_
        refine lv_icmp_eq (tgt := 55) hx hb dX0_solve_41 (by decide) (fun c9 => ?_) (fun c9 => ?_)
        · have h := h.1 c9
          refine lv_iinc (v := x2 + 1) (lv' := [(2, .int (x2 + 1)), (0, .ref (q 30)), (1, .int x1)]) hx hb dX0_solve_55 hl (k := 2) rfl rfl (by decide) rfl (fun ls hl => ?_)
          refine lv_goto (tgt := 17) hx hb dX0_solve_58 (by decide) ?_
          exact ih17 _ _ _ _ _ h _ _ hP hD hS ls (lv_sub hl [1, 2, 0] rfl)
        · have h := h.2 c9
          refine lv_iload_n hx hb dX0_solve_44 rfl (lv_at hl 1 rfl) ?_
          refine lv_iconst (v := (1 : Int32)) hx hb dX0_solve_45 (by decide) ?_
          refine lv_aload_n hx hb dX0_solve_46 rfl (lv_at hl 0 rfl) ?_
          refine xg_r30_32 hx hb hts iX0 hown hK hP k15 dX0_solve_47 ?_
          refine lv_iload_n hx hb dX0_solve_50 rfl (lv_at hl 2 rfl) ?_
          obtain ⟨h9, h⟩ := h
          refine xal_24 (x := (upd (f 24) (x2).toNatClampNeg r1) (x2).toNatClampNeg) hx hb hK hP h9 rfl dX0_solve_51 ?_
          refine lv_ishl hx hb dX0_solve_52 ?_
          refine lv_ior hx hb dX0_solve_53 ?_
          refine lv_istore_n (lv' := [(1, .int (x1 ||| ((1 : Int32) <<< (((upd (f 24) (x2).toNatClampNeg r1) (x2).toNatClampNeg) &&& 31)))), (0, .ref (q 30)), (2, .int x2)]) hx hb dX0_solve_54 rfl hl (by decide) rfl (fun ls hl => ?_)
          refine lv_iinc (v := x2 + 1) (lv' := [(2, .int (x2 + 1)), (1, .int (x1 ||| ((1 : Int32) <<< (((upd (f 24) (x2).toNatClampNeg r1) (x2).toNatClampNeg) &&& 31)))), (0, .ref (q 30))]) hx hb dX0_solve_55 hl (k := 2) rfl rfl (by decide) rfl (fun ls hl => ?_)
          refine lv_goto (tgt := 17) hx hb dX0_solve_58 (by decide) ?_
          exact ih17 _ _ _ _ _ h _ _ hP hD hS ls (lv_sub hl [2, 1, 0] rfl)
  refine lv_aload_n hx hb dX0_solve_0 rfl (lv_at hl 0 rfl) ?_
  refine lv_aload_n hx hb dX0_solve_1 rfl (lv_at hl 0 rfl) ?_
  refine xg_r30_31 hx hb hts iX0 hown hK hP k9 dX0_solve_2 ?_
  refine lv_iconst (v := (0 : Int32)) hx hb dX0_solve_5 (by decide) ?_
  refine lv_iconst (v := (0 : Int32)) hx hb dX0_solve_6 (by decide) ?_
  refine rS_i ⟨hx, hb, hml, hown, hts⟩ (c_X0_mostFrom l D cI q 6 _ _ _ _ _ _ h) (va_cwS 3 hts gX0_solve_X0_mostFrom rfl rfl rfl (by decide +kernel) ⟨Nat.le_of_ble_eq_true rfl, Nat.le_of_ble_eq_true rfl⟩) hK hP hN rfl hl.1 (rest := [.ref (q 30)]) rfl (Nat.le_of_ble_eq_true rfl) dX0_solve_7 (Nat.zero_le _) (Nat.zero_le _) (fun r2 h => ?_)
  refine xp_s14 hx hb hts iX0 hown hK hP hD hS k18 dX0_solve_10 (fun H locs hP hD hS => ?_)
  refine lv_iconst (v := (0 : Int32)) hx hb dX0_solve_13 (by decide) ?_
  refine lv_istore_n (lv' := [(1, .int (0 : Int32)), (0, .ref (q 30))]) hx hb dX0_solve_14 rfl hl (by decide) rfl (fun ls hl => ?_)
  refine lv_iconst (v := (0 : Int32)) hx hb dX0_solve_15 (by decide) ?_
  refine lv_istore_n (lv' := [(2, .int (0 : Int32)), (1, .int (0 : Int32)), (0, .ref (q 30))]) hx hb dX0_solve_16 rfl hl (by decide) rfl (fun ls hl => ?_)
  obtain ⟨n9, h⟩ := h
  exact B17 n9 _ _ _ _ _ h _ _ hP hD hS ls (lv_sub hl [2, 1, 0] rfl)
def wp_X5_draw (post : Int32 → (Nat → Int32) → (Nat → Nat → Int32) → Int64 → Prop) (v : Nat → Int32) (f : Nat → Nat → Int32) (z : Int64) (a0 : Int32) : Prop := (((1 : Int32) ≤ a0 → (¬ ((a0).toInt64) = 0 ∧ post (((((((1103515245 : Int64) * z) + (12345 : Int64)) - (((1103515245 : Int64) * z) + (12345 : Int64)) / (2147483648 : Int64) * (2147483648 : Int64)) / (65536 : Int64)) - (((((1103515245 : Int64) * z) + (12345 : Int64)) - (((1103515245 : Int64) * z) + (12345 : Int64)) / (2147483648 : Int64) * (2147483648 : Int64)) / (65536 : Int64)) / ((a0).toInt64) * ((a0).toInt64)).toInt32) v f ((((1103515245 : Int64) * z) + (12345 : Int64)) - (((1103515245 : Int64) * z) + (12345 : Int64)) / (2147483648 : Int64) * (2147483648 : Int64)))) ∧ (¬ (1 : Int32) ≤ a0 → post (0 : Int32) v f ((((1103515245 : Int64) * z) + (12345 : Int64)) - (((1103515245 : Int64) * z) + (12345 : Int64)) / (2147483648 : Int64) * (2147483648 : Int64))))
def rmX5_draw : Room := { frames := 0, cells := 0, slots := 0, locals := 0 }
set_option maxHeartbeats 4000000 in
set_option maxRecDepth 100000 in
theorem c_X5_draw (l : Launch) (D : va_G) (cI : ClassId) (q : Nat → Nat) (sz : Nat) (post : Int32 → (Nat → Int32) → (Nat → Nat → Int32) → Int64 → Prop) (v : Nat → Int32) (f : Nat → Nat → Int32) (z : Int64) (a0 : Int32) (h : wp_X5_draw post v f z a0) : Met l yX5_draw wsX5_draw rmX5_draw (va_Pc [.ref (q 33), .int a0] (mP D cI (wX cI q v f z) sz)) (mQi post D cI (wX cI q) (va_A (wX cI q v f z) sz)) 0 0 (va_A (wX cI q v f z) sz) := by
  refine Met.ofW (cc := cX5_draw) (maxL := 2) (ret := (some .int)) (by decide) rfl ?_
  intro p e s m args below meth c s₁ B hml hv
  obtain ⟨rfl, hsz, ⟨hP, hK, hN⟩, hD0⟩ := hv
  have hx := B.exec
  have hb := B.bytes
  have hr := B.returns
  have hts := atoms_spec (ws := wsX5_draw) B.pre
  have hown : s.vm.findClass RX5 = some m.cls := findClass_of_methodNamed B.named
  have hlocks : meth.locks = false := B.notSynchronized
  subst hsz
  have hD := hD0.self (sz := s.heap.size)
  generalize hAe : va_A (wX cI q v f z) s.heap.size = A at hD ⊢
  have hA : ∀ q : Nat, s.heap.size ≤ q → A q := fun q h => by rw [← hAe]; exact Or.inr h
  have hS : va_S A s.heap s.heap [] := va_S.rf
  have iX5 : ∀ w ∈ wsX50, w ∈ wsX5_draw := fun _ h9 => List.mem_cons_of_mem _ (List.mem_append_right _ h9)
  have k15 := hts (.fieldLink RX5 15 "EndedByOthers$Trial" "seed" "J") (by decide +kernel)
  have hl := lv_entry ([.ref (q 33), .int a0]) (n := 2) (Nat.le_of_ble_eq_true rfl)
  rw [lg_entry_eq]
  generalize (lg_sl ([.ref (q 33), .int a0]) ++ List.replicate (2 - (lg_sl ([.ref (q 33), .int a0])).length) Slot.unset).toArray = ls at hl ⊢
  have hl : lv_has ls 2 [(0, .ref (q 33)), (1, .int a0)] := hl
  unfold wp_X5_draw at h
  refine lv_aload_n hx hb dX5_draw_0 rfl (lv_at hl 0 rfl) ?_
  refine lv_ldc2 (v := (1103515245 : Int64)) hx hb hown (hts (.constantLong RX5 57 (1103515245)) (by decide +kernel)) dX5_draw_1 ?_
  refine lv_aload_n hx hb dX5_draw_4 rfl (lv_at hl 0 rfl) ?_
  refine xg_l0 (x := z) hx hb hts iX5 hown hK hP k15 rfl dX5_draw_5 ?_
  refine lv_lmul hx hb dX5_draw_8 ?_
  refine lv_ldc2 (v := (12345 : Int64)) hx hb hown (hts (.constantLong RX5 59 (12345)) (by decide +kernel)) dX5_draw_9 ?_
  refine lv_ladd hx hb dX5_draw_12 ?_
  refine lv_ldc2 (v := (2147483648 : Int64)) hx hb hown (hts (.constantLong RX5 61 (2147483648)) (by decide +kernel)) dX5_draw_13 ?_
  refine lv_lrem hx hb dX5_draw_16 (by decide) ?_
  refine xp_l0 hx hb hts iX5 hown hK hP hD hS k15 dX5_draw_17 (fun H locs hP hD hS => ?_)
  refine lv_iload_n hx hb dX5_draw_20 rfl (lv_at hl 1 rfl) ?_
  refine lv_iconst (v := (1 : Int32)) hx hb dX5_draw_21 (by decide) ?_
  refine lv_icmp_ge (tgt := 29) hx hb dX5_draw_22 (by decide) (fun c9 => ?_) (fun c9 => ?_)
  · have h := h.1 c9
    refine lv_aload_n hx hb dX5_draw_29 rfl (lv_at hl 0 rfl) ?_
    refine xg_l0 (x := (((1103515245 : Int64) * z) + (12345 : Int64)) - (((1103515245 : Int64) * z) + (12345 : Int64)) / (2147483648 : Int64) * (2147483648 : Int64)) hx hb hts iX5 hown hK hP k15 rfl dX5_draw_30 ?_
    refine lv_ldc2 (v := (65536 : Int64)) hx hb hown (hts (.constantLong RX5 63 (65536)) (by decide +kernel)) dX5_draw_33 ?_
    refine lv_ldiv hx hb dX5_draw_36 (by decide) ?_
    refine lv_iload_n hx hb dX5_draw_37 rfl (lv_at hl 1 rfl) ?_
    refine lv_i2l (v := (a0).toInt64) hx hb dX5_draw_38 rfl ?_
    obtain ⟨h9, h⟩ := h
    refine lv_lrem hx hb dX5_draw_39 h9 ?_
    refine lv_l2i (v := ((((((1103515245 : Int64) * z) + (12345 : Int64)) - (((1103515245 : Int64) * z) + (12345 : Int64)) / (2147483648 : Int64) * (2147483648 : Int64)) / (65536 : Int64)) - (((((1103515245 : Int64) * z) + (12345 : Int64)) - (((1103515245 : Int64) * z) + (12345 : Int64)) / (2147483648 : Int64) * (2147483648 : Int64)) / (65536 : Int64)) / ((a0).toInt64) * ((a0).toInt64)).toInt32) hx hb dX5_draw_40 rfl ?_
    exact mi_ret (v, f, (((1103515245 : Int64) * z) + (12345 : Int64)) - (((1103515245 : Int64) * z) + (12345 : Int64)) / (2147483648 : Int64) * (2147483648 : Int64)) hx hb hr hlocks h hK hP hD hS dX5_draw_41
  · have h := h.2 c9
    refine lv_iconst (v := (0 : Int32)) hx hb dX5_draw_25 (by decide) ?_
    refine lv_goto (tgt := 41) hx hb dX5_draw_26 (by decide) ?_
    exact mi_ret (v, f, (((1103515245 : Int64) * z) + (12345 : Int64)) - (((1103515245 : Int64) * z) + (12345 : Int64)) / (2147483648 : Int64) * (2147483648 : Int64)) hx hb hr hlocks h hK hP hD hS dX5_draw_41
def wp_X5_talkOnce (post : (Nat → Int32) → (Nat → Nat → Int32) → Int64 → Prop) (v : Nat → Int32) (f : Nat → Nat → Int32) (z : Int64) : Prop := (wp_X5_draw (fun r1 v2 f3 z4 => (wp_X5_draw (fun r5 v6 f7 z8 => (wp_X5_draw (fun r9 v10 f11 z12 => ((r9 = r1 → post v10 f11 z12) ∧ (¬ r9 = r1 → (vp_in r9 4 ∧ (vp_in r5 4 ∧ (vp_in r9 4 ∧ (vp_in r9 4 ∧ (wp_X6_endingBy (fun r13 => ((r13 = (-1 : Int32) → post v10 f11 z12) ∧ (¬ r13 = (-1 : Int32) → (vp_in r9 4 ∧ (vp_in r9 4 ∧ (vp_in r1 4 ∧ ((r13 = (f11 7 (r1).toNatClampNeg) → post (upd (upd v10 15 ((v10 15) + (1 : Int32))) 16 ((v10 16) + (1 : Int32))) (va_up f11 25 (upd (f11 25) (r9).toNatClampNeg ((f11 25 (r9).toNatClampNeg) ||| ((1 : Int32) <<< (r13 &&& 31))))) z12) ∧ (¬ r13 = (f11 7 (r1).toNatClampNeg) → post (upd (upd v10 15 ((v10 15) + (1 : Int32))) 16 ((v10 16) + (0 : Int32))) (va_up f11 25 (upd (f11 25) (r9).toNatClampNeg ((f11 25 (r9).toNatClampNeg) ||| ((1 : Int32) <<< (r13 &&& 31))))) z12)))))))) (f11 5 (r9).toNatClampNeg) (f11 4 (r5).toNatClampNeg) (f11 7 (r9).toNatClampNeg) (f11 25 (r9).toNatClampNeg))))))))) v6 f7 z8 (v6 7))) v2 f3 z4 (4 : Int32))) v f z (v 7))
def rmX5_talkOnce : Room := { frames := 2, cells := 0, slots := 0, locals := 45 }
set_option maxHeartbeats 4000000 in
set_option maxRecDepth 100000 in
theorem c_X5_talkOnce (l : Launch) (D : va_G) (cI : ClassId) (q : Nat → Nat) (sz : Nat) (post : (Nat → Int32) → (Nat → Nat → Int32) → Int64 → Prop) (v : Nat → Int32) (f : Nat → Nat → Int32) (z : Int64) (h : wp_X5_talkOnce post v f z) : Met l yX5_talkOnce wsX5_talkOnce rmX5_talkOnce (va_Pc [.ref (q 33), .ref (q 8), .ref (q 12)] (mP D cI (wX cI q v f z) sz)) (mQv post D cI (wX cI q) (va_A (wX cI q v f z) sz)) 0 0 (va_A (wX cI q v f z) sz) := by
  refine Met.ofW (cc := cX5_talkOnce) (maxL := 7) (ret := none) (by decide) rfl ?_
  intro p e s m args below meth c s₁ B hml hv
  obtain ⟨rfl, hsz, ⟨hP, hK, hN⟩, hD0⟩ := hv
  have hx := B.exec
  have hb := B.bytes
  have hr := B.returns
  have hts := atoms_spec (ws := wsX5_talkOnce) B.pre
  have hown : s.vm.findClass RX5 = some m.cls := findClass_of_methodNamed B.named
  have hlocks : meth.locks = false := B.notSynchronized
  subst hsz
  have hD := hD0.self (sz := s.heap.size)
  generalize hAe : va_A (wX cI q v f z) s.heap.size = A at hD ⊢
  have hA : ∀ q : Nat, s.heap.size ≤ q → A q := fun q h => by rw [← hAe]; exact Or.inr h
  have hS : va_S A s.heap s.heap [] := va_S.rf
  have iX3 : ∀ w ∈ wsX30, w ∈ wsX5_talkOnce := fun _ h9 => List.mem_cons_of_mem _ (List.mem_append_left _ (List.mem_append_left _ (List.mem_append_right _ h9)))
  have iX4 : ∀ w ∈ wsX40, w ∈ wsX5_talkOnce := fun _ h9 => List.mem_cons_of_mem _ (List.mem_append_left _ (List.mem_append_right _ h9))
  have iX5 : ∀ w ∈ wsX50, w ∈ wsX5_talkOnce := fun _ h9 => List.mem_cons_of_mem _ (List.mem_append_right _ h9)
  have k19 := hts (.fieldLink RX5 19 "EndedByOthers$Trial" "ended" "I") (by decide +kernel)
  have k23 := hts (.fieldLink RX5 23 "EndedByOthers$Trial" "asWanted" "I") (by decide +kernel)
  have k36 := hts (.fieldLink RX5 36 "EndedByOthers$Room" "speakers" "I") (by decide +kernel)
  have k44 := hts (.fieldLink RX5 44 "EndedByOthers$Room" "kinds" "[I") (by decide +kernel)
  have k47 := hts (.fieldLink RX5 47 "EndedByOthers$Room" "fitting" "[I") (by decide +kernel)
  have k50 := hts (.fieldLink RX5 50 "EndedByOthers$Scene" "wants" "[I") (by decide +kernel)
  have k9 := hts (.fieldLink RX5 9 "EndedByOthers$Trial" "used" "[I") (by decide +kernel)
  have hl := lv_entry ([.ref (q 33), .ref (q 8), .ref (q 12)]) (n := 7) (Nat.le_of_ble_eq_true rfl)
  rw [lg_entry_eq]
  generalize (lg_sl ([.ref (q 33), .ref (q 8), .ref (q 12)]) ++ List.replicate (7 - (lg_sl ([.ref (q 33), .ref (q 8), .ref (q 12)])).length) Slot.unset).toArray = ls at hl ⊢
  have hl : lv_has ls 7 [(0, .ref (q 33)), (1, .ref (q 8)), (2, .ref (q 12))] := hl
  unfold wp_X5_talkOnce at h
  refine lv_aload_n hx hb dX5_talkOnce_0 rfl (lv_at hl 0 rfl) ?_
  refine lv_aload_n hx hb dX5_talkOnce_1 rfl (lv_at hl 1 rfl) ?_
  refine xg_s7 (x := v 7) hx hb hts iX3 hown hK hP k36 rfl dX5_talkOnce_2 ?_
  refine mV_i ⟨hx, hb, hml, hown, hts⟩ (c_X5_draw l D cI q _ _ _ _ _ _ h) (cwV 1 hts gX5_talkOnce_X5_draw rfl rfl rfl (by decide +kernel) ⟨Nat.le_of_ble_eq_true rfl, Nat.le_of_ble_eq_true rfl⟩) hK hP hN hD hS hA (va_recv hK hP (ci := 5) (q0 := 33) rfl rfl) rfl hl.1 (rest := []) rfl (Nat.le_of_ble_eq_true rfl) dX5_talkOnce_5 (Nat.zero_le _) (Nat.zero_le _) (fun r1 v2 f3 z4 h H locs hP hD hS => ?_)
  refine lv_istore_n (lv' := [(3, .int r1), (0, .ref (q 33)), (1, .ref (q 8)), (2, .ref (q 12))]) hx hb dX5_talkOnce_8 rfl hl (by decide) rfl (fun ls hl => ?_)
  refine lv_aload_n hx hb dX5_talkOnce_9 rfl (lv_at hl 1 rfl) ?_
  refine lv_iconst (v := (4 : Int32)) hx hb dX5_talkOnce_10 (by decide) ?_
  refine mV_i ⟨hx, hb, hml, hown, hts⟩ (c_X5_draw l D cI q _ _ _ _ _ _ h) (cwV 1 hts gX5_talkOnce_X5_draw rfl rfl rfl (by decide +kernel) ⟨Nat.le_of_ble_eq_true rfl, Nat.le_of_ble_eq_true rfl⟩) hK hP hN hD hS hA (va_recv hK hP (ci := 5) (q0 := 33) rfl rfl) rfl hl.1 (rest := []) rfl (Nat.le_of_ble_eq_true rfl) dX5_talkOnce_11 (Nat.zero_le _) (Nat.zero_le _) (fun r5 v6 f7 z8 h H locs hP hD hS => ?_)
  refine lv_istore (lv' := [(4, .int r5), (3, .int r1), (0, .ref (q 33)), (1, .ref (q 8)), (2, .ref (q 12))]) hx hb dX5_talkOnce_14 hl (by decide) rfl (fun ls hl => ?_)
  refine lv_aload_n hx hb dX5_talkOnce_16 rfl (lv_at hl 2 rfl) ?_
  refine lv_aload_n hx hb dX5_talkOnce_17 rfl (lv_at hl 3 rfl) ?_
  refine xg_s7 (x := v6 7) hx hb hts iX3 hown hK hP k36 rfl dX5_talkOnce_18 ?_
  refine mV_i ⟨hx, hb, hml, hown, hts⟩ (c_X5_draw l D cI q _ _ _ _ _ _ h) (cwV 1 hts gX5_talkOnce_X5_draw rfl rfl rfl (by decide +kernel) ⟨Nat.le_of_ble_eq_true rfl, Nat.le_of_ble_eq_true rfl⟩) hK hP hN hD hS hA (va_recv hK hP (ci := 5) (q0 := 33) rfl rfl) rfl hl.1 (rest := []) rfl (Nat.le_of_ble_eq_true rfl) dX5_talkOnce_21 (Nat.zero_le _) (Nat.zero_le _) (fun r9 v10 f11 z12 h H locs hP hD hS => ?_)
  refine lv_istore (lv' := [(5, .int r9), (4, .int r5), (3, .int r1), (0, .ref (q 33)), (1, .ref (q 8)), (2, .ref (q 12))]) hx hb dX5_talkOnce_24 hl (by decide) rfl (fun ls hl => ?_)
  refine lv_iload hx hb dX5_talkOnce_26 (lv_at hl 0 rfl) ?_
  refine lv_iload_n hx hb dX5_talkOnce_28 rfl (lv_at hl 2 rfl) ?_
  refine lv_icmp_ne (tgt := 33) hx hb dX5_talkOnce_29 (by decide) (fun c9 => ?_) (fun c9 => ?_)
  · have h := h.2 c9
    refine lv_aload_n hx hb dX5_talkOnce_33 rfl (lv_at hl 4 rfl) ?_
    refine xg_r8_10 hx hb hts iX3 hown hK hP k44 dX5_talkOnce_34 ?_
    refine lv_iload hx hb dX5_talkOnce_37 (lv_at hl 0 rfl) ?_
    obtain ⟨h9, h⟩ := h
    refine xal_5 (x := f11 5 (r9).toNatClampNeg) hx hb hK hP h9 rfl dX5_talkOnce_39 ?_
    refine lv_aload_n hx hb dX5_talkOnce_40 rfl (lv_at hl 4 rfl) ?_
    refine xg_r8_9 hx hb hts iX3 hown hK hP k47 dX5_talkOnce_41 ?_
    refine lv_iload hx hb dX5_talkOnce_44 (lv_at hl 1 rfl) ?_
    obtain ⟨h9, h⟩ := h
    refine xal_4 (x := f11 4 (r5).toNatClampNeg) hx hb hK hP h9 rfl dX5_talkOnce_46 ?_
    refine lv_aload_n hx hb dX5_talkOnce_47 rfl (lv_at hl 5 rfl) ?_
    refine xg_r12_13 hx hb hts iX4 hown hK hP k50 dX5_talkOnce_48 ?_
    refine lv_iload hx hb dX5_talkOnce_51 (lv_at hl 0 rfl) ?_
    obtain ⟨h9, h⟩ := h
    refine xal_7 (x := f11 7 (r9).toNatClampNeg) hx hb hK hP h9 rfl dX5_talkOnce_53 ?_
    refine lv_aload_n hx hb dX5_talkOnce_54 rfl (lv_at hl 3 rfl) ?_
    refine xg_r33_34 hx hb hts iX5 hown hK hP k9 dX5_talkOnce_55 ?_
    refine lv_iload hx hb dX5_talkOnce_58 (lv_at hl 0 rfl) ?_
    obtain ⟨h9, h⟩ := h
    refine xal_25 (x := f11 25 (r9).toNatClampNeg) hx hb hK hP h9 rfl dX5_talkOnce_60 ?_
    refine rN_i ⟨hx, hb, hml, hown, hts⟩ (c_X6_endingBy l D cI _ _ _ _ _ h) ⟨va_cnB 4 hts gX5_talkOnce_X6_endingBy_n53 rfl rfl rfl hN.2.2.2.2 (hts (.initialized RX6) (by decide +kernel)) (by decide +kernel) ⟨Nat.le_of_ble_eq_true rfl, Nat.le_of_ble_eq_true rfl⟩, hts (.static yX6_endingBy) (by decide +kernel), trivial⟩ hK wPnil hN rfl hl.1 (rest := []) rfl (Nat.le_of_ble_eq_true rfl) dX5_talkOnce_61 (Nat.zero_le _) (Nat.zero_le _) (fun r13 h => ?_)
    refine lv_istore (lv' := [(6, .int r13), (5, .int r9), (4, .int r5), (3, .int r1), (0, .ref (q 33)), (1, .ref (q 8)), (2, .ref (q 12))]) hx hb dX5_talkOnce_64 hl (by decide) rfl (fun ls hl => ?_)
    refine lv_iload hx hb dX5_talkOnce_66 (lv_at hl 0 rfl) ?_
    refine lv_iconst (v := (-1 : Int32)) hx hb dX5_talkOnce_68 (by decide) ?_
    refine lv_icmp_ne (tgt := 73) hx hb dX5_talkOnce_69 (by decide) (fun c9 => ?_) (fun c9 => ?_)
    · have h := h.2 c9
      refine lv_aload_n hx hb dX5_talkOnce_73 rfl (lv_at hl 4 rfl) ?_
      refine xg_r33_34 hx hb hts iX5 hown hK hP k9 dX5_talkOnce_74 ?_
      refine lv_iload hx hb dX5_talkOnce_77 (lv_at hl 1 rfl) ?_
      refine lv_dup2_11 hx hb dX5_talkOnce_79 rfl rfl ?_
      obtain ⟨h9, h⟩ := h
      refine xal_25 (x := f11 25 (r9).toNatClampNeg) hx hb hK hP h9 rfl dX5_talkOnce_80 ?_
      refine lv_iconst (v := (1 : Int32)) hx hb dX5_talkOnce_81 (by decide) ?_
      refine lv_iload hx hb dX5_talkOnce_82 (lv_at hl 0 rfl) ?_
      refine lv_ishl hx hb dX5_talkOnce_84 ?_
      refine lv_ior hx hb dX5_talkOnce_85 ?_
      obtain ⟨h9, h⟩ := h
      refine xas_25 hx hb hK hP hD hS h9 dX5_talkOnce_86 (fun H locs hP hD hS => ?_)
      have hP : va_P D vwCl (wX cI q v10 (va_up f11 25 (upd (f11 25) (r9).toNatClampNeg ((f11 25 (r9).toNatClampNeg) ||| ((1 : Int32) <<< (r13 &&& 31))))) z12) H := hP
      have hD : va_D A (wX cI q v10 (va_up f11 25 (upd (f11 25) (r9).toNatClampNeg ((f11 25 (r9).toNatClampNeg) ||| ((1 : Int32) <<< (r13 &&& 31))))) z12) := hD
      refine lv_aload_n hx hb dX5_talkOnce_87 rfl (lv_at hl 4 rfl) ?_
      refine lv_dup hx hb dX5_talkOnce_88 rfl ?_
      refine xg_s15 (x := v10 15) hx hb hts iX5 hown hK hP k19 rfl dX5_talkOnce_89 ?_
      refine lv_iconst (v := (1 : Int32)) hx hb dX5_talkOnce_92 (by decide) ?_
      refine lv_iadd hx hb dX5_talkOnce_93 ?_
      refine xp_s15 hx hb hts iX5 hown hK hP hD hS k19 dX5_talkOnce_94 (fun H locs hP hD hS => ?_)
      refine lv_aload_n hx hb dX5_talkOnce_97 rfl (lv_at hl 4 rfl) ?_
      refine lv_dup hx hb dX5_talkOnce_98 rfl ?_
      refine xg_s16 (x := v10 16) hx hb hts iX5 hown hK hP k23 rfl dX5_talkOnce_99 ?_
      refine lv_iload hx hb dX5_talkOnce_102 (lv_at hl 0 rfl) ?_
      refine lv_aload_n hx hb dX5_talkOnce_104 rfl (lv_at hl 6 rfl) ?_
      refine xg_r12_13 hx hb hts iX4 hown hK hP k50 dX5_talkOnce_105 ?_
      refine lv_iload_n hx hb dX5_talkOnce_108 rfl (lv_at hl 3 rfl) ?_
      obtain ⟨h9, h⟩ := h
      refine xal_7 (x := f11 7 (r1).toNatClampNeg) hx hb hK hP h9 rfl dX5_talkOnce_109 ?_
      refine lv_icmp_ne (tgt := 117) hx hb dX5_talkOnce_110 (by decide) (fun c9 => ?_) (fun c9 => ?_)
      · have h := h.2 c9
        refine lv_iconst (v := (0 : Int32)) hx hb dX5_talkOnce_117 (by decide) ?_
        refine lv_iadd hx hb dX5_talkOnce_118 ?_
        refine xp_s16 hx hb hts iX5 hown hK hP hD hS k23 dX5_talkOnce_119 (fun H locs hP hD hS => ?_)
        exact mv_ret (upd (upd v10 15 ((v10 15) + (1 : Int32))) 16 ((v10 16) + (0 : Int32)), va_up f11 25 (upd (f11 25) (r9).toNatClampNeg ((f11 25 (r9).toNatClampNeg) ||| ((1 : Int32) <<< (r13 &&& 31)))), z12) hx hb hr hlocks h hK hP hD hS dX5_talkOnce_122
      · have h := h.1 c9
        refine lv_iconst (v := (1 : Int32)) hx hb dX5_talkOnce_113 (by decide) ?_
        refine lv_goto (tgt := 118) hx hb dX5_talkOnce_114 (by decide) ?_
        refine lv_iadd hx hb dX5_talkOnce_118 ?_
        refine xp_s16 hx hb hts iX5 hown hK hP hD hS k23 dX5_talkOnce_119 (fun H locs hP hD hS => ?_)
        exact mv_ret (upd (upd v10 15 ((v10 15) + (1 : Int32))) 16 ((v10 16) + (1 : Int32)), va_up f11 25 (upd (f11 25) (r9).toNatClampNeg ((f11 25 (r9).toNatClampNeg) ||| ((1 : Int32) <<< (r13 &&& 31)))), z12) hx hb hr hlocks h hK hP hD hS dX5_talkOnce_122
    · have h := h.1 c9
      exact mv_ret (v10, f11, z12) hx hb hr hlocks h hK hP hD hS dX5_talkOnce_72
  · have h := h.1 c9
    exact mv_ret (v10, f11, z12) hx hb hr hlocks h hK hP hD hS dX5_talkOnce_32
def wp_X5_run_B48 (post : (Nat → Int32) → (Nat → Nat → Int32) → Int64 → Prop) : Nat → (Nat → Int32) → (Nat → Nat → Int32) → Int64 → Int32 → Int32 → Prop
  | 0, _, _, _, _, _ => False
  | n48 + 1, v, f, z, x3, x5 => ((x3 ≤ x5 → post v f z) ∧ (¬ x3 ≤ x5 → (wp_X5_talkOnce (fun v2 f3 z4 => wp_X5_run_B48 post n48 v2 f3 z4 x3 (x5 + 1)) v f z)))
def wp_X5_run_B20 (post : (Nat → Int32) → (Nat → Nat → Int32) → Int64 → Prop) : Nat → (Nat → Int32) → (Nat → Nat → Int32) → Int64 → Int32 → Int32 → Prop
  | 0, _, _, _, _, _ => False
  | n20 + 1, v, f, z, x3, x5 => (((4 : Int32) ≤ x5 → (∃ j9 : Nat, wp_X5_run_B48 post j9 v f z x3 (0 : Int32))) ∧ (¬ (4 : Int32) ≤ x5 → (wp_X4_usedBy (fun r5 => (vp_in x5 4 ∧ wp_X5_run_B20 post n20 v (va_up f 25 (upd (f 25) (x5).toNatClampNeg r5)) z x3 (x5 + 1))) v f z x5)))
def wp_X5_run (post : (Nat → Int32) → (Nat → Nat → Int32) → Int64 → Prop) (v : Nat → Int32) (f : Nat → Nat → Int32) (z : Int64) (a2 : Int32) (a3 : Int32) : Prop := (∃ j9 : Nat, wp_X5_run_B20 post j9 (upd (upd v 15 (0 : Int32)) 16 (0 : Int32)) f ((a3).toInt64) a2 (0 : Int32))
def rmX5_run : Room := { frames := 3, cells := 0, slots := 0, locals := 71 }
set_option maxHeartbeats 4000000 in
set_option maxRecDepth 100000 in
theorem c_X5_run (l : Launch) (D : va_G) (cI : ClassId) (q : Nat → Nat) (sz : Nat) (post : (Nat → Int32) → (Nat → Nat → Int32) → Int64 → Prop) (v : Nat → Int32) (f : Nat → Nat → Int32) (z : Int64) (a2 : Int32) (a3 : Int32) (h : wp_X5_run post v f z a2 a3) : Met l yX5_run wsX5_run rmX5_run (va_Pc [.ref (q 33), .ref (q 8), .ref (q 12), .int a2, .int a3] (mP D cI (wX cI q v f z) sz)) (mQv post D cI (wX cI q) (va_A (wX cI q v f z) sz)) 0 0 (va_A (wX cI q v f z) sz) := by
  refine Met.ofW (cc := cX5_run) (maxL := 6) (ret := none) (by decide) rfl ?_
  intro p e s m args below meth c s₁ B hml hv
  obtain ⟨rfl, hsz, ⟨hP, hK, hN⟩, hD0⟩ := hv
  have hx := B.exec
  have hb := B.bytes
  have hr := B.returns
  have hts := atoms_spec (ws := wsX5_run) B.pre
  have hown : s.vm.findClass RX5 = some m.cls := findClass_of_methodNamed B.named
  have hlocks : meth.locks = false := B.notSynchronized
  subst hsz
  have hD := hD0.self (sz := s.heap.size)
  generalize hAe : va_A (wX cI q v f z) s.heap.size = A at hD ⊢
  have hA : ∀ q : Nat, s.heap.size ≤ q → A q := fun q h => by rw [← hAe]; exact Or.inr h
  have hS : va_S A s.heap s.heap [] := va_S.rf
  have iX5 : ∀ w ∈ wsX50, w ∈ wsX5_run := fun _ h9 => List.mem_cons_of_mem _ (List.mem_append_left _ (List.mem_append_left _ (List.mem_append_right _ h9)))
  have k15 := hts (.fieldLink RX5 15 "EndedByOthers$Trial" "seed" "J") (by decide +kernel)
  have k19 := hts (.fieldLink RX5 19 "EndedByOthers$Trial" "ended" "I") (by decide +kernel)
  have k23 := hts (.fieldLink RX5 23 "EndedByOthers$Trial" "asWanted" "I") (by decide +kernel)
  have k9 := hts (.fieldLink RX5 9 "EndedByOthers$Trial" "used" "[I") (by decide +kernel)
  have hl := lv_entry ([.ref (q 33), .ref (q 8), .ref (q 12), .int a2, .int a3]) (n := 6) (Nat.le_of_ble_eq_true rfl)
  rw [lg_entry_eq]
  generalize (lg_sl ([.ref (q 33), .ref (q 8), .ref (q 12), .int a2, .int a3]) ++ List.replicate (6 - (lg_sl ([.ref (q 33), .ref (q 8), .ref (q 12), .int a2, .int a3])).length) Slot.unset).toArray = ls at hl ⊢
  have hl : lv_has ls 6 [(0, .ref (q 33)), (1, .ref (q 8)), (2, .ref (q 12)), (3, .int a2), (4, .int a3)] := hl
  unfold wp_X5_run at h
  have B48 : ∀ (n48 : Nat) (v : Nat → Int32) (f : Nat → Nat → Int32) (z : Int64) (x3 : Int32) (x5 : Int32), wp_X5_run_B48 post n48 v f z x3 x5 → ∀ (H : Heap) (locs : List Loc), va_P D vwCl (wX cI q v f z) H → va_D A (wX cI q v f z) → va_S A s.heap H locs → ∀ (ls : Array Slot), lv_has ls 6 [(0, .ref (q 33)), (1, .ref (q 8)), (2, .ref (q 12)), (3, .int x3), (5, .int x5)] → W p l e (headSpec wsX5_run rmX5_run).room s m ([.ref (q 33), .ref (q 8), .ref (q 12), .int a2, .int a3] : List Value).toArray below meth c H locs 0 0 (MQ below (mQv post D cI (wX cI q) A) ([.ref (q 33), .ref (q 8), .ref (q 12), .int a2, .int a3] : List Value).toArray s 0 0 A) (F0 m 48 ls []) := by
    intro n48
    induction n48 with
    | zero =>
      intro v f z x3 x5 h
      exact False.elim h
    | succ n48 ih48 =>
      intro v f z x3 x5 h H locs hP hD hS ls hl
      rw [wp_X5_run_B48] at h
      refine lv_iload hx hb dX5_run_48 (lv_at hl 4 rfl) ?_
      refine lv_iload_n hx hb dX5_run_50 rfl (lv_at hl 3 rfl) ?_
      refine lv_icmp_ge (tgt := 66) hx hb dX5_run_51 (by decide) (fun c9 => ?_) (fun c9 => ?_)
      · have h := h.1 c9
        exact mv_ret (v, f, z) hx hb hr hlocks h hK hP hD hS dX5_run_66
      · have h := h.2 c9
        refine lv_aload_n hx hb dX5_run_54 rfl (lv_at hl 0 rfl) ?_
        refine lv_aload_n hx hb dX5_run_55 rfl (lv_at hl 1 rfl) ?_
        refine lv_aload_n hx hb dX5_run_56 rfl (lv_at hl 2 rfl) ?_
        refine mV_v ⟨hx, hb, hml, hown, hts⟩ (c_X5_talkOnce l D cI q _ _ _ _ _ h) (cwV 2 hts gX5_run_X5_talkOnce rfl rfl rfl (by decide +kernel) ⟨Nat.le_of_ble_eq_true rfl, Nat.le_of_ble_eq_true rfl⟩) hK hP hN hD hS hA (va_recv hK hP (ci := 5) (q0 := 33) rfl rfl) rfl hl.1 (rest := []) rfl (Nat.le_of_ble_eq_true rfl) dX5_run_57 (Nat.zero_le _) (Nat.zero_le _) (fun v2 f3 z4 h H locs hP hD hS => ?_)
        refine lv_iinc (v := x5 + 1) (lv' := [(5, .int (x5 + 1)), (0, .ref (q 33)), (1, .ref (q 8)), (2, .ref (q 12)), (3, .int x3)]) hx hb dX5_run_60 hl (k := 4) rfl rfl (by decide) rfl (fun ls hl => ?_)
        refine lv_goto (tgt := 48) hx hb dX5_run_63 (by decide) ?_
        exact ih48 _ _ _ _ _ h _ _ hP hD hS ls (lv_sub hl [1, 2, 3, 4, 0] rfl)
  have B20 : ∀ (n20 : Nat) (v : Nat → Int32) (f : Nat → Nat → Int32) (z : Int64) (x3 : Int32) (x5 : Int32), wp_X5_run_B20 post n20 v f z x3 x5 → ∀ (H : Heap) (locs : List Loc), va_P D vwCl (wX cI q v f z) H → va_D A (wX cI q v f z) → va_S A s.heap H locs → ∀ (ls : Array Slot), lv_has ls 6 [(0, .ref (q 33)), (1, .ref (q 8)), (2, .ref (q 12)), (3, .int x3), (5, .int x5)] → W p l e (headSpec wsX5_run rmX5_run).room s m ([.ref (q 33), .ref (q 8), .ref (q 12), .int a2, .int a3] : List Value).toArray below meth c H locs 0 0 (MQ below (mQv post D cI (wX cI q) A) ([.ref (q 33), .ref (q 8), .ref (q 12), .int a2, .int a3] : List Value).toArray s 0 0 A) (F0 m 20 ls []) := by
    intro n20
    induction n20 with
    | zero =>
      intro v f z x3 x5 h
      exact False.elim h
    | succ n20 ih20 =>
      intro v f z x3 x5 h H locs hP hD hS ls hl
      rw [wp_X5_run_B20] at h
      refine lv_iload hx hb dX5_run_20 (lv_at hl 4 rfl) ?_
      refine lv_iconst (v := (4 : Int32)) hx hb dX5_run_22 (by decide) ?_
      refine lv_icmp_ge (tgt := 45) hx hb dX5_run_23 (by decide) (fun c9 => ?_) (fun c9 => ?_)
      · have h := h.1 c9
        refine lv_iconst (v := (0 : Int32)) hx hb dX5_run_45 (by decide) ?_
        refine lv_istore (lv' := [(5, .int (0 : Int32)), (0, .ref (q 33)), (1, .ref (q 8)), (2, .ref (q 12)), (3, .int x3)]) hx hb dX5_run_46 hl (by decide) rfl (fun ls hl => ?_)
        obtain ⟨n9, h⟩ := h
        exact B48 n9 _ _ _ _ _ h _ _ hP hD hS ls (lv_sub hl [1, 2, 3, 4, 0] rfl)
      · have h := h.2 c9
        refine lv_aload_n hx hb dX5_run_26 rfl (lv_at hl 0 rfl) ?_
        refine xg_r33_34 hx hb hts iX5 hown hK hP k9 dX5_run_27 ?_
        refine lv_iload hx hb dX5_run_30 (lv_at hl 4 rfl) ?_
        refine lv_aload_n hx hb dX5_run_32 rfl (lv_at hl 2 rfl) ?_
        refine lv_iload hx hb dX5_run_33 (lv_at hl 4 rfl) ?_
        refine rV_i ⟨hx, hb, hml, hown, hts⟩ (c_X4_usedBy l D cI q _ _ _ _ _ h) (cwV 1 hts gX5_run_X4_usedBy rfl rfl rfl (by decide +kernel) ⟨Nat.le_of_ble_eq_true rfl, Nat.le_of_ble_eq_true rfl⟩) hK hP hN (va_recv hK hP (ci := 4) (q0 := 12) rfl rfl) rfl hl.1 (rest := [.int x5, .ref (q 34)]) rfl (Nat.le_of_ble_eq_true rfl) dX5_run_35 (Nat.zero_le _) (Nat.zero_le _) (fun r5 h => ?_)
        obtain ⟨h9, h⟩ := h
        refine xas_25 hx hb hK hP hD hS h9 dX5_run_38 (fun H locs hP hD hS => ?_)
        have hP : va_P D vwCl (wX cI q v (va_up f 25 (upd (f 25) (x5).toNatClampNeg r5)) z) H := hP
        have hD : va_D A (wX cI q v (va_up f 25 (upd (f 25) (x5).toNatClampNeg r5)) z) := hD
        refine lv_iinc (v := x5 + 1) (lv' := [(5, .int (x5 + 1)), (0, .ref (q 33)), (1, .ref (q 8)), (2, .ref (q 12)), (3, .int x3)]) hx hb dX5_run_39 hl (k := 4) rfl rfl (by decide) rfl (fun ls hl => ?_)
        refine lv_goto (tgt := 20) hx hb dX5_run_42 (by decide) ?_
        exact ih20 _ _ _ _ _ h _ _ hP hD hS ls (lv_sub hl [1, 2, 3, 4, 0] rfl)
  refine lv_aload_n hx hb dX5_run_0 rfl (lv_at hl 0 rfl) ?_
  refine lv_iload hx hb dX5_run_1 (lv_at hl 4 rfl) ?_
  refine lv_i2l (v := (a3).toInt64) hx hb dX5_run_3 rfl ?_
  refine xp_l0 hx hb hts iX5 hown hK hP hD hS k15 dX5_run_4 (fun H locs hP hD hS => ?_)
  refine lv_aload_n hx hb dX5_run_7 rfl (lv_at hl 0 rfl) ?_
  refine lv_iconst (v := (0 : Int32)) hx hb dX5_run_8 (by decide) ?_
  refine xp_s15 hx hb hts iX5 hown hK hP hD hS k19 dX5_run_9 (fun H locs hP hD hS => ?_)
  refine lv_aload_n hx hb dX5_run_12 rfl (lv_at hl 0 rfl) ?_
  refine lv_iconst (v := (0 : Int32)) hx hb dX5_run_13 (by decide) ?_
  refine xp_s16 hx hb hts iX5 hown hK hP hD hS k23 dX5_run_14 (fun H locs hP hD hS => ?_)
  refine lv_iconst (v := (0 : Int32)) hx hb dX5_run_17 (by decide) ?_
  refine lv_istore (lv' := [(5, .int (0 : Int32)), (0, .ref (q 33)), (1, .ref (q 8)), (2, .ref (q 12)), (3, .int a2), (4, .int a3)]) hx hb dX5_run_18 hl (by decide) rfl (fun ls hl => ?_)
  obtain ⟨n9, h⟩ := h
  exact B20 n9 _ _ _ _ _ h _ _ hP hD hS ls (lv_sub hl [1, 2, 3, 4, 0] rfl)
