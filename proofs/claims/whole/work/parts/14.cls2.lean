def wp_X6_letter (post : Int32 → (Nat → Int32) → (Nat → Nat → Int32) → Int64 → Prop) (v : Nat → Int32) (f : Nat → Nat → Int32) (z : Int64) (a0 : Int32) : Prop := ((a0 < (1 : Int32) → post (-102 : Int32) v f z) ∧ (¬ a0 < (1 : Int32) → ((a0 ≤ (126 : Int32) → (((v 2) < (30 : Int32) → (wp_X1_add (fun v2 f3 z4 => post (v2 2) v2 f3 z4) v f z a0)) ∧ (¬ (v 2) < (30 : Int32) → post (-104 : Int32) v f z))) ∧ (¬ a0 ≤ (126 : Int32) → post (-102 : Int32) v f z))))
def rmX6_letter : Room := { frames := 1, cells := 0, slots := 0, locals := 21 }
set_option maxHeartbeats 4000000 in
set_option maxRecDepth 100000 in
theorem c_X6_letter (l : Launch) (D : va_G) (cI : ClassId) (q : Nat → Nat) (sz : Nat) (post : Int32 → (Nat → Int32) → (Nat → Nat → Int32) → Int64 → Prop) (v : Nat → Int32) (f : Nat → Nat → Int32) (z : Int64) (a0 : Int32) (h : wp_X6_letter post v f z a0) : Met l yX6_letter wsX6_letter rmX6_letter (va_Pc [.ref (q 0), .int a0] (mP D cI (wX cI q v f z) sz)) (mQi post D cI (wX cI q) (va_A (wX cI q v f z) sz)) 0 0 (va_A (wX cI q v f z) sz) := by
  refine Met.ofW (cc := cX6_letter) (maxL := 2) (ret := (some .int)) (by decide) rfl ?_
  intro p e s m args below meth c s₁ B hml hv
  obtain ⟨rfl, hsz, ⟨hP, hK, hN⟩, hD0⟩ := hv
  have hx := B.exec
  have hb := B.bytes
  have hr := B.returns
  have hts := atoms_spec (ws := wsX6_letter) B.pre
  have hown : s.vm.findClass RX6 = some m.cls := findClass_of_methodNamed B.named
  have hlocks : meth.locks = false := B.notSynchronized
  subst hsz
  have hD := hD0.self (sz := s.heap.size)
  generalize hAe : va_A (wX cI q v f z) s.heap.size = A at hD ⊢
  have hA : ∀ q : Nat, s.heap.size ≤ q → A q := fun q h => by rw [← hAe]; exact Or.inr h
  have hS : va_S A s.heap s.heap [] := va_S.rf
  have iX1 : ∀ w ∈ wsX10, w ∈ wsX6_letter := fun _ h9 => List.mem_cons_of_mem _ (List.mem_append_right _ h9)
  have iX6 : ∀ w ∈ wsX60, w ∈ wsX6_letter := fun _ h9 => List.mem_cons_of_mem _ (List.mem_append_left _ (List.mem_append_right _ h9))
  have k10 := hts (.fieldLink RX6 10 "EndedByOthers" "page" "LEndedByOthers$Page;") (by decide +kernel)
  have k62 := hts (.fieldLink RX6 62 "EndedByOthers$Page" "length" "I") (by decide +kernel)
  have hl := lv_entry ([.ref (q 0), .int a0]) (n := 2) (Nat.le_of_ble_eq_true rfl)
  rw [lg_entry_eq]
  generalize (lg_sl ([.ref (q 0), .int a0]) ++ List.replicate (2 - (lg_sl ([.ref (q 0), .int a0])).length) Slot.unset).toArray = ls at hl ⊢
  have hl : lv_has ls 2 [(0, .ref (q 0)), (1, .int a0)] := hl
  unfold wp_X6_letter at h
  refine lv_iload_n hx hb dX6_letter_0 rfl (lv_at hl 1 rfl) ?_
  refine lv_iconst (v := (1 : Int32)) hx hb dX6_letter_1 (by decide) ?_
  refine lv_icmp_lt (tgt := 11) hx hb dX6_letter_2 (by decide) (fun c9 => ?_) (fun c9 => ?_)
  · have h := h.1 c9
    refine lv_bipush (v := (-102 : Int32)) hx hb dX6_letter_11 (by decide) ?_
    exact mi_ret (v, f, z) hx hb hr hlocks h hK hP hD hS dX6_letter_13
  · have h := h.2 c9
    refine lv_iload_n hx hb dX6_letter_5 rfl (lv_at hl 1 rfl) ?_
    refine lv_bipush (v := (126 : Int32)) hx hb dX6_letter_6 (by decide) ?_
    refine lv_icmp_le (tgt := 14) hx hb dX6_letter_8 (by decide) (fun c9 => ?_) (fun c9 => ?_)
    · have h := h.1 c9
      refine lv_aload_n hx hb dX6_letter_14 rfl (lv_at hl 0 rfl) ?_
      refine xg_r0_1 hx hb hts iX6 hown hK hP k10 dX6_letter_15 ?_
      refine xg_s2 (x := v 2) hx hb hts iX1 hown hK hP k62 rfl dX6_letter_18 ?_
      refine lv_bipush (v := (30 : Int32)) hx hb dX6_letter_21 (by decide) ?_
      refine lv_icmp_lt (tgt := 29) hx hb dX6_letter_23 (by decide) (fun c9 => ?_) (fun c9 => ?_)
      · have h := h.1 c9
        refine lv_aload_n hx hb dX6_letter_29 rfl (lv_at hl 0 rfl) ?_
        refine xg_r0_1 hx hb hts iX6 hown hK hP k10 dX6_letter_30 ?_
        refine lv_iload_n hx hb dX6_letter_33 rfl (lv_at hl 1 rfl) ?_
        refine mV_v ⟨hx, hb, hml, hown, hts⟩ (c_X1_add l D cI q _ _ _ _ _ _ h) (cwV 1 hts gX6_letter_X1_add rfl rfl rfl (by decide +kernel) ⟨Nat.le_of_ble_eq_true rfl, Nat.le_of_ble_eq_true rfl⟩) hK hP hN hD hS hA (va_recv hK hP (ci := 1) (q0 := 1) rfl rfl) rfl hl.1 (rest := []) rfl (Nat.le_of_ble_eq_true rfl) dX6_letter_34 (Nat.zero_le _) (Nat.zero_le _) (fun v2 f3 z4 h H locs hP hD hS => ?_)
        refine lv_aload_n hx hb dX6_letter_37 rfl (lv_at hl 0 rfl) ?_
        refine xg_r0_1 hx hb hts iX6 hown hK hP k10 dX6_letter_38 ?_
        refine xg_s2 (x := v2 2) hx hb hts iX1 hown hK hP k62 rfl dX6_letter_41 ?_
        exact mi_ret (v2, f3, z4) hx hb hr hlocks h hK hP hD hS dX6_letter_44
      · have h := h.2 c9
        refine lv_bipush (v := (-104 : Int32)) hx hb dX6_letter_26 (by decide) ?_
        exact mi_ret (v, f, z) hx hb hr hlocks h hK hP hD hS dX6_letter_28
    · have h := h.2 c9
      refine lv_bipush (v := (-102 : Int32)) hx hb dX6_letter_11 (by decide) ?_
      exact mi_ret (v, f, z) hx hb hr hlocks h hK hP hD hS dX6_letter_13
def wp_X6_blank (post : Int32 → (Nat → Int32) → (Nat → Nat → Int32) → Int64 → Prop) (v : Nat → Int32) (f : Nat → Nat → Int32) (z : Int64) : Prop := post (v 2) (upd v 2 (0 : Int32)) f z
def rmX6_blank : Room := { frames := 0, cells := 0, slots := 0, locals := 0 }
set_option maxHeartbeats 4000000 in
set_option maxRecDepth 100000 in
theorem c_X6_blank (l : Launch) (D : va_G) (cI : ClassId) (q : Nat → Nat) (sz : Nat) (post : Int32 → (Nat → Int32) → (Nat → Nat → Int32) → Int64 → Prop) (v : Nat → Int32) (f : Nat → Nat → Int32) (z : Int64) (h : wp_X6_blank post v f z) : Met l yX6_blank wsX6_blank rmX6_blank (va_Pc [.ref (q 0)] (mP D cI (wX cI q v f z) sz)) (mQi post D cI (wX cI q) (va_A (wX cI q v f z) sz)) 0 0 (va_A (wX cI q v f z) sz) := by
  refine Met.ofW (cc := cX6_blank) (maxL := 2) (ret := (some .int)) (by decide) rfl ?_
  intro p e s m args below meth c s₁ B hml hv
  obtain ⟨rfl, hsz, ⟨hP, hK, hN⟩, hD0⟩ := hv
  have hx := B.exec
  have hb := B.bytes
  have hr := B.returns
  have hts := atoms_spec (ws := wsX6_blank) B.pre
  have hown : s.vm.findClass RX6 = some m.cls := findClass_of_methodNamed B.named
  have hlocks : meth.locks = false := B.notSynchronized
  subst hsz
  have hD := hD0.self (sz := s.heap.size)
  generalize hAe : va_A (wX cI q v f z) s.heap.size = A at hD ⊢
  have hA : ∀ q : Nat, s.heap.size ≤ q → A q := fun q h => by rw [← hAe]; exact Or.inr h
  have hS : va_S A s.heap s.heap [] := va_S.rf
  have iX1 : ∀ w ∈ wsX10, w ∈ wsX6_blank := fun _ h9 => List.mem_cons_of_mem _ (List.mem_append_right _ h9)
  have iX6 : ∀ w ∈ wsX60, w ∈ wsX6_blank := fun _ h9 => List.mem_cons_of_mem _ (List.mem_append_left _ (List.mem_append_right _ h9))
  have k10 := hts (.fieldLink RX6 10 "EndedByOthers" "page" "LEndedByOthers$Page;") (by decide +kernel)
  have k62 := hts (.fieldLink RX6 62 "EndedByOthers$Page" "length" "I") (by decide +kernel)
  have hl := lv_entry ([.ref (q 0)]) (n := 2) (Nat.le_of_ble_eq_true rfl)
  rw [lg_entry_eq]
  generalize (lg_sl ([.ref (q 0)]) ++ List.replicate (2 - (lg_sl ([.ref (q 0)])).length) Slot.unset).toArray = ls at hl ⊢
  have hl : lv_has ls 2 [(0, .ref (q 0))] := hl
  unfold wp_X6_blank at h
  refine lv_aload_n hx hb dX6_blank_0 rfl (lv_at hl 0 rfl) ?_
  refine xg_r0_1 hx hb hts iX6 hown hK hP k10 dX6_blank_1 ?_
  refine xg_s2 (x := v 2) hx hb hts iX1 hown hK hP k62 rfl dX6_blank_4 ?_
  refine lv_istore_n (lv' := [(1, .int (v 2)), (0, .ref (q 0))]) hx hb dX6_blank_7 rfl hl (by decide) rfl (fun ls hl => ?_)
  refine lv_aload_n hx hb dX6_blank_8 rfl (lv_at hl 1 rfl) ?_
  refine xg_r0_1 hx hb hts iX6 hown hK hP k10 dX6_blank_9 ?_
  refine lv_iconst (v := (0 : Int32)) hx hb dX6_blank_12 (by decide) ?_
  refine xp_s2 hx hb hts iX1 hown hK hP hD hS k62 dX6_blank_13 (fun H locs hP hD hS => ?_)
  refine lv_iload_n hx hb dX6_blank_16 rfl (lv_at hl 0 rfl) ?_
  exact mi_ret (upd v 2 (0 : Int32), f, z) hx hb hr hlocks h hK hP hD hS dX6_blank_17
def wp_X6_fault (post : Int32 → (Nat → Int32) → (Nat → Nat → Int32) → Int64 → Prop) (v : Nat → Int32) (f : Nat → Nat → Int32) (z : Int64) : Prop := (wp_X2_read (fun r1 v2 f3 z4 => post r1 v2 f3 z4) v f z)
def rmX6_fault : Room := { frames := 11, cells := 0, slots := 0, locals := 464 }
set_option maxHeartbeats 4000000 in
set_option maxRecDepth 100000 in
theorem c_X6_fault (l : Launch) (D : va_G) (cI : ClassId) (q : Nat → Nat) (sz : Nat) {k t : Nat} (post : Int32 → (Nat → Int32) → (Nat → Nat → Int32) → Int64 → Prop) (v : Nat → Int32) (f : Nat → Nat → Int32) (z : Int64) (h : wp_X6_fault post v f z) : Met l yX6_fault wsX6_fault rmX6_fault (va_Pc [.ref (q 0)] (mPe k t D cI (wX cI q v f z) sz)) (mQi post D cI (wX cI q) (va_A (wX cI q v f z) sz)) 0 0 (va_A (wX cI q v f z) sz) := by
  refine Met.ofW (cc := cX6_fault) (maxL := 1) (ret := (some .int)) (by decide) rfl ?_
  intro p e s m args below meth c s₁ B hml hv
  obtain ⟨rfl, ⟨hsz, ⟨hP, hK, hN⟩, hD0⟩, hE⟩ := hv
  have hx := B.exec
  have hb := B.bytes
  have hr := B.returns
  have hts := atoms_spec (ws := wsX6_fault) B.pre
  have hown : s.vm.findClass RX6 = some m.cls := findClass_of_methodNamed B.named
  have hlocks : meth.locks = false := B.notSynchronized
  subst hsz
  have hD := hD0.self (sz := s.heap.size)
  generalize hAe : va_A (wX cI q v f z) s.heap.size = A at hD hE ⊢
  have hA : ∀ q : Nat, s.heap.size ≤ q → A q := fun q h => by rw [← hAe]; exact Or.inr h
  have hS : va_S A s.heap s.heap [] := va_S.rf
  have iX6 : ∀ w ∈ wsX60, w ∈ wsX6_fault := fun _ h9 => List.mem_cons_of_mem _ (List.mem_append_left _ (List.mem_append_left _ (List.mem_append_left _ (List.mem_append_right _ h9))))
  have k10 := hts (.fieldLink RX6 10 "EndedByOthers" "page" "LEndedByOthers$Page;") (by decide +kernel)
  have k19 := hts (.fieldLink RX6 19 "EndedByOthers" "reader" "LEndedByOthers$Reader;") (by decide +kernel)
  have hl := lv_entry ([.ref (q 0)]) (n := 1) (Nat.le_of_ble_eq_true rfl)
  rw [lg_entry_eq]
  generalize (lg_sl ([.ref (q 0)]) ++ List.replicate (1 - (lg_sl ([.ref (q 0)])).length) Slot.unset).toArray = ls at hl ⊢
  have hl : lv_has ls 1 [(0, .ref (q 0))] := hl
  unfold wp_X6_fault at h
  refine lv_aload_n hx hb dX6_fault_0 rfl (lv_at hl 0 rfl) ?_
  refine xg_r0_3 hx hb hts iX6 hown hK hP k19 dX6_fault_1 ?_
  refine lv_aload_n hx hb dX6_fault_4 rfl (lv_at hl 0 rfl) ?_
  refine xg_r0_1 hx hb hts iX6 hown hK hP k10 dX6_fault_5 ?_
  refine mV_ie ⟨hx, hb, hml, hown, hts⟩ (c_X2_read l D cI q _ _ _ _ _ h) (cwV 1 hts gX6_fault_X2_read rfl rfl rfl (by decide +kernel) ⟨Nat.le_of_ble_eq_true rfl, Nat.le_of_ble_eq_true rfl⟩) hK hP hN hD hS hA hE (va_recv hK hP (ci := 2) (q0 := 3) rfl rfl) rfl hl.1 (rest := []) rfl (Nat.le_of_ble_eq_true rfl) dX6_fault_8 (Nat.zero_le _) (Nat.zero_le _) (fun r1 v2 f3 z4 h H locs hP hD hS => ?_)
  exact mi_ret (v2, f3, z4) hx hb hr hlocks h hK hP hD hS dX6_fault_11
def wp_X6_room (post : Int32 → (Nat → Int32) → (Nat → Nat → Int32) → Int64 → Prop) (v : Nat → Int32) (f : Nat → Nat → Int32) (z : Int64) : Prop := (wp_X2_read (fun r1 v2 f3 z4 => ((r1 < (v2 2) → post (-103 : Int32) v2 f3 z4) ∧ (¬ r1 < (v2 2) → (wp_X2_hasWholeRoom (fun r5 => ((r5 = 0 → post (-103 : Int32) v2 f3 z4) ∧ (¬ r5 = 0 → (wp_X3_copyFrom (fun v7 f8 z9 => (wp_X4_start (fun v11 f12 z13 => post (v11 7) (upd (upd (upd v11 0 (0 : Int32)) 1 ((v11 1) + (1 : Int32))) 2 (0 : Int32)) f12 z13) v7 f8 z9)) v2 f3 z4)))) v2 f3 z4)))) v f z)
def rmX6_room : Room := { frames := 11, cells := 0, slots := 0, locals := 464 }
set_option maxHeartbeats 4000000 in
set_option maxRecDepth 100000 in
theorem c_X6_room (l : Launch) (D : va_G) (cI : ClassId) (q : Nat → Nat) (sz : Nat) {k t : Nat} (post : Int32 → (Nat → Int32) → (Nat → Nat → Int32) → Int64 → Prop) (v : Nat → Int32) (f : Nat → Nat → Int32) (z : Int64) (h : wp_X6_room post v f z) : Met l yX6_room wsX6_room rmX6_room (va_Pc [.ref (q 0)] (mPe k t D cI (wX cI q v f z) sz)) (mQi post D cI (wX cI q) (va_A (wX cI q v f z) sz)) 0 0 (va_A (wX cI q v f z) sz) := by
  refine Met.ofW (cc := cX6_room) (maxL := 1) (ret := (some .int)) (by decide) rfl ?_
  intro p e s m args below meth c s₁ B hml hv
  obtain ⟨rfl, ⟨hsz, ⟨hP, hK, hN⟩, hD0⟩, hE⟩ := hv
  have hx := B.exec
  have hb := B.bytes
  have hr := B.returns
  have hts := atoms_spec (ws := wsX6_room) B.pre
  have hown : s.vm.findClass RX6 = some m.cls := findClass_of_methodNamed B.named
  have hlocks : meth.locks = false := B.notSynchronized
  subst hsz
  have hD := hD0.self (sz := s.heap.size)
  generalize hAe : va_A (wX cI q v f z) s.heap.size = A at hD hE ⊢
  have hA : ∀ q : Nat, s.heap.size ≤ q → A q := fun q h => by rw [← hAe]; exact Or.inr h
  have hS : va_S A s.heap s.heap [] := va_S.rf
  have iX1 : ∀ w ∈ wsX10, w ∈ wsX6_room := fun _ h9 => List.mem_cons_of_mem _ (List.mem_append_left _ (List.mem_append_left _ (List.mem_append_left _ (List.mem_append_right _ h9))))
  have iX2 : ∀ w ∈ wsX20, w ∈ wsX6_room := fun _ h9 => List.mem_cons_of_mem _ (List.mem_append_left _ (List.mem_append_left _ (List.mem_append_right _ h9)))
  have iX3 : ∀ w ∈ wsX30, w ∈ wsX6_room := fun _ h9 => List.mem_cons_of_mem _ (List.mem_append_left _ (List.mem_append_right _ h9))
  have iX6 : ∀ w ∈ wsX60, w ∈ wsX6_room := fun _ h9 => List.mem_cons_of_mem _ (List.mem_append_left _ (List.mem_append_left _ (List.mem_append_left _ (List.mem_append_left _ (List.mem_append_right _ h9)))))
  have k10 := hts (.fieldLink RX6 10 "EndedByOthers" "page" "LEndedByOthers$Page;") (by decide +kernel)
  have k19 := hts (.fieldLink RX6 19 "EndedByOthers" "reader" "LEndedByOthers$Reader;") (by decide +kernel)
  have k26 := hts (.fieldLink RX6 26 "EndedByOthers" "room" "LEndedByOthers$Room;") (by decide +kernel)
  have k33 := hts (.fieldLink RX6 33 "EndedByOthers" "scene" "LEndedByOthers$Scene;") (by decide +kernel)
  have k54 := hts (.fieldLink RX6 54 "EndedByOthers" "imageKept" "Z") (by decide +kernel)
  have k58 := hts (.fieldLink RX6 58 "EndedByOthers" "roomsRead" "I") (by decide +kernel)
  have k62 := hts (.fieldLink RX6 62 "EndedByOthers$Page" "length" "I") (by decide +kernel)
  have k77 := hts (.fieldLink RX6 77 "EndedByOthers$Reader" "draft" "LEndedByOthers$Room;") (by decide +kernel)
  have k84 := hts (.fieldLink RX6 84 "EndedByOthers$Room" "wants" "[I") (by decide +kernel)
  have k92 := hts (.fieldLink RX6 92 "EndedByOthers$Room" "speakers" "I") (by decide +kernel)
  have hl := lv_entry ([.ref (q 0)]) (n := 1) (Nat.le_of_ble_eq_true rfl)
  rw [lg_entry_eq]
  generalize (lg_sl ([.ref (q 0)]) ++ List.replicate (1 - (lg_sl ([.ref (q 0)])).length) Slot.unset).toArray = ls at hl ⊢
  have hl : lv_has ls 1 [(0, .ref (q 0))] := hl
  unfold wp_X6_room at h
  refine lv_aload_n hx hb dX6_room_0 rfl (lv_at hl 0 rfl) ?_
  refine xg_r0_3 hx hb hts iX6 hown hK hP k19 dX6_room_1 ?_
  refine lv_aload_n hx hb dX6_room_4 rfl (lv_at hl 0 rfl) ?_
  refine xg_r0_1 hx hb hts iX6 hown hK hP k10 dX6_room_5 ?_
  refine mV_ie ⟨hx, hb, hml, hown, hts⟩ (c_X2_read l D cI q _ _ _ _ _ h) (cwV 1 hts gX6_room_X2_read rfl rfl rfl (by decide +kernel) ⟨Nat.le_of_ble_eq_true rfl, Nat.le_of_ble_eq_true rfl⟩) hK hP hN hD hS hA hE (va_recv hK hP (ci := 2) (q0 := 3) rfl rfl) rfl hl.1 (rest := []) rfl (Nat.le_of_ble_eq_true rfl) dX6_room_8 (Nat.zero_le _) (Nat.zero_le _) (fun r1 v2 f3 z4 h H locs hP hD hS => ?_)
  refine lv_aload_n hx hb dX6_room_11 rfl (lv_at hl 0 rfl) ?_
  refine xg_r0_1 hx hb hts iX6 hown hK hP k10 dX6_room_12 ?_
  refine xg_s2 (x := v2 2) hx hb hts iX1 hown hK hP k62 rfl dX6_room_15 ?_
  refine lv_icmp_lt (tgt := 31) hx hb dX6_room_18 (by decide) (fun c9 => ?_) (fun c9 => ?_)
  · have h := h.1 c9
    refine lv_bipush (v := (-103 : Int32)) hx hb dX6_room_31 (by decide) ?_
    exact mi_ret (v2, f3, z4) hx hb hr hlocks h hK hP hD hS dX6_room_33
  · have h := h.2 c9
    refine lv_aload_n hx hb dX6_room_21 rfl (lv_at hl 0 rfl) ?_
    refine xg_r0_3 hx hb hts iX6 hown hK hP k19 dX6_room_22 ?_
    refine rV_i ⟨hx, hb, hml, hown, hts⟩ (c_X2_hasWholeRoom l D cI q _ _ _ _ h) (cwV 0 hts gX6_room_X2_hasWholeRoom rfl rfl rfl (by decide +kernel) ⟨Nat.le_of_ble_eq_true rfl, Nat.le_of_ble_eq_true rfl⟩) hK hP hN (va_recv hK hP (ci := 2) (q0 := 3) rfl rfl) rfl hl.1 (rest := []) rfl (Nat.le_of_ble_eq_true rfl) dX6_room_25 (Nat.zero_le _) (Nat.zero_le _) (fun r5 h => ?_)
    refine lv_if_ne (tgt := 34) hx hb dX6_room_28 (by decide) (fun c9 => ?_) (fun c9 => ?_)
    · have h := h.2 c9
      refine lv_aload_n hx hb dX6_room_34 rfl (lv_at hl 0 rfl) ?_
      refine xg_r0_8 hx hb hts iX6 hown hK hP k26 dX6_room_35 ?_
      refine lv_aload_n hx hb dX6_room_38 rfl (lv_at hl 0 rfl) ?_
      refine xg_r0_3 hx hb hts iX6 hown hK hP k19 dX6_room_39 ?_
      refine xg_r3_4 hx hb hts iX2 hown hK hP k77 dX6_room_42 ?_
      refine mV_v ⟨hx, hb, hml, hown, hts⟩ (c_X3_copyFrom l D cI q _ _ _ _ _ h) (cwV 1 hts gX6_room_X3_copyFrom rfl rfl rfl (by decide +kernel) ⟨Nat.le_of_ble_eq_true rfl, Nat.le_of_ble_eq_true rfl⟩) hK hP hN hD hS hA (va_recv hK hP (ci := 3) (q0 := 8) rfl rfl) rfl hl.1 (rest := []) rfl (Nat.le_of_ble_eq_true rfl) dX6_room_45 (Nat.zero_le _) (Nat.zero_le _) (fun v7 f8 z9 h H locs hP hD hS => ?_)
      refine lv_aload_n hx hb dX6_room_48 rfl (lv_at hl 0 rfl) ?_
      refine xg_r0_12 hx hb hts iX6 hown hK hP k33 dX6_room_49 ?_
      refine lv_aload_n hx hb dX6_room_52 rfl (lv_at hl 0 rfl) ?_
      refine xg_r0_8 hx hb hts iX6 hown hK hP k26 dX6_room_53 ?_
      refine xg_r8_11 hx hb hts iX3 hown hK hP k84 dX6_room_56 ?_
      refine mV_v ⟨hx, hb, hml, hown, hts⟩ (c_X4_start l D cI q _ _ _ _ _ h) (cwV 1 hts gX6_room_X4_start rfl rfl rfl (by decide +kernel) ⟨Nat.le_of_ble_eq_true rfl, Nat.le_of_ble_eq_true rfl⟩) hK hP hN hD hS hA (va_recv hK hP (ci := 4) (q0 := 12) rfl rfl) rfl hl.1 (rest := []) rfl (Nat.le_of_ble_eq_true rfl) dX6_room_59 (Nat.zero_le _) (Nat.zero_le _) (fun v11 f12 z13 h H locs hP hD hS => ?_)
      refine lv_aload_n hx hb dX6_room_62 rfl (lv_at hl 0 rfl) ?_
      refine lv_iconst (v := (0 : Int32)) hx hb dX6_room_63 (by decide) ?_
      refine xp_s0 hx hb hts iX6 hown hK hP hD hS k54 rfl rfl dX6_room_64 (fun H locs hP hD hS => ?_)
      refine lv_aload_n hx hb dX6_room_67 rfl (lv_at hl 0 rfl) ?_
      refine lv_dup hx hb dX6_room_68 rfl ?_
      refine xg_s1 (x := v11 1) hx hb hts iX6 hown hK hP k58 rfl dX6_room_69 ?_
      refine lv_iconst (v := (1 : Int32)) hx hb dX6_room_72 (by decide) ?_
      refine lv_iadd hx hb dX6_room_73 ?_
      refine xp_s1 hx hb hts iX6 hown hK hP hD hS k58 dX6_room_74 (fun H locs hP hD hS => ?_)
      refine lv_aload_n hx hb dX6_room_77 rfl (lv_at hl 0 rfl) ?_
      refine xg_r0_1 hx hb hts iX6 hown hK hP k10 dX6_room_78 ?_
      refine lv_iconst (v := (0 : Int32)) hx hb dX6_room_81 (by decide) ?_
      refine xp_s2 hx hb hts iX1 hown hK hP hD hS k62 dX6_room_82 (fun H locs hP hD hS => ?_)
      refine lv_aload_n hx hb dX6_room_85 rfl (lv_at hl 0 rfl) ?_
      refine xg_r0_8 hx hb hts iX6 hown hK hP k26 dX6_room_86 ?_
      refine xg_s7 (x := v11 7) hx hb hts iX3 hown hK hP k92 rfl dX6_room_89 ?_
      exact mi_ret (upd (upd (upd v11 0 (0 : Int32)) 1 ((v11 1) + (1 : Int32))) 2 (0 : Int32), f12, z13) hx hb hr hlocks h hK hP hD hS dX6_room_92
    · have h := h.1 c9
      refine lv_bipush (v := (-103 : Int32)) hx hb dX6_room_31 (by decide) ?_
      exact mi_ret (v2, f3, z4) hx hb hr hlocks h hK hP hD hS dX6_room_33
def wp_X6_fits (post : Int32 → Prop) (v : Nat → Int32) (f : Nat → Nat → Int32) (z : Int64) (a0 : Int32) : Prop := (((v 7) ≤ 0 → post (-101 : Int32)) ∧ (¬ (v 7) ≤ 0 → (wp_X6_isOpening (fun r1 => ((r1 = 0 → post (-101 : Int32)) ∧ (¬ r1 = 0 → (vp_in a0 4 ∧ post (f 4 (a0).toNatClampNeg))))) a0)))
def rmX6_fits : Room := { frames := 1, cells := 0, slots := 0, locals := 20 }
set_option maxHeartbeats 4000000 in
set_option maxRecDepth 100000 in
theorem c_X6_fits (l : Launch) (D : va_G) (cI : ClassId) (q : Nat → Nat) (post : Int32 → Prop) (v : Nat → Int32) (f : Nat → Nat → Int32) (z : Int64) (a0 : Int32) (h : wp_X6_fits post v f z a0) : Met l yX6_fits wsX6_fits rmX6_fits (va_Pc [.ref (q 0), .int a0] (rP D cI (wX cI q v f z))) (sQ post) 0 0 (fun _ => False) := by
  refine Met.ofW (cc := cX6_fits) (maxL := 2) (ret := (some .int)) (by decide) rfl ?_
  intro p e s m args below meth c s₁ B hml hv
  obtain ⟨rfl, hP, hK, hN⟩ := hv
  have hx := B.exec
  have hb := B.bytes
  have hr := B.returns
  have hts := atoms_spec (ws := wsX6_fits) B.pre
  have hown : s.vm.findClass RX6 = some m.cls := findClass_of_methodNamed B.named
  have hlocks : meth.locks = false := B.notSynchronized
  have iX3 : ∀ w ∈ wsX30, w ∈ wsX6_fits := fun _ h9 => List.mem_cons_of_mem _ (List.mem_append_right _ h9)
  have iX6 : ∀ w ∈ wsX60, w ∈ wsX6_fits := fun _ h9 => List.mem_cons_of_mem _ (List.mem_append_left _ (List.mem_append_right _ h9))
  have k26 := hts (.fieldLink RX6 26 "EndedByOthers" "room" "LEndedByOthers$Room;") (by decide +kernel)
  have k92 := hts (.fieldLink RX6 92 "EndedByOthers$Room" "speakers" "I") (by decide +kernel)
  have k99 := hts (.fieldLink RX6 99 "EndedByOthers$Room" "fitting" "[I") (by decide +kernel)
  have hl := lv_entry ([.ref (q 0), .int a0]) (n := 2) (Nat.le_of_ble_eq_true rfl)
  rw [lg_entry_eq]
  generalize (lg_sl ([.ref (q 0), .int a0]) ++ List.replicate (2 - (lg_sl ([.ref (q 0), .int a0])).length) Slot.unset).toArray = ls at hl ⊢
  have hl : lv_has ls 2 [(0, .ref (q 0)), (1, .int a0)] := hl
  unfold wp_X6_fits at h
  refine lv_aload_n hx hb dX6_fits_0 rfl (lv_at hl 0 rfl) ?_
  refine xg_r0_8 hx hb hts iX6 hown hK hP k26 dX6_fits_1 ?_
  refine xg_s7 (x := v 7) hx hb hts iX3 hown hK hP k92 rfl dX6_fits_4 ?_
  refine lv_if_le (tgt := 29) hx hb dX6_fits_7 (by decide) (fun c9 => ?_) (fun c9 => ?_)
  · have h := h.1 c9
    refine lv_bipush (v := (-101 : Int32)) hx hb dX6_fits_29 (by decide) ?_
    exact ri_ret hx hb hr hlocks h dX6_fits_31
  · have h := h.2 c9
    refine lv_iload_n hx hb dX6_fits_10 rfl (lv_at hl 1 rfl) ?_
    refine rS_i ⟨hx, hb, hml, hown, hts⟩ (c_X6_isOpening l D cI _ _ h) (va_cwS 1 hts gX6_fits_X6_isOpening rfl rfl rfl (by decide +kernel) ⟨Nat.le_of_ble_eq_true rfl, Nat.le_of_ble_eq_true rfl⟩) hK wPnil hN rfl hl.1 (rest := []) rfl (Nat.le_of_ble_eq_true rfl) dX6_fits_11 (Nat.zero_le _) (Nat.zero_le _) (fun r1 h => ?_)
    refine lv_if_eq (tgt := 29) hx hb dX6_fits_14 (by decide) (fun c9 => ?_) (fun c9 => ?_)
    · have h := h.1 c9
      refine lv_bipush (v := (-101 : Int32)) hx hb dX6_fits_29 (by decide) ?_
      exact ri_ret hx hb hr hlocks h dX6_fits_31
    · have h := h.2 c9
      refine lv_aload_n hx hb dX6_fits_17 rfl (lv_at hl 0 rfl) ?_
      refine xg_r0_8 hx hb hts iX6 hown hK hP k26 dX6_fits_18 ?_
      refine xg_r8_9 hx hb hts iX3 hown hK hP k99 dX6_fits_21 ?_
      refine lv_iload_n hx hb dX6_fits_24 rfl (lv_at hl 1 rfl) ?_
      obtain ⟨h9, h⟩ := h
      refine xal_4 (x := f 4 (a0).toNatClampNeg) hx hb hK hP h9 rfl dX6_fits_25 ?_
      refine lv_goto (tgt := 31) hx hb dX6_fits_26 (by decide) ?_
      exact ri_ret hx hb hr hlocks h dX6_fits_31
def wp_X6_about (post : Int32 → Prop) (v : Nat → Int32) (f : Nat → Nat → Int32) (z : Int64) (a0 : Int32) (a1 : Int32) : Prop := (wp_X6_isSpeaker (fun r1 => ((r1 = 0 → post (-101 : Int32)) ∧ (¬ r1 = 0 → ((a1 = 0 → (vp_in a0 4 ∧ post (f 5 (a0).toNatClampNeg))) ∧ (a1 = 1 → (vp_in a0 4 ∧ post (f 7 (a0).toNatClampNeg))) ∧ (a1 = 2 → (wp_X4_usedBy (fun r2 => post r2) v f z a0)) ∧ (a1 = 3 → (wp_X4_openOf (fun r3 => post r3) v f z a0)) ∧ (a1 = 4 → (wp_X4_howManyBegunBy (fun r4 => post r4) v f z a0)) ∧ (a1 = 5 → (wp_X4_howManyEndedBy (fun r5 => post r5) v f z a0)) ∧ (a1 = 6 → (wp_X6_sureOpening (fun r6 => post r6) v f z a0)) ∧ (a1 = 7 → (wp_X6_possibleKinds (fun r7 => post r7) v f z a0)) ∧ (a1 = 8 → (wp_X6_possibleKinds (fun r8 => (wp_X6_tellingOpening (fun r9 => post r9) v f z a0 r8)) v f z a0)) ∧ (((a1).toInt < 0 ∨ 8 < (a1).toInt) → post (-102 : Int32)))))) v f z a0)
def rmX6_about : Room := { frames := 5, cells := 0, slots := 0, locals := 114 }
set_option maxHeartbeats 4000000 in
set_option maxRecDepth 100000 in
theorem c_X6_about (l : Launch) (D : va_G) (cI : ClassId) (q : Nat → Nat) (post : Int32 → Prop) (v : Nat → Int32) (f : Nat → Nat → Int32) (z : Int64) (a0 : Int32) (a1 : Int32) (h : wp_X6_about post v f z a0 a1) : Met l yX6_about wsX6_about rmX6_about (va_Pc [.ref (q 0), .int a0, .int a1] (rP D cI (wX cI q v f z))) (sQ post) 0 0 (fun _ => False) := by
  refine Met.ofW (cc := cX6_about) (maxL := 3) (ret := (some .int)) (by decide) rfl ?_
  intro p e s m args below meth c s₁ B hml hv
  obtain ⟨rfl, hP, hK, hN⟩ := hv
  have hx := B.exec
  have hb := B.bytes
  have hr := B.returns
  have hts := atoms_spec (ws := wsX6_about) B.pre
  have hown : s.vm.findClass RX6 = some m.cls := findClass_of_methodNamed B.named
  have hlocks : meth.locks = false := B.notSynchronized
  have iX3 : ∀ w ∈ wsX30, w ∈ wsX6_about := fun _ h9 => List.mem_cons_of_mem _ (List.mem_append_left _ (List.mem_append_right _ h9))
  have iX4 : ∀ w ∈ wsX40, w ∈ wsX6_about := fun _ h9 => List.mem_cons_of_mem _ (List.mem_append_right _ h9)
  have iX6 : ∀ w ∈ wsX60, w ∈ wsX6_about := fun _ h9 => List.mem_cons_of_mem _ (List.mem_append_left _ (List.mem_append_left _ (List.mem_append_right _ h9)))
  have k105 := hts (.fieldLink RX6 105 "EndedByOthers$Room" "kinds" "[I") (by decide +kernel)
  have k108 := hts (.fieldLink RX6 108 "EndedByOthers$Scene" "wants" "[I") (by decide +kernel)
  have k26 := hts (.fieldLink RX6 26 "EndedByOthers" "room" "LEndedByOthers$Room;") (by decide +kernel)
  have k33 := hts (.fieldLink RX6 33 "EndedByOthers" "scene" "LEndedByOthers$Scene;") (by decide +kernel)
  have hl := lv_entry ([.ref (q 0), .int a0, .int a1]) (n := 3) (Nat.le_of_ble_eq_true rfl)
  rw [lg_entry_eq]
  generalize (lg_sl ([.ref (q 0), .int a0, .int a1]) ++ List.replicate (3 - (lg_sl ([.ref (q 0), .int a0, .int a1])).length) Slot.unset).toArray = ls at hl ⊢
  have hl : lv_has ls 3 [(0, .ref (q 0)), (1, .int a0), (2, .int a1)] := hl
  unfold wp_X6_about at h
  refine lv_aload_n hx hb dX6_about_0 rfl (lv_at hl 0 rfl) ?_
  refine lv_iload_n hx hb dX6_about_1 rfl (lv_at hl 1 rfl) ?_
  refine rV_i ⟨hx, hb, hml, hown, hts⟩ (c_X6_isSpeaker l D cI q _ _ _ _ _ h) (cwV 1 hts gX6_about_X6_isSpeaker rfl rfl rfl (by decide +kernel) ⟨Nat.le_of_ble_eq_true rfl, Nat.le_of_ble_eq_true rfl⟩) hK hP hN (va_recv hK hP (ci := 6) (q0 := 0) rfl rfl) rfl hl.1 (rest := []) rfl (Nat.le_of_ble_eq_true rfl) dX6_about_2 (Nat.zero_le _) (Nat.zero_le _) (fun r1 h => ?_)
  refine lv_if_ne (tgt := 11) hx hb dX6_about_5 (by decide) (fun c9 => ?_) (fun c9 => ?_)
  · have h := h.2 c9
    refine lv_iload_n hx hb dX6_about_11 rfl (lv_at hl 2 rfl) ?_
    rcases sw_0_8 (a1) with c9 | c9 | c9 | c9 | c9 | c9 | c9 | c9 | c9 | c9
    · have h := h.1 c9
      refine lv_tableIn (off := 52) (tgt := 64) hx hb dX6_about_12 (by rw [c9]; decide) (by rw [c9]; decide) (by rw [c9]; decide) (by decide) ?_
      refine lv_aload_n hx hb dX6_about_64 rfl (lv_at hl 0 rfl) ?_
      refine xg_r0_8 hx hb hts iX6 hown hK hP k26 dX6_about_65 ?_
      refine xg_r8_10 hx hb hts iX3 hown hK hP k105 dX6_about_68 ?_
      refine lv_iload_n hx hb dX6_about_71 rfl (lv_at hl 1 rfl) ?_
      obtain ⟨h9, h⟩ := h
      refine xal_5 (x := f 5 (a0).toNatClampNeg) hx hb hK hP h9 rfl dX6_about_72 ?_
      exact ri_ret hx hb hr hlocks h dX6_about_73
    · have h := h.2.1 c9
      refine lv_tableIn (off := 62) (tgt := 74) hx hb dX6_about_12 (by rw [c9]; decide) (by rw [c9]; decide) (by rw [c9]; decide) (by decide) ?_
      refine lv_aload_n hx hb dX6_about_74 rfl (lv_at hl 0 rfl) ?_
      refine xg_r0_12 hx hb hts iX6 hown hK hP k33 dX6_about_75 ?_
      refine xg_r12_13 hx hb hts iX4 hown hK hP k108 dX6_about_78 ?_
      refine lv_iload_n hx hb dX6_about_81 rfl (lv_at hl 1 rfl) ?_
      obtain ⟨h9, h⟩ := h
      refine xal_7 (x := f 7 (a0).toNatClampNeg) hx hb hK hP h9 rfl dX6_about_82 ?_
      exact ri_ret hx hb hr hlocks h dX6_about_83
    · have h := h.2.2.1 c9
      refine lv_tableIn (off := 72) (tgt := 84) hx hb dX6_about_12 (by rw [c9]; decide) (by rw [c9]; decide) (by rw [c9]; decide) (by decide) ?_
      refine lv_aload_n hx hb dX6_about_84 rfl (lv_at hl 0 rfl) ?_
      refine xg_r0_12 hx hb hts iX6 hown hK hP k33 dX6_about_85 ?_
      refine lv_iload_n hx hb dX6_about_88 rfl (lv_at hl 1 rfl) ?_
      refine rV_i ⟨hx, hb, hml, hown, hts⟩ (c_X4_usedBy l D cI q _ _ _ _ _ h) (cwV 1 hts gX6_about_X4_usedBy rfl rfl rfl (by decide +kernel) ⟨Nat.le_of_ble_eq_true rfl, Nat.le_of_ble_eq_true rfl⟩) hK hP hN (va_recv hK hP (ci := 4) (q0 := 12) rfl rfl) rfl hl.1 (rest := []) rfl (Nat.le_of_ble_eq_true rfl) dX6_about_89 (Nat.zero_le _) (Nat.zero_le _) (fun r2 h => ?_)
      exact ri_ret hx hb hr hlocks h dX6_about_92
    · have h := h.2.2.2.1 c9
      refine lv_tableIn (off := 81) (tgt := 93) hx hb dX6_about_12 (by rw [c9]; decide) (by rw [c9]; decide) (by rw [c9]; decide) (by decide) ?_
      refine lv_aload_n hx hb dX6_about_93 rfl (lv_at hl 0 rfl) ?_
      refine xg_r0_12 hx hb hts iX6 hown hK hP k33 dX6_about_94 ?_
      refine lv_iload_n hx hb dX6_about_97 rfl (lv_at hl 1 rfl) ?_
      refine rV_i ⟨hx, hb, hml, hown, hts⟩ (c_X4_openOf l D cI q _ _ _ _ _ h) (cwV 1 hts gX6_about_X4_openOf rfl rfl rfl (by decide +kernel) ⟨Nat.le_of_ble_eq_true rfl, Nat.le_of_ble_eq_true rfl⟩) hK hP hN (va_recv hK hP (ci := 4) (q0 := 12) rfl rfl) rfl hl.1 (rest := []) rfl (Nat.le_of_ble_eq_true rfl) dX6_about_98 (Nat.zero_le _) (Nat.zero_le _) (fun r3 h => ?_)
      exact ri_ret hx hb hr hlocks h dX6_about_101
    · have h := h.2.2.2.2.1 c9
      refine lv_tableIn (off := 90) (tgt := 102) hx hb dX6_about_12 (by rw [c9]; decide) (by rw [c9]; decide) (by rw [c9]; decide) (by decide) ?_
      refine lv_aload_n hx hb dX6_about_102 rfl (lv_at hl 0 rfl) ?_
      refine xg_r0_12 hx hb hts iX6 hown hK hP k33 dX6_about_103 ?_
      refine lv_iload_n hx hb dX6_about_106 rfl (lv_at hl 1 rfl) ?_
      refine rV_i ⟨hx, hb, hml, hown, hts⟩ (c_X4_howManyBegunBy l D cI q _ _ _ _ _ h) (cwV 1 hts gX6_about_X4_howManyBegunBy rfl rfl rfl (by decide +kernel) ⟨Nat.le_of_ble_eq_true rfl, Nat.le_of_ble_eq_true rfl⟩) hK hP hN (va_recv hK hP (ci := 4) (q0 := 12) rfl rfl) rfl hl.1 (rest := []) rfl (Nat.le_of_ble_eq_true rfl) dX6_about_107 (Nat.zero_le _) (Nat.zero_le _) (fun r4 h => ?_)
      exact ri_ret hx hb hr hlocks h dX6_about_110
    · have h := h.2.2.2.2.2.1 c9
      refine lv_tableIn (off := 99) (tgt := 111) hx hb dX6_about_12 (by rw [c9]; decide) (by rw [c9]; decide) (by rw [c9]; decide) (by decide) ?_
      refine lv_aload_n hx hb dX6_about_111 rfl (lv_at hl 0 rfl) ?_
      refine xg_r0_12 hx hb hts iX6 hown hK hP k33 dX6_about_112 ?_
      refine lv_iload_n hx hb dX6_about_115 rfl (lv_at hl 1 rfl) ?_
      refine rV_i ⟨hx, hb, hml, hown, hts⟩ (c_X4_howManyEndedBy l D cI q _ _ _ _ _ h) (cwV 1 hts gX6_about_X4_howManyEndedBy rfl rfl rfl (by decide +kernel) ⟨Nat.le_of_ble_eq_true rfl, Nat.le_of_ble_eq_true rfl⟩) hK hP hN (va_recv hK hP (ci := 4) (q0 := 12) rfl rfl) rfl hl.1 (rest := []) rfl (Nat.le_of_ble_eq_true rfl) dX6_about_116 (Nat.zero_le _) (Nat.zero_le _) (fun r5 h => ?_)
      exact ri_ret hx hb hr hlocks h dX6_about_119
    · have h := h.2.2.2.2.2.2.1 c9
      refine lv_tableIn (off := 108) (tgt := 120) hx hb dX6_about_12 (by rw [c9]; decide) (by rw [c9]; decide) (by rw [c9]; decide) (by decide) ?_
      refine lv_aload_n hx hb dX6_about_120 rfl (lv_at hl 0 rfl) ?_
      refine lv_iload_n hx hb dX6_about_121 rfl (lv_at hl 1 rfl) ?_
      refine rV_i ⟨hx, hb, hml, hown, hts⟩ (c_X6_sureOpening l D cI q _ _ _ _ _ h) (cwV 1 hts gX6_about_X6_sureOpening rfl rfl rfl (by decide +kernel) ⟨Nat.le_of_ble_eq_true rfl, Nat.le_of_ble_eq_true rfl⟩) hK hP hN (va_recv hK hP (ci := 6) (q0 := 0) rfl rfl) rfl hl.1 (rest := []) rfl (Nat.le_of_ble_eq_true rfl) dX6_about_122 (Nat.zero_le _) (Nat.zero_le _) (fun r6 h => ?_)
      exact ri_ret hx hb hr hlocks h dX6_about_125
    · have h := h.2.2.2.2.2.2.2.1 c9
      refine lv_tableIn (off := 114) (tgt := 126) hx hb dX6_about_12 (by rw [c9]; decide) (by rw [c9]; decide) (by rw [c9]; decide) (by decide) ?_
      refine lv_aload_n hx hb dX6_about_126 rfl (lv_at hl 0 rfl) ?_
      refine lv_iload_n hx hb dX6_about_127 rfl (lv_at hl 1 rfl) ?_
      refine rV_i ⟨hx, hb, hml, hown, hts⟩ (c_X6_possibleKinds l D cI q _ _ _ _ _ h) (cwV 1 hts gX6_about_X6_possibleKinds rfl rfl rfl (by decide +kernel) ⟨Nat.le_of_ble_eq_true rfl, Nat.le_of_ble_eq_true rfl⟩) hK hP hN (va_recv hK hP (ci := 6) (q0 := 0) rfl rfl) rfl hl.1 (rest := []) rfl (Nat.le_of_ble_eq_true rfl) dX6_about_128 (Nat.zero_le _) (Nat.zero_le _) (fun r7 h => ?_)
      exact ri_ret hx hb hr hlocks h dX6_about_131
    · have h := h.2.2.2.2.2.2.2.2.1 c9
      refine lv_tableIn (off := 120) (tgt := 132) hx hb dX6_about_12 (by rw [c9]; decide) (by rw [c9]; decide) (by rw [c9]; decide) (by decide) ?_
      refine lv_aload_n hx hb dX6_about_132 rfl (lv_at hl 0 rfl) ?_
      refine lv_iload_n hx hb dX6_about_133 rfl (lv_at hl 1 rfl) ?_
      refine lv_aload_n hx hb dX6_about_134 rfl (lv_at hl 0 rfl) ?_
      refine lv_iload_n hx hb dX6_about_135 rfl (lv_at hl 1 rfl) ?_
      refine rV_i ⟨hx, hb, hml, hown, hts⟩ (c_X6_possibleKinds l D cI q _ _ _ _ _ h) (cwV 1 hts gX6_about_X6_possibleKinds rfl rfl rfl (by decide +kernel) ⟨Nat.le_of_ble_eq_true rfl, Nat.le_of_ble_eq_true rfl⟩) hK hP hN (va_recv hK hP (ci := 6) (q0 := 0) rfl rfl) rfl hl.1 (rest := [.int a0, .ref (q 0)]) rfl (Nat.le_of_ble_eq_true rfl) dX6_about_136 (Nat.zero_le _) (Nat.zero_le _) (fun r8 h => ?_)
      refine rV_i ⟨hx, hb, hml, hown, hts⟩ (c_X6_tellingOpening l D cI q _ _ _ _ _ _ h) (cwV 2 hts gX6_about_X6_tellingOpening rfl rfl rfl (by decide +kernel) ⟨Nat.le_of_ble_eq_true rfl, Nat.le_of_ble_eq_true rfl⟩) hK hP hN (va_recv hK hP (ci := 6) (q0 := 0) rfl rfl) rfl hl.1 (rest := []) rfl (Nat.le_of_ble_eq_true rfl) dX6_about_139 (Nat.zero_le _) (Nat.zero_le _) (fun r9 h => ?_)
      exact ri_ret hx hb hr hlocks h dX6_about_142
    · have h := h.2.2.2.2.2.2.2.2.2 c9
      refine lv_tableOut (tgt := 143) hx hb dX6_about_12 c9 (by decide) ?_
      refine lv_bipush (v := (-102 : Int32)) hx hb dX6_about_143 (by decide) ?_
      exact ri_ret hx hb hr hlocks h dX6_about_145
  · have h := h.1 c9
    refine lv_bipush (v := (-101 : Int32)) hx hb dX6_about_8 (by decide) ?_
    exact ri_ret hx hb hr hlocks h dX6_about_10
def wp_X6_as (post : Int32 → Prop) (v : Nat → Int32) (f : Nat → Nat → Int32) (z : Int64) (a0 : Int32) (a1 : Int32) : Prop := (wp_X6_isSpeaker (fun r1 => ((r1 = 0 → post (-101 : Int32)) ∧ (¬ r1 = 0 → ((a1 < 0 → post (-102 : Int32)) ∧ (¬ a1 < 0 → ((a1 < (5 : Int32) → (vp_in a0 4 ∧ (wp_X6_isOfKind (fun r2 => ((r2 = 0 → post (-1 : Int32)) ∧ (¬ r2 = 0 → post a0))) (f 5 (a0).toNatClampNeg) a1))) ∧ (¬ a1 < (5 : Int32) → post (-102 : Int32)))))))) v f z a0)
def rmX6_as : Room := { frames := 1, cells := 0, slots := 0, locals := 21 }
set_option maxHeartbeats 4000000 in
set_option maxRecDepth 100000 in
theorem c_X6_as (l : Launch) (D : va_G) (cI : ClassId) (q : Nat → Nat) (post : Int32 → Prop) (v : Nat → Int32) (f : Nat → Nat → Int32) (z : Int64) (a0 : Int32) (a1 : Int32) (h : wp_X6_as post v f z a0 a1) : Met l yX6_as wsX6_as rmX6_as (va_Pc [.ref (q 0), .int a0, .int a1] (rP D cI (wX cI q v f z))) (sQ post) 0 0 (fun _ => False) := by
  refine Met.ofW (cc := cX6_as) (maxL := 3) (ret := (some .int)) (by decide) rfl ?_
  intro p e s m args below meth c s₁ B hml hv
  obtain ⟨rfl, hP, hK, hN⟩ := hv
  have hx := B.exec
  have hb := B.bytes
  have hr := B.returns
  have hts := atoms_spec (ws := wsX6_as) B.pre
  have hown : s.vm.findClass RX6 = some m.cls := findClass_of_methodNamed B.named
  have hlocks : meth.locks = false := B.notSynchronized
  have iX3 : ∀ w ∈ wsX30, w ∈ wsX6_as := fun _ h9 => List.mem_cons_of_mem _ (List.mem_append_right _ h9)
  have iX6 : ∀ w ∈ wsX60, w ∈ wsX6_as := fun _ h9 => List.mem_cons_of_mem _ (List.mem_append_left _ (List.mem_append_right _ h9))
  have k105 := hts (.fieldLink RX6 105 "EndedByOthers$Room" "kinds" "[I") (by decide +kernel)
  have k26 := hts (.fieldLink RX6 26 "EndedByOthers" "room" "LEndedByOthers$Room;") (by decide +kernel)
  have hl := lv_entry ([.ref (q 0), .int a0, .int a1]) (n := 3) (Nat.le_of_ble_eq_true rfl)
  rw [lg_entry_eq]
  generalize (lg_sl ([.ref (q 0), .int a0, .int a1]) ++ List.replicate (3 - (lg_sl ([.ref (q 0), .int a0, .int a1])).length) Slot.unset).toArray = ls at hl ⊢
  have hl : lv_has ls 3 [(0, .ref (q 0)), (1, .int a0), (2, .int a1)] := hl
  unfold wp_X6_as at h
  refine lv_aload_n hx hb dX6_as_0 rfl (lv_at hl 0 rfl) ?_
  refine lv_iload_n hx hb dX6_as_1 rfl (lv_at hl 1 rfl) ?_
  refine rV_i ⟨hx, hb, hml, hown, hts⟩ (c_X6_isSpeaker l D cI q _ _ _ _ _ h) (cwV 1 hts gX6_as_X6_isSpeaker rfl rfl rfl (by decide +kernel) ⟨Nat.le_of_ble_eq_true rfl, Nat.le_of_ble_eq_true rfl⟩) hK hP hN (va_recv hK hP (ci := 6) (q0 := 0) rfl rfl) rfl hl.1 (rest := []) rfl (Nat.le_of_ble_eq_true rfl) dX6_as_2 (Nat.zero_le _) (Nat.zero_le _) (fun r1 h => ?_)
  refine lv_if_ne (tgt := 11) hx hb dX6_as_5 (by decide) (fun c9 => ?_) (fun c9 => ?_)
  · have h := h.2 c9
    refine lv_iload_n hx hb dX6_as_11 rfl (lv_at hl 2 rfl) ?_
    refine lv_if_lt (tgt := 20) hx hb dX6_as_12 (by decide) (fun c9 => ?_) (fun c9 => ?_)
    · have h := h.1 c9
      refine lv_bipush (v := (-102 : Int32)) hx hb dX6_as_20 (by decide) ?_
      exact ri_ret hx hb hr hlocks h dX6_as_22
    · have h := h.2 c9
      refine lv_iload_n hx hb dX6_as_15 rfl (lv_at hl 2 rfl) ?_
      refine lv_iconst (v := (5 : Int32)) hx hb dX6_as_16 (by decide) ?_
      refine lv_icmp_lt (tgt := 23) hx hb dX6_as_17 (by decide) (fun c9 => ?_) (fun c9 => ?_)
      · have h := h.1 c9
        refine lv_aload_n hx hb dX6_as_23 rfl (lv_at hl 0 rfl) ?_
        refine xg_r0_8 hx hb hts iX6 hown hK hP k26 dX6_as_24 ?_
        refine xg_r8_10 hx hb hts iX3 hown hK hP k105 dX6_as_27 ?_
        refine lv_iload_n hx hb dX6_as_30 rfl (lv_at hl 1 rfl) ?_
        obtain ⟨h9, h⟩ := h
        refine xal_5 (x := f 5 (a0).toNatClampNeg) hx hb hK hP h9 rfl dX6_as_31 ?_
        refine lv_iload_n hx hb dX6_as_32 rfl (lv_at hl 2 rfl) ?_
        refine rS_i ⟨hx, hb, hml, hown, hts⟩ (c_X6_isOfKind l D cI _ _ _ h) (va_cwS 2 hts gX6_as_X6_isOfKind rfl rfl rfl (by decide +kernel) ⟨Nat.le_of_ble_eq_true rfl, Nat.le_of_ble_eq_true rfl⟩) hK wPnil hN rfl hl.1 (rest := []) rfl (Nat.le_of_ble_eq_true rfl) dX6_as_33 (Nat.zero_le _) (Nat.zero_le _) (fun r2 h => ?_)
        refine lv_if_eq (tgt := 43) hx hb dX6_as_36 (by decide) (fun c9 => ?_) (fun c9 => ?_)
        · have h := h.1 c9
          refine lv_iconst (v := (-1 : Int32)) hx hb dX6_as_43 (by decide) ?_
          exact ri_ret hx hb hr hlocks h dX6_as_44
        · have h := h.2 c9
          refine lv_iload_n hx hb dX6_as_39 rfl (lv_at hl 1 rfl) ?_
          refine lv_goto (tgt := 44) hx hb dX6_as_40 (by decide) ?_
          exact ri_ret hx hb hr hlocks h dX6_as_44
      · have h := h.2 c9
        refine lv_bipush (v := (-102 : Int32)) hx hb dX6_as_20 (by decide) ?_
        exact ri_ret hx hb hr hlocks h dX6_as_22
  · have h := h.1 c9
    refine lv_bipush (v := (-101 : Int32)) hx hb dX6_as_8 (by decide) ?_
    exact ri_ret hx hb hr hlocks h dX6_as_10
def wp_X6_want (post : Int32 → (Nat → Int32) → (Nat → Nat → Int32) → Int64 → Prop) (v : Nat → Int32) (f : Nat → Nat → Int32) (z : Int64) (a0 : Int32) (a1 : Int32) : Prop := (wp_X6_isSpeaker (fun r1 => ((r1 = 0 → post (-101 : Int32) v f z) ∧ (¬ r1 = 0 → (wp_X6_isEnding (fun r2 => ((r2 = 0 → post (-102 : Int32) v f z) ∧ (¬ r2 = 0 → (vp_in a0 4 ∧ (vp_in a0 4 ∧ post (f 7 (a0).toNatClampNeg) (upd v 10 ((v 10) + (1 : Int32))) (va_up f 7 (upd (f 7) (a0).toNatClampNeg a1)) z))))) a1)))) v f z a0)
def rmX6_want : Room := { frames := 1, cells := 0, slots := 0, locals := 21 }
set_option maxHeartbeats 4000000 in
set_option maxRecDepth 100000 in
theorem c_X6_want (l : Launch) (D : va_G) (cI : ClassId) (q : Nat → Nat) (sz : Nat) (post : Int32 → (Nat → Int32) → (Nat → Nat → Int32) → Int64 → Prop) (v : Nat → Int32) (f : Nat → Nat → Int32) (z : Int64) (a0 : Int32) (a1 : Int32) (h : wp_X6_want post v f z a0 a1) : Met l yX6_want wsX6_want rmX6_want (va_Pc [.ref (q 0), .int a0, .int a1] (mP D cI (wX cI q v f z) sz)) (mQi post D cI (wX cI q) (va_A (wX cI q v f z) sz)) 0 0 (va_A (wX cI q v f z) sz) := by
  refine Met.ofW (cc := cX6_want) (maxL := 4) (ret := (some .int)) (by decide) rfl ?_
  intro p e s m args below meth c s₁ B hml hv
  obtain ⟨rfl, hsz, ⟨hP, hK, hN⟩, hD0⟩ := hv
  have hx := B.exec
  have hb := B.bytes
  have hr := B.returns
  have hts := atoms_spec (ws := wsX6_want) B.pre
  have hown : s.vm.findClass RX6 = some m.cls := findClass_of_methodNamed B.named
  have hlocks : meth.locks = false := B.notSynchronized
  subst hsz
  have hD := hD0.self (sz := s.heap.size)
  generalize hAe : va_A (wX cI q v f z) s.heap.size = A at hD ⊢
  have hA : ∀ q : Nat, s.heap.size ≤ q → A q := fun q h => by rw [← hAe]; exact Or.inr h
  have hS : va_S A s.heap s.heap [] := va_S.rf
  have iX4 : ∀ w ∈ wsX40, w ∈ wsX6_want := fun _ h9 => List.mem_cons_of_mem _ (List.mem_append_left _ (List.mem_append_right _ h9))
  have iX6 : ∀ w ∈ wsX60, w ∈ wsX6_want := fun _ h9 => List.mem_cons_of_mem _ (List.mem_append_left _ (List.mem_append_left _ (List.mem_append_right _ h9)))
  have k108 := hts (.fieldLink RX6 108 "EndedByOthers$Scene" "wants" "[I") (by decide +kernel)
  have k139 := hts (.fieldLink RX6 139 "EndedByOthers$Scene" "changes" "I") (by decide +kernel)
  have k33 := hts (.fieldLink RX6 33 "EndedByOthers" "scene" "LEndedByOthers$Scene;") (by decide +kernel)
  have hl := lv_entry ([.ref (q 0), .int a0, .int a1]) (n := 4) (Nat.le_of_ble_eq_true rfl)
  rw [lg_entry_eq]
  generalize (lg_sl ([.ref (q 0), .int a0, .int a1]) ++ List.replicate (4 - (lg_sl ([.ref (q 0), .int a0, .int a1])).length) Slot.unset).toArray = ls at hl ⊢
  have hl : lv_has ls 4 [(0, .ref (q 0)), (1, .int a0), (2, .int a1)] := hl
  unfold wp_X6_want at h
  refine lv_aload_n hx hb dX6_want_0 rfl (lv_at hl 0 rfl) ?_
  refine lv_iload_n hx hb dX6_want_1 rfl (lv_at hl 1 rfl) ?_
  refine rV_i ⟨hx, hb, hml, hown, hts⟩ (c_X6_isSpeaker l D cI q _ _ _ _ _ h) (cwV 1 hts gX6_want_X6_isSpeaker rfl rfl rfl (by decide +kernel) ⟨Nat.le_of_ble_eq_true rfl, Nat.le_of_ble_eq_true rfl⟩) hK hP hN (va_recv hK hP (ci := 6) (q0 := 0) rfl rfl) rfl hl.1 (rest := []) rfl (Nat.le_of_ble_eq_true rfl) dX6_want_2 (Nat.zero_le _) (Nat.zero_le _) (fun r1 h => ?_)
  refine lv_if_ne (tgt := 11) hx hb dX6_want_5 (by decide) (fun c9 => ?_) (fun c9 => ?_)
  · have h := h.2 c9
    refine lv_iload_n hx hb dX6_want_11 rfl (lv_at hl 2 rfl) ?_
    refine rS_i ⟨hx, hb, hml, hown, hts⟩ (c_X6_isEnding l D cI _ _ h) (va_cwS 1 hts gX6_want_X6_isEnding rfl rfl rfl (by decide +kernel) ⟨Nat.le_of_ble_eq_true rfl, Nat.le_of_ble_eq_true rfl⟩) hK wPnil hN rfl hl.1 (rest := []) rfl (Nat.le_of_ble_eq_true rfl) dX6_want_12 (Nat.zero_le _) (Nat.zero_le _) (fun r2 h => ?_)
    refine lv_if_ne (tgt := 21) hx hb dX6_want_15 (by decide) (fun c9 => ?_) (fun c9 => ?_)
    · have h := h.2 c9
      refine lv_aload_n hx hb dX6_want_21 rfl (lv_at hl 0 rfl) ?_
      refine xg_r0_12 hx hb hts iX6 hown hK hP k33 dX6_want_22 ?_
      refine xg_r12_13 hx hb hts iX4 hown hK hP k108 dX6_want_25 ?_
      refine lv_iload_n hx hb dX6_want_28 rfl (lv_at hl 1 rfl) ?_
      obtain ⟨h9, h⟩ := h
      refine xal_7 (x := f 7 (a0).toNatClampNeg) hx hb hK hP h9 rfl dX6_want_29 ?_
      refine lv_istore_n (lv' := [(3, .int (f 7 (a0).toNatClampNeg)), (0, .ref (q 0)), (1, .int a0), (2, .int a1)]) hx hb dX6_want_30 rfl hl (by decide) rfl (fun ls hl => ?_)
      refine lv_aload_n hx hb dX6_want_31 rfl (lv_at hl 1 rfl) ?_
      refine xg_r0_12 hx hb hts iX6 hown hK hP k33 dX6_want_32 ?_
      refine xg_r12_13 hx hb hts iX4 hown hK hP k108 dX6_want_35 ?_
      refine lv_iload_n hx hb dX6_want_38 rfl (lv_at hl 2 rfl) ?_
      refine lv_iload_n hx hb dX6_want_39 rfl (lv_at hl 3 rfl) ?_
      obtain ⟨h9, h⟩ := h
      refine xas_7 hx hb hK hP hD hS h9 dX6_want_40 (fun H locs hP hD hS => ?_)
      have hP : va_P D vwCl (wX cI q v (va_up f 7 (upd (f 7) (a0).toNatClampNeg a1)) z) H := hP
      have hD : va_D A (wX cI q v (va_up f 7 (upd (f 7) (a0).toNatClampNeg a1)) z) := hD
      refine lv_aload_n hx hb dX6_want_41 rfl (lv_at hl 1 rfl) ?_
      refine xg_r0_12 hx hb hts iX6 hown hK hP k33 dX6_want_42 ?_
      refine lv_dup hx hb dX6_want_45 rfl ?_
      refine xg_s10 (x := v 10) hx hb hts iX4 hown hK hP k139 rfl dX6_want_46 ?_
      refine lv_iconst (v := (1 : Int32)) hx hb dX6_want_49 (by decide) ?_
      refine lv_iadd hx hb dX6_want_50 ?_
      refine xp_s10 hx hb hts iX4 hown hK hP hD hS k139 dX6_want_51 (fun H locs hP hD hS => ?_)
      refine lv_iload_n hx hb dX6_want_54 rfl (lv_at hl 0 rfl) ?_
      exact mi_ret (upd v 10 ((v 10) + (1 : Int32)), va_up f 7 (upd (f 7) (a0).toNatClampNeg a1), z) hx hb hr hlocks h hK hP hD hS dX6_want_55
    · have h := h.1 c9
      refine lv_bipush (v := (-102 : Int32)) hx hb dX6_want_18 (by decide) ?_
      exact mi_ret (v, f, z) hx hb hr hlocks h hK hP hD hS dX6_want_20
  · have h := h.1 c9
    refine lv_bipush (v := (-101 : Int32)) hx hb dX6_want_8 (by decide) ?_
    exact mi_ret (v, f, z) hx hb hr hlocks h hK hP hD hS dX6_want_10
def wp_X6_would (post : Int32 → Prop) (v : Nat → Int32) (f : Nat → Nat → Int32) (z : Int64) (a0 : Int32) (a1 : Int32) : Prop := (wp_X6_isSpeaker (fun r1 => ((r1 = 0 → post (-101 : Int32)) ∧ (¬ r1 = 0 → (wp_X6_isOpening (fun r2 => ((r2 = 0 → post (-101 : Int32)) ∧ (¬ r2 = 0 → (wp_X6_endingNow (fun r3 => post r3) v f z a0 a1)))) a1)))) v f z a0)
def rmX6_would : Room := { frames := 3, cells := 0, slots := 0, locals := 67 }
set_option maxHeartbeats 4000000 in
set_option maxRecDepth 100000 in
theorem c_X6_would (l : Launch) (D : va_G) (cI : ClassId) (q : Nat → Nat) (post : Int32 → Prop) (v : Nat → Int32) (f : Nat → Nat → Int32) (z : Int64) (a0 : Int32) (a1 : Int32) (h : wp_X6_would post v f z a0 a1) : Met l yX6_would wsX6_would rmX6_would (va_Pc [.ref (q 0), .int a0, .int a1] (rP D cI (wX cI q v f z))) (sQ post) 0 0 (fun _ => False) := by
  refine Met.ofW (cc := cX6_would) (maxL := 3) (ret := (some .int)) (by decide) rfl ?_
  intro p e s m args below meth c s₁ B hml hv
  obtain ⟨rfl, hP, hK, hN⟩ := hv
  have hx := B.exec
  have hb := B.bytes
  have hr := B.returns
  have hts := atoms_spec (ws := wsX6_would) B.pre
  have hown : s.vm.findClass RX6 = some m.cls := findClass_of_methodNamed B.named
  have hlocks : meth.locks = false := B.notSynchronized
  have hl := lv_entry ([.ref (q 0), .int a0, .int a1]) (n := 3) (Nat.le_of_ble_eq_true rfl)
  rw [lg_entry_eq]
  generalize (lg_sl ([.ref (q 0), .int a0, .int a1]) ++ List.replicate (3 - (lg_sl ([.ref (q 0), .int a0, .int a1])).length) Slot.unset).toArray = ls at hl ⊢
  have hl : lv_has ls 3 [(0, .ref (q 0)), (1, .int a0), (2, .int a1)] := hl
  unfold wp_X6_would at h
  refine lv_aload_n hx hb dX6_would_0 rfl (lv_at hl 0 rfl) ?_
  refine lv_iload_n hx hb dX6_would_1 rfl (lv_at hl 1 rfl) ?_
  refine rV_i ⟨hx, hb, hml, hown, hts⟩ (c_X6_isSpeaker l D cI q _ _ _ _ _ h) (cwV 1 hts gX6_would_X6_isSpeaker rfl rfl rfl (by decide +kernel) ⟨Nat.le_of_ble_eq_true rfl, Nat.le_of_ble_eq_true rfl⟩) hK hP hN (va_recv hK hP (ci := 6) (q0 := 0) rfl rfl) rfl hl.1 (rest := []) rfl (Nat.le_of_ble_eq_true rfl) dX6_would_2 (Nat.zero_le _) (Nat.zero_le _) (fun r1 h => ?_)
  refine lv_if_eq (tgt := 15) hx hb dX6_would_5 (by decide) (fun c9 => ?_) (fun c9 => ?_)
  · have h := h.1 c9
    refine lv_bipush (v := (-101 : Int32)) hx hb dX6_would_15 (by decide) ?_
    exact ri_ret hx hb hr hlocks h dX6_would_17
  · have h := h.2 c9
    refine lv_iload_n hx hb dX6_would_8 rfl (lv_at hl 2 rfl) ?_
    refine rS_i ⟨hx, hb, hml, hown, hts⟩ (c_X6_isOpening l D cI _ _ h) (va_cwS 1 hts gX6_would_X6_isOpening rfl rfl rfl (by decide +kernel) ⟨Nat.le_of_ble_eq_true rfl, Nat.le_of_ble_eq_true rfl⟩) hK wPnil hN rfl hl.1 (rest := []) rfl (Nat.le_of_ble_eq_true rfl) dX6_would_9 (Nat.zero_le _) (Nat.zero_le _) (fun r2 h => ?_)
    refine lv_if_ne (tgt := 18) hx hb dX6_would_12 (by decide) (fun c9 => ?_) (fun c9 => ?_)
    · have h := h.2 c9
      refine lv_aload_n hx hb dX6_would_18 rfl (lv_at hl 0 rfl) ?_
      refine lv_iload_n hx hb dX6_would_19 rfl (lv_at hl 1 rfl) ?_
      refine lv_iload_n hx hb dX6_would_20 rfl (lv_at hl 2 rfl) ?_
      refine rV_i ⟨hx, hb, hml, hown, hts⟩ (c_X6_endingNow l D cI q _ _ _ _ _ _ h) (cwV 2 hts gX6_would_X6_endingNow rfl rfl rfl (by decide +kernel) ⟨Nat.le_of_ble_eq_true rfl, Nat.le_of_ble_eq_true rfl⟩) hK hP hN (va_recv hK hP (ci := 6) (q0 := 0) rfl rfl) rfl hl.1 (rest := []) rfl (Nat.le_of_ble_eq_true rfl) dX6_would_21 (Nat.zero_le _) (Nat.zero_le _) (fun r3 h => ?_)
      exact ri_ret hx hb hr hlocks h dX6_would_24
    · have h := h.1 c9
      refine lv_bipush (v := (-101 : Int32)) hx hb dX6_would_15 (by decide) ?_
      exact ri_ret hx hb hr hlocks h dX6_would_17
def wp_X6_begin (post : Int32 → (Nat → Int32) → (Nat → Nat → Int32) → Int64 → Prop) (v : Nat → Int32) (f : Nat → Nat → Int32) (z : Int64) (a0 : Int32) (a1 : Int32) : Prop := (wp_X6_isSpeaker (fun r1 => ((r1 = 0 → post (-101 : Int32) v f z) ∧ (¬ r1 = 0 → (wp_X6_isOpening (fun r2 => ((r2 = 0 → post (-101 : Int32) v f z) ∧ (¬ r2 = 0 → (wp_X4_openOf (fun r3 => ((r3 = (-1 : Int32) → (((v 8) < (8 : Int32) → (wp_X4_addSentence (fun r4 v5 f6 z7 => post r4 v5 f6 z7) v f z a0 a1)) ∧ (¬ (v 8) < (8 : Int32) → post (-104 : Int32) v f z))) ∧ (¬ r3 = (-1 : Int32) → post (-103 : Int32) v f z))) v f z a0)))) a1)))) v f z a0)
def rmX6_begin : Room := { frames := 2, cells := 0, slots := 0, locals := 43 }
set_option maxHeartbeats 4000000 in
set_option maxRecDepth 100000 in
theorem c_X6_begin (l : Launch) (D : va_G) (cI : ClassId) (q : Nat → Nat) (sz : Nat) (post : Int32 → (Nat → Int32) → (Nat → Nat → Int32) → Int64 → Prop) (v : Nat → Int32) (f : Nat → Nat → Int32) (z : Int64) (a0 : Int32) (a1 : Int32) (h : wp_X6_begin post v f z a0 a1) : Met l yX6_begin wsX6_begin rmX6_begin (va_Pc [.ref (q 0), .int a0, .int a1] (mP D cI (wX cI q v f z) sz)) (mQi post D cI (wX cI q) (va_A (wX cI q v f z) sz)) 0 0 (va_A (wX cI q v f z) sz) := by
  refine Met.ofW (cc := cX6_begin) (maxL := 3) (ret := (some .int)) (by decide) rfl ?_
  intro p e s m args below meth c s₁ B hml hv
  obtain ⟨rfl, hsz, ⟨hP, hK, hN⟩, hD0⟩ := hv
  have hx := B.exec
  have hb := B.bytes
  have hr := B.returns
  have hts := atoms_spec (ws := wsX6_begin) B.pre
  have hown : s.vm.findClass RX6 = some m.cls := findClass_of_methodNamed B.named
  have hlocks : meth.locks = false := B.notSynchronized
  subst hsz
  have hD := hD0.self (sz := s.heap.size)
  generalize hAe : va_A (wX cI q v f z) s.heap.size = A at hD ⊢
  have hA : ∀ q : Nat, s.heap.size ≤ q → A q := fun q h => by rw [← hAe]; exact Or.inr h
  have hS : va_S A s.heap s.heap [] := va_S.rf
  have iX4 : ∀ w ∈ wsX40, w ∈ wsX6_begin := fun _ h9 => List.mem_cons_of_mem _ (List.mem_append_left _ (List.mem_append_right _ h9))
  have iX6 : ∀ w ∈ wsX60, w ∈ wsX6_begin := fun _ h9 => List.mem_cons_of_mem _ (List.mem_append_left _ (List.mem_append_left _ (List.mem_append_right _ h9)))
  have k145 := hts (.fieldLink RX6 145 "EndedByOthers$Scene" "sentences" "I") (by decide +kernel)
  have k33 := hts (.fieldLink RX6 33 "EndedByOthers" "scene" "LEndedByOthers$Scene;") (by decide +kernel)
  have hl := lv_entry ([.ref (q 0), .int a0, .int a1]) (n := 3) (Nat.le_of_ble_eq_true rfl)
  rw [lg_entry_eq]
  generalize (lg_sl ([.ref (q 0), .int a0, .int a1]) ++ List.replicate (3 - (lg_sl ([.ref (q 0), .int a0, .int a1])).length) Slot.unset).toArray = ls at hl ⊢
  have hl : lv_has ls 3 [(0, .ref (q 0)), (1, .int a0), (2, .int a1)] := hl
  unfold wp_X6_begin at h
  refine lv_aload_n hx hb dX6_begin_0 rfl (lv_at hl 0 rfl) ?_
  refine lv_iload_n hx hb dX6_begin_1 rfl (lv_at hl 1 rfl) ?_
  refine rV_i ⟨hx, hb, hml, hown, hts⟩ (c_X6_isSpeaker l D cI q _ _ _ _ _ h) (cwV 1 hts gX6_begin_X6_isSpeaker rfl rfl rfl (by decide +kernel) ⟨Nat.le_of_ble_eq_true rfl, Nat.le_of_ble_eq_true rfl⟩) hK hP hN (va_recv hK hP (ci := 6) (q0 := 0) rfl rfl) rfl hl.1 (rest := []) rfl (Nat.le_of_ble_eq_true rfl) dX6_begin_2 (Nat.zero_le _) (Nat.zero_le _) (fun r1 h => ?_)
  refine lv_if_eq (tgt := 15) hx hb dX6_begin_5 (by decide) (fun c9 => ?_) (fun c9 => ?_)
  · have h := h.1 c9
    refine lv_bipush (v := (-101 : Int32)) hx hb dX6_begin_15 (by decide) ?_
    exact mi_ret (v, f, z) hx hb hr hlocks h hK hP hD hS dX6_begin_17
  · have h := h.2 c9
    refine lv_iload_n hx hb dX6_begin_8 rfl (lv_at hl 2 rfl) ?_
    refine rS_i ⟨hx, hb, hml, hown, hts⟩ (c_X6_isOpening l D cI _ _ h) (va_cwS 1 hts gX6_begin_X6_isOpening rfl rfl rfl (by decide +kernel) ⟨Nat.le_of_ble_eq_true rfl, Nat.le_of_ble_eq_true rfl⟩) hK wPnil hN rfl hl.1 (rest := []) rfl (Nat.le_of_ble_eq_true rfl) dX6_begin_9 (Nat.zero_le _) (Nat.zero_le _) (fun r2 h => ?_)
    refine lv_if_ne (tgt := 18) hx hb dX6_begin_12 (by decide) (fun c9 => ?_) (fun c9 => ?_)
    · have h := h.2 c9
      refine lv_aload_n hx hb dX6_begin_18 rfl (lv_at hl 0 rfl) ?_
      refine xg_r0_12 hx hb hts iX6 hown hK hP k33 dX6_begin_19 ?_
      refine lv_iload_n hx hb dX6_begin_22 rfl (lv_at hl 1 rfl) ?_
      refine rV_i ⟨hx, hb, hml, hown, hts⟩ (c_X4_openOf l D cI q _ _ _ _ _ h) (cwV 1 hts gX6_begin_X4_openOf rfl rfl rfl (by decide +kernel) ⟨Nat.le_of_ble_eq_true rfl, Nat.le_of_ble_eq_true rfl⟩) hK hP hN (va_recv hK hP (ci := 4) (q0 := 12) rfl rfl) rfl hl.1 (rest := []) rfl (Nat.le_of_ble_eq_true rfl) dX6_begin_23 (Nat.zero_le _) (Nat.zero_le _) (fun r3 h => ?_)
      refine lv_iconst (v := (-1 : Int32)) hx hb dX6_begin_26 (by decide) ?_
      refine lv_icmp_eq (tgt := 33) hx hb dX6_begin_27 (by decide) (fun c9 => ?_) (fun c9 => ?_)
      · have h := h.1 c9
        refine lv_aload_n hx hb dX6_begin_33 rfl (lv_at hl 0 rfl) ?_
        refine xg_r0_12 hx hb hts iX6 hown hK hP k33 dX6_begin_34 ?_
        refine xg_s8 (x := v 8) hx hb hts iX4 hown hK hP k145 rfl dX6_begin_37 ?_
        refine lv_bipush (v := (8 : Int32)) hx hb dX6_begin_40 (by decide) ?_
        refine lv_icmp_lt (tgt := 48) hx hb dX6_begin_42 (by decide) (fun c9 => ?_) (fun c9 => ?_)
        · have h := h.1 c9
          refine lv_aload_n hx hb dX6_begin_48 rfl (lv_at hl 0 rfl) ?_
          refine xg_r0_12 hx hb hts iX6 hown hK hP k33 dX6_begin_49 ?_
          refine lv_iload_n hx hb dX6_begin_52 rfl (lv_at hl 1 rfl) ?_
          refine lv_iload_n hx hb dX6_begin_53 rfl (lv_at hl 2 rfl) ?_
          refine mV_i ⟨hx, hb, hml, hown, hts⟩ (c_X4_addSentence l D cI q _ _ _ _ _ _ _ h) (cwV 2 hts gX6_begin_X4_addSentence rfl rfl rfl (by decide +kernel) ⟨Nat.le_of_ble_eq_true rfl, Nat.le_of_ble_eq_true rfl⟩) hK hP hN hD hS hA (va_recv hK hP (ci := 4) (q0 := 12) rfl rfl) rfl hl.1 (rest := []) rfl (Nat.le_of_ble_eq_true rfl) dX6_begin_54 (Nat.zero_le _) (Nat.zero_le _) (fun r4 v5 f6 z7 h H locs hP hD hS => ?_)
          exact mi_ret (v5, f6, z7) hx hb hr hlocks h hK hP hD hS dX6_begin_57
        · have h := h.2 c9
          refine lv_bipush (v := (-104 : Int32)) hx hb dX6_begin_45 (by decide) ?_
          exact mi_ret (v, f, z) hx hb hr hlocks h hK hP hD hS dX6_begin_47
      · have h := h.2 c9
        refine lv_bipush (v := (-103 : Int32)) hx hb dX6_begin_30 (by decide) ?_
        exact mi_ret (v, f, z) hx hb hr hlocks h hK hP hD hS dX6_begin_32
    · have h := h.1 c9
      refine lv_bipush (v := (-101 : Int32)) hx hb dX6_begin_15 (by decide) ?_
      exact mi_ret (v, f, z) hx hb hr hlocks h hK hP hD hS dX6_begin_17
def wp_X6_end (post : Int32 → (Nat → Int32) → (Nat → Nat → Int32) → Int64 → Prop) (v : Nat → Int32) (f : Nat → Nat → Int32) (z : Int64) (a0 : Int32) (a1 : Int32) : Prop := (wp_X6_isSentence (fun r1 => ((r1 = 0 → post (-101 : Int32) v f z) ∧ (¬ r1 = 0 → (wp_X6_isSpeaker (fun r2 => ((r2 = 0 → post (-101 : Int32) v f z) ∧ (¬ r2 = 0 → (wp_X4_isOpen (fun r3 => ((r3 = 0 → post (-103 : Int32) v f z) ∧ (¬ r3 = 0 → (vp_in a0 8 ∧ (((f 8 (a0).toNatClampNeg) = a1 → post (-103 : Int32) v f z) ∧ (¬ (f 8 (a0).toNatClampNeg) = a1 → (vp_in a0 8 ∧ (wp_X6_endingNow (fun r4 => ((r4 = (-1 : Int32) → post r4 v f z) ∧ (¬ r4 = (-1 : Int32) → (vp_in a0 8 ∧ (vp_in a0 8 ∧ post r4 v (va_up (va_up f 10 (upd (f 10) (a0).toNatClampNeg a1)) 11 (upd (f 11) (a0).toNatClampNeg r4)) z))))) v f z a1 (f 9 (a0).toNatClampNeg))))))))) v f z a0)))) v f z a1)))) v f z a0)
def rmX6_end : Room := { frames := 3, cells := 0, slots := 0, locals := 67 }
set_option maxHeartbeats 4000000 in
set_option maxRecDepth 100000 in
theorem c_X6_end (l : Launch) (D : va_G) (cI : ClassId) (q : Nat → Nat) (sz : Nat) (post : Int32 → (Nat → Int32) → (Nat → Nat → Int32) → Int64 → Prop) (v : Nat → Int32) (f : Nat → Nat → Int32) (z : Int64) (a0 : Int32) (a1 : Int32) (h : wp_X6_end post v f z a0 a1) : Met l yX6_end wsX6_end rmX6_end (va_Pc [.ref (q 0), .int a0, .int a1] (mP D cI (wX cI q v f z) sz)) (mQi post D cI (wX cI q) (va_A (wX cI q v f z) sz)) 0 0 (va_A (wX cI q v f z) sz) := by
  refine Met.ofW (cc := cX6_end) (maxL := 4) (ret := (some .int)) (by decide) rfl ?_
  intro p e s m args below meth c s₁ B hml hv
  obtain ⟨rfl, hsz, ⟨hP, hK, hN⟩, hD0⟩ := hv
  have hx := B.exec
  have hb := B.bytes
  have hr := B.returns
  have hts := atoms_spec (ws := wsX6_end) B.pre
  have hown : s.vm.findClass RX6 = some m.cls := findClass_of_methodNamed B.named
  have hlocks : meth.locks = false := B.notSynchronized
  subst hsz
  have hD := hD0.self (sz := s.heap.size)
  generalize hAe : va_A (wX cI q v f z) s.heap.size = A at hD ⊢
  have hA : ∀ q : Nat, s.heap.size ≤ q → A q := fun q h => by rw [← hAe]; exact Or.inr h
  have hS : va_S A s.heap s.heap [] := va_S.rf
  have iX4 : ∀ w ∈ wsX40, w ∈ wsX6_end := fun _ h9 => List.mem_cons_of_mem _ (List.mem_append_left _ (List.mem_append_right _ h9))
  have iX6 : ∀ w ∈ wsX60, w ∈ wsX6_end := fun _ h9 => List.mem_cons_of_mem _ (List.mem_append_left _ (List.mem_append_left _ (List.mem_append_right _ h9)))
  have k157 := hts (.fieldLink RX6 157 "EndedByOthers$Scene" "beginners" "[I") (by decide +kernel)
  have k160 := hts (.fieldLink RX6 160 "EndedByOthers$Scene" "openings" "[I") (by decide +kernel)
  have k163 := hts (.fieldLink RX6 163 "EndedByOthers$Scene" "enders" "[I") (by decide +kernel)
  have k166 := hts (.fieldLink RX6 166 "EndedByOthers$Scene" "endings" "[I") (by decide +kernel)
  have k33 := hts (.fieldLink RX6 33 "EndedByOthers" "scene" "LEndedByOthers$Scene;") (by decide +kernel)
  have hl := lv_entry ([.ref (q 0), .int a0, .int a1]) (n := 4) (Nat.le_of_ble_eq_true rfl)
  rw [lg_entry_eq]
  generalize (lg_sl ([.ref (q 0), .int a0, .int a1]) ++ List.replicate (4 - (lg_sl ([.ref (q 0), .int a0, .int a1])).length) Slot.unset).toArray = ls at hl ⊢
  have hl : lv_has ls 4 [(0, .ref (q 0)), (1, .int a0), (2, .int a1)] := hl
  unfold wp_X6_end at h
  refine lv_aload_n hx hb dX6_end_0 rfl (lv_at hl 0 rfl) ?_
  refine lv_iload_n hx hb dX6_end_1 rfl (lv_at hl 1 rfl) ?_
  refine rV_i ⟨hx, hb, hml, hown, hts⟩ (c_X6_isSentence l D cI q _ _ _ _ _ h) (cwV 1 hts gX6_end_X6_isSentence rfl rfl rfl (by decide +kernel) ⟨Nat.le_of_ble_eq_true rfl, Nat.le_of_ble_eq_true rfl⟩) hK hP hN (va_recv hK hP (ci := 6) (q0 := 0) rfl rfl) rfl hl.1 (rest := []) rfl (Nat.le_of_ble_eq_true rfl) dX6_end_2 (Nat.zero_le _) (Nat.zero_le _) (fun r1 h => ?_)
  refine lv_if_eq (tgt := 16) hx hb dX6_end_5 (by decide) (fun c9 => ?_) (fun c9 => ?_)
  · have h := h.1 c9
    refine lv_bipush (v := (-101 : Int32)) hx hb dX6_end_16 (by decide) ?_
    exact mi_ret (v, f, z) hx hb hr hlocks h hK hP hD hS dX6_end_18
  · have h := h.2 c9
    refine lv_aload_n hx hb dX6_end_8 rfl (lv_at hl 0 rfl) ?_
    refine lv_iload_n hx hb dX6_end_9 rfl (lv_at hl 2 rfl) ?_
    refine rV_i ⟨hx, hb, hml, hown, hts⟩ (c_X6_isSpeaker l D cI q _ _ _ _ _ h) (cwV 1 hts gX6_end_X6_isSpeaker rfl rfl rfl (by decide +kernel) ⟨Nat.le_of_ble_eq_true rfl, Nat.le_of_ble_eq_true rfl⟩) hK hP hN (va_recv hK hP (ci := 6) (q0 := 0) rfl rfl) rfl hl.1 (rest := []) rfl (Nat.le_of_ble_eq_true rfl) dX6_end_10 (Nat.zero_le _) (Nat.zero_le _) (fun r2 h => ?_)
    refine lv_if_ne (tgt := 19) hx hb dX6_end_13 (by decide) (fun c9 => ?_) (fun c9 => ?_)
    · have h := h.2 c9
      refine lv_aload_n hx hb dX6_end_19 rfl (lv_at hl 0 rfl) ?_
      refine xg_r0_12 hx hb hts iX6 hown hK hP k33 dX6_end_20 ?_
      refine lv_iload_n hx hb dX6_end_23 rfl (lv_at hl 1 rfl) ?_
      refine rV_i ⟨hx, hb, hml, hown, hts⟩ (c_X4_isOpen l D cI q _ _ _ _ _ h) (cwV 1 hts gX6_end_X4_isOpen rfl rfl rfl (by decide +kernel) ⟨Nat.le_of_ble_eq_true rfl, Nat.le_of_ble_eq_true rfl⟩) hK hP hN (va_recv hK hP (ci := 4) (q0 := 12) rfl rfl) rfl hl.1 (rest := []) rfl (Nat.le_of_ble_eq_true rfl) dX6_end_24 (Nat.zero_le _) (Nat.zero_le _) (fun r3 h => ?_)
      refine lv_if_eq (tgt := 43) hx hb dX6_end_27 (by decide) (fun c9 => ?_) (fun c9 => ?_)
      · have h := h.1 c9
        refine lv_bipush (v := (-103 : Int32)) hx hb dX6_end_43 (by decide) ?_
        exact mi_ret (v, f, z) hx hb hr hlocks h hK hP hD hS dX6_end_45
      · have h := h.2 c9
        refine lv_aload_n hx hb dX6_end_30 rfl (lv_at hl 0 rfl) ?_
        refine xg_r0_12 hx hb hts iX6 hown hK hP k33 dX6_end_31 ?_
        refine xg_r12_14 hx hb hts iX4 hown hK hP k157 dX6_end_34 ?_
        refine lv_iload_n hx hb dX6_end_37 rfl (lv_at hl 1 rfl) ?_
        obtain ⟨h9, h⟩ := h
        refine xal_8 (x := f 8 (a0).toNatClampNeg) hx hb hK hP h9 rfl dX6_end_38 ?_
        refine lv_iload_n hx hb dX6_end_39 rfl (lv_at hl 2 rfl) ?_
        refine lv_icmp_ne (tgt := 46) hx hb dX6_end_40 (by decide) (fun c9 => ?_) (fun c9 => ?_)
        · have h := h.2 c9
          refine lv_aload_n hx hb dX6_end_46 rfl (lv_at hl 0 rfl) ?_
          refine lv_iload_n hx hb dX6_end_47 rfl (lv_at hl 2 rfl) ?_
          refine lv_aload_n hx hb dX6_end_48 rfl (lv_at hl 0 rfl) ?_
          refine xg_r0_12 hx hb hts iX6 hown hK hP k33 dX6_end_49 ?_
          refine xg_r12_15 hx hb hts iX4 hown hK hP k160 dX6_end_52 ?_
          refine lv_iload_n hx hb dX6_end_55 rfl (lv_at hl 1 rfl) ?_
          obtain ⟨h9, h⟩ := h
          refine xal_9 (x := f 9 (a0).toNatClampNeg) hx hb hK hP h9 rfl dX6_end_56 ?_
          refine rV_i ⟨hx, hb, hml, hown, hts⟩ (c_X6_endingNow l D cI q _ _ _ _ _ _ h) (cwV 2 hts gX6_end_X6_endingNow rfl rfl rfl (by decide +kernel) ⟨Nat.le_of_ble_eq_true rfl, Nat.le_of_ble_eq_true rfl⟩) hK hP hN (va_recv hK hP (ci := 6) (q0 := 0) rfl rfl) rfl hl.1 (rest := []) rfl (Nat.le_of_ble_eq_true rfl) dX6_end_57 (Nat.zero_le _) (Nat.zero_le _) (fun r4 h => ?_)
          refine lv_istore_n (lv' := [(3, .int r4), (0, .ref (q 0)), (1, .int a0), (2, .int a1)]) hx hb dX6_end_60 rfl hl (by decide) rfl (fun ls hl => ?_)
          refine lv_iload_n hx hb dX6_end_61 rfl (lv_at hl 0 rfl) ?_
          refine lv_iconst (v := (-1 : Int32)) hx hb dX6_end_62 (by decide) ?_
          refine lv_icmp_eq (tgt := 86) hx hb dX6_end_63 (by decide) (fun c9 => ?_) (fun c9 => ?_)
          · have h := h.1 c9
            refine lv_iload_n hx hb dX6_end_86 rfl (lv_at hl 0 rfl) ?_
            exact mi_ret (v, f, z) hx hb hr hlocks h hK hP hD hS dX6_end_87
          · have h := h.2 c9
            refine lv_aload_n hx hb dX6_end_66 rfl (lv_at hl 1 rfl) ?_
            refine xg_r0_12 hx hb hts iX6 hown hK hP k33 dX6_end_67 ?_
            refine xg_r12_16 hx hb hts iX4 hown hK hP k163 dX6_end_70 ?_
            refine lv_iload_n hx hb dX6_end_73 rfl (lv_at hl 2 rfl) ?_
            refine lv_iload_n hx hb dX6_end_74 rfl (lv_at hl 3 rfl) ?_
            obtain ⟨h9, h⟩ := h
            refine xas_10 hx hb hK hP hD hS h9 dX6_end_75 (fun H locs hP hD hS => ?_)
            have hP : va_P D vwCl (wX cI q v (va_up f 10 (upd (f 10) (a0).toNatClampNeg a1)) z) H := hP
            have hD : va_D A (wX cI q v (va_up f 10 (upd (f 10) (a0).toNatClampNeg a1)) z) := hD
            refine lv_aload_n hx hb dX6_end_76 rfl (lv_at hl 1 rfl) ?_
            refine xg_r0_12 hx hb hts iX6 hown hK hP k33 dX6_end_77 ?_
            refine xg_r12_17 hx hb hts iX4 hown hK hP k166 dX6_end_80 ?_
            refine lv_iload_n hx hb dX6_end_83 rfl (lv_at hl 2 rfl) ?_
            refine lv_iload_n hx hb dX6_end_84 rfl (lv_at hl 0 rfl) ?_
            obtain ⟨h9, h⟩ := h
            refine xas_11 hx hb hK hP hD hS h9 dX6_end_85 (fun H locs hP hD hS => ?_)
            have hP : va_P D vwCl (wX cI q v (va_up (va_up f 10 (upd (f 10) (a0).toNatClampNeg a1)) 11 (upd (f 11) (a0).toNatClampNeg r4)) z) H := hP
            have hD : va_D A (wX cI q v (va_up (va_up f 10 (upd (f 10) (a0).toNatClampNeg a1)) 11 (upd (f 11) (a0).toNatClampNeg r4)) z) := hD
            refine lv_iload_n hx hb dX6_end_86 rfl (lv_at hl 0 rfl) ?_
            exact mi_ret (v, va_up (va_up f 10 (upd (f 10) (a0).toNatClampNeg a1)) 11 (upd (f 11) (a0).toNatClampNeg r4), z) hx hb hr hlocks h hK hP hD hS dX6_end_87
        · have h := h.1 c9
          refine lv_bipush (v := (-103 : Int32)) hx hb dX6_end_43 (by decide) ?_
          exact mi_ret (v, f, z) hx hb hr hlocks h hK hP hD hS dX6_end_45
    · have h := h.1 c9
      refine lv_bipush (v := (-101 : Int32)) hx hb dX6_end_16 (by decide) ?_
      exact mi_ret (v, f, z) hx hb hr hlocks h hK hP hD hS dX6_end_18
def wp_X6_sentence (post : Int32 → Prop) (v : Nat → Int32) (f : Nat → Nat → Int32) (z : Int64) (a0 : Int32) (a1 : Int32) : Prop := (wp_X6_isSentence (fun r1 => ((r1 = 0 → post (-101 : Int32)) ∧ (¬ r1 = 0 → ((a1 = 0 → (vp_in a0 8 ∧ post (f 8 (a0).toNatClampNeg))) ∧ (a1 = 1 → (vp_in a0 8 ∧ post (f 9 (a0).toNatClampNeg))) ∧ (a1 = 2 → (vp_in a0 8 ∧ post (f 10 (a0).toNatClampNeg))) ∧ (a1 = 3 → (vp_in a0 8 ∧ post (f 11 (a0).toNatClampNeg))) ∧ (a1 = 4 → (wp_X4_isAsWanted (fun r2 => ((r2 = 0 → post (0 : Int32)) ∧ (¬ r2 = 0 → post (1 : Int32)))) v f z a0)) ∧ (((a1).toInt < 0 ∨ 4 < (a1).toInt) → post (-102 : Int32)))))) v f z a0)
def rmX6_sentence : Room := { frames := 2, cells := 0, slots := 0, locals := 42 }
set_option maxHeartbeats 4000000 in
set_option maxRecDepth 100000 in
theorem c_X6_sentence (l : Launch) (D : va_G) (cI : ClassId) (q : Nat → Nat) (post : Int32 → Prop) (v : Nat → Int32) (f : Nat → Nat → Int32) (z : Int64) (a0 : Int32) (a1 : Int32) (h : wp_X6_sentence post v f z a0 a1) : Met l yX6_sentence wsX6_sentence rmX6_sentence (va_Pc [.ref (q 0), .int a0, .int a1] (rP D cI (wX cI q v f z))) (sQ post) 0 0 (fun _ => False) := by
  refine Met.ofW (cc := cX6_sentence) (maxL := 3) (ret := (some .int)) (by decide) rfl ?_
  intro p e s m args below meth c s₁ B hml hv
  obtain ⟨rfl, hP, hK, hN⟩ := hv
  have hx := B.exec
  have hb := B.bytes
  have hr := B.returns
  have hts := atoms_spec (ws := wsX6_sentence) B.pre
  have hown : s.vm.findClass RX6 = some m.cls := findClass_of_methodNamed B.named
  have hlocks : meth.locks = false := B.notSynchronized
  have iX4 : ∀ w ∈ wsX40, w ∈ wsX6_sentence := fun _ h9 => List.mem_cons_of_mem _ (List.mem_append_right _ h9)
  have iX6 : ∀ w ∈ wsX60, w ∈ wsX6_sentence := fun _ h9 => List.mem_cons_of_mem _ (List.mem_append_left _ (List.mem_append_right _ h9))
  have k157 := hts (.fieldLink RX6 157 "EndedByOthers$Scene" "beginners" "[I") (by decide +kernel)
  have k160 := hts (.fieldLink RX6 160 "EndedByOthers$Scene" "openings" "[I") (by decide +kernel)
  have k163 := hts (.fieldLink RX6 163 "EndedByOthers$Scene" "enders" "[I") (by decide +kernel)
  have k166 := hts (.fieldLink RX6 166 "EndedByOthers$Scene" "endings" "[I") (by decide +kernel)
  have k33 := hts (.fieldLink RX6 33 "EndedByOthers" "scene" "LEndedByOthers$Scene;") (by decide +kernel)
  have hl := lv_entry ([.ref (q 0), .int a0, .int a1]) (n := 3) (Nat.le_of_ble_eq_true rfl)
  rw [lg_entry_eq]
  generalize (lg_sl ([.ref (q 0), .int a0, .int a1]) ++ List.replicate (3 - (lg_sl ([.ref (q 0), .int a0, .int a1])).length) Slot.unset).toArray = ls at hl ⊢
  have hl : lv_has ls 3 [(0, .ref (q 0)), (1, .int a0), (2, .int a1)] := hl
  unfold wp_X6_sentence at h
  refine lv_aload_n hx hb dX6_sentence_0 rfl (lv_at hl 0 rfl) ?_
  refine lv_iload_n hx hb dX6_sentence_1 rfl (lv_at hl 1 rfl) ?_
  refine rV_i ⟨hx, hb, hml, hown, hts⟩ (c_X6_isSentence l D cI q _ _ _ _ _ h) (cwV 1 hts gX6_sentence_X6_isSentence rfl rfl rfl (by decide +kernel) ⟨Nat.le_of_ble_eq_true rfl, Nat.le_of_ble_eq_true rfl⟩) hK hP hN (va_recv hK hP (ci := 6) (q0 := 0) rfl rfl) rfl hl.1 (rest := []) rfl (Nat.le_of_ble_eq_true rfl) dX6_sentence_2 (Nat.zero_le _) (Nat.zero_le _) (fun r1 h => ?_)
  refine lv_if_ne (tgt := 11) hx hb dX6_sentence_5 (by decide) (fun c9 => ?_) (fun c9 => ?_)
  · have h := h.2 c9
    refine lv_iload_n hx hb dX6_sentence_11 rfl (lv_at hl 2 rfl) ?_
    rcases sw_0_4 (a1) with c9 | c9 | c9 | c9 | c9 | c9
    · have h := h.1 c9
      refine lv_tableIn (off := 36) (tgt := 48) hx hb dX6_sentence_12 (by rw [c9]; decide) (by rw [c9]; decide) (by rw [c9]; decide) (by decide) ?_
      refine lv_aload_n hx hb dX6_sentence_48 rfl (lv_at hl 0 rfl) ?_
      refine xg_r0_12 hx hb hts iX6 hown hK hP k33 dX6_sentence_49 ?_
      refine xg_r12_14 hx hb hts iX4 hown hK hP k157 dX6_sentence_52 ?_
      refine lv_iload_n hx hb dX6_sentence_55 rfl (lv_at hl 1 rfl) ?_
      obtain ⟨h9, h⟩ := h
      refine xal_8 (x := f 8 (a0).toNatClampNeg) hx hb hK hP h9 rfl dX6_sentence_56 ?_
      exact ri_ret hx hb hr hlocks h dX6_sentence_57
    · have h := h.2.1 c9
      refine lv_tableIn (off := 46) (tgt := 58) hx hb dX6_sentence_12 (by rw [c9]; decide) (by rw [c9]; decide) (by rw [c9]; decide) (by decide) ?_
      refine lv_aload_n hx hb dX6_sentence_58 rfl (lv_at hl 0 rfl) ?_
      refine xg_r0_12 hx hb hts iX6 hown hK hP k33 dX6_sentence_59 ?_
      refine xg_r12_15 hx hb hts iX4 hown hK hP k160 dX6_sentence_62 ?_
      refine lv_iload_n hx hb dX6_sentence_65 rfl (lv_at hl 1 rfl) ?_
      obtain ⟨h9, h⟩ := h
      refine xal_9 (x := f 9 (a0).toNatClampNeg) hx hb hK hP h9 rfl dX6_sentence_66 ?_
      exact ri_ret hx hb hr hlocks h dX6_sentence_67
    · have h := h.2.2.1 c9
      refine lv_tableIn (off := 56) (tgt := 68) hx hb dX6_sentence_12 (by rw [c9]; decide) (by rw [c9]; decide) (by rw [c9]; decide) (by decide) ?_
      refine lv_aload_n hx hb dX6_sentence_68 rfl (lv_at hl 0 rfl) ?_
      refine xg_r0_12 hx hb hts iX6 hown hK hP k33 dX6_sentence_69 ?_
      refine xg_r12_16 hx hb hts iX4 hown hK hP k163 dX6_sentence_72 ?_
      refine lv_iload_n hx hb dX6_sentence_75 rfl (lv_at hl 1 rfl) ?_
      obtain ⟨h9, h⟩ := h
      refine xal_10 (x := f 10 (a0).toNatClampNeg) hx hb hK hP h9 rfl dX6_sentence_76 ?_
      exact ri_ret hx hb hr hlocks h dX6_sentence_77
    · have h := h.2.2.2.1 c9
      refine lv_tableIn (off := 66) (tgt := 78) hx hb dX6_sentence_12 (by rw [c9]; decide) (by rw [c9]; decide) (by rw [c9]; decide) (by decide) ?_
      refine lv_aload_n hx hb dX6_sentence_78 rfl (lv_at hl 0 rfl) ?_
      refine xg_r0_12 hx hb hts iX6 hown hK hP k33 dX6_sentence_79 ?_
      refine xg_r12_17 hx hb hts iX4 hown hK hP k166 dX6_sentence_82 ?_
      refine lv_iload_n hx hb dX6_sentence_85 rfl (lv_at hl 1 rfl) ?_
      obtain ⟨h9, h⟩ := h
      refine xal_11 (x := f 11 (a0).toNatClampNeg) hx hb hK hP h9 rfl dX6_sentence_86 ?_
      exact ri_ret hx hb hr hlocks h dX6_sentence_87
    · have h := h.2.2.2.2.1 c9
      refine lv_tableIn (off := 76) (tgt := 88) hx hb dX6_sentence_12 (by rw [c9]; decide) (by rw [c9]; decide) (by rw [c9]; decide) (by decide) ?_
      refine lv_aload_n hx hb dX6_sentence_88 rfl (lv_at hl 0 rfl) ?_
      refine xg_r0_12 hx hb hts iX6 hown hK hP k33 dX6_sentence_89 ?_
      refine lv_iload_n hx hb dX6_sentence_92 rfl (lv_at hl 1 rfl) ?_
      refine rV_i ⟨hx, hb, hml, hown, hts⟩ (c_X4_isAsWanted l D cI q _ _ _ _ _ h) (cwV 1 hts gX6_sentence_X4_isAsWanted rfl rfl rfl (by decide +kernel) ⟨Nat.le_of_ble_eq_true rfl, Nat.le_of_ble_eq_true rfl⟩) hK hP hN (va_recv hK hP (ci := 4) (q0 := 12) rfl rfl) rfl hl.1 (rest := []) rfl (Nat.le_of_ble_eq_true rfl) dX6_sentence_93 (Nat.zero_le _) (Nat.zero_le _) (fun r2 h => ?_)
      refine lv_if_eq (tgt := 103) hx hb dX6_sentence_96 (by decide) (fun c9 => ?_) (fun c9 => ?_)
      · have h := h.1 c9
        refine lv_iconst (v := (0 : Int32)) hx hb dX6_sentence_103 (by decide) ?_
        exact ri_ret hx hb hr hlocks h dX6_sentence_104
      · have h := h.2 c9
        refine lv_iconst (v := (1 : Int32)) hx hb dX6_sentence_99 (by decide) ?_
        refine lv_goto (tgt := 104) hx hb dX6_sentence_100 (by decide) ?_
        exact ri_ret hx hb hr hlocks h dX6_sentence_104
    · have h := h.2.2.2.2.2 c9
      refine lv_tableOut (tgt := 105) hx hb dX6_sentence_12 c9 (by decide) ?_
      refine lv_bipush (v := (-102 : Int32)) hx hb dX6_sentence_105 (by decide) ?_
      exact ri_ret hx hb hr hlocks h dX6_sentence_107
  · have h := h.1 c9
    refine lv_bipush (v := (-101 : Int32)) hx hb dX6_sentence_8 (by decide) ?_
    exact ri_ret hx hb hr hlocks h dX6_sentence_10
def wp_X6_match_B39 (post : Int32 → (Nat → Int32) → (Nat → Nat → Int32) → Int64 → Prop) (v : Nat → Int32) (f : Nat → Nat → Int32) (z : Int64) (x1 : Int32) (x2 : Int32) : Prop := (((v 7) = 0 → post (-103 : Int32) v f z) ∧ (¬ (v 7) = 0 → (wp_X6_findPleasing (fun v2 f3 z4 => (wp_X0_solve (fun v6 f7 z8 => ((x2 = 0 → (vp_in (x1 - (10 : Int32)) 4 ∧ post (f7 24 (x1 - (10 : Int32)).toNatClampNeg) v6 f7 z8)) ∧ (¬ x2 = 0 → post (v6 14) v6 f7 z8))) v2 f3 z4)) v f z)))
def wp_X6_match_B9 (post : Int32 → (Nat → Int32) → (Nat → Nat → Int32) → Int64 → Prop) (v : Nat → Int32) (f : Nat → Nat → Int32) (z : Int64) (x1 : Int32) (y0 : Int32) : Prop := ((x1 < (10 : Int32) → ((y0 = 0 → post (-102 : Int32) v f z) ∧ (¬ y0 = 0 → wp_X6_match_B39 post v f z x1 y0))) ∧ (¬ x1 < (10 : Int32) → (((14 : Int32) ≤ x1 → ((y0 = 0 → post (-102 : Int32) v f z) ∧ (¬ y0 = 0 → wp_X6_match_B39 post v f z x1 y0))) ∧ (¬ (14 : Int32) ≤ x1 → ((y0 = 0 → wp_X6_match_B39 post v f z x1 y0) ∧ (¬ y0 = 0 → wp_X6_match_B39 post v f z x1 y0))))))
def wp_X6_match (post : Int32 → (Nat → Int32) → (Nat → Nat → Int32) → Int64 → Prop) (v : Nat → Int32) (f : Nat → Nat → Int32) (z : Int64) (a0 : Int32) : Prop := ((a0 = 0 → wp_X6_match_B9 post v f z a0 (1 : Int32)) ∧ (¬ a0 = 0 → wp_X6_match_B9 post v f z a0 (0 : Int32)))
def rmX6_match : Room := { frames := 11, cells := 0, slots := 0, locals := 372 }
set_option maxHeartbeats 4000000 in
set_option maxRecDepth 100000 in
theorem c_X6_match (l : Launch) (D : va_G) (cI : ClassId) (q : Nat → Nat) (sz : Nat) (post : Int32 → (Nat → Int32) → (Nat → Nat → Int32) → Int64 → Prop) (v : Nat → Int32) (f : Nat → Nat → Int32) (z : Int64) (a0 : Int32) (h : wp_X6_match post v f z a0) : Met l yX6_match wsX6_match rmX6_match (va_Pc [.ref (q 0), .int a0] (mP D cI (wX cI q v f z) sz)) (mQi post D cI (wX cI q) (va_A (wX cI q v f z) sz)) 0 0 (va_A (wX cI q v f z) sz) := by
  refine Met.ofW (cc := cX6_match) (maxL := 4) (ret := (some .int)) (by decide) rfl ?_
  intro p e s m args below meth c s₁ B hml hv
  obtain ⟨rfl, hsz, ⟨hP, hK, hN⟩, hD0⟩ := hv
  have hx := B.exec
  have hb := B.bytes
  have hr := B.returns
  have hts := atoms_spec (ws := wsX6_match) B.pre
  have hown : s.vm.findClass RX6 = some m.cls := findClass_of_methodNamed B.named
  have hlocks : meth.locks = false := B.notSynchronized
  subst hsz
  have hD := hD0.self (sz := s.heap.size)
  generalize hAe : va_A (wX cI q v f z) s.heap.size = A at hD ⊢
  have hA : ∀ q : Nat, s.heap.size ≤ q → A q := fun q h => by rw [← hAe]; exact Or.inr h
  have hS : va_S A s.heap s.heap [] := va_S.rf
  have iX0 : ∀ w ∈ wsX00, w ∈ wsX6_match := fun _ h9 => List.mem_cons_of_mem _ (List.mem_append_left _ (List.mem_append_right _ h9))
  have iX3 : ∀ w ∈ wsX30, w ∈ wsX6_match := fun _ h9 => List.mem_cons_of_mem _ (List.mem_append_left _ (List.mem_append_left _ (List.mem_append_right _ h9)))
  have iX6 : ∀ w ∈ wsX60, w ∈ wsX6_match := fun _ h9 => List.mem_cons_of_mem _ (List.mem_append_left _ (List.mem_append_left _ (List.mem_append_left _ (List.mem_append_right _ h9))))
  have k178 := hts (.fieldLink RX6 178 "EndedByOthers$Matching" "ended" "I") (by decide +kernel)
  have k181 := hts (.fieldLink RX6 181 "EndedByOthers$Matching" "picks" "[I") (by decide +kernel)
  have k26 := hts (.fieldLink RX6 26 "EndedByOthers" "room" "LEndedByOthers$Room;") (by decide +kernel)
  have k43 := hts (.fieldLink RX6 43 "EndedByOthers" "matching" "LEndedByOthers$Matching;") (by decide +kernel)
  have k92 := hts (.fieldLink RX6 92 "EndedByOthers$Room" "speakers" "I") (by decide +kernel)
  have hl := lv_entry ([.ref (q 0), .int a0]) (n := 4) (Nat.le_of_ble_eq_true rfl)
  rw [lg_entry_eq]
  generalize (lg_sl ([.ref (q 0), .int a0]) ++ List.replicate (4 - (lg_sl ([.ref (q 0), .int a0])).length) Slot.unset).toArray = ls at hl ⊢
  have hl : lv_has ls 4 [(0, .ref (q 0)), (1, .int a0)] := hl
  unfold wp_X6_match at h
  have B39 : ∀ (v : Nat → Int32) (f : Nat → Nat → Int32) (z : Int64) (x1 : Int32) (x2 : Int32), wp_X6_match_B39 post v f z x1 x2 → ∀ (H : Heap) (locs : List Loc), va_P D vwCl (wX cI q v f z) H → va_D A (wX cI q v f z) → va_S A s.heap H locs → ∀ (ls : Array Slot), lv_has ls 4 [(0, .ref (q 0)), (1, .int x1), (2, .int x2)] → W p l e (headSpec wsX6_match rmX6_match).room s m ([.ref (q 0), .int a0] : List Value).toArray below meth c H locs 0 0 (MQ below (mQi post D cI (wX cI q) A) ([.ref (q 0), .int a0] : List Value).toArray s 0 0 A) (F0 m 39 ls []) := by
    intro v f z x1 x2 h H locs hP hD hS ls hl
    unfold wp_X6_match_B39 at h
    refine lv_aload_n hx hb dX6_match_39 rfl (lv_at hl 0 rfl) ?_
    refine xg_r0_8 hx hb hts iX6 hown hK hP k26 dX6_match_40 ?_
    refine xg_s7 (x := v 7) hx hb hts iX3 hown hK hP k92 rfl dX6_match_43 ?_
    refine lv_if_ne (tgt := 52) hx hb dX6_match_46 (by decide) (fun c9 => ?_) (fun c9 => ?_)
    · have h := h.2 c9
      refine lv_aload_n hx hb dX6_match_52 rfl (lv_at hl 0 rfl) ?_
      refine mV_v ⟨hx, hb, hml, hown, hts⟩ (c_X6_findPleasing l D cI q _ _ _ _ _ h) (cwV 0 hts gX6_match_X6_findPleasing rfl rfl rfl (by decide +kernel) ⟨Nat.le_of_ble_eq_true rfl, Nat.le_of_ble_eq_true rfl⟩) hK hP hN hD hS hA (va_recv hK hP (ci := 6) (q0 := 0) rfl rfl) rfl hl.1 (rest := []) rfl (Nat.le_of_ble_eq_true rfl) dX6_match_53 (Nat.zero_le _) (Nat.zero_le _) (fun v2 f3 z4 h H locs hP hD hS => ?_)
      refine lv_aload_n hx hb dX6_match_56 rfl (lv_at hl 0 rfl) ?_
      refine xg_r0_30 hx hb hts iX6 hown hK hP k43 dX6_match_57 ?_
      refine mV_v ⟨hx, hb, hml, hown, hts⟩ (c_X0_solve l D cI q _ _ _ _ _ h) (cwV 0 hts gX6_match_X0_solve rfl rfl rfl (by decide +kernel) ⟨Nat.le_of_ble_eq_true rfl, Nat.le_of_ble_eq_true rfl⟩) hK hP hN hD hS hA (va_recv hK hP (ci := 0) (q0 := 30) rfl rfl) rfl hl.1 (rest := []) rfl (Nat.le_of_ble_eq_true rfl) dX6_match_60 (Nat.zero_le _) (Nat.zero_le _) (fun v6 f7 z8 h H locs hP hD hS => ?_)
      refine lv_iload_n hx hb dX6_match_63 rfl (lv_at hl 2 rfl) ?_
      refine lv_if_eq (tgt := 77) hx hb dX6_match_64 (by decide) (fun c9 => ?_) (fun c9 => ?_)
      · have h := h.1 c9
        refine lv_aload_n hx hb dX6_match_77 rfl (lv_at hl 0 rfl) ?_
        refine xg_r0_30 hx hb hts iX6 hown hK hP k43 dX6_match_78 ?_
        refine xg_r30_32 hx hb hts iX0 hown hK hP k181 dX6_match_81 ?_
        refine lv_iload_n hx hb dX6_match_84 rfl (lv_at hl 1 rfl) ?_
        refine lv_bipush (v := (10 : Int32)) hx hb dX6_match_85 (by decide) ?_
        refine lv_isub hx hb dX6_match_87 ?_
        obtain ⟨h9, h⟩ := h
        refine xal_24 (x := f7 24 (x1 - (10 : Int32)).toNatClampNeg) hx hb hK hP h9 rfl dX6_match_88 ?_
        exact mi_ret (v6, f7, z8) hx hb hr hlocks h hK hP hD hS dX6_match_89
      · have h := h.2 c9
        refine lv_aload_n hx hb dX6_match_67 rfl (lv_at hl 0 rfl) ?_
        refine xg_r0_30 hx hb hts iX6 hown hK hP k43 dX6_match_68 ?_
        refine xg_s14 (x := v6 14) hx hb hts iX0 hown hK hP k178 rfl dX6_match_71 ?_
        refine lv_goto (tgt := 89) hx hb dX6_match_74 (by decide) ?_
        exact mi_ret (v6, f7, z8) hx hb hr hlocks h hK hP hD hS dX6_match_89
    · have h := h.1 c9
      refine lv_bipush (v := (-103 : Int32)) hx hb dX6_match_49 (by decide) ?_
      exact mi_ret (v, f, z) hx hb hr hlocks h hK hP hD hS dX6_match_51
  have B9 : ∀ (v : Nat → Int32) (f : Nat → Nat → Int32) (z : Int64) (x1 : Int32) (y0 : Int32), wp_X6_match_B9 post v f z x1 y0 → ∀ (H : Heap) (locs : List Loc), va_P D vwCl (wX cI q v f z) H → va_D A (wX cI q v f z) → va_S A s.heap H locs → ∀ (ls : Array Slot), lv_has ls 4 [(0, .ref (q 0)), (1, .int x1)] → W p l e (headSpec wsX6_match rmX6_match).room s m ([.ref (q 0), .int a0] : List Value).toArray below meth c H locs 0 0 (MQ below (mQi post D cI (wX cI q) A) ([.ref (q 0), .int a0] : List Value).toArray s 0 0 A) (F0 m 9 ls [.int y0]) := by
    intro v f z x1 y0 h H locs hP hD hS ls hl
    unfold wp_X6_match_B9 at h
    refine lv_istore_n (lv' := [(2, .int y0), (0, .ref (q 0)), (1, .int x1)]) hx hb dX6_match_9 rfl hl (by decide) rfl (fun ls hl => ?_)
    refine lv_iload_n hx hb dX6_match_10 rfl (lv_at hl 2 rfl) ?_
    refine lv_bipush (v := (10 : Int32)) hx hb dX6_match_11 (by decide) ?_
    refine lv_icmp_lt (tgt := 26) hx hb dX6_match_13 (by decide) (fun c9 => ?_) (fun c9 => ?_)
    · have h := h.1 c9
      refine lv_iconst (v := (0 : Int32)) hx hb dX6_match_26 (by decide) ?_
      refine lv_istore_n (lv' := [(3, .int (0 : Int32)), (2, .int y0), (0, .ref (q 0)), (1, .int x1)]) hx hb dX6_match_27 rfl hl (by decide) rfl (fun ls hl => ?_)
      refine lv_iload_n hx hb dX6_match_28 rfl (lv_at hl 1 rfl) ?_
      refine lv_if_ne (tgt := 39) hx hb dX6_match_29 (by decide) (fun c9 => ?_) (fun c9 => ?_)
      · have h := h.2 c9
        exact B39 _ _ _ _ _ h _ _ hP hD hS ls (lv_sub hl [2, 3, 1] rfl)
      · have h := h.1 c9
        refine lv_iload_n hx hb dX6_match_32 rfl (lv_at hl 0 rfl) ?_
        refine lv_if_ne (tgt := 39) hx hb dX6_match_33 (by decide) (fun c9 => absurd c9 (by decide)) (fun c9 => ?_)
        refine lv_bipush (v := (-102 : Int32)) hx hb dX6_match_36 (by decide) ?_
        exact mi_ret (v, f, z) hx hb hr hlocks h hK hP hD hS dX6_match_38
    · have h := h.2 c9
      refine lv_iload_n hx hb dX6_match_16 rfl (lv_at hl 2 rfl) ?_
      refine lv_bipush (v := (14 : Int32)) hx hb dX6_match_17 (by decide) ?_
      refine lv_icmp_ge (tgt := 26) hx hb dX6_match_19 (by decide) (fun c9 => ?_) (fun c9 => ?_)
      · have h := h.1 c9
        refine lv_iconst (v := (0 : Int32)) hx hb dX6_match_26 (by decide) ?_
        refine lv_istore_n (lv' := [(3, .int (0 : Int32)), (2, .int y0), (0, .ref (q 0)), (1, .int x1)]) hx hb dX6_match_27 rfl hl (by decide) rfl (fun ls hl => ?_)
        refine lv_iload_n hx hb dX6_match_28 rfl (lv_at hl 1 rfl) ?_
        refine lv_if_ne (tgt := 39) hx hb dX6_match_29 (by decide) (fun c9 => ?_) (fun c9 => ?_)
        · have h := h.2 c9
          exact B39 _ _ _ _ _ h _ _ hP hD hS ls (lv_sub hl [2, 3, 1] rfl)
        · have h := h.1 c9
          refine lv_iload_n hx hb dX6_match_32 rfl (lv_at hl 0 rfl) ?_
          refine lv_if_ne (tgt := 39) hx hb dX6_match_33 (by decide) (fun c9 => absurd c9 (by decide)) (fun c9 => ?_)
          refine lv_bipush (v := (-102 : Int32)) hx hb dX6_match_36 (by decide) ?_
          exact mi_ret (v, f, z) hx hb hr hlocks h hK hP hD hS dX6_match_38
      · have h := h.2 c9
        refine lv_iconst (v := (1 : Int32)) hx hb dX6_match_22 (by decide) ?_
        refine lv_goto (tgt := 27) hx hb dX6_match_23 (by decide) ?_
        refine lv_istore_n (lv' := [(3, .int (1 : Int32)), (2, .int y0), (0, .ref (q 0)), (1, .int x1)]) hx hb dX6_match_27 rfl hl (by decide) rfl (fun ls hl => ?_)
        refine lv_iload_n hx hb dX6_match_28 rfl (lv_at hl 1 rfl) ?_
        refine lv_if_ne (tgt := 39) hx hb dX6_match_29 (by decide) (fun c9 => ?_) (fun c9 => ?_)
        · have h := h.2 c9
          exact B39 _ _ _ _ _ h _ _ hP hD hS ls (lv_sub hl [2, 3, 1] rfl)
        · have h := h.1 c9
          refine lv_iload_n hx hb dX6_match_32 rfl (lv_at hl 0 rfl) ?_
          refine lv_if_ne (tgt := 39) hx hb dX6_match_33 (by decide) (fun c9 => ?_) (fun c9 => absurd c9 (by decide))
          exact B39 _ _ _ _ _ h _ _ hP hD hS ls (lv_sub hl [2, 3, 1] rfl)
  refine lv_iload_n hx hb dX6_match_0 rfl (lv_at hl 1 rfl) ?_
  refine lv_if_ne (tgt := 8) hx hb dX6_match_1 (by decide) (fun c9 => ?_) (fun c9 => ?_)
  · have h := h.2 c9
    refine lv_iconst (v := (0 : Int32)) hx hb dX6_match_8 (by decide) ?_
    exact B9 _ _ _ _ _ h _ _ hP hD hS ls (lv_sub hl [0, 1] rfl)
  · have h := h.1 c9
    refine lv_iconst (v := (1 : Int32)) hx hb dX6_match_4 (by decide) ?_
    refine lv_goto (tgt := 9) hx hb dX6_match_5 (by decide) ?_
    exact B9 _ _ _ _ _ h _ _ hP hD hS ls (lv_sub hl [0, 1] rfl)
def wp_X6_hear_B33 (post : Int32 → (Nat → Int32) → (Nat → Nat → Int32) → Int64 → Prop) (v : Nat → Int32) (f : Nat → Nat → Int32) (z : Int64) (x1 : Int32) (x2 : Int32) (x3 : Int32) : Prop := (((v 9) < (8 : Int32) → (wp_X4_addHeard (fun v2 f3 z4 => post (v2 9) v2 f3 z4) v f z x1 x2 x3)) ∧ (¬ (v 9) < (8 : Int32) → post (-104 : Int32) v f z))
def wp_X6_hear (post : Int32 → (Nat → Int32) → (Nat → Nat → Int32) → Int64 → Prop) (v : Nat → Int32) (f : Nat → Nat → Int32) (z : Int64) (a0 : Int32) (a1 : Int32) (a2 : Int32) : Prop := (wp_X6_isSpeaker (fun r5 => ((r5 = 0 → post (-101 : Int32) v f z) ∧ (¬ r5 = 0 → (wp_X6_isOpening (fun r6 => ((r6 = 0 → post (-101 : Int32) v f z) ∧ (¬ r6 = 0 → (wp_X6_isEnding (fun r7 => ((r7 = 0 → ((a2 = (-1 : Int32) → wp_X6_hear_B33 post v f z a0 a1 a2) ∧ (¬ a2 = (-1 : Int32) → post (-102 : Int32) v f z))) ∧ (¬ r7 = 0 → wp_X6_hear_B33 post v f z a0 a1 a2))) a2)))) a1)))) v f z a0)
def rmX6_hear : Room := { frames := 1, cells := 0, slots := 0, locals := 23 }
set_option maxHeartbeats 4000000 in
set_option maxRecDepth 100000 in
theorem c_X6_hear (l : Launch) (D : va_G) (cI : ClassId) (q : Nat → Nat) (sz : Nat) (post : Int32 → (Nat → Int32) → (Nat → Nat → Int32) → Int64 → Prop) (v : Nat → Int32) (f : Nat → Nat → Int32) (z : Int64) (a0 : Int32) (a1 : Int32) (a2 : Int32) (h : wp_X6_hear post v f z a0 a1 a2) : Met l yX6_hear wsX6_hear rmX6_hear (va_Pc [.ref (q 0), .int a0, .int a1, .int a2] (mP D cI (wX cI q v f z) sz)) (mQi post D cI (wX cI q) (va_A (wX cI q v f z) sz)) 0 0 (va_A (wX cI q v f z) sz) := by
  refine Met.ofW (cc := cX6_hear) (maxL := 4) (ret := (some .int)) (by decide) rfl ?_
  intro p e s m args below meth c s₁ B hml hv
  obtain ⟨rfl, hsz, ⟨hP, hK, hN⟩, hD0⟩ := hv
  have hx := B.exec
  have hb := B.bytes
  have hr := B.returns
  have hts := atoms_spec (ws := wsX6_hear) B.pre
  have hown : s.vm.findClass RX6 = some m.cls := findClass_of_methodNamed B.named
  have hlocks : meth.locks = false := B.notSynchronized
  subst hsz
  have hD := hD0.self (sz := s.heap.size)
  generalize hAe : va_A (wX cI q v f z) s.heap.size = A at hD ⊢
  have hA : ∀ q : Nat, s.heap.size ≤ q → A q := fun q h => by rw [← hAe]; exact Or.inr h
  have hS : va_S A s.heap s.heap [] := va_S.rf
  have iX4 : ∀ w ∈ wsX40, w ∈ wsX6_hear := fun _ h9 => List.mem_cons_of_mem _ (List.mem_append_left _ (List.mem_append_right _ h9))
  have iX6 : ∀ w ∈ wsX60, w ∈ wsX6_hear := fun _ h9 => List.mem_cons_of_mem _ (List.mem_append_left _ (List.mem_append_left _ (List.mem_append_right _ h9)))
  have k184 := hts (.fieldLink RX6 184 "EndedByOthers$Scene" "heard" "I") (by decide +kernel)
  have k33 := hts (.fieldLink RX6 33 "EndedByOthers" "scene" "LEndedByOthers$Scene;") (by decide +kernel)
  have hl := lv_entry ([.ref (q 0), .int a0, .int a1, .int a2]) (n := 4) (Nat.le_of_ble_eq_true rfl)
  rw [lg_entry_eq]
  generalize (lg_sl ([.ref (q 0), .int a0, .int a1, .int a2]) ++ List.replicate (4 - (lg_sl ([.ref (q 0), .int a0, .int a1, .int a2])).length) Slot.unset).toArray = ls at hl ⊢
  have hl : lv_has ls 4 [(0, .ref (q 0)), (1, .int a0), (2, .int a1), (3, .int a2)] := hl
  unfold wp_X6_hear at h
  have B33 : ∀ (v : Nat → Int32) (f : Nat → Nat → Int32) (z : Int64) (x1 : Int32) (x2 : Int32) (x3 : Int32), wp_X6_hear_B33 post v f z x1 x2 x3 → ∀ (H : Heap) (locs : List Loc), va_P D vwCl (wX cI q v f z) H → va_D A (wX cI q v f z) → va_S A s.heap H locs → ∀ (ls : Array Slot), lv_has ls 4 [(0, .ref (q 0)), (1, .int x1), (2, .int x2), (3, .int x3)] → W p l e (headSpec wsX6_hear rmX6_hear).room s m ([.ref (q 0), .int a0, .int a1, .int a2] : List Value).toArray below meth c H locs 0 0 (MQ below (mQi post D cI (wX cI q) A) ([.ref (q 0), .int a0, .int a1, .int a2] : List Value).toArray s 0 0 A) (F0 m 33 ls []) := by
    intro v f z x1 x2 x3 h H locs hP hD hS ls hl
    unfold wp_X6_hear_B33 at h
    refine lv_aload_n hx hb dX6_hear_33 rfl (lv_at hl 0 rfl) ?_
    refine xg_r0_12 hx hb hts iX6 hown hK hP k33 dX6_hear_34 ?_
    refine xg_s9 (x := v 9) hx hb hts iX4 hown hK hP k184 rfl dX6_hear_37 ?_
    refine lv_bipush (v := (8 : Int32)) hx hb dX6_hear_40 (by decide) ?_
    refine lv_icmp_lt (tgt := 48) hx hb dX6_hear_42 (by decide) (fun c9 => ?_) (fun c9 => ?_)
    · have h := h.1 c9
      refine lv_aload_n hx hb dX6_hear_48 rfl (lv_at hl 0 rfl) ?_
      refine xg_r0_12 hx hb hts iX6 hown hK hP k33 dX6_hear_49 ?_
      refine lv_iload_n hx hb dX6_hear_52 rfl (lv_at hl 1 rfl) ?_
      refine lv_iload_n hx hb dX6_hear_53 rfl (lv_at hl 2 rfl) ?_
      refine lv_iload_n hx hb dX6_hear_54 rfl (lv_at hl 3 rfl) ?_
      refine mV_v ⟨hx, hb, hml, hown, hts⟩ (c_X4_addHeard l D cI q _ _ _ _ _ _ _ _ h) (cwV 3 hts gX6_hear_X4_addHeard rfl rfl rfl (by decide +kernel) ⟨Nat.le_of_ble_eq_true rfl, Nat.le_of_ble_eq_true rfl⟩) hK hP hN hD hS hA (va_recv hK hP (ci := 4) (q0 := 12) rfl rfl) rfl hl.1 (rest := []) rfl (Nat.le_of_ble_eq_true rfl) dX6_hear_55 (Nat.zero_le _) (Nat.zero_le _) (fun v2 f3 z4 h H locs hP hD hS => ?_)
      refine lv_aload_n hx hb dX6_hear_58 rfl (lv_at hl 0 rfl) ?_
      refine xg_r0_12 hx hb hts iX6 hown hK hP k33 dX6_hear_59 ?_
      refine xg_s9 (x := v2 9) hx hb hts iX4 hown hK hP k184 rfl dX6_hear_62 ?_
      exact mi_ret (v2, f3, z4) hx hb hr hlocks h hK hP hD hS dX6_hear_65
    · have h := h.2 c9
      refine lv_bipush (v := (-104 : Int32)) hx hb dX6_hear_45 (by decide) ?_
      exact mi_ret (v, f, z) hx hb hr hlocks h hK hP hD hS dX6_hear_47
  refine lv_aload_n hx hb dX6_hear_0 rfl (lv_at hl 0 rfl) ?_
  refine lv_iload_n hx hb dX6_hear_1 rfl (lv_at hl 1 rfl) ?_
  refine rV_i ⟨hx, hb, hml, hown, hts⟩ (c_X6_isSpeaker l D cI q _ _ _ _ _ h) (cwV 1 hts gX6_hear_X6_isSpeaker rfl rfl rfl (by decide +kernel) ⟨Nat.le_of_ble_eq_true rfl, Nat.le_of_ble_eq_true rfl⟩) hK hP hN (va_recv hK hP (ci := 6) (q0 := 0) rfl rfl) rfl hl.1 (rest := []) rfl (Nat.le_of_ble_eq_true rfl) dX6_hear_2 (Nat.zero_le _) (Nat.zero_le _) (fun r5 h => ?_)
  refine lv_if_eq (tgt := 15) hx hb dX6_hear_5 (by decide) (fun c9 => ?_) (fun c9 => ?_)
  · have h := h.1 c9
    refine lv_bipush (v := (-101 : Int32)) hx hb dX6_hear_15 (by decide) ?_
    exact mi_ret (v, f, z) hx hb hr hlocks h hK hP hD hS dX6_hear_17
  · have h := h.2 c9
    refine lv_iload_n hx hb dX6_hear_8 rfl (lv_at hl 2 rfl) ?_
    refine rS_i ⟨hx, hb, hml, hown, hts⟩ (c_X6_isOpening l D cI _ _ h) (va_cwS 1 hts gX6_hear_X6_isOpening rfl rfl rfl (by decide +kernel) ⟨Nat.le_of_ble_eq_true rfl, Nat.le_of_ble_eq_true rfl⟩) hK wPnil hN rfl hl.1 (rest := []) rfl (Nat.le_of_ble_eq_true rfl) dX6_hear_9 (Nat.zero_le _) (Nat.zero_le _) (fun r6 h => ?_)
    refine lv_if_ne (tgt := 18) hx hb dX6_hear_12 (by decide) (fun c9 => ?_) (fun c9 => ?_)
    · have h := h.2 c9
      refine lv_iload_n hx hb dX6_hear_18 rfl (lv_at hl 3 rfl) ?_
      refine rS_i ⟨hx, hb, hml, hown, hts⟩ (c_X6_isEnding l D cI _ _ h) (va_cwS 1 hts gX6_hear_X6_isEnding rfl rfl rfl (by decide +kernel) ⟨Nat.le_of_ble_eq_true rfl, Nat.le_of_ble_eq_true rfl⟩) hK wPnil hN rfl hl.1 (rest := []) rfl (Nat.le_of_ble_eq_true rfl) dX6_hear_19 (Nat.zero_le _) (Nat.zero_le _) (fun r7 h => ?_)
      refine lv_if_ne (tgt := 33) hx hb dX6_hear_22 (by decide) (fun c9 => ?_) (fun c9 => ?_)
      · have h := h.2 c9
        exact B33 _ _ _ _ _ _ h _ _ hP hD hS ls (lv_sub hl [0, 1, 2, 3] rfl)
      · have h := h.1 c9
        refine lv_iload_n hx hb dX6_hear_25 rfl (lv_at hl 3 rfl) ?_
        refine lv_iconst (v := (-1 : Int32)) hx hb dX6_hear_26 (by decide) ?_
        refine lv_icmp_eq (tgt := 33) hx hb dX6_hear_27 (by decide) (fun c9 => ?_) (fun c9 => ?_)
        · have h := h.1 c9
          exact B33 _ _ _ _ _ _ h _ _ hP hD hS ls (lv_sub hl [0, 1, 2, 3] rfl)
        · have h := h.2 c9
          refine lv_bipush (v := (-102 : Int32)) hx hb dX6_hear_30 (by decide) ?_
          exact mi_ret (v, f, z) hx hb hr hlocks h hK hP hD hS dX6_hear_32
    · have h := h.1 c9
      refine lv_bipush (v := (-101 : Int32)) hx hb dX6_hear_15 (by decide) ?_
      exact mi_ret (v, f, z) hx hb hr hlocks h hK hP hD hS dX6_hear_17
def wp_X6_forget (post : Int32 → (Nat → Int32) → (Nat → Nat → Int32) → Int64 → Prop) (v : Nat → Int32) (f : Nat → Nat → Int32) (z : Int64) : Prop := post (v 9) (upd v 9 (0 : Int32)) f z
def rmX6_forget : Room := { frames := 0, cells := 0, slots := 0, locals := 0 }
set_option maxHeartbeats 4000000 in
set_option maxRecDepth 100000 in
theorem c_X6_forget (l : Launch) (D : va_G) (cI : ClassId) (q : Nat → Nat) (sz : Nat) (post : Int32 → (Nat → Int32) → (Nat → Nat → Int32) → Int64 → Prop) (v : Nat → Int32) (f : Nat → Nat → Int32) (z : Int64) (h : wp_X6_forget post v f z) : Met l yX6_forget wsX6_forget rmX6_forget (va_Pc [.ref (q 0)] (mP D cI (wX cI q v f z) sz)) (mQi post D cI (wX cI q) (va_A (wX cI q v f z) sz)) 0 0 (va_A (wX cI q v f z) sz) := by
  refine Met.ofW (cc := cX6_forget) (maxL := 2) (ret := (some .int)) (by decide) rfl ?_
  intro p e s m args below meth c s₁ B hml hv
  obtain ⟨rfl, hsz, ⟨hP, hK, hN⟩, hD0⟩ := hv
  have hx := B.exec
  have hb := B.bytes
  have hr := B.returns
  have hts := atoms_spec (ws := wsX6_forget) B.pre
  have hown : s.vm.findClass RX6 = some m.cls := findClass_of_methodNamed B.named
  have hlocks : meth.locks = false := B.notSynchronized
  subst hsz
  have hD := hD0.self (sz := s.heap.size)
  generalize hAe : va_A (wX cI q v f z) s.heap.size = A at hD ⊢
  have hA : ∀ q : Nat, s.heap.size ≤ q → A q := fun q h => by rw [← hAe]; exact Or.inr h
  have hS : va_S A s.heap s.heap [] := va_S.rf
  have iX4 : ∀ w ∈ wsX40, w ∈ wsX6_forget := fun _ h9 => List.mem_cons_of_mem _ (List.mem_append_right _ h9)
  have iX6 : ∀ w ∈ wsX60, w ∈ wsX6_forget := fun _ h9 => List.mem_cons_of_mem _ (List.mem_append_left _ (List.mem_append_right _ h9))
  have k184 := hts (.fieldLink RX6 184 "EndedByOthers$Scene" "heard" "I") (by decide +kernel)
  have k33 := hts (.fieldLink RX6 33 "EndedByOthers" "scene" "LEndedByOthers$Scene;") (by decide +kernel)
  have hl := lv_entry ([.ref (q 0)]) (n := 2) (Nat.le_of_ble_eq_true rfl)
  rw [lg_entry_eq]
  generalize (lg_sl ([.ref (q 0)]) ++ List.replicate (2 - (lg_sl ([.ref (q 0)])).length) Slot.unset).toArray = ls at hl ⊢
  have hl : lv_has ls 2 [(0, .ref (q 0))] := hl
  unfold wp_X6_forget at h
  refine lv_aload_n hx hb dX6_forget_0 rfl (lv_at hl 0 rfl) ?_
  refine xg_r0_12 hx hb hts iX6 hown hK hP k33 dX6_forget_1 ?_
  refine xg_s9 (x := v 9) hx hb hts iX4 hown hK hP k184 rfl dX6_forget_4 ?_
  refine lv_istore_n (lv' := [(1, .int (v 9)), (0, .ref (q 0))]) hx hb dX6_forget_7 rfl hl (by decide) rfl (fun ls hl => ?_)
  refine lv_aload_n hx hb dX6_forget_8 rfl (lv_at hl 1 rfl) ?_
  refine xg_r0_12 hx hb hts iX6 hown hK hP k33 dX6_forget_9 ?_
  refine lv_iconst (v := (0 : Int32)) hx hb dX6_forget_12 (by decide) ?_
  refine xp_s9 hx hb hts iX4 hown hK hP hD hS k184 dX6_forget_13 (fun H locs hP hD hS => ?_)
  refine lv_iload_n hx hb dX6_forget_16 rfl (lv_at hl 0 rfl) ?_
  exact mi_ret (upd v 9 (0 : Int32), f, z) hx hb hr hlocks h hK hP hD hS dX6_forget_17
def wp_X6_talks (post : Int32 → (Nat → Int32) → (Nat → Nat → Int32) → Int64 → Prop) (v : Nat → Int32) (f : Nat → Nat → Int32) (z : Int64) (a0 : Int32) (a1 : Int32) (a2 : Int32) : Prop := ((a0 < (1 : Int32) → post (-102 : Int32) v f z) ∧ (¬ a0 < (1 : Int32) → (((60 : Int32) < a0 → post (-102 : Int32) v f z) ∧ (¬ (60 : Int32) < a0 → ((a1 < 0 → post (-102 : Int32) v f z) ∧ (¬ a1 < 0 → ((a2 < 0 → post (-102 : Int32) v f z) ∧ (¬ a2 < 0 → ((a2 < (3 : Int32) → (((v 7) = 0 → post (-103 : Int32) v f z) ∧ (¬ (v 7) = 0 → (wp_X5_run (fun v2 f3 z4 => ((a2 = 0 → post (v2 15) v2 f3 z4) ∧ (a2 = 1 → post (v2 16) v2 f3 z4) ∧ (((a2).toInt < 0 ∨ 1 < (a2).toInt) → post ((z4).toInt32) v2 f3 z4))) v f z a0 a1)))) ∧ (¬ a2 < (3 : Int32) → post (-102 : Int32) v f z))))))))))
def rmX6_talks : Room := { frames := 4, cells := 0, slots := 0, locals := 96 }
set_option maxHeartbeats 4000000 in
set_option maxRecDepth 100000 in
theorem c_X6_talks (l : Launch) (D : va_G) (cI : ClassId) (q : Nat → Nat) (sz : Nat) (post : Int32 → (Nat → Int32) → (Nat → Nat → Int32) → Int64 → Prop) (v : Nat → Int32) (f : Nat → Nat → Int32) (z : Int64) (a0 : Int32) (a1 : Int32) (a2 : Int32) (h : wp_X6_talks post v f z a0 a1 a2) : Met l yX6_talks wsX6_talks rmX6_talks (va_Pc [.ref (q 0), .int a0, .int a1, .int a2] (mP D cI (wX cI q v f z) sz)) (mQi post D cI (wX cI q) (va_A (wX cI q v f z) sz)) 0 0 (va_A (wX cI q v f z) sz) := by
  refine Met.ofW (cc := cX6_talks) (maxL := 4) (ret := (some .int)) (by decide) rfl ?_
  intro p e s m args below meth c s₁ B hml hv
  obtain ⟨rfl, hsz, ⟨hP, hK, hN⟩, hD0⟩ := hv
  have hx := B.exec
  have hb := B.bytes
  have hr := B.returns
  have hts := atoms_spec (ws := wsX6_talks) B.pre
  have hown : s.vm.findClass RX6 = some m.cls := findClass_of_methodNamed B.named
  have hlocks : meth.locks = false := B.notSynchronized
  subst hsz
  have hD := hD0.self (sz := s.heap.size)
  generalize hAe : va_A (wX cI q v f z) s.heap.size = A at hD ⊢
  have hA : ∀ q : Nat, s.heap.size ≤ q → A q := fun q h => by rw [← hAe]; exact Or.inr h
  have hS : va_S A s.heap s.heap [] := va_S.rf
  have iX3 : ∀ w ∈ wsX30, w ∈ wsX6_talks := fun _ h9 => List.mem_cons_of_mem _ (List.mem_append_left _ (List.mem_append_left _ (List.mem_append_right _ h9)))
  have iX5 : ∀ w ∈ wsX50, w ∈ wsX6_talks := fun _ h9 => List.mem_cons_of_mem _ (List.mem_append_left _ (List.mem_append_right _ h9))
  have iX6 : ∀ w ∈ wsX60, w ∈ wsX6_talks := fun _ h9 => List.mem_cons_of_mem _ (List.mem_append_left _ (List.mem_append_left _ (List.mem_append_left _ (List.mem_append_right _ h9))))
  have k195 := hts (.fieldLink RX6 195 "EndedByOthers$Trial" "ended" "I") (by decide +kernel)
  have k196 := hts (.fieldLink RX6 196 "EndedByOthers$Trial" "asWanted" "I") (by decide +kernel)
  have k199 := hts (.fieldLink RX6 199 "EndedByOthers$Trial" "seed" "J") (by decide +kernel)
  have k26 := hts (.fieldLink RX6 26 "EndedByOthers" "room" "LEndedByOthers$Room;") (by decide +kernel)
  have k33 := hts (.fieldLink RX6 33 "EndedByOthers" "scene" "LEndedByOthers$Scene;") (by decide +kernel)
  have k50 := hts (.fieldLink RX6 50 "EndedByOthers" "trial" "LEndedByOthers$Trial;") (by decide +kernel)
  have k92 := hts (.fieldLink RX6 92 "EndedByOthers$Room" "speakers" "I") (by decide +kernel)
  have hl := lv_entry ([.ref (q 0), .int a0, .int a1, .int a2]) (n := 4) (Nat.le_of_ble_eq_true rfl)
  rw [lg_entry_eq]
  generalize (lg_sl ([.ref (q 0), .int a0, .int a1, .int a2]) ++ List.replicate (4 - (lg_sl ([.ref (q 0), .int a0, .int a1, .int a2])).length) Slot.unset).toArray = ls at hl ⊢
  have hl : lv_has ls 4 [(0, .ref (q 0)), (1, .int a0), (2, .int a1), (3, .int a2)] := hl
  unfold wp_X6_talks at h
  refine lv_iload_n hx hb dX6_talks_0 rfl (lv_at hl 1 rfl) ?_
  refine lv_iconst (v := (1 : Int32)) hx hb dX6_talks_1 (by decide) ?_
  refine lv_icmp_lt (tgt := 24) hx hb dX6_talks_2 (by decide) (fun c9 => ?_) (fun c9 => ?_)
  · have h := h.1 c9
    refine lv_bipush (v := (-102 : Int32)) hx hb dX6_talks_24 (by decide) ?_
    exact mi_ret (v, f, z) hx hb hr hlocks h hK hP hD hS dX6_talks_26
  · have h := h.2 c9
    refine lv_iload_n hx hb dX6_talks_5 rfl (lv_at hl 1 rfl) ?_
    refine lv_bipush (v := (60 : Int32)) hx hb dX6_talks_6 (by decide) ?_
    refine lv_icmp_gt (tgt := 24) hx hb dX6_talks_8 (by decide) (fun c9 => ?_) (fun c9 => ?_)
    · have h := h.1 c9
      refine lv_bipush (v := (-102 : Int32)) hx hb dX6_talks_24 (by decide) ?_
      exact mi_ret (v, f, z) hx hb hr hlocks h hK hP hD hS dX6_talks_26
    · have h := h.2 c9
      refine lv_iload_n hx hb dX6_talks_11 rfl (lv_at hl 2 rfl) ?_
      refine lv_if_lt (tgt := 24) hx hb dX6_talks_12 (by decide) (fun c9 => ?_) (fun c9 => ?_)
      · have h := h.1 c9
        refine lv_bipush (v := (-102 : Int32)) hx hb dX6_talks_24 (by decide) ?_
        exact mi_ret (v, f, z) hx hb hr hlocks h hK hP hD hS dX6_talks_26
      · have h := h.2 c9
        refine lv_iload_n hx hb dX6_talks_15 rfl (lv_at hl 3 rfl) ?_
        refine lv_if_lt (tgt := 24) hx hb dX6_talks_16 (by decide) (fun c9 => ?_) (fun c9 => ?_)
        · have h := h.1 c9
          refine lv_bipush (v := (-102 : Int32)) hx hb dX6_talks_24 (by decide) ?_
          exact mi_ret (v, f, z) hx hb hr hlocks h hK hP hD hS dX6_talks_26
        · have h := h.2 c9
          refine lv_iload_n hx hb dX6_talks_19 rfl (lv_at hl 3 rfl) ?_
          refine lv_iconst (v := (3 : Int32)) hx hb dX6_talks_20 (by decide) ?_
          refine lv_icmp_lt (tgt := 27) hx hb dX6_talks_21 (by decide) (fun c9 => ?_) (fun c9 => ?_)
          · have h := h.1 c9
            refine lv_aload_n hx hb dX6_talks_27 rfl (lv_at hl 0 rfl) ?_
            refine xg_r0_8 hx hb hts iX6 hown hK hP k26 dX6_talks_28 ?_
            refine xg_s7 (x := v 7) hx hb hts iX3 hown hK hP k92 rfl dX6_talks_31 ?_
            refine lv_if_ne (tgt := 40) hx hb dX6_talks_34 (by decide) (fun c9 => ?_) (fun c9 => ?_)
            · have h := h.2 c9
              refine lv_aload_n hx hb dX6_talks_40 rfl (lv_at hl 0 rfl) ?_
              refine xg_r0_33 hx hb hts iX6 hown hK hP k50 dX6_talks_41 ?_
              refine lv_aload_n hx hb dX6_talks_44 rfl (lv_at hl 0 rfl) ?_
              refine xg_r0_8 hx hb hts iX6 hown hK hP k26 dX6_talks_45 ?_
              refine lv_aload_n hx hb dX6_talks_48 rfl (lv_at hl 0 rfl) ?_
              refine xg_r0_12 hx hb hts iX6 hown hK hP k33 dX6_talks_49 ?_
              refine lv_iload_n hx hb dX6_talks_52 rfl (lv_at hl 1 rfl) ?_
              refine lv_iload_n hx hb dX6_talks_53 rfl (lv_at hl 2 rfl) ?_
              refine mV_v ⟨hx, hb, hml, hown, hts⟩ (c_X5_run l D cI q _ _ _ _ _ _ _ h) (cwV 4 hts gX6_talks_X5_run rfl rfl rfl (by decide +kernel) ⟨Nat.le_of_ble_eq_true rfl, Nat.le_of_ble_eq_true rfl⟩) hK hP hN hD hS hA (va_recv hK hP (ci := 5) (q0 := 33) rfl rfl) rfl hl.1 (rest := []) rfl (Nat.le_of_ble_eq_true rfl) dX6_talks_54 (Nat.zero_le _) (Nat.zero_le _) (fun v2 f3 z4 h H locs hP hD hS => ?_)
              refine lv_iload_n hx hb dX6_talks_57 rfl (lv_at hl 3 rfl) ?_
              rcases sw_0_1 (a2) with c9 | c9 | c9
              · have h := h.1 c9
                refine lv_lookup (off := 26) (tgt := 84) hx hb dX6_talks_58 (by decide) (by rw [c9]; decide) (by decide) ?_
                refine lv_aload_n hx hb dX6_talks_84 rfl (lv_at hl 0 rfl) ?_
                refine xg_r0_33 hx hb hts iX6 hown hK hP k50 dX6_talks_85 ?_
                refine xg_s15 (x := v2 15) hx hb hts iX5 hown hK hP k195 rfl dX6_talks_88 ?_
                exact mi_ret (v2, f3, z4) hx hb hr hlocks h hK hP hD hS dX6_talks_91
              · have h := h.2.1 c9
                refine lv_lookup (off := 34) (tgt := 92) hx hb dX6_talks_58 (by decide) (by rw [c9]; decide) (by decide) ?_
                refine lv_aload_n hx hb dX6_talks_92 rfl (lv_at hl 0 rfl) ?_
                refine xg_r0_33 hx hb hts iX6 hown hK hP k50 dX6_talks_93 ?_
                refine xg_s16 (x := v2 16) hx hb hts iX5 hown hK hP k196 rfl dX6_talks_96 ?_
                exact mi_ret (v2, f3, z4) hx hb hr hlocks h hK hP hD hS dX6_talks_99
              · have h := h.2.2 c9
                refine lv_lookup (off := 42) (tgt := 100) hx hb dX6_talks_58 (by decide) (lk_0_1 c9) (by decide) ?_
                refine lv_aload_n hx hb dX6_talks_100 rfl (lv_at hl 0 rfl) ?_
                refine xg_r0_33 hx hb hts iX6 hown hK hP k50 dX6_talks_101 ?_
                refine xg_l0 (x := z4) hx hb hts iX5 hown hK hP k199 rfl dX6_talks_104 ?_
                refine lv_l2i (v := (z4).toInt32) hx hb dX6_talks_107 rfl ?_
                exact mi_ret (v2, f3, z4) hx hb hr hlocks h hK hP hD hS dX6_talks_108
            · have h := h.1 c9
              refine lv_bipush (v := (-103 : Int32)) hx hb dX6_talks_37 (by decide) ?_
              exact mi_ret (v, f, z) hx hb hr hlocks h hK hP hD hS dX6_talks_39
          · have h := h.2 c9
            refine lv_bipush (v := (-102 : Int32)) hx hb dX6_talks_24 (by decide) ?_
            exact mi_ret (v, f, z) hx hb hr hlocks h hK hP hD hS dX6_talks_26
def wp_X6_image (post : Int32 → (Nat → Int32) → (Nat → Nat → Int32) → Int64 → Prop) (v : Nat → Int32) (f : Nat → Nat → Int32) (z : Int64) : Prop := (((v 7) = 0 → post (-103 : Int32) v f z) ∧ (¬ (v 7) = 0 → (wp_X4_copyFrom_im (fun v2 f3 z4 => post (v2 11) (upd v2 0 (1 : Int32)) f3 z4) v f z)))
def rmX6_image : Room := { frames := 2, cells := 0, slots := 0, locals := 101 }
set_option maxHeartbeats 4000000 in
set_option maxRecDepth 100000 in
theorem c_X6_image (l : Launch) (D : va_G) (cI : ClassId) (q : Nat → Nat) (sz : Nat) (post : Int32 → (Nat → Int32) → (Nat → Nat → Int32) → Int64 → Prop) (v : Nat → Int32) (f : Nat → Nat → Int32) (z : Int64) (h : wp_X6_image post v f z) : Met l yX6_image wsX6_image rmX6_image (va_Pc [.ref (q 0)] (mP D cI (wX cI q v f z) sz)) (mQi post D cI (wX cI q) (va_A (wX cI q v f z) sz)) 0 0 (va_A (wX cI q v f z) sz) := by
  refine Met.ofW (cc := cX6_image) (maxL := 1) (ret := (some .int)) (by decide) rfl ?_
  intro p e s m args below meth c s₁ B hml hv
  obtain ⟨rfl, hsz, ⟨hP, hK, hN⟩, hD0⟩ := hv
  have hx := B.exec
  have hb := B.bytes
  have hr := B.returns
  have hts := atoms_spec (ws := wsX6_image) B.pre
  have hown : s.vm.findClass RX6 = some m.cls := findClass_of_methodNamed B.named
  have hlocks : meth.locks = false := B.notSynchronized
  subst hsz
  have hD := hD0.self (sz := s.heap.size)
  generalize hAe : va_A (wX cI q v f z) s.heap.size = A at hD ⊢
  have hA : ∀ q : Nat, s.heap.size ≤ q → A q := fun q h => by rw [← hAe]; exact Or.inr h
  have hS : va_S A s.heap s.heap [] := va_S.rf
  have iX3 : ∀ w ∈ wsX30, w ∈ wsX6_image := fun _ h9 => List.mem_cons_of_mem _ (List.mem_append_left _ (List.mem_append_right _ h9))
  have iX4 : ∀ w ∈ wsX40, w ∈ wsX6_image := fun _ h9 => List.mem_cons_of_mem _ (List.mem_append_right _ h9)
  have iX6 : ∀ w ∈ wsX60, w ∈ wsX6_image := fun _ h9 => List.mem_cons_of_mem _ (List.mem_append_left _ (List.mem_append_left _ (List.mem_append_right _ h9)))
  have k145 := hts (.fieldLink RX6 145 "EndedByOthers$Scene" "sentences" "I") (by decide +kernel)
  have k26 := hts (.fieldLink RX6 26 "EndedByOthers" "room" "LEndedByOthers$Room;") (by decide +kernel)
  have k33 := hts (.fieldLink RX6 33 "EndedByOthers" "scene" "LEndedByOthers$Scene;") (by decide +kernel)
  have k37 := hts (.fieldLink RX6 37 "EndedByOthers" "image" "LEndedByOthers$Scene;") (by decide +kernel)
  have k54 := hts (.fieldLink RX6 54 "EndedByOthers" "imageKept" "Z") (by decide +kernel)
  have k92 := hts (.fieldLink RX6 92 "EndedByOthers$Room" "speakers" "I") (by decide +kernel)
  have hl := lv_entry ([.ref (q 0)]) (n := 1) (Nat.le_of_ble_eq_true rfl)
  rw [lg_entry_eq]
  generalize (lg_sl ([.ref (q 0)]) ++ List.replicate (1 - (lg_sl ([.ref (q 0)])).length) Slot.unset).toArray = ls at hl ⊢
  have hl : lv_has ls 1 [(0, .ref (q 0))] := hl
  unfold wp_X6_image at h
  refine lv_aload_n hx hb dX6_image_0 rfl (lv_at hl 0 rfl) ?_
  refine xg_r0_8 hx hb hts iX6 hown hK hP k26 dX6_image_1 ?_
  refine xg_s7 (x := v 7) hx hb hts iX3 hown hK hP k92 rfl dX6_image_4 ?_
  refine lv_if_ne (tgt := 13) hx hb dX6_image_7 (by decide) (fun c9 => ?_) (fun c9 => ?_)
  · have h := h.2 c9
    refine lv_aload_n hx hb dX6_image_13 rfl (lv_at hl 0 rfl) ?_
    refine xg_r0_21 hx hb hts iX6 hown hK hP k37 dX6_image_14 ?_
    refine lv_aload_n hx hb dX6_image_17 rfl (lv_at hl 0 rfl) ?_
    refine xg_r0_12 hx hb hts iX6 hown hK hP k33 dX6_image_18 ?_
    refine mV_v ⟨hx, hb, hml, hown, hts⟩ (c_X4_copyFrom_im l D cI q _ _ _ _ _ h) (cwV 1 hts gX6_image_X4_copyFrom rfl rfl rfl (by decide +kernel) ⟨Nat.le_of_ble_eq_true rfl, Nat.le_of_ble_eq_true rfl⟩) hK hP hN hD hS hA (va_recv hK hP (ci := 4) (q0 := 21) rfl rfl) rfl hl.1 (rest := []) rfl (Nat.le_of_ble_eq_true rfl) dX6_image_21 (Nat.zero_le _) (Nat.zero_le _) (fun v2 f3 z4 h H locs hP hD hS => ?_)
    refine lv_aload_n hx hb dX6_image_24 rfl (lv_at hl 0 rfl) ?_
    refine lv_iconst (v := (1 : Int32)) hx hb dX6_image_25 (by decide) ?_
    refine xp_s0 hx hb hts iX6 hown hK hP hD hS k54 rfl rfl dX6_image_26 (fun H locs hP hD hS => ?_)
    refine lv_aload_n hx hb dX6_image_29 rfl (lv_at hl 0 rfl) ?_
    refine xg_r0_21 hx hb hts iX6 hown hK hP k37 dX6_image_30 ?_
    refine xg_s11 (x := v2 11) hx hb hts iX4 hown hK hP k145 rfl dX6_image_33 ?_
    exact mi_ret (upd v2 0 (1 : Int32), f3, z4) hx hb hr hlocks h hK hP hD hS dX6_image_36
  · have h := h.1 c9
    refine lv_bipush (v := (-103 : Int32)) hx hb dX6_image_10 (by decide) ?_
    exact mi_ret (v, f, z) hx hb hr hlocks h hK hP hD hS dX6_image_12
def wp_X6_restore (post : Int32 → (Nat → Int32) → (Nat → Nat → Int32) → Int64 → Prop) (v : Nat → Int32) (f : Nat → Nat → Int32) (z : Int64) : Prop := (((v 0) = 0 → post (-103 : Int32) v f z) ∧ (¬ (v 0) = 0 → (wp_X4_copyFrom_re (fun v2 f3 z4 => post (v2 8) v2 f3 z4) v f z)))
def rmX6_restore : Room := { frames := 2, cells := 0, slots := 0, locals := 101 }
set_option maxHeartbeats 4000000 in
set_option maxRecDepth 100000 in
theorem c_X6_restore (l : Launch) (D : va_G) (cI : ClassId) (q : Nat → Nat) (sz : Nat) (post : Int32 → (Nat → Int32) → (Nat → Nat → Int32) → Int64 → Prop) (v : Nat → Int32) (f : Nat → Nat → Int32) (z : Int64) (h : wp_X6_restore post v f z) : Met l yX6_restore wsX6_restore rmX6_restore (va_Pc [.ref (q 0)] (mP D cI (wX cI q v f z) sz)) (mQi post D cI (wX cI q) (va_A (wX cI q v f z) sz)) 0 0 (va_A (wX cI q v f z) sz) := by
  refine Met.ofW (cc := cX6_restore) (maxL := 1) (ret := (some .int)) (by decide) rfl ?_
  intro p e s m args below meth c s₁ B hml hv
  obtain ⟨rfl, hsz, ⟨hP, hK, hN⟩, hD0⟩ := hv
  have hx := B.exec
  have hb := B.bytes
  have hr := B.returns
  have hts := atoms_spec (ws := wsX6_restore) B.pre
  have hown : s.vm.findClass RX6 = some m.cls := findClass_of_methodNamed B.named
  have hlocks : meth.locks = false := B.notSynchronized
  subst hsz
  have hD := hD0.self (sz := s.heap.size)
  generalize hAe : va_A (wX cI q v f z) s.heap.size = A at hD ⊢
  have hA : ∀ q : Nat, s.heap.size ≤ q → A q := fun q h => by rw [← hAe]; exact Or.inr h
  have hS : va_S A s.heap s.heap [] := va_S.rf
  have iX4 : ∀ w ∈ wsX40, w ∈ wsX6_restore := fun _ h9 => List.mem_cons_of_mem _ (List.mem_append_right _ h9)
  have iX6 : ∀ w ∈ wsX60, w ∈ wsX6_restore := fun _ h9 => List.mem_cons_of_mem _ (List.mem_append_left _ (List.mem_append_right _ h9))
  have k145 := hts (.fieldLink RX6 145 "EndedByOthers$Scene" "sentences" "I") (by decide +kernel)
  have k33 := hts (.fieldLink RX6 33 "EndedByOthers" "scene" "LEndedByOthers$Scene;") (by decide +kernel)
  have k37 := hts (.fieldLink RX6 37 "EndedByOthers" "image" "LEndedByOthers$Scene;") (by decide +kernel)
  have k54 := hts (.fieldLink RX6 54 "EndedByOthers" "imageKept" "Z") (by decide +kernel)
  have hl := lv_entry ([.ref (q 0)]) (n := 1) (Nat.le_of_ble_eq_true rfl)
  rw [lg_entry_eq]
  generalize (lg_sl ([.ref (q 0)]) ++ List.replicate (1 - (lg_sl ([.ref (q 0)])).length) Slot.unset).toArray = ls at hl ⊢
  have hl : lv_has ls 1 [(0, .ref (q 0))] := hl
  unfold wp_X6_restore at h
  refine lv_aload_n hx hb dX6_restore_0 rfl (lv_at hl 0 rfl) ?_
  refine xg_s0 (x := v 0) hx hb hts iX6 hown hK hP k54 rfl dX6_restore_1 ?_
  refine lv_if_ne (tgt := 10) hx hb dX6_restore_4 (by decide) (fun c9 => ?_) (fun c9 => ?_)
  · have h := h.2 c9
    refine lv_aload_n hx hb dX6_restore_10 rfl (lv_at hl 0 rfl) ?_
    refine xg_r0_12 hx hb hts iX6 hown hK hP k33 dX6_restore_11 ?_
    refine lv_aload_n hx hb dX6_restore_14 rfl (lv_at hl 0 rfl) ?_
    refine xg_r0_21 hx hb hts iX6 hown hK hP k37 dX6_restore_15 ?_
    refine mV_v ⟨hx, hb, hml, hown, hts⟩ (c_X4_copyFrom_re l D cI q _ _ _ _ _ h) (cwV 1 hts gX6_restore_X4_copyFrom rfl rfl rfl (by decide +kernel) ⟨Nat.le_of_ble_eq_true rfl, Nat.le_of_ble_eq_true rfl⟩) hK hP hN hD hS hA (va_recv hK hP (ci := 4) (q0 := 12) rfl rfl) rfl hl.1 (rest := []) rfl (Nat.le_of_ble_eq_true rfl) dX6_restore_18 (Nat.zero_le _) (Nat.zero_le _) (fun v2 f3 z4 h H locs hP hD hS => ?_)
    refine lv_aload_n hx hb dX6_restore_21 rfl (lv_at hl 0 rfl) ?_
    refine xg_r0_12 hx hb hts iX6 hown hK hP k33 dX6_restore_22 ?_
    refine xg_s8 (x := v2 8) hx hb hts iX4 hown hK hP k145 rfl dX6_restore_25 ?_
    exact mi_ret (v2, f3, z4) hx hb hr hlocks h hK hP hD hS dX6_restore_28
  · have h := h.1 c9
    refine lv_bipush (v := (-103 : Int32)) hx hb dX6_restore_7 (by decide) ?_
    exact mi_ret (v, f, z) hx hb hr hlocks h hK hP hD hS dX6_restore_9
def wp_X6_count (post : Int32 → Prop) (v : Nat → Int32) (f : Nat → Nat → Int32) (z : Int64) (a0 : Int32) : Prop := ((a0 = 0 → post (v 7)) ∧ (a0 = 1 → post (v 8)) ∧ (a0 = 2 → (wp_X4_howManyOpen (fun r1 => post r1) v f z)) ∧ (a0 = 3 → (wp_X4_howManyAsWanted (fun r2 => post r2) v f z)) ∧ (a0 = 4 → (wp_X4_howManyUnlikeEndings (fun r3 => post r3) v f z)) ∧ (a0 = 5 → post (v 10)) ∧ (a0 = 6 → post (v 9)) ∧ (a0 = 7 → post (v 2)) ∧ (a0 = 8 → post (v 1)) ∧ (((a0).toInt < 0 ∨ 8 < (a0).toInt) → post (-102 : Int32)))
def rmX6_count : Room := { frames := 3, cells := 0, slots := 0, locals := 64 }
set_option maxHeartbeats 4000000 in
set_option maxRecDepth 100000 in
theorem c_X6_count (l : Launch) (D : va_G) (cI : ClassId) (q : Nat → Nat) (post : Int32 → Prop) (v : Nat → Int32) (f : Nat → Nat → Int32) (z : Int64) (a0 : Int32) (h : wp_X6_count post v f z a0) : Met l yX6_count wsX6_count rmX6_count (va_Pc [.ref (q 0), .int a0] (rP D cI (wX cI q v f z))) (sQ post) 0 0 (fun _ => False) := by
  refine Met.ofW (cc := cX6_count) (maxL := 2) (ret := (some .int)) (by decide) rfl ?_
  intro p e s m args below meth c s₁ B hml hv
  obtain ⟨rfl, hP, hK, hN⟩ := hv
  have hx := B.exec
  have hb := B.bytes
  have hr := B.returns
  have hts := atoms_spec (ws := wsX6_count) B.pre
  have hown : s.vm.findClass RX6 = some m.cls := findClass_of_methodNamed B.named
  have hlocks : meth.locks = false := B.notSynchronized
  have iX1 : ∀ w ∈ wsX10, w ∈ wsX6_count := fun _ h9 => List.mem_cons_of_mem _ (List.mem_append_right _ h9)
  have iX3 : ∀ w ∈ wsX30, w ∈ wsX6_count := fun _ h9 => List.mem_cons_of_mem _ (List.mem_append_left _ (List.mem_append_left _ (List.mem_append_right _ h9)))
  have iX4 : ∀ w ∈ wsX40, w ∈ wsX6_count := fun _ h9 => List.mem_cons_of_mem _ (List.mem_append_left _ (List.mem_append_right _ h9))
  have iX6 : ∀ w ∈ wsX60, w ∈ wsX6_count := fun _ h9 => List.mem_cons_of_mem _ (List.mem_append_left _ (List.mem_append_left _ (List.mem_append_left _ (List.mem_append_right _ h9))))
  have k10 := hts (.fieldLink RX6 10 "EndedByOthers" "page" "LEndedByOthers$Page;") (by decide +kernel)
  have k139 := hts (.fieldLink RX6 139 "EndedByOthers$Scene" "changes" "I") (by decide +kernel)
  have k145 := hts (.fieldLink RX6 145 "EndedByOthers$Scene" "sentences" "I") (by decide +kernel)
  have k184 := hts (.fieldLink RX6 184 "EndedByOthers$Scene" "heard" "I") (by decide +kernel)
  have k26 := hts (.fieldLink RX6 26 "EndedByOthers" "room" "LEndedByOthers$Room;") (by decide +kernel)
  have k33 := hts (.fieldLink RX6 33 "EndedByOthers" "scene" "LEndedByOthers$Scene;") (by decide +kernel)
  have k58 := hts (.fieldLink RX6 58 "EndedByOthers" "roomsRead" "I") (by decide +kernel)
  have k62 := hts (.fieldLink RX6 62 "EndedByOthers$Page" "length" "I") (by decide +kernel)
  have k92 := hts (.fieldLink RX6 92 "EndedByOthers$Room" "speakers" "I") (by decide +kernel)
  have hl := lv_entry ([.ref (q 0), .int a0]) (n := 2) (Nat.le_of_ble_eq_true rfl)
  rw [lg_entry_eq]
  generalize (lg_sl ([.ref (q 0), .int a0]) ++ List.replicate (2 - (lg_sl ([.ref (q 0), .int a0])).length) Slot.unset).toArray = ls at hl ⊢
  have hl : lv_has ls 2 [(0, .ref (q 0)), (1, .int a0)] := hl
  unfold wp_X6_count at h
  refine lv_iload_n hx hb dX6_count_0 rfl (lv_at hl 1 rfl) ?_
  rcases sw_0_8 (a0) with c9 | c9 | c9 | c9 | c9 | c9 | c9 | c9 | c9 | c9
  · have h := h.1 c9
    refine lv_tableIn (off := 51) (tgt := 52) hx hb dX6_count_1 (by rw [c9]; decide) (by rw [c9]; decide) (by rw [c9]; decide) (by decide) ?_
    refine lv_aload_n hx hb dX6_count_52 rfl (lv_at hl 0 rfl) ?_
    refine xg_r0_8 hx hb hts iX6 hown hK hP k26 dX6_count_53 ?_
    refine xg_s7 (x := v 7) hx hb hts iX3 hown hK hP k92 rfl dX6_count_56 ?_
    exact ri_ret hx hb hr hlocks h dX6_count_59
  · have h := h.2.1 c9
    refine lv_tableIn (off := 59) (tgt := 60) hx hb dX6_count_1 (by rw [c9]; decide) (by rw [c9]; decide) (by rw [c9]; decide) (by decide) ?_
    refine lv_aload_n hx hb dX6_count_60 rfl (lv_at hl 0 rfl) ?_
    refine xg_r0_12 hx hb hts iX6 hown hK hP k33 dX6_count_61 ?_
    refine xg_s8 (x := v 8) hx hb hts iX4 hown hK hP k145 rfl dX6_count_64 ?_
    exact ri_ret hx hb hr hlocks h dX6_count_67
  · have h := h.2.2.1 c9
    refine lv_tableIn (off := 67) (tgt := 68) hx hb dX6_count_1 (by rw [c9]; decide) (by rw [c9]; decide) (by rw [c9]; decide) (by decide) ?_
    refine lv_aload_n hx hb dX6_count_68 rfl (lv_at hl 0 rfl) ?_
    refine xg_r0_12 hx hb hts iX6 hown hK hP k33 dX6_count_69 ?_
    refine rV_i ⟨hx, hb, hml, hown, hts⟩ (c_X4_howManyOpen l D cI q _ _ _ _ h) (cwV 0 hts gX6_count_X4_howManyOpen rfl rfl rfl (by decide +kernel) ⟨Nat.le_of_ble_eq_true rfl, Nat.le_of_ble_eq_true rfl⟩) hK hP hN (va_recv hK hP (ci := 4) (q0 := 12) rfl rfl) rfl hl.1 (rest := []) rfl (Nat.le_of_ble_eq_true rfl) dX6_count_72 (Nat.zero_le _) (Nat.zero_le _) (fun r1 h => ?_)
    exact ri_ret hx hb hr hlocks h dX6_count_75
  · have h := h.2.2.2.1 c9
    refine lv_tableIn (off := 75) (tgt := 76) hx hb dX6_count_1 (by rw [c9]; decide) (by rw [c9]; decide) (by rw [c9]; decide) (by decide) ?_
    refine lv_aload_n hx hb dX6_count_76 rfl (lv_at hl 0 rfl) ?_
    refine xg_r0_12 hx hb hts iX6 hown hK hP k33 dX6_count_77 ?_
    refine rV_i ⟨hx, hb, hml, hown, hts⟩ (c_X4_howManyAsWanted l D cI q _ _ _ _ h) (cwV 0 hts gX6_count_X4_howManyAsWanted rfl rfl rfl (by decide +kernel) ⟨Nat.le_of_ble_eq_true rfl, Nat.le_of_ble_eq_true rfl⟩) hK hP hN (va_recv hK hP (ci := 4) (q0 := 12) rfl rfl) rfl hl.1 (rest := []) rfl (Nat.le_of_ble_eq_true rfl) dX6_count_80 (Nat.zero_le _) (Nat.zero_le _) (fun r2 h => ?_)
    exact ri_ret hx hb hr hlocks h dX6_count_83
  · have h := h.2.2.2.2.1 c9
    refine lv_tableIn (off := 83) (tgt := 84) hx hb dX6_count_1 (by rw [c9]; decide) (by rw [c9]; decide) (by rw [c9]; decide) (by decide) ?_
    refine lv_aload_n hx hb dX6_count_84 rfl (lv_at hl 0 rfl) ?_
    refine xg_r0_12 hx hb hts iX6 hown hK hP k33 dX6_count_85 ?_
    refine rV_i ⟨hx, hb, hml, hown, hts⟩ (c_X4_howManyUnlikeEndings l D cI q _ _ _ _ h) (cwV 0 hts gX6_count_X4_howManyUnlikeEndings rfl rfl rfl (by decide +kernel) ⟨Nat.le_of_ble_eq_true rfl, Nat.le_of_ble_eq_true rfl⟩) hK hP hN (va_recv hK hP (ci := 4) (q0 := 12) rfl rfl) rfl hl.1 (rest := []) rfl (Nat.le_of_ble_eq_true rfl) dX6_count_88 (Nat.zero_le _) (Nat.zero_le _) (fun r3 h => ?_)
    exact ri_ret hx hb hr hlocks h dX6_count_91
  · have h := h.2.2.2.2.2.1 c9
    refine lv_tableIn (off := 91) (tgt := 92) hx hb dX6_count_1 (by rw [c9]; decide) (by rw [c9]; decide) (by rw [c9]; decide) (by decide) ?_
    refine lv_aload_n hx hb dX6_count_92 rfl (lv_at hl 0 rfl) ?_
    refine xg_r0_12 hx hb hts iX6 hown hK hP k33 dX6_count_93 ?_
    refine xg_s10 (x := v 10) hx hb hts iX4 hown hK hP k139 rfl dX6_count_96 ?_
    exact ri_ret hx hb hr hlocks h dX6_count_99
  · have h := h.2.2.2.2.2.2.1 c9
    refine lv_tableIn (off := 99) (tgt := 100) hx hb dX6_count_1 (by rw [c9]; decide) (by rw [c9]; decide) (by rw [c9]; decide) (by decide) ?_
    refine lv_aload_n hx hb dX6_count_100 rfl (lv_at hl 0 rfl) ?_
    refine xg_r0_12 hx hb hts iX6 hown hK hP k33 dX6_count_101 ?_
    refine xg_s9 (x := v 9) hx hb hts iX4 hown hK hP k184 rfl dX6_count_104 ?_
    exact ri_ret hx hb hr hlocks h dX6_count_107
  · have h := h.2.2.2.2.2.2.2.1 c9
    refine lv_tableIn (off := 107) (tgt := 108) hx hb dX6_count_1 (by rw [c9]; decide) (by rw [c9]; decide) (by rw [c9]; decide) (by decide) ?_
    refine lv_aload_n hx hb dX6_count_108 rfl (lv_at hl 0 rfl) ?_
    refine xg_r0_1 hx hb hts iX6 hown hK hP k10 dX6_count_109 ?_
    refine xg_s2 (x := v 2) hx hb hts iX1 hown hK hP k62 rfl dX6_count_112 ?_
    exact ri_ret hx hb hr hlocks h dX6_count_115
  · have h := h.2.2.2.2.2.2.2.2.1 c9
    refine lv_tableIn (off := 115) (tgt := 116) hx hb dX6_count_1 (by rw [c9]; decide) (by rw [c9]; decide) (by rw [c9]; decide) (by decide) ?_
    refine lv_aload_n hx hb dX6_count_116 rfl (lv_at hl 0 rfl) ?_
    refine xg_s1 (x := v 1) hx hb hts iX6 hown hK hP k58 rfl dX6_count_117 ?_
    exact ri_ret hx hb hr hlocks h dX6_count_120
  · have h := h.2.2.2.2.2.2.2.2.2 c9
    refine lv_tableOut (tgt := 121) hx hb dX6_count_1 c9 (by decide) ?_
    refine lv_bipush (v := (-102 : Int32)) hx hb dX6_count_121 (by decide) ?_
    exact ri_ret hx hb hr hlocks h dX6_count_123
def wp_X6_digest_B134 (post : Int64 → (Nat → Int32) → (Nat → Nat → Int32) → Int64 → Prop) (K120 : (Nat → Int32) → (Nat → Nat → Int32) → Int64 → Int64 → Int32 → Prop) : Nat → (Nat → Int32) → (Nat → Nat → Int32) → Int64 → Int64 → Int32 → Int32 → Prop
  | 0, _, _, _, _, _, _ => False
  | n134 + 1, v, f, z, x1, x3, x4 => (((5 : Int32) ≤ x4 → K120 v f z x1 (x3 + 1)) ∧ (¬ (5 : Int32) ≤ x4 → (wp_X6_sentence (fun r1 => (wp_X6_mixed (fun r2 => wp_X6_digest_B134 post K120 n134 v f z r2 x3 (x4 + 1)) x1 ((r1).toInt64))) v f z x3 x4)))
def wp_X6_digest_B87 (post : Int64 → (Nat → Int32) → (Nat → Nat → Int32) → Int64 → Prop) (K44 : (Nat → Int32) → (Nat → Nat → Int32) → Int64 → Int64 → Int32 → Prop) : Nat → (Nat → Int32) → (Nat → Nat → Int32) → Int64 → Int64 → Int32 → Int32 → Prop
  | 0, _, _, _, _, _, _ => False
  | n87 + 1, v, f, z, x1, x3, x4 => (((4 : Int32) ≤ x4 → K44 v f z x1 (x3 + 1)) ∧ (¬ (4 : Int32) ≤ x4 → (wp_X6_endingNow (fun r3 => (wp_X6_mixed (fun r4 => wp_X6_digest_B87 post K44 n87 v f z r4 x3 (x4 + 1)) x1 ((r3).toInt64))) v f z x3 x4)))
def wp_X6_digest_B58 (post : Int64 → (Nat → Int32) → (Nat → Nat → Int32) → Int64 → Prop) (K44 : (Nat → Int32) → (Nat → Nat → Int32) → Int64 → Int64 → Int32 → Prop) : Nat → (Nat → Int32) → (Nat → Nat → Int32) → Int64 → Int64 → Int32 → Int32 → Prop
  | 0, _, _, _, _, _, _ => False
  | n58 + 1, v, f, z, x1, x3, x4 => (((9 : Int32) ≤ x4 → (∃ j9 : Nat, wp_X6_digest_B87 post K44 j9 v f z x1 x3 (0 : Int32))) ∧ (¬ (9 : Int32) ≤ x4 → (wp_X6_about (fun r5 => (wp_X6_mixed (fun r6 => wp_X6_digest_B58 post K44 n58 v f z r6 x3 (x4 + 1)) x1 ((r5).toInt64))) v f z x3 x4)))
def wp_X6_digest_B249 (post : Int64 → (Nat → Int32) → (Nat → Nat → Int32) → Int64 → Prop) : Nat → (Nat → Int32) → (Nat → Nat → Int32) → Int64 → Int64 → Int32 → Prop
  | 0, _, _, _, _, _ => False
  | n249 + 1, v, f, z, x1, x3 => (((9 : Int32) ≤ x3 → post x1 v f z) ∧ (¬ (9 : Int32) ≤ x3 → (wp_X6_count (fun r7 => (wp_X6_mixed (fun r8 => wp_X6_digest_B249 post n249 v f z r8 (x3 + 1)) x1 ((r7).toInt64))) v f z x3)))
def wp_X6_digest_B215 (post : Int64 → (Nat → Int32) → (Nat → Nat → Int32) → Int64 → Prop) : Nat → (Nat → Int32) → (Nat → Nat → Int32) → Int64 → Int64 → Int32 → Prop
  | 0, _, _, _, _, _ => False
  | n215 + 1, v, f, z, x1, x3 => (((v 2) ≤ x3 → (∃ j9 : Nat, wp_X6_digest_B249 post j9 v f z x1 (0 : Int32))) ∧ (¬ (v 2) ≤ x3 → (vp_in x3 30 ∧ (wp_X6_mixed (fun r9 => wp_X6_digest_B215 post n215 v f z r9 (x3 + 1)) x1 ((f 0 (x3).toNatClampNeg).toInt64)))))
def wp_X6_digest_B188 (post : Int64 → (Nat → Int32) → (Nat → Nat → Int32) → Int64 → Prop) : Nat → (Nat → Int32) → (Nat → Nat → Int32) → Int64 → Int64 → Int32 → Prop
  | 0, _, _, _, _, _ => False
  | n188 + 1, v, f, z, x1, x3 => (((4 : Int32) ≤ x3 → (∃ j9 : Nat, wp_X6_digest_B215 post j9 v f z x1 (0 : Int32))) ∧ (¬ (4 : Int32) ≤ x3 → (wp_X6_match (fun r10 v11 f12 z13 => (wp_X6_mixed (fun r14 => wp_X6_digest_B188 post n188 v11 f12 z13 r14 (x3 + 1)) x1 ((r10).toInt64))) v f z ((10 : Int32) + x3))))
def wp_X6_digest_B120 (post : Int64 → (Nat → Int32) → (Nat → Nat → Int32) → Int64 → Prop) : Nat → (Nat → Int32) → (Nat → Nat → Int32) → Int64 → Int64 → Int32 → Prop
  | 0, _, _, _, _, _ => False
  | n120 + 1, v, f, z, x1, x3 => (((v 8) ≤ x3 → (((v 7) ≤ 0 → (∃ j9 : Nat, wp_X6_digest_B215 post j9 v f z x1 (0 : Int32))) ∧ (¬ (v 7) ≤ 0 → (wp_X6_match (fun r15 v16 f17 z18 => (wp_X6_mixed (fun r19 => (∃ j9 : Nat, wp_X6_digest_B188 post j9 v16 f17 z18 r19 (0 : Int32))) x1 ((r15).toInt64))) v f z (0 : Int32))))) ∧ (¬ (v 8) ≤ x3 → (∃ j9 : Nat, wp_X6_digest_B134 post (wp_X6_digest_B120 post n120) j9 v f z x1 x3 (0 : Int32))))
def wp_X6_digest_B44 (post : Int64 → (Nat → Int32) → (Nat → Nat → Int32) → Int64 → Prop) : Nat → (Nat → Int32) → (Nat → Nat → Int32) → Int64 → Int64 → Int32 → Prop
  | 0, _, _, _, _, _ => False
  | n44 + 1, v, f, z, x1, x3 => (((v 7) ≤ x3 → (∃ j9 : Nat, wp_X6_digest_B120 post j9 v f z x1 (0 : Int32))) ∧ (¬ (v 7) ≤ x3 → (∃ j9 : Nat, wp_X6_digest_B58 post (wp_X6_digest_B44 post n44) j9 v f z x1 x3 (0 : Int32))))
def wp_X6_digest_B6 (post : Int64 → (Nat → Int32) → (Nat → Nat → Int32) → Int64 → Prop) : Nat → (Nat → Int32) → (Nat → Nat → Int32) → Int64 → Int64 → Int32 → Prop
  | 0, _, _, _, _, _ => False
  | n6 + 1, v, f, z, x1, x3 => (((v 7) ≤ 0 → (∃ j9 : Nat, wp_X6_digest_B44 post j9 v f z x1 (0 : Int32))) ∧ (¬ (v 7) ≤ 0 → (((4 : Int32) ≤ x3 → (∃ j9 : Nat, wp_X6_digest_B44 post j9 v f z x1 (0 : Int32))) ∧ (¬ (4 : Int32) ≤ x3 → (vp_in x3 4 ∧ (wp_X6_mixed (fun r20 => wp_X6_digest_B6 post n6 v f z r20 (x3 + 1)) x1 ((f 4 (x3).toNatClampNeg).toInt64)))))))
def wp_X6_digest (post : Int64 → (Nat → Int32) → (Nat → Nat → Int32) → Int64 → Prop) (v : Nat → Int32) (f : Nat → Nat → Int32) (z : Int64) : Prop := (∃ j9 : Nat, wp_X6_digest_B6 post j9 v f z (1021 : Int64) (0 : Int32))
def rmX6_digest : Room := { frames := 12, cells := 0, slots := 0, locals := 395 }
set_option maxHeartbeats 4000000 in
set_option maxRecDepth 100000 in
theorem c_X6_digest (l : Launch) (D : va_G) (cI : ClassId) (q : Nat → Nat) (sz : Nat) (post : Int64 → (Nat → Int32) → (Nat → Nat → Int32) → Int64 → Prop) (v : Nat → Int32) (f : Nat → Nat → Int32) (z : Int64) (h : wp_X6_digest post v f z) : Met l yX6_digest wsX6_digest rmX6_digest (va_Pc [.ref (q 0)] (mP D cI (wX cI q v f z) sz)) (mQl post D cI (wX cI q) (va_A (wX cI q v f z) sz)) 0 0 (va_A (wX cI q v f z) sz) := by
  refine Met.ofW (cc := cX6_digest) (maxL := 5) (ret := (some .long)) (by decide) rfl ?_
  intro p e s m args below meth c s₁ B hml hv
  obtain ⟨rfl, hsz, ⟨hP, hK, hN⟩, hD0⟩ := hv
  have hx := B.exec
  have hb := B.bytes
  have hr := B.returns
  have hts := atoms_spec (ws := wsX6_digest) B.pre
  have hown : s.vm.findClass RX6 = some m.cls := findClass_of_methodNamed B.named
  have hlocks : meth.locks = false := B.notSynchronized
  subst hsz
  have hD := hD0.self (sz := s.heap.size)
  generalize hAe : va_A (wX cI q v f z) s.heap.size = A at hD ⊢
  have hA : ∀ q : Nat, s.heap.size ≤ q → A q := fun q h => by rw [← hAe]; exact Or.inr h
  have hS : va_S A s.heap s.heap [] := va_S.rf
  have iX1 : ∀ w ∈ wsX10, w ∈ wsX6_digest := fun _ h9 => List.mem_cons_of_mem _ (List.mem_append_left _ (List.mem_append_right _ h9))
  have iX3 : ∀ w ∈ wsX30, w ∈ wsX6_digest := fun _ h9 => List.mem_cons_of_mem _ (List.mem_append_left _ (List.mem_append_left _ (List.mem_append_left _ (List.mem_append_right _ h9))))
  have iX4 : ∀ w ∈ wsX40, w ∈ wsX6_digest := fun _ h9 => List.mem_cons_of_mem _ (List.mem_append_left _ (List.mem_append_left _ (List.mem_append_right _ h9)))
  have iX6 : ∀ w ∈ wsX60, w ∈ wsX6_digest := fun _ h9 => List.mem_cons_of_mem _ (List.mem_append_left _ (List.mem_append_left _ (List.mem_append_left _ (List.mem_append_left _ (List.mem_append_right _ h9)))))
  have k10 := hts (.fieldLink RX6 10 "EndedByOthers" "page" "LEndedByOthers$Page;") (by decide +kernel)
  have k145 := hts (.fieldLink RX6 145 "EndedByOthers$Scene" "sentences" "I") (by decide +kernel)
  have k231 := hts (.fieldLink RX6 231 "EndedByOthers$Page" "codes" "[I") (by decide +kernel)
  have k26 := hts (.fieldLink RX6 26 "EndedByOthers" "room" "LEndedByOthers$Room;") (by decide +kernel)
  have k33 := hts (.fieldLink RX6 33 "EndedByOthers" "scene" "LEndedByOthers$Scene;") (by decide +kernel)
  have k62 := hts (.fieldLink RX6 62 "EndedByOthers$Page" "length" "I") (by decide +kernel)
  have k92 := hts (.fieldLink RX6 92 "EndedByOthers$Room" "speakers" "I") (by decide +kernel)
  have k99 := hts (.fieldLink RX6 99 "EndedByOthers$Room" "fitting" "[I") (by decide +kernel)
  have hl := lv_entry ([.ref (q 0)]) (n := 5) (Nat.le_of_ble_eq_true rfl)
  rw [lg_entry_eq]
  generalize (lg_sl ([.ref (q 0)]) ++ List.replicate (5 - (lg_sl ([.ref (q 0)])).length) Slot.unset).toArray = ls at hl ⊢
  have hl : lv_has ls 5 [(0, .ref (q 0))] := hl
  unfold wp_X6_digest at h
  have B249 : ∀ (n249 : Nat) (v : Nat → Int32) (f : Nat → Nat → Int32) (z : Int64) (x1 : Int64) (x3 : Int32), wp_X6_digest_B249 post n249 v f z x1 x3 → ∀ (H : Heap) (locs : List Loc), va_P D vwCl (wX cI q v f z) H → va_D A (wX cI q v f z) → va_S A s.heap H locs → ∀ (ls : Array Slot), lv_has ls 5 [(0, .ref (q 0)), (1, .long x1), (3, .int x3)] → W p l e (headSpec wsX6_digest rmX6_digest).room s m ([.ref (q 0)] : List Value).toArray below meth c H locs 0 0 (MQ below (mQl post D cI (wX cI q) A) ([.ref (q 0)] : List Value).toArray s 0 0 A) (F0 m 249 ls []) := by
    intro n249
    induction n249 with
    | zero =>
      intro v f z x1 x3 h
      exact False.elim h
    | succ n249 ih249 =>
      intro v f z x1 x3 h H locs hP hD hS ls hl
      rw [wp_X6_digest_B249] at h
      refine lv_iload_n hx hb dX6_digest_249 rfl (lv_at hl 2 rfl) ?_
      refine lv_bipush (v := (9 : Int32)) hx hb dX6_digest_250 (by decide) ?_
      refine lv_icmp_ge (tgt := 272) hx hb dX6_digest_252 (by decide) (fun c9 => ?_) (fun c9 => ?_)
      · have h := h.1 c9
        refine lv_lload_n hx hb dX6_digest_272 rfl (lv_at hl 1 rfl) ?_
        exact ml_ret (v, f, z) hx hb hr hlocks h hK hP hD hS dX6_digest_273
      · have h := h.2 c9
        refine lv_lload_n hx hb dX6_digest_255 rfl (lv_at hl 1 rfl) ?_
        refine lv_aload_n hx hb dX6_digest_256 rfl (lv_at hl 0 rfl) ?_
        refine lv_iload_n hx hb dX6_digest_257 rfl (lv_at hl 2 rfl) ?_
        refine rV_i ⟨hx, hb, hml, hown, hts⟩ (c_X6_count l D cI q _ _ _ _ _ h) (cwV 1 hts gX6_digest_X6_count rfl rfl rfl (by decide +kernel) ⟨Nat.le_of_ble_eq_true rfl, Nat.le_of_ble_eq_true rfl⟩) hK hP hN (va_recv hK hP (ci := 6) (q0 := 0) rfl rfl) rfl hl.1 (rest := [.long x1]) rfl (Nat.le_of_ble_eq_true rfl) dX6_digest_258 (Nat.zero_le _) (Nat.zero_le _) (fun r7 h => ?_)
        refine lv_i2l (v := (r7).toInt64) hx hb dX6_digest_261 rfl ?_
        refine rS_l ⟨hx, hb, hml, hown, hts⟩ (c_X6_mixed l D cI _ _ _ h) (va_cwS 2 hts gX6_digest_X6_mixed rfl rfl rfl (by decide +kernel) ⟨Nat.le_of_ble_eq_true rfl, Nat.le_of_ble_eq_true rfl⟩) hK wPnil hN rfl hl.1 (rest := []) rfl (Nat.le_of_ble_eq_true rfl) dX6_digest_262 (Nat.zero_le _) (Nat.zero_le _) (fun r8 h => ?_)
        refine lv_lstore_n (lv' := [(1, .long r8), (0, .ref (q 0)), (3, .int x3)]) hx hb dX6_digest_265 rfl hl (by decide) rfl (fun ls hl => ?_)
        refine lv_iinc (v := x3 + 1) (lv' := [(3, .int (x3 + 1)), (1, .long r8), (0, .ref (q 0))]) hx hb dX6_digest_266 hl (k := 2) rfl rfl (by decide) rfl (fun ls hl => ?_)
        refine lv_goto (tgt := 249) hx hb dX6_digest_269 (by decide) ?_
        exact ih249 _ _ _ _ _ h _ _ hP hD hS ls (lv_sub hl [2, 1, 0] rfl)
  have B215 : ∀ (n215 : Nat) (v : Nat → Int32) (f : Nat → Nat → Int32) (z : Int64) (x1 : Int64) (x3 : Int32), wp_X6_digest_B215 post n215 v f z x1 x3 → ∀ (H : Heap) (locs : List Loc), va_P D vwCl (wX cI q v f z) H → va_D A (wX cI q v f z) → va_S A s.heap H locs → ∀ (ls : Array Slot), lv_has ls 5 [(0, .ref (q 0)), (1, .long x1), (3, .int x3)] → W p l e (headSpec wsX6_digest rmX6_digest).room s m ([.ref (q 0)] : List Value).toArray below meth c H locs 0 0 (MQ below (mQl post D cI (wX cI q) A) ([.ref (q 0)] : List Value).toArray s 0 0 A) (F0 m 215 ls []) := by
    intro n215
    induction n215 with
    | zero =>
      intro v f z x1 x3 h
      exact False.elim h
    | succ n215 ih215 =>
      intro v f z x1 x3 h H locs hP hD hS ls hl
      rw [wp_X6_digest_B215] at h
      refine lv_iload_n hx hb dX6_digest_215 rfl (lv_at hl 2 rfl) ?_
      refine lv_aload_n hx hb dX6_digest_216 rfl (lv_at hl 0 rfl) ?_
      refine xg_r0_1 hx hb hts iX6 hown hK hP k10 dX6_digest_217 ?_
      refine xg_s2 (x := v 2) hx hb hts iX1 hown hK hP k62 rfl dX6_digest_220 ?_
      refine lv_icmp_ge (tgt := 247) hx hb dX6_digest_223 (by decide) (fun c9 => ?_) (fun c9 => ?_)
      · have h := h.1 c9
        refine lv_iconst (v := (0 : Int32)) hx hb dX6_digest_247 (by decide) ?_
        refine lv_istore_n (lv' := [(3, .int (0 : Int32)), (0, .ref (q 0)), (1, .long x1)]) hx hb dX6_digest_248 rfl hl (by decide) rfl (fun ls hl => ?_)
        obtain ⟨n9, h⟩ := h
        exact B249 n9 _ _ _ _ _ h _ _ hP hD hS ls (lv_sub hl [1, 2, 0] rfl)
      · have h := h.2 c9
        refine lv_lload_n hx hb dX6_digest_226 rfl (lv_at hl 1 rfl) ?_
        refine lv_aload_n hx hb dX6_digest_227 rfl (lv_at hl 0 rfl) ?_
        refine xg_r0_1 hx hb hts iX6 hown hK hP k10 dX6_digest_228 ?_
        refine xg_r1_2 hx hb hts iX1 hown hK hP k231 dX6_digest_231 ?_
        refine lv_iload_n hx hb dX6_digest_234 rfl (lv_at hl 2 rfl) ?_
        obtain ⟨h9, h⟩ := h
        refine xal_0 (x := f 0 (x3).toNatClampNeg) hx hb hK hP h9 rfl dX6_digest_235 ?_
        refine lv_i2l (v := (f 0 (x3).toNatClampNeg).toInt64) hx hb dX6_digest_236 rfl ?_
        refine rS_l ⟨hx, hb, hml, hown, hts⟩ (c_X6_mixed l D cI _ _ _ h) (va_cwS 2 hts gX6_digest_X6_mixed rfl rfl rfl (by decide +kernel) ⟨Nat.le_of_ble_eq_true rfl, Nat.le_of_ble_eq_true rfl⟩) hK wPnil hN rfl hl.1 (rest := []) rfl (Nat.le_of_ble_eq_true rfl) dX6_digest_237 (Nat.zero_le _) (Nat.zero_le _) (fun r9 h => ?_)
        refine lv_lstore_n (lv' := [(1, .long r9), (0, .ref (q 0)), (3, .int x3)]) hx hb dX6_digest_240 rfl hl (by decide) rfl (fun ls hl => ?_)
        refine lv_iinc (v := x3 + 1) (lv' := [(3, .int (x3 + 1)), (1, .long r9), (0, .ref (q 0))]) hx hb dX6_digest_241 hl (k := 2) rfl rfl (by decide) rfl (fun ls hl => ?_)
        refine lv_goto (tgt := 215) hx hb dX6_digest_244 (by decide) ?_
        exact ih215 _ _ _ _ _ h _ _ hP hD hS ls (lv_sub hl [2, 1, 0] rfl)
  have B188 : ∀ (n188 : Nat) (v : Nat → Int32) (f : Nat → Nat → Int32) (z : Int64) (x1 : Int64) (x3 : Int32), wp_X6_digest_B188 post n188 v f z x1 x3 → ∀ (H : Heap) (locs : List Loc), va_P D vwCl (wX cI q v f z) H → va_D A (wX cI q v f z) → va_S A s.heap H locs → ∀ (ls : Array Slot), lv_has ls 5 [(0, .ref (q 0)), (1, .long x1), (3, .int x3)] → W p l e (headSpec wsX6_digest rmX6_digest).room s m ([.ref (q 0)] : List Value).toArray below meth c H locs 0 0 (MQ below (mQl post D cI (wX cI q) A) ([.ref (q 0)] : List Value).toArray s 0 0 A) (F0 m 188 ls []) := by
    intro n188
    induction n188 with
    | zero =>
      intro v f z x1 x3 h
      exact False.elim h
    | succ n188 ih188 =>
      intro v f z x1 x3 h H locs hP hD hS ls hl
      rw [wp_X6_digest_B188] at h
      refine lv_iload_n hx hb dX6_digest_188 rfl (lv_at hl 2 rfl) ?_
      refine lv_iconst (v := (4 : Int32)) hx hb dX6_digest_189 (by decide) ?_
      refine lv_icmp_ge (tgt := 213) hx hb dX6_digest_190 (by decide) (fun c9 => ?_) (fun c9 => ?_)
      · have h := h.1 c9
        refine lv_iconst (v := (0 : Int32)) hx hb dX6_digest_213 (by decide) ?_
        refine lv_istore_n (lv' := [(3, .int (0 : Int32)), (0, .ref (q 0)), (1, .long x1)]) hx hb dX6_digest_214 rfl hl (by decide) rfl (fun ls hl => ?_)
        obtain ⟨n9, h⟩ := h
        exact B215 n9 _ _ _ _ _ h _ _ hP hD hS ls (lv_sub hl [1, 2, 0] rfl)
      · have h := h.2 c9
        refine lv_lload_n hx hb dX6_digest_193 rfl (lv_at hl 1 rfl) ?_
        refine lv_aload_n hx hb dX6_digest_194 rfl (lv_at hl 0 rfl) ?_
        refine lv_bipush (v := (10 : Int32)) hx hb dX6_digest_195 (by decide) ?_
        refine lv_iload_n hx hb dX6_digest_197 rfl (lv_at hl 2 rfl) ?_
        refine lv_iadd hx hb dX6_digest_198 ?_
        refine mV_i ⟨hx, hb, hml, hown, hts⟩ (c_X6_match l D cI q _ _ _ _ _ _ h) (cwV 1 hts gX6_digest_X6_match rfl rfl rfl (by decide +kernel) ⟨Nat.le_of_ble_eq_true rfl, Nat.le_of_ble_eq_true rfl⟩) hK hP hN hD hS hA (va_recv hK hP (ci := 6) (q0 := 0) rfl rfl) rfl hl.1 (rest := [.long x1]) rfl (Nat.le_of_ble_eq_true rfl) dX6_digest_199 (Nat.zero_le _) (Nat.zero_le _) (fun r10 v11 f12 z13 h H locs hP hD hS => ?_)
        refine lv_i2l (v := (r10).toInt64) hx hb dX6_digest_202 rfl ?_
        refine rS_l ⟨hx, hb, hml, hown, hts⟩ (c_X6_mixed l D cI _ _ _ h) (va_cwS 2 hts gX6_digest_X6_mixed rfl rfl rfl (by decide +kernel) ⟨Nat.le_of_ble_eq_true rfl, Nat.le_of_ble_eq_true rfl⟩) hK wPnil hN rfl hl.1 (rest := []) rfl (Nat.le_of_ble_eq_true rfl) dX6_digest_203 (Nat.zero_le _) (Nat.zero_le _) (fun r14 h => ?_)
        refine lv_lstore_n (lv' := [(1, .long r14), (0, .ref (q 0)), (3, .int x3)]) hx hb dX6_digest_206 rfl hl (by decide) rfl (fun ls hl => ?_)
        refine lv_iinc (v := x3 + 1) (lv' := [(3, .int (x3 + 1)), (1, .long r14), (0, .ref (q 0))]) hx hb dX6_digest_207 hl (k := 2) rfl rfl (by decide) rfl (fun ls hl => ?_)
        refine lv_goto (tgt := 188) hx hb dX6_digest_210 (by decide) ?_
        exact ih188 _ _ _ _ _ h _ _ hP hD hS ls (lv_sub hl [2, 1, 0] rfl)
  have B120 : ∀ (n120 : Nat) (v : Nat → Int32) (f : Nat → Nat → Int32) (z : Int64) (x1 : Int64) (x3 : Int32), wp_X6_digest_B120 post n120 v f z x1 x3 → ∀ (H : Heap) (locs : List Loc), va_P D vwCl (wX cI q v f z) H → va_D A (wX cI q v f z) → va_S A s.heap H locs → ∀ (ls : Array Slot), lv_has ls 5 [(0, .ref (q 0)), (1, .long x1), (3, .int x3)] → W p l e (headSpec wsX6_digest rmX6_digest).room s m ([.ref (q 0)] : List Value).toArray below meth c H locs 0 0 (MQ below (mQl post D cI (wX cI q) A) ([.ref (q 0)] : List Value).toArray s 0 0 A) (F0 m 120 ls []) := by
    intro n120
    induction n120 with
    | zero =>
      intro v f z x1 x3 h
      exact False.elim h
    | succ n120 ih120 =>
      have B134 : ∀ (n134 : Nat) (v : Nat → Int32) (f : Nat → Nat → Int32) (z : Int64) (x1 : Int64) (x3 : Int32) (x4 : Int32), wp_X6_digest_B134 post (wp_X6_digest_B120 post n120) n134 v f z x1 x3 x4 → ∀ (H : Heap) (locs : List Loc), va_P D vwCl (wX cI q v f z) H → va_D A (wX cI q v f z) → va_S A s.heap H locs → ∀ (ls : Array Slot), lv_has ls 5 [(0, .ref (q 0)), (1, .long x1), (3, .int x3), (4, .int x4)] → W p l e (headSpec wsX6_digest rmX6_digest).room s m ([.ref (q 0)] : List Value).toArray below meth c H locs 0 0 (MQ below (mQl post D cI (wX cI q) A) ([.ref (q 0)] : List Value).toArray s 0 0 A) (F0 m 134 ls []) := by
        intro n134
        induction n134 with
        | zero =>
          intro v f z x1 x3 x4 h
          exact False.elim h
        | succ n134 ih134 =>
          intro v f z x1 x3 x4 h H locs hP hD hS ls hl
          rw [wp_X6_digest_B134] at h
          refine lv_iload hx hb dX6_digest_134 (lv_at hl 3 rfl) ?_
          refine lv_iconst (v := (5 : Int32)) hx hb dX6_digest_136 (by decide) ?_
          refine lv_icmp_ge (tgt := 159) hx hb dX6_digest_137 (by decide) (fun c9 => ?_) (fun c9 => ?_)
          · have h := h.1 c9
            refine lv_iinc (v := x3 + 1) (lv' := [(3, .int (x3 + 1)), (0, .ref (q 0)), (1, .long x1), (4, .int x4)]) hx hb dX6_digest_159 hl (k := 2) rfl rfl (by decide) rfl (fun ls hl => ?_)
            refine lv_goto (tgt := 120) hx hb dX6_digest_162 (by decide) ?_
            exact ih120 _ _ _ _ _ h _ _ hP hD hS ls (lv_sub hl [1, 2, 0] rfl)
          · have h := h.2 c9
            refine lv_lload_n hx hb dX6_digest_140 rfl (lv_at hl 1 rfl) ?_
            refine lv_aload_n hx hb dX6_digest_141 rfl (lv_at hl 0 rfl) ?_
            refine lv_iload_n hx hb dX6_digest_142 rfl (lv_at hl 2 rfl) ?_
            refine lv_iload hx hb dX6_digest_143 (lv_at hl 3 rfl) ?_
            refine rV_i ⟨hx, hb, hml, hown, hts⟩ (c_X6_sentence l D cI q _ _ _ _ _ _ h) (cwV 2 hts gX6_digest_X6_sentence rfl rfl rfl (by decide +kernel) ⟨Nat.le_of_ble_eq_true rfl, Nat.le_of_ble_eq_true rfl⟩) hK hP hN (va_recv hK hP (ci := 6) (q0 := 0) rfl rfl) rfl hl.1 (rest := [.long x1]) rfl (Nat.le_of_ble_eq_true rfl) dX6_digest_145 (Nat.zero_le _) (Nat.zero_le _) (fun r1 h => ?_)
            refine lv_i2l (v := (r1).toInt64) hx hb dX6_digest_148 rfl ?_
            refine rS_l ⟨hx, hb, hml, hown, hts⟩ (c_X6_mixed l D cI _ _ _ h) (va_cwS 2 hts gX6_digest_X6_mixed rfl rfl rfl (by decide +kernel) ⟨Nat.le_of_ble_eq_true rfl, Nat.le_of_ble_eq_true rfl⟩) hK wPnil hN rfl hl.1 (rest := []) rfl (Nat.le_of_ble_eq_true rfl) dX6_digest_149 (Nat.zero_le _) (Nat.zero_le _) (fun r2 h => ?_)
            refine lv_lstore_n (lv' := [(1, .long r2), (0, .ref (q 0)), (3, .int x3), (4, .int x4)]) hx hb dX6_digest_152 rfl hl (by decide) rfl (fun ls hl => ?_)
            refine lv_iinc (v := x4 + 1) (lv' := [(4, .int (x4 + 1)), (1, .long r2), (0, .ref (q 0)), (3, .int x3)]) hx hb dX6_digest_153 hl (k := 3) rfl rfl (by decide) rfl (fun ls hl => ?_)
            refine lv_goto (tgt := 134) hx hb dX6_digest_156 (by decide) ?_
            exact ih134 _ _ _ _ _ _ h _ _ hP hD hS ls (lv_sub hl [2, 1, 3, 0] rfl)
      intro v f z x1 x3 h H locs hP hD hS ls hl
      rw [wp_X6_digest_B120] at h
      refine lv_iload_n hx hb dX6_digest_120 rfl (lv_at hl 2 rfl) ?_
      refine lv_aload_n hx hb dX6_digest_121 rfl (lv_at hl 0 rfl) ?_
      refine xg_r0_12 hx hb hts iX6 hown hK hP k33 dX6_digest_122 ?_
      refine xg_s8 (x := v 8) hx hb hts iX4 hown hK hP k145 rfl dX6_digest_125 ?_
      refine lv_icmp_ge (tgt := 165) hx hb dX6_digest_128 (by decide) (fun c9 => ?_) (fun c9 => ?_)
      · have h := h.1 c9
        refine lv_aload_n hx hb dX6_digest_165 rfl (lv_at hl 0 rfl) ?_
        refine xg_r0_8 hx hb hts iX6 hown hK hP k26 dX6_digest_166 ?_
        refine xg_s7 (x := v 7) hx hb hts iX3 hown hK hP k92 rfl dX6_digest_169 ?_
        refine lv_if_le (tgt := 213) hx hb dX6_digest_172 (by decide) (fun c9 => ?_) (fun c9 => ?_)
        · have h := h.1 c9
          refine lv_iconst (v := (0 : Int32)) hx hb dX6_digest_213 (by decide) ?_
          refine lv_istore_n (lv' := [(3, .int (0 : Int32)), (0, .ref (q 0)), (1, .long x1)]) hx hb dX6_digest_214 rfl hl (by decide) rfl (fun ls hl => ?_)
          obtain ⟨n9, h⟩ := h
          exact B215 n9 _ _ _ _ _ h _ _ hP hD hS ls (lv_sub hl [1, 2, 0] rfl)
        · have h := h.2 c9
          refine lv_lload_n hx hb dX6_digest_175 rfl (lv_at hl 1 rfl) ?_
          refine lv_aload_n hx hb dX6_digest_176 rfl (lv_at hl 0 rfl) ?_
          refine lv_iconst (v := (0 : Int32)) hx hb dX6_digest_177 (by decide) ?_
          refine mV_i ⟨hx, hb, hml, hown, hts⟩ (c_X6_match l D cI q _ _ _ _ _ _ h) (cwV 1 hts gX6_digest_X6_match rfl rfl rfl (by decide +kernel) ⟨Nat.le_of_ble_eq_true rfl, Nat.le_of_ble_eq_true rfl⟩) hK hP hN hD hS hA (va_recv hK hP (ci := 6) (q0 := 0) rfl rfl) rfl hl.1 (rest := [.long x1]) rfl (Nat.le_of_ble_eq_true rfl) dX6_digest_178 (Nat.zero_le _) (Nat.zero_le _) (fun r15 v16 f17 z18 h H locs hP hD hS => ?_)
          refine lv_i2l (v := (r15).toInt64) hx hb dX6_digest_181 rfl ?_
          refine rS_l ⟨hx, hb, hml, hown, hts⟩ (c_X6_mixed l D cI _ _ _ h) (va_cwS 2 hts gX6_digest_X6_mixed rfl rfl rfl (by decide +kernel) ⟨Nat.le_of_ble_eq_true rfl, Nat.le_of_ble_eq_true rfl⟩) hK wPnil hN rfl hl.1 (rest := []) rfl (Nat.le_of_ble_eq_true rfl) dX6_digest_182 (Nat.zero_le _) (Nat.zero_le _) (fun r19 h => ?_)
          refine lv_lstore_n (lv' := [(1, .long r19), (0, .ref (q 0)), (3, .int x3)]) hx hb dX6_digest_185 rfl hl (by decide) rfl (fun ls hl => ?_)
          refine lv_iconst (v := (0 : Int32)) hx hb dX6_digest_186 (by decide) ?_
          refine lv_istore_n (lv' := [(3, .int (0 : Int32)), (1, .long r19), (0, .ref (q 0))]) hx hb dX6_digest_187 rfl hl (by decide) rfl (fun ls hl => ?_)
          obtain ⟨n9, h⟩ := h
          exact B188 n9 _ _ _ _ _ h _ _ hP hD hS ls (lv_sub hl [2, 1, 0] rfl)
      · have h := h.2 c9
        refine lv_iconst (v := (0 : Int32)) hx hb dX6_digest_131 (by decide) ?_
        refine lv_istore (lv' := [(4, .int (0 : Int32)), (0, .ref (q 0)), (1, .long x1), (3, .int x3)]) hx hb dX6_digest_132 hl (by decide) rfl (fun ls hl => ?_)
        obtain ⟨n9, h⟩ := h
        exact B134 n9 _ _ _ _ _ _ h _ _ hP hD hS ls (lv_sub hl [1, 2, 3, 0] rfl)
  have B44 : ∀ (n44 : Nat) (v : Nat → Int32) (f : Nat → Nat → Int32) (z : Int64) (x1 : Int64) (x3 : Int32), wp_X6_digest_B44 post n44 v f z x1 x3 → ∀ (H : Heap) (locs : List Loc), va_P D vwCl (wX cI q v f z) H → va_D A (wX cI q v f z) → va_S A s.heap H locs → ∀ (ls : Array Slot), lv_has ls 5 [(0, .ref (q 0)), (1, .long x1), (3, .int x3)] → W p l e (headSpec wsX6_digest rmX6_digest).room s m ([.ref (q 0)] : List Value).toArray below meth c H locs 0 0 (MQ below (mQl post D cI (wX cI q) A) ([.ref (q 0)] : List Value).toArray s 0 0 A) (F0 m 44 ls []) := by
    intro n44
    induction n44 with
    | zero =>
      intro v f z x1 x3 h
      exact False.elim h
    | succ n44 ih44 =>
      have B87 : ∀ (n87 : Nat) (v : Nat → Int32) (f : Nat → Nat → Int32) (z : Int64) (x1 : Int64) (x3 : Int32) (x4 : Int32), wp_X6_digest_B87 post (wp_X6_digest_B44 post n44) n87 v f z x1 x3 x4 → ∀ (H : Heap) (locs : List Loc), va_P D vwCl (wX cI q v f z) H → va_D A (wX cI q v f z) → va_S A s.heap H locs → ∀ (ls : Array Slot), lv_has ls 5 [(0, .ref (q 0)), (1, .long x1), (3, .int x3), (4, .int x4)] → W p l e (headSpec wsX6_digest rmX6_digest).room s m ([.ref (q 0)] : List Value).toArray below meth c H locs 0 0 (MQ below (mQl post D cI (wX cI q) A) ([.ref (q 0)] : List Value).toArray s 0 0 A) (F0 m 87 ls []) := by
        intro n87
        induction n87 with
        | zero =>
          intro v f z x1 x3 x4 h
          exact False.elim h
        | succ n87 ih87 =>
          intro v f z x1 x3 x4 h H locs hP hD hS ls hl
          rw [wp_X6_digest_B87] at h
          refine lv_iload hx hb dX6_digest_87 (lv_at hl 3 rfl) ?_
          refine lv_iconst (v := (4 : Int32)) hx hb dX6_digest_89 (by decide) ?_
          refine lv_icmp_ge (tgt := 112) hx hb dX6_digest_90 (by decide) (fun c9 => ?_) (fun c9 => ?_)
          · have h := h.1 c9
            refine lv_iinc (v := x3 + 1) (lv' := [(3, .int (x3 + 1)), (0, .ref (q 0)), (1, .long x1), (4, .int x4)]) hx hb dX6_digest_112 hl (k := 2) rfl rfl (by decide) rfl (fun ls hl => ?_)
            refine lv_goto (tgt := 44) hx hb dX6_digest_115 (by decide) ?_
            exact ih44 _ _ _ _ _ h _ _ hP hD hS ls (lv_sub hl [1, 2, 0] rfl)
          · have h := h.2 c9
            refine lv_lload_n hx hb dX6_digest_93 rfl (lv_at hl 1 rfl) ?_
            refine lv_aload_n hx hb dX6_digest_94 rfl (lv_at hl 0 rfl) ?_
            refine lv_iload_n hx hb dX6_digest_95 rfl (lv_at hl 2 rfl) ?_
            refine lv_iload hx hb dX6_digest_96 (lv_at hl 3 rfl) ?_
            refine rV_i ⟨hx, hb, hml, hown, hts⟩ (c_X6_endingNow l D cI q _ _ _ _ _ _ h) (cwV 2 hts gX6_digest_X6_endingNow rfl rfl rfl (by decide +kernel) ⟨Nat.le_of_ble_eq_true rfl, Nat.le_of_ble_eq_true rfl⟩) hK hP hN (va_recv hK hP (ci := 6) (q0 := 0) rfl rfl) rfl hl.1 (rest := [.long x1]) rfl (Nat.le_of_ble_eq_true rfl) dX6_digest_98 (Nat.zero_le _) (Nat.zero_le _) (fun r3 h => ?_)
            refine lv_i2l (v := (r3).toInt64) hx hb dX6_digest_101 rfl ?_
            refine rS_l ⟨hx, hb, hml, hown, hts⟩ (c_X6_mixed l D cI _ _ _ h) (va_cwS 2 hts gX6_digest_X6_mixed rfl rfl rfl (by decide +kernel) ⟨Nat.le_of_ble_eq_true rfl, Nat.le_of_ble_eq_true rfl⟩) hK wPnil hN rfl hl.1 (rest := []) rfl (Nat.le_of_ble_eq_true rfl) dX6_digest_102 (Nat.zero_le _) (Nat.zero_le _) (fun r4 h => ?_)
            refine lv_lstore_n (lv' := [(1, .long r4), (0, .ref (q 0)), (3, .int x3), (4, .int x4)]) hx hb dX6_digest_105 rfl hl (by decide) rfl (fun ls hl => ?_)
            refine lv_iinc (v := x4 + 1) (lv' := [(4, .int (x4 + 1)), (1, .long r4), (0, .ref (q 0)), (3, .int x3)]) hx hb dX6_digest_106 hl (k := 3) rfl rfl (by decide) rfl (fun ls hl => ?_)
            refine lv_goto (tgt := 87) hx hb dX6_digest_109 (by decide) ?_
            exact ih87 _ _ _ _ _ _ h _ _ hP hD hS ls (lv_sub hl [2, 1, 3, 0] rfl)
      have B58 : ∀ (n58 : Nat) (v : Nat → Int32) (f : Nat → Nat → Int32) (z : Int64) (x1 : Int64) (x3 : Int32) (x4 : Int32), wp_X6_digest_B58 post (wp_X6_digest_B44 post n44) n58 v f z x1 x3 x4 → ∀ (H : Heap) (locs : List Loc), va_P D vwCl (wX cI q v f z) H → va_D A (wX cI q v f z) → va_S A s.heap H locs → ∀ (ls : Array Slot), lv_has ls 5 [(0, .ref (q 0)), (1, .long x1), (3, .int x3), (4, .int x4)] → W p l e (headSpec wsX6_digest rmX6_digest).room s m ([.ref (q 0)] : List Value).toArray below meth c H locs 0 0 (MQ below (mQl post D cI (wX cI q) A) ([.ref (q 0)] : List Value).toArray s 0 0 A) (F0 m 58 ls []) := by
        intro n58
        induction n58 with
        | zero =>
          intro v f z x1 x3 x4 h
          exact False.elim h
        | succ n58 ih58 =>
          intro v f z x1 x3 x4 h H locs hP hD hS ls hl
          rw [wp_X6_digest_B58] at h
          refine lv_iload hx hb dX6_digest_58 (lv_at hl 3 rfl) ?_
          refine lv_bipush (v := (9 : Int32)) hx hb dX6_digest_60 (by decide) ?_
          refine lv_icmp_ge (tgt := 84) hx hb dX6_digest_62 (by decide) (fun c9 => ?_) (fun c9 => ?_)
          · have h := h.1 c9
            refine lv_iconst (v := (0 : Int32)) hx hb dX6_digest_84 (by decide) ?_
            refine lv_istore (lv' := [(4, .int (0 : Int32)), (0, .ref (q 0)), (1, .long x1), (3, .int x3)]) hx hb dX6_digest_85 hl (by decide) rfl (fun ls hl => ?_)
            obtain ⟨n9, h⟩ := h
            exact B87 n9 _ _ _ _ _ _ h _ _ hP hD hS ls (lv_sub hl [1, 2, 3, 0] rfl)
          · have h := h.2 c9
            refine lv_lload_n hx hb dX6_digest_65 rfl (lv_at hl 1 rfl) ?_
            refine lv_aload_n hx hb dX6_digest_66 rfl (lv_at hl 0 rfl) ?_
            refine lv_iload_n hx hb dX6_digest_67 rfl (lv_at hl 2 rfl) ?_
            refine lv_iload hx hb dX6_digest_68 (lv_at hl 3 rfl) ?_
            refine rV_i ⟨hx, hb, hml, hown, hts⟩ (c_X6_about l D cI q _ _ _ _ _ _ h) (cwV 2 hts gX6_digest_X6_about rfl rfl rfl (by decide +kernel) ⟨Nat.le_of_ble_eq_true rfl, Nat.le_of_ble_eq_true rfl⟩) hK hP hN (va_recv hK hP (ci := 6) (q0 := 0) rfl rfl) rfl hl.1 (rest := [.long x1]) rfl (Nat.le_of_ble_eq_true rfl) dX6_digest_70 (Nat.zero_le _) (Nat.zero_le _) (fun r5 h => ?_)
            refine lv_i2l (v := (r5).toInt64) hx hb dX6_digest_73 rfl ?_
            refine rS_l ⟨hx, hb, hml, hown, hts⟩ (c_X6_mixed l D cI _ _ _ h) (va_cwS 2 hts gX6_digest_X6_mixed rfl rfl rfl (by decide +kernel) ⟨Nat.le_of_ble_eq_true rfl, Nat.le_of_ble_eq_true rfl⟩) hK wPnil hN rfl hl.1 (rest := []) rfl (Nat.le_of_ble_eq_true rfl) dX6_digest_74 (Nat.zero_le _) (Nat.zero_le _) (fun r6 h => ?_)
            refine lv_lstore_n (lv' := [(1, .long r6), (0, .ref (q 0)), (3, .int x3), (4, .int x4)]) hx hb dX6_digest_77 rfl hl (by decide) rfl (fun ls hl => ?_)
            refine lv_iinc (v := x4 + 1) (lv' := [(4, .int (x4 + 1)), (1, .long r6), (0, .ref (q 0)), (3, .int x3)]) hx hb dX6_digest_78 hl (k := 3) rfl rfl (by decide) rfl (fun ls hl => ?_)
            refine lv_goto (tgt := 58) hx hb dX6_digest_81 (by decide) ?_
            exact ih58 _ _ _ _ _ _ h _ _ hP hD hS ls (lv_sub hl [2, 1, 3, 0] rfl)
      intro v f z x1 x3 h H locs hP hD hS ls hl
      rw [wp_X6_digest_B44] at h
      refine lv_iload_n hx hb dX6_digest_44 rfl (lv_at hl 2 rfl) ?_
      refine lv_aload_n hx hb dX6_digest_45 rfl (lv_at hl 0 rfl) ?_
      refine xg_r0_8 hx hb hts iX6 hown hK hP k26 dX6_digest_46 ?_
      refine xg_s7 (x := v 7) hx hb hts iX3 hown hK hP k92 rfl dX6_digest_49 ?_
      refine lv_icmp_ge (tgt := 118) hx hb dX6_digest_52 (by decide) (fun c9 => ?_) (fun c9 => ?_)
      · have h := h.1 c9
        refine lv_iconst (v := (0 : Int32)) hx hb dX6_digest_118 (by decide) ?_
        refine lv_istore_n (lv' := [(3, .int (0 : Int32)), (0, .ref (q 0)), (1, .long x1)]) hx hb dX6_digest_119 rfl hl (by decide) rfl (fun ls hl => ?_)
        obtain ⟨n9, h⟩ := h
        exact B120 n9 _ _ _ _ _ h _ _ hP hD hS ls (lv_sub hl [1, 2, 0] rfl)
      · have h := h.2 c9
        refine lv_iconst (v := (0 : Int32)) hx hb dX6_digest_55 (by decide) ?_
        refine lv_istore (lv' := [(4, .int (0 : Int32)), (0, .ref (q 0)), (1, .long x1), (3, .int x3)]) hx hb dX6_digest_56 hl (by decide) rfl (fun ls hl => ?_)
        obtain ⟨n9, h⟩ := h
        exact B58 n9 _ _ _ _ _ _ h _ _ hP hD hS ls (lv_sub hl [1, 2, 3, 0] rfl)
  have B6 : ∀ (n6 : Nat) (v : Nat → Int32) (f : Nat → Nat → Int32) (z : Int64) (x1 : Int64) (x3 : Int32), wp_X6_digest_B6 post n6 v f z x1 x3 → ∀ (H : Heap) (locs : List Loc), va_P D vwCl (wX cI q v f z) H → va_D A (wX cI q v f z) → va_S A s.heap H locs → ∀ (ls : Array Slot), lv_has ls 5 [(0, .ref (q 0)), (1, .long x1), (3, .int x3)] → W p l e (headSpec wsX6_digest rmX6_digest).room s m ([.ref (q 0)] : List Value).toArray below meth c H locs 0 0 (MQ below (mQl post D cI (wX cI q) A) ([.ref (q 0)] : List Value).toArray s 0 0 A) (F0 m 6 ls []) := by
    intro n6
    induction n6 with
    | zero =>
      intro v f z x1 x3 h
      exact False.elim h
    | succ n6 ih6 =>
      intro v f z x1 x3 h H locs hP hD hS ls hl
      rw [wp_X6_digest_B6] at h
      refine lv_aload_n hx hb dX6_digest_6 rfl (lv_at hl 0 rfl) ?_
      refine xg_r0_8 hx hb hts iX6 hown hK hP k26 dX6_digest_7 ?_
      refine xg_s7 (x := v 7) hx hb hts iX3 hown hK hP k92 rfl dX6_digest_10 ?_
      refine lv_if_le (tgt := 42) hx hb dX6_digest_13 (by decide) (fun c9 => ?_) (fun c9 => ?_)
      · have h := h.1 c9
        refine lv_iconst (v := (0 : Int32)) hx hb dX6_digest_42 (by decide) ?_
        refine lv_istore_n (lv' := [(3, .int (0 : Int32)), (0, .ref (q 0)), (1, .long x1)]) hx hb dX6_digest_43 rfl hl (by decide) rfl (fun ls hl => ?_)
        obtain ⟨n9, h⟩ := h
        exact B44 n9 _ _ _ _ _ h _ _ hP hD hS ls (lv_sub hl [1, 2, 0] rfl)
      · have h := h.2 c9
        refine lv_iload_n hx hb dX6_digest_16 rfl (lv_at hl 2 rfl) ?_
        refine lv_iconst (v := (4 : Int32)) hx hb dX6_digest_17 (by decide) ?_
        refine lv_icmp_ge (tgt := 42) hx hb dX6_digest_18 (by decide) (fun c9 => ?_) (fun c9 => ?_)
        · have h := h.1 c9
          refine lv_iconst (v := (0 : Int32)) hx hb dX6_digest_42 (by decide) ?_
          refine lv_istore_n (lv' := [(3, .int (0 : Int32)), (0, .ref (q 0)), (1, .long x1)]) hx hb dX6_digest_43 rfl hl (by decide) rfl (fun ls hl => ?_)
          obtain ⟨n9, h⟩ := h
          exact B44 n9 _ _ _ _ _ h _ _ hP hD hS ls (lv_sub hl [1, 2, 0] rfl)
        · have h := h.2 c9
          refine lv_lload_n hx hb dX6_digest_21 rfl (lv_at hl 1 rfl) ?_
          refine lv_aload_n hx hb dX6_digest_22 rfl (lv_at hl 0 rfl) ?_
          refine xg_r0_8 hx hb hts iX6 hown hK hP k26 dX6_digest_23 ?_
          refine xg_r8_9 hx hb hts iX3 hown hK hP k99 dX6_digest_26 ?_
          refine lv_iload_n hx hb dX6_digest_29 rfl (lv_at hl 2 rfl) ?_
          obtain ⟨h9, h⟩ := h
          refine xal_4 (x := f 4 (x3).toNatClampNeg) hx hb hK hP h9 rfl dX6_digest_30 ?_
          refine lv_i2l (v := (f 4 (x3).toNatClampNeg).toInt64) hx hb dX6_digest_31 rfl ?_
          refine rS_l ⟨hx, hb, hml, hown, hts⟩ (c_X6_mixed l D cI _ _ _ h) (va_cwS 2 hts gX6_digest_X6_mixed rfl rfl rfl (by decide +kernel) ⟨Nat.le_of_ble_eq_true rfl, Nat.le_of_ble_eq_true rfl⟩) hK wPnil hN rfl hl.1 (rest := []) rfl (Nat.le_of_ble_eq_true rfl) dX6_digest_32 (Nat.zero_le _) (Nat.zero_le _) (fun r20 h => ?_)
          refine lv_lstore_n (lv' := [(1, .long r20), (0, .ref (q 0)), (3, .int x3)]) hx hb dX6_digest_35 rfl hl (by decide) rfl (fun ls hl => ?_)
          refine lv_iinc (v := x3 + 1) (lv' := [(3, .int (x3 + 1)), (1, .long r20), (0, .ref (q 0))]) hx hb dX6_digest_36 hl (k := 2) rfl rfl (by decide) rfl (fun ls hl => ?_)
          refine lv_goto (tgt := 6) hx hb dX6_digest_39 (by decide) ?_
          exact ih6 _ _ _ _ _ h _ _ hP hD hS ls (lv_sub hl [2, 1, 0] rfl)
  refine lv_ldc2 (v := (1021 : Int64)) hx hb hown (hts (.constantLong RX6 216 (1021)) (by decide +kernel)) dX6_digest_0 ?_
  refine lv_lstore_n (lv' := [(1, .long (1021 : Int64)), (0, .ref (q 0))]) hx hb dX6_digest_3 rfl hl (by decide) rfl (fun ls hl => ?_)
  refine lv_iconst (v := (0 : Int32)) hx hb dX6_digest_4 (by decide) ?_
  refine lv_istore_n (lv' := [(3, .int (0 : Int32)), (1, .long (1021 : Int64)), (0, .ref (q 0))]) hx hb dX6_digest_5 rfl hl (by decide) rfl (fun ls hl => ?_)
  obtain ⟨n9, h⟩ := h
  exact B6 n9 _ _ _ _ _ h _ _ hP hD hS ls (lv_sub hl [2, 1, 0] rfl)
