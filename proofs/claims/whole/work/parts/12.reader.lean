def wp_X2_hasWholeRoom (post : Int32 → Prop) (v : Nat → Int32) (f : Nat → Nat → Int32) (z : Int64) : Prop := (((v 6) < (2 : Int32) → post (0 : Int32)) ∧ (¬ (v 6) < (2 : Int32) → (((v 4) = (2 : Int32) → post (1 : Int32)) ∧ (¬ (v 4) = (2 : Int32) → post (0 : Int32)))))
def rmX2_hasWholeRoom : Room := { frames := 0, cells := 0, slots := 0, locals := 0 }
set_option maxHeartbeats 4000000 in
set_option maxRecDepth 100000 in
theorem c_X2_hasWholeRoom (l : Launch) (D : va_G) (cI : ClassId) (q : Nat → Nat) (post : Int32 → Prop) (v : Nat → Int32) (f : Nat → Nat → Int32) (z : Int64) (h : wp_X2_hasWholeRoom post v f z) : Met l yX2_hasWholeRoom wsX2_hasWholeRoom rmX2_hasWholeRoom (va_Pc [.ref (q 3)] (rP D cI (wX cI q v f z))) (sQ post) 0 0 (fun _ => False) := by
  refine Met.ofW (cc := cX2_hasWholeRoom) (maxL := 1) (ret := (some .boolean)) (by decide) rfl ?_
  intro p e s m args below meth c s₁ B hml hv
  obtain ⟨rfl, hP, hK, hN⟩ := hv
  have hx := B.exec
  have hb := B.bytes
  have hr := B.returns
  have hts := atoms_spec (ws := wsX2_hasWholeRoom) B.pre
  have hown : s.vm.findClass RX2 = some m.cls := findClass_of_methodNamed B.named
  have hlocks : meth.locks = false := B.notSynchronized
  have iX2 : ∀ w ∈ wsX20, w ∈ wsX2_hasWholeRoom := fun _ h9 => List.mem_cons_of_mem _ (List.mem_append_left _ (List.mem_append_right _ h9))
  have iX3 : ∀ w ∈ wsX30, w ∈ wsX2_hasWholeRoom := fun _ h9 => List.mem_cons_of_mem _ (List.mem_append_right _ h9)
  have k12 := hts (.fieldLink RX2 12 "EndedByOthers$Reader" "draft" "LEndedByOthers$Room;") (by decide +kernel)
  have k22 := hts (.fieldLink RX2 22 "EndedByOthers$Reader" "lettersOfPart" "I") (by decide +kernel)
  have k47 := hts (.fieldLink RX2 47 "EndedByOthers$Room" "speakers" "I") (by decide +kernel)
  have hl := lv_entry ([.ref (q 3)]) (n := 1) (Nat.le_of_ble_eq_true rfl)
  rw [lg_entry_eq]
  generalize (lg_sl ([.ref (q 3)]) ++ List.replicate (1 - (lg_sl ([.ref (q 3)])).length) Slot.unset).toArray = ls at hl ⊢
  have hl : lv_has ls 1 [(0, .ref (q 3))] := hl
  unfold wp_X2_hasWholeRoom at h
  refine lv_aload_n hx hb dX2_hasWholeRoom_0 rfl (lv_at hl 0 rfl) ?_
  refine xg_r3_4 hx hb hts iX2 hown hK hP k12 dX2_hasWholeRoom_1 ?_
  refine xg_s6 (x := v 6) hx hb hts iX3 hown hK hP k47 rfl dX2_hasWholeRoom_4 ?_
  refine lv_iconst (v := (2 : Int32)) hx hb dX2_hasWholeRoom_7 (by decide) ?_
  refine lv_icmp_lt (tgt := 23) hx hb dX2_hasWholeRoom_8 (by decide) (fun c9 => ?_) (fun c9 => ?_)
  · have h := h.1 c9
    refine lv_iconst (v := (0 : Int32)) hx hb dX2_hasWholeRoom_23 (by decide) ?_
    exact rz_ret hx hb hr hlocks rfl h dX2_hasWholeRoom_24
  · have h := h.2 c9
    refine lv_aload_n hx hb dX2_hasWholeRoom_11 rfl (lv_at hl 0 rfl) ?_
    refine xg_s4 (x := v 4) hx hb hts iX2 hown hK hP k22 rfl dX2_hasWholeRoom_12 ?_
    refine lv_iconst (v := (2 : Int32)) hx hb dX2_hasWholeRoom_15 (by decide) ?_
    refine lv_icmp_ne (tgt := 23) hx hb dX2_hasWholeRoom_16 (by decide) (fun c9 => ?_) (fun c9 => ?_)
    · have h := h.2 c9
      refine lv_iconst (v := (0 : Int32)) hx hb dX2_hasWholeRoom_23 (by decide) ?_
      exact rz_ret hx hb hr hlocks rfl h dX2_hasWholeRoom_24
    · have h := h.1 c9
      refine lv_iconst (v := (1 : Int32)) hx hb dX2_hasWholeRoom_19 (by decide) ?_
      refine lv_goto (tgt := 24) hx hb dX2_hasWholeRoom_20 (by decide) ?_
      exact rz_ret hx hb hr hlocks rfl h dX2_hasWholeRoom_24
def wp_X2_startPart (post : (Nat → Int32) → (Nat → Nat → Int32) → Int64 → Prop) (v : Nat → Int32) (f : Nat → Nat → Int32) (z : Int64) : Prop := post (upd (upd v 4 (0 : Int32)) 5 (0 : Int32)) f z
def rmX2_startPart : Room := { frames := 0, cells := 0, slots := 0, locals := 0 }
set_option maxHeartbeats 4000000 in
set_option maxRecDepth 100000 in
theorem c_X2_startPart (l : Launch) (D : va_G) (cI : ClassId) (q : Nat → Nat) (sz : Nat) (post : (Nat → Int32) → (Nat → Nat → Int32) → Int64 → Prop) (v : Nat → Int32) (f : Nat → Nat → Int32) (z : Int64) (h : wp_X2_startPart post v f z) : Met l yX2_startPart wsX2_startPart rmX2_startPart (va_Pc [.ref (q 3)] (mP D cI (wX cI q v f z) sz)) (mQv post D cI (wX cI q) (va_A (wX cI q v f z) sz)) 0 0 (va_A (wX cI q v f z) sz) := by
  refine Met.ofW (cc := cX2_startPart) (maxL := 1) (ret := none) (by decide) rfl ?_
  intro p e s m args below meth c s₁ B hml hv
  obtain ⟨rfl, hsz, ⟨hP, hK, hN⟩, hD0⟩ := hv
  have hx := B.exec
  have hb := B.bytes
  have hr := B.returns
  have hts := atoms_spec (ws := wsX2_startPart) B.pre
  have hown : s.vm.findClass RX2 = some m.cls := findClass_of_methodNamed B.named
  have hlocks : meth.locks = false := B.notSynchronized
  subst hsz
  have hD := hD0.self (sz := s.heap.size)
  generalize hAe : va_A (wX cI q v f z) s.heap.size = A at hD ⊢
  have hA : ∀ q : Nat, s.heap.size ≤ q → A q := fun q h => by rw [← hAe]; exact Or.inr h
  have hS : va_S A s.heap s.heap [] := va_S.rf
  have iX2 : ∀ w ∈ wsX20, w ∈ wsX2_startPart := fun _ h9 => List.mem_cons_of_mem _ (List.mem_append_right _ h9)
  have k22 := hts (.fieldLink RX2 22 "EndedByOthers$Reader" "lettersOfPart" "I") (by decide +kernel)
  have k25 := hts (.fieldLink RX2 25 "EndedByOthers$Reader" "lastCode" "I") (by decide +kernel)
  have hl := lv_entry ([.ref (q 3)]) (n := 1) (Nat.le_of_ble_eq_true rfl)
  rw [lg_entry_eq]
  generalize (lg_sl ([.ref (q 3)]) ++ List.replicate (1 - (lg_sl ([.ref (q 3)])).length) Slot.unset).toArray = ls at hl ⊢
  have hl : lv_has ls 1 [(0, .ref (q 3))] := hl
  unfold wp_X2_startPart at h
  refine lv_aload_n hx hb dX2_startPart_0 rfl (lv_at hl 0 rfl) ?_
  refine lv_iconst (v := (0 : Int32)) hx hb dX2_startPart_1 (by decide) ?_
  refine xp_s4 hx hb hts iX2 hown hK hP hD hS k22 dX2_startPart_2 (fun H locs hP hD hS => ?_)
  refine lv_aload_n hx hb dX2_startPart_5 rfl (lv_at hl 0 rfl) ?_
  refine lv_iconst (v := (0 : Int32)) hx hb dX2_startPart_6 (by decide) ?_
  refine xp_s5 hx hb hts iX2 hown hK hP hD hS k25 dX2_startPart_7 (fun H locs hP hD hS => ?_)
  exact mv_ret (upd (upd v 4 (0 : Int32)) 5 (0 : Int32), f, z) hx hb hr hlocks h hK hP hD hS dX2_startPart_10
def wp_X2_takesInOpening_B44 (post : Int32 → (Nat → Int32) → (Nat → Nat → Int32) → Int64 → Prop) (v : Nat → Int32) (f : Nat → Nat → Int32) (z : Int64) (x1 : Int32) : Prop := (((3 : Int32) ≤ (v 4) → post (0 : Int32) v f z) ∧ (¬ (3 : Int32) ≤ (v 4) → (wp_X6_isEnding (fun r1 => ((r1 = 0 → post (0 : Int32) v f z) ∧ (¬ r1 = 0 → (((v 5) < x1 → (vp_in (v 3) 4 ∧ (vp_in (v 3) 4 ∧ post (1 : Int32) (upd (upd v 4 ((v 4) + (1 : Int32))) 5 x1) (va_up f 1 (upd (f 1) (v 3).toNatClampNeg ((f 1 (v 3).toNatClampNeg) ||| ((1 : Int32) <<< ((x1 - (97 : Int32)) &&& 31))))) z))) ∧ (¬ (v 5) < x1 → post (0 : Int32) v f z))))) (x1 - (97 : Int32)))))
def wp_X2_takesInOpening_B15 (post : Int32 → (Nat → Int32) → (Nat → Nat → Int32) → Int64 → Prop) (v : Nat → Int32) (f : Nat → Nat → Int32) (z : Int64) (x1 : Int32) (y0 : Int32) : Prop := (((v 4) ≤ 0 → wp_X2_takesInOpening_B44 post v f z x1) ∧ (¬ (v 4) ≤ 0 → ((x1 = y0 → (wp_X2_startPart (fun v3 f4 z5 => post (1 : Int32) v3 f4 z5) (upd v 3 ((v 3) + (1 : Int32))) f z)) ∧ (¬ x1 = y0 → wp_X2_takesInOpening_B44 post v f z x1))))
def wp_X2_takesInOpening (post : Int32 → (Nat → Int32) → (Nat → Nat → Int32) → Int64 → Prop) (v : Nat → Int32) (f : Nat → Nat → Int32) (z : Int64) (a0 : Int32) : Prop := (((3 : Int32) ≤ (v 3) → wp_X2_takesInOpening_B15 post v f z a0 (59 : Int32)) ∧ (¬ (3 : Int32) ≤ (v 3) → wp_X2_takesInOpening_B15 post v f z a0 (44 : Int32)))
def rmX2_takesInOpening : Room := { frames := 1, cells := 0, slots := 0, locals := 20 }
set_option maxHeartbeats 4000000 in
set_option maxRecDepth 100000 in
theorem c_X2_takesInOpening (l : Launch) (D : va_G) (cI : ClassId) (q : Nat → Nat) (sz : Nat) (post : Int32 → (Nat → Int32) → (Nat → Nat → Int32) → Int64 → Prop) (v : Nat → Int32) (f : Nat → Nat → Int32) (z : Int64) (a0 : Int32) (h : wp_X2_takesInOpening post v f z a0) : Met l yX2_takesInOpening wsX2_takesInOpening rmX2_takesInOpening (va_Pc [.ref (q 3), .int a0] (mP D cI (wX cI q v f z) sz)) (mQi post D cI (wX cI q) (va_A (wX cI q v f z) sz)) 0 0 (va_A (wX cI q v f z) sz) := by
  refine Met.ofW (cc := cX2_takesInOpening) (maxL := 3) (ret := (some .boolean)) (by decide) rfl ?_
  intro p e s m args below meth c s₁ B hml hv
  obtain ⟨rfl, hsz, ⟨hP, hK, hN⟩, hD0⟩ := hv
  have hx := B.exec
  have hb := B.bytes
  have hr := B.returns
  have hts := atoms_spec (ws := wsX2_takesInOpening) B.pre
  have hown : s.vm.findClass RX2 = some m.cls := findClass_of_methodNamed B.named
  have hlocks : meth.locks = false := B.notSynchronized
  subst hsz
  have hD := hD0.self (sz := s.heap.size)
  generalize hAe : va_A (wX cI q v f z) s.heap.size = A at hD ⊢
  have hA : ∀ q : Nat, s.heap.size ≤ q → A q := fun q h => by rw [← hAe]; exact Or.inr h
  have hS : va_S A s.heap s.heap [] := va_S.rf
  have iX2 : ∀ w ∈ wsX20, w ∈ wsX2_takesInOpening := fun _ h9 => List.mem_cons_of_mem _ (List.mem_append_left _ (List.mem_append_right _ h9))
  have iX3 : ∀ w ∈ wsX30, w ∈ wsX2_takesInOpening := fun _ h9 => List.mem_cons_of_mem _ (List.mem_append_right _ h9)
  have k12 := hts (.fieldLink RX2 12 "EndedByOthers$Reader" "draft" "LEndedByOthers$Room;") (by decide +kernel)
  have k18 := hts (.fieldLink RX2 18 "EndedByOthers$Reader" "opening" "I") (by decide +kernel)
  have k22 := hts (.fieldLink RX2 22 "EndedByOthers$Reader" "lettersOfPart" "I") (by decide +kernel)
  have k25 := hts (.fieldLink RX2 25 "EndedByOthers$Reader" "lastCode" "I") (by decide +kernel)
  have k59 := hts (.fieldLink RX2 59 "EndedByOthers$Room" "fitting" "[I") (by decide +kernel)
  have hl := lv_entry ([.ref (q 3), .int a0]) (n := 3) (Nat.le_of_ble_eq_true rfl)
  rw [lg_entry_eq]
  generalize (lg_sl ([.ref (q 3), .int a0]) ++ List.replicate (3 - (lg_sl ([.ref (q 3), .int a0])).length) Slot.unset).toArray = ls at hl ⊢
  have hl : lv_has ls 3 [(0, .ref (q 3)), (1, .int a0)] := hl
  unfold wp_X2_takesInOpening at h
  have B44 : ∀ (v : Nat → Int32) (f : Nat → Nat → Int32) (z : Int64) (x1 : Int32), wp_X2_takesInOpening_B44 post v f z x1 → ∀ (H : Heap) (locs : List Loc), va_P D vwCl (wX cI q v f z) H → va_D A (wX cI q v f z) → va_S A s.heap H locs → ∀ (ls : Array Slot), lv_has ls 3 [(0, .ref (q 3)), (1, .int x1)] → W p l e (headSpec wsX2_takesInOpening rmX2_takesInOpening).room s m ([.ref (q 3), .int a0] : List Value).toArray below meth c H locs 0 0 (MQ below (mQi post D cI (wX cI q) A) ([.ref (q 3), .int a0] : List Value).toArray s 0 0 A) (F0 m 44 ls []) := by
    intro v f z x1 h H locs hP hD hS ls hl
    unfold wp_X2_takesInOpening_B44 at h
    refine lv_aload_n hx hb dX2_takesInOpening_44 rfl (lv_at hl 0 rfl) ?_
    refine xg_s4 (x := v 4) hx hb hts iX2 hown hK hP k22 rfl dX2_takesInOpening_45 ?_
    refine lv_iconst (v := (3 : Int32)) hx hb dX2_takesInOpening_48 (by decide) ?_
    refine lv_icmp_ge (tgt := 70) hx hb dX2_takesInOpening_49 (by decide) (fun c9 => ?_) (fun c9 => ?_)
    · have h := h.1 c9
      refine lv_iconst (v := (0 : Int32)) hx hb dX2_takesInOpening_70 (by decide) ?_
      exact mz_ret (v, f, z) hx hb hr hlocks rfl h hK hP hD hS dX2_takesInOpening_71
    · have h := h.2 c9
      refine lv_iload_n hx hb dX2_takesInOpening_52 rfl (lv_at hl 1 rfl) ?_
      refine lv_bipush (v := (97 : Int32)) hx hb dX2_takesInOpening_53 (by decide) ?_
      refine lv_isub hx hb dX2_takesInOpening_55 ?_
      refine rN_i ⟨hx, hb, hml, hown, hts⟩ (c_X6_isEnding l D cI _ _ h) ⟨va_cnB 1 hts gX2_takesInOpening_X6_isEnding_n56 rfl rfl rfl hN.2.2.1 (hts (.initialized RX6) (by decide +kernel)) (by decide +kernel) ⟨Nat.le_of_ble_eq_true rfl, Nat.le_of_ble_eq_true rfl⟩, hts (.static yX6_isEnding) (by decide +kernel), trivial⟩ hK wPnil hN rfl hl.1 (rest := []) rfl (Nat.le_of_ble_eq_true rfl) dX2_takesInOpening_56 (Nat.zero_le _) (Nat.zero_le _) (fun r1 h => ?_)
      refine lv_if_eq (tgt := 70) hx hb dX2_takesInOpening_59 (by decide) (fun c9 => ?_) (fun c9 => ?_)
      · have h := h.1 c9
        refine lv_iconst (v := (0 : Int32)) hx hb dX2_takesInOpening_70 (by decide) ?_
        exact mz_ret (v, f, z) hx hb hr hlocks rfl h hK hP hD hS dX2_takesInOpening_71
      · have h := h.2 c9
        refine lv_iload_n hx hb dX2_takesInOpening_62 rfl (lv_at hl 1 rfl) ?_
        refine lv_aload_n hx hb dX2_takesInOpening_63 rfl (lv_at hl 0 rfl) ?_
        refine xg_s5 (x := v 5) hx hb hts iX2 hown hK hP k25 rfl dX2_takesInOpening_64 ?_
        refine lv_icmp_gt (tgt := 72) hx hb dX2_takesInOpening_67 (by decide) (fun c9 => ?_) (fun c9 => ?_)
        · have h := h.1 c9
          refine lv_aload_n hx hb dX2_takesInOpening_72 rfl (lv_at hl 0 rfl) ?_
          refine xg_r3_4 hx hb hts iX2 hown hK hP k12 dX2_takesInOpening_73 ?_
          refine xg_r4_5 hx hb hts iX3 hown hK hP k59 dX2_takesInOpening_76 ?_
          refine lv_aload_n hx hb dX2_takesInOpening_79 rfl (lv_at hl 0 rfl) ?_
          refine xg_s3 (x := v 3) hx hb hts iX2 hown hK hP k18 rfl dX2_takesInOpening_80 ?_
          refine lv_dup2_11 hx hb dX2_takesInOpening_83 rfl rfl ?_
          obtain ⟨h9, h⟩ := h
          refine xal_1 (x := f 1 (v 3).toNatClampNeg) hx hb hK hP h9 rfl dX2_takesInOpening_84 ?_
          refine lv_iconst (v := (1 : Int32)) hx hb dX2_takesInOpening_85 (by decide) ?_
          refine lv_iload_n hx hb dX2_takesInOpening_86 rfl (lv_at hl 1 rfl) ?_
          refine lv_bipush (v := (97 : Int32)) hx hb dX2_takesInOpening_87 (by decide) ?_
          refine lv_isub hx hb dX2_takesInOpening_89 ?_
          refine lv_ishl hx hb dX2_takesInOpening_90 ?_
          refine lv_ior hx hb dX2_takesInOpening_91 ?_
          obtain ⟨h9, h⟩ := h
          refine xas_1 hx hb hK hP hD hS h9 dX2_takesInOpening_92 (fun H locs hP hD hS => ?_)
          have hP : va_P D vwCl (wX cI q v (va_up f 1 (upd (f 1) (v 3).toNatClampNeg ((f 1 (v 3).toNatClampNeg) ||| ((1 : Int32) <<< ((x1 - (97 : Int32)) &&& 31))))) z) H := hP
          have hD : va_D A (wX cI q v (va_up f 1 (upd (f 1) (v 3).toNatClampNeg ((f 1 (v 3).toNatClampNeg) ||| ((1 : Int32) <<< ((x1 - (97 : Int32)) &&& 31))))) z) := hD
          refine lv_aload_n hx hb dX2_takesInOpening_93 rfl (lv_at hl 0 rfl) ?_
          refine lv_dup hx hb dX2_takesInOpening_94 rfl ?_
          refine xg_s4 (x := v 4) hx hb hts iX2 hown hK hP k22 rfl dX2_takesInOpening_95 ?_
          refine lv_iconst (v := (1 : Int32)) hx hb dX2_takesInOpening_98 (by decide) ?_
          refine lv_iadd hx hb dX2_takesInOpening_99 ?_
          refine xp_s4 hx hb hts iX2 hown hK hP hD hS k22 dX2_takesInOpening_100 (fun H locs hP hD hS => ?_)
          refine lv_aload_n hx hb dX2_takesInOpening_103 rfl (lv_at hl 0 rfl) ?_
          refine lv_iload_n hx hb dX2_takesInOpening_104 rfl (lv_at hl 1 rfl) ?_
          refine xp_s5 hx hb hts iX2 hown hK hP hD hS k25 dX2_takesInOpening_105 (fun H locs hP hD hS => ?_)
          refine lv_iconst (v := (1 : Int32)) hx hb dX2_takesInOpening_108 (by decide) ?_
          exact mz_ret (upd (upd v 4 ((v 4) + (1 : Int32))) 5 x1, va_up f 1 (upd (f 1) (v 3).toNatClampNeg ((f 1 (v 3).toNatClampNeg) ||| ((1 : Int32) <<< ((x1 - (97 : Int32)) &&& 31)))), z) hx hb hr hlocks rfl h hK hP hD hS dX2_takesInOpening_109
        · have h := h.2 c9
          refine lv_iconst (v := (0 : Int32)) hx hb dX2_takesInOpening_70 (by decide) ?_
          exact mz_ret (v, f, z) hx hb hr hlocks rfl h hK hP hD hS dX2_takesInOpening_71
  have B15 : ∀ (v : Nat → Int32) (f : Nat → Nat → Int32) (z : Int64) (x1 : Int32) (y0 : Int32), wp_X2_takesInOpening_B15 post v f z x1 y0 → ∀ (H : Heap) (locs : List Loc), va_P D vwCl (wX cI q v f z) H → va_D A (wX cI q v f z) → va_S A s.heap H locs → ∀ (ls : Array Slot), lv_has ls 3 [(0, .ref (q 3)), (1, .int x1)] → W p l e (headSpec wsX2_takesInOpening rmX2_takesInOpening).room s m ([.ref (q 3), .int a0] : List Value).toArray below meth c H locs 0 0 (MQ below (mQi post D cI (wX cI q) A) ([.ref (q 3), .int a0] : List Value).toArray s 0 0 A) (F0 m 15 ls [.int y0]) := by
    intro v f z x1 y0 h H locs hP hD hS ls hl
    unfold wp_X2_takesInOpening_B15 at h
    refine lv_istore_n (lv' := [(2, .int y0), (0, .ref (q 3)), (1, .int x1)]) hx hb dX2_takesInOpening_15 rfl hl (by decide) rfl (fun ls hl => ?_)
    refine lv_aload_n hx hb dX2_takesInOpening_16 rfl (lv_at hl 1 rfl) ?_
    refine xg_s4 (x := v 4) hx hb hts iX2 hown hK hP k22 rfl dX2_takesInOpening_17 ?_
    refine lv_if_le (tgt := 44) hx hb dX2_takesInOpening_20 (by decide) (fun c9 => ?_) (fun c9 => ?_)
    · have h := h.1 c9
      exact B44 _ _ _ _ h _ _ hP hD hS ls (lv_sub hl [1, 2] rfl)
    · have h := h.2 c9
      refine lv_iload_n hx hb dX2_takesInOpening_23 rfl (lv_at hl 2 rfl) ?_
      refine lv_iload_n hx hb dX2_takesInOpening_24 rfl (lv_at hl 0 rfl) ?_
      refine lv_icmp_ne (tgt := 44) hx hb dX2_takesInOpening_25 (by decide) (fun c9 => ?_) (fun c9 => ?_)
      · have h := h.2 c9
        exact B44 _ _ _ _ h _ _ hP hD hS ls (lv_sub hl [1, 2] rfl)
      · have h := h.1 c9
        refine lv_aload_n hx hb dX2_takesInOpening_28 rfl (lv_at hl 1 rfl) ?_
        refine lv_dup hx hb dX2_takesInOpening_29 rfl ?_
        refine xg_s3 (x := v 3) hx hb hts iX2 hown hK hP k18 rfl dX2_takesInOpening_30 ?_
        refine lv_iconst (v := (1 : Int32)) hx hb dX2_takesInOpening_33 (by decide) ?_
        refine lv_iadd hx hb dX2_takesInOpening_34 ?_
        refine xp_s3 hx hb hts iX2 hown hK hP hD hS k18 dX2_takesInOpening_35 (fun H locs hP hD hS => ?_)
        refine lv_aload_n hx hb dX2_takesInOpening_38 rfl (lv_at hl 1 rfl) ?_
        refine mV_v ⟨hx, hb, hml, hown, hts⟩ (c_X2_startPart l D cI q _ _ _ _ _ h) (cwV 0 hts gX2_takesInOpening_X2_startPart rfl rfl rfl (by decide +kernel) ⟨Nat.le_of_ble_eq_true rfl, Nat.le_of_ble_eq_true rfl⟩) hK hP hN hD hS hA (va_recv hK hP (ci := 2) (q0 := 3) rfl rfl) rfl hl.1 (rest := []) rfl (Nat.le_of_ble_eq_true rfl) dX2_takesInOpening_39 (Nat.zero_le _) (Nat.zero_le _) (fun v3 f4 z5 h H locs hP hD hS => ?_)
        refine lv_iconst (v := (1 : Int32)) hx hb dX2_takesInOpening_42 (by decide) ?_
        exact mz_ret (v3, f4, z5) hx hb hr hlocks rfl h hK hP hD hS dX2_takesInOpening_43
  refine lv_aload_n hx hb dX2_takesInOpening_0 rfl (lv_at hl 0 rfl) ?_
  refine xg_s3 (x := v 3) hx hb hts iX2 hown hK hP k18 rfl dX2_takesInOpening_1 ?_
  refine lv_iconst (v := (3 : Int32)) hx hb dX2_takesInOpening_4 (by decide) ?_
  refine lv_icmp_ge (tgt := 13) hx hb dX2_takesInOpening_5 (by decide) (fun c9 => ?_) (fun c9 => ?_)
  · have h := h.1 c9
    refine lv_bipush (v := (59 : Int32)) hx hb dX2_takesInOpening_13 (by decide) ?_
    exact B15 _ _ _ _ _ h _ _ hP hD hS ls (lv_sub hl [0, 1] rfl)
  · have h := h.2 c9
    refine lv_bipush (v := (44 : Int32)) hx hb dX2_takesInOpening_8 (by decide) ?_
    refine lv_goto (tgt := 15) hx hb dX2_takesInOpening_10 (by decide) ?_
    exact B15 _ _ _ _ _ h _ _ hP hD hS ls (lv_sub hl [0, 1] rfl)
def wp_X2_takesKind (post : Int32 → (Nat → Int32) → (Nat → Nat → Int32) → Int64 → Prop) (v : Nat → Int32) (f : Nat → Nat → Int32) (z : Int64) (a0 : Int32) : Prop := ((a0 < 0 → post (0 : Int32) v f z) ∧ (¬ a0 < 0 → (((v 6) < (4 : Int32) → (vp_in (v 6) 4 ∧ post (1 : Int32) (upd v 4 ((v 4) + (1 : Int32))) (va_up f 2 (upd (f 2) (v 6).toNatClampNeg a0)) z)) ∧ (¬ (v 6) < (4 : Int32) → post (0 : Int32) v f z))))
def rmX2_takesKind : Room := { frames := 0, cells := 0, slots := 0, locals := 0 }
set_option maxHeartbeats 4000000 in
set_option maxRecDepth 100000 in
theorem c_X2_takesKind (l : Launch) (D : va_G) (cI : ClassId) (q : Nat → Nat) (sz : Nat) (post : Int32 → (Nat → Int32) → (Nat → Nat → Int32) → Int64 → Prop) (v : Nat → Int32) (f : Nat → Nat → Int32) (z : Int64) (a0 : Int32) (h : wp_X2_takesKind post v f z a0) : Met l yX2_takesKind wsX2_takesKind rmX2_takesKind (va_Pc [.ref (q 3), .int a0] (mP D cI (wX cI q v f z) sz)) (mQi post D cI (wX cI q) (va_A (wX cI q v f z) sz)) 0 0 (va_A (wX cI q v f z) sz) := by
  refine Met.ofW (cc := cX2_takesKind) (maxL := 2) (ret := (some .boolean)) (by decide) rfl ?_
  intro p e s m args below meth c s₁ B hml hv
  obtain ⟨rfl, hsz, ⟨hP, hK, hN⟩, hD0⟩ := hv
  have hx := B.exec
  have hb := B.bytes
  have hr := B.returns
  have hts := atoms_spec (ws := wsX2_takesKind) B.pre
  have hown : s.vm.findClass RX2 = some m.cls := findClass_of_methodNamed B.named
  have hlocks : meth.locks = false := B.notSynchronized
  subst hsz
  have hD := hD0.self (sz := s.heap.size)
  generalize hAe : va_A (wX cI q v f z) s.heap.size = A at hD ⊢
  have hA : ∀ q : Nat, s.heap.size ≤ q → A q := fun q h => by rw [← hAe]; exact Or.inr h
  have hS : va_S A s.heap s.heap [] := va_S.rf
  have iX2 : ∀ w ∈ wsX20, w ∈ wsX2_takesKind := fun _ h9 => List.mem_cons_of_mem _ (List.mem_append_left _ (List.mem_append_right _ h9))
  have iX3 : ∀ w ∈ wsX30, w ∈ wsX2_takesKind := fun _ h9 => List.mem_cons_of_mem _ (List.mem_append_right _ h9)
  have k12 := hts (.fieldLink RX2 12 "EndedByOthers$Reader" "draft" "LEndedByOthers$Room;") (by decide +kernel)
  have k22 := hts (.fieldLink RX2 22 "EndedByOthers$Reader" "lettersOfPart" "I") (by decide +kernel)
  have k47 := hts (.fieldLink RX2 47 "EndedByOthers$Room" "speakers" "I") (by decide +kernel)
  have k79 := hts (.fieldLink RX2 79 "EndedByOthers$Room" "kinds" "[I") (by decide +kernel)
  have hl := lv_entry ([.ref (q 3), .int a0]) (n := 2) (Nat.le_of_ble_eq_true rfl)
  rw [lg_entry_eq]
  generalize (lg_sl ([.ref (q 3), .int a0]) ++ List.replicate (2 - (lg_sl ([.ref (q 3), .int a0])).length) Slot.unset).toArray = ls at hl ⊢
  have hl : lv_has ls 2 [(0, .ref (q 3)), (1, .int a0)] := hl
  unfold wp_X2_takesKind at h
  refine lv_iload_n hx hb dX2_takesKind_0 rfl (lv_at hl 1 rfl) ?_
  refine lv_if_lt (tgt := 15) hx hb dX2_takesKind_1 (by decide) (fun c9 => ?_) (fun c9 => ?_)
  · have h := h.1 c9
    refine lv_iconst (v := (0 : Int32)) hx hb dX2_takesKind_15 (by decide) ?_
    exact mz_ret (v, f, z) hx hb hr hlocks rfl h hK hP hD hS dX2_takesKind_16
  · have h := h.2 c9
    refine lv_aload_n hx hb dX2_takesKind_4 rfl (lv_at hl 0 rfl) ?_
    refine xg_r3_4 hx hb hts iX2 hown hK hP k12 dX2_takesKind_5 ?_
    refine xg_s6 (x := v 6) hx hb hts iX3 hown hK hP k47 rfl dX2_takesKind_8 ?_
    refine lv_iconst (v := (4 : Int32)) hx hb dX2_takesKind_11 (by decide) ?_
    refine lv_icmp_lt (tgt := 17) hx hb dX2_takesKind_12 (by decide) (fun c9 => ?_) (fun c9 => ?_)
    · have h := h.1 c9
      refine lv_aload_n hx hb dX2_takesKind_17 rfl (lv_at hl 0 rfl) ?_
      refine xg_r3_4 hx hb hts iX2 hown hK hP k12 dX2_takesKind_18 ?_
      refine xg_r4_6 hx hb hts iX3 hown hK hP k79 dX2_takesKind_21 ?_
      refine lv_aload_n hx hb dX2_takesKind_24 rfl (lv_at hl 0 rfl) ?_
      refine xg_r3_4 hx hb hts iX2 hown hK hP k12 dX2_takesKind_25 ?_
      refine xg_s6 (x := v 6) hx hb hts iX3 hown hK hP k47 rfl dX2_takesKind_28 ?_
      refine lv_iload_n hx hb dX2_takesKind_31 rfl (lv_at hl 1 rfl) ?_
      obtain ⟨h9, h⟩ := h
      refine xas_2 hx hb hK hP hD hS h9 dX2_takesKind_32 (fun H locs hP hD hS => ?_)
      have hP : va_P D vwCl (wX cI q v (va_up f 2 (upd (f 2) (v 6).toNatClampNeg a0)) z) H := hP
      have hD : va_D A (wX cI q v (va_up f 2 (upd (f 2) (v 6).toNatClampNeg a0)) z) := hD
      refine lv_aload_n hx hb dX2_takesKind_33 rfl (lv_at hl 0 rfl) ?_
      refine lv_dup hx hb dX2_takesKind_34 rfl ?_
      refine xg_s4 (x := v 4) hx hb hts iX2 hown hK hP k22 rfl dX2_takesKind_35 ?_
      refine lv_iconst (v := (1 : Int32)) hx hb dX2_takesKind_38 (by decide) ?_
      refine lv_iadd hx hb dX2_takesKind_39 ?_
      refine xp_s4 hx hb hts iX2 hown hK hP hD hS k22 dX2_takesKind_40 (fun H locs hP hD hS => ?_)
      refine lv_iconst (v := (1 : Int32)) hx hb dX2_takesKind_43 (by decide) ?_
      exact mz_ret (upd v 4 ((v 4) + (1 : Int32)), va_up f 2 (upd (f 2) (v 6).toNatClampNeg a0), z) hx hb hr hlocks rfl h hK hP hD hS dX2_takesKind_44
    · have h := h.2 c9
      refine lv_iconst (v := (0 : Int32)) hx hb dX2_takesKind_15 (by decide) ?_
      exact mz_ret (v, f, z) hx hb hr hlocks rfl h hK hP hD hS dX2_takesKind_16
def wp_X2_takesWant (post : Int32 → (Nat → Int32) → (Nat → Nat → Int32) → Int64 → Prop) (v : Nat → Int32) (f : Nat → Nat → Int32) (z : Int64) (a0 : Int32) : Prop := (wp_X6_isEnding (fun r1 => ((r1 = 0 → post (0 : Int32) v f z) ∧ (¬ r1 = 0 → (((v 6) < (4 : Int32) → (vp_in (v 6) 4 ∧ post (1 : Int32) (upd (upd v 6 ((v 6) + (1 : Int32))) 4 ((v 4) + (1 : Int32))) (va_up f 3 (upd (f 3) (v 6).toNatClampNeg a0)) z)) ∧ (¬ (v 6) < (4 : Int32) → post (0 : Int32) v f z))))) a0)
def rmX2_takesWant : Room := { frames := 1, cells := 0, slots := 0, locals := 20 }
set_option maxHeartbeats 4000000 in
set_option maxRecDepth 100000 in
theorem c_X2_takesWant (l : Launch) (D : va_G) (cI : ClassId) (q : Nat → Nat) (sz : Nat) (post : Int32 → (Nat → Int32) → (Nat → Nat → Int32) → Int64 → Prop) (v : Nat → Int32) (f : Nat → Nat → Int32) (z : Int64) (a0 : Int32) (h : wp_X2_takesWant post v f z a0) : Met l yX2_takesWant wsX2_takesWant rmX2_takesWant (va_Pc [.ref (q 3), .int a0] (mP D cI (wX cI q v f z) sz)) (mQi post D cI (wX cI q) (va_A (wX cI q v f z) sz)) 0 0 (va_A (wX cI q v f z) sz) := by
  refine Met.ofW (cc := cX2_takesWant) (maxL := 2) (ret := (some .boolean)) (by decide) rfl ?_
  intro p e s m args below meth c s₁ B hml hv
  obtain ⟨rfl, hsz, ⟨hP, hK, hN⟩, hD0⟩ := hv
  have hx := B.exec
  have hb := B.bytes
  have hr := B.returns
  have hts := atoms_spec (ws := wsX2_takesWant) B.pre
  have hown : s.vm.findClass RX2 = some m.cls := findClass_of_methodNamed B.named
  have hlocks : meth.locks = false := B.notSynchronized
  subst hsz
  have hD := hD0.self (sz := s.heap.size)
  generalize hAe : va_A (wX cI q v f z) s.heap.size = A at hD ⊢
  have hA : ∀ q : Nat, s.heap.size ≤ q → A q := fun q h => by rw [← hAe]; exact Or.inr h
  have hS : va_S A s.heap s.heap [] := va_S.rf
  have iX2 : ∀ w ∈ wsX20, w ∈ wsX2_takesWant := fun _ h9 => List.mem_cons_of_mem _ (List.mem_append_left _ (List.mem_append_right _ h9))
  have iX3 : ∀ w ∈ wsX30, w ∈ wsX2_takesWant := fun _ h9 => List.mem_cons_of_mem _ (List.mem_append_right _ h9)
  have k12 := hts (.fieldLink RX2 12 "EndedByOthers$Reader" "draft" "LEndedByOthers$Room;") (by decide +kernel)
  have k22 := hts (.fieldLink RX2 22 "EndedByOthers$Reader" "lettersOfPart" "I") (by decide +kernel)
  have k47 := hts (.fieldLink RX2 47 "EndedByOthers$Room" "speakers" "I") (by decide +kernel)
  have k82 := hts (.fieldLink RX2 82 "EndedByOthers$Room" "wants" "[I") (by decide +kernel)
  have hl := lv_entry ([.ref (q 3), .int a0]) (n := 2) (Nat.le_of_ble_eq_true rfl)
  rw [lg_entry_eq]
  generalize (lg_sl ([.ref (q 3), .int a0]) ++ List.replicate (2 - (lg_sl ([.ref (q 3), .int a0])).length) Slot.unset).toArray = ls at hl ⊢
  have hl : lv_has ls 2 [(0, .ref (q 3)), (1, .int a0)] := hl
  unfold wp_X2_takesWant at h
  refine lv_iload_n hx hb dX2_takesWant_0 rfl (lv_at hl 1 rfl) ?_
  refine rN_i ⟨hx, hb, hml, hown, hts⟩ (c_X6_isEnding l D cI _ _ h) ⟨va_cnB 1 hts gX2_takesWant_X6_isEnding_n56 rfl rfl rfl hN.2.2.1 (hts (.initialized RX6) (by decide +kernel)) (by decide +kernel) ⟨Nat.le_of_ble_eq_true rfl, Nat.le_of_ble_eq_true rfl⟩, hts (.static yX6_isEnding) (by decide +kernel), trivial⟩ hK wPnil hN rfl hl.1 (rest := []) rfl (Nat.le_of_ble_eq_true rfl) dX2_takesWant_1 (Nat.zero_le _) (Nat.zero_le _) (fun r1 h => ?_)
  refine lv_if_eq (tgt := 18) hx hb dX2_takesWant_4 (by decide) (fun c9 => ?_) (fun c9 => ?_)
  · have h := h.1 c9
    refine lv_iconst (v := (0 : Int32)) hx hb dX2_takesWant_18 (by decide) ?_
    exact mz_ret (v, f, z) hx hb hr hlocks rfl h hK hP hD hS dX2_takesWant_19
  · have h := h.2 c9
    refine lv_aload_n hx hb dX2_takesWant_7 rfl (lv_at hl 0 rfl) ?_
    refine xg_r3_4 hx hb hts iX2 hown hK hP k12 dX2_takesWant_8 ?_
    refine xg_s6 (x := v 6) hx hb hts iX3 hown hK hP k47 rfl dX2_takesWant_11 ?_
    refine lv_iconst (v := (4 : Int32)) hx hb dX2_takesWant_14 (by decide) ?_
    refine lv_icmp_lt (tgt := 20) hx hb dX2_takesWant_15 (by decide) (fun c9 => ?_) (fun c9 => ?_)
    · have h := h.1 c9
      refine lv_aload_n hx hb dX2_takesWant_20 rfl (lv_at hl 0 rfl) ?_
      refine xg_r3_4 hx hb hts iX2 hown hK hP k12 dX2_takesWant_21 ?_
      refine xg_r4_7 hx hb hts iX3 hown hK hP k82 dX2_takesWant_24 ?_
      refine lv_aload_n hx hb dX2_takesWant_27 rfl (lv_at hl 0 rfl) ?_
      refine xg_r3_4 hx hb hts iX2 hown hK hP k12 dX2_takesWant_28 ?_
      refine xg_s6 (x := v 6) hx hb hts iX3 hown hK hP k47 rfl dX2_takesWant_31 ?_
      refine lv_iload_n hx hb dX2_takesWant_34 rfl (lv_at hl 1 rfl) ?_
      obtain ⟨h9, h⟩ := h
      refine xas_3 hx hb hK hP hD hS h9 dX2_takesWant_35 (fun H locs hP hD hS => ?_)
      have hP : va_P D vwCl (wX cI q v (va_up f 3 (upd (f 3) (v 6).toNatClampNeg a0)) z) H := hP
      have hD : va_D A (wX cI q v (va_up f 3 (upd (f 3) (v 6).toNatClampNeg a0)) z) := hD
      refine lv_aload_n hx hb dX2_takesWant_36 rfl (lv_at hl 0 rfl) ?_
      refine xg_r3_4 hx hb hts iX2 hown hK hP k12 dX2_takesWant_37 ?_
      refine lv_dup hx hb dX2_takesWant_40 rfl ?_
      refine xg_s6 (x := v 6) hx hb hts iX3 hown hK hP k47 rfl dX2_takesWant_41 ?_
      refine lv_iconst (v := (1 : Int32)) hx hb dX2_takesWant_44 (by decide) ?_
      refine lv_iadd hx hb dX2_takesWant_45 ?_
      refine xp_s6 hx hb hts iX3 hown hK hP hD hS k47 dX2_takesWant_46 (fun H locs hP hD hS => ?_)
      refine lv_aload_n hx hb dX2_takesWant_49 rfl (lv_at hl 0 rfl) ?_
      refine lv_dup hx hb dX2_takesWant_50 rfl ?_
      refine xg_s4 (x := v 4) hx hb hts iX2 hown hK hP k22 rfl dX2_takesWant_51 ?_
      refine lv_iconst (v := (1 : Int32)) hx hb dX2_takesWant_54 (by decide) ?_
      refine lv_iadd hx hb dX2_takesWant_55 ?_
      refine xp_s4 hx hb hts iX2 hown hK hP hD hS k22 dX2_takesWant_56 (fun H locs hP hD hS => ?_)
      refine lv_iconst (v := (1 : Int32)) hx hb dX2_takesWant_59 (by decide) ?_
      exact mz_ret (upd (upd v 6 ((v 6) + (1 : Int32))) 4 ((v 4) + (1 : Int32)), va_up f 3 (upd (f 3) (v 6).toNatClampNeg a0), z) hx hb hr hlocks rfl h hK hP hD hS dX2_takesWant_60
    · have h := h.2 c9
      refine lv_iconst (v := (0 : Int32)) hx hb dX2_takesWant_18 (by decide) ?_
      exact mz_ret (v, f, z) hx hb hr hlocks rfl h hK hP hD hS dX2_takesWant_19
def wp_X2_takesNextSpeaker (post : Int32 → (Nat → Int32) → (Nat → Nat → Int32) → Int64 → Prop) (v : Nat → Int32) (f : Nat → Nat → Int32) (z : Int64) (a0 : Int32) : Prop := ((a0 = (44 : Int32) → (((v 6) < (4 : Int32) → (wp_X2_startPart (fun v2 f3 z4 => post (1 : Int32) v2 f3 z4) v f z)) ∧ (¬ (v 6) < (4 : Int32) → post (0 : Int32) v f z))) ∧ (¬ a0 = (44 : Int32) → post (0 : Int32) v f z))
def rmX2_takesNextSpeaker : Room := { frames := 1, cells := 0, slots := 0, locals := 20 }
set_option maxHeartbeats 4000000 in
set_option maxRecDepth 100000 in
theorem c_X2_takesNextSpeaker (l : Launch) (D : va_G) (cI : ClassId) (q : Nat → Nat) (sz : Nat) (post : Int32 → (Nat → Int32) → (Nat → Nat → Int32) → Int64 → Prop) (v : Nat → Int32) (f : Nat → Nat → Int32) (z : Int64) (a0 : Int32) (h : wp_X2_takesNextSpeaker post v f z a0) : Met l yX2_takesNextSpeaker wsX2_takesNextSpeaker rmX2_takesNextSpeaker (va_Pc [.ref (q 3), .int a0] (mP D cI (wX cI q v f z) sz)) (mQi post D cI (wX cI q) (va_A (wX cI q v f z) sz)) 0 0 (va_A (wX cI q v f z) sz) := by
  refine Met.ofW (cc := cX2_takesNextSpeaker) (maxL := 2) (ret := (some .boolean)) (by decide) rfl ?_
  intro p e s m args below meth c s₁ B hml hv
  obtain ⟨rfl, hsz, ⟨hP, hK, hN⟩, hD0⟩ := hv
  have hx := B.exec
  have hb := B.bytes
  have hr := B.returns
  have hts := atoms_spec (ws := wsX2_takesNextSpeaker) B.pre
  have hown : s.vm.findClass RX2 = some m.cls := findClass_of_methodNamed B.named
  have hlocks : meth.locks = false := B.notSynchronized
  subst hsz
  have hD := hD0.self (sz := s.heap.size)
  generalize hAe : va_A (wX cI q v f z) s.heap.size = A at hD ⊢
  have hA : ∀ q : Nat, s.heap.size ≤ q → A q := fun q h => by rw [← hAe]; exact Or.inr h
  have hS : va_S A s.heap s.heap [] := va_S.rf
  have iX2 : ∀ w ∈ wsX20, w ∈ wsX2_takesNextSpeaker := fun _ h9 => List.mem_cons_of_mem _ (List.mem_append_left _ (List.mem_append_right _ h9))
  have iX3 : ∀ w ∈ wsX30, w ∈ wsX2_takesNextSpeaker := fun _ h9 => List.mem_cons_of_mem _ (List.mem_append_right _ h9)
  have k12 := hts (.fieldLink RX2 12 "EndedByOthers$Reader" "draft" "LEndedByOthers$Room;") (by decide +kernel)
  have k47 := hts (.fieldLink RX2 47 "EndedByOthers$Room" "speakers" "I") (by decide +kernel)
  have hl := lv_entry ([.ref (q 3), .int a0]) (n := 2) (Nat.le_of_ble_eq_true rfl)
  rw [lg_entry_eq]
  generalize (lg_sl ([.ref (q 3), .int a0]) ++ List.replicate (2 - (lg_sl ([.ref (q 3), .int a0])).length) Slot.unset).toArray = ls at hl ⊢
  have hl : lv_has ls 2 [(0, .ref (q 3)), (1, .int a0)] := hl
  unfold wp_X2_takesNextSpeaker at h
  refine lv_iload_n hx hb dX2_takesNextSpeaker_0 rfl (lv_at hl 1 rfl) ?_
  refine lv_bipush (v := (44 : Int32)) hx hb dX2_takesNextSpeaker_1 (by decide) ?_
  refine lv_icmp_ne (tgt := 17) hx hb dX2_takesNextSpeaker_3 (by decide) (fun c9 => ?_) (fun c9 => ?_)
  · have h := h.2 c9
    refine lv_iconst (v := (0 : Int32)) hx hb dX2_takesNextSpeaker_17 (by decide) ?_
    exact mz_ret (v, f, z) hx hb hr hlocks rfl h hK hP hD hS dX2_takesNextSpeaker_18
  · have h := h.1 c9
    refine lv_aload_n hx hb dX2_takesNextSpeaker_6 rfl (lv_at hl 0 rfl) ?_
    refine xg_r3_4 hx hb hts iX2 hown hK hP k12 dX2_takesNextSpeaker_7 ?_
    refine xg_s6 (x := v 6) hx hb hts iX3 hown hK hP k47 rfl dX2_takesNextSpeaker_10 ?_
    refine lv_iconst (v := (4 : Int32)) hx hb dX2_takesNextSpeaker_13 (by decide) ?_
    refine lv_icmp_lt (tgt := 19) hx hb dX2_takesNextSpeaker_14 (by decide) (fun c9 => ?_) (fun c9 => ?_)
    · have h := h.1 c9
      refine lv_aload_n hx hb dX2_takesNextSpeaker_19 rfl (lv_at hl 0 rfl) ?_
      refine mV_v ⟨hx, hb, hml, hown, hts⟩ (c_X2_startPart l D cI q _ _ _ _ _ h) (cwV 0 hts gX2_takesNextSpeaker_X2_startPart rfl rfl rfl (by decide +kernel) ⟨Nat.le_of_ble_eq_true rfl, Nat.le_of_ble_eq_true rfl⟩) hK hP hN hD hS hA (va_recv hK hP (ci := 2) (q0 := 3) rfl rfl) rfl hl.1 (rest := []) rfl (Nat.le_of_ble_eq_true rfl) dX2_takesNextSpeaker_20 (Nat.zero_le _) (Nat.zero_le _) (fun v2 f3 z4 h H locs hP hD hS => ?_)
      refine lv_iconst (v := (1 : Int32)) hx hb dX2_takesNextSpeaker_23 (by decide) ?_
      exact mz_ret (v2, f3, z4) hx hb hr hlocks rfl h hK hP hD hS dX2_takesNextSpeaker_24
    · have h := h.2 c9
      refine lv_iconst (v := (0 : Int32)) hx hb dX2_takesNextSpeaker_17 (by decide) ?_
      exact mz_ret (v, f, z) hx hb hr hlocks rfl h hK hP hD hS dX2_takesNextSpeaker_18
def wp_X2_takesInSpeaker (post : Int32 → (Nat → Int32) → (Nat → Nat → Int32) → Int64 → Prop) (v : Nat → Int32) (f : Nat → Nat → Int32) (z : Int64) (a0 : Int32) : Prop := (((v 4) = 0 → (wp_X2_takesKind (fun r1 v2 f3 z4 => (nb r1 ∧ post r1 v2 f3 z4)) v f z (kIx (((a0).toUInt32 % 65536).toInt32)))) ∧ ((v 4) = 1 → (wp_X2_takesWant (fun r5 v6 f7 z8 => (nb r5 ∧ post r5 v6 f7 z8)) v f z (a0 - (97 : Int32)))) ∧ (((v 4).toInt < 0 ∨ 1 < (v 4).toInt) → (wp_X2_takesNextSpeaker (fun r9 v10 f11 z12 => (nb r9 ∧ post r9 v10 f11 z12)) v f z a0)))
def rmX2_takesInSpeaker : Room := { frames := 8, cells := 0, slots := 0, locals := 400 }
set_option maxHeartbeats 4000000 in
set_option maxRecDepth 100000 in
theorem c_X2_takesInSpeaker (l : Launch) (D : va_G) (cI : ClassId) (q : Nat → Nat) (sz : Nat) {k t : Nat} (post : Int32 → (Nat → Int32) → (Nat → Nat → Int32) → Int64 → Prop) (v : Nat → Int32) (f : Nat → Nat → Int32) (z : Int64) (a0 : Int32) (h : wp_X2_takesInSpeaker post v f z a0) : Met l yX2_takesInSpeaker wsX2_takesInSpeaker rmX2_takesInSpeaker (va_Pc [.ref (q 3), .int a0] (mPe k t D cI (wX cI q v f z) sz)) (mQi post D cI (wX cI q) (va_A (wX cI q v f z) sz)) 0 0 (va_A (wX cI q v f z) sz) := by
  refine Met.ofW (cc := cX2_takesInSpeaker) (maxL := 2) (ret := (some .boolean)) (by decide) rfl ?_
  intro p e s m args below meth c s₁ B hml hv
  obtain ⟨rfl, ⟨hsz, ⟨hP, hK, hN⟩, hD0⟩, hE⟩ := hv
  have hx := B.exec
  have hb := B.bytes
  have hr := B.returns
  have hts := atoms_spec (ws := wsX2_takesInSpeaker) B.pre
  have hown : s.vm.findClass RX2 = some m.cls := findClass_of_methodNamed B.named
  have hlocks : meth.locks = false := B.notSynchronized
  subst hsz
  have hD := hD0.self (sz := s.heap.size)
  generalize hAe : va_A (wX cI q v f z) s.heap.size = A at hD hE ⊢
  have hA : ∀ q : Nat, s.heap.size ≤ q → A q := fun q h => by rw [← hAe]; exact Or.inr h
  have hS : va_S A s.heap s.heap [] := va_S.rf
  have iX2 : ∀ w ∈ wsX20, w ∈ wsX2_takesInSpeaker := fun _ h9 => List.mem_cons_of_mem _ (List.mem_append_left _ (List.mem_append_right _ h9))
  have k22 := hts (.fieldLink RX2 22 "EndedByOthers$Reader" "lettersOfPart" "I") (by decide +kernel)
  have hl := lv_entry ([.ref (q 3), .int a0]) (n := 2) (Nat.le_of_ble_eq_true rfl)
  rw [lg_entry_eq]
  generalize (lg_sl ([.ref (q 3), .int a0]) ++ List.replicate (2 - (lg_sl ([.ref (q 3), .int a0])).length) Slot.unset).toArray = ls at hl ⊢
  have hl : lv_has ls 2 [(0, .ref (q 3)), (1, .int a0)] := hl
  unfold wp_X2_takesInSpeaker at h
  refine lv_aload_n hx hb dX2_takesInSpeaker_0 rfl (lv_at hl 0 rfl) ?_
  refine xg_s4 (x := v 4) hx hb hts iX2 hown hK hP k22 rfl dX2_takesInSpeaker_1 ?_
  rcases sw_0_1 (v 4) with c9 | c9 | c9
  · have h := h.1 c9
    refine lv_lookup (off := 28) (tgt := 32) hx hb dX2_takesInSpeaker_4 (by decide) (by rw [c9]; decide) (by decide) ?_
    refine lv_aload_n hx hb dX2_takesInSpeaker_32 rfl (lv_at hl 0 rfl) ?_
    refine va_ldcS hx hb hown hE.2.2.2.2.2 dX2_takesInSpeaker_33 ?_
    refine lv_iload_n hx hb dX2_takesInSpeaker_35 rfl (lv_at hl 1 rfl) ?_
    refine lv_i2c (v := ((a0).toUInt32 % 65536).toInt32) hx hb dX2_takesInSpeaker_36 rfl ?_
    refine jV_i ⟨hx, hb, hml, hown, hts⟩ (c_J0_indexOf_0f7a4 l k t (((a0).toUInt32 % 65536).toInt32)) (cwV 1 hts gX2_takesInSpeaker_J0_indexOf_0f7a4 rfl rfl rfl (by decide +kernel) ⟨Nat.le_of_ble_eq_true rfl, Nat.le_of_ble_eq_true rfl⟩) hE hS (hE.recv hS) rfl hl.1 (rest := [.ref (q 3)]) rfl (Nat.le_of_ble_eq_true rfl) dX2_takesInSpeaker_37 (Nat.zero_le _) (Nat.zero_le _) (fun r9 e9 => ?_)
    obtain rfl := e9
    refine mV_i ⟨hx, hb, hml, hown, hts⟩ (c_X2_takesKind l D cI q _ _ _ _ _ _ h) (cwV 1 hts gX2_takesInSpeaker_X2_takesKind rfl rfl rfl (by decide +kernel) ⟨Nat.le_of_ble_eq_true rfl, Nat.le_of_ble_eq_true rfl⟩) hK hP hN hD hS hA (va_recv hK hP (ci := 2) (q0 := 3) rfl rfl) rfl hl.1 (rest := []) rfl (Nat.le_of_ble_eq_true rfl) dX2_takesInSpeaker_40 (Nat.zero_le _) (Nat.zero_le _) (fun r1 v2 f3 z4 h H locs hP hD hS => ?_)
    obtain ⟨h9, h⟩ := h
    exact mz_ret (v2, f3, z4) hx hb hr hlocks h9 h hK hP hD hS dX2_takesInSpeaker_43
  · have h := h.2.1 c9
    refine lv_lookup (off := 40) (tgt := 44) hx hb dX2_takesInSpeaker_4 (by decide) (by rw [c9]; decide) (by decide) ?_
    refine lv_aload_n hx hb dX2_takesInSpeaker_44 rfl (lv_at hl 0 rfl) ?_
    refine lv_iload_n hx hb dX2_takesInSpeaker_45 rfl (lv_at hl 1 rfl) ?_
    refine lv_bipush (v := (97 : Int32)) hx hb dX2_takesInSpeaker_46 (by decide) ?_
    refine lv_isub hx hb dX2_takesInSpeaker_48 ?_
    refine mV_i ⟨hx, hb, hml, hown, hts⟩ (c_X2_takesWant l D cI q _ _ _ _ _ _ h) (cwV 1 hts gX2_takesInSpeaker_X2_takesWant rfl rfl rfl (by decide +kernel) ⟨Nat.le_of_ble_eq_true rfl, Nat.le_of_ble_eq_true rfl⟩) hK hP hN hD hS hA (va_recv hK hP (ci := 2) (q0 := 3) rfl rfl) rfl hl.1 (rest := []) rfl (Nat.le_of_ble_eq_true rfl) dX2_takesInSpeaker_49 (Nat.zero_le _) (Nat.zero_le _) (fun r5 v6 f7 z8 h H locs hP hD hS => ?_)
    obtain ⟨h9, h⟩ := h
    exact mz_ret (v6, f7, z8) hx hb hr hlocks h9 h hK hP hD hS dX2_takesInSpeaker_52
  · have h := h.2.2 c9
    refine lv_lookup (off := 49) (tgt := 53) hx hb dX2_takesInSpeaker_4 (by decide) (lk_0_1 c9) (by decide) ?_
    refine lv_aload_n hx hb dX2_takesInSpeaker_53 rfl (lv_at hl 0 rfl) ?_
    refine lv_iload_n hx hb dX2_takesInSpeaker_54 rfl (lv_at hl 1 rfl) ?_
    refine mV_i ⟨hx, hb, hml, hown, hts⟩ (c_X2_takesNextSpeaker l D cI q _ _ _ _ _ _ h) (cwV 1 hts gX2_takesInSpeaker_X2_takesNextSpeaker rfl rfl rfl (by decide +kernel) ⟨Nat.le_of_ble_eq_true rfl, Nat.le_of_ble_eq_true rfl⟩) hK hP hN hD hS hA (va_recv hK hP (ci := 2) (q0 := 3) rfl rfl) rfl hl.1 (rest := []) rfl (Nat.le_of_ble_eq_true rfl) dX2_takesInSpeaker_55 (Nat.zero_le _) (Nat.zero_le _) (fun r9 v10 f11 z12 h H locs hP hD hS => ?_)
    obtain ⟨h9, h⟩ := h
    exact mz_ret (v10, f11, z12) hx hb hr hlocks h9 h hK hP hD hS dX2_takesInSpeaker_58
def wp_X2_takes (post : Int32 → (Nat → Int32) → (Nat → Nat → Int32) → Int64 → Prop) (v : Nat → Int32) (f : Nat → Nat → Int32) (z : Int64) (a0 : Int32) : Prop := (((4 : Int32) ≤ (v 3) → (wp_X2_takesInSpeaker (fun r1 v2 f3 z4 => (nb r1 ∧ post r1 v2 f3 z4)) v f z a0)) ∧ (¬ (4 : Int32) ≤ (v 3) → (wp_X2_takesInOpening (fun r5 v6 f7 z8 => (nb r5 ∧ post r5 v6 f7 z8)) v f z a0)))
def rmX2_takes : Room := { frames := 9, cells := 0, slots := 0, locals := 421 }
set_option maxHeartbeats 4000000 in
set_option maxRecDepth 100000 in
theorem c_X2_takes (l : Launch) (D : va_G) (cI : ClassId) (q : Nat → Nat) (sz : Nat) {k t : Nat} (post : Int32 → (Nat → Int32) → (Nat → Nat → Int32) → Int64 → Prop) (v : Nat → Int32) (f : Nat → Nat → Int32) (z : Int64) (a0 : Int32) (h : wp_X2_takes post v f z a0) : Met l yX2_takes wsX2_takes rmX2_takes (va_Pc [.ref (q 3), .int a0] (mPe k t D cI (wX cI q v f z) sz)) (mQi post D cI (wX cI q) (va_A (wX cI q v f z) sz)) 0 0 (va_A (wX cI q v f z) sz) := by
  refine Met.ofW (cc := cX2_takes) (maxL := 2) (ret := (some .boolean)) (by decide) rfl ?_
  intro p e s m args below meth c s₁ B hml hv
  obtain ⟨rfl, ⟨hsz, ⟨hP, hK, hN⟩, hD0⟩, hE⟩ := hv
  have hx := B.exec
  have hb := B.bytes
  have hr := B.returns
  have hts := atoms_spec (ws := wsX2_takes) B.pre
  have hown : s.vm.findClass RX2 = some m.cls := findClass_of_methodNamed B.named
  have hlocks : meth.locks = false := B.notSynchronized
  subst hsz
  have hD := hD0.self (sz := s.heap.size)
  generalize hAe : va_A (wX cI q v f z) s.heap.size = A at hD hE ⊢
  have hA : ∀ q : Nat, s.heap.size ≤ q → A q := fun q h => by rw [← hAe]; exact Or.inr h
  have hS : va_S A s.heap s.heap [] := va_S.rf
  have iX2 : ∀ w ∈ wsX20, w ∈ wsX2_takes := fun _ h9 => List.mem_cons_of_mem _ (List.mem_append_left _ (List.mem_append_right _ h9))
  have k18 := hts (.fieldLink RX2 18 "EndedByOthers$Reader" "opening" "I") (by decide +kernel)
  have hl := lv_entry ([.ref (q 3), .int a0]) (n := 2) (Nat.le_of_ble_eq_true rfl)
  rw [lg_entry_eq]
  generalize (lg_sl ([.ref (q 3), .int a0]) ++ List.replicate (2 - (lg_sl ([.ref (q 3), .int a0])).length) Slot.unset).toArray = ls at hl ⊢
  have hl : lv_has ls 2 [(0, .ref (q 3)), (1, .int a0)] := hl
  unfold wp_X2_takes at h
  refine lv_aload_n hx hb dX2_takes_0 rfl (lv_at hl 0 rfl) ?_
  refine xg_s3 (x := v 3) hx hb hts iX2 hown hK hP k18 rfl dX2_takes_1 ?_
  refine lv_iconst (v := (4 : Int32)) hx hb dX2_takes_4 (by decide) ?_
  refine lv_icmp_ge (tgt := 16) hx hb dX2_takes_5 (by decide) (fun c9 => ?_) (fun c9 => ?_)
  · have h := h.1 c9
    refine lv_aload_n hx hb dX2_takes_16 rfl (lv_at hl 0 rfl) ?_
    refine lv_iload_n hx hb dX2_takes_17 rfl (lv_at hl 1 rfl) ?_
    refine mV_ie ⟨hx, hb, hml, hown, hts⟩ (c_X2_takesInSpeaker l D cI q _ _ _ _ _ _ h) (cwV 1 hts gX2_takes_X2_takesInSpeaker rfl rfl rfl (by decide +kernel) ⟨Nat.le_of_ble_eq_true rfl, Nat.le_of_ble_eq_true rfl⟩) hK hP hN hD hS hA hE (va_recv hK hP (ci := 2) (q0 := 3) rfl rfl) rfl hl.1 (rest := []) rfl (Nat.le_of_ble_eq_true rfl) dX2_takes_18 (Nat.zero_le _) (Nat.zero_le _) (fun r1 v2 f3 z4 h H locs hP hD hS => ?_)
    obtain ⟨h9, h⟩ := h
    exact mz_ret (v2, f3, z4) hx hb hr hlocks h9 h hK hP hD hS dX2_takes_21
  · have h := h.2 c9
    refine lv_aload_n hx hb dX2_takes_8 rfl (lv_at hl 0 rfl) ?_
    refine lv_iload_n hx hb dX2_takes_9 rfl (lv_at hl 1 rfl) ?_
    refine mV_i ⟨hx, hb, hml, hown, hts⟩ (c_X2_takesInOpening l D cI q _ _ _ _ _ _ h) (cwV 1 hts gX2_takes_X2_takesInOpening rfl rfl rfl (by decide +kernel) ⟨Nat.le_of_ble_eq_true rfl, Nat.le_of_ble_eq_true rfl⟩) hK hP hN hD hS hA (va_recv hK hP (ci := 2) (q0 := 3) rfl rfl) rfl hl.1 (rest := []) rfl (Nat.le_of_ble_eq_true rfl) dX2_takes_10 (Nat.zero_le _) (Nat.zero_le _) (fun r5 v6 f7 z8 h H locs hP hD hS => ?_)
    refine lv_goto (tgt := 21) hx hb dX2_takes_13 (by decide) ?_
    obtain ⟨h9, h⟩ := h
    exact mz_ret (v6, f7, z8) hx hb hr hlocks h9 h hK hP hD hS dX2_takes_21
def wp_X2_read_B18 (post : Int32 → (Nat → Int32) → (Nat → Nat → Int32) → Int64 → Prop) : Nat → (Nat → Int32) → (Nat → Nat → Int32) → Int64 → Int32 → Prop
  | 0, _, _, _, _ => False
  | n18 + 1, v, f, z, x2 => (((v 2) ≤ x2 → post (v 2) v f z) ∧ (¬ (v 2) ≤ x2 → (vp_in x2 30 ∧ (wp_X2_takes (fun r1 v2 f3 z4 => ((r1 = 0 → post x2 v2 f3 z4) ∧ (¬ r1 = 0 → wp_X2_read_B18 post n18 v2 f3 z4 (x2 + 1)))) v f z (f 0 (x2).toNatClampNeg)))))
def wp_X2_read (post : Int32 → (Nat → Int32) → (Nat → Nat → Int32) → Int64 → Prop) (v : Nat → Int32) (f : Nat → Nat → Int32) (z : Int64) : Prop := (wp_X3_clear (fun v6 f7 z8 => (wp_X2_startPart (fun v10 f11 z12 => (∃ j9 : Nat, wp_X2_read_B18 post j9 v10 f11 z12 (0 : Int32))) (upd v6 3 (0 : Int32)) f7 z8)) v f z)
def rmX2_read : Room := { frames := 10, cells := 0, slots := 0, locals := 442 }
set_option maxHeartbeats 4000000 in
set_option maxRecDepth 100000 in
theorem c_X2_read (l : Launch) (D : va_G) (cI : ClassId) (q : Nat → Nat) (sz : Nat) {k t : Nat} (post : Int32 → (Nat → Int32) → (Nat → Nat → Int32) → Int64 → Prop) (v : Nat → Int32) (f : Nat → Nat → Int32) (z : Int64) (h : wp_X2_read post v f z) : Met l yX2_read wsX2_read rmX2_read (va_Pc [.ref (q 3), .ref (q 1)] (mPe k t D cI (wX cI q v f z) sz)) (mQi post D cI (wX cI q) (va_A (wX cI q v f z) sz)) 0 0 (va_A (wX cI q v f z) sz) := by
  refine Met.ofW (cc := cX2_read) (maxL := 3) (ret := (some .int)) (by decide) rfl ?_
  intro p e s m args below meth c s₁ B hml hv
  obtain ⟨rfl, ⟨hsz, ⟨hP, hK, hN⟩, hD0⟩, hE⟩ := hv
  have hx := B.exec
  have hb := B.bytes
  have hr := B.returns
  have hts := atoms_spec (ws := wsX2_read) B.pre
  have hown : s.vm.findClass RX2 = some m.cls := findClass_of_methodNamed B.named
  have hlocks : meth.locks = false := B.notSynchronized
  subst hsz
  have hD := hD0.self (sz := s.heap.size)
  generalize hAe : va_A (wX cI q v f z) s.heap.size = A at hD hE ⊢
  have hA : ∀ q : Nat, s.heap.size ≤ q → A q := fun q h => by rw [← hAe]; exact Or.inr h
  have hS : va_S A s.heap s.heap [] := va_S.rf
  have iX1 : ∀ w ∈ wsX10, w ∈ wsX2_read := fun _ h9 => List.mem_cons_of_mem _ (List.mem_append_left _ (List.mem_append_right _ h9))
  have iX2 : ∀ w ∈ wsX20, w ∈ wsX2_read := fun _ h9 => List.mem_cons_of_mem _ (List.mem_append_left _ (List.mem_append_left _ (List.mem_append_right _ h9)))
  have k12 := hts (.fieldLink RX2 12 "EndedByOthers$Reader" "draft" "LEndedByOthers$Room;") (by decide +kernel)
  have k18 := hts (.fieldLink RX2 18 "EndedByOthers$Reader" "opening" "I") (by decide +kernel)
  have k34 := hts (.fieldLink RX2 34 "EndedByOthers$Page" "length" "I") (by decide +kernel)
  have k39 := hts (.fieldLink RX2 39 "EndedByOthers$Page" "codes" "[I") (by decide +kernel)
  have hl := lv_entry ([.ref (q 3), .ref (q 1)]) (n := 3) (Nat.le_of_ble_eq_true rfl)
  rw [lg_entry_eq]
  generalize (lg_sl ([.ref (q 3), .ref (q 1)]) ++ List.replicate (3 - (lg_sl ([.ref (q 3), .ref (q 1)])).length) Slot.unset).toArray = ls at hl ⊢
  have hl : lv_has ls 3 [(0, .ref (q 3)), (1, .ref (q 1))] := hl
  unfold wp_X2_read at h
  have B18 : ∀ (n18 : Nat) (v : Nat → Int32) (f : Nat → Nat → Int32) (z : Int64) (x2 : Int32), wp_X2_read_B18 post n18 v f z x2 → ∀ (H : Heap) (locs : List Loc), va_P D vwCl (wX cI q v f z) H → va_D A (wX cI q v f z) → va_S A s.heap H locs → ∀ (ls : Array Slot), lv_has ls 3 [(0, .ref (q 3)), (1, .ref (q 1)), (2, .int x2)] → W p l e (headSpec wsX2_read rmX2_read).room s m ([.ref (q 3), .ref (q 1)] : List Value).toArray below meth c H locs 0 0 (MQ below (mQi post D cI (wX cI q) A) ([.ref (q 3), .ref (q 1)] : List Value).toArray s 0 0 A) (F0 m 18 ls []) := by
    intro n18
    induction n18 with
    | zero =>
      intro v f z x2 h
      exact False.elim h
    | succ n18 ih18 =>
      intro v f z x2 h H locs hP hD hS ls hl
      rw [wp_X2_read_B18] at h
      refine lv_iload_n hx hb dX2_read_18 rfl (lv_at hl 2 rfl) ?_
      refine lv_aload_n hx hb dX2_read_19 rfl (lv_at hl 1 rfl) ?_
      refine xg_s2 (x := v 2) hx hb hts iX1 hown hK hP k34 rfl dX2_read_20 ?_
      refine lv_icmp_ge (tgt := 47) hx hb dX2_read_23 (by decide) (fun c9 => ?_) (fun c9 => ?_)
      · have h := h.1 c9
        refine lv_aload_n hx hb dX2_read_47 rfl (lv_at hl 1 rfl) ?_
        refine xg_s2 (x := v 2) hx hb hts iX1 hown hK hP k34 rfl dX2_read_48 ?_
        exact mi_ret (v, f, z) hx hb hr hlocks h hK hP hD hS dX2_read_51
      · have h := h.2 c9
        refine lv_aload_n hx hb dX2_read_26 rfl (lv_at hl 0 rfl) ?_
        refine lv_aload_n hx hb dX2_read_27 rfl (lv_at hl 1 rfl) ?_
        refine xg_r1_2 hx hb hts iX1 hown hK hP k39 dX2_read_28 ?_
        refine lv_iload_n hx hb dX2_read_31 rfl (lv_at hl 2 rfl) ?_
        obtain ⟨h9, h⟩ := h
        refine xal_0 (x := f 0 (x2).toNatClampNeg) hx hb hK hP h9 rfl dX2_read_32 ?_
        refine mV_ie ⟨hx, hb, hml, hown, hts⟩ (c_X2_takes l D cI q _ _ _ _ _ _ h) (cwV 1 hts gX2_read_X2_takes rfl rfl rfl (by decide +kernel) ⟨Nat.le_of_ble_eq_true rfl, Nat.le_of_ble_eq_true rfl⟩) hK hP hN hD hS hA hE (va_recv hK hP (ci := 2) (q0 := 3) rfl rfl) rfl hl.1 (rest := []) rfl (Nat.le_of_ble_eq_true rfl) dX2_read_33 (Nat.zero_le _) (Nat.zero_le _) (fun r1 v2 f3 z4 h H locs hP hD hS => ?_)
        refine lv_if_ne (tgt := 41) hx hb dX2_read_36 (by decide) (fun c9 => ?_) (fun c9 => ?_)
        · have h := h.2 c9
          refine lv_iinc (v := x2 + 1) (lv' := [(2, .int (x2 + 1)), (0, .ref (q 3)), (1, .ref (q 1))]) hx hb dX2_read_41 hl (k := 2) rfl rfl (by decide) rfl (fun ls hl => ?_)
          refine lv_goto (tgt := 18) hx hb dX2_read_44 (by decide) ?_
          exact ih18 _ _ _ _ h _ _ hP hD hS ls (lv_sub hl [1, 2, 0] rfl)
        · have h := h.1 c9
          refine lv_iload_n hx hb dX2_read_39 rfl (lv_at hl 2 rfl) ?_
          exact mi_ret (v2, f3, z4) hx hb hr hlocks h hK hP hD hS dX2_read_40
  refine lv_aload_n hx hb dX2_read_0 rfl (lv_at hl 0 rfl) ?_
  refine xg_r3_4 hx hb hts iX2 hown hK hP k12 dX2_read_1 ?_
  refine mV_v ⟨hx, hb, hml, hown, hts⟩ (c_X3_clear l D cI q _ _ _ _ _ h) (cwV 0 hts gX2_read_X3_clear rfl rfl rfl (by decide +kernel) ⟨Nat.le_of_ble_eq_true rfl, Nat.le_of_ble_eq_true rfl⟩) hK hP hN hD hS hA (va_recv hK hP (ci := 3) (q0 := 4) rfl rfl) rfl hl.1 (rest := []) rfl (Nat.le_of_ble_eq_true rfl) dX2_read_4 (Nat.zero_le _) (Nat.zero_le _) (fun v6 f7 z8 h H locs hP hD hS => ?_)
  refine lv_aload_n hx hb dX2_read_7 rfl (lv_at hl 0 rfl) ?_
  refine lv_iconst (v := (0 : Int32)) hx hb dX2_read_8 (by decide) ?_
  refine xp_s3 hx hb hts iX2 hown hK hP hD hS k18 dX2_read_9 (fun H locs hP hD hS => ?_)
  refine lv_aload_n hx hb dX2_read_12 rfl (lv_at hl 0 rfl) ?_
  refine mV_v ⟨hx, hb, hml, hown, hts⟩ (c_X2_startPart l D cI q _ _ _ _ _ h) (cwV 0 hts gX2_read_X2_startPart rfl rfl rfl (by decide +kernel) ⟨Nat.le_of_ble_eq_true rfl, Nat.le_of_ble_eq_true rfl⟩) hK hP hN hD hS hA (va_recv hK hP (ci := 2) (q0 := 3) rfl rfl) rfl hl.1 (rest := []) rfl (Nat.le_of_ble_eq_true rfl) dX2_read_13 (Nat.zero_le _) (Nat.zero_le _) (fun v10 f11 z12 h H locs hP hD hS => ?_)
  refine lv_iconst (v := (0 : Int32)) hx hb dX2_read_16 (by decide) ?_
  refine lv_istore_n (lv' := [(2, .int (0 : Int32)), (0, .ref (q 3)), (1, .ref (q 1))]) hx hb dX2_read_17 rfl hl (by decide) rfl (fun ls hl => ?_)
  obtain ⟨n9, h⟩ := h
  exact B18 n9 _ _ _ _ h _ _ hP hD hS ls (lv_sub hl [1, 2, 0] rfl)
