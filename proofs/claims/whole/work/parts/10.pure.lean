def wp_X6_mixed (post : Int64 → Prop) (a0 : Int64) (a1 : Int64) : Prop := post (((31 : Int64) * a0) + a1)
def rmX6_mixed : Room := { frames := 0, cells := 0, slots := 0, locals := 0 }
set_option maxHeartbeats 4000000 in
set_option maxRecDepth 100000 in
theorem c_X6_mixed (l : Launch) (D : va_G) (cI : ClassId) (post : Int64 → Prop) (a0 : Int64) (a1 : Int64) (h : wp_X6_mixed post a0 a1) : Met l yX6_mixed wsX6_mixed rmX6_mixed (va_Pc [.long a0, .long a1] (rP D cI [])) (sQl post) 0 0 (fun _ => False) := by
  refine Met.ofW (cc := cX6_mixed) (maxL := 4) (ret := (some .long)) (by decide) rfl ?_
  intro p e s m args below meth c s₁ B hml hv
  obtain ⟨rfl, hP, hK, hN⟩ := hv
  have hx := B.exec
  have hb := B.bytes
  have hr := B.returns
  have hts := atoms_spec (ws := wsX6_mixed) B.pre
  have hown : s.vm.findClass RX6 = some m.cls := findClass_of_methodNamed B.named
  have hlocks : meth.locks = false := B.notSynchronized
  have hl := lv_entry ([.long a0, .long a1]) (n := 4) (Nat.le_of_ble_eq_true rfl)
  rw [lg_entry_eq]
  generalize (lg_sl ([.long a0, .long a1]) ++ List.replicate (4 - (lg_sl ([.long a0, .long a1])).length) Slot.unset).toArray = ls at hl ⊢
  have hl : lv_has ls 4 [(0, .long a0), (2, .long a1)] := hl
  unfold wp_X6_mixed at h
  refine lv_ldc2 (v := (31 : Int64)) hx hb hown (hts (.constantLong RX6 237 (31)) (by decide +kernel)) dX6_mixed_0 ?_
  refine lv_lload_n hx hb dX6_mixed_3 rfl (lv_at hl 0 rfl) ?_
  refine lv_lmul hx hb dX6_mixed_4 ?_
  refine lv_lload_n hx hb dX6_mixed_5 rfl (lv_at hl 1 rfl) ?_
  refine lv_ladd hx hb dX6_mixed_6 ?_
  exact rl_ret hx hb hr hlocks h dX6_mixed_7
def wp_X6_isOpening (post : Int32 → Prop) (a0 : Int32) : Prop := ((a0 < 0 → post (0 : Int32)) ∧ (¬ a0 < 0 → (((4 : Int32) ≤ a0 → post (0 : Int32)) ∧ (¬ (4 : Int32) ≤ a0 → post (1 : Int32)))))
def rmX6_isOpening : Room := { frames := 0, cells := 0, slots := 0, locals := 0 }
set_option maxHeartbeats 4000000 in
set_option maxRecDepth 100000 in
theorem c_X6_isOpening (l : Launch) (D : va_G) (cI : ClassId) (post : Int32 → Prop) (a0 : Int32) (h : wp_X6_isOpening post a0) : Met l yX6_isOpening wsX6_isOpening rmX6_isOpening (va_Pc [.int a0] (rP D cI [])) (sQ post) 0 0 (fun _ => False) := by
  refine Met.ofW (cc := cX6_isOpening) (maxL := 1) (ret := (some .boolean)) (by decide) rfl ?_
  intro p e s m args below meth c s₁ B hml hv
  obtain ⟨rfl, hP, hK, hN⟩ := hv
  have hx := B.exec
  have hb := B.bytes
  have hr := B.returns
  have hts := atoms_spec (ws := wsX6_isOpening) B.pre
  have hown : s.vm.findClass RX6 = some m.cls := findClass_of_methodNamed B.named
  have hlocks : meth.locks = false := B.notSynchronized
  have hl := lv_entry ([.int a0]) (n := 1) (Nat.le_of_ble_eq_true rfl)
  rw [lg_entry_eq]
  generalize (lg_sl ([.int a0]) ++ List.replicate (1 - (lg_sl ([.int a0])).length) Slot.unset).toArray = ls at hl ⊢
  have hl : lv_has ls 1 [(0, .int a0)] := hl
  unfold wp_X6_isOpening at h
  refine lv_iload_n hx hb dX6_isOpening_0 rfl (lv_at hl 0 rfl) ?_
  refine lv_if_lt (tgt := 13) hx hb dX6_isOpening_1 (by decide) (fun c9 => ?_) (fun c9 => ?_)
  · have h := h.1 c9
    refine lv_iconst (v := (0 : Int32)) hx hb dX6_isOpening_13 (by decide) ?_
    exact rz_ret hx hb hr hlocks rfl h dX6_isOpening_14
  · have h := h.2 c9
    refine lv_iload_n hx hb dX6_isOpening_4 rfl (lv_at hl 0 rfl) ?_
    refine lv_iconst (v := (4 : Int32)) hx hb dX6_isOpening_5 (by decide) ?_
    refine lv_icmp_ge (tgt := 13) hx hb dX6_isOpening_6 (by decide) (fun c9 => ?_) (fun c9 => ?_)
    · have h := h.1 c9
      refine lv_iconst (v := (0 : Int32)) hx hb dX6_isOpening_13 (by decide) ?_
      exact rz_ret hx hb hr hlocks rfl h dX6_isOpening_14
    · have h := h.2 c9
      refine lv_iconst (v := (1 : Int32)) hx hb dX6_isOpening_9 (by decide) ?_
      refine lv_goto (tgt := 14) hx hb dX6_isOpening_10 (by decide) ?_
      exact rz_ret hx hb hr hlocks rfl h dX6_isOpening_14
def wp_X6_isEnding (post : Int32 → Prop) (a0 : Int32) : Prop := ((a0 < 0 → post (0 : Int32)) ∧ (¬ a0 < 0 → (((6 : Int32) ≤ a0 → post (0 : Int32)) ∧ (¬ (6 : Int32) ≤ a0 → post (1 : Int32)))))
def rmX6_isEnding : Room := { frames := 0, cells := 0, slots := 0, locals := 0 }
set_option maxHeartbeats 4000000 in
set_option maxRecDepth 100000 in
theorem c_X6_isEnding (l : Launch) (D : va_G) (cI : ClassId) (post : Int32 → Prop) (a0 : Int32) (h : wp_X6_isEnding post a0) : Met l yX6_isEnding wsX6_isEnding rmX6_isEnding (va_Pc [.int a0] (rP D cI [])) (sQ post) 0 0 (fun _ => False) := by
  refine Met.ofW (cc := cX6_isEnding) (maxL := 1) (ret := (some .boolean)) (by decide) rfl ?_
  intro p e s m args below meth c s₁ B hml hv
  obtain ⟨rfl, hP, hK, hN⟩ := hv
  have hx := B.exec
  have hb := B.bytes
  have hr := B.returns
  have hts := atoms_spec (ws := wsX6_isEnding) B.pre
  have hown : s.vm.findClass RX6 = some m.cls := findClass_of_methodNamed B.named
  have hlocks : meth.locks = false := B.notSynchronized
  have hl := lv_entry ([.int a0]) (n := 1) (Nat.le_of_ble_eq_true rfl)
  rw [lg_entry_eq]
  generalize (lg_sl ([.int a0]) ++ List.replicate (1 - (lg_sl ([.int a0])).length) Slot.unset).toArray = ls at hl ⊢
  have hl : lv_has ls 1 [(0, .int a0)] := hl
  unfold wp_X6_isEnding at h
  refine lv_iload_n hx hb dX6_isEnding_0 rfl (lv_at hl 0 rfl) ?_
  refine lv_if_lt (tgt := 14) hx hb dX6_isEnding_1 (by decide) (fun c9 => ?_) (fun c9 => ?_)
  · have h := h.1 c9
    refine lv_iconst (v := (0 : Int32)) hx hb dX6_isEnding_14 (by decide) ?_
    exact rz_ret hx hb hr hlocks rfl h dX6_isEnding_15
  · have h := h.2 c9
    refine lv_iload_n hx hb dX6_isEnding_4 rfl (lv_at hl 0 rfl) ?_
    refine lv_bipush (v := (6 : Int32)) hx hb dX6_isEnding_5 (by decide) ?_
    refine lv_icmp_ge (tgt := 14) hx hb dX6_isEnding_7 (by decide) (fun c9 => ?_) (fun c9 => ?_)
    · have h := h.1 c9
      refine lv_iconst (v := (0 : Int32)) hx hb dX6_isEnding_14 (by decide) ?_
      exact rz_ret hx hb hr hlocks rfl h dX6_isEnding_15
    · have h := h.2 c9
      refine lv_iconst (v := (1 : Int32)) hx hb dX6_isEnding_10 (by decide) ?_
      refine lv_goto (tgt := 15) hx hb dX6_isEnding_11 (by decide) ?_
      exact rz_ret hx hb hr hlocks rfl h dX6_isEnding_15
def wp_X6_isOfKind (post : Int32 → Prop) (a0 : Int32) (a1 : Int32) : Prop := ((a1 = 0 → post (1 : Int32)) ∧ (¬ a1 = 0 → ((a1 = a0 → post (1 : Int32)) ∧ (¬ a1 = a0 → ((a1 = (3 : Int32) → ((a0 = (4 : Int32) → post (1 : Int32)) ∧ (¬ a0 = (4 : Int32) → post (0 : Int32)))) ∧ (¬ a1 = (3 : Int32) → post (0 : Int32)))))))
def rmX6_isOfKind : Room := { frames := 0, cells := 0, slots := 0, locals := 0 }
set_option maxHeartbeats 4000000 in
set_option maxRecDepth 100000 in
theorem c_X6_isOfKind (l : Launch) (D : va_G) (cI : ClassId) (post : Int32 → Prop) (a0 : Int32) (a1 : Int32) (h : wp_X6_isOfKind post a0 a1) : Met l yX6_isOfKind wsX6_isOfKind rmX6_isOfKind (va_Pc [.int a0, .int a1] (rP D cI [])) (sQ post) 0 0 (fun _ => False) := by
  refine Met.ofW (cc := cX6_isOfKind) (maxL := 2) (ret := (some .boolean)) (by decide) rfl ?_
  intro p e s m args below meth c s₁ B hml hv
  obtain ⟨rfl, hP, hK, hN⟩ := hv
  have hx := B.exec
  have hb := B.bytes
  have hr := B.returns
  have hts := atoms_spec (ws := wsX6_isOfKind) B.pre
  have hown : s.vm.findClass RX6 = some m.cls := findClass_of_methodNamed B.named
  have hlocks : meth.locks = false := B.notSynchronized
  have hl := lv_entry ([.int a0, .int a1]) (n := 2) (Nat.le_of_ble_eq_true rfl)
  rw [lg_entry_eq]
  generalize (lg_sl ([.int a0, .int a1]) ++ List.replicate (2 - (lg_sl ([.int a0, .int a1])).length) Slot.unset).toArray = ls at hl ⊢
  have hl : lv_has ls 2 [(0, .int a0), (1, .int a1)] := hl
  unfold wp_X6_isOfKind at h
  refine lv_iload_n hx hb dX6_isOfKind_0 rfl (lv_at hl 1 rfl) ?_
  refine lv_if_eq (tgt := 19) hx hb dX6_isOfKind_1 (by decide) (fun c9 => ?_) (fun c9 => ?_)
  · have h := h.1 c9
    refine lv_iconst (v := (1 : Int32)) hx hb dX6_isOfKind_19 (by decide) ?_
    refine lv_goto (tgt := 24) hx hb dX6_isOfKind_20 (by decide) ?_
    exact rz_ret hx hb hr hlocks rfl h dX6_isOfKind_24
  · have h := h.2 c9
    refine lv_iload_n hx hb dX6_isOfKind_4 rfl (lv_at hl 1 rfl) ?_
    refine lv_iload_n hx hb dX6_isOfKind_5 rfl (lv_at hl 0 rfl) ?_
    refine lv_icmp_eq (tgt := 19) hx hb dX6_isOfKind_6 (by decide) (fun c9 => ?_) (fun c9 => ?_)
    · have h := h.1 c9
      refine lv_iconst (v := (1 : Int32)) hx hb dX6_isOfKind_19 (by decide) ?_
      refine lv_goto (tgt := 24) hx hb dX6_isOfKind_20 (by decide) ?_
      exact rz_ret hx hb hr hlocks rfl h dX6_isOfKind_24
    · have h := h.2 c9
      refine lv_iload_n hx hb dX6_isOfKind_9 rfl (lv_at hl 1 rfl) ?_
      refine lv_iconst (v := (3 : Int32)) hx hb dX6_isOfKind_10 (by decide) ?_
      refine lv_icmp_ne (tgt := 23) hx hb dX6_isOfKind_11 (by decide) (fun c9 => ?_) (fun c9 => ?_)
      · have h := h.2 c9
        refine lv_iconst (v := (0 : Int32)) hx hb dX6_isOfKind_23 (by decide) ?_
        exact rz_ret hx hb hr hlocks rfl h dX6_isOfKind_24
      · have h := h.1 c9
        refine lv_iload_n hx hb dX6_isOfKind_14 rfl (lv_at hl 0 rfl) ?_
        refine lv_iconst (v := (4 : Int32)) hx hb dX6_isOfKind_15 (by decide) ?_
        refine lv_icmp_ne (tgt := 23) hx hb dX6_isOfKind_16 (by decide) (fun c9 => ?_) (fun c9 => ?_)
        · have h := h.2 c9
          refine lv_iconst (v := (0 : Int32)) hx hb dX6_isOfKind_23 (by decide) ?_
          exact rz_ret hx hb hr hlocks rfl h dX6_isOfKind_24
        · have h := h.1 c9
          refine lv_iconst (v := (1 : Int32)) hx hb dX6_isOfKind_19 (by decide) ?_
          refine lv_goto (tgt := 24) hx hb dX6_isOfKind_20 (by decide) ?_
          exact rz_ret hx hb hr hlocks rfl h dX6_isOfKind_24
def wp_X6_greatest_B2 (post : Int32 → Prop) : Nat → Int32 → Int32 → Prop
  | 0, _, _ => False
  | n2 + 1, x0, x1 => ((x1 < 0 → post (-1 : Int32)) ∧ (¬ x1 < 0 → (((x0 &&& ((1 : Int32) <<< (x1 &&& 31))) = 0 → wp_X6_greatest_B2 post n2 x0 (x1 + (-1))) ∧ (¬ (x0 &&& ((1 : Int32) <<< (x1 &&& 31))) = 0 → post x1))))
def wp_X6_greatest (post : Int32 → Prop) (a0 : Int32) : Prop := (∃ j9 : Nat, wp_X6_greatest_B2 post j9 a0 (5 : Int32))
def rmX6_greatest : Room := { frames := 0, cells := 0, slots := 0, locals := 0 }
set_option maxHeartbeats 4000000 in
set_option maxRecDepth 100000 in
theorem c_X6_greatest (l : Launch) (D : va_G) (cI : ClassId) (post : Int32 → Prop) (a0 : Int32) (h : wp_X6_greatest post a0) : Met l yX6_greatest wsX6_greatest rmX6_greatest (va_Pc [.int a0] (rP D cI [])) (sQ post) 0 0 (fun _ => False) := by
  refine Met.ofW (cc := cX6_greatest) (maxL := 2) (ret := (some .int)) (by decide) rfl ?_
  intro p e s m args below meth c s₁ B hml hv
  obtain ⟨rfl, hP, hK, hN⟩ := hv
  have hx := B.exec
  have hb := B.bytes
  have hr := B.returns
  have hts := atoms_spec (ws := wsX6_greatest) B.pre
  have hown : s.vm.findClass RX6 = some m.cls := findClass_of_methodNamed B.named
  have hlocks : meth.locks = false := B.notSynchronized
  have hl := lv_entry ([.int a0]) (n := 2) (Nat.le_of_ble_eq_true rfl)
  rw [lg_entry_eq]
  generalize (lg_sl ([.int a0]) ++ List.replicate (2 - (lg_sl ([.int a0])).length) Slot.unset).toArray = ls at hl ⊢
  have hl : lv_has ls 2 [(0, .int a0)] := hl
  unfold wp_X6_greatest at h
  have B2 : ∀ (n2 : Nat) (x0 : Int32) (x1 : Int32), wp_X6_greatest_B2 post n2 x0 x1 → ∀ (ls : Array Slot), lv_has ls 2 [(0, .int x0), (1, .int x1)] → W p l e (headSpec wsX6_greatest rmX6_greatest).room s m ([.int a0] : List Value).toArray below meth c s.heap [] 0 0 (MQ below (sQ post) ([.int a0] : List Value).toArray s 0 0 (fun _ => False)) (F0 m 2 ls []) := by
    intro n2
    induction n2 with
    | zero =>
      intro x0 x1 h
      exact False.elim h
    | succ n2 ih2 =>
      intro x0 x1 h ls hl
      rw [wp_X6_greatest_B2] at h
      refine lv_iload_n hx hb dX6_greatest_2 rfl (lv_at hl 1 rfl) ?_
      refine lv_if_lt (tgt := 22) hx hb dX6_greatest_3 (by decide) (fun c9 => ?_) (fun c9 => ?_)
      · have h := h.1 c9
        refine lv_iconst (v := (-1 : Int32)) hx hb dX6_greatest_22 (by decide) ?_
        exact ri_ret hx hb hr hlocks h dX6_greatest_23
      · have h := h.2 c9
        refine lv_iload_n hx hb dX6_greatest_6 rfl (lv_at hl 0 rfl) ?_
        refine lv_iconst (v := (1 : Int32)) hx hb dX6_greatest_7 (by decide) ?_
        refine lv_iload_n hx hb dX6_greatest_8 rfl (lv_at hl 1 rfl) ?_
        refine lv_ishl hx hb dX6_greatest_9 ?_
        refine lv_iand hx hb dX6_greatest_10 ?_
        refine lv_if_eq (tgt := 16) hx hb dX6_greatest_11 (by decide) (fun c9 => ?_) (fun c9 => ?_)
        · have h := h.1 c9
          refine lv_iinc (v := x1 + (-1)) (lv' := [(1, .int (x1 + (-1))), (0, .int x0)]) hx hb dX6_greatest_16 hl (k := 1) rfl rfl (by decide) rfl (fun ls hl => ?_)
          refine lv_goto (tgt := 2) hx hb dX6_greatest_19 (by decide) ?_
          exact ih2 _ _ h ls (lv_sub hl [1, 0] rfl)
        · have h := h.2 c9
          refine lv_iload_n hx hb dX6_greatest_14 rfl (lv_at hl 1 rfl) ?_
          exact ri_ret hx hb hr hlocks h dX6_greatest_15
  refine lv_iconst (v := (5 : Int32)) hx hb dX6_greatest_0 (by decide) ?_
  refine lv_istore_n (lv' := [(1, .int (5 : Int32)), (0, .int a0)]) hx hb dX6_greatest_1 rfl hl (by decide) rfl (fun ls hl => ?_)
  obtain ⟨n9, h⟩ := h
  exact B2 n9 _ _ h ls (lv_sub hl [1, 0] rfl)
def wp_X6_has (post : Int32 → Prop) (a0 : Int32) (a1 : Int32) : Prop := (((a0 &&& ((1 : Int32) <<< (a1 &&& 31))) = 0 → post (0 : Int32)) ∧ (¬ (a0 &&& ((1 : Int32) <<< (a1 &&& 31))) = 0 → post (1 : Int32)))
def rmX6_has : Room := { frames := 0, cells := 0, slots := 0, locals := 0 }
set_option maxHeartbeats 4000000 in
set_option maxRecDepth 100000 in
theorem c_X6_has (l : Launch) (D : va_G) (cI : ClassId) (post : Int32 → Prop) (a0 : Int32) (a1 : Int32) (h : wp_X6_has post a0 a1) : Met l yX6_has wsX6_has rmX6_has (va_Pc [.int a0, .int a1] (rP D cI [])) (sQ post) 0 0 (fun _ => False) := by
  refine Met.ofW (cc := cX6_has) (maxL := 2) (ret := (some .boolean)) (by decide) rfl ?_
  intro p e s m args below meth c s₁ B hml hv
  obtain ⟨rfl, hP, hK, hN⟩ := hv
  have hx := B.exec
  have hb := B.bytes
  have hr := B.returns
  have hts := atoms_spec (ws := wsX6_has) B.pre
  have hown : s.vm.findClass RX6 = some m.cls := findClass_of_methodNamed B.named
  have hlocks : meth.locks = false := B.notSynchronized
  have hl := lv_entry ([.int a0, .int a1]) (n := 2) (Nat.le_of_ble_eq_true rfl)
  rw [lg_entry_eq]
  generalize (lg_sl ([.int a0, .int a1]) ++ List.replicate (2 - (lg_sl ([.int a0, .int a1])).length) Slot.unset).toArray = ls at hl ⊢
  have hl : lv_has ls 2 [(0, .int a0), (1, .int a1)] := hl
  unfold wp_X6_has at h
  refine lv_iload_n hx hb dX6_has_0 rfl (lv_at hl 0 rfl) ?_
  refine lv_iconst (v := (1 : Int32)) hx hb dX6_has_1 (by decide) ?_
  refine lv_iload_n hx hb dX6_has_2 rfl (lv_at hl 1 rfl) ?_
  refine lv_ishl hx hb dX6_has_3 ?_
  refine lv_iand hx hb dX6_has_4 ?_
  refine lv_if_eq (tgt := 12) hx hb dX6_has_5 (by decide) (fun c9 => ?_) (fun c9 => ?_)
  · have h := h.1 c9
    refine lv_iconst (v := (0 : Int32)) hx hb dX6_has_12 (by decide) ?_
    exact rz_ret hx hb hr hlocks rfl h dX6_has_13
  · have h := h.2 c9
    refine lv_iconst (v := (1 : Int32)) hx hb dX6_has_8 (by decide) ?_
    refine lv_goto (tgt := 13) hx hb dX6_has_9 (by decide) ?_
    exact rz_ret hx hb hr hlocks rfl h dX6_has_13
def wp_X6_least_B2 (post : Int32 → Prop) : Nat → Int32 → Int32 → Prop
  | 0, _, _ => False
  | n2 + 1, x0, x1 => (((6 : Int32) ≤ x1 → post (-1 : Int32)) ∧ (¬ (6 : Int32) ≤ x1 → (((x0 &&& ((1 : Int32) <<< (x1 &&& 31))) = 0 → wp_X6_least_B2 post n2 x0 (x1 + 1)) ∧ (¬ (x0 &&& ((1 : Int32) <<< (x1 &&& 31))) = 0 → post x1))))
def wp_X6_least (post : Int32 → Prop) (a0 : Int32) : Prop := (∃ j9 : Nat, wp_X6_least_B2 post j9 a0 (0 : Int32))
def rmX6_least : Room := { frames := 0, cells := 0, slots := 0, locals := 0 }
set_option maxHeartbeats 4000000 in
set_option maxRecDepth 100000 in
theorem c_X6_least (l : Launch) (D : va_G) (cI : ClassId) (post : Int32 → Prop) (a0 : Int32) (h : wp_X6_least post a0) : Met l yX6_least wsX6_least rmX6_least (va_Pc [.int a0] (rP D cI [])) (sQ post) 0 0 (fun _ => False) := by
  refine Met.ofW (cc := cX6_least) (maxL := 2) (ret := (some .int)) (by decide) rfl ?_
  intro p e s m args below meth c s₁ B hml hv
  obtain ⟨rfl, hP, hK, hN⟩ := hv
  have hx := B.exec
  have hb := B.bytes
  have hr := B.returns
  have hts := atoms_spec (ws := wsX6_least) B.pre
  have hown : s.vm.findClass RX6 = some m.cls := findClass_of_methodNamed B.named
  have hlocks : meth.locks = false := B.notSynchronized
  have hl := lv_entry ([.int a0]) (n := 2) (Nat.le_of_ble_eq_true rfl)
  rw [lg_entry_eq]
  generalize (lg_sl ([.int a0]) ++ List.replicate (2 - (lg_sl ([.int a0])).length) Slot.unset).toArray = ls at hl ⊢
  have hl : lv_has ls 2 [(0, .int a0)] := hl
  unfold wp_X6_least at h
  have B2 : ∀ (n2 : Nat) (x0 : Int32) (x1 : Int32), wp_X6_least_B2 post n2 x0 x1 → ∀ (ls : Array Slot), lv_has ls 2 [(0, .int x0), (1, .int x1)] → W p l e (headSpec wsX6_least rmX6_least).room s m ([.int a0] : List Value).toArray below meth c s.heap [] 0 0 (MQ below (sQ post) ([.int a0] : List Value).toArray s 0 0 (fun _ => False)) (F0 m 2 ls []) := by
    intro n2
    induction n2 with
    | zero =>
      intro x0 x1 h
      exact False.elim h
    | succ n2 ih2 =>
      intro x0 x1 h ls hl
      rw [wp_X6_least_B2] at h
      refine lv_iload_n hx hb dX6_least_2 rfl (lv_at hl 1 rfl) ?_
      refine lv_bipush (v := (6 : Int32)) hx hb dX6_least_3 (by decide) ?_
      refine lv_icmp_ge (tgt := 24) hx hb dX6_least_5 (by decide) (fun c9 => ?_) (fun c9 => ?_)
      · have h := h.1 c9
        refine lv_iconst (v := (-1 : Int32)) hx hb dX6_least_24 (by decide) ?_
        exact ri_ret hx hb hr hlocks h dX6_least_25
      · have h := h.2 c9
        refine lv_iload_n hx hb dX6_least_8 rfl (lv_at hl 0 rfl) ?_
        refine lv_iconst (v := (1 : Int32)) hx hb dX6_least_9 (by decide) ?_
        refine lv_iload_n hx hb dX6_least_10 rfl (lv_at hl 1 rfl) ?_
        refine lv_ishl hx hb dX6_least_11 ?_
        refine lv_iand hx hb dX6_least_12 ?_
        refine lv_if_eq (tgt := 18) hx hb dX6_least_13 (by decide) (fun c9 => ?_) (fun c9 => ?_)
        · have h := h.1 c9
          refine lv_iinc (v := x1 + 1) (lv' := [(1, .int (x1 + 1)), (0, .int x0)]) hx hb dX6_least_18 hl (k := 1) rfl rfl (by decide) rfl (fun ls hl => ?_)
          refine lv_goto (tgt := 2) hx hb dX6_least_21 (by decide) ?_
          exact ih2 _ _ h ls (lv_sub hl [1, 0] rfl)
        · have h := h.2 c9
          refine lv_iload_n hx hb dX6_least_16 rfl (lv_at hl 1 rfl) ?_
          exact ri_ret hx hb hr hlocks h dX6_least_17
  refine lv_iconst (v := (0 : Int32)) hx hb dX6_least_0 (by decide) ?_
  refine lv_istore_n (lv' := [(1, .int (0 : Int32)), (0, .int a0)]) hx hb dX6_least_1 rfl hl (by decide) rfl (fun ls hl => ?_)
  obtain ⟨n9, h⟩ := h
  exact B2 n9 _ _ h ls (lv_sub hl [1, 0] rfl)
def wp_X6_endingBy (post : Int32 → Prop) (a0 : Int32) (a1 : Int32) (a2 : Int32) (a3 : Int32) : Prop := ((a0 = 1 → (wp_X6_has (fun r1 => ((r1 = 0 → post (-1 : Int32)) ∧ (¬ r1 = 0 → post a2))) a1 a2)) ∧ (a0 = 2 → post a2) ∧ (a0 = 3 → (wp_X6_greatest (fun r2 => post r2) a1)) ∧ (a0 = 4 → (((a1 &&& (a3 ^^^ (-1 : Int32))) = 0 → (wp_X6_greatest (fun r3 => post r3) a1)) ∧ (¬ (a1 &&& (a3 ^^^ (-1 : Int32))) = 0 → (wp_X6_greatest (fun r4 => post r4) (a1 &&& (a3 ^^^ (-1 : Int32))))))) ∧ (((a0).toInt < 1 ∨ 4 < (a0).toInt) → (wp_X6_has (fun r5 => ((r5 = 0 → (wp_X6_least (fun r6 => post r6) a1)) ∧ (¬ r5 = 0 → post a2))) a1 a2)))
def rmX6_endingBy : Room := { frames := 1, cells := 0, slots := 0, locals := 21 }
set_option maxHeartbeats 4000000 in
set_option maxRecDepth 100000 in
theorem c_X6_endingBy (l : Launch) (D : va_G) (cI : ClassId) (post : Int32 → Prop) (a0 : Int32) (a1 : Int32) (a2 : Int32) (a3 : Int32) (h : wp_X6_endingBy post a0 a1 a2 a3) : Met l yX6_endingBy wsX6_endingBy rmX6_endingBy (va_Pc [.int a0, .int a1, .int a2, .int a3] (rP D cI [])) (sQ post) 0 0 (fun _ => False) := by
  refine Met.ofW (cc := cX6_endingBy) (maxL := 5) (ret := (some .int)) (by decide) rfl ?_
  intro p e s m args below meth c s₁ B hml hv
  obtain ⟨rfl, hP, hK, hN⟩ := hv
  have hx := B.exec
  have hb := B.bytes
  have hr := B.returns
  have hts := atoms_spec (ws := wsX6_endingBy) B.pre
  have hown : s.vm.findClass RX6 = some m.cls := findClass_of_methodNamed B.named
  have hlocks : meth.locks = false := B.notSynchronized
  have hl := lv_entry ([.int a0, .int a1, .int a2, .int a3]) (n := 5) (Nat.le_of_ble_eq_true rfl)
  rw [lg_entry_eq]
  generalize (lg_sl ([.int a0, .int a1, .int a2, .int a3]) ++ List.replicate (5 - (lg_sl ([.int a0, .int a1, .int a2, .int a3])).length) Slot.unset).toArray = ls at hl ⊢
  have hl : lv_has ls 5 [(0, .int a0), (1, .int a1), (2, .int a2), (3, .int a3)] := hl
  unfold wp_X6_endingBy at h
  refine lv_iload_n hx hb dX6_endingBy_0 rfl (lv_at hl 1 rfl) ?_
  refine lv_iload_n hx hb dX6_endingBy_1 rfl (lv_at hl 3 rfl) ?_
  refine lv_iconst (v := (-1 : Int32)) hx hb dX6_endingBy_2 (by decide) ?_
  refine lv_ixor hx hb dX6_endingBy_3 ?_
  refine lv_iand hx hb dX6_endingBy_4 ?_
  refine lv_istore (lv' := [(4, .int (a1 &&& (a3 ^^^ (-1 : Int32)))), (0, .int a0), (1, .int a1), (2, .int a2), (3, .int a3)]) hx hb dX6_endingBy_5 hl (by decide) rfl (fun ls hl => ?_)
  refine lv_iload_n hx hb dX6_endingBy_7 rfl (lv_at hl 1 rfl) ?_
  rcases sw_1_4 (a0) with c9 | c9 | c9 | c9 | c9
  · have h := h.1 c9
    refine lv_tableIn (off := 32) (tgt := 40) hx hb dX6_endingBy_8 (by rw [c9]; decide) (by rw [c9]; decide) (by rw [c9]; decide) (by decide) ?_
    refine lv_iload_n hx hb dX6_endingBy_40 rfl (lv_at hl 2 rfl) ?_
    refine lv_iload_n hx hb dX6_endingBy_41 rfl (lv_at hl 3 rfl) ?_
    refine rS_i ⟨hx, hb, hml, hown, hts⟩ (c_X6_has l D cI _ _ _ h) (va_cwS 2 hts gX6_endingBy_X6_has rfl rfl rfl (by decide +kernel) ⟨Nat.le_of_ble_eq_true rfl, Nat.le_of_ble_eq_true rfl⟩) hK wPnil hN rfl hl.1 (rest := []) rfl (Nat.le_of_ble_eq_true rfl) dX6_endingBy_42 (Nat.zero_le _) (Nat.zero_le _) (fun r1 h => ?_)
    refine lv_if_eq (tgt := 52) hx hb dX6_endingBy_45 (by decide) (fun c9 => ?_) (fun c9 => ?_)
    · have h := h.1 c9
      refine lv_iconst (v := (-1 : Int32)) hx hb dX6_endingBy_52 (by decide) ?_
      exact ri_ret hx hb hr hlocks h dX6_endingBy_53
    · have h := h.2 c9
      refine lv_iload_n hx hb dX6_endingBy_48 rfl (lv_at hl 3 rfl) ?_
      refine lv_goto (tgt := 53) hx hb dX6_endingBy_49 (by decide) ?_
      exact ri_ret hx hb hr hlocks h dX6_endingBy_53
  · have h := h.2.1 c9
    refine lv_tableIn (off := 46) (tgt := 54) hx hb dX6_endingBy_8 (by rw [c9]; decide) (by rw [c9]; decide) (by rw [c9]; decide) (by decide) ?_
    refine lv_iload_n hx hb dX6_endingBy_54 rfl (lv_at hl 3 rfl) ?_
    exact ri_ret hx hb hr hlocks h dX6_endingBy_55
  · have h := h.2.2.1 c9
    refine lv_tableIn (off := 48) (tgt := 56) hx hb dX6_endingBy_8 (by rw [c9]; decide) (by rw [c9]; decide) (by rw [c9]; decide) (by decide) ?_
    refine lv_iload_n hx hb dX6_endingBy_56 rfl (lv_at hl 2 rfl) ?_
    refine rS_i ⟨hx, hb, hml, hown, hts⟩ (c_X6_greatest l D cI _ _ h) (va_cwS 1 hts gX6_endingBy_X6_greatest rfl rfl rfl (by decide +kernel) ⟨Nat.le_of_ble_eq_true rfl, Nat.le_of_ble_eq_true rfl⟩) hK wPnil hN rfl hl.1 (rest := []) rfl (Nat.le_of_ble_eq_true rfl) dX6_endingBy_57 (Nat.zero_le _) (Nat.zero_le _) (fun r2 h => ?_)
    exact ri_ret hx hb hr hlocks h dX6_endingBy_60
  · have h := h.2.2.2.1 c9
    refine lv_tableIn (off := 53) (tgt := 61) hx hb dX6_endingBy_8 (by rw [c9]; decide) (by rw [c9]; decide) (by rw [c9]; decide) (by decide) ?_
    refine lv_iload hx hb dX6_endingBy_61 (lv_at hl 0 rfl) ?_
    refine lv_if_eq (tgt := 71) hx hb dX6_endingBy_63 (by decide) (fun c9 => ?_) (fun c9 => ?_)
    · have h := h.1 c9
      refine lv_iload_n hx hb dX6_endingBy_71 rfl (lv_at hl 2 rfl) ?_
      refine rS_i ⟨hx, hb, hml, hown, hts⟩ (c_X6_greatest l D cI _ _ h) (va_cwS 1 hts gX6_endingBy_X6_greatest rfl rfl rfl (by decide +kernel) ⟨Nat.le_of_ble_eq_true rfl, Nat.le_of_ble_eq_true rfl⟩) hK wPnil hN rfl hl.1 (rest := []) rfl (Nat.le_of_ble_eq_true rfl) dX6_endingBy_72 (Nat.zero_le _) (Nat.zero_le _) (fun r3 h => ?_)
      exact ri_ret hx hb hr hlocks h dX6_endingBy_75
    · have h := h.2 c9
      refine lv_iload hx hb dX6_endingBy_66 (lv_at hl 0 rfl) ?_
      refine lv_goto (tgt := 72) hx hb dX6_endingBy_68 (by decide) ?_
      refine rS_i ⟨hx, hb, hml, hown, hts⟩ (c_X6_greatest l D cI _ _ h) (va_cwS 1 hts gX6_endingBy_X6_greatest rfl rfl rfl (by decide +kernel) ⟨Nat.le_of_ble_eq_true rfl, Nat.le_of_ble_eq_true rfl⟩) hK wPnil hN rfl hl.1 (rest := []) rfl (Nat.le_of_ble_eq_true rfl) dX6_endingBy_72 (Nat.zero_le _) (Nat.zero_le _) (fun r4 h => ?_)
      exact ri_ret hx hb hr hlocks h dX6_endingBy_75
  · have h := h.2.2.2.2 c9
    refine lv_tableOut (tgt := 76) hx hb dX6_endingBy_8 c9 (by decide) ?_
    refine lv_iload_n hx hb dX6_endingBy_76 rfl (lv_at hl 2 rfl) ?_
    refine lv_iload_n hx hb dX6_endingBy_77 rfl (lv_at hl 3 rfl) ?_
    refine rS_i ⟨hx, hb, hml, hown, hts⟩ (c_X6_has l D cI _ _ _ h) (va_cwS 2 hts gX6_endingBy_X6_has rfl rfl rfl (by decide +kernel) ⟨Nat.le_of_ble_eq_true rfl, Nat.le_of_ble_eq_true rfl⟩) hK wPnil hN rfl hl.1 (rest := []) rfl (Nat.le_of_ble_eq_true rfl) dX6_endingBy_78 (Nat.zero_le _) (Nat.zero_le _) (fun r5 h => ?_)
    refine lv_if_eq (tgt := 88) hx hb dX6_endingBy_81 (by decide) (fun c9 => ?_) (fun c9 => ?_)
    · have h := h.1 c9
      refine lv_iload_n hx hb dX6_endingBy_88 rfl (lv_at hl 2 rfl) ?_
      refine rS_i ⟨hx, hb, hml, hown, hts⟩ (c_X6_least l D cI _ _ h) (va_cwS 1 hts gX6_endingBy_X6_least rfl rfl rfl (by decide +kernel) ⟨Nat.le_of_ble_eq_true rfl, Nat.le_of_ble_eq_true rfl⟩) hK wPnil hN rfl hl.1 (rest := []) rfl (Nat.le_of_ble_eq_true rfl) dX6_endingBy_89 (Nat.zero_le _) (Nat.zero_le _) (fun r6 h => ?_)
      exact ri_ret hx hb hr hlocks h dX6_endingBy_92
    · have h := h.2 c9
      refine lv_iload_n hx hb dX6_endingBy_84 rfl (lv_at hl 3 rfl) ?_
      refine lv_goto (tgt := 92) hx hb dX6_endingBy_85 (by decide) ?_
      exact ri_ret hx hb hr hlocks h dX6_endingBy_92
def wp_X7_in (post : Int32 → Prop) (a0 : Int64) (a1 : Int64) (a2 : Int64) : Prop := (((lg_cmp a0 a1) < 0 → post (0 : Int32)) ∧ (¬ (lg_cmp a0 a1) < 0 → ((0 < (lg_cmp a0 a2) → post (0 : Int32)) ∧ (¬ 0 < (lg_cmp a0 a2) → post (1 : Int32)))))
def rmX7_in : Room := { frames := 0, cells := 0, slots := 0, locals := 0 }
set_option maxHeartbeats 4000000 in
set_option maxRecDepth 100000 in
theorem c_X7_in (l : Launch) (D : va_G) (cI : ClassId) (post : Int32 → Prop) (a0 : Int64) (a1 : Int64) (a2 : Int64) (h : wp_X7_in post a0 a1 a2) : Met l yX7_in wsX7_in rmX7_in (va_Pc [.long a0, .long a1, .long a2] (rP D cI [])) (sQ post) 0 0 (fun _ => False) := by
  refine Met.ofW (cc := cX7_in) (maxL := 6) (ret := (some .boolean)) (by decide) rfl ?_
  intro p e s m args below meth c s₁ B hml hv
  obtain ⟨rfl, hP, hK, hN⟩ := hv
  have hx := B.exec
  have hb := B.bytes
  have hr := B.returns
  have hts := atoms_spec (ws := wsX7_in) B.pre
  have hown : s.vm.findClass RX7 = some m.cls := findClass_of_methodNamed B.named
  have hlocks : meth.locks = false := B.notSynchronized
  have hl := lv_entry ([.long a0, .long a1, .long a2]) (n := 6) (Nat.le_of_ble_eq_true rfl)
  rw [lg_entry_eq]
  generalize (lg_sl ([.long a0, .long a1, .long a2]) ++ List.replicate (6 - (lg_sl ([.long a0, .long a1, .long a2])).length) Slot.unset).toArray = ls at hl ⊢
  have hl : lv_has ls 6 [(0, .long a0), (2, .long a1), (4, .long a2)] := hl
  unfold wp_X7_in at h
  refine lv_lload_n hx hb dX7_in_0 rfl (lv_at hl 0 rfl) ?_
  refine lv_lload_n hx hb dX7_in_1 rfl (lv_at hl 1 rfl) ?_
  refine W.lcmp hx hb dX7_in_2 ?_
  refine lv_if_lt (tgt := 17) hx hb dX7_in_3 (by decide) (fun c9 => ?_) (fun c9 => ?_)
  · have h := h.1 c9
    refine lv_iconst (v := (0 : Int32)) hx hb dX7_in_17 (by decide) ?_
    exact rz_ret hx hb hr hlocks rfl h dX7_in_18
  · have h := h.2 c9
    refine lv_lload_n hx hb dX7_in_6 rfl (lv_at hl 0 rfl) ?_
    refine lv_lload hx hb dX7_in_7 (lv_at hl 2 rfl) ?_
    refine W.lcmp hx hb dX7_in_9 ?_
    refine lv_if_gt (tgt := 17) hx hb dX7_in_10 (by decide) (fun c9 => ?_) (fun c9 => ?_)
    · have h := h.1 c9
      refine lv_iconst (v := (0 : Int32)) hx hb dX7_in_17 (by decide) ?_
      exact rz_ret hx hb hr hlocks rfl h dX7_in_18
    · have h := h.2 c9
      refine lv_iconst (v := (1 : Int32)) hx hb dX7_in_13 (by decide) ?_
      refine lv_goto (tgt := 18) hx hb dX7_in_14 (by decide) ?_
      exact rz_ret hx hb hr hlocks rfl h dX7_in_18
def wp_X7_kindBy (post : Int32 → Prop) (a0 : Int32) : Prop := ((a0 = (115 : Int32) → post (0 : Int32)) ∧ (¬ a0 = (115 : Int32) → ((a0 = (104 : Int32) → post (1 : Int32)) ∧ (¬ a0 = (104 : Int32) → ((a0 = (116 : Int32) → post (2 : Int32)) ∧ (¬ a0 = (116 : Int32) → ((a0 = (99 : Int32) → post (3 : Int32)) ∧ (¬ a0 = (99 : Int32) → ((a0 = (112 : Int32) → post (4 : Int32)) ∧ (¬ a0 = (112 : Int32) → post (-1 : Int32)))))))))))
def rmX7_kindBy : Room := { frames := 0, cells := 0, slots := 0, locals := 0 }
set_option maxHeartbeats 4000000 in
set_option maxRecDepth 100000 in
theorem c_X7_kindBy (l : Launch) (D : va_G) (cI : ClassId) (post : Int32 → Prop) (a0 : Int32) (h : wp_X7_kindBy post a0) : Met l yX7_kindBy wsX7_kindBy rmX7_kindBy (va_Pc [.int a0] (rP D cI [])) (sQ post) 0 0 (fun _ => False) := by
  refine Met.ofW (cc := cX7_kindBy) (maxL := 1) (ret := (some .int)) (by decide) rfl ?_
  intro p e s m args below meth c s₁ B hml hv
  obtain ⟨rfl, hP, hK, hN⟩ := hv
  have hx := B.exec
  have hb := B.bytes
  have hr := B.returns
  have hts := atoms_spec (ws := wsX7_kindBy) B.pre
  have hown : s.vm.findClass RX7 = some m.cls := findClass_of_methodNamed B.named
  have hlocks : meth.locks = false := B.notSynchronized
  have hl := lv_entry ([.int a0]) (n := 1) (Nat.le_of_ble_eq_true rfl)
  rw [lg_entry_eq]
  generalize (lg_sl ([.int a0]) ++ List.replicate (1 - (lg_sl ([.int a0])).length) Slot.unset).toArray = ls at hl ⊢
  have hl : lv_has ls 1 [(0, .int a0)] := hl
  unfold wp_X7_kindBy at h
  refine lv_iload_n hx hb dX7_kindBy_0 rfl (lv_at hl 0 rfl) ?_
  refine lv_bipush (v := (115 : Int32)) hx hb dX7_kindBy_1 (by decide) ?_
  refine lv_icmp_ne (tgt := 10) hx hb dX7_kindBy_3 (by decide) (fun c9 => ?_) (fun c9 => ?_)
  · have h := h.2 c9
    refine lv_iload_n hx hb dX7_kindBy_10 rfl (lv_at hl 0 rfl) ?_
    refine lv_bipush (v := (104 : Int32)) hx hb dX7_kindBy_11 (by decide) ?_
    refine lv_icmp_ne (tgt := 20) hx hb dX7_kindBy_13 (by decide) (fun c9 => ?_) (fun c9 => ?_)
    · have h := h.2 c9
      refine lv_iload_n hx hb dX7_kindBy_20 rfl (lv_at hl 0 rfl) ?_
      refine lv_bipush (v := (116 : Int32)) hx hb dX7_kindBy_21 (by decide) ?_
      refine lv_icmp_ne (tgt := 30) hx hb dX7_kindBy_23 (by decide) (fun c9 => ?_) (fun c9 => ?_)
      · have h := h.2 c9
        refine lv_iload_n hx hb dX7_kindBy_30 rfl (lv_at hl 0 rfl) ?_
        refine lv_bipush (v := (99 : Int32)) hx hb dX7_kindBy_31 (by decide) ?_
        refine lv_icmp_ne (tgt := 40) hx hb dX7_kindBy_33 (by decide) (fun c9 => ?_) (fun c9 => ?_)
        · have h := h.2 c9
          refine lv_iload_n hx hb dX7_kindBy_40 rfl (lv_at hl 0 rfl) ?_
          refine lv_bipush (v := (112 : Int32)) hx hb dX7_kindBy_41 (by decide) ?_
          refine lv_icmp_ne (tgt := 50) hx hb dX7_kindBy_43 (by decide) (fun c9 => ?_) (fun c9 => ?_)
          · have h := h.2 c9
            refine lv_iconst (v := (-1 : Int32)) hx hb dX7_kindBy_50 (by decide) ?_
            exact ri_ret hx hb hr hlocks h dX7_kindBy_51
          · have h := h.1 c9
            refine lv_iconst (v := (4 : Int32)) hx hb dX7_kindBy_46 (by decide) ?_
            refine lv_goto (tgt := 51) hx hb dX7_kindBy_47 (by decide) ?_
            exact ri_ret hx hb hr hlocks h dX7_kindBy_51
        · have h := h.1 c9
          refine lv_iconst (v := (3 : Int32)) hx hb dX7_kindBy_36 (by decide) ?_
          refine lv_goto (tgt := 51) hx hb dX7_kindBy_37 (by decide) ?_
          exact ri_ret hx hb hr hlocks h dX7_kindBy_51
      · have h := h.1 c9
        refine lv_iconst (v := (2 : Int32)) hx hb dX7_kindBy_26 (by decide) ?_
        refine lv_goto (tgt := 51) hx hb dX7_kindBy_27 (by decide) ?_
        exact ri_ret hx hb hr hlocks h dX7_kindBy_51
    · have h := h.1 c9
      refine lv_iconst (v := (1 : Int32)) hx hb dX7_kindBy_16 (by decide) ?_
      refine lv_goto (tgt := 51) hx hb dX7_kindBy_17 (by decide) ?_
      exact ri_ret hx hb hr hlocks h dX7_kindBy_51
  · have h := h.1 c9
    refine lv_iconst (v := (0 : Int32)) hx hb dX7_kindBy_6 (by decide) ?_
    refine lv_goto (tgt := 51) hx hb dX7_kindBy_7 (by decide) ?_
    exact ri_ret hx hb hr hlocks h dX7_kindBy_51
def wp_X7_leastOf_B4 (post : Int32 → Prop) : Nat → Int32 → Int32 → Int32 → Prop
  | 0, _, _, _ => False
  | n4 + 1, x0, x1, x2 => ((x2 < 0 → post x1) ∧ (¬ x2 < 0 → ((((x0 >>> (x2 &&& 31)) &&& (1 : Int32)) = (1 : Int32) → wp_X7_leastOf_B4 post n4 x0 x2 (x2 + (-1))) ∧ (¬ ((x0 >>> (x2 &&& 31)) &&& (1 : Int32)) = (1 : Int32) → wp_X7_leastOf_B4 post n4 x0 x1 (x2 + (-1))))))
def wp_X7_leastOf (post : Int32 → Prop) (a0 : Int32) : Prop := (∃ j9 : Nat, wp_X7_leastOf_B4 post j9 a0 (-1 : Int32) (5 : Int32))
def rmX7_leastOf : Room := { frames := 0, cells := 0, slots := 0, locals := 0 }
set_option maxHeartbeats 4000000 in
set_option maxRecDepth 100000 in
theorem c_X7_leastOf (l : Launch) (D : va_G) (cI : ClassId) (post : Int32 → Prop) (a0 : Int32) (h : wp_X7_leastOf post a0) : Met l yX7_leastOf wsX7_leastOf rmX7_leastOf (va_Pc [.int a0] (rP D cI [])) (sQ post) 0 0 (fun _ => False) := by
  refine Met.ofW (cc := cX7_leastOf) (maxL := 3) (ret := (some .int)) (by decide) rfl ?_
  intro p e s m args below meth c s₁ B hml hv
  obtain ⟨rfl, hP, hK, hN⟩ := hv
  have hx := B.exec
  have hb := B.bytes
  have hr := B.returns
  have hts := atoms_spec (ws := wsX7_leastOf) B.pre
  have hown : s.vm.findClass RX7 = some m.cls := findClass_of_methodNamed B.named
  have hlocks : meth.locks = false := B.notSynchronized
  have hl := lv_entry ([.int a0]) (n := 3) (Nat.le_of_ble_eq_true rfl)
  rw [lg_entry_eq]
  generalize (lg_sl ([.int a0]) ++ List.replicate (3 - (lg_sl ([.int a0])).length) Slot.unset).toArray = ls at hl ⊢
  have hl : lv_has ls 3 [(0, .int a0)] := hl
  unfold wp_X7_leastOf at h
  have B4 : ∀ (n4 : Nat) (x0 : Int32) (x1 : Int32) (x2 : Int32), wp_X7_leastOf_B4 post n4 x0 x1 x2 → ∀ (ls : Array Slot), lv_has ls 3 [(0, .int x0), (1, .int x1), (2, .int x2)] → W p l e (headSpec wsX7_leastOf rmX7_leastOf).room s m ([.int a0] : List Value).toArray below meth c s.heap [] 0 0 (MQ below (sQ post) ([.int a0] : List Value).toArray s 0 0 (fun _ => False)) (F0 m 4 ls []) := by
    intro n4
    induction n4 with
    | zero =>
      intro x0 x1 x2 h
      exact False.elim h
    | succ n4 ih4 =>
      intro x0 x1 x2 h ls hl
      rw [wp_X7_leastOf_B4] at h
      refine lv_iload_n hx hb dX7_leastOf_4 rfl (lv_at hl 2 rfl) ?_
      refine lv_if_lt (tgt := 29) hx hb dX7_leastOf_5 (by decide) (fun c9 => ?_) (fun c9 => ?_)
      · have h := h.1 c9
        refine lv_iload_n hx hb dX7_leastOf_29 rfl (lv_at hl 1 rfl) ?_
        exact ri_ret hx hb hr hlocks h dX7_leastOf_30
      · have h := h.2 c9
        refine lv_iload_n hx hb dX7_leastOf_8 rfl (lv_at hl 0 rfl) ?_
        refine lv_iload_n hx hb dX7_leastOf_9 rfl (lv_at hl 2 rfl) ?_
        refine lv_ishr hx hb dX7_leastOf_10 ?_
        refine lv_iconst (v := (1 : Int32)) hx hb dX7_leastOf_11 (by decide) ?_
        refine lv_iand hx hb dX7_leastOf_12 ?_
        refine lv_iconst (v := (1 : Int32)) hx hb dX7_leastOf_13 (by decide) ?_
        refine lv_icmp_ne (tgt := 21) hx hb dX7_leastOf_14 (by decide) (fun c9 => ?_) (fun c9 => ?_)
        · have h := h.2 c9
          refine lv_iload_n hx hb dX7_leastOf_21 rfl (lv_at hl 1 rfl) ?_
          refine lv_istore_n (lv' := [(1, .int x1), (0, .int x0), (2, .int x2)]) hx hb dX7_leastOf_22 rfl hl (by decide) rfl (fun ls hl => ?_)
          refine lv_iinc (v := x2 + (-1)) (lv' := [(2, .int (x2 + (-1))), (1, .int x1), (0, .int x0)]) hx hb dX7_leastOf_23 hl (k := 2) rfl rfl (by decide) rfl (fun ls hl => ?_)
          refine lv_goto (tgt := 4) hx hb dX7_leastOf_26 (by decide) ?_
          exact ih4 _ _ _ h ls (lv_sub hl [2, 1, 0] rfl)
        · have h := h.1 c9
          refine lv_iload_n hx hb dX7_leastOf_17 rfl (lv_at hl 2 rfl) ?_
          refine lv_goto (tgt := 22) hx hb dX7_leastOf_18 (by decide) ?_
          refine lv_istore_n (lv' := [(1, .int x2), (0, .int x0), (2, .int x2)]) hx hb dX7_leastOf_22 rfl hl (by decide) rfl (fun ls hl => ?_)
          refine lv_iinc (v := x2 + (-1)) (lv' := [(2, .int (x2 + (-1))), (1, .int x2), (0, .int x0)]) hx hb dX7_leastOf_23 hl (k := 2) rfl rfl (by decide) rfl (fun ls hl => ?_)
          refine lv_goto (tgt := 4) hx hb dX7_leastOf_26 (by decide) ?_
          exact ih4 _ _ _ h ls (lv_sub hl [2, 1, 0] rfl)
  refine lv_iconst (v := (-1 : Int32)) hx hb dX7_leastOf_0 (by decide) ?_
  refine lv_istore_n (lv' := [(1, .int (-1 : Int32)), (0, .int a0)]) hx hb dX7_leastOf_1 rfl hl (by decide) rfl (fun ls hl => ?_)
  refine lv_iconst (v := (5 : Int32)) hx hb dX7_leastOf_2 (by decide) ?_
  refine lv_istore_n (lv' := [(2, .int (5 : Int32)), (1, .int (-1 : Int32)), (0, .int a0)]) hx hb dX7_leastOf_3 rfl hl (by decide) rfl (fun ls hl => ?_)
  obtain ⟨n9, h⟩ := h
  exact B4 n9 _ _ _ h ls (lv_sub hl [2, 1, 0] rfl)
def wp_X7_greatestOf_B4 (post : Int32 → Prop) : Nat → Int32 → Int32 → Int32 → Prop
  | 0, _, _, _ => False
  | n4 + 1, x0, x1, x2 => (((6 : Int32) ≤ x2 → post x1) ∧ (¬ (6 : Int32) ≤ x2 → ((((x0 >>> (x2 &&& 31)) &&& (1 : Int32)) = (1 : Int32) → wp_X7_greatestOf_B4 post n4 x0 x2 (x2 + 1)) ∧ (¬ ((x0 >>> (x2 &&& 31)) &&& (1 : Int32)) = (1 : Int32) → wp_X7_greatestOf_B4 post n4 x0 x1 (x2 + 1)))))
def wp_X7_greatestOf (post : Int32 → Prop) (a0 : Int32) : Prop := (∃ j9 : Nat, wp_X7_greatestOf_B4 post j9 a0 (-1 : Int32) (0 : Int32))
def rmX7_greatestOf : Room := { frames := 0, cells := 0, slots := 0, locals := 0 }
set_option maxHeartbeats 4000000 in
set_option maxRecDepth 100000 in
theorem c_X7_greatestOf (l : Launch) (D : va_G) (cI : ClassId) (post : Int32 → Prop) (a0 : Int32) (h : wp_X7_greatestOf post a0) : Met l yX7_greatestOf wsX7_greatestOf rmX7_greatestOf (va_Pc [.int a0] (rP D cI [])) (sQ post) 0 0 (fun _ => False) := by
  refine Met.ofW (cc := cX7_greatestOf) (maxL := 3) (ret := (some .int)) (by decide) rfl ?_
  intro p e s m args below meth c s₁ B hml hv
  obtain ⟨rfl, hP, hK, hN⟩ := hv
  have hx := B.exec
  have hb := B.bytes
  have hr := B.returns
  have hts := atoms_spec (ws := wsX7_greatestOf) B.pre
  have hown : s.vm.findClass RX7 = some m.cls := findClass_of_methodNamed B.named
  have hlocks : meth.locks = false := B.notSynchronized
  have hl := lv_entry ([.int a0]) (n := 3) (Nat.le_of_ble_eq_true rfl)
  rw [lg_entry_eq]
  generalize (lg_sl ([.int a0]) ++ List.replicate (3 - (lg_sl ([.int a0])).length) Slot.unset).toArray = ls at hl ⊢
  have hl : lv_has ls 3 [(0, .int a0)] := hl
  unfold wp_X7_greatestOf at h
  have B4 : ∀ (n4 : Nat) (x0 : Int32) (x1 : Int32) (x2 : Int32), wp_X7_greatestOf_B4 post n4 x0 x1 x2 → ∀ (ls : Array Slot), lv_has ls 3 [(0, .int x0), (1, .int x1), (2, .int x2)] → W p l e (headSpec wsX7_greatestOf rmX7_greatestOf).room s m ([.int a0] : List Value).toArray below meth c s.heap [] 0 0 (MQ below (sQ post) ([.int a0] : List Value).toArray s 0 0 (fun _ => False)) (F0 m 4 ls []) := by
    intro n4
    induction n4 with
    | zero =>
      intro x0 x1 x2 h
      exact False.elim h
    | succ n4 ih4 =>
      intro x0 x1 x2 h ls hl
      rw [wp_X7_greatestOf_B4] at h
      refine lv_iload_n hx hb dX7_greatestOf_4 rfl (lv_at hl 2 rfl) ?_
      refine lv_bipush (v := (6 : Int32)) hx hb dX7_greatestOf_5 (by decide) ?_
      refine lv_icmp_ge (tgt := 31) hx hb dX7_greatestOf_7 (by decide) (fun c9 => ?_) (fun c9 => ?_)
      · have h := h.1 c9
        refine lv_iload_n hx hb dX7_greatestOf_31 rfl (lv_at hl 1 rfl) ?_
        exact ri_ret hx hb hr hlocks h dX7_greatestOf_32
      · have h := h.2 c9
        refine lv_iload_n hx hb dX7_greatestOf_10 rfl (lv_at hl 0 rfl) ?_
        refine lv_iload_n hx hb dX7_greatestOf_11 rfl (lv_at hl 2 rfl) ?_
        refine lv_ishr hx hb dX7_greatestOf_12 ?_
        refine lv_iconst (v := (1 : Int32)) hx hb dX7_greatestOf_13 (by decide) ?_
        refine lv_iand hx hb dX7_greatestOf_14 ?_
        refine lv_iconst (v := (1 : Int32)) hx hb dX7_greatestOf_15 (by decide) ?_
        refine lv_icmp_ne (tgt := 23) hx hb dX7_greatestOf_16 (by decide) (fun c9 => ?_) (fun c9 => ?_)
        · have h := h.2 c9
          refine lv_iload_n hx hb dX7_greatestOf_23 rfl (lv_at hl 1 rfl) ?_
          refine lv_istore_n (lv' := [(1, .int x1), (0, .int x0), (2, .int x2)]) hx hb dX7_greatestOf_24 rfl hl (by decide) rfl (fun ls hl => ?_)
          refine lv_iinc (v := x2 + 1) (lv' := [(2, .int (x2 + 1)), (1, .int x1), (0, .int x0)]) hx hb dX7_greatestOf_25 hl (k := 2) rfl rfl (by decide) rfl (fun ls hl => ?_)
          refine lv_goto (tgt := 4) hx hb dX7_greatestOf_28 (by decide) ?_
          exact ih4 _ _ _ h ls (lv_sub hl [2, 1, 0] rfl)
        · have h := h.1 c9
          refine lv_iload_n hx hb dX7_greatestOf_19 rfl (lv_at hl 2 rfl) ?_
          refine lv_goto (tgt := 24) hx hb dX7_greatestOf_20 (by decide) ?_
          refine lv_istore_n (lv' := [(1, .int x2), (0, .int x0), (2, .int x2)]) hx hb dX7_greatestOf_24 rfl hl (by decide) rfl (fun ls hl => ?_)
          refine lv_iinc (v := x2 + 1) (lv' := [(2, .int (x2 + 1)), (1, .int x2), (0, .int x0)]) hx hb dX7_greatestOf_25 hl (k := 2) rfl rfl (by decide) rfl (fun ls hl => ?_)
          refine lv_goto (tgt := 4) hx hb dX7_greatestOf_28 (by decide) ?_
          exact ih4 _ _ _ h ls (lv_sub hl [2, 1, 0] rfl)
  refine lv_iconst (v := (-1 : Int32)) hx hb dX7_greatestOf_0 (by decide) ?_
  refine lv_istore_n (lv' := [(1, .int (-1 : Int32)), (0, .int a0)]) hx hb dX7_greatestOf_1 rfl hl (by decide) rfl (fun ls hl => ?_)
  refine lv_iconst (v := (0 : Int32)) hx hb dX7_greatestOf_2 (by decide) ?_
  refine lv_istore_n (lv' := [(2, .int (0 : Int32)), (1, .int (-1 : Int32)), (0, .int a0)]) hx hb dX7_greatestOf_3 rfl hl (by decide) rfl (fun ls hl => ?_)
  obtain ⟨n9, h⟩ := h
  exact B4 n9 _ _ _ h ls (lv_sub hl [2, 1, 0] rfl)
def wp_X7_ones_B4 (post : Int32 → Prop) : Nat → Int32 → Int32 → Int32 → Prop
  | 0, _, _, _ => False
  | n4 + 1, x0, x1, x2 => (((6 : Int32) ≤ x2 → post x1) ∧ (¬ (6 : Int32) ≤ x2 → wp_X7_ones_B4 post n4 x0 (x1 + ((x0 >>> (x2 &&& 31)) &&& (1 : Int32))) (x2 + 1)))
def wp_X7_ones (post : Int32 → Prop) (a0 : Int32) : Prop := (∃ j9 : Nat, wp_X7_ones_B4 post j9 a0 (0 : Int32) (0 : Int32))
def rmX7_ones : Room := { frames := 0, cells := 0, slots := 0, locals := 0 }
set_option maxHeartbeats 4000000 in
set_option maxRecDepth 100000 in
theorem c_X7_ones (l : Launch) (D : va_G) (cI : ClassId) (post : Int32 → Prop) (a0 : Int32) (h : wp_X7_ones post a0) : Met l yX7_ones wsX7_ones rmX7_ones (va_Pc [.int a0] (rP D cI [])) (sQ post) 0 0 (fun _ => False) := by
  refine Met.ofW (cc := cX7_ones) (maxL := 3) (ret := (some .int)) (by decide) rfl ?_
  intro p e s m args below meth c s₁ B hml hv
  obtain ⟨rfl, hP, hK, hN⟩ := hv
  have hx := B.exec
  have hb := B.bytes
  have hr := B.returns
  have hts := atoms_spec (ws := wsX7_ones) B.pre
  have hown : s.vm.findClass RX7 = some m.cls := findClass_of_methodNamed B.named
  have hlocks : meth.locks = false := B.notSynchronized
  have hl := lv_entry ([.int a0]) (n := 3) (Nat.le_of_ble_eq_true rfl)
  rw [lg_entry_eq]
  generalize (lg_sl ([.int a0]) ++ List.replicate (3 - (lg_sl ([.int a0])).length) Slot.unset).toArray = ls at hl ⊢
  have hl : lv_has ls 3 [(0, .int a0)] := hl
  unfold wp_X7_ones at h
  have B4 : ∀ (n4 : Nat) (x0 : Int32) (x1 : Int32) (x2 : Int32), wp_X7_ones_B4 post n4 x0 x1 x2 → ∀ (ls : Array Slot), lv_has ls 3 [(0, .int x0), (1, .int x1), (2, .int x2)] → W p l e (headSpec wsX7_ones rmX7_ones).room s m ([.int a0] : List Value).toArray below meth c s.heap [] 0 0 (MQ below (sQ post) ([.int a0] : List Value).toArray s 0 0 (fun _ => False)) (F0 m 4 ls []) := by
    intro n4
    induction n4 with
    | zero =>
      intro x0 x1 x2 h
      exact False.elim h
    | succ n4 ih4 =>
      intro x0 x1 x2 h ls hl
      rw [wp_X7_ones_B4] at h
      refine lv_iload_n hx hb dX7_ones_4 rfl (lv_at hl 2 rfl) ?_
      refine lv_bipush (v := (6 : Int32)) hx hb dX7_ones_5 (by decide) ?_
      refine lv_icmp_ge (tgt := 24) hx hb dX7_ones_7 (by decide) (fun c9 => ?_) (fun c9 => ?_)
      · have h := h.1 c9
        refine lv_iload_n hx hb dX7_ones_24 rfl (lv_at hl 1 rfl) ?_
        exact ri_ret hx hb hr hlocks h dX7_ones_25
      · have h := h.2 c9
        refine lv_iload_n hx hb dX7_ones_10 rfl (lv_at hl 1 rfl) ?_
        refine lv_iload_n hx hb dX7_ones_11 rfl (lv_at hl 0 rfl) ?_
        refine lv_iload_n hx hb dX7_ones_12 rfl (lv_at hl 2 rfl) ?_
        refine lv_ishr hx hb dX7_ones_13 ?_
        refine lv_iconst (v := (1 : Int32)) hx hb dX7_ones_14 (by decide) ?_
        refine lv_iand hx hb dX7_ones_15 ?_
        refine lv_iadd hx hb dX7_ones_16 ?_
        refine lv_istore_n (lv' := [(1, .int (x1 + ((x0 >>> (x2 &&& 31)) &&& (1 : Int32)))), (0, .int x0), (2, .int x2)]) hx hb dX7_ones_17 rfl hl (by decide) rfl (fun ls hl => ?_)
        refine lv_iinc (v := x2 + 1) (lv' := [(2, .int (x2 + 1)), (1, .int (x1 + ((x0 >>> (x2 &&& 31)) &&& (1 : Int32)))), (0, .int x0)]) hx hb dX7_ones_18 hl (k := 2) rfl rfl (by decide) rfl (fun ls hl => ?_)
        refine lv_goto (tgt := 4) hx hb dX7_ones_21 (by decide) ?_
        exact ih4 _ _ _ h ls (lv_sub hl [2, 1, 0] rfl)
  refine lv_iconst (v := (0 : Int32)) hx hb dX7_ones_0 (by decide) ?_
  refine lv_istore_n (lv' := [(1, .int (0 : Int32)), (0, .int a0)]) hx hb dX7_ones_1 rfl hl (by decide) rfl (fun ls hl => ?_)
  refine lv_iconst (v := (0 : Int32)) hx hb dX7_ones_2 (by decide) ?_
  refine lv_istore_n (lv' := [(2, .int (0 : Int32)), (1, .int (0 : Int32)), (0, .int a0)]) hx hb dX7_ones_3 rfl hl (by decide) rfl (fun ls hl => ?_)
  obtain ⟨n9, h⟩ := h
  exact B4 n9 _ _ _ h ls (lv_sub hl [2, 1, 0] rfl)
def wp_J6_bitCount_0f7a4 (post : Int32 → Prop) (a0 : Int32) : Prop := post ((((((((a0 - ((((a0).toUInt32 >>> (((1 : Int32)).toUInt32 &&& Int32.toUInt32 31)).toInt32) &&& (1431655765 : Int32))) &&& (858993459 : Int32)) + ((((a0 - ((((a0).toUInt32 >>> (((1 : Int32)).toUInt32 &&& Int32.toUInt32 31)).toInt32) &&& (1431655765 : Int32))).toUInt32 >>> (((2 : Int32)).toUInt32 &&& Int32.toUInt32 31)).toInt32) &&& (858993459 : Int32))) + (((((a0 - ((((a0).toUInt32 >>> (((1 : Int32)).toUInt32 &&& Int32.toUInt32 31)).toInt32) &&& (1431655765 : Int32))) &&& (858993459 : Int32)) + ((((a0 - ((((a0).toUInt32 >>> (((1 : Int32)).toUInt32 &&& Int32.toUInt32 31)).toInt32) &&& (1431655765 : Int32))).toUInt32 >>> (((2 : Int32)).toUInt32 &&& Int32.toUInt32 31)).toInt32) &&& (858993459 : Int32))).toUInt32 >>> (((4 : Int32)).toUInt32 &&& Int32.toUInt32 31)).toInt32)) &&& (252645135 : Int32)) + (((((((a0 - ((((a0).toUInt32 >>> (((1 : Int32)).toUInt32 &&& Int32.toUInt32 31)).toInt32) &&& (1431655765 : Int32))) &&& (858993459 : Int32)) + ((((a0 - ((((a0).toUInt32 >>> (((1 : Int32)).toUInt32 &&& Int32.toUInt32 31)).toInt32) &&& (1431655765 : Int32))).toUInt32 >>> (((2 : Int32)).toUInt32 &&& Int32.toUInt32 31)).toInt32) &&& (858993459 : Int32))) + (((((a0 - ((((a0).toUInt32 >>> (((1 : Int32)).toUInt32 &&& Int32.toUInt32 31)).toInt32) &&& (1431655765 : Int32))) &&& (858993459 : Int32)) + ((((a0 - ((((a0).toUInt32 >>> (((1 : Int32)).toUInt32 &&& Int32.toUInt32 31)).toInt32) &&& (1431655765 : Int32))).toUInt32 >>> (((2 : Int32)).toUInt32 &&& Int32.toUInt32 31)).toInt32) &&& (858993459 : Int32))).toUInt32 >>> (((4 : Int32)).toUInt32 &&& Int32.toUInt32 31)).toInt32)) &&& (252645135 : Int32)).toUInt32 >>> (((8 : Int32)).toUInt32 &&& Int32.toUInt32 31)).toInt32)) + ((((((((a0 - ((((a0).toUInt32 >>> (((1 : Int32)).toUInt32 &&& Int32.toUInt32 31)).toInt32) &&& (1431655765 : Int32))) &&& (858993459 : Int32)) + ((((a0 - ((((a0).toUInt32 >>> (((1 : Int32)).toUInt32 &&& Int32.toUInt32 31)).toInt32) &&& (1431655765 : Int32))).toUInt32 >>> (((2 : Int32)).toUInt32 &&& Int32.toUInt32 31)).toInt32) &&& (858993459 : Int32))) + (((((a0 - ((((a0).toUInt32 >>> (((1 : Int32)).toUInt32 &&& Int32.toUInt32 31)).toInt32) &&& (1431655765 : Int32))) &&& (858993459 : Int32)) + ((((a0 - ((((a0).toUInt32 >>> (((1 : Int32)).toUInt32 &&& Int32.toUInt32 31)).toInt32) &&& (1431655765 : Int32))).toUInt32 >>> (((2 : Int32)).toUInt32 &&& Int32.toUInt32 31)).toInt32) &&& (858993459 : Int32))).toUInt32 >>> (((4 : Int32)).toUInt32 &&& Int32.toUInt32 31)).toInt32)) &&& (252645135 : Int32)) + (((((((a0 - ((((a0).toUInt32 >>> (((1 : Int32)).toUInt32 &&& Int32.toUInt32 31)).toInt32) &&& (1431655765 : Int32))) &&& (858993459 : Int32)) + ((((a0 - ((((a0).toUInt32 >>> (((1 : Int32)).toUInt32 &&& Int32.toUInt32 31)).toInt32) &&& (1431655765 : Int32))).toUInt32 >>> (((2 : Int32)).toUInt32 &&& Int32.toUInt32 31)).toInt32) &&& (858993459 : Int32))) + (((((a0 - ((((a0).toUInt32 >>> (((1 : Int32)).toUInt32 &&& Int32.toUInt32 31)).toInt32) &&& (1431655765 : Int32))) &&& (858993459 : Int32)) + ((((a0 - ((((a0).toUInt32 >>> (((1 : Int32)).toUInt32 &&& Int32.toUInt32 31)).toInt32) &&& (1431655765 : Int32))).toUInt32 >>> (((2 : Int32)).toUInt32 &&& Int32.toUInt32 31)).toInt32) &&& (858993459 : Int32))).toUInt32 >>> (((4 : Int32)).toUInt32 &&& Int32.toUInt32 31)).toInt32)) &&& (252645135 : Int32)).toUInt32 >>> (((8 : Int32)).toUInt32 &&& Int32.toUInt32 31)).toInt32)).toUInt32 >>> (((16 : Int32)).toUInt32 &&& Int32.toUInt32 31)).toInt32)) &&& (63 : Int32))
def rmJ6_bitCount_0f7a4 : Room := { frames := 0, cells := 0, slots := 0, locals := 0 }
set_option maxHeartbeats 4000000 in
set_option maxRecDepth 100000 in
theorem c_J6_bitCount_0f7a4 (l : Launch) (D : va_G) (cI : ClassId) (post : Int32 → Prop) (a0 : Int32) (h : wp_J6_bitCount_0f7a4 post a0) : Met l yJ6_bitCount_0f7a4 wsJ6_bitCount_0f7a4 rmJ6_bitCount_0f7a4 (va_Pc [.int a0] (rP D cI [])) (sQ post) 0 0 (fun _ => False) := by
  refine Met.ofW (cc := cJ6_bitCount_0f7a4) (maxL := 1) (ret := (some .int)) (by decide) rfl ?_
  intro p e s m args below meth c s₁ B hml hv
  obtain ⟨rfl, hP, hK, hN⟩ := hv
  have hx := B.exec
  have hb := B.bytes
  have hr := B.returns
  have hts := atoms_spec (ws := wsJ6_bitCount_0f7a4) B.pre
  have hown : s.vm.findClass RJ6 = some m.cls := findClass_of_methodNamed B.named
  have hlocks : meth.locks = false := B.notSynchronized
  have hl := lv_entry ([.int a0]) (n := 1) (Nat.le_of_ble_eq_true rfl)
  rw [lg_entry_eq]
  generalize (lg_sl ([.int a0]) ++ List.replicate (1 - (lg_sl ([.int a0])).length) Slot.unset).toArray = ls at hl ⊢
  have hl : lv_has ls 1 [(0, .int a0)] := hl
  unfold wp_J6_bitCount_0f7a4 at h
  refine lv_iload_n hx hb dJ6_bitCount_0f7a4_0 rfl (lv_at hl 0 rfl) ?_
  refine lv_iload_n hx hb dJ6_bitCount_0f7a4_1 rfl (lv_at hl 0 rfl) ?_
  refine lv_iconst (v := (1 : Int32)) hx hb dJ6_bitCount_0f7a4_2 (by decide) ?_
  refine lv_iushr (v := ((a0).toUInt32 >>> (((1 : Int32)).toUInt32 &&& Int32.toUInt32 31)).toInt32) hx hb dJ6_bitCount_0f7a4_3 rfl ?_
  refine lv_ldcw (v := (1431655765 : Int32)) hx hb hown (hts (.constant RJ6 265 (1431655765)) (by decide +kernel)) dJ6_bitCount_0f7a4_4 ?_
  refine lv_iand hx hb dJ6_bitCount_0f7a4_7 ?_
  refine lv_isub hx hb dJ6_bitCount_0f7a4_8 ?_
  refine lv_istore_n (lv' := [(0, .int (a0 - ((((a0).toUInt32 >>> (((1 : Int32)).toUInt32 &&& Int32.toUInt32 31)).toInt32) &&& (1431655765 : Int32))))]) hx hb dJ6_bitCount_0f7a4_9 rfl hl (by decide) rfl (fun ls hl => ?_)
  refine lv_iload_n hx hb dJ6_bitCount_0f7a4_10 rfl (lv_at hl 0 rfl) ?_
  refine lv_ldcw (v := (858993459 : Int32)) hx hb hown (hts (.constant RJ6 266 (858993459)) (by decide +kernel)) dJ6_bitCount_0f7a4_11 ?_
  refine lv_iand hx hb dJ6_bitCount_0f7a4_14 ?_
  refine lv_iload_n hx hb dJ6_bitCount_0f7a4_15 rfl (lv_at hl 0 rfl) ?_
  refine lv_iconst (v := (2 : Int32)) hx hb dJ6_bitCount_0f7a4_16 (by decide) ?_
  refine lv_iushr (v := ((a0 - ((((a0).toUInt32 >>> (((1 : Int32)).toUInt32 &&& Int32.toUInt32 31)).toInt32) &&& (1431655765 : Int32))).toUInt32 >>> (((2 : Int32)).toUInt32 &&& Int32.toUInt32 31)).toInt32) hx hb dJ6_bitCount_0f7a4_17 rfl ?_
  refine lv_ldcw (v := (858993459 : Int32)) hx hb hown (hts (.constant RJ6 266 (858993459)) (by decide +kernel)) dJ6_bitCount_0f7a4_18 ?_
  refine lv_iand hx hb dJ6_bitCount_0f7a4_21 ?_
  refine lv_iadd hx hb dJ6_bitCount_0f7a4_22 ?_
  refine lv_istore_n (lv' := [(0, .int (((a0 - ((((a0).toUInt32 >>> (((1 : Int32)).toUInt32 &&& Int32.toUInt32 31)).toInt32) &&& (1431655765 : Int32))) &&& (858993459 : Int32)) + ((((a0 - ((((a0).toUInt32 >>> (((1 : Int32)).toUInt32 &&& Int32.toUInt32 31)).toInt32) &&& (1431655765 : Int32))).toUInt32 >>> (((2 : Int32)).toUInt32 &&& Int32.toUInt32 31)).toInt32) &&& (858993459 : Int32))))]) hx hb dJ6_bitCount_0f7a4_23 rfl hl (by decide) rfl (fun ls hl => ?_)
  refine lv_iload_n hx hb dJ6_bitCount_0f7a4_24 rfl (lv_at hl 0 rfl) ?_
  refine lv_iload_n hx hb dJ6_bitCount_0f7a4_25 rfl (lv_at hl 0 rfl) ?_
  refine lv_iconst (v := (4 : Int32)) hx hb dJ6_bitCount_0f7a4_26 (by decide) ?_
  refine lv_iushr (v := ((((a0 - ((((a0).toUInt32 >>> (((1 : Int32)).toUInt32 &&& Int32.toUInt32 31)).toInt32) &&& (1431655765 : Int32))) &&& (858993459 : Int32)) + ((((a0 - ((((a0).toUInt32 >>> (((1 : Int32)).toUInt32 &&& Int32.toUInt32 31)).toInt32) &&& (1431655765 : Int32))).toUInt32 >>> (((2 : Int32)).toUInt32 &&& Int32.toUInt32 31)).toInt32) &&& (858993459 : Int32))).toUInt32 >>> (((4 : Int32)).toUInt32 &&& Int32.toUInt32 31)).toInt32) hx hb dJ6_bitCount_0f7a4_27 rfl ?_
  refine lv_iadd hx hb dJ6_bitCount_0f7a4_28 ?_
  refine lv_ldcw (v := (252645135 : Int32)) hx hb hown (hts (.constant RJ6 267 (252645135)) (by decide +kernel)) dJ6_bitCount_0f7a4_29 ?_
  refine lv_iand hx hb dJ6_bitCount_0f7a4_32 ?_
  refine lv_istore_n (lv' := [(0, .int (((((a0 - ((((a0).toUInt32 >>> (((1 : Int32)).toUInt32 &&& Int32.toUInt32 31)).toInt32) &&& (1431655765 : Int32))) &&& (858993459 : Int32)) + ((((a0 - ((((a0).toUInt32 >>> (((1 : Int32)).toUInt32 &&& Int32.toUInt32 31)).toInt32) &&& (1431655765 : Int32))).toUInt32 >>> (((2 : Int32)).toUInt32 &&& Int32.toUInt32 31)).toInt32) &&& (858993459 : Int32))) + (((((a0 - ((((a0).toUInt32 >>> (((1 : Int32)).toUInt32 &&& Int32.toUInt32 31)).toInt32) &&& (1431655765 : Int32))) &&& (858993459 : Int32)) + ((((a0 - ((((a0).toUInt32 >>> (((1 : Int32)).toUInt32 &&& Int32.toUInt32 31)).toInt32) &&& (1431655765 : Int32))).toUInt32 >>> (((2 : Int32)).toUInt32 &&& Int32.toUInt32 31)).toInt32) &&& (858993459 : Int32))).toUInt32 >>> (((4 : Int32)).toUInt32 &&& Int32.toUInt32 31)).toInt32)) &&& (252645135 : Int32)))]) hx hb dJ6_bitCount_0f7a4_33 rfl hl (by decide) rfl (fun ls hl => ?_)
  refine lv_iload_n hx hb dJ6_bitCount_0f7a4_34 rfl (lv_at hl 0 rfl) ?_
  refine lv_iload_n hx hb dJ6_bitCount_0f7a4_35 rfl (lv_at hl 0 rfl) ?_
  refine lv_bipush (v := (8 : Int32)) hx hb dJ6_bitCount_0f7a4_36 (by decide) ?_
  refine lv_iushr (v := ((((((a0 - ((((a0).toUInt32 >>> (((1 : Int32)).toUInt32 &&& Int32.toUInt32 31)).toInt32) &&& (1431655765 : Int32))) &&& (858993459 : Int32)) + ((((a0 - ((((a0).toUInt32 >>> (((1 : Int32)).toUInt32 &&& Int32.toUInt32 31)).toInt32) &&& (1431655765 : Int32))).toUInt32 >>> (((2 : Int32)).toUInt32 &&& Int32.toUInt32 31)).toInt32) &&& (858993459 : Int32))) + (((((a0 - ((((a0).toUInt32 >>> (((1 : Int32)).toUInt32 &&& Int32.toUInt32 31)).toInt32) &&& (1431655765 : Int32))) &&& (858993459 : Int32)) + ((((a0 - ((((a0).toUInt32 >>> (((1 : Int32)).toUInt32 &&& Int32.toUInt32 31)).toInt32) &&& (1431655765 : Int32))).toUInt32 >>> (((2 : Int32)).toUInt32 &&& Int32.toUInt32 31)).toInt32) &&& (858993459 : Int32))).toUInt32 >>> (((4 : Int32)).toUInt32 &&& Int32.toUInt32 31)).toInt32)) &&& (252645135 : Int32)).toUInt32 >>> (((8 : Int32)).toUInt32 &&& Int32.toUInt32 31)).toInt32) hx hb dJ6_bitCount_0f7a4_38 rfl ?_
  refine lv_iadd hx hb dJ6_bitCount_0f7a4_39 ?_
  refine lv_istore_n (lv' := [(0, .int ((((((a0 - ((((a0).toUInt32 >>> (((1 : Int32)).toUInt32 &&& Int32.toUInt32 31)).toInt32) &&& (1431655765 : Int32))) &&& (858993459 : Int32)) + ((((a0 - ((((a0).toUInt32 >>> (((1 : Int32)).toUInt32 &&& Int32.toUInt32 31)).toInt32) &&& (1431655765 : Int32))).toUInt32 >>> (((2 : Int32)).toUInt32 &&& Int32.toUInt32 31)).toInt32) &&& (858993459 : Int32))) + (((((a0 - ((((a0).toUInt32 >>> (((1 : Int32)).toUInt32 &&& Int32.toUInt32 31)).toInt32) &&& (1431655765 : Int32))) &&& (858993459 : Int32)) + ((((a0 - ((((a0).toUInt32 >>> (((1 : Int32)).toUInt32 &&& Int32.toUInt32 31)).toInt32) &&& (1431655765 : Int32))).toUInt32 >>> (((2 : Int32)).toUInt32 &&& Int32.toUInt32 31)).toInt32) &&& (858993459 : Int32))).toUInt32 >>> (((4 : Int32)).toUInt32 &&& Int32.toUInt32 31)).toInt32)) &&& (252645135 : Int32)) + (((((((a0 - ((((a0).toUInt32 >>> (((1 : Int32)).toUInt32 &&& Int32.toUInt32 31)).toInt32) &&& (1431655765 : Int32))) &&& (858993459 : Int32)) + ((((a0 - ((((a0).toUInt32 >>> (((1 : Int32)).toUInt32 &&& Int32.toUInt32 31)).toInt32) &&& (1431655765 : Int32))).toUInt32 >>> (((2 : Int32)).toUInt32 &&& Int32.toUInt32 31)).toInt32) &&& (858993459 : Int32))) + (((((a0 - ((((a0).toUInt32 >>> (((1 : Int32)).toUInt32 &&& Int32.toUInt32 31)).toInt32) &&& (1431655765 : Int32))) &&& (858993459 : Int32)) + ((((a0 - ((((a0).toUInt32 >>> (((1 : Int32)).toUInt32 &&& Int32.toUInt32 31)).toInt32) &&& (1431655765 : Int32))).toUInt32 >>> (((2 : Int32)).toUInt32 &&& Int32.toUInt32 31)).toInt32) &&& (858993459 : Int32))).toUInt32 >>> (((4 : Int32)).toUInt32 &&& Int32.toUInt32 31)).toInt32)) &&& (252645135 : Int32)).toUInt32 >>> (((8 : Int32)).toUInt32 &&& Int32.toUInt32 31)).toInt32)))]) hx hb dJ6_bitCount_0f7a4_40 rfl hl (by decide) rfl (fun ls hl => ?_)
  refine lv_iload_n hx hb dJ6_bitCount_0f7a4_41 rfl (lv_at hl 0 rfl) ?_
  refine lv_iload_n hx hb dJ6_bitCount_0f7a4_42 rfl (lv_at hl 0 rfl) ?_
  refine lv_bipush (v := (16 : Int32)) hx hb dJ6_bitCount_0f7a4_43 (by decide) ?_
  refine lv_iushr (v := (((((((a0 - ((((a0).toUInt32 >>> (((1 : Int32)).toUInt32 &&& Int32.toUInt32 31)).toInt32) &&& (1431655765 : Int32))) &&& (858993459 : Int32)) + ((((a0 - ((((a0).toUInt32 >>> (((1 : Int32)).toUInt32 &&& Int32.toUInt32 31)).toInt32) &&& (1431655765 : Int32))).toUInt32 >>> (((2 : Int32)).toUInt32 &&& Int32.toUInt32 31)).toInt32) &&& (858993459 : Int32))) + (((((a0 - ((((a0).toUInt32 >>> (((1 : Int32)).toUInt32 &&& Int32.toUInt32 31)).toInt32) &&& (1431655765 : Int32))) &&& (858993459 : Int32)) + ((((a0 - ((((a0).toUInt32 >>> (((1 : Int32)).toUInt32 &&& Int32.toUInt32 31)).toInt32) &&& (1431655765 : Int32))).toUInt32 >>> (((2 : Int32)).toUInt32 &&& Int32.toUInt32 31)).toInt32) &&& (858993459 : Int32))).toUInt32 >>> (((4 : Int32)).toUInt32 &&& Int32.toUInt32 31)).toInt32)) &&& (252645135 : Int32)) + (((((((a0 - ((((a0).toUInt32 >>> (((1 : Int32)).toUInt32 &&& Int32.toUInt32 31)).toInt32) &&& (1431655765 : Int32))) &&& (858993459 : Int32)) + ((((a0 - ((((a0).toUInt32 >>> (((1 : Int32)).toUInt32 &&& Int32.toUInt32 31)).toInt32) &&& (1431655765 : Int32))).toUInt32 >>> (((2 : Int32)).toUInt32 &&& Int32.toUInt32 31)).toInt32) &&& (858993459 : Int32))) + (((((a0 - ((((a0).toUInt32 >>> (((1 : Int32)).toUInt32 &&& Int32.toUInt32 31)).toInt32) &&& (1431655765 : Int32))) &&& (858993459 : Int32)) + ((((a0 - ((((a0).toUInt32 >>> (((1 : Int32)).toUInt32 &&& Int32.toUInt32 31)).toInt32) &&& (1431655765 : Int32))).toUInt32 >>> (((2 : Int32)).toUInt32 &&& Int32.toUInt32 31)).toInt32) &&& (858993459 : Int32))).toUInt32 >>> (((4 : Int32)).toUInt32 &&& Int32.toUInt32 31)).toInt32)) &&& (252645135 : Int32)).toUInt32 >>> (((8 : Int32)).toUInt32 &&& Int32.toUInt32 31)).toInt32)).toUInt32 >>> (((16 : Int32)).toUInt32 &&& Int32.toUInt32 31)).toInt32) hx hb dJ6_bitCount_0f7a4_45 rfl ?_
  refine lv_iadd hx hb dJ6_bitCount_0f7a4_46 ?_
  refine lv_istore_n (lv' := [(0, .int (((((((a0 - ((((a0).toUInt32 >>> (((1 : Int32)).toUInt32 &&& Int32.toUInt32 31)).toInt32) &&& (1431655765 : Int32))) &&& (858993459 : Int32)) + ((((a0 - ((((a0).toUInt32 >>> (((1 : Int32)).toUInt32 &&& Int32.toUInt32 31)).toInt32) &&& (1431655765 : Int32))).toUInt32 >>> (((2 : Int32)).toUInt32 &&& Int32.toUInt32 31)).toInt32) &&& (858993459 : Int32))) + (((((a0 - ((((a0).toUInt32 >>> (((1 : Int32)).toUInt32 &&& Int32.toUInt32 31)).toInt32) &&& (1431655765 : Int32))) &&& (858993459 : Int32)) + ((((a0 - ((((a0).toUInt32 >>> (((1 : Int32)).toUInt32 &&& Int32.toUInt32 31)).toInt32) &&& (1431655765 : Int32))).toUInt32 >>> (((2 : Int32)).toUInt32 &&& Int32.toUInt32 31)).toInt32) &&& (858993459 : Int32))).toUInt32 >>> (((4 : Int32)).toUInt32 &&& Int32.toUInt32 31)).toInt32)) &&& (252645135 : Int32)) + (((((((a0 - ((((a0).toUInt32 >>> (((1 : Int32)).toUInt32 &&& Int32.toUInt32 31)).toInt32) &&& (1431655765 : Int32))) &&& (858993459 : Int32)) + ((((a0 - ((((a0).toUInt32 >>> (((1 : Int32)).toUInt32 &&& Int32.toUInt32 31)).toInt32) &&& (1431655765 : Int32))).toUInt32 >>> (((2 : Int32)).toUInt32 &&& Int32.toUInt32 31)).toInt32) &&& (858993459 : Int32))) + (((((a0 - ((((a0).toUInt32 >>> (((1 : Int32)).toUInt32 &&& Int32.toUInt32 31)).toInt32) &&& (1431655765 : Int32))) &&& (858993459 : Int32)) + ((((a0 - ((((a0).toUInt32 >>> (((1 : Int32)).toUInt32 &&& Int32.toUInt32 31)).toInt32) &&& (1431655765 : Int32))).toUInt32 >>> (((2 : Int32)).toUInt32 &&& Int32.toUInt32 31)).toInt32) &&& (858993459 : Int32))).toUInt32 >>> (((4 : Int32)).toUInt32 &&& Int32.toUInt32 31)).toInt32)) &&& (252645135 : Int32)).toUInt32 >>> (((8 : Int32)).toUInt32 &&& Int32.toUInt32 31)).toInt32)) + ((((((((a0 - ((((a0).toUInt32 >>> (((1 : Int32)).toUInt32 &&& Int32.toUInt32 31)).toInt32) &&& (1431655765 : Int32))) &&& (858993459 : Int32)) + ((((a0 - ((((a0).toUInt32 >>> (((1 : Int32)).toUInt32 &&& Int32.toUInt32 31)).toInt32) &&& (1431655765 : Int32))).toUInt32 >>> (((2 : Int32)).toUInt32 &&& Int32.toUInt32 31)).toInt32) &&& (858993459 : Int32))) + (((((a0 - ((((a0).toUInt32 >>> (((1 : Int32)).toUInt32 &&& Int32.toUInt32 31)).toInt32) &&& (1431655765 : Int32))) &&& (858993459 : Int32)) + ((((a0 - ((((a0).toUInt32 >>> (((1 : Int32)).toUInt32 &&& Int32.toUInt32 31)).toInt32) &&& (1431655765 : Int32))).toUInt32 >>> (((2 : Int32)).toUInt32 &&& Int32.toUInt32 31)).toInt32) &&& (858993459 : Int32))).toUInt32 >>> (((4 : Int32)).toUInt32 &&& Int32.toUInt32 31)).toInt32)) &&& (252645135 : Int32)) + (((((((a0 - ((((a0).toUInt32 >>> (((1 : Int32)).toUInt32 &&& Int32.toUInt32 31)).toInt32) &&& (1431655765 : Int32))) &&& (858993459 : Int32)) + ((((a0 - ((((a0).toUInt32 >>> (((1 : Int32)).toUInt32 &&& Int32.toUInt32 31)).toInt32) &&& (1431655765 : Int32))).toUInt32 >>> (((2 : Int32)).toUInt32 &&& Int32.toUInt32 31)).toInt32) &&& (858993459 : Int32))) + (((((a0 - ((((a0).toUInt32 >>> (((1 : Int32)).toUInt32 &&& Int32.toUInt32 31)).toInt32) &&& (1431655765 : Int32))) &&& (858993459 : Int32)) + ((((a0 - ((((a0).toUInt32 >>> (((1 : Int32)).toUInt32 &&& Int32.toUInt32 31)).toInt32) &&& (1431655765 : Int32))).toUInt32 >>> (((2 : Int32)).toUInt32 &&& Int32.toUInt32 31)).toInt32) &&& (858993459 : Int32))).toUInt32 >>> (((4 : Int32)).toUInt32 &&& Int32.toUInt32 31)).toInt32)) &&& (252645135 : Int32)).toUInt32 >>> (((8 : Int32)).toUInt32 &&& Int32.toUInt32 31)).toInt32)).toUInt32 >>> (((16 : Int32)).toUInt32 &&& Int32.toUInt32 31)).toInt32)))]) hx hb dJ6_bitCount_0f7a4_47 rfl hl (by decide) rfl (fun ls hl => ?_)
  refine lv_iload_n hx hb dJ6_bitCount_0f7a4_48 rfl (lv_at hl 0 rfl) ?_
  refine lv_bipush (v := (63 : Int32)) hx hb dJ6_bitCount_0f7a4_49 (by decide) ?_
  refine lv_iand hx hb dJ6_bitCount_0f7a4_51 ?_
  exact ri_ret hx hb hr hlocks h dJ6_bitCount_0f7a4_52
