/-! THE LAW, on the pure side: every script comes to its end -/
theorem lg_self (x : Int64) : lg_cmp x x = 0 := by
  unfold lg_cmp
  rw [if_neg (fun q => by have := Int64.lt_iff_toInt_lt.mp q; omega), if_pos rfl]
theorem rel_0 : Rel 0 (fun _ => 0) (fun _ _ => 0) (fun k => if k = 12 then -1 else 0) (fun _ _ => 0) := ⟨0, 0, 0, 0, 0, ⟨⟨rfl, rfl, by omega⟩, fun _ => 0, fun i hi => absurd hi (by omega)⟩, ⟨rfl, rfl, rfl⟩, ⟨⟨⟨by omega, by omega, by omega⟩, fun q => absurd q (by omega), fun s hs => absurd hs (by omega), fun s hs => absurd hs (by omega), fun i j hi => absurd hi (by omega), fun s hs => absurd hs (by omega)⟩, ⟨rfl, rfl, rfl⟩, fun q => absurd q (by omega), fun s hs => absurd hs (by omega), fun s hs => absurd hs (by omega), fun s hs => absurd hs (by omega)⟩, rfl, ⟨rfl, rfl, by omega⟩, Or.inl ⟨rfl, Or.inl rfl⟩⟩
def lawP (L : Nat) (xs : Nat → Int32) (n : Nat) (i : Int32) : Int32 → (Nat → Int32) → (Nat → Nat → Int32) → Int64 → PX := fun r1 v1 f1 z1 r2 v2 f2 z2 => (r1 = r2 → wp_law L xs n i v1 f1 z1 v2 f2 z2) ∧ (¬ r1 = r2 → False)
set_option maxHeartbeats 4000000 in
theorem law_pure {L : Nat} {xs : Nat → Int32} (hL : L ≤ 2048) : ∀ j k, L < 4 * k + 4 * j + 4 → 4 * k ≤ L + 3 → ∀ (vx : Nat → Int32) (fx : Nat → Nat → Int32) (zx : Int64) (vy : Nat → Int32) (fy : Nat → Nat → Int32) (zy : Int64), Rel k vx fx vy fy → wp_law L xs (j + 1) (nI (4 * k)) vx fx zx vy fy zy := by
  have e4 : nI L - 4 = nI L - nI 4 := rfl
  intro j
  induction j with
  | zero =>
    intro k h1 h2 vx fx zx vy fy zy hR
    rw [wp_law]
    refine br_t ?_ trivial
    rw [Int32.lt_iff_toInt_lt, e4, pk_sub_toInt (by omega) (by omega), nI_toInt (by omega)]
    omega
  | succ j ih =>
    intro k h1 h2 vx fx zx vy fy zy hR
    by_cases hk : L < 4 * k + 4
    · rw [wp_law]
      refine br_t ?_ trivial
      rw [Int32.lt_iff_toInt_lt, e4, pk_sub_toInt (by omega) (by omega), nI_toInt (by omega)]
      omega
    · have nx : ∀ vx fx zx vy fy zy, Rel (k + 1) vx fx vy fy → wp_law L xs (j + 1) (nI (4 * k) + 4) vx fx zx vy fy zy := by
        intro vx fx zx vy fy zy hR
        have := ih (k + 1) (by omega) (by omega) vx fx zx vy fy zy hR
        rw [show nI (4 * k) + 4 = nI (4 * (k + 1)) from nI_add (4 * k) 4]
        exact this
      rw [wp_law]
      have i0 : vp_in (nI (4 * k)) L := vp_in_nI (by omega) (by omega)
      have i1 : vp_in (nI (4 * k) + 1) L := by
        rw [nI_1]
        exact vp_in_nI (by omega) (by omega)
      have i2 : vp_in (nI (4 * k) + 2) L := by
        rw [a2]
        exact vp_in_nI (by omega) (by omega)
      have i3 : vp_in (nI (4 * k) + 3) L := by
        rw [a3]
        exact vp_in_nI (by omega) (by omega)
      have ex : ¬ nI L - (4 : Int32) < nI (4 * k) := by
        rw [Int32.lt_iff_toInt_lt, e4, pk_sub_toInt (by omega) (by omega), nI_toInt (by omega)]
        omega
      refine br_f ex ⟨i0, ?_⟩
      generalize nI (4 * k) = i at *
      have hP : Hp k (lawP L xs (j + 1) (i + 4)) := fun r v f z w g y hR => ⟨fun _ => nx v f z w g y hR, fun c => c rfl⟩
      have hr : ∀ r : Int32, (r = r → wp_law L xs (j + 1) (i + 4) vx fx zx vy fy zy) ∧ (¬ r = r → False) := fun r => ⟨fun _ => nx _ _ _ _ _ _ hR.up, fun c => c rfl⟩
      have k9 : k < 1000 := by omega
      refine ⟨fun _ => ⟨i1, s_letter (P := lawP L xs (j + 1) (i + 4)) hR (fun _ _ _ _ hw => ⟨i1, hw⟩) hP⟩, fun _ => s_blank (P := lawP L xs (j + 1) (i + 4)) hR (fun _ _ _ _ hw => hw) hP, fun _ => s_fault (P := lawP L xs (j + 1) (i + 4)) hR (fun _ _ _ _ hw => hw) hP, fun _ => s_room k9 (P := lawP L xs (j + 1) (i + 4)) hR (fun _ _ _ _ hw => hw) hP, fun _ => ⟨i1, s_fits (P := fun r1 r2 => (r1 = r2 → wp_law L xs (j + 1) (i + 4) vx fx zx vy fy zy) ∧ (¬ r1 = r2 → False)) hR (fun _ hw => ⟨i1, hw⟩) hr⟩, fun _ => ⟨i1, i2, s_about (P := fun r1 r2 v2 f2 z2 => (r1 = r2 → wp_law L xs (j + 1) (i + 4) vx fx zx v2 f2 z2) ∧ (¬ r1 = r2 → False)) hR (fun _ hw => ⟨i1, i2, hw⟩) (fun r w2 g2 y2 hR2 => ⟨fun _ => nx _ _ _ _ _ _ hR2, fun c => c rfl⟩)⟩, fun _ => ⟨i1, i2, s_as (P := fun r1 r2 => (r1 = r2 → wp_law L xs (j + 1) (i + 4) vx fx zx vy fy zy) ∧ (¬ r1 = r2 → False)) hR (fun _ hw => ⟨i1, i2, hw⟩) hr⟩, fun _ => ⟨i1, i2, s_want (P := lawP L xs (j + 1) (i + 4)) hR (fun _ _ _ _ hw => ⟨i1, i2, hw⟩) hP⟩, fun _ => ⟨i1, i2, s_would (P := fun r1 r2 => (r1 = r2 → wp_law L xs (j + 1) (i + 4) vx fx zx vy fy zy) ∧ (¬ r1 = r2 → False)) hR (fun _ hw => ⟨i1, i2, hw⟩) hr⟩, fun _ => ⟨i1, i2, s_begin (P := lawP L xs (j + 1) (i + 4)) hR (fun _ _ _ _ hw => ⟨i1, i2, hw⟩) hP⟩, fun _ => ⟨i1, i2, s_end (P := lawP L xs (j + 1) (i + 4)) hR (fun _ _ _ _ hw => ⟨i1, i2, hw⟩) hP⟩, fun _ => ⟨i1, i2, s_sentence (P := fun r1 r2 => (r1 = r2 → wp_law L xs (j + 1) (i + 4) vx fx zx vy fy zy) ∧ (¬ r1 = r2 → False)) hR (fun _ hw => ⟨i1, i2, hw⟩) hr⟩, fun _ => ⟨i1, s_match (P := lawP L xs (j + 1) (i + 4)) hR (fun _ _ _ _ hw => ⟨i1, hw⟩) hP⟩, fun _ => ⟨i1, i2, i3, s_hear (P := lawP L xs (j + 1) (i + 4)) hR (fun _ _ _ _ hw => ⟨i1, i2, i3, hw⟩) hP⟩, fun _ => s_forget (P := lawP L xs (j + 1) (i + 4)) hR (fun _ _ _ _ hw => hw) hP, fun _ => ⟨i1, i2, i3, s_talks (P := lawP L xs (j + 1) (i + 4)) hR (fun _ _ _ _ hw => ⟨i1, i2, i3, hw⟩) hP⟩, fun _ => s_image (P := lawP L xs (j + 1) (i + 4)) hR (fun _ _ _ _ hw => hw) hP, fun _ => s_restore k9 (P := lawP L xs (j + 1) (i + 4)) hR (fun _ _ _ _ hw => hw) hP, fun _ => ⟨i1, s_count (P := fun r1 r2 => (r1 = r2 → wp_law L xs (j + 1) (i + 4) vx fx zx vy fy zy) ∧ (¬ r1 = r2 → False)) hR (fun _ hw => ⟨i1, hw⟩) hr⟩, fun _ => s_digest (P := fun r1 v1 f1 z1 r2 v2 f2 z2 => (lg_cmp r1 r2 = 0 → wp_law L xs (j + 1) (i + 4) v1 f1 z1 v2 f2 z2) ∧ (¬ lg_cmp r1 r2 = 0 → False)) hR (fun _ _ _ _ hw => hw) (fun r v f z w g y hR2 => ⟨fun _ => nx _ _ _ _ _ _ hR2, fun c => c (lg_self r)⟩), fun _ => nx _ _ _ _ _ _ hR.up⟩
