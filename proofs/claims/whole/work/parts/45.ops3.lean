/-! end, image, restore -/
theorem used_end {e g : Nat → Int32} {m k s s' : Nat} {r : Int32} (hk : k < m) (hek : e k = -1) (hends : ∀ a, a < m → ¬ e a = -1 → Rg 6 (g a)) (hr : Rg 6 r) (hs : s < 4) (hs' : s' < 4) : g_used (upd e k (nI s)) (upd g k r) (nI s') m = if s' = s then g_used e g (nI s') m ||| ((1 : Int32) <<< (r &&& 31)) else g_used e g (nI s') m := by
  have old : ∀ a, a < m → e a = nI s' → Rg 6 (g a) := fun a ha h => hends a ha (fun q => nI_m1 (k := s') (by omega) (h.symm.trans q))
  have new : ∀ a, a < m → upd e k (nI s) a = nI s' → Rg 6 (upd g k r a) := fun a ha h => by
    by_cases q : a = k
    · rw [q, pk_us]
      exact hr
    · rw [pk_un q] at h ⊢
      exact old a ha h
  have hm1 : ¬ nI s' = -1 := nI_m1 (by omega)
  by_cases q : s' = s
  · subst q
    rw [if_pos rfl]
    refine bits_eq (g_used_rg new) ((g_used_rg old).or6 hr) (fun j hj => ?_)
    rw [has_used hj new, has_bit ((g_used_rg old)) hr hj, has_used hj old]
    refine ⟨?_, ?_⟩
    · rintro ⟨a, ha, h1, h2⟩
      by_cases qa : a = k
      · rw [qa, pk_us] at h2
        exact Or.inr h2
      · rw [pk_un qa] at h1 h2
        exact Or.inl ⟨a, ha, h1, h2⟩
    · rintro (⟨a, ha, h1, h2⟩ | h)
      · have qa : a ≠ k := fun q => by
          rw [q, hek] at h1
          exact hm1 h1.symm
        exact ⟨a, ha, by rw [pk_un qa]; exact h1, by rw [pk_un qa]; exact h2⟩
      · exact ⟨k, hk, pk_us, by rw [pk_us]; exact h⟩
  · rw [if_neg q]
    refine bits_eq (g_used_rg new) (g_used_rg old) (fun j hj => ?_)
    rw [has_used hj new, has_used hj old]
    refine ⟨?_, ?_⟩
    · rintro ⟨a, ha, h1, h2⟩
      by_cases qa : a = k
      · rw [qa, pk_us] at h1
        exact absurd ((nI_eq (by omega) (by omega)).mp h1) (fun w => q w.symm)
      · rw [pk_un qa] at h1 h2
        exact ⟨a, ha, h1, h2⟩
    · rintro ⟨a, ha, h1, h2⟩
      have qa : a ≠ k := fun q => by
        rw [q, hek] at h1
        exact hm1 h1.symm
      exact ⟨a, ha, by rw [pk_un qa]; exact h1, by rw [pk_un qa]; exact h2⟩
theorem s_end {k : Nat} {v : Nat → Int32} {f : Nat → Nat → Int32} {w : Nat → Int32} {g : Nat → Nat → Int32} {z y : Int64} {Q : PX} {P : Int32 → (Nat → Int32) → (Nat → Nat → Int32) → Int64 → PX} (hR : Rel k v f w g) {x x2 : Int32} (hQ : ∀ r1 v1 f1 z1, wp_X7_end (P r1 v1 f1 z1) w g y x x2 → Q r1 v1 f1 z1) (hP : Hp k P) : wp_X6_end Q v f z x x2 := by
  obtain ⟨n, N, m, h, r, hPg, ⟨hN, hm, hh⟩, ⟨hW, hRY⟩, hc, ⟨hr1, hr2, hr3⟩, hI⟩ := id hR
  have hN4 := hW.1.1
  have hm8 := hW.1.2.1
  have out : ¬ ((∃ a, a < m ∧ x = nI a) ∧ ∃ s, s < N ∧ x2 = nI s) → Q (-101) v f z := fun c => hQ _ _ _ _ (by
    unfold wp_X7_end
    exact q_isSentence hRY.1.2.1 hm8 (fun a ha e => br_f (by decide) (q_isSpeaker hRY.1.1 hN4 (fun s hs e2 => absurd ⟨⟨a, ha, e⟩, s, hs, e2⟩ c) (fun _ => br_t rfl (hP _ _ _ _ _ _ _ hR.up)))) (fun _ => br_t rfl (hP _ _ _ _ _ _ _ hR.up)))
  unfold wp_X6_end
  refine p_isSentence hm hm8 (fun a ha e => br_f (by decide) (p_isSpeaker hN hN4 (fun s hs e2 => br_f (by decide) ?_) (fun c => br_t rfl (out (fun e => c e.2))))) (fun c => br_t rfl (out (fun e => c e.1)))
  subst e
  subst e2
  obtain ⟨e50, e51, e52, e53⟩ := hRY.2.2.2.1 a ha
  obtain ⟨hb8, hb9, hb10⟩ := hW.2.2.2.1 a ha
  obtain ⟨o, ho, eo⟩ := hb9
  have yrun : ∀ r1 v1 f1 z1, ((f 10 a = -1 → (f 8 a = nI s → P r1 v1 f1 z1 (-103) w g y) ∧ (¬ f 8 a = nI s → (g_now f (g_uX f m) s o = -1 → P r1 v1 f1 z1 (g_now f (g_uX f m) s o) w g y) ∧ (¬ g_now f (g_uX f m) s o = -1 → P r1 v1 f1 z1 (g_now f (g_uX f m) s o) w (va_up (va_up g 5 (upd (upd (g 5) (4 * a + 2) (nI s)) (4 * a + 3) (g_now f (g_uX f m) s o))) 4 (upd (g 4) (3 * s + 2) (g_uX f m s ||| ((1 : Int32) <<< (g_now f (g_uX f m) s o &&& 31))))) y))) ∧ (¬ f 10 a = -1 → P r1 v1 f1 z1 (-103) w g y)) → Q r1 v1 f1 z1 := by
    intro r1 v1 f1 z1 hq
    refine hQ _ _ _ _ ?_
    unfold wp_X7_end
    refine q_isSentence hRY.1.2.1 hm8 (fun _ _ _ => br_f (by decide) (q_isSpeaker hRY.1.1 hN4 (fun _ _ _ => br_f (by decide) ?_) (fun c => absurd ⟨s, hs, rfl⟩ c))) (fun c => absurd ⟨a, ha, rfl⟩ c)
    simp (disch := omega) only [m4, m3, a2, a3, nI_1, nI_clamp]
    rw [e50, e51, e52, eo, (hRY.2.2.1 s hs).2.2]
    refine ⟨vp_in_nI (by omega) (by omega), fun q1 => ⟨vp_in_nI (by omega) (by omega), fun q2 => ((hq.1 q1).1 q2), fun q2 => ⟨vp_in_nI (by omega) (by omega), q_wouldOf hW hRY hs ho ⟨fun q3 => ((hq.1 q1).2 q2).1 q3, fun q3 => ⟨vp_in_nI (by omega) (by omega), vp_in_nI (by omega) (by omega), vp_in_nI (by omega) (by omega), vp_in_nI (by omega) (by omega), ?_⟩⟩⟩⟩, fun q1 => hq.2 q1⟩
    have ev : ∀ A B : Nat → Int32, va_up (va_up g 5 A) 5 B = va_up g 5 B := fun A B => by
      funext i
      by_cases q : i = 5
      · rw [q, up_eq, up_eq]
      · rw [up_ne q, up_ne q, up_ne q]
    rw [ev]
    exact ((hq.1 q1).2 q2).2 q3
  refine p_isOpen (by omega) (fun q1 => br_f (by decide) ?_) (fun q1 => br_t rfl (yrun _ _ _ _ ⟨fun c => absurd c q1, fun _ => hP _ _ _ _ _ _ _ hR.up⟩))
  rw [nI_clamp (by omega), eo]
  refine ⟨vp_in_nI (by omega) (by omega), fun q2 => yrun _ _ _ _ ⟨fun _ => ⟨fun _ => hP _ _ _ _ _ _ _ hR.up, fun c => absurd q2 c⟩, fun c => absurd q1 c⟩, fun q2 => ⟨vp_in_nI (by omega) (by omega), p_endingNow hm hm8 (by omega) ho ⟨fun q3 => yrun _ _ _ _ ⟨fun _ => ⟨fun c => absurd c q2, fun _ => ⟨fun _ => hP _ _ _ _ _ _ _ hR.up, fun c => absurd q3 c⟩⟩, fun c => absurd q1 c⟩, fun q3 => ⟨vp_in_nI (by omega) (by omega), vp_in_nI (by omega) (by omega), yrun _ _ _ _ ⟨fun _ => ⟨fun c => absurd c q2, fun _ => ⟨fun c => absurd c q3, fun _ => hP _ _ _ _ _ _ _ ?_⟩⟩, fun c => absurd q1 c⟩⟩⟩⟩⟩
  have hr6 : Rg 6 (g_now f (g_uX f m) s o) := (g_end_rng (hW.2.2.1 s hs).2).resolve_left q3
  generalize g_now f (g_uX f m) s o = t at *
  have hends := hW.ends
  have e8 : ∀ A B : Nat → Int32, (∀ i, i ≠ 10 → i ≠ 11 → va_up (va_up f 10 A) 11 B i = f i) ∧ va_up (va_up f 10 A) 11 B 10 = A ∧ va_up (va_up f 10 A) 11 B 11 = B := fun A B => ⟨fun i h1 h2 => by rw [up_ne h2, up_ne h1], by rw [up_ne (by decide), up_eq], up_eq⟩
  obtain ⟨e8o, e810, e811⟩ := e8 (upd (f 10) a (nI s)) (upd (f 11) a t)
  generalize va_up (va_up f 10 (upd (f 10) a (nI s))) 11 (upd (f 11) a t) = f2 at *
  have eu : ∀ s', s' < 4 → g_uX f2 m s' = if s' = s then g_uX f m s' ||| ((1 : Int32) <<< (t &&& 31)) else g_uX f m s' := by
    intro s' hs'
    unfold g_uX
    rw [e810, e811]
    exact used_end ha q1 hends hr6 (by omega) hs'
  obtain ⟨⟨a1, a2', a3'⟩, b1, b2, b3, b4, b5⟩ := hW
  obtain ⟨⟨c1, c2, c3⟩, d1, d2, d3, d4⟩ := hRY
  refine ⟨n, N, m, h, r, hPg.cong rfl (e8o 0 (by decide) (by decide)) rfl (by rw [up_ne (by decide), up_ne (by decide)]), ⟨hN, hm, hh⟩, ⟨⟨⟨a1, a2', a3'⟩, ?_, ?_, fun b hb => ?_, fun i j hi hj => ?_, ?_⟩, ⟨c1, c2, c3⟩, ?_, fun s' hs' => ?_, fun b hb => ?_, ?_⟩, hc, ⟨hr1, hr2, by omega⟩, hI.cong (fun i hi => rfl) (fun i hi => e8o i (by omega) (by omega)) (fun i hi => rfl) (fun i hi => by rw [up_ne (by omega), up_ne (by omega)])⟩
  · rw [e8o 4 (by decide) (by decide)]
    exact b1
  · rw [e8o 5 (by decide) (by decide), e8o 7 (by decide) (by decide)]
    exact b2
  · rw [e8o 8 (by decide) (by decide), e8o 9 (by decide) (by decide), e810, e811]
    by_cases q : b = a
    · rw [q, pk_us, pk_us]
      exact ⟨hb8, ⟨o, ho, eo⟩, Or.inr ⟨⟨s, hs, rfl⟩, hr6⟩⟩
    · rw [pk_un q, pk_un q]
      exact b3 b hb
  · rw [e8o 8 (by decide) (by decide), e810]
    intro h1 h2 h3
    by_cases qi : i = a
    · rw [qi, pk_us] at h2
      exact absurd h2 (nI_m1 (by omega))
    · by_cases qj : j = a
      · rw [qj, pk_us] at h3
        exact absurd h3 (nI_m1 (by omega))
      · rw [pk_un qi] at h2
        rw [pk_un qj] at h3
        exact b4 i j hi hj h1 h2 h3
  · rw [e8o 12 (by decide) (by decide), e8o 13 (by decide) (by decide), e8o 14 (by decide) (by decide)]
    exact b5
  · rw [up_ne (by decide), up_ne (by decide), e8o 4 (by decide) (by decide)]
    exact d1
  · rw [up_eq, eu s' (by omega), e8o 5 (by decide) (by decide), e8o 7 (by decide) (by decide), pk_un (show 3 * s' ≠ 3 * s + 2 by omega), pk_un (show 3 * s' + 1 ≠ 3 * s + 2 by omega)]
    obtain ⟨h1, h2, h3⟩ := d2 s' hs'
    refine ⟨h1, h2, ?_⟩
    by_cases q : s' = s
    · rw [if_pos q, q, pk_us]
    · rw [if_neg q, pk_un (by omega)]
      exact h3
  · rw [up_ne (by decide), up_eq, e8o 8 (by decide) (by decide), e8o 9 (by decide) (by decide), e810, e811]
    obtain ⟨h1, h2, h3, h4⟩ := d3 b hb
    by_cases q : b = a
    · rw [q] at h1 h2 ⊢
      rw [pk_un (show 4 * a ≠ 4 * a + 3 by omega), pk_un (show 4 * a ≠ 4 * a + 2 by omega), pk_un (show 4 * a + 1 ≠ 4 * a + 3 by omega), pk_un (show 4 * a + 1 ≠ 4 * a + 2 by omega), pk_un (show 4 * a + 2 ≠ 4 * a + 3 by omega), pk_us, pk_us, pk_us, pk_us]
      exact ⟨h1, h2, rfl, rfl⟩
    · rw [pk_un q, pk_un q, pk_un (show 4 * b ≠ 4 * a + 3 by omega), pk_un (show 4 * b ≠ 4 * a + 2 by omega), pk_un (show 4 * b + 1 ≠ 4 * a + 3 by omega), pk_un (show 4 * b + 1 ≠ 4 * a + 2 by omega), pk_un (show 4 * b + 2 ≠ 4 * a + 3 by omega), pk_un (show 4 * b + 2 ≠ 4 * a + 2 by omega), pk_un (show 4 * b + 3 ≠ 4 * a + 3 by omega), pk_un (show 4 * b + 3 ≠ 4 * a + 2 by omega)]
      exact ⟨h1, h2, h3, h4⟩
  · rw [up_ne (by decide), up_ne (by decide), e8o 12 (by decide) (by decide), e8o 13 (by decide) (by decide), e8o 14 (by decide) (by decide)]
    exact d4
theorem cpy_lo {a b : Nat → Int32} {n j : Nat} (h : j < n) : va_cpy a b 0 0 n j = a j := by
  rw [pk_cpy_in (by omega) (by omega), Nat.zero_add, Nat.sub_zero]
theorem s_image {k : Nat} {v : Nat → Int32} {f : Nat → Nat → Int32} {w : Nat → Int32} {g : Nat → Nat → Int32} {z y : Int64} {Q : PX} {P : Int32 → (Nat → Int32) → (Nat → Nat → Int32) → Int64 → PX} (hR : Rel k v f w g) (hQ : ∀ r1 v1 f1 z1, wp_X7_image (P r1 v1 f1 z1) w g y → Q r1 v1 f1 z1) (hP : Hp k P) : wp_X6_image Q v f z := by
  obtain ⟨n, N, m, h, r, hPg, ⟨hN, hm, hh⟩, ⟨hW, hRY⟩, hc, ⟨hr1, hr2, hr3⟩, hI⟩ := id hR
  have hN4 := hW.1.1
  unfold wp_X6_image
  refine pk_eq N 0 (fun q => hQ _ _ _ _ ?_) (fun q => ?_) hN
  · unfold wp_X7_image
    exact q_lacks hRY.1.1 hN4 (fun _ => br_f (by decide) (hP _ _ _ _ _ _ _ hR.up)) (fun c => absurd c (by omega))
  · unfold wp_X4_copyFrom_im
    refine hQ _ _ _ _ ?_
    unfold wp_X7_image
    refine q_lacks hRY.1.1 hN4 (fun c => absurd c q) (fun _ => br_t rfl ?_)
    have e11 : ∀ a b c : Int32, upd (upd (upd v 11 a) 12 b) 13 c 11 = a := fun a b c => by rw [pk_un (by decide), pk_un (by decide), pk_us]
    rw [e11, hm, hRY.1.2.1]
    have e8 : ∀ A B C D E F G H : Nat → Int32, (∀ i, i < 15 → va_up (va_up (va_up (va_up (va_up (va_up (va_up (va_up f 15 A) 16 B) 17 C) 18 D) 19 E) 20 F) 21 G) 22 H i = f i) ∧ (va_up (va_up (va_up (va_up (va_up (va_up (va_up (va_up f 15 A) 16 B) 17 C) 18 D) 19 E) 20 F) 21 G) 22 H 15 = A ∧ va_up (va_up (va_up (va_up (va_up (va_up (va_up (va_up f 15 A) 16 B) 17 C) 18 D) 19 E) 20 F) 21 G) 22 H 16 = B ∧ va_up (va_up (va_up (va_up (va_up (va_up (va_up (va_up f 15 A) 16 B) 17 C) 18 D) 19 E) 20 F) 21 G) 22 H 17 = C ∧ va_up (va_up (va_up (va_up (va_up (va_up (va_up (va_up f 15 A) 16 B) 17 C) 18 D) 19 E) 20 F) 21 G) 22 H 18 = D ∧ va_up (va_up (va_up (va_up (va_up (va_up (va_up (va_up f 15 A) 16 B) 17 C) 18 D) 19 E) 20 F) 21 G) 22 H 19 = E ∧ va_up (va_up (va_up (va_up (va_up (va_up (va_up (va_up f 15 A) 16 B) 17 C) 18 D) 19 E) 20 F) 21 G) 22 H 20 = F ∧ va_up (va_up (va_up (va_up (va_up (va_up (va_up (va_up f 15 A) 16 B) 17 C) 18 D) 19 E) 20 F) 21 G) 22 H 21 = G ∧ va_up (va_up (va_up (va_up (va_up (va_up (va_up (va_up f 15 A) 16 B) 17 C) 18 D) 19 E) 20 F) 21 G) 22 H 22 = H) := fun A B C D E F G H => ⟨fun i hi => by rw [up_ne (by omega), up_ne (by omega), up_ne (by omega), up_ne (by omega), up_ne (by omega), up_ne (by omega), up_ne (by omega), up_ne (by omega)], rfl, rfl, rfl, rfl, rfl, rfl, rfl, rfl⟩
    obtain ⟨eo, e15, e16, e17, e18, e19, e20, e21, e22⟩ := e8 (va_cpy (f 7) (f 15) 0 0 4) (va_cpy (f 8) (f 16) 0 0 8) (va_cpy (f 9) (f 17) 0 0 8) (va_cpy (f 10) (f 18) 0 0 8) (va_cpy (f 11) (f 19) 0 0 8) (va_cpy (f 12) (f 20) 0 0 8) (va_cpy (f 13) (f 21) 0 0 8) (va_cpy (f 14) (f 22) 0 0 8)
    generalize va_up (va_up (va_up (va_up (va_up (va_up (va_up (va_up f 15 (va_cpy (f 7) (f 15) 0 0 4)) 16 (va_cpy (f 8) (f 16) 0 0 8)) 17 (va_cpy (f 9) (f 17) 0 0 8)) 18 (va_cpy (f 10) (f 18) 0 0 8)) 19 (va_cpy (f 11) (f 19) 0 0 8)) 20 (va_cpy (f 12) (f 20) 0 0 8)) 21 (va_cpy (f 13) (f 21) 0 0 8)) 22 (va_cpy (f 14) (f 22) 0 0 8) = f2 at *
    have g8 : ∀ A B C : Nat → Int32, (∀ i, i < 11 → va_up (va_up (va_up g 11 A) 12 B) 13 C i = g i) ∧ va_up (va_up (va_up g 11 A) 12 B) 13 C 11 = A ∧ va_up (va_up (va_up g 11 A) 12 B) 13 C 12 = B ∧ va_up (va_up (va_up g 11 A) 12 B) 13 C 13 = C := fun A B C => ⟨fun i hi => by rw [up_ne (by omega), up_ne (by omega), up_ne (by omega)], rfl, rfl, rfl⟩
    obtain ⟨go, g11, g12, g13⟩ := g8 (va_cpy (g 4) (g 11) 0 0 12) (va_cpy (g 5) (g 12) 0 0 32) (va_cpy (g 8) (g 13) 0 0 24)
    generalize va_up (va_up (va_up g 11 (va_cpy (g 4) (g 11) 0 0 12)) 12 (va_cpy (g 5) (g 12) 0 0 32)) 13 (va_cpy (g 8) (g 13) 0 0 24) = g2 at *
    have hS : Sc f N m h w g := ⟨hW, hRY⟩
    refine hP _ _ _ _ _ _ _ ⟨n, N, m, h, r, hPg.cong (by rw [pk_un (by decide), pk_un (by decide), pk_un (by decide), pk_un (by decide)]) (eo 0 (by decide)) (by rw [pk_un (by decide), pk_un (by decide), pk_un (by decide), pk_un (by decide)]) (go 0 (by decide)), ⟨?_, ?_, ?_⟩, hS.cong (EqF.of (fun i _ _ i3 => eo i (by omega))) (EqG.of (fun i hi => go i (by omega))) ⟨?_, ?_, ?_⟩, ?_, ⟨?_, ?_, by omega⟩, Or.inr ⟨pk_us, ?_, ?_, m, h, ?_, ?_, hS.cong ⟨fun j hj => ⟨?_, ?_, ?_⟩, fun j hj => ⟨⟨?_, ?_, ?_, ?_⟩, ?_, ?_, ?_⟩⟩ ⟨fun j hj => ?_, fun j hj => ?_, fun j hj => ?_, fun j hj => ?_⟩ ⟨?_, ?_, ?_⟩⟩⟩
    · rw [pk_un (by decide), pk_un (by decide), pk_un (by decide), pk_un (by decide)]
      exact hN
    · rw [pk_un (by decide), pk_un (by decide), pk_un (by decide), pk_un (by decide)]
      exact hm
    · rw [pk_un (by decide), pk_un (by decide), pk_un (by decide), pk_un (by decide)]
      exact hh
    · rw [pk_un (by decide), pk_un (by decide), pk_un (by decide), pk_un (by decide)]
    · rw [pk_un (by decide), pk_un (by decide), pk_un (by decide), pk_un (by decide)]
    · rw [pk_un (by decide), pk_un (by decide), pk_un (by decide), pk_un (by decide)]
    · rw [pk_un (by decide), pk_un (by decide), pk_un (by decide), pk_un (by decide), pk_un (by decide), pk_un (by decide), pk_un (by decide), pk_un (by decide)]
      exact hc
    · rw [pk_un (by decide), pk_un (by decide), pk_un (by decide), pk_un (by decide)]
      exact hr1
    · rw [pk_un (by decide), pk_un (by decide), pk_un (by decide), pk_un (by decide)]
      exact hr2
    · rw [pk_us]
      exact hr2
    · rw [pk_un (by decide), pk_us, pk_un (by decide), pk_un (by decide), pk_us]
      exact hc
    · rw [pk_un (by decide), pk_un (by decide), pk_un (by decide), pk_us]
    · rw [pk_un (by decide), pk_un (by decide), pk_us]
      exact hh
    · show f2 4 j = f 4 j
      rw [eo 4 (by decide)]
    · show f2 5 j = f 5 j
      rw [eo 5 (by decide)]
    · show f2 15 j = f 7 j
      rw [e15, cpy_lo hj]
    · show f2 16 j = f 8 j
      rw [e16, cpy_lo hj]
    · show f2 17 j = f 9 j
      rw [e17, cpy_lo hj]
    · show f2 18 j = f 10 j
      rw [e18, cpy_lo hj]
    · show f2 19 j = f 11 j
      rw [e19, cpy_lo hj]
    · show f2 20 j = f 12 j
      rw [e20, cpy_lo hj]
    · show f2 21 j = f 13 j
      rw [e21, cpy_lo hj]
    · show f2 22 j = f 14 j
      rw [e22, cpy_lo hj]
    · show g2 3 j = g 3 j
      rw [go 3 (by decide)]
    · show g2 11 j = g 4 j
      rw [g11, cpy_lo hj]
    · show g2 12 j = g 5 j
      rw [g12, cpy_lo hj]
    · show g2 13 j = g 8 j
      rw [g13, cpy_lo hj]
    · show upd (upd (upd (upd w 13 (nI m)) 14 (w 7)) 15 (w 10)) 12 (w 8) 6 = w 6
      rw [pk_un (by decide), pk_un (by decide), pk_un (by decide), pk_un (by decide)]
    · show upd (upd (upd (upd w 13 (nI m)) 14 (w 7)) 15 (w 10)) 12 (w 8) 13 = w 9
      rw [pk_un (by decide), pk_un (by decide), pk_un (by decide), pk_us, hRY.1.2.1]
    · show upd (upd (upd (upd w 13 (nI m)) 14 (w 7)) 15 (w 10)) 12 (w 8) 15 = w 10
      rw [pk_un (by decide), pk_us]
theorem s_restore {k : Nat} (hk : k < 1000) {v : Nat → Int32} {f : Nat → Nat → Int32} {w : Nat → Int32} {g : Nat → Nat → Int32} {z y : Int64} {Q : PX} {P : Int32 → (Nat → Int32) → (Nat → Nat → Int32) → Int64 → PX} (hR : Rel k v f w g) (hQ : ∀ r1 v1 f1 z1, wp_X7_restore (P r1 v1 f1 z1) w g y → Q r1 v1 f1 z1) (hP : Hp k P) : wp_X6_restore Q v f z := by
  obtain ⟨n, N, m, h, r, hPg, ⟨hN, hm, hh⟩, ⟨hW, hRY⟩, hc, ⟨hr1, hr2, hr3⟩, hI⟩ := id hR
  have hw6 : w 6 = nI N := hRY.1.1
  unfold wp_X6_restore
  rcases id hI with ⟨h0, hk12⟩ | ⟨h0, hk12, h13, m2, h2, hm2, hh2, hS⟩
  · refine br_t h0 (hQ _ _ _ _ ?_)
    unfold wp_X7_restore
    refine br_f ?_ (hP _ _ _ _ _ _ _ hR.up)
    rw [hr2]
    rcases hk12 with e | ⟨q, hq, e⟩
    · rw [e]
      exact fun c => nI_m1 (by omega) c.symm
    · rw [e]
      exact fun c => absurd ((nI_eq (by omega) (by omega)).mp c) (by omega)
  · refine br_f (by rw [h0]; decide) ?_
    unfold wp_X4_copyFrom_re
    refine hQ _ _ _ _ ?_
    unfold wp_X7_restore
    have e8' : ∀ a b c : Int32, upd (upd (upd v 8 a) 9 b) 10 c 8 = a := fun a b c => by rw [pk_un (by decide), pk_un (by decide), pk_us]
    have w13 : w 13 = nI m2 := hS.2.1.2.1
    have w15 : w 15 = nI h2 := hS.2.1.2.2
    rw [e8', hm2, w13]
    refine br_t (hk12.trans hr2.symm) ?_
    have e8 : ∀ A B C D E F G H : Nat → Int32, (∀ i, i < 7 ∨ 14 < i → va_up (va_up (va_up (va_up (va_up (va_up (va_up (va_up f 7 A) 8 B) 9 C) 10 D) 11 E) 12 F) 13 G) 14 H i = f i) ∧ (va_up (va_up (va_up (va_up (va_up (va_up (va_up (va_up f 7 A) 8 B) 9 C) 10 D) 11 E) 12 F) 13 G) 14 H 7 = A ∧ va_up (va_up (va_up (va_up (va_up (va_up (va_up (va_up f 7 A) 8 B) 9 C) 10 D) 11 E) 12 F) 13 G) 14 H 8 = B ∧ va_up (va_up (va_up (va_up (va_up (va_up (va_up (va_up f 7 A) 8 B) 9 C) 10 D) 11 E) 12 F) 13 G) 14 H 9 = C ∧ va_up (va_up (va_up (va_up (va_up (va_up (va_up (va_up f 7 A) 8 B) 9 C) 10 D) 11 E) 12 F) 13 G) 14 H 10 = D ∧ va_up (va_up (va_up (va_up (va_up (va_up (va_up (va_up f 7 A) 8 B) 9 C) 10 D) 11 E) 12 F) 13 G) 14 H 11 = E ∧ va_up (va_up (va_up (va_up (va_up (va_up (va_up (va_up f 7 A) 8 B) 9 C) 10 D) 11 E) 12 F) 13 G) 14 H 12 = F ∧ va_up (va_up (va_up (va_up (va_up (va_up (va_up (va_up f 7 A) 8 B) 9 C) 10 D) 11 E) 12 F) 13 G) 14 H 13 = G ∧ va_up (va_up (va_up (va_up (va_up (va_up (va_up (va_up f 7 A) 8 B) 9 C) 10 D) 11 E) 12 F) 13 G) 14 H 14 = H) := fun A B C D E F G H => ⟨fun i hi => by rw [up_ne (by omega), up_ne (by omega), up_ne (by omega), up_ne (by omega), up_ne (by omega), up_ne (by omega), up_ne (by omega), up_ne (by omega)], rfl, rfl, rfl, rfl, rfl, rfl, rfl, rfl⟩
    obtain ⟨eo, e7, e8, e9, e10, e11, e12, e13, e14⟩ := e8 (va_cpy (f 15) (f 7) 0 0 4) (va_cpy (f 16) (f 8) 0 0 8) (va_cpy (f 17) (f 9) 0 0 8) (va_cpy (f 18) (f 10) 0 0 8) (va_cpy (f 19) (f 11) 0 0 8) (va_cpy (f 20) (f 12) 0 0 8) (va_cpy (f 21) (f 13) 0 0 8) (va_cpy (f 22) (f 14) 0 0 8)
    generalize va_up (va_up (va_up (va_up (va_up (va_up (va_up (va_up f 7 (va_cpy (f 15) (f 7) 0 0 4)) 8 (va_cpy (f 16) (f 8) 0 0 8)) 9 (va_cpy (f 17) (f 9) 0 0 8)) 10 (va_cpy (f 18) (f 10) 0 0 8)) 11 (va_cpy (f 19) (f 11) 0 0 8)) 12 (va_cpy (f 20) (f 12) 0 0 8)) 13 (va_cpy (f 21) (f 13) 0 0 8)) 14 (va_cpy (f 22) (f 14) 0 0 8) = f2 at *
    have g8 : ∀ A B C : Nat → Int32, (∀ i, i ≠ 4 → i ≠ 5 → i ≠ 8 → va_up (va_up (va_up g 4 A) 5 B) 8 C i = g i) ∧ va_up (va_up (va_up g 4 A) 5 B) 8 C 4 = A ∧ va_up (va_up (va_up g 4 A) 5 B) 8 C 5 = B ∧ va_up (va_up (va_up g 4 A) 5 B) 8 C 8 = C := fun A B C => ⟨fun i h1 h2 h3 => by rw [up_ne h3, up_ne h2, up_ne h1], rfl, rfl, rfl⟩
    obtain ⟨go, g4, g5, g8⟩ := g8 (va_cpy (g 11) (g 4) 0 0 12) (va_cpy (g 12) (g 5) 0 0 32) (va_cpy (g 13) (g 8) 0 0 24)
    generalize va_up (va_up (va_up g 4 (va_cpy (g 11) (g 4) 0 0 12)) 5 (va_cpy (g 12) (g 5) 0 0 32)) 8 (va_cpy (g 13) (g 8) 0 0 24) = g2 at *
    refine hP _ _ _ _ _ _ _ ⟨n, N, m2, h2, r, hPg.cong (by rw [pk_un (by decide), pk_un (by decide), pk_un (by decide)]) (eo 0 (by decide)) (by rw [pk_un (by decide), pk_un (by decide), pk_un (by decide)]) (go 0 (by decide) (by decide) (by decide)), ⟨?_, ?_, ?_⟩, hS.cong ⟨fun j hj => ⟨?_, ?_, ?_⟩, fun j hj => ⟨⟨?_, ?_, ?_, ?_⟩, ?_, ?_, ?_⟩⟩ ⟨fun j hj => ?_, fun j hj => ?_, fun j hj => ?_, fun j hj => ?_⟩ ⟨?_, ?_, ?_⟩, ?_, ⟨?_, ?_, by omega⟩, hI.cong (fun i hi => by rw [pk_un (by omega), pk_un (by omega), pk_un (by omega)]) (fun i hi => eo i (by omega)) (fun i hi => by rw [pk_un (by omega), pk_un (by omega), pk_un (by omega)]) (fun i hi => go i (by omega) (by omega) (by omega))⟩
    · rw [pk_un (by decide), pk_un (by decide), pk_un (by decide)]
      exact hN
    · rw [pk_un (by decide), pk_un (by decide), pk_us]
    · rw [pk_un (by decide), pk_us]
      exact hh2
    · show f2 4 j = f 4 j
      rw [eo 4 (by decide)]
    · show f2 5 j = f 5 j
      rw [eo 5 (by decide)]
    · show f2 7 j = f 15 j
      rw [e7, cpy_lo hj]
    · show f2 8 j = f 16 j
      rw [e8, cpy_lo hj]
    · show f2 9 j = f 17 j
      rw [e9, cpy_lo hj]
    · show f2 10 j = f 18 j
      rw [e10, cpy_lo hj]
    · show f2 11 j = f 19 j
      rw [e11, cpy_lo hj]
    · show f2 12 j = f 20 j
      rw [e12, cpy_lo hj]
    · show f2 13 j = f 21 j
      rw [e13, cpy_lo hj]
    · show f2 14 j = f 22 j
      rw [e14, cpy_lo hj]
    · show g2 3 j = g 3 j
      rw [go 3 (by decide) (by decide) (by decide)]
    · show g2 4 j = g 11 j
      rw [g4, cpy_lo hj]
    · show g2 5 j = g 12 j
      rw [g5, cpy_lo hj]
    · show g2 8 j = g 13 j
      rw [g8, cpy_lo hj]
    · show upd (upd (upd w 9 (nI m2)) 7 (w 14)) 10 (w 15) 6 = w 6
      rw [pk_un (by decide), pk_un (by decide), pk_un (by decide)]
    · show upd (upd (upd w 9 (nI m2)) 7 (w 14)) 10 (w 15) 9 = w 13
      rw [pk_un (by decide), pk_un (by decide), pk_us, w13]
    · show upd (upd (upd w 9 (nI m2)) 7 (w 14)) 10 (w 15) 10 = w 15
      rw [pk_us]
    · rw [pk_us, pk_un (by decide), pk_us]
      exact h13
    · rw [pk_un (by decide), pk_un (by decide), pk_un (by decide)]
      exact hr1
    · rw [pk_un (by decide), pk_un (by decide), pk_un (by decide)]
      exact hr2
