/-! the calls that write the scene -/
theorem s_want {k : Nat} {v : Nat → Int32} {f : Nat → Nat → Int32} {w : Nat → Int32} {g : Nat → Nat → Int32} {z y : Int64} {Q : PX} {P : Int32 → (Nat → Int32) → (Nat → Nat → Int32) → Int64 → PX} (hR : Rel k v f w g) {x x2 : Int32} (hQ : ∀ r1 v1 f1 z1, wp_X7_want (P r1 v1 f1 z1) w g y x x2 → Q r1 v1 f1 z1) (hP : Hp k P) : wp_X6_want Q v f z x x2 := by
  obtain ⟨n, N, m, h, r, hPg, ⟨hN, hm, hh⟩, ⟨hW, hRY⟩, hc, ⟨hr1, hr2, hr3⟩, hI⟩ := id hR
  have hN4 := hW.1.1
  unfold wp_X6_want
  refine p_isSpeaker hN hN4 (fun s hs e => br_f (by decide) (p_isEnding (fun a ha e2 => br_f (by decide) ?_) (fun c => br_t rfl (hQ _ _ _ _ ?_)))) (fun c => br_t rfl (hQ _ _ _ _ ?_))
  · subst e
    subst e2
    rw [nI_clamp (by omega)]
    refine ⟨vp_in_nI (by omega) (by omega), vp_in_nI (by omega) (by omega), hQ _ _ _ _ ?_⟩
    unfold wp_X7_want
    refine q_isSpeaker hRY.1.1 hN4 (fun _ _ _ => br_f (by decide) (q_inN 6 (by omega) (by decide) (fun _ _ _ => br_f (by decide) ?_) (fun c => absurd ⟨a, ha, rfl⟩ c))) (fun c => absurd ⟨s, hs, rfl⟩ c)
    obtain ⟨⟨a1, a2', a3⟩, b1, b2, b3, b4, b5⟩ := hW
    obtain ⟨⟨c1, c2, c3⟩, d1, d2, d3, d4⟩ := hRY
    rw [m3, nI_1, nI_clamp (by omega), (d2 s hs).2.1]
    refine ⟨vp_in_nI (by omega) (by omega), vp_in_nI (by omega) (by omega), hP _ _ _ _ _ _ _ ?_⟩
    refine ⟨n, N, m, h, r, hPg.cong (pk_un (by decide)) (up_ne (by decide)) (pk_un (by decide)) (up_ne (by decide)), ⟨by rw [pk_un (by decide)]; exact hN, by rw [pk_un (by decide)]; exact hm, by rw [pk_un (by decide)]; exact hh⟩, ⟨⟨⟨a1, a2', a3⟩, ?_, fun s' hs' => ?_, ?_, ?_, ?_⟩, ⟨by rw [pk_un (by decide)]; exact c1, by rw [pk_un (by decide)]; exact c2, by rw [pk_un (by decide)]; exact c3⟩, ?_, fun s' hs' => ?_, ?_, ?_⟩, by rw [pk_us, pk_us, hc], ⟨by rw [pk_un (by decide)]; exact hr1, by rw [pk_un (by decide)]; exact hr2, by omega⟩, hI.cong (fun i hi => pk_un (by omega)) (fun i hi => up_ne (by omega)) (fun i hi => pk_un (by omega)) (fun i hi => up_ne (by omega))⟩
    · rw [up_ne (by decide)]
      exact b1
    · rw [up_ne (by decide), up_eq]
      refine ⟨(b2 s' hs').1, ?_⟩
      by_cases e : s' = s
      · rw [e, pk_us]
        exact ⟨a, ha, rfl⟩
      · rw [pk_un e]
        exact (b2 s' hs').2
    · rw [up_ne (by decide), up_ne (by decide), up_ne (by decide), up_ne (by decide)]
      exact b3
    · rw [up_ne (by decide), up_ne (by decide)]
      exact b4
    · rw [up_ne (by decide), up_ne (by decide), up_ne (by decide)]
      exact b5
    · rw [up_ne (by decide), up_ne (by decide)]
      exact d1
    · have eu : g_uX (va_up f 7 (upd (f 7) s (nI a))) m s' = g_uX f m s' := by
        unfold g_uX
        rw [up_ne (by decide), up_ne (by decide)]
      rw [eu, up_eq, up_eq, up_ne (by decide), pk_un (show 3 * s' ≠ 3 * s + 1 by omega), pk_un (show 3 * s' + 2 ≠ 3 * s + 1 by omega)]
      obtain ⟨e1, e2, e3⟩ := d2 s' hs'
      refine ⟨e1, ?_, e3⟩
      by_cases e : s' = s
      · rw [e, pk_us, pk_us]
      · rw [pk_un (by omega), pk_un e]
        exact e2
    · rw [up_ne (by decide), up_ne (by decide), up_ne (by decide), up_ne (by decide), up_ne (by decide)]
      exact d3
    · rw [up_ne (by decide), up_ne (by decide), up_ne (by decide), up_ne (by decide)]
      exact d4
  · subst e
    unfold wp_X7_want
    exact q_isSpeaker hRY.1.1 hN4 (fun _ _ _ => br_f (by decide) (q_inN 6 (by omega) (by decide) (fun a ha e => absurd ⟨a, ha, e⟩ c) (fun _ => br_t rfl (hP _ _ _ _ _ _ _ hR.up)))) (fun c => absurd ⟨s, hs, rfl⟩ c)
  · unfold wp_X7_want
    exact q_isSpeaker hRY.1.1 hN4 (fun s hs e => absurd ⟨s, hs, e⟩ c) (fun _ => br_t rfl (hP _ _ _ _ _ _ _ hR.up))
theorem s_begin {k : Nat} {v : Nat → Int32} {f : Nat → Nat → Int32} {w : Nat → Int32} {g : Nat → Nat → Int32} {z y : Int64} {Q : PX} {P : Int32 → (Nat → Int32) → (Nat → Nat → Int32) → Int64 → PX} (hR : Rel k v f w g) {x x2 : Int32} (hQ : ∀ r1 v1 f1 z1, wp_X7_begin (P r1 v1 f1 z1) w g y x x2 → Q r1 v1 f1 z1) (hP : Hp k P) : wp_X6_begin Q v f z x x2 := by
  obtain ⟨n, N, m, h, r, hPg, ⟨hN, hm, hh⟩, ⟨hW, hRY⟩, hc, ⟨hr1, hr2, hr3⟩, hI⟩ := id hR
  have hN4 := hW.1.1
  have hm8 := hW.1.2.1
  have out : ¬ ((∃ s, s < N ∧ x = nI s) ∧ ∃ o, o < 4 ∧ x2 = nI o) → Q (-101) v f z := fun c => hQ _ _ _ _ (by
    unfold wp_X7_begin
    exact q_isSpeaker hRY.1.1 hN4 (fun s hs e => br_f (by decide) (q_isOpening hRY.1.1 hN4 (fun q o ho e2 => absurd ⟨⟨s, hs, e⟩, o, ho, e2⟩ c) (fun _ => br_t rfl (hP _ _ _ _ _ _ _ hR.up)))) (fun _ => br_t rfl (hP _ _ _ _ _ _ _ hR.up)))
  unfold wp_X6_begin
  refine p_isSpeaker hN hN4 (fun s hs e => br_f (by decide) (p_isOpening (fun o ho e2 => br_f (by decide) (p_openOf hm hm8 ?_)) (fun c => br_t rfl (out (fun e => c e.2))))) (fun c => br_t rfl (out (fun e => c e.1)))
  subst e
  subst e2
  have yrun : ∀ r1 v1 f1 z1, ((g_fst (fun k => g_b (f 8 k = nI s ∧ f 10 k = -1)) m 0 = -1 → ((w 9) = (8 : Int32) → P r1 v1 f1 z1 (-104) w g y) ∧ (¬ (w 9) = 8 → P r1 v1 f1 z1 (nI m) (upd w 9 (nI (m + 1))) (va_up g 5 (upd (upd (upd (upd (g 5) (4 * m) (nI s)) (4 * m + 1) (nI o)) (4 * m + 2) (-1)) (4 * m + 3) (-1))) y)) ∧ (¬ g_fst (fun k => g_b (f 8 k = nI s ∧ f 10 k = -1)) m 0 = -1 → P r1 v1 f1 z1 (-103) w g y)) → Q r1 v1 f1 z1 := by
    intro r1 v1 f1 z1 hq
    refine hQ _ _ _ _ ?_
    unfold wp_X7_begin
    refine q_isSpeaker hRY.1.1 hN4 (fun _ _ _ => br_f (by decide) (q_isOpening hRY.1.1 hN4 (fun _ _ _ _ => br_f (by decide) (q_openOf hW hRY ?_)) (fun c => absurd ⟨by omega, o, ho, rfl⟩ c))) (fun c => absurd ⟨s, hs, rfl⟩ c)
    refine ⟨fun e => ⟨(hq.1 e).1, fun e2 => ?_⟩, fun e => hq.2 e⟩
    have go := (hq.1 e).2 e2
    have hm7 : m < 8 := by
      have : ¬ m = 8 := fun q => e2 (by rw [hRY.1.2.1, q]; rfl)
      omega
    rw [hRY.1.2.1]
    simp (disch := omega) only [m4, a2, a3, nI_1, nI_clamp]
    have e1 : nI (m + 1) - 1 = nI m := by
      rw [show (1 : Int32) = nI 1 from rfl, pk_sub (by omega), Nat.add_sub_cancel]
    rw [e1]
    refine ⟨vp_in_nI (by omega) (by omega), vp_in_nI (by omega) (by omega), vp_in_nI (by omega) (by omega), vp_in_nI (by omega) (by omega), ?_⟩
    have ev : ∀ A B C D : Nat → Int32, va_up (va_up (va_up (va_up g 5 A) 5 B) 5 C) 5 D = va_up g 5 D := fun A B C D => by
      funext i
      by_cases q : i = 5
      · rw [q, up_eq, up_eq]
      · rw [up_ne q, up_ne q, up_ne q, up_ne q, up_ne q]
    rw [ev]
    exact go
  refine ⟨fun e => ?_, fun e => yrun _ _ _ _ ⟨fun c => absurd c e, fun _ => hP _ _ _ _ _ _ _ hR.up⟩⟩
  refine pk_lt m 8 (fun q => ?_) (fun q => yrun _ _ _ _ ⟨fun _ => ⟨fun _ => hP _ _ _ _ _ _ _ hR.up, fun c => absurd (by rw [hRY.1.2.1]; have : m = 8 := (by omega); rw [this]; rfl) c⟩, fun c => absurd e c⟩) hm
  unfold wp_X4_addSentence
  rw [hm, nI_clamp (by omega), nI_1]
  refine pk_le 8 m (fun q2 => absurd q2 (by omega)) (fun _ => ⟨vp_in_nI (by omega) (by omega), vp_in_nI (by omega) (by omega), vp_in_nI (by omega) (by omega), vp_in_nI (by omega) (by omega), yrun _ _ _ _ ⟨fun _ => ⟨fun c => ?_, fun _ => ?_⟩, fun c => absurd e c⟩⟩)
  · rw [hRY.1.2.1] at c
    exact absurd ((nI_eq (a := m) (b := 8) (by omega) (by omega)).mp c) (by omega)
  · refine hP _ _ _ _ _ _ _ ?_
    have e8 : ∀ a b c d : Nat → Int32, (∀ i, i ≠ 8 → i ≠ 9 → i ≠ 10 → i ≠ 11 → va_up (va_up (va_up (va_up f 8 a) 9 b) 10 c) 11 d i = f i) ∧ va_up (va_up (va_up (va_up f 8 a) 9 b) 10 c) 11 d 8 = a ∧ va_up (va_up (va_up (va_up f 8 a) 9 b) 10 c) 11 d 9 = b ∧ va_up (va_up (va_up (va_up f 8 a) 9 b) 10 c) 11 d 10 = c ∧ va_up (va_up (va_up (va_up f 8 a) 9 b) 10 c) 11 d 11 = d := fun a b c d => ⟨fun i h1 h2 h3 h4 => by rw [up_ne h4, up_ne h3, up_ne h2, up_ne h1], by rw [up_ne (by decide), up_ne (by decide), up_ne (by decide), up_eq], by rw [up_ne (by decide), up_ne (by decide), up_eq], by rw [up_ne (by decide), up_eq], up_eq⟩
    obtain ⟨e8o, e88, e89, e810, e811⟩ := e8 (upd (f 8) m (nI s)) (upd (f 9) m (nI o)) (upd (f 10) m (-1)) (upd (f 11) m (-1))
    generalize va_up (va_up (va_up (va_up f 8 (upd (f 8) m (nI s))) 9 (upd (f 9) m (nI o))) 10 (upd (f 10) m (-1))) 11 (upd (f 11) m (-1)) = f2 at *
    have none : ∀ a, a < m → f 8 a = nI s → f 10 a = -1 → False := by
      intro a ha h1 h2
      rcases g_fst_rng (p := fun k => g_b (f 8 k = nI s ∧ f 10 k = -1)) m 0 with hn | ⟨b, -, hb, -, hbe⟩
      · obtain ⟨a', ha', hpa, hmin⟩ := g_first (P := fun k => f 8 k = nI s ∧ f 10 k = -1) (n := m) ⟨a, ha, h1, h2⟩
        have := g_fst_at (p := fun k => g_b (f 8 k = nI s ∧ f 10 k = -1)) (a := a') (g_bt hpa) m 0 (by omega) (by omega) (fun k _ hk => g_bf (hmin k hk))
        rw [hn] at this
        exact nI_m1 (by omega) this.symm
      · rw [e] at hbe
        exact nI_m1 (by omega) hbe.symm
    have eu : ∀ s', s' < 4 → g_uX f2 (m + 1) s' = g_uX f m s' := by
      intro s' hs'
      unfold g_uX
      rw [g_used, e810, e811, pk_us, if_neg (fun q => nI_m1 (by omega) q.symm)]
      exact used_cong (fun k hk => ⟨pk_un (by omega), pk_un (by omega)⟩)
    obtain ⟨⟨a1, a2', a3⟩, b1, b2, b3, b4, b5⟩ := hW
    obtain ⟨⟨c1, c2, c3⟩, d1, d2, d3, d4⟩ := hRY
    refine ⟨n, N, m + 1, h, r, hPg.cong (pk_un (by decide)) (e8o 0 (by decide) (by decide) (by decide) (by decide)) (pk_un (by decide)) (up_ne (by decide)), ⟨by rw [pk_un (by decide)]; exact hN, pk_us, by rw [pk_un (by decide)]; exact hh⟩, ⟨⟨⟨a1, by omega, a3⟩, ?_, ?_, fun a ha => ?_, fun i j hi hj => ?_, ?_⟩, ⟨by rw [pk_un (by decide)]; exact c1, pk_us, by rw [pk_un (by decide)]; exact c3⟩, ?_, fun s' hs' => ?_, fun a ha => ?_, ?_⟩, by rw [pk_un (by decide), pk_un (by decide)]; exact hc, ⟨by rw [pk_un (by decide)]; exact hr1, by rw [pk_un (by decide)]; exact hr2, by omega⟩, hI.cong (fun i hi => pk_un (by omega)) (fun i hi => e8o i (by omega) (by omega) (by omega) (by omega)) (fun i hi => pk_un (by omega)) (fun i hi => up_ne (by omega))⟩
    · rw [e8o 4 (by decide) (by decide) (by decide) (by decide)]
      exact b1
    · rw [e8o 5 (by decide) (by decide) (by decide) (by decide), e8o 7 (by decide) (by decide) (by decide) (by decide)]
      exact b2
    · rw [e88, e89, e810, e811]
      by_cases q : a = m
      · rw [q, pk_us, pk_us, pk_us, pk_us]
        exact ⟨⟨s, hs, rfl⟩, ⟨o, ho, rfl⟩, Or.inl ⟨rfl, rfl⟩⟩
      · rw [pk_un q, pk_un q, pk_un q, pk_un q]
        exact b3 a (by omega)
    · rw [e88, e810]
      by_cases q1 : i = m
      · by_cases q2 : j = m
        · intro _ _ _
          omega
        · rw [q1, pk_us, pk_us, pk_un q2, pk_un q2]
          intro h1 _ h3
          exact (none j (by omega) h1.symm h3).elim
      · by_cases q2 : j = m
        · rw [q2, pk_us, pk_us, pk_un q1, pk_un q1]
          intro h1 h2 _
          exact (none i (by omega) h1 h2).elim
        · rw [pk_un q1, pk_un q1, pk_un q2, pk_un q2]
          exact b4 i j (by omega) (by omega)
    · rw [e8o 12 (by decide) (by decide) (by decide) (by decide), e8o 13 (by decide) (by decide) (by decide) (by decide), e8o 14 (by decide) (by decide) (by decide) (by decide)]
      exact b5
    · rw [e8o 4 (by decide) (by decide) (by decide) (by decide), up_ne (by decide)]
      exact d1
    · rw [eu s' (by omega), e8o 5 (by decide) (by decide) (by decide) (by decide), e8o 7 (by decide) (by decide) (by decide) (by decide), up_ne (by decide)]
      exact d2 s' hs'
    · rw [up_eq, e88, e89, e810, e811]
      by_cases q : a = m
      · rw [q]
        simp (disch := omega) only [pk_us, pk_un]
        exact ⟨trivial, trivial, trivial, trivial⟩
      · have := d3 a (by omega)
        rw [pk_un q, pk_un q, pk_un q, pk_un q]
        rw [pk_un (by omega), pk_un (by omega), pk_un (by omega), pk_un (by omega), pk_un (by omega), pk_un (by omega), pk_un (by omega), pk_un (by omega), pk_un (by omega), pk_un (by omega), pk_un (by omega), pk_un (by omega), pk_un (by omega), pk_un (by omega), pk_un (by omega), pk_un (by omega)]
        exact this
    · rw [e8o 12 (by decide) (by decide) (by decide) (by decide), e8o 13 (by decide) (by decide) (by decide) (by decide), e8o 14 (by decide) (by decide) (by decide) (by decide), up_ne (by decide)]
      exact d4
