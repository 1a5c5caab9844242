/-! the other calls -/
/-- posts of calls that only read -/
abbrev PR := Int32 → Prop
theorem s_fits {k : Nat} {v : Nat → Int32} {f : Nat → Nat → Int32} {w : Nat → Int32} {g : Nat → Nat → Int32} {z y : Int64} {Q : PR} {P : Int32 → PR} (hR : Rel k v f w g) {x : Int32} (hQ : ∀ r1, wp_X7_fits (P r1) w g y x → Q r1) (hP : ∀ r, P r r) : wp_X6_fits Q v f z x := by
  obtain ⟨n, N, m, h, r, -, ⟨hN, -, -⟩, ⟨hW, hRY⟩, -⟩ := hR
  have hN4 := hW.1.1
  have out : ¬ (0 < N ∧ ∃ o, o < 4 ∧ x = nI o) → Q (-101) := fun c => hQ _ (by
    unfold wp_X7_fits
    exact q_isOpening hRY.1.1 hN4 (fun q o ho e => absurd ⟨q, o, ho, e⟩ c) (fun _ => br_t rfl (hP _)))
  unfold wp_X6_fits
  refine pk_le N 0 (fun q => out (fun e => by omega)) (fun q => p_isOpening (fun o ho e => br_f (by decide) ?_) (fun c => br_t rfl (out (fun e => c e.2)))) hN
  subst e
  rw [nI_clamp (by omega)]
  refine ⟨vp_in_nI (by omega) (by omega), hQ _ ?_⟩
  unfold wp_X7_fits
  refine q_isOpening hRY.1.1 hN4 (fun q o' ho' e => br_f (by decide) ⟨vp_in_nI (by omega) (by omega), ?_⟩) (fun c => absurd ⟨q, o, ho, rfl⟩ c)
  rw [nI_clamp (by omega), hRY.2.1 q o ho]
  exact hP _
theorem s_as {k : Nat} {v : Nat → Int32} {f : Nat → Nat → Int32} {w : Nat → Int32} {g : Nat → Nat → Int32} {z y : Int64} {Q : PR} {P : Int32 → PR} (hR : Rel k v f w g) {x x2 : Int32} (hQ : ∀ r1, wp_X7_as (P r1) w g y x x2 → Q r1) (hP : ∀ r, P r r) : wp_X6_as Q v f z x x2 := by
  obtain ⟨n, N, m, h, r, -, ⟨hN, -, -⟩, ⟨hW, hRY⟩, -⟩ := hR
  have hN4 := hW.1.1
  unfold wp_X6_as
  refine p_isSpeaker hN hN4 (fun s hs e => br_f (by decide) ?_) (fun c => br_t rfl (hQ _ ?_))
  · subst e
    have hbad : (¬ ∃ o, o < 5 ∧ x2 = nI o) → Q (-102) := fun c => hQ _ (by
      unfold wp_X7_as
      exact q_isSpeaker hRY.1.1 hN4 (fun _ _ _ => br_f (by decide) (q_inN 5 (by omega) (by decide) (fun o ho e => absurd ⟨o, ho, e⟩ c) (fun _ => br_t rfl (hP _)))) (fun c => absurd ⟨s, hs, rfl⟩ c))
    refine ⟨fun c => hbad ?_, fun c => ⟨fun c2 => ?_, fun c2 => hbad ?_⟩⟩
    · rintro ⟨o, ho, rfl⟩
      exact nI_nlt (a := o) (b := 0) (by omega) (by omega) c
    · have d1 : ¬ x2.toInt < 0 := fun q => c (Int32.lt_iff_toInt_lt.mpr q)
      have d2 : x2.toInt < 5 := Int32.lt_iff_toInt_lt.mp c2
      obtain ⟨o, ho, rfl⟩ : ∃ o, o < 5 ∧ x2 = nI o := ⟨x2.toInt.toNat, by omega, of_toInt (by omega) (by omega)⟩
      refine ⟨vp_in_nI (by omega) (by omega), ?_⟩
      rw [nI_clamp (by omega)]
      have yes : nI o = 0 ∨ nI o = f 5 s ∨ (nI o = 3 ∧ f 5 s = 4) → Q (nI s) := fun q => hQ _ (by
        unfold wp_X7_as
        refine q_isSpeaker hRY.1.1 hN4 (fun s' hs' e => br_f (by decide) (q_inN 5 (by omega) (by decide) (fun o' ho' e' => br_f (by decide) ?_) (fun c => absurd ⟨o, ho, rfl⟩ c))) (fun c => absurd ⟨s, hs, rfl⟩ c)
        rw [m3, nI_clamp (by omega), (hRY.2.2.1 s hs).1]
        refine ⟨vp_in_nI (by omega) (by omega), fun _ => hP _, fun n1 => ⟨fun _ => hP _, fun n2 => ?_⟩⟩
        obtain ⟨q1, q2⟩ := (q.resolve_left n1).resolve_left n2
        exact br_t q1 (br_t q2 (hP _)))
      have no : ¬ (nI o = 0 ∨ nI o = f 5 s ∨ (nI o = 3 ∧ f 5 s = 4)) → Q (-1) := fun q => hQ _ (by
        unfold wp_X7_as
        refine q_isSpeaker hRY.1.1 hN4 (fun s' hs' e => br_f (by decide) (q_inN 5 (by omega) (by decide) (fun o' ho' e' => br_f (by decide) ?_) (fun c => absurd ⟨o, ho, rfl⟩ c))) (fun c => absurd ⟨s, hs, rfl⟩ c)
        rw [m3, nI_clamp (by omega), (hRY.2.2.1 s hs).1]
        exact ⟨vp_in_nI (by omega) (by omega), fun n1 => absurd (Or.inl n1) q, fun n1 => ⟨fun n2 => absurd (Or.inr (Or.inl n2)) q, fun n2 => ⟨fun n3 => ⟨fun n4 => absurd (Or.inr (Or.inr ⟨n3, n4⟩)) q, fun _ => hP _⟩, fun _ => hP _⟩⟩⟩)
      unfold wp_X6_isOfKind
      exact ⟨fun n1 => br_f (by decide) (yes (Or.inl n1)), fun n1 => ⟨fun n2 => br_f (by decide) (yes (Or.inr (Or.inl n2))), fun n2 => ⟨fun n3 => ⟨fun n4 => br_f (by decide) (yes (Or.inr (Or.inr ⟨n3, n4⟩))), fun n4 => br_t rfl (no (fun q => by
        rcases q with q | q | q
        · exact n1 q
        · exact n2 q
        · exact n4 q.2))⟩, fun n3 => br_t rfl (no (fun q => by
        rcases q with q | q | q
        · exact n1 q
        · exact n2 q
        · exact n3 q.1))⟩⟩⟩
    · rintro ⟨o, ho, rfl⟩
      exact c2 (nI_lt ho (by decide))
  · unfold wp_X7_as
    exact q_isSpeaker hRY.1.1 hN4 (fun s hs e => absurd ⟨s, hs, e⟩ c) (fun _ => br_t rfl (hP _))
theorem s_would {k : Nat} {v : Nat → Int32} {f : Nat → Nat → Int32} {w : Nat → Int32} {g : Nat → Nat → Int32} {z y : Int64} {Q : PR} {P : Int32 → PR} (hR : Rel k v f w g) {x x2 : Int32} (hQ : ∀ r1, wp_X7_would (P r1) w g y x x2 → Q r1) (hP : ∀ r, P r r) : wp_X6_would Q v f z x x2 := by
  obtain ⟨n, N, m, h, r, -, ⟨hN, hm, -⟩, ⟨hW, hRY⟩, -⟩ := hR
  have hN4 := hW.1.1
  have out : ¬ ((∃ s, s < N ∧ x = nI s) ∧ ∃ o, o < 4 ∧ x2 = nI o) → Q (-101) := fun c => hQ _ (by
    unfold wp_X7_would
    exact q_isSpeaker hRY.1.1 hN4 (fun s hs e => br_f (by decide) (q_isOpening hRY.1.1 hN4 (fun q o ho e2 => absurd ⟨⟨s, hs, e⟩, o, ho, e2⟩ c) (fun _ => br_t rfl (hP _)))) (fun _ => br_t rfl (hP _)))
  unfold wp_X6_would
  refine p_isSpeaker hN hN4 (fun s hs e => br_f (by decide) (p_isOpening (fun o ho e2 => br_f (by decide) ?_) (fun c => br_t rfl (out (fun e => c e.2))))) (fun c => br_t rfl (out (fun e => c e.1)))
  subst e
  subst e2
  refine p_endingNow hm hW.1.2.1 (by omega) ho (hQ _ ?_)
  unfold wp_X7_would
  exact q_isSpeaker hRY.1.1 hN4 (fun _ _ _ => br_f (by decide) (q_isOpening hRY.1.1 hN4 (fun _ _ _ _ => br_f (by decide) (q_wouldOf hW hRY hs ho (hP _))) (fun c => absurd ⟨by omega, o, ho, rfl⟩ c))) (fun c => absurd ⟨s, hs, rfl⟩ c)
theorem s_sentence {k : Nat} {v : Nat → Int32} {f : Nat → Nat → Int32} {w : Nat → Int32} {g : Nat → Nat → Int32} {z y : Int64} {Q : PR} {P : Int32 → PR} (hR : Rel k v f w g) {x x2 : Int32} (hQ : ∀ r1, wp_X7_sentence (P r1) w g y x x2 → Q r1) (hP : ∀ r, P r r) : wp_X6_sentence Q v f z x x2 := by
  obtain ⟨n, N, m, h, r, -, ⟨hN, hm, -⟩, ⟨hW, hRY⟩, -⟩ := hR
  have hm8 := hW.1.2.1
  refine p_sentence hm hm8 (fun k hk => (hW.2.2.2.1 k hk).1.mono hW.1.1) (fun a ha e j hj e2 => hQ _ ?_) (fun a ha e c => hQ _ ?_) (fun c => hQ _ ?_)
  · subst e
    subst e2
    unfold wp_X7_sentence
    refine q_isSentence hRY.1.2.1 hm8 (fun _ _ _ => br_f (by decide) (q_tellSentence hW hRY ha (fun j' hj' e => ?_) (fun c => absurd ⟨j, hj, rfl⟩ c))) (fun c => absurd ⟨a, ha, rfl⟩ c)
    obtain rfl := (nI_eq (a := j) (b := j') (by omega) (by omega)).mp e
    exact hP _
  · subst e
    unfold wp_X7_sentence
    exact q_isSentence hRY.1.2.1 hm8 (fun _ _ _ => br_f (by decide) (q_tellSentence hW hRY ha (fun j' hj' e => absurd ⟨j', hj', e⟩ c) (fun _ => hP _))) (fun c => absurd ⟨a, ha, rfl⟩ c)
  · unfold wp_X7_sentence
    exact q_isSentence hRY.1.2.1 hm8 (fun a ha e => absurd ⟨a, ha, e⟩ c) (fun _ => br_t rfl (hP _))
theorem s_count {k : Nat} {v : Nat → Int32} {f : Nat → Nat → Int32} {w : Nat → Int32} {g : Nat → Nat → Int32} {z y : Int64} {Q : PR} {P : Int32 → PR} (hR : Rel k v f w g) {x : Int32} (hQ : ∀ r1, wp_X7_count (P r1) w g y x → Q r1) (hP : ∀ r, P r r) : wp_X6_count Q v f z x := by
  obtain ⟨n, N, m, h, r, ⟨⟨hv2, hw0, -⟩, -⟩, ⟨hN, hm, hh⟩, ⟨hW, hRY⟩, hc, ⟨hr1, hr2, -⟩, -⟩ := hR
  refine p_count hW hN hm hh (fun j hj e => hQ _ ?_) (fun c => hQ _ ?_)
  · subst e
    unfold wp_X7_count
    refine q_countOf hW hRY (hr2.trans hr1.symm) (hw0.trans hv2.symm) hc.symm (fun j' hj' e => ?_) (fun c => absurd ⟨j, hj, rfl⟩ c)
    obtain rfl := (nI_eq (a := j) (b := j') (by omega) (by omega)).mp e
    exact hP _
  · unfold wp_X7_count
    exact q_countOf hW hRY rfl rfl rfl (fun j hj e => absurd ⟨j, hj, e⟩ c) (fun _ => hP _)
theorem s_about {k : Nat} {v : Nat → Int32} {f : Nat → Nat → Int32} {w : Nat → Int32} {g : Nat → Nat → Int32} {z y : Int64} {Q : PR} {P : Int32 → PX} (hR : Rel k v f w g) {x x2 : Int32} (hQ : ∀ r1, wp_X7_about (P r1) w g y x x2 → Q r1) (hP : ∀ r w2 g2 y2, Rel (k + 1) v f w2 g2 → P r r w2 g2 y2) : wp_X6_about Q v f z x x2 := by
  obtain ⟨n, N, m, h, r, -, ⟨hN, hm, hh⟩, ⟨hW, hRY⟩, -⟩ := id hR
  have hN4 := hW.1.1
  refine p_about hN hN4 hm hW.1.2.1 hh hW.1.2.2 (fun i hi => (hW.2.2.2.2.2 i hi).2.1) (fun s hs e j hj e2 => hQ _ ?_) (fun s hs e c => hQ _ ?_) (fun c => hQ _ ?_)
  · subst e
    subst e2
    unfold wp_X7_about
    refine q_isSpeaker hRY.1.1 hN4 (fun _ _ _ => br_f (by decide) (q_tell hW hRY hs (fun j' hj' e g2 hg2 => ?_) (fun c => absurd ⟨j, hj, rfl⟩ c))) (fun c => absurd ⟨s, hs, rfl⟩ c)
    obtain rfl := (nI_eq (a := j) (b := j') (by omega) (by omega)).mp e
    exact hP _ _ _ _ (hR.keep (fun _ _ _ => rfl) (fun _ _ => rfl) (fun _ _ => rfl) (fun i _ _ _ _ h9 _ => hg2 i h9))
  · subst e
    unfold wp_X7_about
    exact q_isSpeaker hRY.1.1 hN4 (fun _ _ _ => br_f (by decide) (q_tell hW hRY hs (fun j' hj' e => absurd ⟨j', hj', e⟩ c) (fun _ => hP _ _ _ _ hR.up))) (fun c => absurd ⟨s, hs, rfl⟩ c)
  · unfold wp_X7_about
    exact q_isSpeaker hRY.1.1 hN4 (fun s hs e => absurd ⟨s, hs, e⟩ c) (fun _ => br_t rfl (hP _ _ _ _ hR.up))
theorem s_match {k : Nat} {v : Nat → Int32} {f : Nat → Nat → Int32} {w : Nat → Int32} {g : Nat → Nat → Int32} {z y : Int64} {Q : PX} {P : Int32 → (Nat → Int32) → (Nat → Nat → Int32) → Int64 → PX} (hR : Rel k v f w g) {x : Int32} (hQ : ∀ r1 v1 f1 z1, wp_X7_match (P r1 v1 f1 z1) w g y x → Q r1 v1 f1 z1) (hP : Hp k P) : wp_X6_match Q v f z x := by
  have ten : (10 : Int64).toInt = 10 := by decide
  have top : (13 : Int64).toInt = 13 := by decide
  obtain ⟨n, N, m, h, r, -, ⟨hN, hm, hh⟩, ⟨hW, hRY⟩, -⟩ := id hR
  have hN4 := hW.1.1
  have keep : ∀ v2 f2 g2, (∀ i, i ≠ 14 → v2 i = v i) → (∀ i, i ≠ 23 → i ≠ 24 → f2 i = f i) → (∀ i, i ≠ 6 → i ≠ 7 → g2 i = g i) → Rel (k + 1) v2 f2 w g2 := fun v2 f2 g2 hv hf hg => hR.keep (fun i _ i2 => hv i (by omega)) (fun i hi => hf i (by omega) (by omega)) (fun _ _ => rfl) (fun i _ _ i6 i7 _ _ => hg i i6 i7)
  have inn : ∀ {A : Int32 → Prop} s, s < 4 → A 1 → wp_X7_in A (nI (10 + s)).toInt64 10 13 := fun s hs h => q_in (fun _ _ => h) (fun q => by
    rw [Int32.toInt_toInt64, nI_toInt (by omega), ten, top] at q
    omega)
  refine p_match hW hN hm (fun n0 c => hQ _ _ _ _ ?_) (fun q c => hQ _ _ _ _ ?_) (fun q v2 f2 hv hf => ⟨fun e => hQ _ _ _ _ ?_, fun s hs e => hQ _ _ _ _ ?_⟩)
  · unfold wp_X7_match
    refine br_f n0 (q_in (fun q1 q2 => absurd ?_ c) (fun _ => br_t rfl (hP _ _ _ _ _ _ _ hR.up)))
    rw [Int32.toInt_toInt64, ten] at q1
    rw [Int32.toInt_toInt64, top] at q2
    exact ⟨x.toInt.toNat - 10, by omega, of_toInt (by omega) (by omega)⟩
  · unfold wp_X7_match
    rcases c with rfl | ⟨s, hs, rfl⟩
    · exact br_t rfl (q_lacks hRY.1.1 hN4 (fun _ => br_f (by decide) (hP _ _ _ _ _ _ _ hR.up)) (fun q2 => absurd q2 (by omega)))
    · exact br_f (fun e => absurd ((nI_eq (a := 10 + s) (b := 0) (by omega) (by omega)).mp e) (by omega)) (inn s hs (br_f (by decide) (q_lacks hRY.1.1 hN4 (fun _ => br_f (by decide) (hP _ _ _ _ _ _ _ hR.up)) (fun q2 => absurd q2 (by omega)))))
  · subst e
    unfold wp_X7_match
    exact br_t rfl (q_lacks hRY.1.1 hN4 (fun q2 => absurd q2 (by omega)) (fun _ => br_t rfl (q_matchOf hW hRY q (Or.inl rfl) (fun g2 hg2 => ⟨fun _ => hP _ _ _ _ _ _ _ (keep v2 f2 g2 hv hf hg2), fun s hs e => absurd ((nI_eq (a := 0) (b := 10 + s) (by omega) (by omega)).mp e) (by omega)⟩))))
  · subst e
    unfold wp_X7_match
    refine br_f (fun e => absurd ((nI_eq (a := 10 + s) (b := 0) (by omega) (by omega)).mp e) (by omega)) (inn s hs (br_f (by decide) (q_lacks hRY.1.1 hN4 (fun q2 => absurd q2 (by omega)) (fun _ => br_t rfl (q_matchOf hW hRY q (Or.inr ⟨s, hs, rfl⟩) (fun g2 hg2 => ⟨fun e => absurd ((nI_eq (a := 10 + s) (b := 0) (by omega) (by omega)).mp e) (by omega), fun s' hs' e => ?_⟩))))))
    obtain rfl : s = s' := by
      have := (nI_eq (a := 10 + s) (b := 10 + s') (by omega) (by omega)).mp e
      omega
    exact hP _ _ _ _ _ _ _ (keep v2 f2 g2 hv hf hg2)
theorem s_talks {k : Nat} {v : Nat → Int32} {f : Nat → Nat → Int32} {w : Nat → Int32} {g : Nat → Nat → Int32} {z y : Int64} {Q : PX} {P : Int32 → (Nat → Int32) → (Nat → Nat → Int32) → Int64 → PX} (hR : Rel k v f w g) {x x2 x3 : Int32} (hQ : ∀ r1 v1 f1 z1, wp_X7_talks (P r1 v1 f1 z1) w g y x x2 x3 → Q r1 v1 f1 z1) (hP : Hp k P) : wp_X6_talks Q v f z x x2 x3 := by
  obtain ⟨n, N, m, h, r, hPg, ⟨hN, hm, hh⟩, ⟨hW, hRY⟩, hc, ⟨hr1, hr2, hr3⟩, hI⟩ := id hR
  have hN4 := hW.1.1
  refine p_talks hN4 hN hm hW.1.2.1 (fun c => hQ _ _ _ _ ?_) (fun q c => hQ _ _ _ _ ?_) (fun q t s j t1 ht hs hj e1 e2 e3 v2 f2 z2 hv hf => hQ _ _ _ _ ?_)
  · exact q_talks hW hRY (fun _ => hP _ _ _ _ _ _ _ hR.up) (fun _ c2 => absurd c2 c) (fun _ t s j t1 ht hs hj e1 e2 e3 => absurd ⟨⟨t, t1, ht, e1⟩, ⟨s, hs, e2⟩, j, hj, e3⟩ c)
  · exact q_talks hW hRY (fun c2 => absurd c c2) (fun _ _ => hP _ _ _ _ _ _ _ hR.up) (fun q2 => absurd q2 (by omega))
  · refine q_talks hW hRY (fun c2 => absurd ⟨⟨t, t1, ht, e1⟩, ⟨s, hs, e2⟩, j, hj, e3⟩ c2) (fun q2 => absurd q2 (by omega)) (fun _ t' s' j' t1' ht' hs' hj' e1' e2' e3' w2 g2 hRY2 hw hg => ?_)
    obtain rfl : t = t' := (nI_eq (by omega) (by omega)).mp (e1.symm.trans e1')
    obtain rfl : s = s' := (nI_eq (by omega) (by omega)).mp (e2.symm.trans e2')
    obtain rfl : j = j' := (nI_eq (by omega) (by omega)).mp (e3.symm.trans e3')
    refine hP _ _ _ _ _ _ _ ⟨n, N, m, h, r, hPg.cong (hv 2 (by decide) (by decide)) (hf 0 (by decide)) (hw 0 (by decide)) (hg 0 (by decide) (by decide)), ⟨(hv 7 (by decide) (by decide)).trans hN, (hv 8 (by decide) (by decide)).trans hm, (hv 9 (by decide) (by decide)).trans hh⟩, Sc.cong (f := f) (w := w2) (g := g2) ⟨hW, hRY2⟩ (EqF.of (fun i _ _ i3 => hf i (by omega))) (EqG.of (fun _ _ => rfl)) ⟨rfl, rfl, rfl⟩, ?_, ⟨(hv 1 (by decide) (by decide)).trans hr1, (hw 8 (by decide)).trans hr2, by omega⟩, hI.cong (fun i hi => hv i (by omega) (by omega)) (fun i hi => hf i (by omega)) (fun i hi => hw i (by omega)) (fun i hi => hg i (by omega) (by omega))⟩
    rw [hv 10 (by decide) (by decide), hw 7 (by decide)]
    exact hc
/-- posts of digest -/
abbrev PL := Int64 → (Nat → Int32) → (Nat → Nat → Int32) → Int64 → Prop
theorem s_digest {k : Nat} {v : Nat → Int32} {f : Nat → Nat → Int32} {w : Nat → Int32} {g : Nat → Nat → Int32} {z y : Int64} {Q : PL} {P : Int64 → (Nat → Int32) → (Nat → Nat → Int32) → Int64 → PL} (hR : Rel k v f w g) (hQ : ∀ r1 v1 f1 z1, wp_X7_digest (P r1 v1 f1 z1) w g y → Q r1 v1 f1 z1) (hP : ∀ r v f z w g y, Rel (k + 1) v f w g → P r v f z r w g y) : wp_X6_digest Q v f z := by
  obtain ⟨n, N, m, h, r, ⟨⟨hv2, hw0, hn30⟩, C, hC⟩, ⟨hN, hm, hh⟩, ⟨hW, hRY⟩, hc, ⟨hr1, hr2, hr3⟩, hI⟩ := id hR
  refine p_digest hW hN hm hh hv2 hn30 (fun v2 f2 hv hf => hQ _ _ _ _ (q_digest hW hRY hw0 hn30 (fun i hi => (hC i hi).2.1.trans (hC i hi).1.1.symm) (fun g2 y2 hg => ?_)))
  rw [hr1, hr2, hc]
  exact hP _ _ _ _ _ _ _ (hR.keep (fun i _ i2 => hv i (by omega)) (fun i hi => hf i (by omega) (by omega)) (fun _ _ => rfl) (fun i _ _ i6 i7 i9 _ => hg i i6 i7 i9))
theorem s_forget {k : Nat} {v : Nat → Int32} {f : Nat → Nat → Int32} {w : Nat → Int32} {g : Nat → Nat → Int32} {z y : Int64} {Q : PX} {P : Int32 → (Nat → Int32) → (Nat → Nat → Int32) → Int64 → PX} (hR : Rel k v f w g) (hQ : ∀ r1 v1 f1 z1, wp_X7_forget (P r1 v1 f1 z1) w g y → Q r1 v1 f1 z1) (hP : Hp k P) : wp_X6_forget Q v f z := by
  obtain ⟨n, N, m, h, r, hPg, ⟨hN, hm, hh⟩, ⟨hW, hRY⟩, hc, ⟨hr1, hr2, hr3⟩, hI⟩ := id hR
  unfold wp_X6_forget
  refine hQ _ _ _ _ ?_
  unfold wp_X7_forget
  rw [hh, hRY.1.2.2]
  obtain ⟨⟨a1, a2, a3⟩, b1, b2, b3, b4, b5⟩ := hW
  obtain ⟨⟨c1, c2, c3⟩, d1, d2, d3, d4⟩ := hRY
  exact hP _ _ _ _ _ _ _ ⟨n, N, m, 0, r, hPg.cong (pk_un (by decide)) rfl (pk_un (by decide)) rfl, ⟨by rw [pk_un (by decide)]; exact hN, by rw [pk_un (by decide)]; exact hm, by rw [pk_us]; rfl⟩, ⟨⟨⟨a1, a2, by omega⟩, b1, b2, b3, b4, fun i hi => absurd hi (by omega)⟩, ⟨by rw [pk_un (by decide)]; exact c1, by rw [pk_un (by decide)]; exact c2, by rw [pk_us]; rfl⟩, d1, d2, d3, fun i hi => absurd hi (by omega)⟩, by rw [pk_un (by decide), pk_un (by decide)]; exact hc, ⟨by rw [pk_un (by decide)]; exact hr1, by rw [pk_un (by decide)]; exact hr2, by omega⟩, hI.cong (fun i hi => pk_un (by omega)) (fun _ _ => rfl) (fun i hi => pk_un (by omega)) (fun _ _ => rfl)⟩
theorem s_hear {k : Nat} {v : Nat → Int32} {f : Nat → Nat → Int32} {w : Nat → Int32} {g : Nat → Nat → Int32} {z y : Int64} {Q : PX} {P : Int32 → (Nat → Int32) → (Nat → Nat → Int32) → Int64 → PX} (hR : Rel k v f w g) {x x2 x3 : Int32} (hQ : ∀ r1 v1 f1 z1, wp_X7_hear (P r1 v1 f1 z1) w g y x x2 x3 → Q r1 v1 f1 z1) (hP : Hp k P) : wp_X6_hear Q v f z x x2 x3 := by
  obtain ⟨n, N, m, h, r, hPg, ⟨hN, hm, hh⟩, ⟨hW, hRY⟩, hc, ⟨hr1, hr2, hr3⟩, hI⟩ := id hR
  have hN4 := hW.1.1
  have hh8 := hW.1.2.2
  have out : ¬ ((∃ s, s < N ∧ x = nI s) ∧ ∃ o, o < 4 ∧ x2 = nI o) → Q (-101) v f z := fun c => hQ _ _ _ _ (by
    unfold wp_X7_hear
    exact q_isSpeaker hRY.1.1 hN4 (fun s hs e => br_f (by decide) (q_isOpening hRY.1.1 hN4 (fun q o ho e2 => absurd ⟨⟨s, hs, e⟩, o, ho, e2⟩ c) (fun _ => br_t rfl (hP _ _ _ _ _ _ _ hR.up)))) (fun _ => br_t rfl (hP _ _ _ _ _ _ _ hR.up)))
  unfold wp_X6_hear
  refine p_isSpeaker hN hN4 (fun s hs e => br_f (by decide) (p_isOpening (fun o ho e2 => br_f (by decide) ?_) (fun c => br_t rfl (out (fun e => c e.2))))) (fun c => br_t rfl (out (fun e => c e.1)))
  subst e
  subst e2
  have mone : (-1 : Int64).toInt = -1 := by decide
  have five : (5 : Int64).toInt = 5 := by decide
  have yin : ∀ {A : Int32 → Prop}, (x3 = -1 ∨ Rg 6 x3) → A 1 → wp_X7_in A x3.toInt64 (-1) 5 := fun c hA => q_in (fun _ _ => hA) (fun q => by
    rw [Int32.toInt_toInt64, mone, five] at q
    rcases c with rfl | ⟨a, ha, rfl⟩
    · rw [show (-1 : Int32).toInt = -1 from by decide] at q
      omega
    · rw [nI_toInt (by omega)] at q
      omega)
  have b33 : (x3 = -1 ∨ Rg 6 x3) → wp_X6_hear_B33 Q v f z (nI s) (nI o) x3 := by
    intro c
    unfold wp_X6_hear_B33
    refine pk_lt h 8 (fun q => ?_) (fun q => hQ _ _ _ _ ?_) hh
    · unfold wp_X4_addHeard
      rw [hh, nI_clamp (by omega), nI_1]
      dsimp only
      rw [pk_us]
      refine pk_le 8 h (fun q2 => absurd q2 (by omega)) (fun _ => ⟨vp_in_nI (by omega) (by omega), vp_in_nI (by omega) (by omega), vp_in_nI (by omega) (by omega), hQ _ _ _ _ ?_⟩)
      unfold wp_X7_hear
      refine q_isSpeaker hRY.1.1 hN4 (fun _ _ _ => br_f (by decide) (q_isOpening hRY.1.1 hN4 (fun _ _ _ _ => br_f (by decide) (yin c (br_f (by decide) ?_))) (fun c => absurd ⟨by omega, o, ho, rfl⟩ c))) (fun c => absurd ⟨s, hs, rfl⟩ c)
      rw [hRY.1.2.2]
      simp (disch := omega) only [m3, a2, nI_1, nI_clamp]
      refine pk_eq h 8 (fun q2 => absurd q2 (by omega)) (fun _ => ⟨vp_in_nI (by omega) (by omega), vp_in_nI (by omega) (by omega), vp_in_nI (by omega) (by omega), hP _ _ _ _ _ _ _ ?_⟩)
      obtain ⟨⟨a1, a2, a3⟩, b1, b2, b3, b4, b5⟩ := hW
      obtain ⟨⟨c1, c2, c3⟩, d1, d2, d3, d4⟩ := hRY
      refine ⟨n, N, m, h + 1, r, hPg.cong (pk_un (by decide)) (by rw [up_ne (by decide), up_ne (by decide), up_ne (by decide)]) (pk_un (by decide)) (by rw [up_ne (by decide), up_ne (by decide), up_ne (by decide)]), ⟨by rw [pk_un (by decide)]; exact hN, by rw [pk_un (by decide)]; exact hm, pk_us⟩, ⟨⟨⟨a1, a2, by omega⟩, ?_, ?_, ?_, ?_, fun i hi => ?_⟩, ⟨by rw [pk_un (by decide)]; exact c1, by rw [pk_un (by decide)]; exact c2, pk_us⟩, ?_, ?_, ?_, fun i hi => ?_⟩, by rw [pk_un (by decide), pk_un (by decide)]; exact hc, ⟨by rw [pk_un (by decide)]; exact hr1, by rw [pk_un (by decide)]; exact hr2, by omega⟩, hI.cong (fun i hi => pk_un (by omega)) (fun i hi => by rw [up_ne (by omega), up_ne (by omega), up_ne (by omega)]) (fun i hi => pk_un (by omega)) (fun i hi => by rw [up_ne (by omega), up_ne (by omega), up_ne (by omega)])⟩
      · rw [up_ne (by decide), up_ne (by decide), up_ne (by decide)]
        exact b1
      · rw [up_ne (by decide), up_ne (by decide), up_ne (by decide), up_ne (by decide), up_ne (by decide), up_ne (by decide)]
        exact b2
      · have e8 : ∀ a b c : Nat → Int32, ∀ i, i ≠ 12 → i ≠ 13 → i ≠ 14 → va_up (va_up (va_up f 12 a) 13 b) 14 c i = f i := fun a b c i h1 h2 h3 => by rw [up_ne h3, up_ne h2, up_ne h1]
        rw [e8 _ _ _ 8 (by decide) (by decide) (by decide), e8 _ _ _ 9 (by decide) (by decide) (by decide), e8 _ _ _ 10 (by decide) (by decide) (by decide), e8 _ _ _ 11 (by decide) (by decide) (by decide)]
        exact b3
      · have e8 : ∀ a b c : Nat → Int32, ∀ i, i ≠ 12 → i ≠ 13 → i ≠ 14 → va_up (va_up (va_up f 12 a) 13 b) 14 c i = f i := fun a b c i h1 h2 h3 => by rw [up_ne h3, up_ne h2, up_ne h1]
        rw [e8 _ _ _ 8 (by decide) (by decide) (by decide), e8 _ _ _ 10 (by decide) (by decide) (by decide)]
        exact b4
      · have e12 : ∀ a b c : Nat → Int32, va_up (va_up (va_up f 12 a) 13 b) 14 c 12 = a ∧ va_up (va_up (va_up f 12 a) 13 b) 14 c 13 = b ∧ va_up (va_up (va_up f 12 a) 13 b) 14 c 14 = c := fun a b c => ⟨by rw [up_ne (by decide), up_ne (by decide), up_eq], by rw [up_ne (by decide), up_eq], up_eq⟩
        rw [(e12 _ _ _).1, (e12 _ _ _).2.1, (e12 _ _ _).2.2]
        by_cases e : i = h
        · rw [e, pk_us, pk_us, pk_us]
          exact ⟨⟨s, hs, rfl⟩, ⟨o, ho, rfl⟩, c⟩
        · rw [pk_un e, pk_un e, pk_un e]
          exact b5 i (by omega)
      · rw [up_ne (by decide), up_ne (by decide), up_ne (by decide), up_ne (by decide), up_ne (by decide), up_ne (by decide)]
        exact d1
      · have e8 : ∀ a b c : Nat → Int32, ∀ i, i ≠ 12 → i ≠ 13 → i ≠ 14 → va_up (va_up (va_up f 12 a) 13 b) 14 c i = f i := fun a b c i h1 h2 h3 => by rw [up_ne h3, up_ne h2, up_ne h1]
        unfold g_uX
        rw [e8 _ _ _ 5 (by decide) (by decide) (by decide), e8 _ _ _ 7 (by decide) (by decide) (by decide), e8 _ _ _ 10 (by decide) (by decide) (by decide), e8 _ _ _ 11 (by decide) (by decide) (by decide), up_ne (by decide), up_ne (by decide), up_ne (by decide)]
        exact d2
      · have e8 : ∀ a b c : Nat → Int32, ∀ i, i ≠ 12 → i ≠ 13 → i ≠ 14 → va_up (va_up (va_up f 12 a) 13 b) 14 c i = f i := fun a b c i h1 h2 h3 => by rw [up_ne h3, up_ne h2, up_ne h1]
        rw [e8 _ _ _ 8 (by decide) (by decide) (by decide), e8 _ _ _ 9 (by decide) (by decide) (by decide), e8 _ _ _ 10 (by decide) (by decide) (by decide), e8 _ _ _ 11 (by decide) (by decide) (by decide), up_ne (by decide), up_ne (by decide), up_ne (by decide)]
        exact d3
      · have e12 : ∀ a b c : Nat → Int32, va_up (va_up (va_up f 12 a) 13 b) 14 c 12 = a ∧ va_up (va_up (va_up f 12 a) 13 b) 14 c 13 = b ∧ va_up (va_up (va_up f 12 a) 13 b) 14 c 14 = c := fun a b c => ⟨by rw [up_ne (by decide), up_ne (by decide), up_eq], by rw [up_ne (by decide), up_eq], up_eq⟩
        rw [(e12 _ _ _).1, (e12 _ _ _).2.1, (e12 _ _ _).2.2, up_eq]
        by_cases e : i = h
        · rw [e, pk_us, pk_us, pk_us, pk_un (by omega), pk_un (by omega), pk_us, pk_un (by omega), pk_us, pk_us]
          exact ⟨rfl, rfl, rfl⟩
        · rw [pk_un e, pk_un e, pk_un e, pk_un (by omega), pk_un (by omega), pk_un (by omega), pk_un (by omega), pk_un (by omega), pk_un (by omega), pk_un (by omega), pk_un (by omega), pk_un (by omega)]
          exact d4 i (by omega)
    · unfold wp_X7_hear
      exact q_isSpeaker hRY.1.1 hN4 (fun _ _ _ => br_f (by decide) (q_isOpening hRY.1.1 hN4 (fun _ _ _ _ => br_f (by decide) (yin c (br_f (by decide) (pk_eq h 8 (fun _ => hP _ _ _ _ _ _ _ hR.up) (fun q2 => absurd q2 (by omega)) hRY.1.2.2)))) (fun c => absurd ⟨by omega, o, ho, rfl⟩ c))) (fun c => absurd ⟨s, hs, rfl⟩ c)
  refine p_isEnding (fun e he e3 => br_f (by decide) (b33 (Or.inr ⟨e, he, e3⟩))) (fun c => br_t rfl ⟨fun e => b33 (Or.inl e), fun e => hQ _ _ _ _ ?_⟩)
  unfold wp_X7_hear
  refine q_isSpeaker hRY.1.1 hN4 (fun _ _ _ => br_f (by decide) (q_isOpening hRY.1.1 hN4 (fun _ _ _ _ => br_f (by decide) (q_in (fun q1 q2 => absurd ?_ c) (fun _ => br_t rfl (hP _ _ _ _ _ _ _ hR.up)))) (fun c => absurd ⟨by omega, o, ho, rfl⟩ c))) (fun c => absurd ⟨s, hs, rfl⟩ c)
  rw [Int32.toInt_toInt64, mone] at q1
  rw [Int32.toInt_toInt64, five] at q2
  have e4 : ¬ x3.toInt = -1 := fun q => e (Int32.toInt_inj.mp (by rw [q]; decide))
  exact ⟨x3.toInt.toNat, by omega, of_toInt (by omega) (by omega)⟩
