/-! the reference reads the page -/
theorem rem3_0 : nI (0 + 1) - nI (0 + 1) / 3 * 3 = nI 1 := by decide +kernel
theorem rem3_1 : nI (1 + 1) - nI (1 + 1) / 3 * 3 = nI 2 := by decide +kernel
theorem rem3_2 : nI (2 + 1) - nI (2 + 1) / 3 * 3 = nI 0 := by decide +kernel
theorem q_kindBy {post : Int32 → Prop} {x : Int32} (h : post (kIx x)) : wp_X7_kindBy post x := by
  unfold wp_X7_kindBy
  unfold kIx at h
  refine ⟨fun e => ?_, fun e => ⟨fun e2 => ?_, fun e2 => ⟨fun e3 => ?_, fun e3 => ⟨fun e4 => ?_, fun e4 => ⟨fun e5 => ?_, fun e5 => ?_⟩⟩⟩⟩⟩
  · rw [if_pos e] at h
    exact h
  · rw [if_neg e, if_pos e2] at h
    exact h
  · rw [if_neg e, if_neg e2, if_pos e3] at h
    exact h
  · rw [if_neg e, if_neg e2, if_neg e3, if_pos e4] at h
    exact h
  · rw [if_neg e, if_neg e2, if_neg e3, if_neg e4, if_pos e5] at h
    exact h
  · rw [if_neg e, if_neg e2, if_neg e3, if_neg e4, if_neg e5] at h
    exact h
def rd_Y : RS → (Nat → Int32) → (Nat → Nat → Int32) → Prop
  | (p, c, l, t, F, K, W), w, g => w 1 = nI p ∧ (p < 4 → (w 2 = nI c ∧ w 3 = (if c = 0 then -1 else nI (l - 97))) ∧ w 4 = 0 ∧ w 5 = 0) ∧ (p = 4 → w 4 = nI t ∧ w 5 = nI c) ∧ (∀ o, o < 4 → o < p ∨ (o = p ∧ 0 < c) → g 1 o = F o) ∧ (∀ s, s < t ∨ (s = t ∧ p = 4 ∧ c = 1) → g 2 (2 * s) = K s) ∧ ∀ s, s < t → g 2 (2 * s + 1) = W s
def rd_offY (v v2 : Nat → Int32) (f f2 : Nat → Nat → Int32) : Prop := (∀ i, i ≠ 1 → i ≠ 2 → i ≠ 3 → i ≠ 4 → i ≠ 5 → v2 i = v i) ∧ ∀ i, i ≠ 1 → i ≠ 2 → f2 i = f i
theorem rd_offY.rfl' {v : Nat → Int32} {f : Nat → Nat → Int32} : rd_offY v v f f := ⟨fun _ _ _ _ _ _ => rfl, fun _ _ _ => rfl⟩
theorem q_goOpening {post : Int32 → (Nat → Int32) → (Nat → Nat → Int32) → Int64 → Prop} {v : Nat → Int32} {f : Nat → Nat → Int32} {z : Int64} {k : Nat} (hk : k < 127) {p c l t : Nat} {F K W : Nat → Int32} (hok : rd_ok (p, c, l, t, F, K, W)) (hp4 : p < 4) (hY : rd_Y (p, c, l, t, F, K, W) v f) (h0 : rd_step (p, c, l, t, F, K, W) k = none → ∀ v2 f2, rd_offY v v2 f f2 → post 0 v2 f2 z) (h1 : ∀ st2, rd_step (p, c, l, t, F, K, W) k = some st2 → ∀ v2 f2, rd_offY v v2 f f2 → rd_Y st2 v2 f2 → post 1 v2 f2 z) : wp_X7_goOpening post v f z (nI k) := by
  obtain ⟨⟨hp, ht, hc⟩, ho, -, -, -, -⟩ := hok
  obtain ⟨t0, f0, l0, l1⟩ := ho hp4
  obtain ⟨y1, yo, -, yF, yK, yW⟩ := hY
  obtain ⟨⟨y2, y3⟩, y4, y5⟩ := yo hp4
  have off56 : rd_offY v (upd (upd (upd v 1 (v 1 + 1)) 2 0) 3 (-1)) f f := ⟨fun i i1 i2 i3 _ _ => by rw [pk_un i3, pk_un i2, pk_un i1], fun _ _ _ => rfl⟩
  have bad : rd_step (p, c, l, t, F, K, W) k = none → wp_X7_goOpening_B56 post v f z 0 := fun e => ⟨nb0, h0 e _ _ off56⟩
  have good : 0 < c ∧ k = rd_sepOf p → wp_X7_goOpening_B56 post v f z 1 := fun e => by
    refine ⟨nb1, h1 _ (rd_sep hp4 e) _ _ off56 ?_⟩
    refine ⟨?_, fun q => ⟨⟨?_, ?_⟩, ?_, ?_⟩, fun q => ⟨?_, ?_⟩, fun o ho q => yF o ho (by omega), fun s q => yK s (by omega), yW⟩
    · rw [pk_un (by decide), pk_un (by decide), pk_us, y1, nI_1]
    · rw [pk_un (by decide), pk_us]
      rfl
    · rw [pk_us]
      rfl
    · rw [pk_un (by decide), pk_un (by decide), pk_un (by decide), y4]
    · rw [pk_un (by decide), pk_un (by decide), pk_un (by decide), y5]
    · rw [pk_un (by decide), pk_un (by decide), pk_un (by decide), y4, t0]
      rfl
    · rw [pk_un (by decide), pk_un (by decide), pk_un (by decide), y5]
      rfl
  have sep : (0 < c ∧ k = rd_sepOf p) ∨ rd_step (p, c, l, t, F, K, W) k = none ∨ (97 ≤ k ∧ k < 103) := by
    by_cases h2 : 0 < c ∧ k = rd_sepOf p
    · exact Or.inl h2
    · by_cases h3 : 97 ≤ k ∧ k < 103
      · exact Or.inr (Or.inr h3)
      · exact Or.inr (Or.inl (rd_no1 hp4 h2 (by omega)))
  have se3 : p = 3 → rd_sepOf p = 59 := fun e => by rw [e]; rfl
  have se0 : p < 3 → rd_sepOf p = 44 := fun e => by unfold rd_sepOf; rw [if_pos e]
  have b35 : ∀ b : Bool, (b = true ↔ k = 59) → (k = 44 ∨ k = 59) → 0 < c → wp_X7_goOpening_B35 post v f z (if b = true then 1 else 0) := by
    intro b hb hk2 hc0
    have no : ¬ k = rd_sepOf p → rd_step (p, c, l, t, F, K, W) k = none := fun w => rd_no1 hp4 (fun q => w q.2) (by omega)
    unfold wp_X7_goOpening_B35
    refine pk_eq p 3 (fun e => ?_) (fun e => ?_) y1
    · cases b with
      | true => exact br_t rfl (good ⟨hc0, by rw [se3 e]; exact hb.mp rfl⟩)
      | false => exact br_f (by decide) (bad (no (fun q => by rw [se3 e] at q; exact absurd (hb.mpr q) (by decide))))
    · cases b with
      | true => exact br_f (by decide) (bad (no (fun q => by rw [se0 (by omega)] at q; have := hb.mp rfl; omega)))
      | false => exact br_t rfl (good ⟨hc0, by
          rw [se0 (by omega)]
          rcases hk2 with w | w
          · exact w
          · exact absurd (hb.mpr w) (by decide)⟩)
  unfold wp_X7_goOpening
  refine pk_eq k 44 (fun e => pk_le c 0 (fun w => bad (rd_no1 hp4 (by omega) (by omega))) (fun w => br_f (by rw [e]; decide) (b35 false (by rw [e]; decide) (Or.inl e) w)) y2) (fun e => pk_eq k 59 (fun e2 => pk_le c 0 (fun w => bad (rd_no1 hp4 (by omega) (by omega))) (fun w => br_t (by rw [e2]; rfl) (b35 true (by rw [e2]; decide) (Or.inr e2) w)) y2) (fun e2 => ?_))
  have ns : ¬ (0 < c ∧ k = rd_sepOf p) := by
    rintro ⟨-, q⟩
    unfold rd_sepOf at q
    split at q <;> omega
  have no : ¬ (c < 3 ∧ 97 ≤ k ∧ k < 103 ∧ l < k) → post 0 v f z := fun w => h0 (rd_no1 hp4 ns w) v f rd_offY.rfl'
  refine q_inN 6 (by omega) (by decide) (fun o ho e3 => ⟨fun q => absurd q (by decide), fun _ => pk_eq c 3 (fun w => no (by omega)) (fun w => ?_) y2⟩) (fun w => br_t rfl (no (fun r => w ⟨k - 97, by omega, (sub97 k hk _ (by omega)).mpr (by omega)⟩)))
  have e4 := (sub97 k hk o ho).mp e3
  have e5 : o = k - 97 := by omega
  have hl : l < k ↔ v 3 < nI o := by
    rw [y3]
    by_cases q : c = 0
    · rw [if_pos q]
      exact ⟨fun _ => by rw [e5]; exact (by decide : ∀ x, x < 127 → (-1 : Int32) < nI x) _ (by omega), fun _ => by rw [l0 q]; omega⟩
    · rw [if_neg q]
      have := l1 (by omega)
      exact ⟨fun q => nI_lt (by omega) (by omega), fun q => by
        rw [Int32.lt_iff_toInt_lt, nI_toInt (by omega), nI_toInt (by omega)] at q
        omega⟩
  rw [e3]
  refine ⟨fun w2 => ?_, fun w2 => no (fun r => w2 (hl.mp r.2.2.2))⟩
  have lk : l < k := hl.mpr w2
  have st := rd_let (W := W) (K := K) (F := F) (t := t) hp4 ns ⟨by omega, by omega, by omega, lk⟩
  have off : ∀ x, rd_offY v (upd (upd v 2 (v 2 + 1)) 3 (nI o)) f (va_up f 1 (upd (f 1) p x)) := fun x => ⟨fun i i1 i2 i3 _ _ => by rw [pk_un i3, pk_un i2], fun i i1 _ => up_ne i1⟩
  have fin : ∀ x, x = F p ||| ((1 : Int32) <<< (nI (k - 97) &&& 31)) → rd_Y (p, c + 1, k, t, upd F p (F p ||| ((1 : Int32) <<< (nI (k - 97) &&& 31))), K, W) (upd (upd v 2 (v 2 + 1)) 3 (nI o)) (va_up f 1 (upd (f 1) p x)) := by
    intro x hx
    refine ⟨?_, fun q => ⟨⟨?_, ?_⟩, ?_, ?_⟩, fun q => absurd q (by omega), fun o ho q => ?_, fun s q => absurd q (by omega), fun s q => absurd q (by omega)⟩
    · rw [pk_un (by decide), pk_un (by decide), y1]
    · rw [pk_un (by decide), pk_us, y2, nI_1]
    · rw [pk_us, if_neg (by omega), e5]
    · rw [pk_un (by decide), pk_un (by decide), y4]
    · rw [pk_un (by decide), pk_un (by decide), y5]
    · rw [up_eq]
      by_cases e : o = p
      · rw [e, pk_us, pk_us, hx]
      · rw [pk_un e, pk_un e]
        exact yF o ho (by omega)
  rw [y1, nI_clamp (by omega)]
  refine pk_eq c 0 (fun w3 => ⟨vp_in_nI (by omega) (by omega), h1 _ st _ _ (off _) (fin _ ?_)⟩) (fun w3 => ⟨vp_in_nI (by omega) (by omega), vp_in_nI (by omega) (by omega), h1 _ st _ _ (off _) (fin _ ?_)⟩) y2
  · rw [f0 p hp4 (Or.inr ⟨rfl, w3⟩), e5]
    exact (Int32.zero_or).symm
  · rw [yF p hp4 (Or.inr ⟨rfl, by omega⟩), e5]
theorem q_goSpeaker {post : Int32 → (Nat → Int32) → (Nat → Nat → Int32) → Int64 → Prop} {v : Nat → Int32} {f : Nat → Nat → Int32} {z : Int64} {k : Nat} (hk : k < 127) {p c l t : Nat} {F K W : Nat → Int32} (hok : rd_ok (p, c, l, t, F, K, W)) (hp4 : p = 4) (hY : rd_Y (p, c, l, t, F, K, W) v f) (h0 : rd_step (p, c, l, t, F, K, W) k = none → ∀ v2 f2, rd_offY v v2 f f2 → post 0 v2 f2 z) (h1 : ∀ st2, rd_step (p, c, l, t, F, K, W) k = some st2 → ∀ v2 f2, rd_offY v v2 f f2 → rd_Y st2 v2 f2 → post 1 v2 f2 z) : wp_X7_goSpeaker post v f z (nI k) := by
  subst hp4
  have hp4 : ¬ 4 < 4 := by omega
  obtain ⟨⟨hp, ht, hc⟩, -, hs, -, -, -⟩ := hok
  obtain ⟨l0, c2, ct⟩ := hs rfl
  obtain ⟨y1, -, yo, yF, yK, yW⟩ := hY
  obtain ⟨y4, y5⟩ := yo rfl
  unfold wp_X7_goSpeaker
  refine pk_eq c 0 (fun e => ?_) (fun e => pk_eq c 1 (fun e2 => ?_) (fun e2 => ?_) y5) y5
  · subst e
    have ct := ct (by omega)
    rw [y5, y4, m2, nI_1, nI_clamp (by omega), rem3_0]
    refine q_kindBy ⟨vp_in_nI (by omega) (by omega), q_kindBy ⟨fun q => h0 (rd_no2 hp4 rfl q) _ _ ⟨fun i _ _ _ _ i5 => pk_un i5, fun i _ i2 => up_ne i2⟩, fun q => h1 _ (rd_kind hp4 rfl q) _ _ ⟨fun i _ _ _ _ i5 => pk_un i5, fun i _ i2 => up_ne i2⟩ ?_⟩⟩
    refine ⟨?_, fun q => absurd q hp4, fun q => ⟨?_, ?_⟩, fun o ho q => ?_, fun s q => ?_, fun s q => ?_⟩
    · rw [pk_un (by decide), y1]
    · rw [pk_un (by decide), y4]
    · rw [pk_us]
    · rw [up_ne (by decide)]
      exact yF o ho (by omega)
    · rw [up_eq]
      by_cases es : s = t
      · rw [es, pk_us, pk_us]
      · rw [pk_un (by omega), pk_un es]
        exact yK s (by omega)
    · rw [up_eq, pk_un (by omega)]
      exact yW s q
  · subst e2
    have ct := ct (by omega)
    rw [y5, y4, m2, nI_1, nI_1, nI_1, nI_clamp (by omega), rem3_1]
    have off : ∀ a b x, rd_offY v (upd (upd v 5 a) 4 b) f (va_up f 2 x) := fun a b x => ⟨fun i _ _ _ i4 i5 => by rw [pk_un i4, pk_un i5], fun i _ i2 => up_ne i2⟩
    refine ⟨vp_in_nI (by omega) (by omega), q_in (fun q1 q2 => ⟨nb1, ?_⟩) (fun q => ⟨nb0, h0 (rd_no3 hp4 rfl (fun r => ?_)) _ _ (off _ _ _)⟩)⟩
    · rw [Int32.toInt_toInt64, nI_toInt (by omega), show (97 : Int64).toInt = 97 from by decide] at q1
      rw [Int32.toInt_toInt64, nI_toInt (by omega), show (102 : Int64).toInt = 102 from by decide] at q2
      have e97 : nI k - 97 = nI (k - 97) := (sub97 k hk (k - 97) (by omega)).mpr (by omega)
      rw [e97]
      refine h1 _ (rd_want hp4 rfl (by omega)) _ _ (off _ _ _) ?_
      refine ⟨?_, fun q => absurd q hp4, fun q => ⟨?_, ?_⟩, fun o ho q => ?_, fun s q => ?_, fun s q => ?_⟩
      · rw [pk_un (by decide), pk_un (by decide), y1]
      · rw [pk_us]
      · rw [pk_un (by decide), pk_us]
      · rw [up_ne (by decide)]
        exact yF o ho (by omega)
      · rw [up_eq, pk_un (by omega)]
        exact yK s (by omega)
      · rw [up_eq]
        by_cases es : s = t
        · rw [es, pk_us, pk_us]
        · rw [pk_un (by omega), pk_un es]
          exact yW s (by omega)
    · rw [Int32.toInt_toInt64, nI_toInt (by omega), show (97 : Int64).toInt = 97 from by decide, show (102 : Int64).toInt = 102 from by decide] at q
      omega
  · obtain rfl : c = 2 := by omega
    rw [y5, nI_1, rem3_2]
    have off : ∀ a, rd_offY v (upd v 5 a) f f := fun a => ⟨fun i _ _ _ _ i5 => pk_un i5, fun _ _ _ => rfl⟩
    refine pk_eq k 44 (fun e => pk_le 4 t (fun q => h0 (rd_no4 hp4 (by omega) (by omega)) _ _ (off _)) (fun q => h1 _ (rd_next hp4 (by omega) ⟨e, q⟩) _ _ (off _) ?_) rfl y4) (fun e => h0 (rd_no4 hp4 (by omega) (by omega)) _ _ (off _))
    refine ⟨?_, fun q => absurd q hp4, fun q => ⟨?_, ?_⟩, fun o ho q => yF o ho (by omega), fun s q => yK s (by omega), yW⟩
    · rw [pk_un (by decide), y1]
    · rw [pk_un (by decide), y4]
    · rw [pk_us]

theorem q_faultOf {post : Int32 → (Nat → Int32) → (Nat → Nat → Int32) → Int64 → Prop} {v : Nat → Int32} {f : Nat → Nat → Int32} {z : Int64} {n : Nat} {C : Nat → Nat} (hn : v 0 = nI n) (hn30 : n ≤ 30) (hC : ∀ i, i < n → f 0 i = nI (C i) ∧ C i < 127) (hp : ∀ v2 f2, rd_offY v v2 f f2 → ((rd_go C n 0 rd_0).1 = n → rd_Y (rd_go C n 0 rd_0).2 v2 f2) → post (nI (rd_go C n 0 rd_0).1) v2 f2 z) : wp_X7_faultOf post v f z := by
  have key : ∀ j i, i + j = n → ∀ st, rd_ok st → rd_go C j i st = rd_go C n 0 rd_0 → ∀ v2 f2, rd_offY v v2 f f2 → rd_Y st v2 f2 → wp_X7_faultOf_B27 post (j + 1) v2 f2 z (nI i) := by
    intro j
    induction j with
    | zero =>
      intro i hi st hok hgo v2 f2 hoff hY
      obtain rfl : i = n := by omega
      rw [wp_X7_faultOf_B27]
      have e2 : v2 0 = nI i := (hoff.1 0 (by decide) (by decide) (by decide) (by decide) (by decide)).trans hn
      rw [← hgo] at hp
      exact pk_le i i (fun _ => hp v2 f2 hoff (fun _ => hY)) (fun q => absurd q (by omega)) e2
    | succ j ih =>
      intro i hi st hok hgo v2 f2 hoff hY
      rw [wp_X7_faultOf_B27, nI_clamp (by omega), nI_1, hoff.2 0 (by decide) (by decide), (hC i (by omega)).1]
      have e2 : v2 0 = nI n := (hoff.1 0 (by decide) (by decide) (by decide) (by decide) (by decide)).trans hn
      have hk := (hC i (by omega)).2
      have tr : ∀ v3 f3, rd_offY v2 v3 f2 f3 → rd_offY v v3 f f3 := fun v3 f3 ho3 => ⟨fun i i1 i2 i3 i4 i5 => (ho3.1 i i1 i2 i3 i4 i5).trans (hoff.1 i i1 i2 i3 i4 i5), fun i i1 i2 => (ho3.2 i i1 i2).trans (hoff.2 i i1 i2)⟩
      have k0 : rd_step st (C i) = none → ∀ v3 f3, rd_offY v2 v3 f2 f3 → post (nI i) v3 f3 z := by
        intro e v3 f3 ho3
        rw [rd_go_n e] at hgo
        rw [← hgo] at hp
        exact hp v3 f3 (tr v3 f3 ho3) (fun w => absurd w (by show ¬ i = n; omega))
      have k1 : ∀ st2, rd_step st (C i) = some st2 → ∀ v3 f3, rd_offY v2 v3 f2 f3 → rd_Y st2 v3 f3 → wp_X7_faultOf_B27 post (j + 1) v3 f3 z (nI (i + 1)) := by
        intro st2 e v3 f3 ho3 hY3
        rw [rd_go_s e] at hgo
        exact ih (i + 1) (by omega) st2 (rd_ok_step hok e) hgo v3 f3 (tr v3 f3 ho3) hY3
      obtain ⟨p, c, l, t, F, K, W⟩ := st
      have hp4 : p ≤ 4 := hok.1.1
      have y1 : v2 1 = nI p := hY.1
      refine pk_le n i (fun q => absurd q (by omega)) (fun _ => pk_le 4 p (fun q => ⟨vp_in_nI (by omega) (by omega), ?_⟩) (fun q => ⟨vp_in_nI (by omega) (by omega), ?_⟩) rfl y1) e2
      · exact q_goSpeaker hk hok (by omega) hY (fun e v3 f3 ho3 => br_t rfl (k0 e v3 f3 ho3)) (fun st2 e v3 f3 ho3 hX3 => br_f (by decide) (k1 st2 e v3 f3 ho3 hX3))
      · exact q_goOpening hk hok (by omega) hY (fun e v3 f3 ho3 => br_t rfl (k0 e v3 f3 ho3)) (fun st2 e v3 f3 ho3 hX3 => br_f (by decide) (k1 st2 e v3 f3 ho3 hX3))
  unfold wp_X7_faultOf
  refine ⟨n + 1, key n 0 (by omega) rd_0 rd_0_ok rfl _ f ⟨fun i i1 i2 i3 i4 i5 => by rw [pk_un i5, pk_un i4, pk_un i3, pk_un i2, pk_un i1], fun _ _ _ => rfl⟩ ?_⟩
  refine ⟨?_, fun q => ⟨⟨?_, ?_⟩, ?_, ?_⟩, fun q => absurd q (by decide), fun o ho q => absurd q (by omega), fun s q => absurd q (by omega), fun s q => absurd q (by omega)⟩
  · rw [pk_un (by decide), pk_un (by decide), pk_un (by decide), pk_un (by decide), pk_us]
    rfl
  · rw [pk_un (by decide), pk_un (by decide), pk_un (by decide), pk_us]
    rfl
  · rw [pk_un (by decide), pk_un (by decide), pk_us]
    rfl
  · rw [pk_un (by decide), pk_us]
  · rw [pk_us]
