/-! MATCH in the class -/
theorem sh_d : ∀ k, k < 32 → ((1 : Int32) <<< (nI k &&& 31)).toBitVec = BitVec.twoPow 32 k := by decide +kernel
theorem tp_d : ∀ k, k < 32 → ¬ BitVec.twoPow 32 k = 0#32 := by decide +kernel
theorem has_bv (x : Int32) {k : Nat} (hk : k < 32) : g_has x (nI k) = x.toBitVec.getLsbD k := by
  have e : (x &&& ((1 : Int32) <<< (nI k &&& 31))) = 0 ↔ x.toBitVec.getLsbD k = false := by
    rw [← Int32.toBitVec_inj]
    show x.toBitVec &&& ((1 : Int32) <<< (nI k &&& 31)).toBitVec = 0#32 ↔ _
    rw [sh_d k hk, BitVec.and_twoPow]
    cases c : x.toBitVec.getLsbD k
    · simp
    · simpa using tp_d k hk
  unfold g_has
  cases c : x.toBitVec.getLsbD k
  · simp [e.mpr c]
  · have : ¬ (x &&& ((1 : Int32) <<< (nI k &&& 31))) = 0 := fun q => by rw [e.mp q] at c; cases c
    simp [this]
theorem has_free {a b k : Nat} (hk : k < 8) : g_has (nI a &&& (nI b ^^^ (-1))) (nI k) = (a.testBit k && !b.testBit k) := by
  rw [has_bv _ (by omega)]
  show (BitVec.ofNat 32 a &&& (BitVec.ofNat 32 b ^^^ (-1 : Int32).toBitVec)).getLsbD k = _
  have e : (-1 : Int32).toBitVec = BitVec.allOnes 32 := by decide
  rw [e]
  have h32 : k < 32 := by omega
  rw [BitVec.getLsbD_and, BitVec.getLsbD_xor, BitVec.getLsbD_allOnes, BitVec.getLsbD_ofNat, BitVec.getLsbD_ofNat]
  simp [h32]
def g_pls (p : Nat → Bool) : Nat → Nat
  | 0 => 0
  | k + 1 => if p k = true then g_pls p k ||| 2 ^ k else g_pls p k
theorem pls_lt (p : Nat → Bool) : ∀ n, g_pls p n < 2 ^ n
  | 0 => by simp [g_pls]
  | n + 1 => by
    have ih := pls_lt p n
    have h2 : 2 ^ n < 2 ^ (n + 1) := Nat.pow_lt_pow_right (by omega) (by omega)
    unfold g_pls
    split
    · exact Nat.or_lt_two_pow (by omega) h2
    · omega
theorem pls_lt8 (p : Nat → Bool) {n : Nat} (h : n ≤ 8) : g_pls p n < 256 := Nat.lt_of_lt_of_le (pls_lt p n) (Nat.pow_le_pow_right (n := 2) (by omega) h)
theorem pls_tb (p : Nat → Bool) (j : Nat) : ∀ n, (g_pls p n).testBit j = (decide (j < n) && p j)
  | 0 => by simp [g_pls]
  | n + 1 => by
    have ih := pls_tb p j n
    unfold g_pls
    by_cases e : p n = true
    · rw [if_pos e, or_tb, ih]
      by_cases q : n = j
      · subst q
        simp [e]
      · have : (j < n + 1) ↔ j < n := by omega
        simp [q, this]
    · rw [if_neg e, ih]
      by_cases q : n = j
      · subst q
        have : p n = false := by simpa using e
        simp [this]
      · have : (j < n + 1) ↔ j < n := by omega
        simp [this]
/-- which sentences each may end so that it pleases, as bits -/
noncomputable def g_PB (f : Nat → Nat → Int32) (u : Nat → Int32) (N m s : Nat) : Nat := g_pls (fun k => g_b (s < N ∧ g_plz f u s k)) m
theorem g_now_keep {f g : Nat → Nat → Int32} {u : Nat → Int32} (h4 : g 4 = f 4) (h5 : g 5 = f 5) (h7 : g 7 = f 7) (s o : Nat) : g_now g u s o = g_now f u s o := by
  unfold g_now
  rw [h4, h5, h7]
theorem g_uX_keep {f g : Nat → Nat → Int32} {m : Nat} (h10 : g 10 = f 10) (h11 : g 11 = f 11) : g_uX g m = g_uX f m := by
  funext s
  unfold g_uX
  rw [h10, h11]
theorem g_plz_keep {f g : Nat → Nat → Int32} {u : Nat → Int32} (h : ∀ i, 4 ≤ i → i ≤ 14 → g i = f i) (s k : Nat) : g_plz g u s k = g_plz f u s k := by
  unfold g_plz g_now
  rw [h 4 (by omega) (by omega), h 5 (by omega) (by omega), h 7 (by omega) (by omega), h 8 (by omega) (by omega), h 9 (by omega) (by omega), h 10 (by omega) (by omega)]
theorem p_findPleasing {post : (Nat → Int32) → (Nat → Nat → Int32) → Int64 → Prop} {v : Nat → Int32} {f : Nat → Nat → Int32} {z : Int64} {N m h : Nat} (hW : WF f N m h) (hN : v 7 = nI N) (hm : v 8 = nI m) (hp : ∀ g : Nat → Nat → Int32, (∀ i, i ≠ 23 → g i = f i) → (∀ s, s < 4 → g 23 s = nI (g_PB f (g_uX f m) N m s)) → post v g z) : wp_X6_findPleasing post v f z := by
  have hN4 := hW.1.1
  have hm8 := hW.1.2.1
  have key : ∀ j i, i + j = 4 → ∀ g : Nat → Nat → Int32, (∀ k, k ≠ 23 → g k = f k) → (∀ s, s < i → g 23 s = nI (g_PB f (g_uX f m) N m s)) → wp_X6_findPleasing_B2 post (j + 1) v g z (nI i) := by
    intro j
    induction j with
    | zero =>
      intro i hi g hg h23
      obtain rfl : i = 4 := by omega
      rw [wp_X6_findPleasing_B2]
      exact pk_le 4 4 (fun _ => hp g hg h23) (fun q => absurd q (by omega))
    | succ j ih =>
      intro i hi g hg h23
      rw [wp_X6_findPleasing_B2, nI_clamp (by omega)]
      refine pk_le 4 i (fun q => absurd q (by omega)) (fun _ => ⟨vp_in_nI (by omega) (by omega), ?_⟩)
      have inner : ∀ a b, b + a = m → ∀ g2 : Nat → Nat → Int32, (∀ k, k ≠ 23 → g2 k = f k) → (∀ s, s < i → g2 23 s = nI (g_PB f (g_uX f m) N m s)) → g2 23 i = nI (g_pls (fun k => g_b (i < N ∧ g_plz f (g_uX f m) i k)) b) → wp_X6_findPleasing_B19 post (wp_X6_findPleasing_B2 post (j + 1)) (a + 1) v g2 z (nI i) (nI b) := by
        intro a
        induction a with
        | zero =>
          intro b hb g2 hg2 h1 h2
          obtain rfl : b = m := by omega
          rw [wp_X6_findPleasing_B19, nI_1]
          have done := ih (i + 1) (by omega) g2 hg2 (fun s hs => by
            by_cases e : s = i
            · rw [e]
              exact h2
            · exact h1 s (by omega))
          exact p_isSpeaker hN hN4 (fun _ _ _ => br_f (by decide) (pk_le b b (fun _ => done) (fun q => absurd q (by omega)) hm)) (fun _ => br_t rfl done)
        | succ a ih2 =>
          intro b hb g2 hg2 h1 h2
          rw [wp_X6_findPleasing_B19, nI_clamp (by omega), nI_1, nI_1]
          have hu : g_uX g2 m = g_uX f m := g_uX_keep (hg2 10 (by omega)) (hg2 11 (by omega))
          have hplz : g_plz g2 (g_uX g2 m) i b = g_plz f (g_uX f m) i b := by
            rw [hu]
            exact g_plz_keep (fun k _ hk => hg2 k (by omega)) i b
          obtain ⟨wb, wo, -⟩ := hW.2.2.2.1 b (by omega)
          refine p_isSpeaker hN hN4 (fun s hs e => br_f (by decide) (pk_le m b (fun q => absurd q (by omega)) (fun _ => ?_) hm)) (fun c => br_t rfl ?_)
          · have his : i < N := by
              have := (nI_eq (by omega) (by omega)).mp e
              omega
            refine p_wouldPlease hm hm8 (by omega) (by omega) (by rw [hg2 8 (by omega)]; exact wb.mono hN4) (by rw [hg2 9 (by omega)]; exact wo) (fun c => br_f (by decide) ⟨vp_in_nI (by omega) (by omega), vp_in_nI (by omega) (by omega), ?_⟩) (fun c => br_t rfl ?_)
            · rw [hplz] at c
              refine ih2 (b + 1) (by omega) _ (fun k hk => by rw [up_ne hk]; exact hg2 k hk) (fun s hs => ?_) ?_
              · rw [up_eq, pk_un (by omega)]
                exact h1 s hs
              · rw [up_eq, pk_us, h2, g_pls, if_pos (g_bt ⟨his, c⟩), (or_bit_d _ (pls_lt8 _ (by omega)) b (by omega)).1]
            · rw [hplz] at c
              refine ih2 (b + 1) (by omega) g2 hg2 h1 ?_
              rw [h2, g_pls, if_neg (g_bf (fun q => c q.2))]
          · have hn : ∀ n, g_pls (fun k => g_b (i < N ∧ g_plz f (g_uX f m) i k)) n = 0 := by
              intro n
              induction n with
              | zero => rfl
              | succ n ihn =>
                rw [g_pls, if_neg (g_bf (fun q => c ⟨i, q.1, rfl⟩)), ihn]
            refine ih (i + 1) (by omega) g2 hg2 (fun s hs => ?_)
            by_cases e : s = i
            · rw [e, h2, hn b]
              unfold g_PB
              rw [hn m]
            · exact h1 s (by omega)
      refine ⟨m + 1, inner m 0 (by omega) _ (fun k hk => by rw [up_ne hk]; exact hg k hk) (fun s hs => ?_) ?_⟩
      · rw [up_eq, pk_un (by omega)]
        exact h23 s hs
      · rw [up_eq, pk_us]
        rfl
  unfold wp_X6_findPleasing
  exact ⟨5, key 4 0 rfl f (fun _ _ => rfl) (fun s hs => by omega)⟩
theorem one_add (r : Nat) : (1 : Int32) + nI r = nI (1 + r) := nI_add 1 r
theorem p_mostFrom {v : Nat → Int32} {f : Nat → Nat → Int32} {z : Int64} {P : Nat → Nat} (hP : ∀ s, s < 4 → f 23 s = nI (P s)) : ∀ (d s t : Nat) (post : Int32 → Prop), s ≤ 4 → 4 - s < d → t < 256 → post (nI (g_mf P (4 - s) s t)) → wp_X0_mostFrom d post v f z (nI s) (nI t)
  | 0, s, t, post, _, h, _, _ => by omega
  | d + 1, s, t, post, hs, hd, ht, hp => by
    rw [wp_X0_mostFrom]
    refine br_f (nI_pos (by omega)) (pk_lt s 4 (fun q => ?_) (fun q => ?_))
    · obtain ⟨n, hn⟩ : ∃ n, 4 - s = n + 1 := ⟨3 - s, by omega⟩
      have hn2 : 4 - (s + 1) = n := by omega
      rw [nI_1]
      refine p_mostFrom hP d (s + 1) t _ (by omega) (by omega) ht ⟨vp_in_nI q (by omega), ?_⟩
      rw [nI_clamp (by omega), hP s q, hn2]
      rw [hn, g_mf] at hp
      have inner : ∀ a b, b + a = 8 → wp_X0_mostFrom_B33 (wp_X0_mostFrom d) post v f z (a + 1) (nI s) (nI t) (nI (g_mfl (g_el P s t) (fun k => g_mf P n (s + 1) (t ||| 2 ^ k)) (g_mf P n (s + 1) t) b)) (nI (P s) &&& (nI t ^^^ (-1))) (nI b) := by
        intro a
        induction a with
        | zero =>
          intro b hb
          obtain rfl : b = 8 := by omega
          rw [wp_X0_mostFrom_B33]
          exact pk_le 8 8 (fun _ => hp) (fun q => absurd q (by omega))
        | succ a ih =>
          intro b hb
          rw [wp_X0_mostFrom_B33, nI_1, nI_1]
          have nx := ih (b + 1) (by omega)
          refine pk_le 8 b (fun q => absurd q (by omega)) (fun _ => p_has (bo_if (fun c => ?_) (fun c => ?_)))
          · rw [has_free (by omega)] at c
            have c : ¬ g_el P s t b = true := c
            rw [g_mfl, if_neg c] at nx
            exact nx
          · rw [has_free (by omega)] at c
            have c : g_el P s t b = true := c
            rw [(or_bit_d t ht b (by omega)).1]
            refine p_mostFrom hP d (s + 1) (t ||| 2 ^ b) _ (by omega) (by omega) (or_bit_d t ht b (by omega)).2 ?_
            rw [hn2, one_add]
            have b1 := mf_le P n (s + 1) (t ||| 2 ^ b)
            have b2 : g_mfl (g_el P s t) (fun k => g_mf P n (s + 1) (t ||| 2 ^ k)) (g_mf P n (s + 1) t) b ≤ 5 := by
              rcases mfl_is (q := g_el P s t) (r := fun k => g_mf P n (s + 1) (t ||| 2 ^ k)) (b := g_mf P n (s + 1) t) b with w | ⟨k, _, _, w⟩
              · rw [w]
                have := mf_le P n (s + 1) t
                omega
              · rw [w]
                have := mf_le P n (s + 1) (t ||| 2 ^ k)
                show 1 + g_mf P n (s + 1) (t ||| 2 ^ k) ≤ 5
                omega
            rw [max_if _ _ (by omega) (by omega)]
            rw [g_mfl, if_pos c] at nx
            exact nx
      exact ⟨9, inner 8 0 rfl⟩
    · obtain rfl : s = 4 := by omega
      exact hp
theorem p_firstBestPick {post : Int32 → Prop} {v : Nat → Int32} {f : Nat → Nat → Int32} {z : Int64} {P : Nat → Nat} (hP : ∀ s, s < 4 → f 23 s = nI (P s)) {s t : Nat} (hs : s < 4) (ht : t < 256) (hp : post (g_pick P s t)) : wp_X0_firstBestPick post v f z (nI s) (nI t) := by
  unfold wp_X0_firstBestPick
  have hn2 : 4 - (s + 1) = 3 - s := by omega
  refine p_mostFrom hP 6 s t _ (by omega) (by omega) ht (?_)
  rw [nI_1]
  refine p_mostFrom hP 6 (s + 1) t _ (by omega) (by omega) ht ?_
  rw [hn2]
  have b1 := mf_le P (4 - s) s t
  have b2 := mf_le P (3 - s) (s + 1) t
  refine pk_eq (g_mf P (3 - s) (s + 1) t) (g_mf P (4 - s) s t) (fun q => ?_) (fun q => ⟨vp_in_nI hs (by omega), ?_⟩)
  · rw [g_pick, if_pos q] at hp
    exact hp
  · rw [nI_clamp (by omega), hP s hs]
    rw [g_pick, if_neg q] at hp
    have inner : ∀ a b, b + a = 8 → g_fst (fun k => g_el P s t k && decide (1 + g_mf P (3 - s) (s + 1) (t ||| 2 ^ k) = g_mf P (4 - s) s t)) a b = g_fst (fun k => g_el P s t k && decide (1 + g_mf P (3 - s) (s + 1) (t ||| 2 ^ k) = g_mf P (4 - s) s t)) 8 0 → wp_X0_firstBestPick_B42 post v f z (a + 1) (nI s) (nI t) (nI (g_mf P (4 - s) s t)) (nI (P s) &&& (nI t ^^^ (-1))) (nI b) := by
      intro a
      induction a with
      | zero =>
        intro b hb e
        obtain rfl : b = 8 := by omega
        rw [wp_X0_firstBestPick_B42]
        rw [← e] at hp
        exact pk_le 8 8 (fun _ => hp) (fun q => absurd q (by omega))
      | succ a ih =>
        intro b hb e
        rw [wp_X0_firstBestPick_B42, nI_1, nI_1]
        rw [g_fst] at e
        refine pk_le 8 b (fun q => absurd q (by omega)) (fun _ => p_has (bo_if (fun c => ?_) (fun c => ?_)))
        · rw [has_free (by omega)] at c
          have cf : ¬ (g_el P s t b && decide (1 + g_mf P (3 - s) (s + 1) (t ||| 2 ^ b) = g_mf P (4 - s) s t)) = true := by
            intro w
            rw [Bool.and_eq_true] at w
            exact c w.1
          rw [if_neg cf] at e
          exact ih (b + 1) (by omega) e
        · rw [has_free (by omega)] at c
          rw [(or_bit_d t ht b (by omega)).1]
          refine p_mostFrom hP 6 (s + 1) (t ||| 2 ^ b) _ (by omega) (by omega) (or_bit_d t ht b (by omega)).2 ?_
          rw [hn2, one_add]
          have b3 := mf_le P (3 - s) (s + 1) (t ||| 2 ^ b)
          refine pk_eq (1 + g_mf P (3 - s) (s + 1) (t ||| 2 ^ b)) (g_mf P (4 - s) s t) (fun w => ?_) (fun w => ?_)
          · have ct : (g_el P s t b && decide (1 + g_mf P (3 - s) (s + 1) (t ||| 2 ^ b) = g_mf P (4 - s) s t)) = true := by
              rw [Bool.and_eq_true]
              exact ⟨c, decide_eq_true w⟩
            rw [if_pos ct] at e
            rw [e]
            exact hp
          · have cf : ¬ (g_el P s t b && decide (1 + g_mf P (3 - s) (s + 1) (t ||| 2 ^ b) = g_mf P (4 - s) s t)) = true := by
              intro q
              rw [Bool.and_eq_true] at q
              exact w (of_decide_eq_true q.2)
            rw [if_neg cf] at e
            exact ih (b + 1) (by omega) e
    exact ⟨9, inner 8 0 rfl rfl⟩
theorem tk_lt (P : Nat → Nat) : ∀ s, s ≤ 4 → g_tk P s < 256
  | 0, _ => by simp [g_tk]
  | s + 1, h => by
    have ih := tk_lt P s (by omega)
    rcases eg_is P (s := s) (by omega) with ⟨-, h2, -⟩ | ⟨k, h1, -, h3, -⟩
    · rw [h2]
      exact ih
    · rw [h3]
      exact (or_bit_d _ ih k h1).2
theorem p_solve {post : (Nat → Int32) → (Nat → Nat → Int32) → Int64 → Prop} {v : Nat → Int32} {f : Nat → Nat → Int32} {z : Int64} {P : Nat → Nat} (hP : ∀ s, s < 4 → f 23 s = nI (P s)) (hp : ∀ g : Nat → Nat → Int32, (∀ i, i ≠ 24 → g i = f i) → (∀ s, s < 4 → g 24 s = g_pick P s (g_tk P s)) → post (upd v 14 (nI (g_mf P 4 0 0))) g z) : wp_X0_solve post v f z := by
  unfold wp_X0_solve
  refine p_mostFrom hP 6 0 0 _ (by omega) (by omega) (by omega) ?_
  have key : ∀ j i, i + j = 4 → ∀ g : Nat → Nat → Int32, (∀ k, k ≠ 24 → g k = f k) → (∀ s, s < i → g 24 s = g_pick P s (g_tk P s)) → wp_X0_solve_B17 post (j + 1) (upd v 14 (nI (g_mf P 4 0 0))) g z (nI (g_tk P i)) (nI i) := by
    intro j
    induction j with
    | zero =>
      intro i hi g hg h24
      obtain rfl : i = 4 := by omega
      rw [wp_X0_solve_B17]
      exact pk_le 4 4 (fun _ => hp g hg h24) (fun q => absurd q (by omega))
    | succ j ih =>
      intro i hi g hg h24
      rw [wp_X0_solve_B17, nI_clamp (by omega), nI_1]
      simp only [pk_us]
      have keep : ∀ k, k ≠ 24 → va_up g 24 (upd (g 24) i (g_pick P i (g_tk P i))) k = f k := fun k hk => by
        rw [up_ne hk]
        exact hg k hk
      have h24' : ∀ s, s < i + 1 → va_up g 24 (upd (g 24) i (g_pick P i (g_tk P i))) 24 s = g_pick P s (g_tk P s) := fun s hs => by
        rw [up_eq]
        by_cases e : s = i
        · rw [e, pk_us]
        · rw [pk_un e]
          exact h24 s (by omega)
      have nx := ih (i + 1) (by omega) _ keep h24'
      refine pk_le 4 i (fun q => absurd q (by omega)) (fun _ => p_firstBestPick (fun s hs => by rw [hg 23 (by omega)]; exact hP s hs) (by omega) (tk_lt P i (by omega)) ⟨vp_in_nI (by omega) (by omega), vp_in_nI (by omega) (by omega), fun c => ?_, fun c => ⟨vp_in_nI (by omega) (by omega), ?_⟩⟩)
      · rw [g_tk, if_pos c] at nx
        exact nx
      · rcases pick_is P (s := i) (by omega) (g_tk P i) with ⟨w, -⟩ | ⟨k, h1, -, h3, -⟩
        · exact absurd w c
        · rw [g_tk, if_neg c, h3, nI_clamp (by omega)] at nx
          rw [h3, (or_bit_d _ (tk_lt P i (by omega)) k h1).1]
          exact nx
  exact ⟨5, key 4 0 rfl f (fun _ _ => rfl) (fun s hs => by omega)⟩
/-- what match() tells: 0 how many, s + 1 which one s ends -/
noncomputable def g_ma (f : Nat → Nat → Int32) (N m : Nat) : Nat → Int32
  | 0 => nI (g_mf (g_PB f (g_uX f m) N m) 4 0 0)
  | s + 1 => g_pick (g_PB f (g_uX f m) N m) s (g_tk (g_PB f (g_uX f m) N m) s)
theorem p_match39 {post : Int32 → (Nat → Int32) → (Nat → Nat → Int32) → Int64 → Prop} {v : Nat → Int32} {f : Nat → Nat → Int32} {z : Int64} {N m h : Nat} (hW : WF f N m h) (hN : v 7 = nI N) (hm : v 8 = nI m) {x b : Int32} (h0 : N = 0 → post (-103) v f z) (h1 : 0 < N → ∀ (v2 : Nat → Int32) (g : Nat → Nat → Int32), (∀ i, i ≠ 14 → v2 i = v i) → (∀ i, i ≠ 23 → i ≠ 24 → g i = f i) → (b = 0 → ∃ s, s < 4 ∧ x - 10 = nI s ∧ post (g_ma f N m (s + 1)) v2 g z) ∧ (¬ b = 0 → post (g_ma f N m 0) v2 g z)) : wp_X6_match_B39 post v f z x b := by
  unfold wp_X6_match_B39
  have hN4 := hW.1.1
  refine pk_eq N 0 (fun q => h0 q) (fun q => p_findPleasing hW hN hm (fun g hg h23 => p_solve h23 (fun g2 hg2 h24 => ?_))) hN
  have := h1 (by omega) (upd v 14 (nI (g_mf (g_PB f (g_uX f m) N m) 4 0 0))) g2 (fun i hi => pk_un hi) (fun i h1 h2 => (hg2 i h2).trans (hg i h1))
  refine ⟨fun c => ?_, fun c => ?_⟩
  · obtain ⟨s, hs, e, hp⟩ := this.1 c
    rw [e, nI_clamp (by omega), h24 s hs]
    exact ⟨vp_in_nI hs (by omega), hp⟩
  · rw [pk_us]
    exact this.2 c
theorem p_match {post : Int32 → (Nat → Int32) → (Nat → Nat → Int32) → Int64 → Prop} {v : Nat → Int32} {f : Nat → Nat → Int32} {z : Int64} {N m h : Nat} (hW : WF f N m h) (hN : v 7 = nI N) (hm : v 8 = nI m) {x : Int32} (hout : ¬ x = 0 → (¬ ∃ s, s < 4 ∧ x = nI (10 + s)) → post (-102) v f z) (h0 : N = 0 → (x = 0 ∨ ∃ s, s < 4 ∧ x = nI (10 + s)) → post (-103) v f z) (h1 : 0 < N → ∀ (v2 : Nat → Int32) (g : Nat → Nat → Int32), (∀ i, i ≠ 14 → v2 i = v i) → (∀ i, i ≠ 23 → i ≠ 24 → g i = f i) → (x = 0 → post (g_ma f N m 0) v2 g z) ∧ (∀ s, s < 4 → x = nI (10 + s) → post (g_ma f N m (s + 1)) v2 g z)) : wp_X6_match post v f z x := by
  unfold wp_X6_match
  refine ⟨fun e => ?_, fun e => ?_⟩
  · have go : wp_X6_match_B39 post v f z x 1 := p_match39 hW hN hm (fun q => h0 q (Or.inl e)) (fun q v2 g hv hg => ⟨fun c => absurd c (by decide), fun _ => (h1 q v2 g hv hg).1 e⟩)
    unfold wp_X6_match_B9
    exact ⟨fun _ => br_f (by decide) go, fun _ => ⟨fun _ => br_f (by decide) go, fun _ => br_f (by decide) go⟩⟩
  · unfold wp_X6_match_B9
    refine ⟨fun c => br_t rfl (hout e ?_), fun c => ⟨fun d => br_t rfl (hout e ?_), fun d => br_t rfl ?_⟩⟩
    · rintro ⟨s, hs, rfl⟩
      exact nI_nlt (a := 10 + s) (b := 10) (by omega) (by omega) c
    · rintro ⟨s, hs, rfl⟩
      exact nI_ge (a := 10 + s) (b := 14) (by omega) (by omega) d
    · have hx : ∃ s, s < 4 ∧ x = nI (10 + s) := by
        have c' : ¬ x.toInt < 10 := fun q => c (Int32.lt_iff_toInt_lt.mpr q)
        have d' : ¬ 14 ≤ x.toInt := fun q => d (Int32.le_iff_toInt_le.mpr q)
        exact ⟨x.toInt.toNat - 10, by omega, of_toInt (by omega) (by omega)⟩
      obtain ⟨s, hs, hxs⟩ := hx
      exact p_match39 hW hN hm (fun q => h0 q (Or.inr ⟨s, hs, hxs⟩)) (fun q v2 g hv hg => ⟨fun _ => ⟨s, hs, by rw [hxs, show (10 : Int32) = nI 10 from rfl, pk_sub (by omega), Nat.add_sub_cancel_left], (h1 q v2 g hv hg).2 s hs hxs⟩, fun c => absurd rfl c⟩)
