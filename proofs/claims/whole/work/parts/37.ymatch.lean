/-! MATCH in the reference -/
theorem q_endsAsWanted {post : Int32 → Prop} {f : Nat → Nat → Int32} {u : Nat → Int32} {N m h : Nat} {w : Nat → Int32} {g : Nat → Nat → Int32} {z : Int64} (hW : WF f N m h) (hR : RY f u N m h w g) {s k : Nat} (hs : s < N) (hk : k < m) (h1 : g_plz f u s k → post 1) (h0 : ¬ g_plz f u s k → post 0) : wp_X7_endsAsWanted post w g z (nI s) (nI k) := by
  have hN4 := hW.1.1
  have hm8 := hW.1.2.1
  obtain ⟨e1, e2, e3, e4⟩ := hR.2.2.2.1 k hk
  obtain ⟨⟨b, hb, eb⟩, ⟨o, ho, eo⟩, -⟩ := hW.2.2.2.1 k hk
  have ew := (hR.2.2.1 b hb).2.1
  unfold wp_X7_endsAsWanted
  simp (disch := omega) only [m4, nI_1, a2, nI_clamp]
  rw [e1, e2, e3, eo, eb]
  simp (disch := omega) only [m3, nI_1, nI_clamp]
  rw [ew]
  have iff : g_plz f u s k ↔ f 10 k = -1 ∧ ¬ nI b = nI s ∧ g_now f u s o = f 7 b := by
    unfold g_plz
    rw [eb, eo, nI_clamp (by omega), nI_clamp (by omega)]
  rw [iff] at h1 h0
  exact ⟨vp_in_nI (by omega) (by omega), vp_in_nI (by omega) (by omega), fun c => ⟨fun d => h0 (fun q => q.2.1 d), fun d => ⟨vp_in_nI (by omega) (by omega), q_wouldOf hW hR hs ho ⟨vp_in_nI (by omega) (by omega), fun q => h1 ⟨c, d, q⟩, fun q => h0 (fun y => q y.2.2)⟩⟩⟩, fun c => h0 (fun q => c q.1)⟩
/-- the digit of s in a number of N digits to the base m + 1 -/
def g_dg (m N c s : Nat) : Nat := c / (m + 1) ^ (N - 1 - s) % (m + 1)
/-- the digits from n on may stand -/
def g_Vd (f : Nat → Nat → Int32) (u : Nat → Int32) (m N c n : Nat) : Prop := ∀ i, n ≤ i → i < N → g_dg m N c i = 0 ∨ (g_plz f u i (g_dg m N c i - 1) ∧ ∀ j, i < j → j < N → g_dg m N c j ≠ g_dg m N c i)
theorem dg_lt (m N c s : Nat) : g_dg m N c s < m + 1 := Nat.mod_lt _ (by omega)
theorem dg_step {m N c n : Nat} (hn : n < N) : c / (m + 1) ^ (N - (n + 1)) % (m + 1) = g_dg m N c n ∧ c / (m + 1) ^ (N - (n + 1)) / (m + 1) = c / (m + 1) ^ (N - n) := by
  have e : N - (n + 1) = N - 1 - n := by omega
  have e2 : N - n = (N - 1 - n) + 1 := by omega
  rw [e, e2, Nat.pow_succ, Nat.div_div_eq_div_mul]
  exact ⟨rfl, rfl⟩
theorem rw_0 (d : Nat) (hd : d < 2 ^ 31) : nI d - 1 = -1 ↔ d = 0 := by
  match d with
  | 0 => exact ⟨fun _ => rfl, fun _ => by decide⟩
  | d + 1 =>
    rw [nI_pred]
    exact ⟨fun h => absurd h (nI_m1 (by omega)), fun h => by omega⟩
theorem tb_bit {t j : Nat} (ht : t < 256) (hj : j < 8) : ((nI t >>> (nI j &&& 31)) &&& 1) = if t.testBit j = true then 1 else 0 := by
  rw [g_bitY0 ⟨t, ht, rfl⟩ hj, has_tb t ht j hj]
theorem q_layRow {post : Int32 → (Nat → Int32) → (Nat → Nat → Int32) → Int64 → Prop} {f : Nat → Nat → Int32} {u : Nat → Int32} {N m h : Nat} {w : Nat → Int32} {g : Nat → Nat → Int32} {z : Int64} (hW : WF f N m h) (hR : RY f u N m h w g) {c : Nat} (hc : c < 2 ^ 31) (hp : ∀ g2 : Nat → Nat → Int32, (∀ i, i ≠ 6 → g2 i = g i) → (∀ s, s < N → g2 6 s = nI (g_dg m N c s) - 1) → post (if g_b (g_Vd f u m N c 0) = true then 1 else 0) w g2 z) : wp_X7_layRow post w g z (nI c) := by
  have hN4 := hW.1.1
  have hm8 := hW.1.2.1
  have hm := hR.1.2.1
  have key : ∀ n, n ≤ N → ∀ (g2 : Nat → Nat → Int32) (t : Nat), (∀ i, i ≠ 6 → g2 i = g i) → (∀ s, n ≤ s → s < N → g2 6 s = nI (g_dg m N c s) - 1) → t < 256 → (∀ j, j < 8 → (t.testBit j = true ↔ ∃ i, n ≤ i ∧ i < N ∧ g_dg m N c i = j + 1)) → wp_X7_layRow_B15 post (n + 1) w g2 z (nI (c / (m + 1) ^ (N - n))) (nI t) (if g_b (g_Vd f u m N c n) = true then 1 else 0) (nI n + (-1)) := by
    intro n
    induction n with
    | zero =>
      intro hn g2 t hg h6 ht htb
      rw [wp_X7_layRow_B15]
      exact br_t (by decide) ⟨nb_if _, hp g2 hg (fun s hs => h6 s (by omega) hs)⟩
    | succ n ih =>
      intro hn g2 t hg h6 ht htb
      obtain ⟨d1, d2⟩ := dg_step (m := m) (N := N) (c := c) (n := n) (by omega)
      have hcl : c / (m + 1) ^ (N - (n + 1)) < 2 ^ 31 := Nat.lt_of_le_of_lt (Nat.div_le_self _ _) hc
      have hdl := dg_lt m N c n
      rw [nI_d, wp_X7_layRow_B15, hm, nI_1, pk_rem hcl (by omega) (by omega), pk_div hcl (by omega) (by omega), d1, d2, nI_clamp (by omega)]
      simp only [pk_us]
      generalize hg3 : va_up g2 6 (upd (g2 6) n (nI (g_dg m N c n) - 1)) = g3
      have keep : ∀ i, i ≠ 6 → g3 i = g i := fun i hi => by
        rw [← hg3, up_ne hi]
        exact hg i hi
      have h6' : ∀ s, n ≤ s → s < N → g3 6 s = nI (g_dg m N c s) - 1 := fun s h1 h2 => by
        rw [← hg3, up_eq]
        by_cases e : s = n
        · rw [e, pk_us]
        · rw [pk_un e]
          exact h6 s (by omega) h2
      have nz : ¬ nI (m + 1) = 0 := nI_ne0 (by omega) (by omega)
      have pn : ¬ nI n < 0 := nI_pos (by omega)
      have hin : vp_in (nI n) 4 := vp_in_nI (by omega) (by omega)
      have hR3 : RY f u N m h w g3 := hR.keep ⟨rfl, rfl, rfl⟩ ⟨keep 3 (by omega), keep 4 (by omega), keep 5 (by omega), keep 8 (by omega)⟩
      refine br_f pn ⟨nz, hin, nz, hin, fun e => ?_, fun e => ?_⟩
      · rw [rw_0 _ (by omega)] at e
        have nx := ih (by omega) g3 t keep h6' ht (fun j hj => by
          rw [htb j hj]
          refine ⟨fun ⟨i, q1, q2, q3⟩ => ⟨i, by omega, q2, q3⟩, fun ⟨i, q1, q2, q3⟩ => ⟨i, ?_, q2, q3⟩⟩
          by_cases r : i = n
          · rw [r, e] at q3
            omega
          · omega)
        have iff : g_Vd f u m N c n ↔ g_Vd f u m N c (n + 1) := by
          refine ⟨fun q i q1 q2 => q i (by omega) q2, fun q i q1 q2 => ?_⟩
          by_cases r : i = n
          · exact Or.inl (r ▸ e)
          · exact q i (by omega) q2
        rw [g_b_cong iff] at nx
        exact nx
      · have e0 : ¬ g_dg m N c n = 0 := fun q => e ((rw_0 _ (by omega)).mpr q)
        obtain ⟨k, hk⟩ : ∃ k, g_dg m N c n = k + 1 := ⟨g_dg m N c n - 1, by omega⟩
        have hk8 : k < 8 := by omega
        have r6 : g3 6 n = nI k := by rw [h6' n (Nat.le_refl _) (by omega), hk, nI_pred]
        rw [hk, nI_pred]
        have nx := ih (by omega) g3 (t ||| 2 ^ k) keep h6' (or_bit_d t ht k hk8).2 (fun j hj => by
          rw [or_tb, Bool.or_eq_true, htb j hj, decide_eq_true_eq]
          refine ⟨fun q => q.elim (fun ⟨i, q1, q2, q3⟩ => ⟨i, by omega, q2, q3⟩) (fun q => ⟨n, Nat.le_refl _, by omega, by rw [hk, q]⟩), fun ⟨i, q1, q2, q3⟩ => ?_⟩
          by_cases r : i = n
          · right
            rw [r, hk] at q3
            omega
          · exact Or.inl ⟨i, by omega, q2, q3⟩)
        have orr : nI t ||| ((1 : Int32) <<< (nI k &&& 31)) = nI (t ||| 2 ^ k) := (or_bit_d t ht k hk8).1
        have no : ¬ g_Vd f u m N c n → wp_X7_layRow_B96 post (wp_X7_layRow_B15 post (n + 1)) w g3 z (nI (c / (m + 1) ^ (N - n))) (nI t) (nI n) := fun q => by
          unfold wp_X7_layRow_B96
          rw [nI_clamp (by omega), r6, orr]
          rw [if_neg (g_bf q)] at nx
          exact ⟨hin, nx⟩
        refine bo_if (fun q => no (fun r => q (g_bt (fun i q1 q2 => r i (by omega) q2)))) (fun q => ⟨hin, ?_⟩)
        rw [tb_bit ht hk8]
        refine bo_if (fun q2 => ⟨hin, q_endsAsWanted hW hR3 (by omega) (by omega) (fun q3 => br_f (by decide) ⟨hin, ?_⟩) (fun q3 => br_t rfl (no (fun r => ?_)))⟩) (fun q2 => no (fun r => ?_))
        · rw [g_b_iff] at q
          have vv : g_Vd f u m N c n := fun i q1 q4 => by
            by_cases r : i = n
            · subst r
              refine Or.inr ⟨by rw [hk]; exact q3, fun j q5 q6 q7 => q2 ((htb k hk8).mpr ⟨j, by omega, q6, by rw [q7, hk]⟩)⟩
            · exact q i (by omega) q4
          rw [if_pos (g_bt vv)] at nx
          rw [orr]
          exact nx
        · rcases r n (Nat.le_refl _) (by omega) with r | r
          · exact e0 r
          · rw [hk] at r
            exact q3 r.1
        · obtain ⟨i, q3, q4, q5⟩ := (htb k hk8).mp q2
          rcases r n (Nat.le_refl _) (by omega) with r | r
          · exact e0 r
          · exact r.2 i (by omega) q4 (by rw [q5, hk])
  unfold wp_X7_layRow
  rw [hR.1.1]
  have e1 : nI N - 1 = nI N + (-1) := by
    rw [Int32.sub_eq_add_neg]
  have := key N (Nat.le_refl _) g 0 (fun _ _ => rfl) (fun s h1 h2 => by omega) (by omega) (fun j hj => ⟨fun q => by simp at q, fun ⟨i, q1, q2, _⟩ => by omega⟩)
  rw [Nat.sub_self, Nat.pow_zero, Nat.div_one, if_pos (g_bt (show g_Vd f u m N c N from fun i h1 h2 => by omega))] at this
  rw [e1]
  exact ⟨N + 1, this⟩
/-- how many digits aren't 0 -/
noncomputable def g_cn (m N c : Nat) : Nat := g_cnt (fun s => g_b (¬ g_dg m N c s = 0)) N
/-- the best of the numbers below c, the first of like ones: x how many, r its row -/
def g_Bs (f : Nat → Nat → Int32) (u : Nat → Int32) (m N c : Nat) (x : Int32) (r : Nat → Int32) : Prop := (c = 0 ∧ x = -1) ∨ ∃ b, b < c ∧ g_Vd f u m N b 0 ∧ x = nI (g_cn m N b) ∧ (∀ s, s < N → r s = nI (g_dg m N b s) - 1) ∧ (∀ d, d < c → g_Vd f u m N d 0 → g_cn m N d ≤ g_cn m N b) ∧ (∀ d, d < b → g_Vd f u m N d 0 → g_cn m N d < g_cn m N b)
theorem q_matchOf0 {post : Int32 → (Nat → Int32) → (Nat → Nat → Int32) → Int64 → Prop} {f : Nat → Nat → Int32} {u : Nat → Int32} {N m h : Nat} {w : Nat → Int32} {g : Nat → Nat → Int32} {z : Int64} (hW : WF f N m h) (hR : RY f u N m h w g) {y : Int32} (hp : ∀ (g2 : Nat → Nat → Int32) (x : Int32), (∀ i, i ≠ 6 → i ≠ 7 → g2 i = g i) → g_Bs f u m N ((m + 1) ^ N) x (g2 7) → (y = 0 → post x w g2 z) ∧ (¬ y = 0 → (nI N ≤ y - 10 → post (-1) w g2 z) ∧ (¬ nI N ≤ y - 10 → vp_in (y - 10) 4 ∧ post (g2 7 (y - 10).toNatClampNeg) w g2 z))) : wp_X7_matchOf post w g z y := by
  have hN4 := hW.1.1
  have hm8 := hW.1.2.1
  have hN := hR.1.1
  have hm := hR.1.2.1
  have hB : ∀ i, i ≤ 4 → (m + 1) ^ i ≤ 6561 := fun i hi => by
    have h1 : (m + 1) ^ i ≤ 9 ^ i := Nat.pow_le_pow_left (by omega) i
    have h2 : 9 ^ i ≤ 9 ^ 4 := Nat.pow_le_pow_right (by omega) hi
    have h3 : (9 : Nat) ^ 4 = 6561 := by decide
    omega
  have hT := hB N hN4
  have scan : ∀ j c, c + j = (m + 1) ^ N → ∀ (g2 : Nat → Nat → Int32) (x : Int32), (∀ i, i ≠ 6 → i ≠ 7 → g2 i = g i) → g_Bs f u m N c x (g2 7) → wp_X7_matchOf_B32 post (j + 1) w g2 z y (nI ((m + 1) ^ N)) x (nI c) := by
    intro j
    induction j with
    | zero =>
      intro c hc g2 x hg hbs
      obtain rfl : c = (m + 1) ^ N := by omega
      rw [wp_X7_matchOf_B32, hN]
      exact pk_le ((m + 1) ^ N) ((m + 1) ^ N) (fun _ => hp g2 x hg hbs) (fun q => absurd q (by omega))
    | succ j ih =>
      intro c hc g2 x hg hbs
      rw [wp_X7_matchOf_B32, nI_1]
      have hR2 : RY f u N m h w g2 := hR.keep ⟨rfl, rfl, rfl⟩ ⟨hg 3 (by omega) (by omega), hg 4 (by omega) (by omega), hg 5 (by omega) (by omega), hg 8 (by omega) (by omega)⟩
      refine pk_le ((m + 1) ^ N) c (fun q => absurd q (by omega)) (fun _ => q_layRow hW hR2 (by omega) (fun g3 hg3 h6 => bo_if (fun q => ?_) (fun q => ?_)))
      · refine ih (c + 1) (by omega) g3 x (fun i h1 h2 => (hg3 i h1).trans (hg i h1 h2)) ?_
        rw [hg3 7 (by omega)]
        have nv : ¬ g_Vd f u m N c 0 := fun r => q (g_bt r)
        rcases hbs with ⟨e1, -⟩ | ⟨b, b1, b2, b3, b4, b5, b6⟩
        · exfalso
          apply nv
          intro i _ h2
          left
          unfold g_dg
          rw [e1, Nat.zero_div, Nat.zero_mod]
        · refine Or.inr ⟨b, by omega, b2, b3, b4, fun d hd hv => ?_, b6⟩
          by_cases e : d = c
          · exact absurd (e ▸ hv) nv
          · exact b5 d (by omega) hv
      · rw [g_b_iff] at q
        have cnt : ∀ a i, i + a = N → wp_X7_matchOf_B53 post (wp_X7_matchOf_B32 post (j + 1)) (a + 1) w g3 z y (nI ((m + 1) ^ N)) x (nI c) (nI (g_cnt (fun s => g_b (¬ g_dg m N c s = 0)) i)) (nI i) := by
          intro a
          induction a with
          | zero =>
            intro i hi
            obtain rfl : i = N := by omega
            rw [wp_X7_matchOf_B53, nI_1]
            have hcn := g_cnt_le (fun s => g_b (¬ g_dg m i c s = 0)) i
            have hcn2 : g_cn m i c = g_cnt (fun s => g_b (¬ g_dg m i c s = 0)) i := rfl
            have keepR : x = -1 ∨ ∃ k, k ≤ 4 ∧ x = nI k := by
              rcases hbs with ⟨-, e2⟩ | ⟨b, b1, b2, b3, -⟩
              · exact Or.inl e2
              · have : g_cn m i b ≤ i := g_cnt_le _ i
                exact Or.inr ⟨g_cn m i b, by omega, b3⟩
            refine pk_le i i (fun _ => ⟨fun le => ?_, fun gt => ?_⟩) (fun q => absurd q (by omega)) hN
            · refine ih (c + 1) (by omega) g3 x (fun i h1 h2 => (hg3 i h1).trans (hg i h1 h2)) ?_
              rw [hg3 7 (by omega)]
              rcases hbs with ⟨-, e2⟩ | ⟨b, b1, b2, b3, b4, b5, b6⟩
              · rw [e2] at le
                have h1 := Int32.le_iff_toInt_le.mp le
                rw [nI_toInt (by omega), show (-1 : Int32).toInt = -1 by decide] at h1
                omega
              · rw [b3] at le
                have hb : g_cn m i b ≤ i := g_cnt_le _ i
                have le2 := (nI_leI (by omega) (by omega)).mp le
                refine Or.inr ⟨b, by omega, b2, b3, b4, fun d hd hv => ?_, b6⟩
                by_cases e : d = c
                · rw [e, hcn2]
                  exact le2
                · exact b5 d (by omega) hv
            · refine ih (c + 1) (by omega) _ (nI (g_cnt (fun s => g_b (¬ g_dg m i c s = 0)) i)) (fun k h1 h2 => by rw [up_ne h2]; exact (hg3 k h1).trans (hg k h1 h2)) ?_
              rw [up_eq]
              have old : ∀ d, d < c → g_Vd f u m i d 0 → g_cn m i d < g_cn m i c := fun d hd hv => by
                rcases hbs with ⟨e1, -⟩ | ⟨b, b1, b2, b3, b4, b5, b6⟩
                · omega
                · have h1 := b5 d hd hv
                  have hb : g_cn m i b ≤ i := g_cnt_le _ i
                  have : ¬ g_cnt (fun s => g_b (¬ g_dg m i c s = 0)) i ≤ g_cn m i b := fun r => gt (by rw [b3]; exact nI_le r (by omega))
                  omega
              refine Or.inr ⟨c, by omega, q, rfl, fun s hs => ?_, fun d hd hv => ?_, old⟩
              · rw [pk_cpy_in (by omega) (by omega), Nat.sub_zero, Nat.zero_add]
                exact h6 s hs
              · by_cases e : d = c
                · rw [e]
                  exact Nat.le_refl _
                · have := old d (by omega) hv
                  omega
          | succ a ih2 =>
            intro i hi
            rw [wp_X7_matchOf_B53, nI_clamp (by omega), nI_1, nI_1, nI_1, nI_a0, h6 i (by omega)]
            have nx := ih2 (i + 1) (by omega)
            have hdl := dg_lt m N c i
            refine pk_le N i (fun q => absurd q (by omega)) (fun _ => ⟨vp_in_nI (by omega) (by omega), fun e => ?_, fun e => ?_⟩) hN
            · rw [rw_0 _ (by omega)] at e
              rw [g_cnt, if_neg (g_bf (fun r => r e))] at nx
              exact nx
            · rw [rw_0 _ (by omega)] at e
              rw [g_cnt, if_pos (g_bt e)] at nx
              exact nx
        exact ⟨N + 1, cnt N 0 (by omega)⟩
  have mul : ∀ j i, i + j = N → wp_X7_matchOf_B4 post (j + 1) w g z y (nI ((m + 1) ^ i)) (nI i) := by
    intro j
    induction j with
    | zero =>
      intro i hi
      obtain rfl : i = N := by omega
      rw [wp_X7_matchOf_B4]
      exact pk_le i i (fun _ => ⟨(m + 1) ^ i + 1, scan ((m + 1) ^ i) 0 (by omega) g (-1) (fun _ _ _ => rfl) (Or.inl ⟨rfl, rfl⟩)⟩) (fun q => absurd q (by omega)) hN
    | succ j ih =>
      intro i hi
      rw [wp_X7_matchOf_B4, hm, nI_1, nI_1, pk_mul]
      have nx := ih (i + 1) (by omega)
      rw [Nat.pow_succ] at nx
      exact pk_le N i (fun q => absurd q (by omega)) (fun _ => nx) hN
  unfold wp_X7_matchOf
  exact ⟨N + 1, mul N 0 (by omega)⟩
theorem cnt_ext {p : Nat → Bool} {N : Nat} : ∀ n, N ≤ n → (∀ k, N ≤ k → k < n → ¬ p k = true) → g_cnt p n = g_cnt p N
  | 0, h, _ => by rw [show N = 0 by omega]
  | n + 1, h, hp => by
    by_cases e : N = n + 1
    · rw [e]
    · rw [g_cnt, if_neg (hp n (by omega) (by omega))]
      exact cnt_ext n (by omega) (fun k h1 h2 => hp k h1 (by omega))
theorem cd_cnt (a : Nat → Nat) : g_cd a 4 = g_cnt (fun s => g_b (¬ a s = 0)) 4 := by
  have e : ∀ s, (g_b (¬ a s = 0) = true) ↔ ¬ a s = 0 := fun s => g_b_iff
  simp only [g_cd, g_cnt, e]
  by_cases h0 : a 0 = 0 <;> by_cases h1 : a 1 = 0 <;> by_cases h2 : a 2 = 0 <;> by_cases h3 : a 3 = 0 <;> simp [h0, h1, h2, h3]
theorem num_cong {a b : Nat → Nat} {B N : Nat} : ∀ n, n ≤ N → (∀ i, i < N → a i = b i) → g_num a B N n = g_num b B N n
  | 0, _, _ => rfl
  | n + 1, h, e => by
    unfold g_num
    rw [e (N - 1 - n) (by omega), num_cong n (by omega) e]
/-- what the reference finds is what the class finds -/
theorem match_one {f : Nat → Nat → Int32} {u : Nat → Int32} {N m : Nat} (hN4 : N ≤ 4) (hm8 : m ≤ 8) (hN0 : 0 < N) {x : Int32} {r : Nat → Int32} (hb : g_Bs f u m N ((m + 1) ^ N) x r) : x = nI (g_mf (g_PB f u N m) 4 0 0) ∧ (∀ s, s < N → r s = g_pick (g_PB f u N m) s (g_tk (g_PB f u N m) s)) ∧ (∀ s, N ≤ s → s < 4 → g_pick (g_PB f u N m) s (g_tk (g_PB f u N m) s) = -1) := by
  generalize hP : g_PB f u N m = P
  have Ptb : ∀ s k, (P s).testBit k = true ↔ k < m ∧ s < N ∧ g_plz f u s k := fun s k => by
    rw [← hP]
    unfold g_PB
    rw [pls_tb, Bool.and_eq_true, decide_eq_true_eq, g_b_iff]
  have el0 : ∀ s k, g_el P s 0 k = true ↔ k < m ∧ s < N ∧ g_plz f u s k := fun s k => by
    unfold g_el
    rw [Nat.zero_testBit]
    simp only [Bool.not_false, Bool.and_true]
    exact Ptb s k
  have hT : 0 < (m + 1) ^ N := Nat.pow_pos (by omega)
  rcases hb with ⟨e, -⟩ | ⟨b, b1, b2, b3, b4, b5, b6⟩
  · omega
  -- digits with none beyond N
  have ext : ∀ c, g_Vd f u m N c 0 → g_V P (fun s => if s < N then g_dg m N c s else 0) 0 0 := fun c hv i _ hi => by
    by_cases q : i < N
    · simp only [if_pos q]
      rcases hv i (Nat.zero_le _) q with e | ⟨e1, e2⟩
      · exact Or.inl e
      · by_cases z : g_dg m N c i = 0
        · exact Or.inl z
        · refine Or.inr ⟨(el0 _ _).mpr ⟨by have := dg_lt m N c i; omega, q, e1⟩, fun j h1 h2 => ?_⟩
          by_cases q2 : j < N
          · simp only [if_pos q2]
            exact e2 j h1 q2
          · simp only [if_neg q2]
            exact fun w => z w.symm
    · exact Or.inl (if_neg q)
  have cdn : ∀ c, g_cd (fun s => if s < N then g_dg m N c s else 0) 4 = g_cn m N c := fun c => by
    rw [cd_cnt, cnt_ext (N := N) 4 hN4 (fun k h1 h2 => g_bf (fun w => w (if_neg (by omega))))]
    exact g_cnt_cong N (fun k hk => g_b_cong (by simp only [if_pos hk]))
  have a8 : ∀ c i, i < 4 → (fun s => if s < N then g_dg m N c s else 0) i ≤ 8 := fun c i _ => by
    show (if i < N then _ else _) ≤ 8
    have := dg_lt m N c i
    split <;> omega
  obtain ⟨eV, eC⟩ := eg_V P 4 0 rfl
  have t0 : g_tk P 0 = 0 := rfl
  rw [t0] at eV eC
  have eN : ∀ s, N ≤ s → s < 4 → g_eg P s = 0 := fun s h1 h2 => by
    rcases eV s (Nat.zero_le _) h2 with e | ⟨e, -⟩
    · exact e
    · have := (el0 _ _).mp e
      omega
  have eB : ∀ s, s < N → g_eg P s < m + 1 := fun s h1 => by
    rcases eV s (Nat.zero_le _) (by omega) with e | ⟨e, -⟩
    · omega
    · have := ((el0 _ _).mp e).1
      omega
  -- the class's own number
  generalize hC : g_num (g_eg P) (m + 1) N N = C
  have hCl : C < (m + 1) ^ N := by
    rw [← hC]
    exact num_lt (by omega) eB N (Nat.le_refl _)
  have hCd : ∀ s, s < N → g_dg m N C s = g_eg P s := fun s hs => by
    unfold g_dg
    rw [← hC, num_dg (by omega) eB N (by omega) (Nat.le_refl _), show N - 1 - (N - 1 - s) = s by omega]
  have hCV : g_Vd f u m N C 0 := fun i _ hi => by
    rw [hCd i hi]
    rcases eV i (Nat.zero_le _) (by omega) with e | ⟨e1, e2⟩
    · exact Or.inl e
    · refine Or.inr ⟨((el0 _ _).mp e1).2.2, fun j h1 h2 => ?_⟩
      rw [hCd j h2]
      exact e2 j h1 (by omega)
  have hCc : g_cn m N C = g_mf P 4 0 0 := by
    rw [← eC, cd_cnt, cnt_ext (N := N) 4 hN4 (fun k h1 h2 => g_bf (fun w => w (eN k h1 h2)))]
    exact g_cnt_cong N (fun k hk => g_b_cong (by rw [hCd k hk]))
  have bV := ext b b2
  have up := V_up 4 0 0 rfl (fun i _ hi => a8 b i hi) bV
  rw [cdn b] at up
  have ge := b5 C hCl hCV
  have cb : g_cn m N b = g_mf P 4 0 0 := by omega
  have lex := eg_lex (P := P) (a := fun s => if s < N then g_dg m N b s else 0) (B := m + 1) hN4 (by omega) (a8 b) (fun i h1 _ => if_neg (by omega)) eB 4 0 rfl (by rw [t0]; exact bV) (by rw [t0, cdn b, cb])
  rw [Nat.sub_zero, hC, num_cong (b := fun s => b / (m + 1) ^ (N - 1 - s) % (m + 1)) N (Nat.le_refl _) (fun i hi => by simp only [if_pos hi]; rfl), ← mod_num N (Nat.le_refl _), Nat.mod_eq_of_lt b1] at lex
  have hbC : b = C := by
    by_cases q : C < b
    · have := b6 C q hCV
      omega
    · omega
  have pk : ∀ s, s < 4 → nI (g_eg P s) - 1 = g_pick P s (g_tk P s) := fun s hs => by
    unfold g_eg
    rcases pick_is P hs (g_tk P s) with ⟨h1, -⟩ | ⟨k, h1, -, h3, -⟩
    · rw [if_pos h1, h1]
      decide
    · rw [h3, if_neg (nI_m1 (by omega)), nI_clamp (by omega), nI_pred]
  refine ⟨by rw [b3, cb], fun s hs => ?_, fun s h1 h2 => ?_⟩
  · rw [b4 s hs, hbC, hCd s hs]
    exact pk s (by omega)
  · rw [← pk s h2, eN s h1 h2]
    decide
theorem q_matchOf {post : Int32 → (Nat → Int32) → (Nat → Nat → Int32) → Int64 → Prop} {f : Nat → Nat → Int32} {N m h : Nat} {w : Nat → Int32} {g : Nat → Nat → Int32} {z : Int64} (hW : WF f N m h) (hR : RY f (g_uX f m) N m h w g) (hN0 : 0 < N) {y : Int32} (hy : y = 0 ∨ ∃ s, s < 4 ∧ y = nI (10 + s)) (hp : ∀ g2 : Nat → Nat → Int32, (∀ i, i ≠ 6 → i ≠ 7 → g2 i = g i) → (y = 0 → post (g_ma f N m 0) w g2 z) ∧ (∀ s, s < 4 → y = nI (10 + s) → post (g_ma f N m (s + 1)) w g2 z)) : wp_X7_matchOf post w g z y := by
  have hN4 := hW.1.1
  refine q_matchOf0 hW hR (fun g2 x hg hb => ?_)
  obtain ⟨m1, m2, m3⟩ := match_one hN4 hW.1.2.1 hN0 hb
  obtain ⟨h1, h2⟩ := hp g2 hg
  refine ⟨fun e => by rw [m1]; exact h1 e, fun e => ?_⟩
  rcases hy with hy | ⟨s, hs, hy⟩
  · exact absurd hy e
  · have e2 : y - 10 = nI s := by rw [hy, show (10 : Int32) = nI 10 from rfl, pk_sub (by omega), Nat.add_sub_cancel_left]
    rw [e2, nI_clamp (by omega)]
    have := h2 s hs hy
    refine pk_le N s (fun q => ?_) (fun q => ⟨vp_in_nI hs (by omega), ?_⟩)
    · rw [← m3 s q hs]
      exact this
    · rw [m2 s q]
      exact this
