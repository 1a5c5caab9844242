/-! MATCH: the class's way of it, and that it is the first of the best by numbers -/
def g_el (P : Nat → Nat) (s t k : Nat) : Bool := (P s).testBit k && !t.testBit k
def g_mfl (q : Nat → Bool) (r : Nat → Nat) (b : Nat) : Nat → Nat
  | 0 => b
  | k + 1 => if q k = true then max (g_mfl q r b k) (1 + r k) else g_mfl q r b k
/-- how many the speakers from s on can end, d of them, if those of t are taken -/
def g_mf (P : Nat → Nat) : Nat → Nat → Nat → Nat
  | 0, _, _ => 0
  | d + 1, s, t => g_mfl (g_el P s t) (fun k => g_mf P d (s + 1) (t ||| 2 ^ k)) (g_mf P d (s + 1) t) 8
theorem mfl_base {q : Nat → Bool} {r : Nat → Nat} {b : Nat} : ∀ n, b ≤ g_mfl q r b n
  | 0 => Nat.le_refl _
  | n + 1 => by
    have := mfl_base (q := q) (r := r) (b := b) n
    unfold g_mfl
    split <;> omega
theorem mfl_ge {q : Nat → Bool} {r : Nat → Nat} {b k : Nat} (hq : q k = true) : ∀ n, k < n → 1 + r k ≤ g_mfl q r b n
  | 0, h => by omega
  | n + 1, h => by
    unfold g_mfl
    by_cases e : k = n
    · subst e
      rw [if_pos hq]
      omega
    · have := mfl_ge (r := r) (b := b) hq n (by omega)
      split <;> omega
theorem mfl_is {q : Nat → Bool} {r : Nat → Nat} {b : Nat} : ∀ n, g_mfl q r b n = b ∨ ∃ k, k < n ∧ q k = true ∧ g_mfl q r b n = 1 + r k
  | 0 => Or.inl rfl
  | n + 1 => by
    unfold g_mfl
    have ih := mfl_is (q := q) (r := r) (b := b) n
    by_cases e : q n = true
    · rw [if_pos e]
      by_cases c : 1 + r n ≤ g_mfl q r b n
      · rw [Nat.max_eq_left c]
        rcases ih with h | ⟨k, h1, h2, h3⟩
        · exact Or.inl h
        · exact Or.inr ⟨k, by omega, h2, h3⟩
      · rw [Nat.max_eq_right (by omega)]
        exact Or.inr ⟨n, by omega, e, rfl⟩
    · rw [if_neg e]
      rcases ih with h | ⟨k, h1, h2, h3⟩
      · exact Or.inl h
      · exact Or.inr ⟨k, by omega, h2, h3⟩
theorem mf_le (P : Nat → Nat) : ∀ d s t, g_mf P d s t ≤ d
  | 0, _, _ => Nat.le_refl _
  | d + 1, s, t => by
    unfold g_mf
    rcases mfl_is (q := g_el P s t) (r := fun k => g_mf P d (s + 1) (t ||| 2 ^ k)) (b := g_mf P d (s + 1) t) 8 with h | ⟨k, _, _, h⟩
    · rw [h]
      have := mf_le P d (s + 1) t
      omega
    · rw [h]
      have := mf_le P d (s + 1) (t ||| 2 ^ k)
      show 1 + g_mf P d (s + 1) (t ||| 2 ^ k) ≤ d + 1
      omega
theorem mf_base (P : Nat → Nat) (d s t : Nat) : g_mf P d (s + 1) t ≤ g_mf P (d + 1) s t := by
  rw [g_mf]
  exact mfl_base 8
theorem mf_ge (P : Nat → Nat) (d s t k : Nat) (hk : k < 8) (h : g_el P s t k = true) : 1 + g_mf P d (s + 1) (t ||| 2 ^ k) ≤ g_mf P (d + 1) s t := by
  rw [g_mf]
  exact mfl_ge (r := fun k => g_mf P d (s + 1) (t ||| 2 ^ k)) h 8 hk
theorem mf_is (P : Nat → Nat) (d s t : Nat) : g_mf P (d + 1) s t = g_mf P d (s + 1) t ∨ ∃ k, k < 8 ∧ g_el P s t k = true ∧ g_mf P (d + 1) s t = 1 + g_mf P d (s + 1) (t ||| 2 ^ k) := by
  rw [g_mf]
  exact mfl_is (r := fun k => g_mf P d (s + 1) (t ||| 2 ^ k)) 8
/-- which one s ends, when those of t are taken: none ahead of all, then by numbers -/
def g_pick (P : Nat → Nat) (s t : Nat) : Int32 := if g_mf P (3 - s) (s + 1) t = g_mf P (4 - s) s t then -1 else g_fst (fun k => g_el P s t k && decide (1 + g_mf P (3 - s) (s + 1) (t ||| 2 ^ k) = g_mf P (4 - s) s t)) 8 0
/-- those that are taken by the first s -/
def g_tk (P : Nat → Nat) : Nat → Nat
  | 0 => 0
  | s + 1 => if g_pick P s (g_tk P s) = -1 then g_tk P s else g_tk P s ||| 2 ^ (g_pick P s (g_tk P s)).toNatClampNeg
theorem pick_is (P : Nat → Nat) {s : Nat} (hs : s < 4) (t : Nat) : (g_pick P s t = -1 ∧ g_mf P (3 - s) (s + 1) t = g_mf P (4 - s) s t) ∨ ∃ k, k < 8 ∧ g_el P s t k = true ∧ g_pick P s t = nI k ∧ 1 + g_mf P (3 - s) (s + 1) (t ||| 2 ^ k) = g_mf P (4 - s) s t ∧ ¬ g_mf P (3 - s) (s + 1) t = g_mf P (4 - s) s t ∧ ∀ j, j < k → g_el P s t j = true → ¬ 1 + g_mf P (3 - s) (s + 1) (t ||| 2 ^ j) = g_mf P (4 - s) s t := by
  have e : 4 - s = (3 - s) + 1 := by omega
  unfold g_pick
  by_cases c : g_mf P (3 - s) (s + 1) t = g_mf P (4 - s) s t
  · rw [if_pos c]
    exact Or.inl ⟨rfl, c⟩
  · rw [if_neg c]
    have hex : ∃ k, k < 8 ∧ (g_el P s t k = true ∧ 1 + g_mf P (3 - s) (s + 1) (t ||| 2 ^ k) = g_mf P (4 - s) s t) := by
      rcases mf_is P (3 - s) s t with h | ⟨k, h1, h2, h3⟩
      · rw [← e] at h
        exact absurd h.symm c
      · rw [← e] at h3
        exact ⟨k, h1, h2, h3.symm⟩
    obtain ⟨k, hk, ⟨h1, h2⟩, hm⟩ := g_first hex
    refine Or.inr ⟨k, hk, h1, ?_, h2, c, fun j hj h3 h4 => hm j hj ⟨h3, h4⟩⟩
    refine g_fst_at (by simp [h1, h2]) 8 0 (by omega) (by omega) (fun j _ hj q => hm j hj ?_)
    simpa using q
/-- the digit of s: 0 for none, else the sentence and 1 -/
def g_eg (P : Nat → Nat) (s : Nat) : Nat := if g_pick P s (g_tk P s) = -1 then 0 else (g_pick P s (g_tk P s)).toNatClampNeg + 1
/-- digits that may stand from s on, if those of t are taken -/
def g_V (P : Nat → Nat) (a : Nat → Nat) (s t : Nat) : Prop := ∀ i, s ≤ i → i < 4 → a i = 0 ∨ (g_el P i t (a i - 1) = true ∧ ∀ j, i < j → j < 4 → a j ≠ a i)
/-- how many of the last d of the four digits aren't 0 -/
def g_cd (a : Nat → Nat) : Nat → Nat
  | 0 => 0
  | d + 1 => if a (3 - d) = 0 then g_cd a d else g_cd a d + 1
theorem or_tb (t k j : Nat) : (t ||| 2 ^ k).testBit j = (t.testBit j || decide (k = j)) := by rw [Nat.testBit_or, Nat.testBit_two_pow]
theorem V_next {P : Nat → Nat} {a : Nat → Nat} {s t : Nat} (h : g_V P a s t) (hs : s < 4) (h0 : ¬ a s = 0) : g_V P a (s + 1) (t ||| 2 ^ (a s - 1)) := by
  intro i h1 h2
  rcases h i (by omega) h2 with e | ⟨e1, e2⟩
  · exact Or.inl e
  · rcases h s (Nat.le_refl _) hs with q | ⟨_, q2⟩
    · exact absurd q h0
    · by_cases z : a i = 0
      · exact Or.inl z
      · refine Or.inr ⟨?_, e2⟩
        have ne := q2 i (by omega) h2
        unfold g_el at e1 ⊢
        rw [or_tb, decide_eq_false (by omega), Bool.or_false]
        exact e1
theorem V_up {P : Nat → Nat} {a : Nat → Nat} : ∀ d s t, s + d = 4 → (∀ i, s ≤ i → i < 4 → a i ≤ 8) → g_V P a s t → g_cd a d ≤ g_mf P d s t
  | 0, _, _, _, _, _ => Nat.zero_le _
  | d + 1, s, t, hs, ha, h => by
    have e : 3 - d = s := by omega
    unfold g_cd
    rw [e]
    by_cases z : a s = 0
    · rw [if_pos z]
      have ih := V_up d (s + 1) t (by omega) (fun i h1 h2 => ha i (by omega) h2) (fun i h1 h2 => h i (by omega) h2)
      have := mf_base P d s t
      omega
    · rw [if_neg z]
      have ih := V_up d (s + 1) (t ||| 2 ^ (a s - 1)) (by omega) (fun i h1 h2 => ha i (by omega) h2) (V_next h (by omega) z)
      rcases h s (Nat.le_refl _) (by omega) with q | ⟨q, -⟩
      · exact absurd q z
      · have := mf_ge P d s t (a s - 1) (by have := ha s (Nat.le_refl _) (by omega); omega) q
        omega
theorem eg_is (P : Nat → Nat) {s : Nat} (hs : s < 4) : (g_eg P s = 0 ∧ g_tk P (s + 1) = g_tk P s ∧ g_mf P (3 - s) (s + 1) (g_tk P s) = g_mf P (4 - s) s (g_tk P s)) ∨ ∃ k, k < 8 ∧ g_eg P s = k + 1 ∧ g_tk P (s + 1) = g_tk P s ||| 2 ^ k ∧ g_el P s (g_tk P s) k = true ∧ 1 + g_mf P (3 - s) (s + 1) (g_tk P s ||| 2 ^ k) = g_mf P (4 - s) s (g_tk P s) ∧ ¬ g_mf P (3 - s) (s + 1) (g_tk P s) = g_mf P (4 - s) s (g_tk P s) ∧ ∀ j, j < k → g_el P s (g_tk P s) j = true → ¬ 1 + g_mf P (3 - s) (s + 1) (g_tk P s ||| 2 ^ j) = g_mf P (4 - s) s (g_tk P s) := by
  rcases pick_is P hs (g_tk P s) with ⟨h1, h2⟩ | ⟨k, h1, h2, h3, h4, h5, h6⟩
  · left
    refine ⟨by rw [g_eg, if_pos h1], by rw [g_tk, if_pos h1], h2⟩
  · right
    have n1 : ¬ g_pick P s (g_tk P s) = -1 := by rw [h3]; exact nI_m1 (by omega)
    refine ⟨k, h1, ?_, ?_, h2, h4, h5, h6⟩
    · rw [g_eg, if_neg n1, h3, nI_clamp (by omega)]
    · rw [g_tk, if_neg n1, h3, nI_clamp (by omega)]
theorem eg_le (P : Nat → Nat) {s : Nat} (hs : s < 4) : g_eg P s ≤ 8 := by
  rcases eg_is P hs with ⟨h, -⟩ | ⟨k, h1, h2, -⟩ <;> omega
theorem eg_V (P : Nat → Nat) : ∀ d s, s + d = 4 → g_V P (g_eg P) s (g_tk P s) ∧ g_cd (g_eg P) d = g_mf P d s (g_tk P s)
  | 0, s, hs => ⟨fun i h1 h2 => by omega, rfl⟩
  | d + 1, s, hs => by
    obtain ⟨ih1, ih2⟩ := eg_V P d (s + 1) (by omega)
    have e : 3 - d = s := by omega
    have e2 : 3 - s = d := by omega
    have e3 : 4 - s = d + 1 := by omega
    rcases eg_is P (s := s) (by omega) with ⟨h1, h2, h3⟩ | ⟨k, h1, h2, h3, h4, h5, h6, h7⟩
    · rw [e2, e3] at h3
      rw [h2] at ih1 ih2
      refine ⟨fun i q1 q2 => ?_, ?_⟩
      · by_cases z : i = s
        · exact Or.inl (z ▸ h1)
        · exact ih1 i (by omega) q2
      · unfold g_cd
        rw [e, if_pos h1, ih2, h3]
    · rw [e2, e3] at h5
      rw [h3] at ih1 ih2
      refine ⟨fun i q1 q2 => ?_, ?_⟩
      · by_cases z : i = s
        · subst z
          refine Or.inr ⟨by rw [h2]; exact h4, fun j q3 q4 q5 => ?_⟩
          rcases ih1 j (by omega) q4 with w | ⟨w, -⟩
          · omega
          · rw [q5, h2] at w
            unfold g_el at w
            rw [or_tb] at w
            simp at w
        · rcases ih1 i (by omega) q2 with w | ⟨w, w2⟩
          · exact Or.inl w
          · refine Or.inr ⟨?_, w2⟩
            unfold g_el at w ⊢
            rw [or_tb] at w
            simp only [Bool.and_eq_true, Bool.not_eq_true', Bool.or_eq_false_iff] at w ⊢
            exact ⟨w.1, w.2.1⟩
      · unfold g_cd
        rw [e, if_neg (by omega), ih2]
        omega
/-- the number of the last n of N digits, to the base B -/
def g_num (a : Nat → Nat) (B N : Nat) : Nat → Nat
  | 0 => 0
  | n + 1 => a (N - 1 - n) * B ^ n + g_num a B N n
theorem num_lt {a : Nat → Nat} {B N : Nat} (hB : 0 < B) (ha : ∀ i, i < N → a i < B) : ∀ n, n ≤ N → g_num a B N n < B ^ n
  | 0, _ => by simp [g_num]
  | n + 1, h => by
    have ih := num_lt hB ha n (by omega)
    have h1 := ha (N - 1 - n) (by omega)
    unfold g_num
    rw [Nat.pow_succ]
    have h2 : a (N - 1 - n) * B ^ n + B ^ n ≤ B ^ n * B := by
      have : (a (N - 1 - n) + 1) * B ^ n ≤ B * B ^ n := Nat.mul_le_mul_right _ h1
      rw [Nat.add_mul, Nat.one_mul, Nat.mul_comm B] at this
      exact this
    omega
theorem num_dg {a : Nat → Nat} {B N : Nat} (hB : 0 < B) (ha : ∀ i, i < N → a i < B) {n : Nat} : ∀ k, n < k → k ≤ N → g_num a B N k / B ^ n % B = a (N - 1 - n)
  | 0, h, _ => by omega
  | k + 1, h, h2 => by
    unfold g_num
    by_cases e : k = n
    · subst e
      rw [Nat.add_comm, Nat.add_mul_div_right _ _ (Nat.pow_pos hB), Nat.div_eq_of_lt (num_lt hB ha k (by omega)), Nat.zero_add, Nat.mod_eq_of_lt (ha _ (by omega))]
    · have ih := num_dg hB ha k (n := n) (by omega) (by omega)
      obtain ⟨c, rfl⟩ : ∃ c, k = n + 1 + c := ⟨k - n - 1, by omega⟩
      have e1 : a (N - 1 - (n + 1 + c)) * B ^ (n + 1 + c) = (a (N - 1 - (n + 1 + c)) * B ^ c * B) * B ^ n := by
        rw [Nat.pow_add, Nat.pow_add, Nat.pow_one]
        simp only [Nat.mul_assoc, Nat.mul_comm, Nat.mul_left_comm]
      rw [e1, Nat.add_comm, Nat.add_mul_div_right _ _ (Nat.pow_pos hB), Nat.add_mul_mod_self_right]
      exact ih
theorem mod_num {B N c : Nat} : ∀ n, n ≤ N → c % B ^ n = g_num (fun s => c / B ^ (N - 1 - s) % B) B N n
  | 0, _ => by simp [g_num, Nat.mod_one]
  | n + 1, h => by
    unfold g_num
    rw [← mod_num n (by omega), Nat.pow_succ, Nat.mod_mul]
    have e : N - 1 - (N - 1 - n) = n := by omega
    show _ = c / B ^ (N - 1 - (N - 1 - n)) % B * B ^ n + _
    rw [e, Nat.mul_comm, Nat.add_comm]
theorem eg_lex {P : Nat → Nat} {a : Nat → Nat} {B N : Nat} (hN : N ≤ 4) (hB : 0 < B) (ha8 : ∀ i, i < 4 → a i ≤ 8) (ha0 : ∀ i, N ≤ i → i < 4 → a i = 0) (he : ∀ i, i < N → g_eg P i < B) : ∀ d s, s + d = 4 → g_V P a s (g_tk P s) → g_cd a d = g_mf P d s (g_tk P s) → g_num (g_eg P) B N (N - s) ≤ g_num a B N (N - s)
  | 0, s, hs, _, _ => by
    rw [show N - s = 0 by omega]
    exact Nat.le_refl _
  | d + 1, s, hs, hV, hc => by
    have e : 3 - d = s := by omega
    have e2 : 3 - s = d := by omega
    have e3 : 4 - s = d + 1 := by omega
    have hs4 : s < 4 := by omega
    by_cases hsN : s < N
    · obtain ⟨n, hn⟩ : ∃ n, N - s = n + 1 := ⟨N - s - 1, by omega⟩
      have en : N - 1 - n = s := by omega
      have en2 : N - (s + 1) = n := by omega
      rw [hn]
      show g_eg P (N - 1 - n) * B ^ n + g_num (g_eg P) B N n ≤ a (N - 1 - n) * B ^ n + g_num a B N n
      rw [en]
      have less : g_eg P s < a s → g_eg P s * B ^ n + g_num (g_eg P) B N n ≤ a s * B ^ n + g_num a B N n := fun q => by
        have h1 := num_lt hB he n (by omega)
        have h2 : (g_eg P s + 1) * B ^ n ≤ a s * B ^ n := Nat.mul_le_mul_right _ q
        rw [Nat.add_mul, Nat.one_mul] at h2
        omega
      rw [g_cd, e] at hc
      rcases eg_is P hs4 with ⟨h1, h2, h3⟩ | ⟨k, h1, h2, h3, h4, h5, h6, h7⟩
      · rw [e2, e3] at h3
        by_cases z : a s = 0
        · rw [if_pos z] at hc
          have ih := eg_lex hN hB ha8 ha0 he d (s + 1) (by omega) (by rw [h2]; exact fun i q1 q2 => hV i (by omega) q2) (by rw [h2, hc, h3])
          rw [en2] at ih
          rw [h1, z]
          omega
        · exact less (by omega)
      · rw [e2, e3] at h5 h6 h7
        by_cases z : a s = 0
        · rw [if_pos z] at hc
          have up := V_up d (s + 1) (g_tk P s) (by omega) (fun i _ q2 => ha8 i q2) (fun i q1 q2 => hV i (by omega) q2)
          have bs := mf_base P d s (g_tk P s)
          omega
        · rw [if_neg z] at hc
          have vn := V_next hV hs4 z
          have up := V_up d (s + 1) (g_tk P s ||| 2 ^ (a s - 1)) (by omega) (fun i _ q2 => ha8 i q2) vn
          have el : g_el P s (g_tk P s) (a s - 1) = true := by
            rcases hV s (Nat.le_refl _) hs4 with q | q
            · exact absurd q z
            · exact q.1
          have ge := mf_ge P d s (g_tk P s) (a s - 1) (by have := ha8 s hs4; omega) el
          by_cases c1 : a s - 1 < k
          · exact absurd (by omega) (h7 (a s - 1) c1 el)
          · by_cases c2 : a s = k + 1
            · rw [show a s - 1 = k by omega] at vn up
              have ih := eg_lex hN hB ha8 ha0 he d (s + 1) (by omega) (by rw [h3]; exact vn) (by rw [h3]; omega)
              rw [en2] at ih
              rw [h2, c2]
              omega
            · exact less (by omega)
    · rw [show N - s = 0 by omega]
      exact Nat.le_refl _
