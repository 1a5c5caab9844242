/-! PURE LAYER: what the methods mean -/
/-- the first place from i on, of j places, where p holds; none -/
def g_fst (p : Nat → Bool) : Nat → Nat → Int32
  | 0, _ => -1
  | j + 1, i => if p i = true then nI i else g_fst p j (i + 1)
/-- the last place below n where p holds; none -/
def g_lst (p : Nat → Bool) : Nat → Int32
  | 0 => -1
  | n + 1 => if p n = true then nI n else g_lst p n
/-- how many places below n where p holds -/
def g_cnt (p : Nat → Bool) : Nat → Nat
  | 0 => 0
  | n + 1 => if p n = true then g_cnt p n + 1 else g_cnt p n
/-- the bits below n where p holds -/
def g_bits (p : Nat → Bool) : Nat → Int32
  | 0 => 0
  | n + 1 => if p n = true then g_bits p n ||| ((1 : Int32) <<< (nI n &&& 31)) else g_bits p n
noncomputable def g_b (P : Prop) : Bool := @decide P (Classical.propDecidable P)
theorem g_bt {P : Prop} (h : P) : g_b P = true := by
  unfold g_b
  exact @decide_eq_true P (Classical.propDecidable P) h
theorem g_bf {P : Prop} (h : ¬ P) : ¬ g_b P = true := by
  unfold g_b
  intro e
  exact h (@of_decide_eq_true P (Classical.propDecidable P) e)
theorem g_b_iff {P : Prop} : g_b P = true ↔ P := ⟨fun e => Classical.byContradiction (fun h => g_bf h e), g_bt⟩
theorem g_b_cong {P Q : Prop} (h : P ↔ Q) : g_b P = g_b Q := by rw [propext h]
theorem g_cnt_le (p : Nat → Bool) : ∀ n, g_cnt p n ≤ n
  | 0 => Nat.le_refl _
  | n + 1 => by
    have := g_cnt_le p n
    unfold g_cnt
    split <;> omega
theorem g_fst_cong {p q : Nat → Bool} : ∀ (j i : Nat), (∀ k, i ≤ k → k < i + j → p k = q k) → g_fst p j i = g_fst q j i
  | 0, _, _ => rfl
  | j + 1, i, h => by
    unfold g_fst
    rw [h i (Nat.le_refl _) (by omega), g_fst_cong j (i + 1) (fun k h1 h2 => h k (by omega) (by omega))]
theorem g_lst_cong {p q : Nat → Bool} : ∀ (n : Nat), (∀ k, k < n → p k = q k) → g_lst p n = g_lst q n
  | 0, _ => rfl
  | n + 1, h => by
    unfold g_lst
    rw [h n (by omega), g_lst_cong n (fun k h1 => h k (by omega))]
theorem g_cnt_cong {p q : Nat → Bool} : ∀ (n : Nat), (∀ k, k < n → p k = q k) → g_cnt p n = g_cnt q n
  | 0, _ => rfl
  | n + 1, h => by
    unfold g_cnt
    rw [h n (by omega), g_cnt_cong n (fun k h1 => h k (by omega))]
/-- if at most one place has it, the first is the last -/
theorem g_fst_none {p : Nat → Bool} : ∀ (j i : Nat), (∀ k, i ≤ k → k < i + j → ¬ p k = true) → g_fst p j i = -1
  | 0, _, _ => rfl
  | j + 1, i, h => by
    unfold g_fst
    rw [if_neg (h i (Nat.le_refl _) (by omega)), g_fst_none j (i + 1) (fun k h1 h2 => h k (by omega) (by omega))]
theorem g_lst_none {p : Nat → Bool} : ∀ (n : Nat), (∀ k, k < n → ¬ p k = true) → g_lst p n = -1
  | 0, _ => rfl
  | n + 1, h => by
    unfold g_lst
    rw [if_neg (h n (by omega)), g_lst_none n (fun k h1 => h k (by omega))]
theorem g_fst_at {p : Nat → Bool} {a : Nat} (ha : p a = true) : ∀ (j i : Nat), i ≤ a → a < i + j → (∀ k, i ≤ k → k < a → ¬ p k = true) → g_fst p j i = nI a
  | 0, i, h1, h2, _ => by omega
  | j + 1, i, h1, h2, h => by
    unfold g_fst
    by_cases e : i = a
    · subst e
      rw [if_pos ha]
    · rw [if_neg (h i (Nat.le_refl _) (by omega))]
      exact g_fst_at ha j (i + 1) (by omega) (by omega) (fun k q1 q2 => h k (by omega) q2)
theorem g_lst_at {p : Nat → Bool} {a : Nat} (ha : p a = true) : ∀ (n : Nat), a < n → (∀ k, a < k → k < n → ¬ p k = true) → g_lst p n = nI a
  | 0, h1, _ => by omega
  | n + 1, h1, h => by
    unfold g_lst
    by_cases e : n = a
    · subst e
      rw [if_pos ha]
    · rw [if_neg (h n (by omega) (by omega))]
      exact g_lst_at ha n (by omega) (fun k q1 q2 => h k q1 (by omega))
theorem g_first {P : Nat → Prop} {n : Nat} (h : ∃ a, a < n ∧ P a) : ∃ a, a < n ∧ P a ∧ ∀ k, k < a → ¬ P k := by
  obtain ⟨a, ⟨ha, hp⟩, hm⟩ := pk_least (fun a => a < n ∧ P a) h
  exact ⟨a, ha, hp, fun k hk z => hm k hk ⟨by omega, z⟩⟩
theorem g_one {p : Nat → Bool} {n : Nat} (h : ∀ i j, i < n → j < n → p i = true → p j = true → i = j) : g_fst p n 0 = g_lst p n := by
  by_cases e : ∃ a, a < n ∧ p a = true
  · obtain ⟨a, ha, hp⟩ := e
    rw [g_fst_at hp n 0 (by omega) (by omega) (fun k _ q z => by have := h k a (by omega) ha z hp; omega), g_lst_at hp n ha (fun k q q2 z => by have := h k a q2 ha z hp; omega)]
  · rw [g_fst_none n 0 (fun k _ q z => e ⟨k, by omega, z⟩), g_lst_none n (fun k q z => e ⟨k, q, z⟩)]
theorem g_fst_rng {p : Nat → Bool} : ∀ (j i : Nat), g_fst p j i = -1 ∨ ∃ k, i ≤ k ∧ k < i + j ∧ p k = true ∧ g_fst p j i = nI k
  | 0, _ => Or.inl rfl
  | j + 1, i => by
    unfold g_fst
    by_cases e : p i = true
    · rw [if_pos e]
      exact Or.inr ⟨i, Nat.le_refl _, by omega, e, rfl⟩
    · rw [if_neg e]
      rcases g_fst_rng (p := p) j (i + 1) with h | ⟨k, h1, h2, h3, h4⟩
      · exact Or.inl h
      · exact Or.inr ⟨k, by omega, by omega, h3, h4⟩
theorem g_lst_rng {p : Nat → Bool} : ∀ (n : Nat), g_lst p n = -1 ∨ ∃ k, k < n ∧ p k = true ∧ g_lst p n = nI k
  | 0 => Or.inl rfl
  | n + 1 => by
    unfold g_lst
    by_cases e : p n = true
    · rw [if_pos e]
      exact Or.inr ⟨n, by omega, e, rfl⟩
    · rw [if_neg e]
      rcases g_lst_rng (p := p) n with h | ⟨k, h1, h2, h3⟩
      · exact Or.inl h
      · exact Or.inr ⟨k, by omega, h2, h3⟩
theorem nI_m1 {k : Nat} (h : k < 2 ^ 31) : ¬ nI k = -1 := by
  intro e
  have := nI_toInt h
  rw [e] at this
  have h2 : (-1 : Int32).toInt = -1 := by decide
  omega
theorem nI_d (k : Nat) : nI (k + 1) + (-1) = nI k := pk_m1 k
theorem nI_a0 (k : Nat) : nI k + 0 = nI k := nI_add k 0
theorem or_0 (x : Int32) : x ||| 0 = x := by
  rw [← Int32.toBitVec_inj]
  simp
/-- a bit -/
def g_has (x w : Int32) : Bool := decide (¬ (x &&& ((1 : Int32) <<< (w &&& 31))) = 0)
theorem g_has_t {x w : Int32} : g_has x w = true ↔ ¬ (x &&& ((1 : Int32) <<< (w &&& 31))) = 0 := by simp [g_has]
theorem g_has_f {x w : Int32} (h : (x &&& ((1 : Int32) <<< (w &&& 31))) = 0) : ¬ g_has x w = true := by simp [g_has, h]
/-- few bits -/
def Rg (n : Nat) (x : Int32) : Prop := ∃ k, k < n ∧ x = nI k
theorem Rg.in {n : Nat} {x : Int32} (h : Rg n x) (hn : n < 2 ^ 31) : vp_in x n := by
  obtain ⟨k, hk, rfl⟩ := h
  exact vp_in_nI hk hn
theorem g_bitY_d : ∀ n, n < 256 → ∀ k, k < 8 → (((nI n >>> (nI k &&& 31)) &&& 1) = 1 ↔ ¬ (nI n &&& ((1 : Int32) <<< (nI k &&& 31))) = 0) ∧ (((nI n >>> (nI k &&& 31)) &&& 1) = 1 ∨ ((nI n >>> (nI k &&& 31)) &&& 1) = 0) := by decide +kernel
theorem g_bitY {x : Int32} (hx : Rg 256 x) {k : Nat} (hk : k < 8) : ((x >>> (nI k &&& 31)) &&& 1) = 1 ↔ g_has x (nI k) = true := by
  obtain ⟨n, hn, rfl⟩ := hx
  rw [g_has_t]
  exact (g_bitY_d n hn k hk).1
theorem g_bitY0 {x : Int32} (hx : Rg 256 x) {k : Nat} (hk : k < 8) : ((x >>> (nI k &&& 31)) &&& 1) = if g_has x (nI k) = true then 1 else 0 := by
  by_cases e : g_has x (nI k) = true
  · rw [if_pos e]
    exact (g_bitY hx hk).mpr e
  · rw [if_neg e]
    obtain ⟨n, hn, rfl⟩ := hx
    rcases (g_bitY_d n hn k hk).2 with h | h
    · exact absurd ((g_bitY ⟨n, hn, rfl⟩ hk).mp h) e
    · exact h
theorem Rg.and {n : Nat} {x : Int32} (h : Rg n x) (hn : n < 2 ^ 31) (y : Int32) : Rg n (x &&& y) := by
  obtain ⟨k, hk, rfl⟩ := h
  refine ⟨(nI k &&& y).toBitVec.toNat, ?_, ?_⟩
  · have e : (nI k &&& y).toBitVec.toNat = (nI k).toBitVec.toNat &&& y.toBitVec.toNat := by simp
    rw [e, pk_tn (by omega)]
    exact Nat.lt_of_le_of_lt Nat.and_le_left hk
  · rw [← Int32.toBitVec_inj]
    show _ = BitVec.ofNat 32 _
    simp
def g_least (x : Int32) : Int32 := g_fst (fun k => g_has x (nI k)) 6 0
def g_great (x : Int32) : Int32 := g_lst (fun k => g_has x (nI k)) 6
/-- how one of a kind ends an opening that the bits ft fit, by what he wants, what he used -/
def g_end (kd ft w u : Int32) : Int32 := if kd = 1 then (if g_has ft w = true then w else -1) else if kd = 2 then w else if kd = 3 then g_great ft else if kd = 4 then g_great (if (ft &&& (u ^^^ (-1))) = 0 then ft else ft &&& (u ^^^ (-1))) else if g_has ft w = true then w else g_least ft
theorem g_end_rng {kd ft w u : Int32} (hw : Rg 6 w) : g_end kd ft w u = -1 ∨ Rg 6 (g_end kd ft w u) := by
  have hf : ∀ x, g_least x = -1 ∨ Rg 6 (g_least x) := fun x => by
    rcases g_fst_rng (p := fun k => g_has x (nI k)) 6 0 with h | ⟨k, h1, h2, h3, h4⟩
    · exact Or.inl h
    · exact Or.inr ⟨k, by omega, h4⟩
  have hl : ∀ x, g_great x = -1 ∨ Rg 6 (g_great x) := fun x => by
    rcases g_lst_rng (p := fun k => g_has x (nI k)) 6 with h | ⟨k, h1, h2, h3⟩
    · exact Or.inl h
    · exact Or.inr ⟨k, h1, h3⟩
  unfold g_end
  split
  · split
    · exact Or.inr hw
    · exact Or.inl rfl
  · split
    · exact Or.inr hw
    · split
      · exact hl _
      · split
        · exact hl _
        · split
          · exact Or.inr hw
          · exact hf _
