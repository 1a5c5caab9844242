/-! bits as numbers; what count() tells -/
theorem has_tb : ∀ n, n < 256 → ∀ k, k < 8 → g_has (nI n) (nI k) = n.testBit k := by decide +kernel
theorem nI_or (a b : Nat) : nI a ||| nI b = nI (a ||| b) := by
  apply Int32.toBitVec_inj.1
  show BitVec.ofNat 32 a ||| BitVec.ofNat 32 b = BitVec.ofNat 32 (a ||| b)
  apply BitVec.eq_of_getLsbD_eq
  intro i hi
  simp [BitVec.getLsbD_or, BitVec.getLsbD_ofNat, Nat.testBit_or, hi]
theorem bits_eq {x y : Int32} (hx : Rg 64 x) (hy : Rg 64 y) (h : ∀ k, k < 6 → (g_has x (nI k) = true ↔ g_has y (nI k) = true)) : x = y := by
  obtain ⟨a, ha, rfl⟩ := hx
  obtain ⟨b, hb, rfl⟩ := hy
  have e : a = b := by
    apply Nat.eq_of_testBit_eq
    intro i
    by_cases q : i < 6
    · have := h i q
      rw [has_tb a (by omega) i (by omega), has_tb b (by omega) i (by omega)] at this
      exact Bool.eq_iff_iff.mpr this
    · have t : 2 ^ 6 ≤ 2 ^ i := Nat.pow_le_pow_right (by omega) (by omega)
      rw [Nat.testBit_lt_two_pow (by omega), Nat.testBit_lt_two_pow (by omega)]
  rw [e]
theorem Rg.or {x y : Int32} (hx : Rg 64 x) (hy : Rg 64 y) : Rg 64 (x ||| y) := by
  obtain ⟨a, ha, rfl⟩ := hx
  obtain ⟨b, hb, rfl⟩ := hy
  exact ⟨a ||| b, Nat.or_lt_two_pow (n := 6) ha hb, nI_or a b⟩
theorem has_or {x y : Int32} (hx : Rg 64 x) (hy : Rg 64 y) {k : Nat} (hk : k < 6) : g_has (x ||| y) (nI k) = true ↔ g_has x (nI k) = true ∨ g_has y (nI k) = true := by
  obtain ⟨a, ha, rfl⟩ := hx
  obtain ⟨b, hb, rfl⟩ := hy
  have hab : a ||| b < 64 := Nat.or_lt_two_pow (n := 6) ha hb
  rw [nI_or, has_tb _ (by omega) k (by omega), has_tb a (by omega) k (by omega), has_tb b (by omega) k (by omega), Nat.testBit_or, Bool.or_eq_true]
theorem has_bit {x y : Int32} (hx : Rg 64 x) (hy : Rg 6 y) {k : Nat} (hk : k < 6) : g_has (x ||| ((1 : Int32) <<< (y &&& 31))) (nI k) = true ↔ g_has x (nI k) = true ∨ y = nI k := by
  obtain ⟨a, ha, rfl⟩ := hx
  obtain ⟨j, hj, rfl⟩ := hy
  have hab := or_bit6 a ha j hj
  rw [(or_bit_d a (by omega) j (by omega)).1, has_tb _ (by omega) k (by omega), has_tb a (by omega) k (by omega), Nat.testBit_or, Nat.testBit_two_pow, Bool.or_eq_true, decide_eq_true_eq, nI_eq (by omega) (by omega)]
theorem has_0 {k : Nat} (hk : k < 8) : ¬ g_has 0 (nI k) = true := by
  have := has_tb 0 (by omega) k hk
  rw [show (0 : Int32) = nI 0 from rfl, this]
  simp
theorem has_used {e g : Nat → Int32} {s : Int32} {j : Nat} (hj : j < 6) : ∀ {m : Nat}, (∀ k, k < m → e k = s → Rg 6 (g k)) → (g_has (g_used e g s m) (nI j) = true ↔ ∃ k, k < m ∧ e k = s ∧ g k = nI j)
  | 0, _ => ⟨fun h => absurd h (has_0 (by omega)), fun ⟨k, h, _⟩ => absurd h (by omega)⟩
  | m + 1, h => by
    have ih := has_used (e := e) (g := g) (s := s) hj (m := m) (fun k hk => h k (by omega))
    have rg := g_used_rg (e := e) (g := g) (s := s) (m := m) (fun k hk => h k (by omega))
    unfold g_used
    by_cases c : e m = s
    · rw [if_pos c, has_bit rg (h m (by omega) c) hj, ih]
      refine ⟨fun q => q.elim (fun ⟨k, h1, h2, h3⟩ => ⟨k, by omega, h2, h3⟩) (fun q => ⟨m, by omega, c, q⟩), fun ⟨k, h1, h2, h3⟩ => ?_⟩
      by_cases e2 : k = m
      · exact Or.inr (e2 ▸ h3)
      · exact Or.inl ⟨k, by omega, h2, h3⟩
    · rw [if_neg c, ih]
      refine ⟨fun ⟨k, h1, h2, h3⟩ => ⟨k, by omega, h2, h3⟩, fun ⟨k, h1, h2, h3⟩ => ⟨k, ?_, h2, h3⟩⟩
      by_cases e2 : k = m
      · exact absurd (e2 ▸ h2) c
      · omega
theorem usedAll_rg {e g : Nat → Int32} {m : Nat} (h : ∀ k, k < m → ¬ e k = -1 → Rg 6 (g k)) : ∀ {n : Nat}, n ≤ 4 → Rg 64 (g_usedAll e g m n)
  | 0, _ => ⟨0, by omega, rfl⟩
  | n + 1, hn => (usedAll_rg h (by omega)).or (g_used_rg (fun k hk c => h k hk (by rw [c]; exact nI_m1 (by omega))))
theorem has_usedAll {e g : Nat → Int32} {m j : Nat} (hj : j < 6) (h : ∀ k, k < m → ¬ e k = -1 → Rg 6 (g k)) : ∀ {n : Nat}, n ≤ 4 → (g_has (g_usedAll e g m n) (nI j) = true ↔ ∃ k, k < m ∧ Rg n (e k) ∧ g k = nI j)
  | 0, _ => ⟨fun q => absurd q (has_0 (by omega)), fun ⟨k, _, ⟨a, ha, _⟩, _⟩ => absurd ha (by omega)⟩
  | n + 1, hn => by
    have hu : ∀ k, k < m → e k = nI n → Rg 6 (g k) := fun k hk c => h k hk (by rw [c]; exact nI_m1 (by omega))
    unfold g_usedAll
    rw [has_or (usedAll_rg h (by omega)) (g_used_rg hu) hj, has_usedAll hj h (by omega), has_used hj hu]
    refine ⟨fun q => q.elim (fun ⟨k, h1, h2, h3⟩ => ⟨k, h1, h2.mono (by omega), h3⟩) (fun ⟨k, h1, h2, h3⟩ => ⟨k, h1, ⟨n, by omega, h2⟩, h3⟩), fun ⟨k, h1, ⟨a, ha, h2⟩, h3⟩ => ?_⟩
    by_cases q : a = n
    · exact Or.inr ⟨k, h1, q ▸ h2, h3⟩
    · exact Or.inl ⟨k, h1, ⟨a, by omega, h2⟩, h3⟩
/-- all endings by which any were ended -/
def g_un (e g : Nat → Int32) : Nat → Int32
  | 0 => 0
  | k + 1 => if e k = -1 then g_un e g k else g_un e g k ||| ((1 : Int32) <<< (g k &&& 31))
theorem un_rg {e g : Nat → Int32} : ∀ {m : Nat}, (∀ k, k < m → ¬ e k = -1 → Rg 6 (g k)) → Rg 64 (g_un e g m)
  | 0, _ => ⟨0, by omega, rfl⟩
  | m + 1, h => by
    have ih := un_rg (e := e) (g := g) (m := m) (fun k hk => h k (by omega))
    unfold g_un
    split
    · exact ih
    · rename_i c
      exact ih.or6 (h m (by omega) c)
theorem has_un {e g : Nat → Int32} {j : Nat} (hj : j < 6) : ∀ {m : Nat}, (∀ k, k < m → ¬ e k = -1 → Rg 6 (g k)) → (g_has (g_un e g m) (nI j) = true ↔ ∃ k, k < m ∧ ¬ e k = -1 ∧ g k = nI j)
  | 0, _ => ⟨fun h => absurd h (has_0 (by omega)), fun ⟨k, h, _⟩ => absurd h (by omega)⟩
  | m + 1, h => by
    have ih := has_un (e := e) (g := g) hj (m := m) (fun k hk => h k (by omega))
    have rg := un_rg (e := e) (g := g) (m := m) (fun k hk => h k (by omega))
    unfold g_un
    by_cases c : e m = -1
    · rw [if_pos c, ih]
      refine ⟨fun ⟨k, h1, h2, h3⟩ => ⟨k, by omega, h2, h3⟩, fun ⟨k, h1, h2, h3⟩ => ⟨k, ?_, h2, h3⟩⟩
      by_cases e2 : k = m
      · exact absurd c (e2 ▸ h2)
      · omega
    · rw [if_neg c, has_bit rg (h m (by omega) c) hj, ih]
      refine ⟨fun q => q.elim (fun ⟨k, h1, h2, h3⟩ => ⟨k, by omega, h2, h3⟩) (fun q => ⟨m, by omega, c, q⟩), fun ⟨k, h1, h2, h3⟩ => ?_⟩
      by_cases e2 : k = m
      · exact Or.inr (e2 ▸ h3)
      · exact Or.inl ⟨k, by omega, h2, h3⟩
theorem WF.ends {f : Nat → Nat → Int32} {N m h : Nat} (hW : WF f N m h) : ∀ k, k < m → ¬ f 10 k = -1 → Rg 6 (f 11 k) := fun k hk c => by
  rcases (hW.2.2.2.1 k hk).2.2 with q | q
  · exact absurd q.1 c
  · exact q.2
theorem un_usedAll {f : Nat → Nat → Int32} {N m h : Nat} (hW : WF f N m h) : g_usedAll (f 10) (f 11) m 4 = g_un (f 10) (f 11) m := by
  refine bits_eq (usedAll_rg hW.ends (Nat.le_refl _)) (un_rg hW.ends) (fun j hj => ?_)
  rw [has_usedAll hj hW.ends (Nat.le_refl _), has_un hj hW.ends]
  refine ⟨fun ⟨k, h1, ⟨a, ha, h2⟩, h3⟩ => ⟨k, h1, by rw [h2]; exact nI_m1 (by omega), h3⟩, fun ⟨k, h1, h2, h3⟩ => ⟨k, h1, ?_, h3⟩⟩
  rcases (hW.2.2.2.1 k h1).2.2 with q | q
  · exact absurd q.1 h2
  · exact q.1.mono hW.1.1
theorem bitCount_d : ∀ n, n < 64 → wp_J6_bitCount_0f7a4 (fun r => r = nI (g_cnt (fun k => g_has (nI n) (nI k)) 6)) (nI n) := by
  unfold wp_J6_bitCount_0f7a4
  decide +kernel
theorem p_bitCount {post : Int32 → Prop} {x : Int32} (hx : Rg 64 x) (h : post (nI (g_cnt (fun k => g_has x (nI k)) 6))) : wp_J6_bitCount_0f7a4 post x := by
  obtain ⟨n, hn, rfl⟩ := hx
  have := bitCount_d n hn
  unfold wp_J6_bitCount_0f7a4 at this ⊢
  rw [this]
  exact h
noncomputable def g_unl (f : Nat → Nat → Int32) (m : Nat) : Int32 := nI (g_cnt (fun k => g_has (g_un (f 10) (f 11) m) (nI k)) 6)
theorem q_unlike {post : Int32 → Prop} {f : Nat → Nat → Int32} {u : Nat → Int32} {N m h : Nat} {w : Nat → Int32} {g : Nat → Nat → Int32} {z : Int64} (hW : WF f N m h) (hR : RY f u N m h w g) (hp : post (g_unl f m)) : wp_X7_unlike post w g z := by
  have hm8 := hW.1.2.1
  have hm := hR.1.2.1
  have key : ∀ j i, i + j = m → wp_X7_unlike_B4 post w g z (j + 1) (g_un (f 10) (f 11) i) (nI i) := by
    intro j
    induction j with
    | zero =>
      intro i hi
      obtain rfl : i = m := by omega
      rw [wp_X7_unlike_B4]
      exact pk_le i i (fun _ => q_ones ((un_rg hW.ends).mono (by omega)) hp) (fun q => absurd q (by omega)) hm
    | succ j ih =>
      intro i hi
      obtain ⟨-, -, e3, e4⟩ := hR.2.2.2.1 i (by omega)
      rw [wp_X7_unlike_B4]
      simp (disch := omega) only [m4, nI_1, a2, a3, nI_clamp]
      rw [e3, e4, or_0]
      have := ih (i + 1) (by omega)
      refine pk_le m i (fun q => absurd q (by omega)) (fun _ => ⟨vp_in_nI (by omega) (by omega), fun c => ?_, fun c => ⟨vp_in_nI (by omega) (by omega), ?_⟩⟩) hm
      · rwa [g_un, if_pos c] at this
      · rwa [g_un, if_neg c] at this
  unfold wp_X7_unlike
  exact ⟨m + 1, key m 0 (by omega)⟩
/-- what count() tells; r: rooms read, p: letters of the page, c: changes -/
noncomputable def g_co (f : Nat → Nat → Int32) (N m h : Nat) (r p c : Int32) : Nat → Int32
  | 0 => nI N
  | 1 => nI m
  | 2 => nI (g_cnt (fun k => g_b (f 10 k = -1)) m)
  | 3 => nI (g_cnt (fun k => g_b (g_asW f k)) m)
  | 4 => g_unl f m
  | 5 => c
  | 6 => nI h
  | 7 => p
  | 8 => r
  | _ => -102
theorem p_count {post : Int32 → Prop} {v : Nat → Int32} {f : Nat → Nat → Int32} {z : Int64} {N m h : Nat} (hW : WF f N m h) (hN : v 7 = nI N) (hm : v 8 = nI m) (hh : v 9 = nI h) {x : Int32} (h1 : ∀ k, k < 9 → x = nI k → post (g_co f N m h (v 1) (v 2) (v 10) k)) (h0 : (¬ ∃ k, k < 9 ∧ x = nI k) → post (-102)) : wp_X6_count post v f z x := by
  have hm8 := hW.1.2.1
  unfold wp_X6_count
  rw [hN, hm, hh]
  refine ⟨fun e => h1 0 (by omega) e, fun e => h1 1 (by omega) e, fun e => ?_, fun e => p_wantedMany hm hm8 (fun k hk => (hW.2.2.2.1 k hk).1.mono hW.1.1) (h1 3 (by omega) e), fun e => p_unlike hm hm8 ?_, fun e => h1 5 (by omega) e, fun e => h1 6 (by omega) e, fun e => h1 7 (by omega) e, fun e => h1 8 (by omega) e, fun e => h0 ?_⟩
  · unfold wp_X4_howManyOpen
    exact p_endedBy hm hm8 (h1 2 (by omega) e)
  · rw [un_usedAll hW]
    exact p_bitCount (un_rg hW.ends) (h1 4 (by omega) e)
  · rintro ⟨k, hk, rfl⟩
    rw [nI_toInt (by omega)] at e
    omega
theorem q_countOf {post : Int32 → Prop} {f : Nat → Nat → Int32} {u : Nat → Int32} {N m h : Nat} {w : Nat → Int32} {g : Nat → Nat → Int32} {z : Int64} {r p c : Int32} (hW : WF f N m h) (hR : RY f u N m h w g) (hr : w 8 = r) (hpl : w 0 = p) (hc : w 7 = c) {x : Int32} (h1 : ∀ k, k < 9 → x = nI k → post (g_co f N m h r p c k)) (h0 : (¬ ∃ k, k < 9 ∧ x = nI k) → post (-102)) : wp_X7_countOf post w g z x := by
  have hm8 := hW.1.2.1
  unfold wp_X7_countOf
  rw [hR.1.1, hR.1.2.1, hR.1.2.2, hr, hpl, hc]
  refine ⟨fun e => h1 0 (by omega) e, fun e => h1 1 (by omega) e, fun e => q_saidBy (c := 2) hR.1.2.1 hm8 (by omega) (p := f 10) (fun k hk => (hR.2.2.2.1 k hk).2.2.1) (h1 2 (by omega) e), fun e => q_wantedMany hW hR (h1 3 (by omega) e), fun e => q_unlike hW hR (h1 4 (by omega) e), fun e => h1 5 (by omega) e, fun e => h1 6 (by omega) e, fun e => h1 7 (by omega) e, fun e => h1 8 (by omega) e, fun e => h0 ?_⟩
  rintro ⟨k, hk, rfl⟩
  rw [nI_toInt (by omega)] at e
  omega
