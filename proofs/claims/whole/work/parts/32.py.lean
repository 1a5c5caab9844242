/-! what the reference's methods that read answer, in the class's numbers -/
/-- the numbers are as they must be: N speakers, m sentences, h heard -/
def WF (f : Nat → Nat → Int32) (N m h : Nat) : Prop := (N ≤ 4 ∧ m ≤ 8 ∧ h ≤ 8) ∧ (0 < N → ∀ o, o < 4 → Rg 64 (f 4 o)) ∧ (∀ s, s < N → Rg 5 (f 5 s) ∧ Rg 6 (f 7 s)) ∧ (∀ k, k < m → Rg N (f 8 k) ∧ Rg 4 (f 9 k) ∧ ((f 10 k = -1 ∧ f 11 k = -1) ∨ (Rg N (f 10 k) ∧ Rg 6 (f 11 k)))) ∧ (∀ i j, i < m → j < m → f 8 i = f 8 j → f 10 i = -1 → f 10 j = -1 → i = j) ∧ (∀ i, i < h → Rg N (f 12 i) ∧ Rg 4 (f 13 i) ∧ (f 14 i = -1 ∨ Rg 6 (f 14 i)))
/-- the reference holds the same; what each used is u -/
def RY (f : Nat → Nat → Int32) (u : Nat → Int32) (N m h : Nat) (w : Nat → Int32) (g : Nat → Nat → Int32) : Prop := (w 6 = nI N ∧ w 9 = nI m ∧ w 10 = nI h) ∧ (0 < N → ∀ o, o < 4 → g 3 o = f 4 o) ∧ (∀ s, s < N → g 4 (3 * s) = f 5 s ∧ g 4 (3 * s + 1) = f 7 s ∧ g 4 (3 * s + 2) = u s) ∧ (∀ k, k < m → g 5 (4 * k) = f 8 k ∧ g 5 (4 * k + 1) = f 9 k ∧ g 5 (4 * k + 2) = f 10 k ∧ g 5 (4 * k + 3) = f 11 k) ∧ (∀ i, i < h → g 8 (3 * i) = f 12 i ∧ g 8 (3 * i + 1) = f 13 i ∧ g 8 (3 * i + 2) = f 14 i)
theorem Rg.mono {a b : Nat} {x : Int32} (h : Rg a x) (hab : a ≤ b) : Rg b x := by
  obtain ⟨k, hk, e⟩ := h
  exact ⟨k, by omega, e⟩
theorem m2 (s : Nat) : (2 : Int32) * nI s = nI (2 * s) := pk_mul 2 s
theorem m3 (s : Nat) : (3 : Int32) * nI s = nI (3 * s) := pk_mul 3 s
theorem m4 (s : Nat) : (4 : Int32) * nI s = nI (4 * s) := pk_mul 4 s
theorem a2 (s : Nat) : nI s + 2 = nI (s + 2) := nI_add s 2
theorem a3 (s : Nat) : nI s + 3 = nI (s + 3) := nI_add s 3
theorem of_toInt {x : Int32} {k : Nat} (hk : k < 2 ^ 31) (h : x.toInt = k) : x = nI k := Int32.toInt_inj.mp (by rw [h, nI_toInt hk])
theorem q_in {post : Int32 → Prop} {a b c : Int64} (h1 : b.toInt ≤ a.toInt → a.toInt ≤ c.toInt → post 1) (h0 : a.toInt < b.toInt ∨ c.toInt < a.toInt → post 0) : wp_X7_in post a b c := by
  unfold wp_X7_in
  have lt : ∀ x y : Int64, lg_cmp x y < 0 ↔ x.toInt < y.toInt := fun x y => by
    unfold lg_cmp
    rw [← Int64.lt_iff_toInt_lt]
    by_cases q : x > y
    · rw [if_pos q]
      exact ⟨fun z => absurd z (by decide), fun z => absurd (Int64.lt_iff_toInt_lt.mp z) (by have := Int64.lt_iff_toInt_lt.mp q; omega)⟩
    · rw [if_neg q]
      by_cases q2 : x = y
      · rw [if_pos q2]
        exact ⟨fun z => absurd z (by decide), fun z => absurd (Int64.lt_iff_toInt_lt.mp z) (by rw [q2]; omega)⟩
      · rw [if_neg q2]
        refine ⟨fun _ => Int64.lt_iff_toInt_lt.mpr ?_, fun _ => by decide⟩
        have n1 : ¬ y.toInt < x.toInt := fun z => q (Int64.lt_iff_toInt_lt.mpr z)
        have n2 : ¬ x.toInt = y.toInt := fun z => q2 (Int64.toInt_inj.mp z)
        omega
  have gt : ∀ x y : Int64, 0 < lg_cmp x y ↔ y.toInt < x.toInt := fun x y => by
    unfold lg_cmp
    rw [← Int64.lt_iff_toInt_lt]
    by_cases q : x > y
    · rw [if_pos q]
      exact ⟨fun _ => q, fun _ => by decide⟩
    · rw [if_neg q]
      by_cases q2 : x = y
      · rw [if_pos q2]
        exact ⟨fun z => absurd z (by decide), fun z => absurd z q⟩
      · rw [if_neg q2]
        exact ⟨fun z => absurd z (by decide), fun z => absurd z q⟩
  rw [lt, gt]
  exact ⟨fun c => h0 (Or.inl c), fun c => ⟨fun d => h0 (Or.inr d), fun d => h1 (by omega) (by omega)⟩⟩
/-- an int among the first n, by the long test -/
theorem q_inN {post : Int32 → Prop} {x : Int32} {c : Int64} (n : Nat) (hn : n < 2 ^ 31) (hc : c.toInt = (n : Int) - 1) (h1 : ∀ s, s < n → x = nI s → post 1) (h0 : (¬ ∃ s, s < n ∧ x = nI s) → post 0) : wp_X7_in post x.toInt64 (0 : Int64) c := by
  have z : (0 : Int64).toInt = 0 := by decide
  refine q_in (fun q1 q2 => ?_) (fun q => h0 ?_)
  · rw [Int32.toInt_toInt64] at q1 q2
    rw [z] at q1
    rw [hc] at q2
    exact h1 x.toInt.toNat (by omega) (of_toInt (by omega) (by omega))
  · rintro ⟨s, hs, rfl⟩
    rw [Int32.toInt_toInt64, nI_toInt (by omega), z, hc] at q
    omega
theorem sub1 : ∀ n, n ≤ 8 → (nI n - 1).toInt64.toInt = (n : Int) - 1 := by decide +kernel
theorem q_isSpeaker {post : Int32 → Prop} {w : Nat → Int32} {g : Nat → Nat → Int32} {z : Int64} {N : Nat} (hN : w 6 = nI N) (hN4 : N ≤ 4) {x : Int32} (h1 : ∀ s, s < N → x = nI s → post 1) (h0 : (¬ ∃ s, s < N ∧ x = nI s) → post 0) : wp_X7_isSpeaker post w g z x := by
  unfold wp_X7_isSpeaker
  rw [hN]
  exact q_inN N (by omega) (sub1 N (by omega)) (fun s hs e => ⟨rfl, h1 s hs e⟩) (fun c => ⟨rfl, h0 c⟩)
theorem q_isSentence {post : Int32 → Prop} {w : Nat → Int32} {g : Nat → Nat → Int32} {z : Int64} {m : Nat} (hm : w 9 = nI m) (hm8 : m ≤ 8) {x : Int32} (h1 : ∀ s, s < m → x = nI s → post 1) (h0 : (¬ ∃ s, s < m ∧ x = nI s) → post 0) : wp_X7_isSentence post w g z x := by
  unfold wp_X7_isSentence
  rw [hm]
  exact q_inN m (by omega) (sub1 m (by omega)) (fun s hs e => ⟨rfl, h1 s hs e⟩) (fun c => ⟨rfl, h0 c⟩)
theorem q_lacks {post : Int32 → Prop} {w : Nat → Int32} {g : Nat → Nat → Int32} {z : Int64} {N : Nat} (hN : w 6 = nI N) (hN4 : N ≤ 4) (h1 : N = 0 → post 1) (h0 : 0 < N → post 0) : wp_X7_lacks post w g z := by
  unfold wp_X7_lacks
  exact pk_eq N 0 (fun q => h1 q) (fun q => h0 (by omega)) hN
theorem q_isOpening {post : Int32 → Prop} {w : Nat → Int32} {g : Nat → Nat → Int32} {z : Int64} {N : Nat} (hN : w 6 = nI N) (hN4 : N ≤ 4) {x : Int32} (h1 : 0 < N → ∀ o, o < 4 → x = nI o → post 1) (h0 : (¬ (0 < N ∧ ∃ o, o < 4 ∧ x = nI o)) → post 0) : wp_X7_isOpening post w g z x := by
  unfold wp_X7_isOpening
  refine q_lacks hN hN4 (fun c => br_f (by decide) (h0 (fun q => by omega))) (fun c => br_t rfl ?_)
  exact q_inN 4 (by omega) (by decide) (fun s hs e => br_f (by decide) (h1 c s hs e)) (fun d => br_t rfl (h0 (fun q => d q.2)))
theorem q_leastOf {post : Int32 → Prop} {x : Int32} (hx : Rg 256 x) (h : post (g_least x)) : wp_X7_leastOf post x := by
  have key : ∀ n, n ≤ 6 → ∀ j, j + n = 6 → wp_X7_leastOf_B4 post (n + 1) x (g_fst (fun k => g_has x (nI k)) j n) (nI n + (-1)) := by
    intro n
    induction n with
    | zero =>
      intro hn j hj
      rw [wp_X7_leastOf_B4]
      obtain rfl : j = 6 := by omega
      exact br_t (by decide) h
    | succ n ih =>
      intro hn j hj
      rw [nI_d, wp_X7_leastOf_B4]
      have := ih (by omega) (j + 1) (by omega)
      refine br_f (nI_pos (by omega)) ⟨fun c => ?_, fun c => ?_⟩
      · rwa [g_fst, if_pos ((g_bitY hx (by omega)).mp c)] at this
      · rwa [g_fst, if_neg (fun q => c ((g_bitY hx (by omega)).mpr q))] at this
  unfold wp_X7_leastOf
  exact ⟨7, key 6 (Nat.le_refl _) 0 rfl⟩
theorem q_greatestOf {post : Int32 → Prop} {x : Int32} (hx : Rg 256 x) (h : post (g_great x)) : wp_X7_greatestOf post x := by
  have key : ∀ j i, i + j = 6 → wp_X7_greatestOf_B4 post (j + 1) x (g_lst (fun k => g_has x (nI k)) i) (nI i) := by
    intro j
    induction j with
    | zero =>
      intro i hi
      obtain rfl : i = 6 := by omega
      rw [wp_X7_greatestOf_B4]
      exact pk_le 6 6 (fun _ => h) (fun q => absurd q (by omega))
    | succ j ih =>
      intro i hi
      rw [wp_X7_greatestOf_B4, nI_1]
      have := ih (i + 1) (by omega)
      refine pk_le 6 i (fun q => absurd q (by omega)) (fun _ => ⟨fun c => ?_, fun c => ?_⟩)
      · rwa [g_lst, if_pos ((g_bitY hx (by omega)).mp c)] at this
      · rwa [g_lst, if_neg (fun q => c ((g_bitY hx (by omega)).mpr q))] at this
  unfold wp_X7_greatestOf
  exact ⟨7, key 6 0 rfl⟩
theorem q_ones {post : Int32 → Prop} {x : Int32} (hx : Rg 256 x) (h : post (nI (g_cnt (fun k => g_has x (nI k)) 6))) : wp_X7_ones post x := by
  have key : ∀ j i, i + j = 6 → wp_X7_ones_B4 post (j + 1) x (nI (g_cnt (fun k => g_has x (nI k)) i)) (nI i) := by
    intro j
    induction j with
    | zero =>
      intro i hi
      obtain rfl : i = 6 := by omega
      rw [wp_X7_ones_B4]
      exact pk_le 6 6 (fun _ => h) (fun q => absurd q (by omega))
    | succ j ih =>
      intro i hi
      rw [wp_X7_ones_B4, nI_1, g_bitY0 hx (by omega)]
      have := ih (i + 1) (by omega)
      refine pk_le 6 i (fun q => absurd q (by omega)) (fun _ => ?_)
      by_cases c : g_has x (nI i) = true
      · rw [if_pos c, nI_1]
        rwa [g_cnt, if_pos c] at this
      · rw [if_neg c, nI_a0]
        rwa [g_cnt, if_neg c] at this
  unfold wp_X7_ones
  exact ⟨7, key 6 0 rfl⟩
theorem q_endsBy {post : Int32 → Prop} {w : Nat → Int32} {g : Nat → Nat → Int32} {z : Int64} {kd wt u ft : Int32} {o : Nat} (ho : o < 4) (hf : g 3 o = ft) (hft : Rg 256 ft) (hw : Rg 6 wt) (h : post (g_end kd ft wt u)) : wp_X7_endsBy post w g z kd wt u (nI o) := by
  unfold wp_X7_endsBy
  rw [nI_clamp (by omega), hf]
  refine ⟨vp_in_nI ho (by omega), ?_⟩
  have core : ∀ b : Int32, (b = if g_has ft wt = true then 1 else 0) → wp_X7_endsBy_B24 post w g z kd wt u ft b := by
    intro b hb
    subst hb
    unfold wp_X7_endsBy_B24
    refine ⟨fun e => ?_, fun e => ?_, fun e => ?_, fun e => ?_, fun e => ?_⟩
    · subst e
      have h : post (if g_has ft wt = true then wt else -1) := h
      exact bo_if (fun c => by rwa [if_neg c] at h) (fun c => by rwa [if_pos c] at h)
    · subst e
      exact h
    · subst e
      exact q_greatestOf hft h
    · subst e
      have h : post (g_great (if (ft &&& (u ^^^ (-1))) = 0 then ft else ft &&& (u ^^^ (-1)))) := h
      refine ⟨fun c => q_greatestOf hft ?_, fun c => q_greatestOf (hft.and (by omega) _) ?_⟩
      · rwa [if_pos c] at h
      · rwa [if_neg c] at h
    · have n1 : ¬ kd = 1 := fun z => by rw [z] at e; revert e; decide
      have n2 : ¬ kd = 2 := fun z => by rw [z] at e; revert e; decide
      have n3 : ¬ kd = 3 := fun z => by rw [z] at e; revert e; decide
      have n4 : ¬ kd = 4 := fun z => by rw [z] at e; revert e; decide
      rw [g_end, if_neg n1, if_neg n2, if_neg n3, if_neg n4] at h
      exact bo_if (fun c => q_leastOf hft (by rwa [if_neg c] at h)) (fun c => by rwa [if_pos c] at h)
  obtain ⟨k, hk, rfl⟩ := hw
  refine ⟨fun c => core 1 ?_, fun c => core 0 ?_⟩
  · rw [if_pos ((g_bitY hft (by omega)).mp c)]
  · rw [if_neg (fun q => c ((g_bitY hft (by omega)).mpr q))]
theorem q_wouldOf {post : Int32 → Prop} {f : Nat → Nat → Int32} {u : Nat → Int32} {N m h : Nat} {w : Nat → Int32} {g : Nat → Nat → Int32} {z : Int64} (hW : WF f N m h) (hR : RY f u N m h w g) {s o : Nat} (hs : s < N) (ho : o < 4) (hp : post (g_now f u s o)) : wp_X7_wouldOf post w g z (nI s) (nI o) := by
  obtain ⟨⟨hN4, -, -⟩, hft, hkw, -, -, -⟩ := hW
  obtain ⟨-, rft, rkw, -, -⟩ := hR
  obtain ⟨e1, e2, e3⟩ := rkw s hs
  unfold wp_X7_wouldOf
  simp (disch := omega) only [m3, nI_1, a2, nI_clamp]
  rw [e1, e2, e3]
  exact ⟨vp_in_nI (by omega) (by omega), vp_in_nI (by omega) (by omega), vp_in_nI (by omega) (by omega), q_endsBy ho (rft (by omega) o ho) ((hft (by omega) o ho).mono (by omega)) (hkw s hs).2 hp⟩
theorem q_openOf {post : Int32 → Prop} {f : Nat → Nat → Int32} {u : Nat → Int32} {N m h : Nat} {w : Nat → Int32} {g : Nat → Nat → Int32} {z : Int64} (hW : WF f N m h) (hR : RY f u N m h w g) {a : Int32} (hp : post (g_fst (fun k => g_b (f 8 k = a ∧ f 10 k = -1)) m 0)) : wp_X7_openOf post w g z a := by
  obtain ⟨⟨-, hm8, -⟩, -, -, -, h1, -⟩ := hW
  obtain ⟨⟨-, hm, -⟩, -, -, rs, -⟩ := hR
  rw [g_one (fun i j hi hj p q => by rw [g_b_iff] at p q; exact h1 i j hi hj (p.1.trans q.1.symm) p.2 q.2)] at hp
  have key : ∀ j i, i + j = m → wp_X7_openOf_B4 post w g z (j + 1) a (g_lst (fun k => g_b (f 8 k = a ∧ f 10 k = -1)) i) (nI i) := by
    intro j
    induction j with
    | zero =>
      intro i hi
      obtain rfl : i = m := by omega
      rw [wp_X7_openOf_B4]
      exact pk_le i i (fun _ => hp) (fun q => absurd q (by omega)) hm
    | succ j ih =>
      intro i hi
      obtain ⟨e1, -, e3, -⟩ := rs i (by omega)
      rw [wp_X7_openOf_B4]
      simp (disch := omega) only [m4, nI_1, a2, nI_clamp]
      rw [e1, e3]
      have := ih (i + 1) (by omega)
      have no : ¬ (f 8 i = a ∧ f 10 i = -1) → wp_X7_openOf_B4 post w g z (j + 1) a (g_lst (fun k => g_b (f 8 k = a ∧ f 10 k = -1)) i) (nI (i + 1)) := fun c => by
        rwa [g_lst, if_neg (g_bf c)] at this
      refine pk_le m i (fun q => absurd q (by omega)) (fun _ => ⟨vp_in_nI (by omega) (by omega), fun c => ⟨vp_in_nI (by omega) (by omega), fun d => ?_, fun d => no (fun w => d w.2)⟩, fun c => no (fun w => c w.1)⟩) hm
      rwa [g_lst, if_pos (g_bt ⟨c, d⟩)] at this
  unfold wp_X7_openOf
  exact ⟨m + 1, key m 0 (by omega)⟩
theorem q_saidBy {post : Int32 → Prop} {w : Nat → Int32} {g : Nat → Nat → Int32} {z : Int64} {m : Nat} (hm : w 9 = nI m) (hm8 : m ≤ 8) {c : Nat} (hc : c < 4) {p : Nat → Int32} (hg : ∀ k, k < m → g 5 (4 * k + c) = p k) {a : Int32} (hp : post (nI (g_cnt (fun k => g_b (p k = a)) m))) : wp_X7_saidBy post w g z (nI c) a := by
  have key : ∀ j i, i + j = m → wp_X7_saidBy_B5 post w g z (j + 1) (nI c) a (nI (g_cnt (fun k => g_b (p k = a)) i)) (nI i) := by
    intro j
    induction j with
    | zero =>
      intro i hi
      obtain rfl : i = m := by omega
      rw [wp_X7_saidBy_B5]
      exact pk_le i i (fun _ => hp) (fun q => absurd q (by omega)) hm
    | succ j ih =>
      intro i hi
      rw [wp_X7_saidBy_B5]
      simp (disch := omega) only [m4, nI_1, nI_a0, nI_add, nI_clamp]
      rw [hg i (by omega)]
      have := ih (i + 1) (by omega)
      refine pk_le m i (fun q => absurd q (by omega)) (fun _ => ⟨vp_in_nI (by omega) (by omega), fun c => ?_, fun c => ?_⟩) hm
      · rwa [g_cnt, if_pos (g_bt c)] at this
      · rwa [g_cnt, if_neg (g_bf c)] at this
  unfold wp_X7_saidBy
  exact ⟨m + 1, key m 0 (by omega)⟩
theorem g_cnt_pos {p : Nat → Bool} : ∀ {n : Nat}, 0 < g_cnt p n ↔ ∃ k, k < n ∧ p k = true
  | 0 => ⟨fun h => absurd h (by simp [g_cnt]), fun ⟨k, h, _⟩ => absurd h (by omega)⟩
  | n + 1 => by
    unfold g_cnt
    by_cases e : p n = true
    · rw [if_pos e]
      exact ⟨fun _ => ⟨n, by omega, e⟩, fun _ => by omega⟩
    · rw [if_neg e, g_cnt_pos (n := n)]
      refine ⟨fun ⟨k, h1, h2⟩ => ⟨k, by omega, h2⟩, fun ⟨k, h1, h2⟩ => ⟨k, ?_, h2⟩⟩
      by_cases q : k = n
      · exact absurd (q ▸ h2) e
      · omega
theorem q_sureOf {post : Int32 → Prop} {f : Nat → Nat → Int32} {u : Nat → Int32} {N m h : Nat} {w : Nat → Int32} {g : Nat → Nat → Int32} {z : Int64} (hW : WF f N m h) (hR : RY f u N m h w g) {s : Nat} (hs : s < N) (hp : post (g_sureOf f u N s)) : wp_X7_sureOf post w g z (nI s) := by
  have hN4 := hW.1.1
  have hN := hR.1.1
  have e2 := (hR.2.2.1 s hs).2.1
  have key : ∀ n, n ≤ 4 → ∀ j, j + n = 4 → wp_X7_sureOf_B4 post w g z (n + 1) (nI s) (g_fst (fun o => g_b (g_sure f u N s o)) j n) (nI n + (-1)) := by
    intro n
    induction n with
    | zero =>
      intro hn j hj
      rw [wp_X7_sureOf_B4]
      obtain rfl : j = 4 := by omega
      exact br_t (by decide) hp
    | succ n ih =>
      intro hn j hj
      rw [nI_d, wp_X7_sureOf_B4]
      have next := ih (by omega) (j + 1) (by omega)
      refine br_f (nI_pos (by omega)) ?_
      have inner : ∀ a i, i + a = N → wp_X7_sureOf_B17 post w g z (wp_X7_sureOf_B4 post w g z (n + 1)) (a + 1) (nI s) (g_fst (fun o => g_b (g_sure f u N s o)) j (n + 1)) (nI n) (if g_b (∀ k, k < i → k ≠ s → g_now f u k n = -1 ∨ g_now f u k n = f 7 s) = true then 1 else 0) (nI (g_cnt (fun k => g_b (k ≠ s ∧ ¬ g_now f u k n = -1)) i)) (nI i) := by
        intro a
        induction a with
        | zero =>
          intro i hi
          obtain rfl : i = N := by omega
          rw [wp_X7_sureOf_B17]
          have hc := g_cnt_le (fun k => g_b (k ≠ s ∧ ¬ g_now f u k n = -1)) i
          have no : ¬ g_sure f u i s n → wp_X7_sureOf_B4 post w g z (n + 1) (nI s) (g_fst (fun o => g_b (g_sure f u i s o)) j (n + 1)) (nI n + (-1)) := fun c => by
            rwa [g_fst, if_neg (g_bf c)] at next
          refine pk_le i i (fun _ => bo_if (fun c => no (fun q => c (g_bt q.1))) (fun c => ?_)) (fun q => absurd q (by omega)) hN
          refine pk_le (g_cnt (fun k => g_b (k ≠ s ∧ ¬ g_now f u k n = -1)) i) 0 (fun q => no (fun r => ?_)) (fun q => ?_)
          · have : 0 < g_cnt (fun k => g_b (k ≠ s ∧ ¬ g_now f u k n = -1)) i := g_cnt_pos.mpr (by obtain ⟨k, h1, h2, h3⟩ := r.2; exact ⟨k, h1, g_bt ⟨h2, h3⟩⟩)
            omega
          · obtain ⟨k, h1, h2⟩ := g_cnt_pos.mp q
            rw [g_b_iff] at h2 c
            have hsu : g_sure f u i s n := ⟨c, k, h1, h2.1, h2.2⟩
            rw [g_fst, if_pos (g_bt hsu)] at next
            exact next
        | succ a ih2 =>
          intro i hi
          have nx := ih2 (i + 1) (by omega)
          rw [wp_X7_sureOf_B17]
          have g76 : ∀ (y : Int32) (b : Bool), (b = g_b (∀ k, k < i + 1 → k ≠ s → g_now f u k n = -1 ∨ g_now f u k n = f 7 s)) → (¬ y = -1 ↔ (i ≠ s ∧ ¬ g_now f u i n = -1)) → wp_X7_sureOf_B76 post w g z (wp_X7_sureOf_B4 post w g z (n + 1)) (wp_X7_sureOf_B17 post w g z (wp_X7_sureOf_B4 post w g z (n + 1)) (a + 1)) (nI s) (g_fst (fun o => g_b (g_sure f u N s o)) j (n + 1)) (nI n) (nI (g_cnt (fun k => g_b (k ≠ s ∧ ¬ g_now f u k n = -1)) i)) (nI i) y (if b = true then 1 else 0) := by
            intro y b hb hy
            unfold wp_X7_sureOf_B76
            subst hb
            rw [nI_1, nI_1, nI_a0]
            refine ⟨fun c => ?_, fun c => ?_⟩
            · rwa [g_cnt, if_neg (g_bf (fun q => (hy.mpr q) c))] at nx
            · rwa [g_cnt, if_pos (g_bt (hy.mp c))] at nx
          have g43 : ∀ y : Int32, (¬ y = -1 ↔ (i ≠ s ∧ ¬ g_now f u i n = -1)) → (i ≠ s → y = g_now f u i n) → wp_X7_sureOf_B43 post w g z (wp_X7_sureOf_B4 post w g z (n + 1)) (wp_X7_sureOf_B17 post w g z (wp_X7_sureOf_B4 post w g z (n + 1)) (a + 1)) (nI s) (g_fst (fun o => g_b (g_sure f u N s o)) j (n + 1)) (nI n) (if g_b (∀ k, k < i → k ≠ s → g_now f u k n = -1 ∨ g_now f u k n = f 7 s) = true then 1 else 0) (nI (g_cnt (fun k => g_b (k ≠ s ∧ ¬ g_now f u k n = -1)) i)) (nI i) y := by
            intro y hy hy2
            unfold wp_X7_sureOf_B43
            simp (disch := omega) only [m3, nI_1, nI_clamp]
            rw [e2]
            refine bo_if (fun c => g76 y false ?_ hy) (fun c => ⟨fun d => g76 y true ?_ hy, fun d => ⟨vp_in_nI (by omega) (by omega), fun d2 => g76 y true ?_ hy, fun d2 => g76 y false ?_ hy⟩⟩)
            · exact (Bool.eq_false_iff.mpr (g_bf (fun q => c (g_bt (fun k hk => q k (by omega)))))).symm
            · rw [g_b_iff] at c
              refine (g_bt (fun k hk hn => ?_)).symm
              by_cases e : k = i
              · subst e
                by_cases q : g_now f u k n = -1
                · exact Or.inl q
                · exact absurd d (hy.mpr ⟨hn, q⟩)
              · exact c k (by omega) hn
            · rw [g_b_iff] at c
              refine (g_bt (fun k hk hn => ?_)).symm
              by_cases e : k = i
              · subst e
                exact Or.inr ((hy2 hn).symm.trans d2)
              · exact c k (by omega) hn
            · refine (Bool.eq_false_iff.mpr (g_bf (fun q => ?_))).symm
              have hi2 := hy.mp d
              rcases q i (by omega) hi2.1 with q | q
              · exact hi2.2 q
              · exact d2 ((hy2 hi2.1).trans q)
          refine pk_le N i (fun q => absurd q (by omega)) (fun _ => pk_eq i s (fun q => g43 (-1) ⟨fun c => absurd rfl c, fun c => absurd q c.1⟩ (fun c => absurd q c)) (fun q => ?_)) hN
          exact q_wouldOf hW hR (by omega) (by omega) (g43 _ ⟨fun c => ⟨q, c⟩, fun c => c.2⟩ (fun _ => rfl))
      have := inner N 0 (by omega)
      rw [if_pos (g_bt (fun k hk => by omega))] at this
      exact ⟨_, this⟩
  unfold wp_X7_sureOf
  exact ⟨5, key 4 (Nat.le_refl _) 0 rfl⟩
theorem q_whichOf {post : Int32 → Prop} {f : Nat → Nat → Int32} {u : Nat → Int32} {N m h : Nat} {w : Nat → Int32} {g : Nat → Nat → Int32} {z : Int64} (hW : WF f N m h) (hR : RY f u N m h w g) {s : Nat} (hs : s < N) (hp : post (g_which f h s)) : wp_X7_whichOf post w g z (nI s) := by
  have hN4 := hW.1.1
  have hh8 := hW.1.2.2
  have hh := hR.1.2.2
  have e2 := (hR.2.2.1 s hs).2.1
  have hw := (hW.2.2.1 s hs).2
  have key : ∀ j i, i + j = 5 → wp_X7_whichOf_B4 post w g z (j + 1) (nI s) (g_bits (fun k => g_b (g_agr f h s (nI k))) i) (nI i) := by
    intro j
    induction j with
    | zero =>
      intro i hi
      obtain rfl : i = 5 := by omega
      rw [wp_X7_whichOf_B4]
      exact pk_le 5 5 (fun _ => hp) (fun q => absurd q (by omega))
    | succ j ih =>
      intro i hi
      rw [wp_X7_whichOf_B4]
      have next := ih (i + 1) (by omega)
      refine pk_le 5 i (fun q => absurd q (by omega)) (fun _ => ?_)
      have inner : ∀ a b, b + a = h → wp_X7_whichOf_B15 post w g z (wp_X7_whichOf_B4 post w g z (j + 1)) (a + 1) (nI s) (g_bits (fun k => g_b (g_agr f h s (nI k))) i) (nI i) (if g_b (g_agr f b s (nI i)) = true then 1 else 0) (nI b) := by
        intro a
        induction a with
        | zero =>
          intro b hb
          obtain rfl : b = h := by omega
          rw [wp_X7_whichOf_B15, nI_1, or_0]
          refine pk_le b b (fun _ => bo_if (fun c => ?_) (fun c => ?_)) (fun q => absurd q (by omega)) hh
          · rwa [g_bits, if_neg c] at next
          · rwa [g_bits, if_pos c] at next
        | succ a ih2 =>
          intro b hb
          obtain ⟨r1, r2, r3⟩ := hR.2.2.2.2 b (by omega)
          obtain ⟨w1, ⟨o, ho, eo⟩, w3⟩ := hW.2.2.2.2.2 b (by omega)
          rw [wp_X7_whichOf_B15]
          simp (disch := omega) only [m3, nI_1, a2, nI_clamp]
          rw [e2, r1, r2, r3, eo]
          have nx := ih2 (b + 1) (by omega)
          have yes : g_agr f (b + 1) s (nI i) → wp_X7_whichOf_B15 post w g z (wp_X7_whichOf_B4 post w g z (j + 1)) (a + 1) (nI s) (g_bits (fun k => g_b (g_agr f h s (nI k))) i) (nI i) 1 (nI (b + 1)) := fun c => by rwa [if_pos (g_bt c)] at nx
          have no : ¬ g_agr f (b + 1) s (nI i) → wp_X7_whichOf_B15 post w g z (wp_X7_whichOf_B4 post w g z (j + 1)) (a + 1) (nI s) (g_bits (fun k => g_b (g_agr f h s (nI k))) i) (nI i) 0 (nI (b + 1)) := fun c => by rwa [if_neg (g_bf c)] at nx
          have st : g_agr f (b + 1) s (nI i) ↔ g_agr f b s (nI i) ∧ (f 12 b = nI s → g_end (nI i) (f 4 o) (f 7 s) 0 = f 14 b) := by
            refine ⟨fun c => ⟨fun k hk => c k (by omega), fun d => ?_⟩, fun c k hk hn => ?_⟩
            · have := c b (by omega) d
              rwa [eo, nI_clamp (by omega)] at this
            · by_cases e : k = b
              · subst e
                rw [eo, nI_clamp (by omega)]
                exact c.2 hn
              · exact c.1 k (by omega) hn
          refine pk_le h b (fun q => absurd q (by omega)) (fun _ => ⟨vp_in_nI (by omega) (by omega), vp_in_nI (by omega) (by omega), q_endsBy ho (hR.2.1 (by omega) o ho) ((hW.2.1 (by omega) o ho).mono (by omega)) hw ?_⟩) hh
          refine bo_if (fun c => no (fun q => c (g_bt (st.mp q).1))) (fun c => ⟨vp_in_nI (by omega) (by omega), fun d => ⟨vp_in_nI (by omega) (by omega), fun d2 => yes (st.mpr ⟨g_b_iff.mp c, fun _ => d2⟩), fun d2 => no (fun q => d2 ((st.mp q).2 d))⟩, fun d => yes (st.mpr ⟨g_b_iff.mp c, fun q => absurd q d⟩)⟩)
      have := inner h 0 (by omega)
      have h0 : g_agr f 0 s (nI i) := fun k hk => absurd hk (by omega)
      rw [if_pos (g_bt h0)] at this
      exact ⟨_, this⟩
  unfold wp_X7_whichOf
  exact ⟨6, key 5 0 rfl⟩
