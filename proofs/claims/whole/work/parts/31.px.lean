/-! what the class's methods that only read answer -/
theorem bo_if {b : Bool} {A B : Prop} (hf : ¬ b = true → A) (ht : b = true → B) : ((if b = true then (1 : Int32) else 0) = 0 → A) ∧ (¬ (if b = true then (1 : Int32) else 0) = 0 → B) := by
  by_cases e : b = true
  · rw [if_pos e]
    exact br_f (by decide) (ht e)
  · rw [if_neg e]
    exact br_t rfl (hf e)
theorem p_has {post : Int32 → Prop} {x k : Int32} (h : post (if g_has x k = true then 1 else 0)) : wp_X6_has post x k := by
  unfold wp_X6_has
  refine ⟨fun c => ?_, fun c => ?_⟩
  · rwa [if_neg (g_has_f c)] at h
  · rwa [if_pos (g_has_t.mpr c)] at h
theorem p_least {post : Int32 → Prop} {x : Int32} (h : post (g_least x)) : wp_X6_least post x := by
  have key : ∀ j i, i + j = 6 → g_fst (fun k => g_has x (nI k)) j i = g_least x → wp_X6_least_B2 post (j + 1) x (nI i) := by
    intro j
    induction j with
    | zero =>
      intro i hi e
      rw [wp_X6_least_B2]
      refine pk_le 6 i (fun _ => ?_) (fun q => absurd q (by omega))
      rw [← e] at h
      exact h
    | succ j ih =>
      intro i hi e
      rw [wp_X6_least_B2]
      refine pk_le 6 i (fun q => absurd q (by omega)) (fun _ => ⟨fun c => ?_, fun c => ?_⟩)
      · rw [nI_1]
        exact ih (i + 1) (by omega) (by rw [← e, g_fst, if_neg (g_has_f c)])
      · have e2 : nI i = g_least x := by rw [← e, g_fst, if_pos (g_has_t.mpr c)]
        rw [e2]
        exact h
  unfold wp_X6_least
  exact ⟨7, key 6 0 rfl rfl⟩
theorem p_great {post : Int32 → Prop} {x : Int32} (h : post (g_great x)) : wp_X6_greatest post x := by
  have key : ∀ n, n ≤ 6 → g_lst (fun k => g_has x (nI k)) n = g_great x → wp_X6_greatest_B2 post (n + 1) x (nI n + (-1)) := by
    intro n
    induction n with
    | zero =>
      intro hn e
      rw [wp_X6_greatest_B2]
      refine br_t (by decide) ?_
      rw [← e] at h
      exact h
    | succ n ih =>
      intro hn e
      rw [nI_d, wp_X6_greatest_B2]
      refine br_f (nI_pos (by omega)) ⟨fun c => ?_, fun c => ?_⟩
      · exact ih (by omega) (by rw [← e, g_lst, if_neg (g_has_f c)])
      · have e2 : nI n = g_great x := by rw [← e, g_lst, if_pos (g_has_t.mpr c)]
        rw [e2]
        exact h
  unfold wp_X6_greatest
  exact ⟨7, key 6 (Nat.le_refl _) rfl⟩
theorem p_endingBy {post : Int32 → Prop} {kd ft w u : Int32} (h : post (g_end kd ft w u)) : wp_X6_endingBy post kd ft w u := by
  unfold wp_X6_endingBy
  refine ⟨fun e => ?_, fun e => ?_, fun e => ?_, fun e => ?_, fun e => ?_⟩
  · subst e
    have h : post (if g_has ft w = true then w else -1) := h
    exact p_has (bo_if (fun c => by rwa [if_neg c] at h) (fun c => by rwa [if_pos c] at h))
  · subst e
    exact h
  · subst e
    exact p_great h
  · subst e
    have h : post (g_great (if (ft &&& (u ^^^ (-1))) = 0 then ft else ft &&& (u ^^^ (-1)))) := h
    refine ⟨fun c => p_great ?_, fun c => p_great ?_⟩
    · rwa [if_pos c] at h
    · rwa [if_neg c] at h
  · have n1 : ¬ kd = 1 := fun z => by rw [z] at e; revert e; decide
    have n2 : ¬ kd = 2 := fun z => by rw [z] at e; revert e; decide
    have n3 : ¬ kd = 3 := fun z => by rw [z] at e; revert e; decide
    have n4 : ¬ kd = 4 := fun z => by rw [z] at e; revert e; decide
    rw [g_end, if_neg n1, if_neg n2, if_neg n3, if_neg n4] at h
    exact p_has (bo_if (fun c => p_least (by rwa [if_neg c] at h)) (fun c => by rwa [if_pos c] at h))
theorem p_isOpening {post : Int32 → Prop} {x : Int32} (h1 : ∀ o, o < 4 → x = nI o → post 1) (h0 : (¬ ∃ o, o < 4 ∧ x = nI o) → post 0) : wp_X6_isOpening post x := by
  unfold wp_X6_isOpening
  refine ⟨fun c => h0 ?_, fun c => ?_⟩
  · rintro ⟨o, ho, rfl⟩
    exact nI_pos (by omega) c
  · obtain ⟨o, ho, rfl⟩ := nI_of c
    refine pk_le 4 o (fun q => h0 ?_) (fun q => h1 o q rfl)
    rintro ⟨o2, ho2, e⟩
    have := (nI_eq ho (by omega)).mp e
    omega
theorem p_isEnding {post : Int32 → Prop} {x : Int32} (h1 : ∀ o, o < 6 → x = nI o → post 1) (h0 : (¬ ∃ o, o < 6 ∧ x = nI o) → post 0) : wp_X6_isEnding post x := by
  unfold wp_X6_isEnding
  refine ⟨fun c => h0 ?_, fun c => ?_⟩
  · rintro ⟨o, ho, rfl⟩
    exact nI_pos (by omega) c
  · obtain ⟨o, ho, rfl⟩ := nI_of c
    refine pk_le 6 o (fun q => h0 ?_) (fun q => h1 o q rfl)
    rintro ⟨o2, ho2, e⟩
    have := (nI_eq ho (by omega)).mp e
    omega
theorem p_isSpeaker {post : Int32 → Prop} {v : Nat → Int32} {f : Nat → Nat → Int32} {z : Int64} {N : Nat} (hN : v 7 = nI N) (hN4 : N ≤ 4) {x : Int32} (h1 : ∀ s, s < N → x = nI s → post 1) (h0 : (¬ ∃ s, s < N ∧ x = nI s) → post 0) : wp_X6_isSpeaker post v f z x := by
  unfold wp_X6_isSpeaker
  refine ⟨fun c => h0 ?_, fun c => ?_⟩
  · rintro ⟨o, ho, rfl⟩
    exact nI_pos (by omega) c
  · obtain ⟨o, ho, rfl⟩ := nI_of c
    refine pk_le N o (fun q => h0 ?_) (fun q => h1 o q rfl) hN
    rintro ⟨o2, ho2, e⟩
    have := (nI_eq ho (by omega)).mp e
    omega
theorem p_isSentence {post : Int32 → Prop} {v : Nat → Int32} {f : Nat → Nat → Int32} {z : Int64} {m : Nat} (hm : v 8 = nI m) (hm8 : m ≤ 8) {x : Int32} (h1 : ∀ s, s < m → x = nI s → post 1) (h0 : (¬ ∃ s, s < m ∧ x = nI s) → post 0) : wp_X6_isSentence post v f z x := by
  unfold wp_X6_isSentence
  refine ⟨fun c => h0 ?_, fun c => ?_⟩
  · rintro ⟨o, ho, rfl⟩
    exact nI_pos (by omega) c
  · obtain ⟨o, ho, rfl⟩ := nI_of c
    refine pk_le m o (fun q => h0 ?_) (fun q => h1 o q rfl) hm
    rintro ⟨o2, ho2, e⟩
    have := (nI_eq ho (by omega)).mp e
    omega
theorem p_isOpen {post : Int32 → Prop} {v : Nat → Int32} {f : Nat → Nat → Int32} {z : Int64} {k : Nat} (hk : k < 8) (h1 : f 10 k = -1 → post 1) (h0 : ¬ f 10 k = -1 → post 0) : wp_X4_isOpen post v f z (nI k) := by
  unfold wp_X4_isOpen
  rw [nI_clamp (by omega)]
  exact ⟨vp_in_nI hk (by omega), h1, h0⟩
/-- it is as who began it wants -/
def g_asW (f : Nat → Nat → Int32) (k : Nat) : Prop := ¬ f 10 k = -1 ∧ f 11 k = f 7 (f 8 k).toNatClampNeg
theorem p_isAsWanted {post : Int32 → Prop} {v : Nat → Int32} {f : Nat → Nat → Int32} {z : Int64} {k : Nat} (hk : k < 8) (hb : Rg 4 (f 8 k)) (h1 : g_asW f k → post 1) (h0 : ¬ g_asW f k → post 0) : wp_X4_isAsWanted post v f z (nI k) := by
  unfold wp_X4_isAsWanted
  rw [nI_clamp (by omega)]
  refine p_isOpen hk (fun c => br_f (by decide) (h0 (fun q => q.1 c))) (fun c => br_t rfl ⟨vp_in_nI hk (by omega), vp_in_nI hk (by omega), hb.in (by omega), fun q => h1 ⟨c, q⟩, fun q => h0 (fun y => q y.2)⟩)
theorem p_openOf {post : Int32 → Prop} {v : Nat → Int32} {f : Nat → Nat → Int32} {z : Int64} {m : Nat} (hm : v 8 = nI m) (hm8 : m ≤ 8) {a : Int32} (h : post (g_fst (fun k => g_b (f 8 k = a ∧ f 10 k = -1)) m 0)) : wp_X4_openOf post v f z a := by
  have key : ∀ j i, i + j = m → g_fst (fun k => g_b (f 8 k = a ∧ f 10 k = -1)) j i = g_fst (fun k => g_b (f 8 k = a ∧ f 10 k = -1)) m 0 → wp_X4_openOf_B2 post v f z (j + 1) a (nI i) := by
    intro j
    induction j with
    | zero =>
      intro i hi e
      rw [wp_X4_openOf_B2]
      refine pk_le m i (fun _ => ?_) (fun q => absurd q (by omega)) hm
      rw [← e] at h
      exact h
    | succ j ih =>
      intro i hi e
      rw [wp_X4_openOf_B2, nI_clamp (by omega), nI_1]
      have stop : g_b (f 8 i = a ∧ f 10 i = -1) = true → post (nI i) := fun c => by
        have e2 : g_fst (fun k => g_b (f 8 k = a ∧ f 10 k = -1)) m 0 = nI i := by rw [← e, g_fst, if_pos c]
        rw [e2] at h
        exact h
      have go : ¬ g_b (f 8 i = a ∧ f 10 i = -1) = true → wp_X4_openOf_B2 post v f z (j + 1) a (nI (i + 1)) := fun c => ih (i + 1) (by omega) (by rw [← e, g_fst, if_neg c])
      refine pk_le m i (fun q => absurd q (by omega)) (fun _ => ⟨vp_in_nI (by omega) (by omega), fun c => ?_, fun c => go (g_bf (fun q => c q.1))⟩) hm
      exact p_isOpen (by omega) (fun d => br_f (by decide) (stop (g_bt ⟨c, d⟩))) (fun d => br_t rfl (go (g_bf (fun q => d q.2))))
  unfold wp_X4_openOf
  exact ⟨m + 1, key m 0 (by omega) rfl⟩
/-- which endings one used, by the sentences that he ended -/
def g_used (e g : Nat → Int32) (s : Int32) : Nat → Int32
  | 0 => 0
  | k + 1 => if e k = s then g_used e g s k ||| ((1 : Int32) <<< (g k &&& 31)) else g_used e g s k
theorem p_usedBy {post : Int32 → Prop} {v : Nat → Int32} {f : Nat → Nat → Int32} {z : Int64} {m : Nat} (hm : v 8 = nI m) (hm8 : m ≤ 8) {a : Int32} (h : post (g_used (f 10) (f 11) a m)) : wp_X4_usedBy post v f z a := by
  have key : ∀ j i, i + j = m → wp_X4_usedBy_B4 post v f z (j + 1) a (g_used (f 10) (f 11) a i) (nI i) := by
    intro j
    induction j with
    | zero =>
      intro i hi
      obtain rfl : i = m := by omega
      rw [wp_X4_usedBy_B4]
      exact pk_le i i (fun _ => h) (fun q => absurd q (by omega)) hm
    | succ j ih =>
      intro i hi
      rw [wp_X4_usedBy_B4, nI_clamp (by omega), nI_1]
      refine pk_le m i (fun q => absurd q (by omega)) (fun _ => ⟨vp_in_nI (by omega) (by omega), fun c => ⟨vp_in_nI (by omega) (by omega), ?_⟩, fun c => ?_⟩) hm
      · have := ih (i + 1) (by omega)
        rwa [g_used, if_pos c] at this
      · have := ih (i + 1) (by omega)
        rwa [g_used, if_neg c] at this
  unfold wp_X4_usedBy
  exact ⟨m + 1, key m 0 (by omega)⟩
theorem p_begunBy {post : Int32 → Prop} {v : Nat → Int32} {f : Nat → Nat → Int32} {z : Int64} {m : Nat} (hm : v 8 = nI m) (hm8 : m ≤ 8) {a : Int32} (h : post (nI (g_cnt (fun k => g_b (f 8 k = a)) m))) : wp_X4_howManyBegunBy post v f z a := by
  have key : ∀ j i, i + j = m → wp_X4_howManyBegunBy_B4 post v f z (j + 1) a (nI (g_cnt (fun k => g_b (f 8 k = a)) i)) (nI i) := by
    intro j
    induction j with
    | zero =>
      intro i hi
      obtain rfl : i = m := by omega
      rw [wp_X4_howManyBegunBy_B4]
      exact pk_le i i (fun _ => h) (fun q => absurd q (by omega)) hm
    | succ j ih =>
      intro i hi
      rw [wp_X4_howManyBegunBy_B4, nI_clamp (by omega), nI_1, nI_1, nI_a0]
      have := ih (i + 1) (by omega)
      refine pk_le m i (fun q => absurd q (by omega)) (fun _ => ⟨vp_in_nI (by omega) (by omega), fun c => ?_, fun c => ?_⟩) hm
      · rwa [g_cnt, if_pos (g_bt c)] at this
      · rwa [g_cnt, if_neg (g_bf c)] at this
  unfold wp_X4_howManyBegunBy
  exact ⟨m + 1, key m 0 (by omega)⟩
theorem p_endedBy {post : Int32 → Prop} {v : Nat → Int32} {f : Nat → Nat → Int32} {z : Int64} {m : Nat} (hm : v 8 = nI m) (hm8 : m ≤ 8) {a : Int32} (h : post (nI (g_cnt (fun k => g_b (f 10 k = a)) m))) : wp_X4_howManyEndedBy post v f z a := by
  have key : ∀ j i, i + j = m → wp_X4_howManyEndedBy_B4 post v f z (j + 1) a (nI (g_cnt (fun k => g_b (f 10 k = a)) i)) (nI i) := by
    intro j
    induction j with
    | zero =>
      intro i hi
      obtain rfl : i = m := by omega
      rw [wp_X4_howManyEndedBy_B4]
      exact pk_le i i (fun _ => h) (fun q => absurd q (by omega)) hm
    | succ j ih =>
      intro i hi
      rw [wp_X4_howManyEndedBy_B4, nI_clamp (by omega), nI_1, nI_1, nI_a0]
      have := ih (i + 1) (by omega)
      refine pk_le m i (fun q => absurd q (by omega)) (fun _ => ⟨vp_in_nI (by omega) (by omega), fun c => ?_, fun c => ?_⟩) hm
      · rwa [g_cnt, if_pos (g_bt c)] at this
      · rwa [g_cnt, if_neg (g_bf c)] at this
  unfold wp_X4_howManyEndedBy
  exact ⟨m + 1, key m 0 (by omega)⟩
theorem p_wantedMany {post : Int32 → Prop} {v : Nat → Int32} {f : Nat → Nat → Int32} {z : Int64} {m : Nat} (hm : v 8 = nI m) (hm8 : m ≤ 8) (hb : ∀ k, k < m → Rg 4 (f 8 k)) (h : post (nI (g_cnt (fun k => g_b (g_asW f k)) m))) : wp_X4_howManyAsWanted post v f z := by
  have key : ∀ j i, i + j = m → wp_X4_howManyAsWanted_B4 post v f z (j + 1) (nI (g_cnt (fun k => g_b (g_asW f k)) i)) (nI i) := by
    intro j
    induction j with
    | zero =>
      intro i hi
      obtain rfl : i = m := by omega
      rw [wp_X4_howManyAsWanted_B4]
      exact pk_le i i (fun _ => h) (fun q => absurd q (by omega)) hm
    | succ j ih =>
      intro i hi
      rw [wp_X4_howManyAsWanted_B4, nI_1, nI_1, nI_a0]
      have := ih (i + 1) (by omega)
      refine pk_le m i (fun q => absurd q (by omega)) (fun _ => p_isAsWanted (by omega) (hb i (by omega)) (fun c => br_f (by decide) ?_) (fun c => br_t rfl ?_)) hm
      · rwa [g_cnt, if_pos (g_bt c)] at this
      · rwa [g_cnt, if_neg (g_bf c)] at this
  unfold wp_X4_howManyAsWanted
  exact ⟨m + 1, key m 0 (by omega)⟩
/-- all that any of the first n used -/
def g_usedAll (e g : Nat → Int32) (m : Nat) : Nat → Int32
  | 0 => 0
  | n + 1 => g_usedAll e g m n ||| g_used e g (nI n) m
theorem p_unlike {post : Int32 → Prop} {v : Nat → Int32} {f : Nat → Nat → Int32} {z : Int64} {m : Nat} (hm : v 8 = nI m) (hm8 : m ≤ 8) (h : wp_J6_bitCount_0f7a4 post (g_usedAll (f 10) (f 11) m 4)) : wp_X4_howManyUnlikeEndings post v f z := by
  have key : ∀ j i, i + j = 4 → wp_X4_howManyUnlikeEndings_B4 post v f z (j + 1) (g_usedAll (f 10) (f 11) m i) (nI i) := by
    intro j
    induction j with
    | zero =>
      intro i hi
      obtain rfl : i = 4 := by omega
      rw [wp_X4_howManyUnlikeEndings_B4]
      exact pk_le 4 4 (fun _ => h) (fun q => absurd q (by omega))
    | succ j ih =>
      intro i hi
      rw [wp_X4_howManyUnlikeEndings_B4, nI_1]
      exact pk_le 4 i (fun q => absurd q (by omega)) (fun _ => p_usedBy hm hm8 (ih (i + 1) (by omega)))
  unfold wp_X4_howManyUnlikeEndings
  exact ⟨5, key 4 0 rfl⟩
/-- how a speaker ends an opening, by what each used -/
def g_now (f : Nat → Nat → Int32) (u : Nat → Int32) (s o : Nat) : Int32 := g_end (f 5 s) (f 4 o) (f 7 s) (u s)
def g_uX (f : Nat → Nat → Int32) (m : Nat) (s : Nat) : Int32 := g_used (f 10) (f 11) (nI s) m
theorem p_endingNow {post : Int32 → Prop} {v : Nat → Int32} {f : Nat → Nat → Int32} {z : Int64} {m : Nat} (hm : v 8 = nI m) (hm8 : m ≤ 8) {s o : Nat} (hs : s < 4) (ho : o < 4) (h : post (g_now f (g_uX f m) s o)) : wp_X6_endingNow post v f z (nI s) (nI o) := by
  unfold wp_X6_endingNow
  rw [nI_clamp (by omega), nI_clamp (by omega)]
  exact ⟨vp_in_nI hs (by omega), vp_in_nI ho (by omega), vp_in_nI hs (by omega), p_usedBy hm hm8 (p_endingBy h)⟩
/-! SURE -/
/-- an opening is sure for one -/
def g_sure (f : Nat → Nat → Int32) (u : Nat → Int32) (N s o : Nat) : Prop := (∀ k, k < N → k ≠ s → g_now f u k o = -1 ∨ g_now f u k o = f 7 s) ∧ ∃ k, k < N ∧ k ≠ s ∧ ¬ g_now f u k o = -1
theorem p_sureB58 {post : Int32 → Prop} {v : Nat → Int32} {f : Nat → Nat → Int32} {z : Int64} {K : Int32 → Int32 → Int32 → Int32 → Prop} {x1 x2 x4 y : Int32} (b b2 : Bool) (hb : b2 = true ↔ b = true ∨ ¬ y = -1) (h : K x1 x2 (if b2 = true then 1 else 0) (x4 + 1)) : wp_X6_isSure_B58 post v f z K x1 x2 (if b = true then 1 else 0) x4 y := by
  unfold wp_X6_isSure_B58
  refine bo_if (fun c => ⟨fun d => ?_, fun d => ?_⟩) (fun c => ?_)
  · rwa [if_neg (fun q => (hb.mp q).elim c (fun w => w d))] at h
  · rwa [if_pos (hb.mpr (Or.inr d))] at h
  · rwa [if_pos (hb.mpr (Or.inl c))] at h
theorem nb_if (b : Bool) : nb (if b = true then 1 else 0) := by cases b <;> rfl
theorem p_isSure {post : Int32 → Prop} {v : Nat → Int32} {f : Nat → Nat → Int32} {z : Int64} {N m : Nat} (hN : v 7 = nI N) (hN4 : N ≤ 4) (hm : v 8 = nI m) (hm8 : m ≤ 8) {s o : Nat} (hs : s < N) (ho : o < 4) (h1 : g_sure f (g_uX f m) N s o → post 1) (h0 : ¬ g_sure f (g_uX f m) N s o → post 0) : wp_X6_isSure post v f z (nI s) (nI o) := by
  have key : ∀ j i, i + j = N → (∀ k, k < i → k ≠ s → g_now f (g_uX f m) k o = -1 ∨ g_now f (g_uX f m) k o = f 7 s) → wp_X6_isSure_B5 post v f z (j + 1) (nI s) (nI o) (if g_b (∃ k, k < i ∧ k ≠ s ∧ ¬ g_now f (g_uX f m) k o = -1) = true then 1 else 0) (nI i) := by
    intro j
    induction j with
    | zero =>
      intro i hi ok
      obtain rfl : i = N := by omega
      rw [wp_X6_isSure_B5]
      refine pk_le i i (fun _ => ⟨nb_if _, ?_⟩) (fun q => absurd q (by omega)) hN
      by_cases e : ∃ k, k < i ∧ k ≠ s ∧ ¬ g_now f (g_uX f m) k o = -1
      · rw [if_pos (g_bt e)]
        exact h1 ⟨ok, e⟩
      · rw [if_neg (g_bf e)]
        exact h0 (fun q => e q.2)
    | succ j ih =>
      intro i hi ok
      rw [wp_X6_isSure_B5]
      refine pk_le N i (fun q => absurd q (by omega)) (fun _ => pk_eq i s (fun q => ?_) (fun q => ?_)) hN
      · unfold wp_X6_isSure_B34
        refine br_t rfl (p_sureB58 _ (g_b (∃ k, k < i + 1 ∧ k ≠ s ∧ ¬ g_now f (g_uX f m) k o = -1)) ?_ ?_)
        · rw [g_b_iff, g_b_iff]
          refine ⟨fun ⟨k, h1, h2, h3⟩ => Or.inl ⟨k, by omega, h2, h3⟩, fun h => h.elim (fun ⟨k, h1, h2, h3⟩ => ⟨k, by omega, h2, h3⟩) (fun w => absurd rfl w)⟩
        · rw [nI_1]
          exact ih (i + 1) (by omega) (fun k hk hn => ok k (by omega) hn)
      · refine p_endingNow hm hm8 (by omega) ho ?_
        have bb : g_b (∃ k, k < i + 1 ∧ k ≠ s ∧ ¬ g_now f (g_uX f m) k o = -1) = true ↔ g_b (∃ k, k < i ∧ k ≠ s ∧ ¬ g_now f (g_uX f m) k o = -1) = true ∨ ¬ g_now f (g_uX f m) i o = -1 := by
          rw [g_b_iff, g_b_iff]
          refine ⟨fun ⟨k, h1, h2, h3⟩ => ?_, fun h => h.elim (fun ⟨k, h1, h2, h3⟩ => ⟨k, by omega, h2, h3⟩) (fun w => ⟨i, by omega, q, w⟩)⟩
          by_cases e : k = i
          · exact Or.inr (e ▸ h3)
          · exact Or.inl ⟨k, by omega, h2, h3⟩
        have go : (g_now f (g_uX f m) i o = -1 ∨ g_now f (g_uX f m) i o = f 7 s) → wp_X6_isSure_B58 post v f z (wp_X6_isSure_B5 post v f z (j + 1)) (nI s) (nI o) (if g_b (∃ k, k < i ∧ k ≠ s ∧ ¬ g_now f (g_uX f m) k o = -1) = true then 1 else 0) (nI i) (g_now f (g_uX f m) i o) := fun hh => by
          refine p_sureB58 _ _ bb ?_
          rw [nI_1]
          refine ih (i + 1) (by omega) (fun k hk hn => ?_)
          by_cases e : k = i
          · exact e ▸ hh
          · exact ok k (by omega) hn
        unfold wp_X6_isSure_B34
        rw [nI_clamp (by omega)]
        refine ⟨fun d => go (Or.inl d), fun d => ⟨vp_in_nI (by omega) (by omega), fun d2 => go (Or.inr d2), fun d2 => h0 (fun w => ?_)⟩⟩
        rcases w.1 i (by omega) q with w | w
        · exact d w
        · exact d2 w
  unfold wp_X6_isSure
  have := key N 0 (by omega) (fun k hk => by omega)
  rw [if_neg (g_bf (fun ⟨k, h, _⟩ => by omega))] at this
  exact ⟨_, this⟩
noncomputable def g_sureOf (f : Nat → Nat → Int32) (u : Nat → Int32) (N s : Nat) : Int32 := g_fst (fun o => g_b (g_sure f u N s o)) 4 0
theorem p_sureOpening {post : Int32 → Prop} {v : Nat → Int32} {f : Nat → Nat → Int32} {z : Int64} {N m : Nat} (hN : v 7 = nI N) (hN4 : N ≤ 4) (hm : v 8 = nI m) (hm8 : m ≤ 8) {s : Nat} (hs : s < N) (h : post (g_sureOf f (g_uX f m) N s)) : wp_X6_sureOpening post v f z (nI s) := by
  have key : ∀ j i, i + j = 4 → g_fst (fun o => g_b (g_sure f (g_uX f m) N s o)) j i = g_sureOf f (g_uX f m) N s → wp_X6_sureOpening_B2 post v f z (j + 1) (nI s) (nI i) := by
    intro j
    induction j with
    | zero =>
      intro i hi e
      rw [wp_X6_sureOpening_B2]
      refine pk_le 4 i (fun _ => ?_) (fun q => absurd q (by omega))
      rw [← e] at h
      exact h
    | succ j ih =>
      intro i hi e
      rw [wp_X6_sureOpening_B2]
      refine pk_le 4 i (fun q => absurd q (by omega)) (fun _ => p_isSure hN hN4 hm hm8 hs (by omega) (fun c => br_f (by decide) ?_) (fun c => br_t rfl ?_))
      · have e2 : g_sureOf f (g_uX f m) N s = nI i := by rw [← e, g_fst, if_pos (g_bt c)]
        rw [e2] at h
        exact h
      · rw [nI_1]
        exact ih (i + 1) (by omega) (by rw [← e, g_fst, if_neg (g_bf c)])
  unfold wp_X6_sureOpening
  exact ⟨5, key 4 0 rfl rfl⟩
/-! WHICH KINDS, BEGIN -/
def g_agr (f : Nat → Nat → Int32) (h s : Nat) (kd : Int32) : Prop := ∀ i, i < h → f 12 i = nI s → g_end kd (f 4 (f 13 i).toNatClampNeg) (f 7 s) 0 = f 14 i
theorem p_agrees {post : Int32 → Prop} {v : Nat → Int32} {f : Nat → Nat → Int32} {z : Int64} {h : Nat} (hh : v 9 = nI h) (hh8 : h ≤ 8) (ho : ∀ i, i < h → Rg 4 (f 13 i)) {s : Nat} (hs : s < 4) {kd : Int32} (h1 : g_agr f h s kd → post 1) (h0 : ¬ g_agr f h s kd → post 0) : wp_X6_agreesWithHeard post v f z (nI s) kd := by
  have key : ∀ j i, i + j = h → (∀ k, k < i → f 12 k = nI s → g_end kd (f 4 (f 13 k).toNatClampNeg) (f 7 s) 0 = f 14 k) → wp_X6_agreesWithHeard_B2 post v f z (j + 1) (nI s) kd (nI i) := by
    intro j
    induction j with
    | zero =>
      intro i hi ok
      obtain rfl : i = h := by omega
      rw [wp_X6_agreesWithHeard_B2]
      exact pk_le i i (fun _ => h1 ok) (fun q => absurd q (by omega)) hh
    | succ j ih =>
      intro i hi ok
      rw [wp_X6_agreesWithHeard_B2, nI_clamp (by omega), nI_clamp (by omega), nI_1]
      refine pk_le h i (fun q => absurd q (by omega)) (fun _ => ⟨vp_in_nI (by omega) (by omega), fun c => ⟨vp_in_nI (by omega) (by omega), (ho i (by omega)).in (by omega), vp_in_nI hs (by omega), p_endingBy ⟨vp_in_nI (by omega) (by omega), fun d => ?_, fun d => ?_⟩⟩, fun c => ?_⟩) hh
      · refine ih (i + 1) (by omega) (fun k hk hn => ?_)
        by_cases e : k = i
        · exact e ▸ d
        · exact ok k (by omega) hn
      · exact h0 (fun w => d (w i (by omega) c))
      · refine ih (i + 1) (by omega) (fun k hk hn => ?_)
        by_cases e : k = i
        · exact absurd (e ▸ hn) c
        · exact ok k (by omega) hn
  unfold wp_X6_agreesWithHeard
  exact ⟨h + 1, key h 0 (by omega) (fun k hk => by omega)⟩
noncomputable def g_which (f : Nat → Nat → Int32) (h s : Nat) : Int32 := g_bits (fun k => g_b (g_agr f h s (nI k))) 5
theorem p_possible {post : Int32 → Prop} {v : Nat → Int32} {f : Nat → Nat → Int32} {z : Int64} {h : Nat} (hh : v 9 = nI h) (hh8 : h ≤ 8) (ho : ∀ i, i < h → Rg 4 (f 13 i)) {s : Nat} (hs : s < 4) (hp : post (g_which f h s)) : wp_X6_possibleKinds post v f z (nI s) := by
  have key : ∀ j i, i + j = 5 → wp_X6_possibleKinds_B4 post v f z (j + 1) (nI s) (g_bits (fun k => g_b (g_agr f h s (nI k))) i) (nI i) := by
    intro j
    induction j with
    | zero =>
      intro i hi
      obtain rfl : i = 5 := by omega
      rw [wp_X6_possibleKinds_B4]
      exact pk_le 5 5 (fun _ => hp) (fun q => absurd q (by omega))
    | succ j ih =>
      intro i hi
      rw [wp_X6_possibleKinds_B4, nI_1]
      have := ih (i + 1) (by omega)
      refine pk_le 5 i (fun q => absurd q (by omega)) (fun _ => p_agrees hh hh8 ho hs (fun c => br_f (by decide) ?_) (fun c => br_t rfl ?_))
      · rwa [g_bits, if_pos (g_bt c)] at this
      · rwa [g_bits, if_neg (g_bf c)] at this
  unfold wp_X6_possibleKinds
  exact ⟨6, key 5 0 rfl⟩
/-- of the first n kinds among some: how many end so in one way -/
noncomputable def g_way (kinds ft w way : Int32) (n : Nat) : Nat := g_cnt (fun k => g_b (g_has kinds (nI k) = true ∧ g_end (nI k) ft w 0 = way)) n
/-- the most of it, of the first i ways (the first is: left open) -/
noncomputable def g_most (kinds ft w : Int32) : Nat → Nat
  | 0 => 0
  | i + 1 => max (g_most kinds ft w i) (g_way kinds ft w (nI i + (-1)) 5)
theorem g_most_le (kinds ft w : Int32) : ∀ i, g_most kinds ft w i ≤ 5
  | 0 => by simp [g_most]
  | i + 1 => by
    have h1 := g_most_le kinds ft w i
    have h2 : g_way kinds ft w (nI i + (-1)) 5 ≤ 5 := g_cnt_le _ 5
    unfold g_most
    omega
theorem way_s (i : Nat) : (nI i + (-1)) + 1 = nI (i + 1) + (-1) := by
  rw [← nI_1, Int32.add_assoc, Int32.add_assoc]
  congr 1
theorem way_lt : ∀ i, i < 7 → ¬ (6 : Int32) ≤ nI i + (-1) := by decide +kernel
theorem max_if (a b : Nat) (ha : a < 2 ^ 31) (hb : b < 2 ^ 31) : (if nI a < nI b then nI b else nI a) = nI (max a b) := by
  by_cases e : a < b
  · rw [if_pos (nI_lt e hb), Nat.max_eq_right (by omega)]
  · rw [if_neg (nI_nlt (by omega) ha), Nat.max_eq_left (by omega)]
theorem p_mostLeft {post : Int32 → Prop} {v : Nat → Int32} {f : Nat → Nat → Int32} {z : Int64} {s o : Nat} (hs : s < 4) (ho : o < 4) {kinds : Int32} (h : post (nI (g_most kinds (f 4 o) (f 7 s) 7))) : wp_X6_mostKindsLeft post v f z (nI s) (nI o) kinds := by
  have key : ∀ j i, i + j = 7 → wp_X6_mostKindsLeft_B28 post v f z (j + 1) kinds (f 4 o) (f 7 s) (nI (g_most kinds (f 4 o) (f 7 s) i)) (nI i + (-1)) := by
    intro j
    induction j with
    | zero =>
      intro i hi
      obtain rfl : i = 7 := by omega
      rw [wp_X6_mostKindsLeft_B28]
      exact br_t (by decide) h
    | succ j ih =>
      intro i hi
      rw [wp_X6_mostKindsLeft_B28]
      refine br_f (way_lt i (by omega)) ?_
      have inner : ∀ a b, b + a = 5 → wp_X6_mostKindsLeft_B41 post v f z (wp_X6_mostKindsLeft_B28 post v f z (j + 1)) (a + 1) kinds (f 4 o) (f 7 s) (nI (g_most kinds (f 4 o) (f 7 s) i)) (nI i + (-1)) (nI (g_way kinds (f 4 o) (f 7 s) (nI i + (-1)) b)) (nI b) := by
        intro a
        induction a with
        | zero =>
          intro b hb
          obtain rfl : b = 5 := by omega
          rw [wp_X6_mostKindsLeft_B41]
          refine pk_le 5 5 (fun _ => ?_) (fun q => absurd q (by omega))
          have h1 := g_most_le kinds (f 4 o) (f 7 s) i
          have h2 : g_way kinds (f 4 o) (f 7 s) (nI i + (-1)) 5 ≤ 5 := g_cnt_le _ 5
          rw [max_if _ _ (by omega) (by omega), way_s]
          exact ih (i + 1) (by omega)
        | succ a ih2 =>
          intro b hb
          rw [wp_X6_mostKindsLeft_B41, nI_1, nI_1]
          have := ih2 (b + 1) (by omega)
          have no : ¬ (g_has kinds (nI b) = true ∧ g_end (nI b) (f 4 o) (f 7 s) 0 = nI i + (-1)) → wp_X6_mostKindsLeft_B41 post v f z (wp_X6_mostKindsLeft_B28 post v f z (j + 1)) (a + 1) kinds (f 4 o) (f 7 s) (nI (g_most kinds (f 4 o) (f 7 s) i)) (nI i + (-1)) (nI (g_way kinds (f 4 o) (f 7 s) (nI i + (-1)) b)) (nI (b + 1)) := fun c => by
            rwa [g_way, g_cnt, if_neg (g_bf c)] at this
          refine pk_le 5 b (fun q => absurd q (by omega)) (fun _ => p_has (bo_if (fun c => no (fun w => c w.1)) (fun c => p_endingBy ⟨fun d => ?_, fun d => no (fun w => d w.2)⟩)))
          rwa [g_way, g_cnt, if_pos (g_bt ⟨c, d⟩)] at this
      exact ⟨6, inner 5 0 rfl⟩
  unfold wp_X6_mostKindsLeft
  rw [nI_clamp (by omega), nI_clamp (by omega)]
  exact ⟨vp_in_nI ho (by omega), vp_in_nI hs (by omega), 8, key 7 0 rfl⟩
/-- the least opening at which the fewest are left at worst -/
def g_tell (L : Nat → Nat) : Nat → Int32 × Nat
  | 0 => (-1, 6)
  | o + 1 => if (g_tell L o).2 ≤ L o then g_tell L o else (nI o, L o)
theorem g_tell_le (L : Nat → Nat) (hL : ∀ o, L o ≤ 5) : ∀ o, (g_tell L o).2 ≤ 6
  | 0 => Nat.le_refl _
  | o + 1 => by
    unfold g_tell
    split
    · exact g_tell_le L hL o
    · have := hL o
      show L o ≤ 6
      omega
theorem p_telling {post : Int32 → Prop} {v : Nat → Int32} {f : Nat → Nat → Int32} {z : Int64} {s : Nat} (hs : s < 4) {kinds : Int32} (h0 : kinds = 0 → post (-1)) (h1 : ¬ kinds = 0 → post (g_tell (fun o => g_most kinds (f 4 o) (f 7 s) 7) 4).1) : wp_X6_tellingOpening post v f z (nI s) kinds := by
  unfold wp_X6_tellingOpening
  refine ⟨h0, fun c => ?_⟩
  have h1 := h1 c
  have hL : ∀ o, g_most kinds (f 4 o) (f 7 s) 7 ≤ 5 := fun o => g_most_le _ _ _ _
  have key : ∀ j i, i + j = 4 → wp_X6_tellingOpening_B15 post v f z (j + 1) (nI s) kinds (g_tell (fun o => g_most kinds (f 4 o) (f 7 s) 7) i).1 (nI (g_tell (fun o => g_most kinds (f 4 o) (f 7 s) 7) i).2) (nI i) := by
    intro j
    induction j with
    | zero =>
      intro i hi
      obtain rfl : i = 4 := by omega
      rw [wp_X6_tellingOpening_B15]
      exact pk_le 4 4 (fun _ => h1) (fun q => absurd q (by omega))
    | succ j ih =>
      intro i hi
      rw [wp_X6_tellingOpening_B15, nI_1]
      have := ih (i + 1) (by omega)
      have b1 := hL i
      have b2 := g_tell_le _ hL i
      refine pk_le 4 i (fun q => absurd q (by omega)) (fun _ => p_mostLeft hs (by omega) (pk_le (g_tell (fun o => g_most kinds (f 4 o) (f 7 s) 7) i).2 (g_most kinds (f 4 i) (f 7 s) 7) (fun q => ?_) (fun q => ?_)))
      · rwa [g_tell, if_pos q] at this
      · rwa [g_tell, if_neg (by omega)] at this
  exact ⟨5, key 4 0 rfl⟩
noncomputable def g_begin (f : Nat → Nat → Int32) (h s : Nat) : Int32 := if g_which f h s = 0 then -1 else (g_tell (fun o => g_most (g_which f h s) (f 4 o) (f 7 s) 7) 4).1
/-- what about() tells -/
noncomputable def g_ab (f : Nat → Nat → Int32) (N m h s : Nat) : Nat → Int32
  | 0 => f 5 s
  | 1 => f 7 s
  | 2 => g_uX f m s
  | 3 => g_fst (fun k => g_b (f 8 k = nI s ∧ f 10 k = -1)) m 0
  | 4 => nI (g_cnt (fun k => g_b (f 8 k = nI s)) m)
  | 5 => nI (g_cnt (fun k => g_b (f 10 k = nI s)) m)
  | 6 => g_sureOf f (g_uX f m) N s
  | 7 => g_which f h s
  | 8 => g_begin f h s
  | _ => -102
theorem p_about {post : Int32 → Prop} {v : Nat → Int32} {f : Nat → Nat → Int32} {z : Int64} {N m h : Nat} (hN : v 7 = nI N) (hN4 : N ≤ 4) (hm : v 8 = nI m) (hm8 : m ≤ 8) (hh : v 9 = nI h) (hh8 : h ≤ 8) (ho : ∀ i, i < h → Rg 4 (f 13 i)) {x w : Int32} (h1 : ∀ s, s < N → x = nI s → ∀ k, k < 9 → w = nI k → post (g_ab f N m h s k)) (h2 : ∀ s, s < N → x = nI s → (¬ ∃ k, k < 9 ∧ w = nI k) → post (-102)) (h0 : (¬ ∃ s, s < N ∧ x = nI s) → post (-101)) : wp_X6_about post v f z x w := by
  unfold wp_X6_about
  refine p_isSpeaker hN hN4 (fun s hs e => br_f (by decide) ?_) (fun c => br_t rfl (h0 c))
  subst e
  rw [nI_clamp (by omega)]
  have s4 : s < 4 := by omega
  have h1 := h1 s hs rfl
  refine ⟨fun e => ⟨vp_in_nI s4 (by omega), h1 0 (by omega) e⟩, fun e => ⟨vp_in_nI s4 (by omega), h1 1 (by omega) e⟩, fun e => p_usedBy hm hm8 (h1 2 (by omega) e), fun e => p_openOf hm hm8 (h1 3 (by omega) e), fun e => p_begunBy hm hm8 (h1 4 (by omega) e), fun e => p_endedBy hm hm8 (h1 5 (by omega) e), fun e => p_sureOpening hN hN4 hm hm8 hs (h1 6 (by omega) e), fun e => p_possible hh hh8 ho s4 (h1 7 (by omega) e), fun e => p_possible hh hh8 ho s4 (p_telling s4 (fun c => ?_) (fun c => ?_)), fun e => h2 s hs rfl ?_⟩
  · have := h1 8 (by omega) e
    rwa [g_ab, g_begin, if_pos c] at this
  · have := h1 8 (by omega) e
    rwa [g_ab, g_begin, if_neg c] at this
  · rintro ⟨k, hk, rfl⟩
    rw [nI_toInt (by omega)] at e
    omega
/-- it would please who began a sentence that one ends it -/
def g_plz (f : Nat → Nat → Int32) (u : Nat → Int32) (s k : Nat) : Prop := f 10 k = -1 ∧ ¬ f 8 k = nI s ∧ g_now f u s (f 9 k).toNatClampNeg = f 7 (f 8 k).toNatClampNeg
theorem p_wouldPlease {post : Int32 → Prop} {v : Nat → Int32} {f : Nat → Nat → Int32} {z : Int64} {m : Nat} (hm : v 8 = nI m) (hm8 : m ≤ 8) {s k : Nat} (hs : s < 4) (hk : k < 8) (hb : Rg 4 (f 8 k)) (ho : Rg 4 (f 9 k)) (h1 : g_plz f (g_uX f m) s k → post 1) (h0 : ¬ g_plz f (g_uX f m) s k → post 0) : wp_X6_wouldPlease post v f z (nI s) (nI k) := by
  unfold wp_X6_wouldPlease
  rw [nI_clamp (by omega)]
  obtain ⟨o, ho4, eo⟩ := ho
  have hg : g_plz f (g_uX f m) s k ↔ f 10 k = -1 ∧ ¬ f 8 k = nI s ∧ g_now f (g_uX f m) s o = f 7 (f 8 k).toNatClampNeg := by
    unfold g_plz
    rw [eo, nI_clamp (by omega)]
  rw [hg] at h1 h0
  rw [eo]
  exact ⟨vp_in_nI hk (by omega), p_isOpen hk (fun c => br_f (by decide) ⟨fun d => h0 (fun w => w.2.1 d), fun d => ⟨vp_in_nI hk (by omega), p_endingNow hm hm8 hs ho4 ⟨hb.in (by omega), fun q => h1 ⟨c, d, q⟩, fun q => h0 (fun w => q w.2.2)⟩⟩⟩) (fun c => br_t rfl (h0 (fun w => c w.1)))⟩
