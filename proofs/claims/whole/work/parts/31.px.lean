/-! what the class's methods that only read answer -/
theorem bo_if {b : Bool} {A B : Prop} (hf : ¬ b = true → A) (ht : b = true → B) : ((if b = true then (1 : Int32) else 0) = 0 → A) ∧ (¬ (if b = true then (1 : Int32) else 0) = 0 → B) := by
  by_cases e : b = true
  · rw [if_pos e]
    exact br_f (by decide) (ht e)
  · rw [if_neg e]
    exact br_t rfl (hf e)
theorem p_has {post : Int32 → Prop} {x k : Int32} (h : post (if g_has x k = true then 1 else 0)) : wp_X6_has post x k := by
  unfold wp_X6_has
  refine ⟨fun c => ?_, fun c => ?_⟩
  · rwa [if_neg (g_has_f c)] at h
  · rwa [if_pos (g_has_t.mpr c)] at h
theorem p_least {post : Int32 → Prop} {x : Int32} (h : post (g_least x)) : wp_X6_least post x := by
  have key : ∀ j i, i + j = 6 → g_fst (fun k => g_has x (nI k)) j i = g_least x → wp_X6_least_B2 post (j + 1) x (nI i) := by
    intro j
    induction j with
    | zero =>
      intro i hi e
      rw [wp_X6_least_B2]
      refine pk_le 6 i (fun _ => ?_) (fun q => absurd q (by omega))
      rw [← e] at h
      exact h
    | succ j ih =>
      intro i hi e
      rw [wp_X6_least_B2]
      refine pk_le 6 i (fun q => absurd q (by omega)) (fun _ => ⟨fun c => ?_, fun c => ?_⟩)
      · rw [nI_1]
        exact ih (i + 1) (by omega) (by rw [← e, g_fst, if_neg (g_has_f c)])
      · have e2 : nI i = g_least x := by rw [← e, g_fst, if_pos (g_has_t.mpr c)]
        rw [e2]
        exact h
  unfold wp_X6_least
  exact ⟨7, key 6 0 rfl rfl⟩
theorem p_great {post : Int32 → Prop} {x : Int32} (h : post (g_great x)) : wp_X6_greatest post x := by
  have key : ∀ n, n ≤ 6 → g_lst (fun k => g_has x (nI k)) n = g_great x → wp_X6_greatest_B2 post (n + 1) x (nI n + (-1)) := by
    intro n
    induction n with
    | zero =>
      intro hn e
      rw [wp_X6_greatest_B2]
      refine br_t (by decide) ?_
      rw [← e] at h
      exact h
    | succ n ih =>
      intro hn e
      rw [nI_d, wp_X6_greatest_B2]
      refine br_f (nI_pos (by omega)) ⟨fun c => ?_, fun c => ?_⟩
      · exact ih (by omega) (by rw [← e, g_lst, if_neg (g_has_f c)])
      · have e2 : nI n = g_great x := by rw [← e, g_lst, if_pos (g_has_t.mpr c)]
        rw [e2]
        exact h
  unfold wp_X6_greatest
  exact ⟨7, key 6 (Nat.le_refl _) rfl⟩
theorem p_endingBy {post : Int32 → Prop} {kd ft w u : Int32} (h : post (g_end kd ft w u)) : wp_X6_endingBy post kd ft w u := by
  unfold wp_X6_endingBy
  refine ⟨fun e => ?_, fun e => ?_, fun e => ?_, fun e => ?_, fun e => ?_⟩
  · subst e
    have h : post (if g_has ft w = true then w else -1) := h
    exact p_has (bo_if (fun c => by rwa [if_neg c] at h) (fun c => by rwa [if_pos c] at h))
  · subst e
    exact h
  · subst e
    exact p_great h
  · subst e
    have h : post (g_great (if (ft &&& (u ^^^ (-1))) = 0 then ft else ft &&& (u ^^^ (-1)))) := h
    refine ⟨fun c => p_great ?_, fun c => p_great ?_⟩
    · rwa [if_pos c] at h
    · rwa [if_neg c] at h
  · have n1 : ¬ kd = 1 := fun z => by rw [z] at e; revert e; decide
    have n2 : ¬ kd = 2 := fun z => by rw [z] at e; revert e; decide
    have n3 : ¬ kd = 3 := fun z => by rw [z] at e; revert e; decide
    have n4 : ¬ kd = 4 := fun z => by rw [z] at e; revert e; decide
    rw [g_end, if_neg n1, if_neg n2, if_neg n3, if_neg n4] at h
    exact p_has (bo_if (fun c => p_least (by rwa [if_neg c] at h)) (fun c => by rwa [if_pos c] at h))
theorem p_isOpening {post : Int32 → Prop} {x : Int32} (h1 : ∀ o, o < 4 → x = nI o → post 1) (h0 : (¬ ∃ o, o < 4 ∧ x = nI o) → post 0) : wp_X6_isOpening post x := by
  unfold wp_X6_isOpening
  refine ⟨fun c => h0 ?_, fun c => ?_⟩
  · rintro ⟨o, ho, rfl⟩
    exact nI_pos (by omega) c
  · obtain ⟨o, ho, rfl⟩ := nI_of c
    refine pk_le 4 o (fun q => h0 ?_) (fun q => h1 o q rfl)
    rintro ⟨o2, ho2, e⟩
    have := (nI_eq ho (by omega)).mp e
    omega
theorem p_isEnding {post : Int32 → Prop} {x : Int32} (h1 : ∀ o, o < 6 → x = nI o → post 1) (h0 : (¬ ∃ o, o < 6 ∧ x = nI o) → post 0) : wp_X6_isEnding post x := by
  unfold wp_X6_isEnding
  refine ⟨fun c => h0 ?_, fun c => ?_⟩
  · rintro ⟨o, ho, rfl⟩
    exact nI_pos (by omega) c
  · obtain ⟨o, ho, rfl⟩ := nI_of c
    refine pk_le 6 o (fun q => h0 ?_) (fun q => h1 o q rfl)
    rintro ⟨o2, ho2, e⟩
    have := (nI_eq ho (by omega)).mp e
    omega
theorem p_isSpeaker {post : Int32 → Prop} {v : Nat → Int32} {f : Nat → Nat → Int32} {z : Int64} {N : Nat} (hN : v 7 = nI N) (hN4 : N ≤ 4) {x : Int32} (h1 : ∀ s, s < N → x = nI s → post 1) (h0 : (¬ ∃ s, s < N ∧ x = nI s) → post 0) : wp_X6_isSpeaker post v f z x := by
  unfold wp_X6_isSpeaker
  refine ⟨fun c => h0 ?_, fun c => ?_⟩
  · rintro ⟨o, ho, rfl⟩
    exact nI_pos (by omega) c
  · obtain ⟨o, ho, rfl⟩ := nI_of c
    refine pk_le N o (fun q => h0 ?_) (fun q => h1 o q rfl) hN
    rintro ⟨o2, ho2, e⟩
    have := (nI_eq ho (by omega)).mp e
    omega
theorem p_isSentence {post : Int32 → Prop} {v : Nat → Int32} {f : Nat → Nat → Int32} {z : Int64} {m : Nat} (hm : v 8 = nI m) (hm8 : m ≤ 8) {x : Int32} (h1 : ∀ s, s < m → x = nI s → post 1) (h0 : (¬ ∃ s, s < m ∧ x = nI s) → post 0) : wp_X6_isSentence post v f z x := by
  unfold wp_X6_isSentence
  refine ⟨fun c => h0 ?_, fun c => ?_⟩
  · rintro ⟨o, ho, rfl⟩
    exact nI_pos (by omega) c
  · obtain ⟨o, ho, rfl⟩ := nI_of c
    refine pk_le m o (fun q => h0 ?_) (fun q => h1 o q rfl) hm
    rintro ⟨o2, ho2, e⟩
    have := (nI_eq ho (by omega)).mp e
    omega
theorem p_isOpen {post : Int32 → Prop} {v : Nat → Int32} {f : Nat → Nat → Int32} {z : Int64} {k : Nat} (hk : k < 8) (h1 : f 10 k = -1 → post 1) (h0 : ¬ f 10 k = -1 → post 0) : wp_X4_isOpen post v f z (nI k) := by
  unfold wp_X4_isOpen
  rw [nI_clamp (by omega)]
  exact ⟨vp_in_nI hk (by omega), h1, h0⟩
/-- it is as who began it wants -/
def g_asW (f : Nat → Nat → Int32) (k : Nat) : Prop := ¬ f 10 k = -1 ∧ f 11 k = f 7 (f 8 k).toNatClampNeg
theorem p_isAsWanted {post : Int32 → Prop} {v : Nat → Int32} {f : Nat → Nat → Int32} {z : Int64} {k : Nat} (hk : k < 8) (hb : Rg 4 (f 8 k)) (h1 : g_asW f k → post 1) (h0 : ¬ g_asW f k → post 0) : wp_X4_isAsWanted post v f z (nI k) := by
  unfold wp_X4_isAsWanted
  rw [nI_clamp (by omega)]
  refine p_isOpen hk (fun c => br_f (by decide) (h0 (fun q => q.1 c))) (fun c => br_t rfl ⟨vp_in_nI hk (by omega), vp_in_nI hk (by omega), hb.in (by omega), fun q => h1 ⟨c, q⟩, fun q => h0 (fun y => q y.2)⟩)
theorem p_openOf {post : Int32 → Prop} {v : Nat → Int32} {f : Nat → Nat → Int32} {z : Int64} {m : Nat} (hm : v 8 = nI m) (hm8 : m ≤ 8) {a : Int32} (h : post (g_fst (fun k => g_b (f 8 k = a ∧ f 10 k = -1)) m 0)) : wp_X4_openOf post v f z a := by
  have key : ∀ j i, i + j = m → g_fst (fun k => g_b (f 8 k = a ∧ f 10 k = -1)) j i = g_fst (fun k => g_b (f 8 k = a ∧ f 10 k = -1)) m 0 → wp_X4_openOf_B2 post v f z (j + 1) a (nI i) := by
    intro j
    induction j with
    | zero =>
      intro i hi e
      rw [wp_X4_openOf_B2]
      refine pk_le m i (fun _ => ?_) (fun q => absurd q (by omega)) hm
      rw [← e] at h
      exact h
    | succ j ih =>
      intro i hi e
      rw [wp_X4_openOf_B2, nI_clamp (by omega), nI_1]
      have stop : g_b (f 8 i = a ∧ f 10 i = -1) = true → post (nI i) := fun c => by
        have e2 : nI i = _ := by rw [← e, g_fst, if_pos c]
        rw [e2]
        rw [← e] at h
        exact h
      have go : ¬ g_b (f 8 i = a ∧ f 10 i = -1) = true → wp_X4_openOf_B2 post v f z (j + 1) a (nI (i + 1)) := fun c => ih (i + 1) (by omega) (by rw [← e, g_fst, if_neg c])
      refine pk_le m i (fun q => absurd q (by omega)) (fun _ => ⟨vp_in_nI (by omega) (by omega), fun c => ?_, fun c => go (g_bf (fun q => c q.1))⟩) hm
      exact p_isOpen (by omega) (fun d => br_f (by decide) (stop (g_bt ⟨c, d⟩))) (fun d => br_t rfl (go (g_bf (fun q => d q.2))))
  unfold wp_X4_openOf
  exact ⟨m + 1, key m 0 (by omega) rfl⟩
/-- which endings one used, by the sentences that he ended -/
def g_used (e g : Nat → Int32) (s : Int32) : Nat → Int32
  | 0 => 0
  | k + 1 => if e k = s then g_used e g s k ||| ((1 : Int32) <<< (g k &&& 31)) else g_used e g s k
theorem p_usedBy {post : Int32 → Prop} {v : Nat → Int32} {f : Nat → Nat → Int32} {z : Int64} {m : Nat} (hm : v 8 = nI m) (hm8 : m ≤ 8) {a : Int32} (h : post (g_used (f 10) (f 11) a m)) : wp_X4_usedBy post v f z a := by
  have key : ∀ j i, i + j = m → wp_X4_usedBy_B4 post v f z (j + 1) a (g_used (f 10) (f 11) a i) (nI i) := by
    intro j
    induction j with
    | zero =>
      intro i hi
      obtain rfl : i = m := by omega
      rw [wp_X4_usedBy_B4]
      exact pk_le i i (fun _ => h) (fun q => absurd q (by omega)) hm
    | succ j ih =>
      intro i hi
      rw [wp_X4_usedBy_B4, nI_clamp (by omega), nI_1]
      refine pk_le m i (fun q => absurd q (by omega)) (fun _ => ⟨vp_in_nI (by omega) (by omega), fun c => ⟨vp_in_nI (by omega) (by omega), ?_⟩, fun c => ?_⟩) hm
      · have := ih (i + 1) (by omega)
        rwa [g_used, if_pos c] at this
      · have := ih (i + 1) (by omega)
        rwa [g_used, if_neg c] at this
  unfold wp_X4_usedBy
  exact ⟨m + 1, key m 0 (by omega)⟩
theorem p_begunBy {post : Int32 → Prop} {v : Nat → Int32} {f : Nat → Nat → Int32} {z : Int64} {m : Nat} (hm : v 8 = nI m) (hm8 : m ≤ 8) {a : Int32} (h : post (nI (g_cnt (fun k => g_b (f 8 k = a)) m))) : wp_X4_howManyBegunBy post v f z a := by
  have key : ∀ j i, i + j = m → wp_X4_howManyBegunBy_B4 post v f z (j + 1) a (nI (g_cnt (fun k => g_b (f 8 k = a)) i)) (nI i) := by
    intro j
    induction j with
    | zero =>
      intro i hi
      obtain rfl : i = m := by omega
      rw [wp_X4_howManyBegunBy_B4]
      exact pk_le i i (fun _ => h) (fun q => absurd q (by omega)) hm
    | succ j ih =>
      intro i hi
      rw [wp_X4_howManyBegunBy_B4, nI_clamp (by omega), nI_1, nI_1, nI_a0]
      have := ih (i + 1) (by omega)
      refine pk_le m i (fun q => absurd q (by omega)) (fun _ => ⟨vp_in_nI (by omega) (by omega), fun c => ?_, fun c => ?_⟩) hm
      · rwa [g_cnt, if_pos (g_bt c)] at this
      · rwa [g_cnt, if_neg (g_bf c)] at this
  unfold wp_X4_howManyBegunBy
  exact ⟨m + 1, key m 0 (by omega)⟩
theorem p_endedBy {post : Int32 → Prop} {v : Nat → Int32} {f : Nat → Nat → Int32} {z : Int64} {m : Nat} (hm : v 8 = nI m) (hm8 : m ≤ 8) {a : Int32} (h : post (nI (g_cnt (fun k => g_b (f 10 k = a)) m))) : wp_X4_howManyEndedBy post v f z a := by
  have key : ∀ j i, i + j = m → wp_X4_howManyEndedBy_B4 post v f z (j + 1) a (nI (g_cnt (fun k => g_b (f 10 k = a)) i)) (nI i) := by
    intro j
    induction j with
    | zero =>
      intro i hi
      obtain rfl : i = m := by omega
      rw [wp_X4_howManyEndedBy_B4]
      exact pk_le i i (fun _ => h) (fun q => absurd q (by omega)) hm
    | succ j ih =>
      intro i hi
      rw [wp_X4_howManyEndedBy_B4, nI_clamp (by omega), nI_1, nI_1, nI_a0]
      have := ih (i + 1) (by omega)
      refine pk_le m i (fun q => absurd q (by omega)) (fun _ => ⟨vp_in_nI (by omega) (by omega), fun c => ?_, fun c => ?_⟩) hm
      · rwa [g_cnt, if_pos (g_bt c)] at this
      · rwa [g_cnt, if_neg (g_bf c)] at this
  unfold wp_X4_howManyEndedBy
  exact ⟨m + 1, key m 0 (by omega)⟩
theorem p_wantedMany {post : Int32 → Prop} {v : Nat → Int32} {f : Nat → Nat → Int32} {z : Int64} {m : Nat} (hm : v 8 = nI m) (hm8 : m ≤ 8) (hb : ∀ k, k < m → Rg 4 (f 8 k)) (h : post (nI (g_cnt (fun k => g_b (g_asW f k)) m))) : wp_X4_howManyAsWanted post v f z := by
  have key : ∀ j i, i + j = m → wp_X4_howManyAsWanted_B4 post v f z (j + 1) (nI (g_cnt (fun k => g_b (g_asW f k)) i)) (nI i) := by
    intro j
    induction j with
    | zero =>
      intro i hi
      obtain rfl : i = m := by omega
      rw [wp_X4_howManyAsWanted_B4]
      exact pk_le i i (fun _ => h) (fun q => absurd q (by omega)) hm
    | succ j ih =>
      intro i hi
      rw [wp_X4_howManyAsWanted_B4, nI_1, nI_1, nI_a0]
      have := ih (i + 1) (by omega)
      refine pk_le m i (fun q => absurd q (by omega)) (fun _ => p_isAsWanted (by omega) (hb i (by omega)) (fun c => br_f (by decide) ?_) (fun c => br_t rfl ?_)) hm
      · rwa [g_cnt, if_pos (g_bt c)] at this
      · rwa [g_cnt, if_neg (g_bf c)] at this
  unfold wp_X4_howManyAsWanted
  exact ⟨m + 1, key m 0 (by omega)⟩
/-- all that any of the first n used -/
def g_usedAll (e g : Nat → Int32) (m : Nat) : Nat → Int32
  | 0 => 0
  | n + 1 => g_usedAll e g m n ||| g_used e g (nI n) m
theorem p_unlike {post : Int32 → Prop} {v : Nat → Int32} {f : Nat → Nat → Int32} {z : Int64} {m : Nat} (hm : v 8 = nI m) (hm8 : m ≤ 8) (h : wp_J6_bitCount_0f7a4 post (g_usedAll (f 10) (f 11) m 4)) : wp_X4_howManyUnlikeEndings post v f z := by
  have key : ∀ j i, i + j = 4 → wp_X4_howManyUnlikeEndings_B4 post v f z (j + 1) (g_usedAll (f 10) (f 11) m i) (nI i) := by
    intro j
    induction j with
    | zero =>
      intro i hi
      obtain rfl : i = 4 := by omega
      rw [wp_X4_howManyUnlikeEndings_B4]
      exact pk_le 4 4 (fun _ => h) (fun q => absurd q (by omega))
    | succ j ih =>
      intro i hi
      rw [wp_X4_howManyUnlikeEndings_B4, nI_1]
      exact pk_le 4 i (fun q => absurd q (by omega)) (fun _ => p_usedBy hm hm8 (ih (i + 1) (by omega)))
  unfold wp_X4_howManyUnlikeEndings
  exact ⟨5, key 4 0 rfl⟩
/-- how a speaker ends an opening, by what each used -/
def g_now (f : Nat → Nat → Int32) (u : Nat → Int32) (s o : Nat) : Int32 := g_end (f 5 s) (f 4 o) (f 7 s) (u s)
def g_uX (f : Nat → Nat → Int32) (m : Nat) (s : Nat) : Int32 := g_used (f 10) (f 11) (nI s) m
theorem p_endingNow {post : Int32 → Prop} {v : Nat → Int32} {f : Nat → Nat → Int32} {z : Int64} {m : Nat} (hm : v 8 = nI m) (hm8 : m ≤ 8) {s o : Nat} (hs : s < 4) (ho : o < 4) (h : post (g_now f (g_uX f m) s o)) : wp_X6_endingNow post v f z (nI s) (nI o) := by
  unfold wp_X6_endingNow
  rw [nI_clamp (by omega), nI_clamp (by omega)]
  exact ⟨vp_in_nI hs (by omega), vp_in_nI ho (by omega), vp_in_nI hs (by omega), p_usedBy hm hm8 (p_endingBy h)⟩
