/-! the page is read, letter by letter, told once -/
/-- part, letters of it, last letter, speakers, fitting, kinds, wants -/
abbrev RS := Nat × Nat × Nat × Nat × (Nat → Int32) × (Nat → Int32) × (Nat → Int32)
def rd_sepOf (p : Nat) : Nat := if p < 3 then 44 else 59
def rd_step : RS → Nat → Option RS
  | (p, c, l, t, F, K, W), k =>
    if p < 4 then
      if 0 < c ∧ k = rd_sepOf p then some (p + 1, 0, 0, t, F, K, W)
      else if c < 3 ∧ 97 ≤ k ∧ k < 103 ∧ l < k then some (p, c + 1, k, t, upd F p (F p ||| ((1 : Int32) <<< (nI (k - 97) &&& 31))), K, W)
      else none
    else if c = 0 then (if kIx (nI k) = -1 then none else some (p, 1, 0, t, F, upd K t (kIx (nI k)), W))
    else if c = 1 then (if 97 ≤ k ∧ k < 103 then some (p, 2, 0, t + 1, F, K, upd W t (nI (k - 97))) else none)
    else if k = 44 ∧ t < 4 then some (p, 0, 0, t, F, K, W) else none
theorem rd_sep {p c l t : Nat} {F K W : Nat → Int32} {k : Nat} (h1 : p < 4) (h2 : 0 < c ∧ k = rd_sepOf p) : rd_step (p, c, l, t, F, K, W) k = some (p + 1, 0, 0, t, F, K, W) := by
  unfold rd_step
  dsimp only
  rw [if_pos h1, if_pos h2]
theorem rd_let {p c l t : Nat} {F K W : Nat → Int32} {k : Nat} (h1 : p < 4) (h2 : ¬ (0 < c ∧ k = rd_sepOf p)) (h3 : c < 3 ∧ 97 ≤ k ∧ k < 103 ∧ l < k) : rd_step (p, c, l, t, F, K, W) k = some (p, c + 1, k, t, upd F p (F p ||| ((1 : Int32) <<< (nI (k - 97) &&& 31))), K, W) := by
  unfold rd_step
  dsimp only
  rw [if_pos h1, if_neg h2, if_pos h3]
theorem rd_no1 {p c l t : Nat} {F K W : Nat → Int32} {k : Nat} (h1 : p < 4) (h2 : ¬ (0 < c ∧ k = rd_sepOf p)) (h3 : ¬ (c < 3 ∧ 97 ≤ k ∧ k < 103 ∧ l < k)) : rd_step (p, c, l, t, F, K, W) k = none := by
  unfold rd_step
  dsimp only
  rw [if_pos h1, if_neg h2, if_neg h3]
theorem rd_kind {p c l t : Nat} {F K W : Nat → Int32} {k : Nat} (h1 : ¬ p < 4) (h2 : c = 0) (h3 : ¬ kIx (nI k) = -1) : rd_step (p, c, l, t, F, K, W) k = some (p, 1, 0, t, F, upd K t (kIx (nI k)), W) := by
  unfold rd_step
  dsimp only
  rw [if_neg h1, if_pos h2, if_neg h3]
theorem rd_no2 {p c l t : Nat} {F K W : Nat → Int32} {k : Nat} (h1 : ¬ p < 4) (h2 : c = 0) (h3 : kIx (nI k) = -1) : rd_step (p, c, l, t, F, K, W) k = none := by
  unfold rd_step
  dsimp only
  rw [if_neg h1, if_pos h2, if_pos h3]
theorem rd_want {p c l t : Nat} {F K W : Nat → Int32} {k : Nat} (h1 : ¬ p < 4) (h2 : c = 1) (h3 : 97 ≤ k ∧ k < 103) : rd_step (p, c, l, t, F, K, W) k = some (p, 2, 0, t + 1, F, K, upd W t (nI (k - 97))) := by
  unfold rd_step
  dsimp only
  rw [if_neg h1, if_neg (by omega), if_pos h2, if_pos h3]
theorem rd_no3 {p c l t : Nat} {F K W : Nat → Int32} {k : Nat} (h1 : ¬ p < 4) (h2 : c = 1) (h3 : ¬ (97 ≤ k ∧ k < 103)) : rd_step (p, c, l, t, F, K, W) k = none := by
  unfold rd_step
  dsimp only
  rw [if_neg h1, if_neg (by omega), if_pos h2, if_neg h3]
theorem rd_next {p c l t : Nat} {F K W : Nat → Int32} {k : Nat} (h1 : ¬ p < 4) (h2 : 1 < c) (h3 : k = 44 ∧ t < 4) : rd_step (p, c, l, t, F, K, W) k = some (p, 0, 0, t, F, K, W) := by
  unfold rd_step
  dsimp only
  rw [if_neg h1, if_neg (by omega), if_neg (by omega), if_pos h3]
theorem rd_no4 {p c l t : Nat} {F K W : Nat → Int32} {k : Nat} (h1 : ¬ p < 4) (h2 : 1 < c) (h3 : ¬ (k = 44 ∧ t < 4)) : rd_step (p, c, l, t, F, K, W) k = none := by
  unfold rd_step
  dsimp only
  rw [if_neg h1, if_neg (by omega), if_neg (by omega), if_neg h3]
def rd_ok : RS → Prop
  | (p, c, l, t, F, K, W) => (p ≤ 4 ∧ t ≤ 4 ∧ c ≤ 3) ∧ (p < 4 → t = 0 ∧ (∀ o, o < 4 → p < o ∨ (o = p ∧ c = 0) → F o = 0) ∧ (c = 0 → l = 0) ∧ (0 < c → 97 ≤ l ∧ l < 103)) ∧ (p = 4 → l = 0 ∧ c ≤ 2 ∧ (c < 2 → t < 4)) ∧ (∀ o, o < 4 → Rg 64 (F o)) ∧ (∀ s, s < t ∨ (s = t ∧ p = 4 ∧ c = 1) → Rg 5 (K s)) ∧ ∀ s, s < t → Rg 6 (W s)
theorem kIx_rg (x : Int32) : kIx x = -1 ∨ Rg 5 (kIx x) := by
  unfold kIx
  split
  · exact Or.inr ⟨0, by omega, rfl⟩
  · split
    · exact Or.inr ⟨1, by omega, rfl⟩
    · split
      · exact Or.inr ⟨2, by omega, rfl⟩
      · split
        · exact Or.inr ⟨3, by omega, rfl⟩
        · split
          · exact Or.inr ⟨4, by omega, rfl⟩
          · exact Or.inl rfl
theorem rd_ok_step {st st2 : RS} {k : Nat} (hok : rd_ok st) (h : rd_step st k = some st2) : rd_ok st2 := by
  obtain ⟨p, c, l, t, F, K, W⟩ := st
  obtain ⟨⟨hp, ht, hc⟩, ho, hs, hF, hK, hW⟩ := hok
  by_cases h1 : p < 4
  · obtain ⟨t0, f0, l0, l1⟩ := ho h1
    by_cases h2 : 0 < c ∧ k = rd_sepOf p
    · rw [rd_sep h1 h2] at h
      obtain rfl := Option.some.inj h
      refine ⟨⟨by omega, ht, by omega⟩, fun q => ⟨t0, fun o ho c => f0 o ho (Or.inl (by omega)), fun _ => rfl, fun q => absurd q (by omega)⟩, fun _ => ⟨rfl, by omega, fun _ => by omega⟩, hF, fun s q => absurd q (by omega), hW⟩
    · by_cases h3 : c < 3 ∧ 97 ≤ k ∧ k < 103 ∧ l < k
      · rw [rd_let h1 h2 h3] at h
        obtain rfl := Option.some.inj h
        refine ⟨⟨by omega, ht, by omega⟩, fun q => ⟨t0, fun o ho c => ?_, fun c => absurd c (by omega), fun q => ⟨h3.2.1, h3.2.2.1⟩⟩, fun q => absurd q (by omega), fun o ho => ?_, fun s q => absurd q (by omega), hW⟩
        · rw [pk_un (by omega)]
          exact f0 o ho (Or.inl (by omega))
        · by_cases e : o = p
          · rw [e, pk_us]
            exact (hF p (by omega)).or6 ⟨k - 97, by omega, rfl⟩
          · rw [pk_un e]
            exact hF o ho
      · rw [rd_no1 h1 h2 h3] at h
        exact absurd h (by simp)
  · obtain rfl : p = 4 := by omega
    obtain ⟨l0, c2, ct⟩ := hs rfl
    rcases (by omega : c = 0 ∨ c = 1 ∨ 1 < c) with e | e | e
    · by_cases h3 : kIx (nI k) = -1
      · rw [rd_no2 h1 e h3] at h
        exact absurd h (by simp)
      · rw [rd_kind h1 e h3] at h
        obtain rfl := Option.some.inj h
        refine ⟨⟨by omega, ht, by omega⟩, fun q => absurd q (by omega), fun _ => ⟨rfl, by omega, fun _ => ct (by omega)⟩, hF, fun s q => ?_, hW⟩
        by_cases es : s = t
        · rw [es, pk_us]
          exact (kIx_rg _).resolve_left h3
        · rw [pk_un es]
          exact hK s (Or.inl (by omega))
    · by_cases h3 : 97 ≤ k ∧ k < 103
      · rw [rd_want h1 e h3] at h
        obtain rfl := Option.some.inj h
        have := ct (by omega)
        refine ⟨⟨by omega, by omega, by omega⟩, fun q => absurd q (by omega), fun _ => ⟨rfl, by omega, fun q => absurd q (by omega)⟩, hF, fun s q => hK s (by omega), fun s q => ?_⟩
        by_cases es : s = t
        · rw [es, pk_us]
          exact ⟨k - 97, by omega, rfl⟩
        · rw [pk_un es]
          exact hW s (by omega)
      · rw [rd_no3 h1 e h3] at h
        exact absurd h (by simp)
    · by_cases h3 : k = 44 ∧ t < 4
      · rw [rd_next h1 e h3] at h
        obtain rfl := Option.some.inj h
        exact ⟨⟨by omega, by omega, by omega⟩, fun q => absurd q (by omega), fun _ => ⟨rfl, by omega, fun q => h3.2⟩, hF, fun s q => hK s (by omega), hW⟩
      · rw [rd_no4 h1 e h3] at h
        exact absurd h (by simp)
theorem nb0 : nb 0 := rfl
theorem nb1 : nb 1 := rfl
theorem sub97 : ∀ k, k < 127 → ∀ o, o < 6 → (nI k - 97 = nI o ↔ k = o + 97) := by decide +kernel
theorem low16 : ∀ k, k < 127 → ((nI k).toUInt32 % 65536).toInt32 = nI k := by decide +kernel
def rd_X : RS → (Nat → Int32) → (Nat → Nat → Int32) → Prop
  | (p, c, l, t, F, K, W), v, f => (v 3 = nI p ∧ v 4 = nI c ∧ v 5 = nI l ∧ v 6 = nI t) ∧ (∀ o, o < 4 → f 1 o = F o) ∧ (∀ s, s < t ∨ (s = t ∧ p = 4 ∧ c = 1) → f 2 s = K s) ∧ ∀ s, s < t → f 3 s = W s
def rd_offX (v v2 : Nat → Int32) (f f2 : Nat → Nat → Int32) : Prop := (∀ i, i ≠ 3 → i ≠ 4 → i ≠ 5 → i ≠ 6 → v2 i = v i) ∧ ∀ i, i ≠ 1 → i ≠ 2 → i ≠ 3 → f2 i = f i
theorem rd_offX.rfl' {v : Nat → Int32} {f : Nat → Nat → Int32} : rd_offX v v f f := ⟨fun _ _ _ _ _ => rfl, fun _ _ _ _ => rfl⟩
theorem p_takes {post : Int32 → (Nat → Int32) → (Nat → Nat → Int32) → Int64 → Prop} {v : Nat → Int32} {f : Nat → Nat → Int32} {z : Int64} {k : Nat} (hk : k < 127) {st : RS} (hok : rd_ok st) (hX : rd_X st v f) (h0 : rd_step st k = none → ∀ v2 f2, rd_offX v v2 f f2 → post 0 v2 f2 z) (h1 : ∀ st2, rd_step st k = some st2 → ∀ v2 f2, rd_offX v v2 f f2 → rd_X st2 v2 f2 → post 1 v2 f2 z) : wp_X2_takes post v f z (nI k) := by
  obtain ⟨p, c, l, t, F, K, W⟩ := st
  obtain ⟨⟨hp, ht, hc⟩, ho, hs, -, -, -⟩ := hok
  obtain ⟨⟨x3, x4, x5, x6⟩, xF, xK, xW⟩ := hX
  unfold wp_X2_takes
  refine pk_le 4 p (fun q => ?_) (fun q => ?_) rfl x3
  · have hp4 : ¬ p < 4 := by omega
    obtain ⟨l0, c2, ct⟩ := hs (by omega)
    unfold wp_X2_takesInSpeaker
    rw [x4, low16 k hk]
    refine ⟨fun e => ?_, fun e => ?_, fun e => ?_⟩
    · have e := (nI_eq (a := c) (b := 0) (by omega) (by omega)).mp e
      unfold wp_X2_takesKind
      rw [x6, x4, nI_clamp (by omega)]
      refine ⟨fun d => ⟨nb0, nb0, h0 (rd_no2 hp4 e ?_) v f rd_offX.rfl'⟩, fun d => ?_⟩
      · rcases kIx_rg (nI k) with w | ⟨j, hj, w⟩
        · exact w
        · rw [w] at d
          exact absurd d (nI_nlt (a := j) (b := 0) (by omega) (by omega))
      · have hr : ¬ kIx (nI k) = -1 := fun w => d (by rw [w]; decide)
        refine pk_lt t 4 (fun _ => ⟨vp_in_nI (by omega) (by omega), nb1, nb1, h1 _ (rd_kind hp4 e hr) _ _ ⟨fun i i1 i2 i3 i4 => pk_un i2, fun i i1 i2 i3 => up_ne i2⟩ ?_⟩) (fun w => absurd (ct (by omega)) (by omega))
        refine ⟨⟨?_, ?_, ?_, ?_⟩, fun o ho => ?_, fun s q => ?_, fun s q => ?_⟩
        · rw [pk_un (by decide), x3]
        · rw [pk_us, e]
          rfl
        · rw [pk_un (by decide), x5, l0]
        · rw [pk_un (by decide), x6]
        · rw [up_ne (by decide)]
          exact xF o ho
        · rw [up_eq]
          by_cases es : s = t
          · rw [es, pk_us, pk_us]
          · rw [pk_un es, pk_un es]
            exact xK s (Or.inl (by omega))
        · rw [up_ne (by decide)]
          exact xW s q
    · have e := (nI_eq (a := c) (b := 1) (by omega) (by omega)).mp e
      unfold wp_X2_takesWant
      rw [x6, x4, nI_clamp (by omega)]
      refine p_isEnding (fun o ho e2 => ⟨fun w => absurd w (by decide), fun _ => pk_lt t 4 (fun _ => ⟨vp_in_nI (by omega) (by omega), nb1, nb1, ?_⟩) (fun w => absurd (ct (by omega)) (by omega))⟩) (fun w => ⟨fun _ => ⟨nb0, nb0, h0 (rd_no3 hp4 e (fun r => w ⟨k - 97, by omega, (sub97 k hk _ (by omega)).mpr (by omega)⟩)) v f rd_offX.rfl'⟩, fun w => absurd rfl w⟩)
      have e3 := (sub97 k hk o ho).mp e2
      have e4 : o = k - 97 := by omega
      rw [e2, e4]
      refine h1 _ (rd_want hp4 e (by omega)) _ _ ⟨fun i i1 i2 i3 i4 => by rw [pk_un i2, pk_un i4], fun i i1 i2 i3 => up_ne i3⟩ ?_
      refine ⟨⟨?_, ?_, ?_, ?_⟩, fun o ho => ?_, fun s q => ?_, fun s q => ?_⟩
      · rw [pk_un (by decide), pk_un (by decide), x3]
      · rw [pk_us, e]
        rfl
      · rw [pk_un (by decide), pk_un (by decide), x5, l0]
      · rw [pk_un (by decide), pk_us, nI_1]
      · rw [up_ne (by decide)]
        exact xF o ho
      · rw [up_ne (by decide)]
        exact xK s (by omega)
      · rw [up_eq]
        by_cases es : s = t
        · rw [es, pk_us, pk_us]
        · rw [pk_un es, pk_un es]
          exact xW s (by omega)
    · have e : 1 < c := by
        rw [nI_toInt (by omega)] at e
        omega
      unfold wp_X2_takesNextSpeaker
      refine pk_eq k 44 (fun e2 => pk_lt t 4 (fun e3 => ?_) (fun e3 => ⟨nb0, nb0, h0 (rd_no4 hp4 e (by omega)) v f rd_offX.rfl'⟩) x6) (fun e2 => ⟨nb0, nb0, h0 (rd_no4 hp4 e (by omega)) v f rd_offX.rfl'⟩)
      unfold wp_X2_startPart
      refine ⟨nb1, nb1, h1 _ (rd_next hp4 e ⟨e2, e3⟩) _ _ ⟨fun i i1 i2 i3 i4 => by rw [pk_un i3, pk_un i2], fun i i1 i2 i3 => rfl⟩ ?_⟩
      refine ⟨⟨?_, ?_, ?_, ?_⟩, xF, fun s q => xK s (by omega), xW⟩
      · rw [pk_un (by decide), pk_un (by decide), x3]
      · rw [pk_un (by decide), pk_us]
        rfl
      · rw [pk_us]
        rfl
      · rw [pk_un (by decide), pk_un (by decide), x6]
  · obtain ⟨t0, f0, l0, l1⟩ := ho q
    have b44 : ∀ P : Int32 → (Nat → Int32) → (Nat → Nat → Int32) → Int64 → Prop, (∀ r v f z, nb r → post r v f z → P r v f z) → ¬ (0 < c ∧ k = rd_sepOf p) → wp_X2_takesInOpening_B44 P v f z (nI k) := by
      intro P hP ns
      unfold wp_X2_takesInOpening_B44
      have no : ¬ (c < 3 ∧ 97 ≤ k ∧ k < 103 ∧ l < k) → P 0 v f z := fun w => hP _ _ _ _ nb0 (h0 (rd_no1 q ns w) v f rd_offX.rfl')
      refine pk_le 3 c (fun w => no (by omega)) (fun w => p_isEnding (fun o ho e2 => ⟨fun w => absurd w (by decide), fun _ => ?_⟩) (fun w => ⟨fun _ => no (fun r => w ⟨k - 97, by omega, (sub97 k hk _ (by omega)).mpr (by omega)⟩), fun w => absurd rfl w⟩)) rfl x4
      have e3 := (sub97 k hk o ho).mp e2
      have e4 : o = k - 97 := by omega
      refine pk_lt l k (fun w2 => ?_) (fun w2 => no (by omega)) x5 rfl
      rw [x3, nI_clamp (by omega), x4, nI_1, e2, e4, xF p q]
      refine ⟨vp_in_nI (by omega) (by omega), vp_in_nI (by omega) (by omega), hP _ _ _ _ nb1 (h1 _ (rd_let q ns ⟨w, by omega, by omega, w2⟩) _ _ ⟨fun i i1 i2 i3 i4 => by rw [pk_un i3, pk_un i2], fun i i1 i2 i3 => up_ne i1⟩ ?_)⟩
      refine ⟨⟨?_, ?_, ?_, ?_⟩, fun o ho => ?_, fun s q => absurd q (by omega), fun s q => absurd q (by omega)⟩
      · rw [pk_un (by decide), pk_un (by decide), x3]
      · rw [pk_un (by decide), pk_us]
      · rw [pk_us]
      · rw [pk_un (by decide), pk_un (by decide), x6]
      · rw [up_eq]
        by_cases e : o = p
        · rw [e, pk_us, pk_us]
        · rw [pk_un e, pk_un e]
          exact xF o ho
    have b15 : ∀ P : Int32 → (Nat → Int32) → (Nat → Nat → Int32) → Int64 → Prop, (∀ r v f z, nb r → post r v f z → P r v f z) → wp_X2_takesInOpening_B15 P v f z (nI k) (nI (rd_sepOf p)) := by
      intro P hP
      have hsl : rd_sepOf p < 100 := by
        unfold rd_sepOf
        split <;> omega
      unfold wp_X2_takesInOpening_B15
      refine pk_le c 0 (fun w => b44 P hP (by omega)) (fun w => pk_eq k (rd_sepOf p) (fun e => ?_) (fun e => b44 P hP (by omega))) x4
      unfold wp_X2_startPart
      rw [x3, nI_1]
      refine hP _ _ _ _ nb1 (h1 _ (rd_sep q ⟨w, e⟩) _ _ ⟨fun i i1 i2 i3 i4 => by rw [pk_un i3, pk_un i2, pk_un i1], fun i i1 i2 i3 => rfl⟩ ?_)
      refine ⟨⟨?_, ?_, ?_, ?_⟩, xF, fun s q => absurd q (by omega), fun s q => absurd q (by omega)⟩
      · rw [pk_un (by decide), pk_un (by decide), pk_us]
      · rw [pk_un (by decide), pk_us]
        rfl
      · rw [pk_us]
        rfl
      · rw [pk_un (by decide), pk_un (by decide), pk_un (by decide), x6]
    unfold wp_X2_takesInOpening
    refine pk_le 3 p (fun w => ?_) (fun w => ?_) rfl x3
    · have := b15 (fun r v f z => nb r ∧ post r v f z) (fun r v f z h1 h2 => ⟨h1, h2⟩)
      unfold rd_sepOf at this
      rw [if_neg (by omega)] at this
      exact this
    · have := b15 (fun r v f z => nb r ∧ post r v f z) (fun r v f z h1 h2 => ⟨h1, h2⟩)
      unfold rd_sepOf at this
      rw [if_pos w] at this
      exact this

def rd_go (C : Nat → Nat) : Nat → Nat → RS → Nat × RS
  | 0, i, s => (i, s)
  | j + 1, i, s => match rd_step s (C i) with
    | none => (i, s)
    | some s2 => rd_go C j (i + 1) s2
def rd_0 : RS := (0, 0, 0, 0, fun _ => 0, fun _ => 0, fun _ => 0)
theorem rd_go_n {C : Nat → Nat} {j i : Nat} {s : RS} (h : rd_step s (C i) = none) : rd_go C (j + 1) i s = (i, s) := by
  unfold rd_go
  rw [h]
theorem rd_go_s {C : Nat → Nat} {j i : Nat} {s s2 : RS} (h : rd_step s (C i) = some s2) : rd_go C (j + 1) i s = rd_go C j (i + 1) s2 := by
  rw [rd_go, h]
theorem rd_go_le (C : Nat → Nat) : ∀ j i s, (rd_go C j i s).1 ≤ i + j
  | 0, i, s => Nat.le_refl _
  | j + 1, i, s => by
    cases h : rd_step s (C i) with
    | none =>
      rw [rd_go_n h]
      exact Nat.le_add_right _ _
    | some s2 =>
      rw [rd_go_s h]
      have := rd_go_le C j (i + 1) s2
      omega
theorem rd_go_ok (C : Nat → Nat) : ∀ j i s, rd_ok s → rd_ok (rd_go C j i s).2
  | 0, i, s, hs => hs
  | j + 1, i, s, hs => by
    cases h : rd_step s (C i) with
    | none =>
      rw [rd_go_n h]
      exact hs
    | some s2 =>
      rw [rd_go_s h]
      exact rd_go_ok C j (i + 1) s2 (rd_ok_step hs h)
theorem rd_0_ok : rd_ok rd_0 := ⟨⟨by omega, by omega, by omega⟩, fun _ => ⟨rfl, fun _ _ _ => rfl, fun _ => rfl, fun q => absurd q (by omega)⟩, fun q => absurd q (by decide), fun o ho => ⟨0, by omega, rfl⟩, fun s q => absurd q (by omega), fun s q => absurd q (by omega)⟩
theorem p_clear {post : (Nat → Int32) → (Nat → Nat → Int32) → Int64 → Prop} {v : Nat → Int32} {f : Nat → Nat → Int32} {z : Int64} (hp : ∀ f2 : Nat → Nat → Int32, (∀ i, i ≠ 1 → f2 i = f i) → (∀ o, o < 4 → f2 1 o = 0) → post (upd v 6 0) f2 z) : wp_X3_clear post v f z := by
  have key : ∀ j i, i + j = 4 → ∀ f2 : Nat → Nat → Int32, (∀ i, i ≠ 1 → f2 i = f i) → (∀ o, o < i → f2 1 o = 0) → wp_X3_clear_B2 post (j + 1) v f2 z (nI i) := by
    intro j
    induction j with
    | zero =>
      intro i hi f2 hf h1
      obtain rfl : i = 4 := by omega
      rw [wp_X3_clear_B2]
      exact pk_le 4 4 (fun _ => hp f2 hf h1) (fun q => absurd q (by omega))
    | succ j ih =>
      intro i hi f2 hf h1
      rw [wp_X3_clear_B2, nI_clamp (by omega), nI_1]
      refine pk_le 4 i (fun q => absurd q (by omega)) (fun _ => ⟨vp_in_nI (by omega) (by omega), ih (i + 1) (by omega) _ (fun k hk => by rw [up_ne hk]; exact hf k hk) (fun o ho => ?_)⟩)
      rw [up_eq]
      by_cases e : o = i
      · rw [e, pk_us]
      · rw [pk_un e]
        exact h1 o (by omega)
  unfold wp_X3_clear
  exact ⟨5, key 4 0 rfl f (fun _ _ => rfl) (fun o ho => by omega)⟩
theorem p_read {post : Int32 → (Nat → Int32) → (Nat → Nat → Int32) → Int64 → Prop} {v : Nat → Int32} {f : Nat → Nat → Int32} {z : Int64} {n : Nat} {C : Nat → Nat} (hn : v 2 = nI n) (hn30 : n ≤ 30) (hC : ∀ i, i < n → f 0 i = nI (C i) ∧ C i < 127) (hp : ∀ v2 f2, rd_offX v v2 f f2 → ((rd_go C n 0 rd_0).1 = n → rd_X (rd_go C n 0 rd_0).2 v2 f2) → post (nI (rd_go C n 0 rd_0).1) v2 f2 z) : wp_X2_read post v f z := by
  have key : ∀ j i, i + j = n → ∀ st, rd_ok st → rd_go C j i st = rd_go C n 0 rd_0 → ∀ v2 f2, rd_offX v v2 f f2 → rd_X st v2 f2 → wp_X2_read_B18 post (j + 1) v2 f2 z (nI i) := by
    intro j
    induction j with
    | zero =>
      intro i hi st hok hgo v2 f2 hoff hX
      obtain rfl : i = n := by omega
      rw [wp_X2_read_B18]
      have e2 : v2 2 = nI i := (hoff.1 2 (by decide) (by decide) (by decide) (by decide)).trans hn
      rw [← hgo] at hp
      rw [e2]
      exact pk_le i i (fun _ => hp v2 f2 hoff (fun _ => hX)) (fun q => absurd q (by omega))
    | succ j ih =>
      intro i hi st hok hgo v2 f2 hoff hX
      rw [wp_X2_read_B18, nI_clamp (by omega), nI_1, hoff.2 0 (by decide) (by decide) (by decide), (hC i (by omega)).1]
      have e2 : v2 2 = nI n := (hoff.1 2 (by decide) (by decide) (by decide) (by decide)).trans hn
      refine pk_le n i (fun q => absurd q (by omega)) (fun _ => ⟨vp_in_nI (by omega) (by omega), p_takes (hC i (by omega)).2 hok hX (fun e v3 f3 ho3 => br_t rfl ?_) (fun st2 e v3 f3 ho3 hX3 => br_f (by decide) ?_)⟩) e2
      · have hoff' : rd_offX v v3 f f3 := ⟨fun i i1 i2 i3 i4 => (ho3.1 i i1 i2 i3 i4).trans (hoff.1 i i1 i2 i3 i4), fun i i1 i2 i3 => (ho3.2 i i1 i2 i3).trans (hoff.2 i i1 i2 i3)⟩
        rw [rd_go_n e] at hgo
        rw [← hgo] at hp
        exact hp v3 f3 hoff' (fun w => absurd w (by show ¬ i = n; omega))
      · have hoff' : rd_offX v v3 f f3 := ⟨fun i i1 i2 i3 i4 => (ho3.1 i i1 i2 i3 i4).trans (hoff.1 i i1 i2 i3 i4), fun i i1 i2 i3 => (ho3.2 i i1 i2 i3).trans (hoff.2 i i1 i2 i3)⟩
        rw [rd_go_s e] at hgo
        exact ih (i + 1) (by omega) st2 (rd_ok_step hok e) hgo v3 f3 hoff' hX3
  unfold wp_X2_read
  refine p_clear (fun f2 hf h1 => ?_)
  unfold wp_X2_startPart
  refine ⟨n + 1, key n 0 (by omega) rd_0 rd_0_ok rfl _ f2 ⟨fun i i1 i2 i3 i4 => by rw [pk_un i3, pk_un i2, pk_un i1, pk_un i4], fun i i1 i2 i3 => hf i i1⟩ ?_⟩
  refine ⟨⟨?_, ?_, ?_, ?_⟩, h1, fun s q => absurd q (by omega), fun s q => absurd q (by omega)⟩
  · rw [pk_un (by decide), pk_un (by decide), pk_us]
    rfl
  · rw [pk_un (by decide), pk_us]
    rfl
  · rw [pk_us]
    rfl
  · rw [pk_un (by decide), pk_un (by decide), pk_un (by decide), pk_us]
    rfl
