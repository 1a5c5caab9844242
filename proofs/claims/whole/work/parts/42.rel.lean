/-! class and reference hold the same -/
def Sc (f : Nat → Nat → Int32) (N m h : Nat) (w : Nat → Int32) (g : Nat → Nat → Int32) : Prop := WF f N m h ∧ RY f (g_uX f m) N m h w g
def EqF (f2 f : Nat → Nat → Int32) : Prop := (∀ j, j < 4 → f2 4 j = f 4 j ∧ f2 5 j = f 5 j ∧ f2 7 j = f 7 j) ∧ ∀ j, j < 8 → (f2 8 j = f 8 j ∧ f2 9 j = f 9 j ∧ f2 10 j = f 10 j ∧ f2 11 j = f 11 j) ∧ f2 12 j = f 12 j ∧ f2 13 j = f 13 j ∧ f2 14 j = f 14 j
def EqG (g2 g : Nat → Nat → Int32) : Prop := (∀ j, j < 4 → g2 3 j = g 3 j) ∧ (∀ j, j < 12 → g2 4 j = g 4 j) ∧ (∀ j, j < 32 → g2 5 j = g 5 j) ∧ ∀ j, j < 24 → g2 8 j = g 8 j
theorem used_cong {e g e2 g2 : Nat → Int32} {s : Int32} : ∀ {m : Nat}, (∀ k, k < m → e2 k = e k ∧ g2 k = g k) → g_used e2 g2 s m = g_used e g s m
  | 0, _ => rfl
  | m + 1, h => by
    unfold g_used
    rw [used_cong (m := m) (fun k hk => h k (by omega)), (h m (by omega)).1, (h m (by omega)).2]
theorem Sc.cong {f f2 : Nat → Nat → Int32} {N m h : Nat} {w w2 : Nat → Int32} {g g2 : Nat → Nat → Int32} (hS : Sc f N m h w g) (hf : EqF f2 f) (hg : EqG g2 g) (hw : w2 6 = w 6 ∧ w2 9 = w 9 ∧ w2 10 = w 10) : Sc f2 N m h w2 g2 := by
  obtain ⟨⟨⟨a1, a2, a3⟩, b1, b2, b3, b4, b5⟩, c1, c2, c3, c4, c5⟩ := hS
  obtain ⟨f1, f3⟩ := hf
  obtain ⟨g1, g3, g4, g5⟩ := hg
  obtain ⟨w1, w3, w4⟩ := hw
  refine ⟨⟨⟨a1, a2, a3⟩, fun q o ho => ?_, fun s hs => ?_, fun k hk => ?_, fun i j hi hj => ?_, fun i hi => ?_⟩, ?_, fun q o ho => ?_, fun s hs => ?_, fun k hk => ?_, fun i hi => ?_⟩
  · rw [(f1 o ho).1]
    exact b1 q o ho
  · rw [(f1 s (by omega)).2.1, (f1 s (by omega)).2.2]
    exact b2 s hs
  · obtain ⟨⟨e1, e2, e3, e4⟩, -⟩ := f3 k (by omega)
    rw [e1, e2, e3, e4]
    exact b3 k hk
  · obtain ⟨⟨e1, e2, e3, e4⟩, -⟩ := f3 i (by omega)
    obtain ⟨⟨d1, d2, d3, d4⟩, -⟩ := f3 j (by omega)
    rw [e1, e3, d1, d3]
    exact b4 i j hi hj
  · obtain ⟨-, e1, e2, e3⟩ := f3 i (by omega)
    rw [e1, e2, e3]
    exact b5 i hi
  · rw [w1, w3, w4]
    exact c1
  · rw [g1 o ho, (f1 o ho).1]
    exact c2 q o ho
  · rw [g3 _ (by omega), g3 _ (by omega), g3 _ (by omega), (f1 s (by omega)).2.1, (f1 s (by omega)).2.2]
    have e : g_uX f2 m s = g_uX f m s := used_cong (fun k hk => ⟨(f3 k (by omega)).1.2.2.1, (f3 k (by omega)).1.2.2.2⟩)
    rw [e]
    exact c3 s hs
  · obtain ⟨⟨e1, e2, e3, e4⟩, -⟩ := f3 k (by omega)
    rw [g4 _ (by omega), g4 _ (by omega), g4 _ (by omega), g4 _ (by omega), e1, e2, e3, e4]
    exact c4 k hk
  · obtain ⟨-, e1, e2, e3⟩ := f3 i (by omega)
    rw [g5 _ (by omega), g5 _ (by omega), g5 _ (by omega), e1, e2, e3]
    exact c5 i hi
theorem EqF.of {f f2 : Nat → Nat → Int32} (h : ∀ i, 4 ≤ i → i ≠ 6 → i ≤ 14 → f2 i = f i) : EqF f2 f :=
  ⟨fun j _ => ⟨by rw [h 4 (by decide) (by decide) (by decide)], by rw [h 5 (by decide) (by decide) (by decide)], by rw [h 7 (by decide) (by decide) (by decide)]⟩, fun j _ => ⟨⟨by rw [h 8 (by decide) (by decide) (by decide)], by rw [h 9 (by decide) (by decide) (by decide)], by rw [h 10 (by decide) (by decide) (by decide)], by rw [h 11 (by decide) (by decide) (by decide)]⟩, by rw [h 12 (by decide) (by decide) (by decide)], by rw [h 13 (by decide) (by decide) (by decide)], by rw [h 14 (by decide) (by decide) (by decide)]⟩⟩
theorem EqG.of {g g2 : Nat → Nat → Int32} (h : ∀ i, i = 3 ∨ i = 4 ∨ i = 5 ∨ i = 8 → g2 i = g i) : EqG g2 g := ⟨fun j _ => by rw [h 3 (by decide)], fun j _ => by rw [h 4 (by decide)], fun j _ => by rw [h 5 (by decide)], fun j _ => by rw [h 8 (by decide)]⟩
/-- the image, seen as the scene -/
def fi (f : Nat → Nat → Int32) : Nat → Nat → Int32 := fun i => if i = 4 ∨ i = 5 then f i else f (i + 8)
def gi (g : Nat → Nat → Int32) : Nat → Nat → Int32 := fun i => if i = 4 then g 11 else if i = 5 then g 12 else if i = 8 then g 13 else g i
def wi (w : Nat → Int32) : Nat → Int32 := fun i => if i = 9 then w 13 else if i = 10 then w 15 else w i
def Im (r N : Nat) (v : Nat → Int32) (f : Nat → Nat → Int32) (w : Nat → Int32) (g : Nat → Nat → Int32) : Prop := (v 0 = 0 ∧ (w 12 = -1 ∨ ∃ q, q < r ∧ w 12 = nI q)) ∨ (v 0 = 1 ∧ w 12 = nI r ∧ v 13 = w 14 ∧ ∃ m2 h2, v 11 = nI m2 ∧ v 12 = nI h2 ∧ Sc (fi f) N m2 h2 (wi w) (gi g))
theorem Im.cong {r N : Nat} {v v2 : Nat → Int32} {f f2 : Nat → Nat → Int32} {w w2 : Nat → Int32} {g g2 : Nat → Nat → Int32} (h : Im r N v f w g) (hv : ∀ i, i = 0 ∨ (11 ≤ i ∧ i ≤ 13) → v2 i = v i) (hf : ∀ i, i = 4 ∨ i = 5 ∨ (15 ≤ i ∧ i ≤ 22) → f2 i = f i) (hw : ∀ i, i = 6 ∨ (12 ≤ i ∧ i ≤ 15) → w2 i = w i) (hg : ∀ i, i = 3 ∨ (11 ≤ i ∧ i ≤ 13) → g2 i = g i) : Im r N v2 f2 w2 g2 := by
  unfold Im
  rw [hv 0 (by decide), hv 11 (by decide), hv 12 (by decide), hv 13 (by decide), hw 12 (by decide), hw 14 (by decide)]
  rcases h with h | ⟨h1, h2, h3, m2, h2', h4, h5, h6⟩
  · exact Or.inl h
  · refine Or.inr ⟨h1, h2, h3, m2, h2', h4, h5, h6.cong (EqF.of (fun i i1 i2 i3 => ?_)) (EqG.of (fun i hi => ?_)) ⟨?_, ?_, ?_⟩⟩
    · unfold fi
      split
      · exact hf i (by omega)
      · exact hf (i + 8) (by omega)
    · unfold gi
      rcases hi with rfl | rfl | rfl | rfl
      · exact hg 3 (by decide)
      · exact hg 11 (by decide)
      · exact hg 12 (by decide)
      · exact hg 13 (by decide)
    · exact hw 6 (by decide)
    · exact hw 13 (by decide)
    · exact hw 15 (by decide)
def Pg (n : Nat) (v : Nat → Int32) (f : Nat → Nat → Int32) (w : Nat → Int32) (g : Nat → Nat → Int32) : Prop := (v 2 = nI n ∧ w 0 = nI n ∧ n ≤ 30) ∧ ∃ C : Nat → Nat, ∀ i, i < n → (f 0 i = nI (C i) ∧ C i < 127) ∧ g 0 i = nI (C i) ∧ C i < 127
def Nu (N m h : Nat) (v : Nat → Int32) : Prop := v 7 = nI N ∧ v 8 = nI m ∧ v 9 = nI h
def Rel (k : Nat) (v : Nat → Int32) (f : Nat → Nat → Int32) (w : Nat → Int32) (g : Nat → Nat → Int32) : Prop := ∃ n N m h r, Pg n v f w g ∧ Nu N m h v ∧ Sc f N m h w g ∧ v 10 = w 7 ∧ (v 1 = nI r ∧ w 8 = nI r ∧ r ≤ k) ∧ Im r N v f w g
theorem Pg.cong {n : Nat} {v v2 : Nat → Int32} {f f2 : Nat → Nat → Int32} {w w2 : Nat → Int32} {g g2 : Nat → Nat → Int32} (h : Pg n v f w g) (hv : v2 2 = v 2) (hf : f2 0 = f 0) (hw : w2 0 = w 0) (hg : g2 0 = g 0) : Pg n v2 f2 w2 g2 := by
  unfold Pg
  rw [hv, hf, hw, hg]
  exact h
/-- what lies beside changes nothing -/
theorem Rel.keep {k : Nat} {v v2 : Nat → Int32} {f f2 : Nat → Nat → Int32} {w w2 : Nat → Int32} {g g2 : Nat → Nat → Int32} (hR : Rel k v f w g) (hv : ∀ i, (i < 3 ∨ 6 < i) → i < 14 → v2 i = v i) (hf : ∀ i, i = 0 ∨ (3 < i ∧ i < 23) → f2 i = f i) (hw : ∀ i, i = 0 ∨ (5 < i ∧ i ≠ 11) → w2 i = w i) (hg : ∀ i, i ≠ 1 → i ≠ 2 → i ≠ 6 → i ≠ 7 → i ≠ 9 → i ≠ 10 → g2 i = g i) : Rel (k + 1) v2 f2 w2 g2 := by
  obtain ⟨n, N, m, h, r, hP, hN, hS, hc, ⟨hr1, hr2, hr3⟩, hI⟩ := hR
  refine ⟨n, N, m, h, r, hP.cong (hv 2 (by decide) (by decide)) (hf 0 (by decide)) (hw 0 (by decide)) (hg 0 (by decide) (by decide) (by decide) (by decide) (by decide) (by decide)), ?_, hS.cong (EqF.of (fun i i1 i2 i3 => hf i (by omega))) (EqG.of (fun i hi => hg i (by omega) (by omega) (by omega) (by omega) (by omega) (by omega))) ⟨hw 6 (by decide), hw 9 (by decide), hw 10 (by decide)⟩, ?_, ⟨?_, ?_, by omega⟩, hI.cong (fun i hi => hv i (by omega) (by omega)) (fun i hi => hf i (by omega)) (fun i hi => hw i (by omega)) (fun i hi => hg i (by omega) (by omega) (by omega) (by omega) (by omega) (by omega))⟩
  · unfold Nu
    rw [hv 7 (by decide) (by decide), hv 8 (by decide) (by decide), hv 9 (by decide) (by decide)]
    exact hN
  · rw [hv 10 (by decide) (by decide), hw 7 (by decide)]
    exact hc
  · rw [hv 1 (by decide) (by decide)]
    exact hr1
  · rw [hw 8 (by decide)]
    exact hr2
theorem Rel.up {k : Nat} {v : Nat → Int32} {f : Nat → Nat → Int32} {w : Nat → Int32} {g : Nat → Nat → Int32} (hR : Rel k v f w g) : Rel (k + 1) v f w g := hR.keep (fun _ _ _ => rfl) (fun _ _ => rfl) (fun _ _ => rfl) (fun _ _ _ _ _ _ _ => rfl)
/-- a post of the class, a post of the reference -/
abbrev PX := Int32 → (Nat → Int32) → (Nat → Nat → Int32) → Int64 → Prop
def Hp (k : Nat) (P : Int32 → (Nat → Int32) → (Nat → Nat → Int32) → Int64 → PX) : Prop := ∀ r v f z w g y, Rel (k + 1) v f w g → P r v f z r w g y
theorem s_letter {k : Nat} {v : Nat → Int32} {f : Nat → Nat → Int32} {w : Nat → Int32} {g : Nat → Nat → Int32} {z y : Int64} {Q : PX} {P : Int32 → (Nat → Int32) → (Nat → Nat → Int32) → Int64 → PX} (hR : Rel k v f w g) {x : Int32} (hQ : ∀ r1 v1 f1 z1, wp_X7_letter (P r1 v1 f1 z1) w g y x → Q r1 v1 f1 z1) (hP : Hp k P) : wp_X6_letter Q v f z x := by
  have one : (1 : Int64).toInt = 1 := by decide
  have top : (126 : Int64).toInt = 126 := by decide
  obtain ⟨n, N, m, h, r, ⟨⟨hv2, hw0, hn30⟩, C, hC⟩, hN, hS, hc, ⟨hr1, hr2, hr3⟩, hI⟩ := id hR
  have out : ¬ (1 ≤ x.toInt ∧ x.toInt ≤ 126) → Q (-102) v f z := fun c => hQ _ _ _ _ (by
    unfold wp_X7_letter
    exact q_in (fun q1 q2 => absurd ⟨by rw [Int32.toInt_toInt64, one] at q1; exact q1, by rw [Int32.toInt_toInt64, top] at q2; exact q2⟩ c) (fun _ => br_t rfl (hP _ _ _ _ _ _ _ hR.up)))
  unfold wp_X6_letter
  refine ⟨fun c => out (fun q => ?_), fun c => ⟨fun d => ?_, fun d => out (fun q => d (Int32.le_iff_toInt_le.mpr q.2))⟩⟩
  · have := Int32.lt_iff_toInt_lt.mp c
    rw [show (1 : Int32).toInt = 1 from by decide] at this
    omega
  · have c1 : 1 ≤ x.toInt := by
      have : ¬ x.toInt < 1 := fun q => c (Int32.lt_iff_toInt_lt.mpr q)
      omega
    have d1 : x.toInt ≤ 126 := Int32.le_iff_toInt_le.mp d
    obtain ⟨a, ha, rfl⟩ : ∃ a, a < 127 ∧ x = nI a := ⟨x.toInt.toNat, by omega, of_toInt (by omega) (by omega)⟩
    have inn : ∀ {A : Int32 → Prop}, A 1 → wp_X7_in A (nI a).toInt64 1 126 := fun h => q_in (fun _ _ => h) (fun q => by
      rw [Int32.toInt_toInt64, one, top] at q
      omega)
    refine pk_lt n 30 (fun q => ?_) (fun q => hQ _ _ _ _ ?_) hv2
    · unfold wp_X1_add
      rw [hv2, nI_clamp (by omega), nI_1]
      refine pk_le 30 n (fun q2 => absurd q2 (by omega)) (fun _ => ⟨vp_in_nI (by omega) (by omega), hQ _ _ _ _ ?_⟩)
      unfold wp_X7_letter
      rw [hw0, nI_clamp (by omega), nI_1, pk_us]
      refine inn ⟨fun c => absurd c (by decide), fun _ => pk_eq n 30 (fun q2 => absurd q2 (by omega)) (fun _ => ⟨vp_in_nI (by omega) (by omega), hP _ _ _ _ _ _ _ ?_⟩)⟩
      refine ⟨n + 1, N, m, h, r, ⟨⟨pk_us, pk_us, by omega⟩, fun i => if i = n then a else C i, fun i hi => ?_⟩, hN, hS.cong (EqF.of (fun i i1 i2 i3 => up_ne (by omega))) (EqG.of (fun i hi => up_ne (by omega))) ⟨rfl, rfl, rfl⟩, hc, ⟨hr1, hr2, by omega⟩, hI.cong (fun i hi => pk_un (by omega)) (fun i hi => up_ne (by omega)) (fun i hi => pk_un (by omega)) (fun i hi => up_ne (by omega))⟩
      rw [up_eq, up_eq]
      by_cases e : i = n
      · rw [e, pk_us, pk_us]
        dsimp only
        rw [if_pos rfl]
        exact ⟨⟨rfl, ha⟩, rfl, ha⟩
      · rw [pk_un e, pk_un e]
        dsimp only
        rw [if_neg e]
        exact hC i (by omega)
    · unfold wp_X7_letter
      refine inn ⟨fun c => absurd c (by decide), fun _ => pk_eq n 30 (fun q2 => hP _ _ _ _ _ _ _ hR.up) (fun q2 => absurd q2 (by omega)) hw0⟩
theorem s_blank {k : Nat} {v : Nat → Int32} {f : Nat → Nat → Int32} {w : Nat → Int32} {g : Nat → Nat → Int32} {z y : Int64} {Q : PX} {P : Int32 → (Nat → Int32) → (Nat → Nat → Int32) → Int64 → PX} (hR : Rel k v f w g) (hQ : ∀ r1 v1 f1 z1, wp_X7_blank (P r1 v1 f1 z1) w g y → Q r1 v1 f1 z1) (hP : Hp k P) : wp_X6_blank Q v f z := by
  obtain ⟨n, N, m, h, r, ⟨⟨hv2, hw0, hn30⟩, C, hC⟩, hN, hS, hc, ⟨hr1, hr2, hr3⟩, hI⟩ := id hR
  unfold wp_X6_blank
  refine hQ _ _ _ _ ?_
  unfold wp_X7_blank
  rw [hv2, hw0]
  refine hP _ _ _ _ _ _ _ ⟨0, N, m, h, r, ⟨⟨pk_us, pk_us, by omega⟩, C, fun i hi => absurd hi (by omega)⟩, hN, hS.cong (EqF.of (fun _ _ _ _ => rfl)) (EqG.of (fun _ _ => rfl)) ⟨rfl, rfl, rfl⟩, hc, ⟨hr1, hr2, by omega⟩, hI.cong (fun i hi => pk_un (by omega)) (fun i hi => rfl) (fun i hi => pk_un (by omega)) (fun i hi => rfl)⟩
theorem s_fault {k : Nat} {v : Nat → Int32} {f : Nat → Nat → Int32} {w : Nat → Int32} {g : Nat → Nat → Int32} {z y : Int64} {Q : PX} {P : Int32 → (Nat → Int32) → (Nat → Nat → Int32) → Int64 → PX} (hR : Rel k v f w g) (hQ : ∀ r1 v1 f1 z1, wp_X7_fault (P r1 v1 f1 z1) w g y → Q r1 v1 f1 z1) (hP : Hp k P) : wp_X6_fault Q v f z := by
  obtain ⟨n, N, m, h, r, ⟨⟨hv2, hw0, hn30⟩, C, hC⟩, hN, hS, hc, ⟨hr1, hr2, hr3⟩, hI⟩ := id hR
  unfold wp_X6_fault
  refine p_read hv2 hn30 (fun i hi => (hC i hi).1) (fun v2 f2 hoff _ => hQ _ _ _ _ ?_)
  unfold wp_X7_fault
  refine q_faultOf hw0 hn30 (fun i hi => (hC i hi).2) (fun w2 g2 hoff2 _ => hP _ _ _ _ _ _ _ ?_)
  exact hR.keep (fun i h1 h2 => hoff.1 i (by omega) (by omega) (by omega) (by omega)) (fun i hi => hoff.2 i (by omega) (by omega) (by omega)) (fun i hi => hoff2.1 i (by omega) (by omega) (by omega) (by omega) (by omega)) (fun i i1 i2 _ _ _ _ => hoff2.2 i i1 i2)

theorem q_room51 {post : PX} {w : Nat → Int32} {g0 : Nat → Nat → Int32} {z : Int64} {t : Nat} {K W : Nat → Int32} (ht : t ≤ 4) (hw : w 6 = nI t) (hK : ∀ s, s < t → g0 2 (2 * s) = K s ∧ g0 2 (2 * s + 1) = W s) (hp : ∀ g : Nat → Nat → Int32, (∀ i, i ≠ 4 → g i = g0 i) → (∀ s, s < t → g 4 (3 * s) = K s ∧ g 4 (3 * s + 1) = W s ∧ g 4 (3 * s + 2) = 0) → post (nI t) (upd (upd (upd (upd (upd w 7 0) 9 0) 10 0) 8 (w 8 + 1)) 0 0) g z) : ∃ j9, wp_X7_room_B51 post j9 w g0 z 0 := by
  have key : ∀ j i, i + j = t → ∀ g : Nat → Nat → Int32, (∀ i, i ≠ 4 → g i = g0 i) → (∀ s, s < i → g 4 (3 * s) = K s ∧ g 4 (3 * s + 1) = W s ∧ g 4 (3 * s + 2) = 0) → wp_X7_room_B51 post (j + 1) w g z (nI i) := by
    intro j
    induction j with
    | zero =>
      intro i hi g hg hrow
      obtain rfl : i = t := by omega
      rw [wp_X7_room_B51]
      rw [hw]
      exact pk_le i i (fun _ => hp g hg hrow) (fun q => absurd q (by omega))
    | succ j ih =>
      intro i hi g hg hrow
      rw [wp_X7_room_B51, hw]
      simp (disch := omega) only [m2, m3, a2, nI_1, nI_clamp]
      refine pk_le t i (fun q => absurd q (by omega)) (fun _ => ⟨vp_in_nI (by omega) (by omega), vp_in_nI (by omega) (by omega), vp_in_nI (by omega) (by omega), vp_in_nI (by omega) (by omega), vp_in_nI (by omega) (by omega), ih (i + 1) (by omega) _ (fun k hk => ?_) (fun s hs => ?_)⟩)
      · rw [up_ne hk, up_ne hk, up_ne hk]
        exact hg k hk
      · rw [up_eq, hg 2 (by decide)]
        by_cases e : s = i
        · rw [e, pk_un (by omega), pk_un (by omega), pk_us, pk_un (by omega), pk_us, pk_us, (hK i (by omega)).1, (hK i (by omega)).2]
          exact ⟨rfl, rfl, rfl⟩
        · rw [pk_un (by omega), pk_un (by omega), pk_un (by omega), pk_un (by omega), pk_un (by omega), pk_un (by omega), pk_un (by omega), pk_un (by omega), pk_un (by omega)]
          exact hrow s (by omega)
  exact ⟨t + 1, key t 0 (by omega) g0 (fun _ _ => rfl) (fun s hs => by omega)⟩
theorem s_room {k : Nat} (hk : k < 1000) {v : Nat → Int32} {f : Nat → Nat → Int32} {w : Nat → Int32} {g : Nat → Nat → Int32} {z y : Int64} {Q : PX} {P : Int32 → (Nat → Int32) → (Nat → Nat → Int32) → Int64 → PX} (hR : Rel k v f w g) (hQ : ∀ r1 v1 f1 z1, wp_X7_room (P r1 v1 f1 z1) w g y → Q r1 v1 f1 z1) (hP : Hp k P) : wp_X6_room Q v f z := by
  obtain ⟨n, N, m, h, r, ⟨⟨hv2, hw0, hn30⟩, C, hC⟩, hN, hS, hc, ⟨hr1, hr2, hr3⟩, hI⟩ := id hR
  have hle := rd_go_le C n 0 rd_0
  have hok := rd_go_ok C n 0 rd_0 rd_0_ok
  unfold wp_X6_room
  refine p_read hv2 hn30 (fun i hi => (hC i hi).1) (fun v2 f2 hoff hX => ?_)
  have back : ∀ w2 g2, rd_offY w w2 g g2 → Rel (k + 1) v2 f2 w2 g2 := fun w2 g2 hoff2 => hR.keep (fun i h1 h2 => hoff.1 i (by omega) (by omega) (by omega) (by omega)) (fun i hi => hoff.2 i (by omega) (by omega) (by omega)) (fun i hi => hoff2.1 i (by omega) (by omega) (by omega) (by omega) (by omega)) (fun i i1 i2 _ _ _ _ => hoff2.2 i i1 i2)
  have e2 : v2 2 = nI n := (hoff.1 2 (by decide) (by decide) (by decide) (by decide)).trans hv2
  have bad : (¬ (rd_go C n 0 rd_0).1 = n ∨ ¬ (2 ≤ (rd_go C n 0 rd_0).2.2.2.2.1 ∧ (rd_go C n 0 rd_0).2.2.1 = 2)) → Q (-103) v2 f2 z := by
    intro no
    refine hQ _ _ _ _ ?_
    unfold wp_X7_room
    refine q_faultOf hw0 hn30 (fun i hi => (hC i hi).2) (fun w2 g2 hoff2 hY => ?_)
    have d2 : w2 0 = nI n := (hoff2.1 0 (by decide) (by decide) (by decide) (by decide) (by decide)).trans hw0
    have fin := hP (-103) v2 f2 z w2 g2 y (back w2 g2 hoff2)
    refine pk_lt _ n (fun q => fin) (fun q => ?_) rfl d2
    have hfn : (rd_go C n 0 rd_0).1 = n := by omega
    have hY := hY hfn
    rcases hres : rd_go C n 0 rd_0 with ⟨a, p, c, l, t, F, K, W⟩
    rw [hres] at hY hok no
    obtain ⟨y1, yo, ys, -, -, -⟩ := hY
    have no : ¬ (2 ≤ t ∧ c = 2) := by
      rcases no with w | w
      · rw [hres] at hfn
        exact absurd hfn w
      · exact w
    by_cases hp4 : p < 4
    · exact br_f (by rw [(yo hp4).2.2]; decide) fin
    · have := hok.1.1
      obtain ⟨y4, y5⟩ := ys (by omega)
      have ht4 : t ≤ 4 := hok.1.2.1
      have hc3 : c ≤ 3 := hok.1.2.2
      exact pk_eq c 2 (fun e => pk_le 2 t (fun e3 => absurd ⟨e3, e⟩ no) (fun _ => fin) rfl y4) (fun _ => fin) y5
  refine pk_lt _ n (fun q => bad (Or.inl (by omega))) (fun q => ?_) rfl e2
  have hfn : (rd_go C n 0 rd_0).1 = n := by omega
  have hX := hX hfn
  rcases hres : rd_go C n 0 rd_0 with ⟨a, p, c, l, t, F, K, W⟩
  rw [hres] at hX hok bad hfn
  obtain ⟨⟨x3, x4, x5, x6⟩, xF, xK, xW⟩ := hX
  have ht4 : t ≤ 4 := hok.1.2.1
  have hc3 : c ≤ 3 := hok.1.2.2
  unfold wp_X2_hasWholeRoom
  refine pk_lt t 2 (fun q => br_t rfl (bad (Or.inr (fun e => absurd e.1 (by show ¬ 2 ≤ t; omega))))) (fun q => pk_eq c 2 (fun e => br_f (by decide) ?_) (fun e => br_t rfl (bad (Or.inr (fun e2 => e e2.2)))) x4) x6
  have hp4 : p = 4 := by
    have h1 := hok.1.1
    have h2 := hok.2.1
    by_cases w : p < 4
    · have := (h2 w).1
      omega
    · omega
  unfold wp_X3_copyFrom wp_X4_start
  refine hQ _ _ _ _ ?_
  unfold wp_X7_room
  refine q_faultOf hw0 hn30 (fun i hi => (hC i hi).2) (fun w2 g2 hoff2 hY => ?_)
  rw [hres] at hY
  obtain ⟨y1, -, ys, yF, yK, yW⟩ := hY hfn
  obtain ⟨y4, y5⟩ := ys hp4
  have d2 : w2 0 = nI n := (hoff2.1 0 (by decide) (by decide) (by decide) (by decide) (by decide)).trans hw0
  rw [hres]
  refine pk_lt a n (fun q => absurd q (by show ¬ a < n; have : a = n := hfn; omega)) (fun _ => pk_eq c 2 (fun _ => pk_le 2 t (fun _ => ?_) (fun q2 => absurd q2 (by omega)) rfl y4) (fun q2 => absurd e q2) y5) rfl d2
  refine q_room51 (K := K) (W := W) (t := t) ht4 (by rw [pk_us]; exact y4) (fun s hs => ?_) (fun g3 hg3 hrow => ?_)
  · rw [up_ne (by decide)]
    exact ⟨yK s (Or.inl hs), yW s hs⟩
  · have e7 : ∀ a b c d e f g h i j : Int32, upd (upd (upd (upd (upd (upd (upd v2 7 a) 8 b) 9 c) 10 d) 0 e) 1 f) 2 g 7 = a := fun a b c d e f g h i j => by rw [pk_un (by decide), pk_un (by decide), pk_un (by decide), pk_un (by decide), pk_un (by decide), pk_un (by decide), pk_us]
    have e7' : upd (upd (upd (upd v2 7 (v2 6)) 8 0) 9 0) 10 0 7 = nI t := by rw [pk_un (by decide), pk_un (by decide), pk_un (by decide), pk_us, x6]
    have e1' : upd (upd (upd (upd v2 7 (v2 6)) 8 0) 9 0) 10 0 1 = nI r := by
      rw [pk_un (by decide), pk_un (by decide), pk_un (by decide), pk_un (by decide), hoff.1 1 (by decide) (by decide) (by decide) (by decide)]
      exact hr1
    have e8 : upd w2 6 (w2 4) 8 = nI r := by
      rw [pk_un (by decide), hoff2.1 8 (by decide) (by decide) (by decide) (by decide) (by decide)]
      exact hr2
    rw [e7', e1', e8, nI_1]
    refine hP _ _ _ _ _ _ _ ⟨0, t, 0, 0, r + 1, ⟨⟨pk_us, pk_us, by omega⟩, C, fun i hi => absurd hi (by omega)⟩, ⟨?_, ?_, ?_⟩, ⟨⟨⟨ht4, by omega, by omega⟩, fun _ o ho => ?_, fun s hs => ?_, fun k hk => absurd hk (by omega), fun i j hi => absurd hi (by omega), fun i hi => absurd hi (by omega)⟩, ⟨?_, ?_, ?_⟩, fun _ o ho => ?_, fun s hs => ?_, fun k hk => absurd hk (by omega), fun i hi => absurd hi (by omega)⟩, ?_, ⟨?_, ?_, by omega⟩, Or.inl ⟨?_, ?_⟩⟩
    · rw [pk_un (by decide), pk_un (by decide), pk_un (by decide), e7']
    · rw [pk_un (by decide), pk_un (by decide), pk_un (by decide), pk_un (by decide), pk_un (by decide), pk_us]
      rfl
    · rw [pk_un (by decide), pk_un (by decide), pk_un (by decide), pk_un (by decide), pk_us]
      rfl
    · rw [up_ne (by decide), up_ne (by decide), up_ne (by decide), up_eq, pk_cpy_in (by omega) (by omega), Nat.zero_add, Nat.sub_zero, xF o ho]
      exact hok.2.2.2.1 o ho
    · rw [up_ne (by decide), up_ne (by decide), up_eq, up_eq, up_eq, pk_cpy_in (by omega) (by omega), pk_cpy_in (by omega) (by omega), pk_cpy_in (by omega) (by omega), Nat.zero_add, Nat.sub_zero, Nat.zero_add, Nat.sub_zero, xW s hs, xK s (Or.inl hs)]
      exact ⟨hok.2.2.2.2.1 s (Or.inl hs), hok.2.2.2.2.2 s hs⟩
    · rw [pk_un (by decide), pk_un (by decide), pk_un (by decide), pk_un (by decide), pk_un (by decide), pk_us]
      exact y4
    · rw [pk_un (by decide), pk_un (by decide), pk_un (by decide), pk_us]
      rfl
    · rw [pk_un (by decide), pk_un (by decide), pk_us]
      rfl
    · rw [hg3 3 (by decide), up_eq, pk_cpy_in (by omega) (by omega), up_ne (by decide), up_ne (by decide), up_ne (by decide), up_eq, pk_cpy_in (by omega) (by omega), Nat.zero_add, Nat.sub_zero, xF o ho]
      exact yF o ho (Or.inl (by omega))
    · rw [up_ne (by decide), up_ne (by decide), up_eq, up_eq, up_eq, pk_cpy_in (by omega) (by omega), pk_cpy_in (by omega) (by omega), pk_cpy_in (by omega) (by omega), Nat.zero_add, Nat.sub_zero, Nat.zero_add, Nat.sub_zero, up_ne (by decide), up_ne (by decide), xW s hs, xK s (Or.inl hs)]
      exact hrow s hs
    · rw [pk_un (by decide), pk_un (by decide), pk_un (by decide), pk_us, pk_un (by decide), pk_un (by decide), pk_un (by decide), pk_un (by decide), pk_us]
    · rw [pk_un (by decide), pk_us]
    · rw [pk_un (by decide), pk_us]
    · rw [pk_un (by decide), pk_un (by decide), pk_us]
    · rw [pk_un (by decide), pk_un (by decide), pk_un (by decide), pk_un (by decide), pk_un (by decide), pk_un (by decide), hoff2.1 12 (by decide) (by decide) (by decide) (by decide) (by decide)]
      rcases hI with ⟨-, h1 | ⟨q, hq, h1⟩⟩ | ⟨-, h1, -⟩
      · exact Or.inl h1
      · exact Or.inr ⟨q, by omega, h1⟩
      · exact Or.inr ⟨r, by omega, h1⟩
