/-! the digest, told once -/
def dg_h (p : Nat → Int32) (z : Int64) : Nat → Int64
  | 0 => z
  | n + 1 => 31 * dg_h p z n + (p n).toInt64
theorem dg_cong {p q : Nat → Int32} {z : Int64} : ∀ {n : Nat}, (∀ k, k < n → p k = q k) → dg_h p z n = dg_h q z n
  | 0, _ => rfl
  | n + 1, h => by
    unfold dg_h
    rw [dg_cong (n := n) (fun k hk => h k (by omega)), h n (by omega)]
noncomputable def dg_s (f : Nat → Nat → Int32) (N m h : Nat) (z : Int64) : Nat → Int64
  | 0 => z
  | s + 1 => dg_h (g_now f (g_uX f m) s) (dg_h (g_ab f N m h s) (dg_s f N m h z s) 9) 4
noncomputable def dg_k (f : Nat → Nat → Int32) (z : Int64) : Nat → Int64
  | 0 => z
  | k + 1 => dg_h (g_se f k) (dg_k f z k) 5
noncomputable def dg_1 (f : Nat → Nat → Int32) (N m h : Nat) : Int64 := dg_s f N m h (dg_h (f 4) 1021 (if 0 < N then 4 else 0)) N
noncomputable def dg_2 (f : Nat → Nat → Int32) (N m h : Nat) : Int64 := dg_h (g_ma f N m) (dg_k f (dg_1 f N m h) m) (if 0 < N then 5 else 0)
noncomputable def dg_3 (f : Nat → Nat → Int32) (N m h n : Nat) : Int64 := dg_h (f 0) (dg_2 f N m h) n
noncomputable def dg_4 (f : Nat → Nat → Int32) (N m h n : Nat) (r c : Int32) : Int64 := dg_h (g_co f N m h r (nI n) c) (dg_3 f N m h n) 9
theorem WF.off {f g : Nat → Nat → Int32} {N m h : Nat} (hW : WF f N m h) (hg : ∀ i, i ≠ 23 → i ≠ 24 → g i = f i) : WF g N m h := by
  unfold WF
  rw [hg 4 (by decide) (by decide), hg 5 (by decide) (by decide), hg 7 (by decide) (by decide), hg 8 (by decide) (by decide), hg 9 (by decide) (by decide), hg 10 (by decide) (by decide), hg 11 (by decide) (by decide), hg 12 (by decide) (by decide), hg 13 (by decide) (by decide), hg 14 (by decide) (by decide)]
  exact hW
theorem ma_off {f g : Nat → Nat → Int32} (N m : Nat) (hg : ∀ i, i ≠ 23 → i ≠ 24 → g i = f i) : g_ma g N m = g_ma f N m := by
  have e : g_PB g (g_uX g m) N m = g_PB f (g_uX f m) N m := by
    funext s
    unfold g_PB
    congr 1
    funext k
    unfold g_plz g_now g_uX
    rw [hg 4 (by decide) (by decide), hg 5 (by decide) (by decide), hg 7 (by decide) (by decide), hg 8 (by decide) (by decide), hg 9 (by decide) (by decide), hg 10 (by decide) (by decide), hg 11 (by decide) (by decide)]
  funext k
  cases k with
  | zero =>
    unfold g_ma
    rw [e]
  | succ k =>
    unfold g_ma
    rw [e]
theorem co_off {f g : Nat → Nat → Int32} (N m h : Nat) (r p c : Int32) (hg : ∀ i, i ≠ 23 → i ≠ 24 → g i = f i) : g_co g N m h r p c = g_co f N m h r p c := by
  funext k
  unfold g_co g_unl g_asW
  rw [hg 7 (by decide) (by decide), hg 8 (by decide) (by decide), hg 10 (by decide) (by decide), hg 11 (by decide) (by decide)]
theorem p_digest {post : Int64 → (Nat → Int32) → (Nat → Nat → Int32) → Int64 → Prop} {v : Nat → Int32} {f : Nat → Nat → Int32} {z : Int64} {N m h n : Nat} (hW : WF f N m h) (hN : v 7 = nI N) (hm : v 8 = nI m) (hh : v 9 = nI h) (hn : v 2 = nI n) (hn30 : n ≤ 30) (hp : ∀ (v2 : Nat → Int32) (f2 : Nat → Nat → Int32), (∀ i, i ≠ 14 → v2 i = v i) → (∀ i, i ≠ 23 → i ≠ 24 → f2 i = f i) → post (dg_4 f N m h n (v 1) (v 10)) v2 f2 z) : wp_X6_digest post v f z := by
  have hN4 : N ≤ 4 := hW.1.1
  have hm8 : m ≤ 8 := hW.1.2.1
  have hh8 : h ≤ 8 := hW.1.2.2
  have b249 : ∀ (v2 : Nat → Int32) (f2 : Nat → Nat → Int32), (∀ i, i ≠ 14 → v2 i = v i) → (∀ i, i ≠ 23 → i ≠ 24 → f2 i = f i) → ∀ j i, i + j = 9 → wp_X6_digest_B249 post (j + 1) v2 f2 z (dg_h (g_co f N m h (v 1) (nI n) (v 10)) (dg_3 f N m h n) i) (nI i) := by
    intro v2 f2 hv hf j
    induction j with
    | zero =>
      intro i hi
      obtain rfl : i = 9 := by omega
      rw [wp_X6_digest_B249]
      exact pk_le 9 9 (fun _ => hp v2 f2 hv hf) (fun q => absurd q (by omega))
    | succ j ih =>
      intro i hi
      rw [wp_X6_digest_B249, nI_1]
      refine pk_le 9 i (fun q => absurd q (by omega)) (fun _ => p_count (hW.off hf) ((hv 7 (by decide)).trans hN) ((hv 8 (by decide)).trans hm) ((hv 9 (by decide)).trans hh) (fun k hk e => ?_) (fun c => absurd ⟨i, by omega, rfl⟩ c))
      obtain rfl := (nI_eq (a := i) (b := k) (by omega) (by omega)).mp e
      rw [co_off N m h _ _ _ hf, hv 1 (by decide), hv 2 (by decide), hv 10 (by decide), hn]
      exact ih (i + 1) (by omega)
  have b215 : ∀ (v2 : Nat → Int32) (f2 : Nat → Nat → Int32), (∀ i, i ≠ 14 → v2 i = v i) → (∀ i, i ≠ 23 → i ≠ 24 → f2 i = f i) → ∀ j i, i + j = n → wp_X6_digest_B215 post (j + 1) v2 f2 z (dg_h (f 0) (dg_2 f N m h) i) (nI i) := by
    intro v2 f2 hv hf j
    induction j with
    | zero =>
      intro i hi
      obtain rfl : i = n := by omega
      rw [wp_X6_digest_B215]
      exact pk_le i i (fun _ => ⟨10, b249 v2 f2 hv hf 9 0 rfl⟩) (fun q => absurd q (by omega)) ((hv 2 (by decide)).trans hn)
    | succ j ih =>
      intro i hi
      rw [wp_X6_digest_B215, nI_1, nI_clamp (by omega), hf 0 (by decide) (by decide)]
      exact pk_le n i (fun q => absurd q (by omega)) (fun _ => ⟨vp_in_nI (by omega) (by omega), ih (i + 1) (by omega)⟩) ((hv 2 (by decide)).trans hn)
  have b188 : 0 < N → ∀ j i, i + j = 4 → ∀ (v2 : Nat → Int32) (f2 : Nat → Nat → Int32), (∀ i, i ≠ 14 → v2 i = v i) → (∀ i, i ≠ 23 → i ≠ 24 → f2 i = f i) → wp_X6_digest_B188 post (j + 1) v2 f2 z (dg_h (g_ma f N m) (dg_k f (dg_1 f N m h) m) (i + 1)) (nI i) := by
    intro hN0 j
    induction j with
    | zero =>
      intro i hi v2 f2 hv hf
      obtain rfl : i = 4 := by omega
      rw [wp_X6_digest_B188]
      have go := b215 v2 f2 hv hf n 0 (by omega)
      unfold dg_2 at go
      rw [if_pos hN0] at go
      exact pk_le 4 4 (fun _ => ⟨n + 1, go⟩) (fun q => absurd q (by omega))
    | succ j ih =>
      intro i hi v2 f2 hv hf
      rw [wp_X6_digest_B188, nI_1, show (10 : Int32) + nI i = nI (10 + i) from nI_add 10 i]
      refine pk_le 4 i (fun q => absurd q (by omega)) (fun _ => p_match (hW.off hf) ((hv 7 (by decide)).trans hN) ((hv 8 (by decide)).trans hm) (fun _ c => absurd ⟨i, by omega, rfl⟩ c) (fun c => absurd c (by omega)) (fun _ v3 f3 hv3 hf3 => ⟨fun e => absurd ((nI_eq (a := 10 + i) (b := 0) (by omega) (by omega)).mp e) (by omega), fun s hs e => ?_⟩))
      obtain rfl : i = s := by
        have := (nI_eq (a := 10 + i) (b := 10 + s) (by omega) (by omega)).mp e
        omega
      rw [ma_off N m hf]
      exact ih (i + 1) (by omega) v3 f3 (fun k hk => (hv3 k hk).trans (hv k hk)) (fun k h1 h2 => (hf3 k h1 h2).trans (hf k h1 h2))
  have b134 : ∀ (K : (Nat → Int32) → (Nat → Nat → Int32) → Int64 → Int64 → Int32 → Prop) (k : Nat) (x : Int64), k < m → K v f z (dg_h (g_se f k) x 5) (nI (k + 1)) → ∀ j i, i + j = 5 → wp_X6_digest_B134 post K (j + 1) v f z (dg_h (g_se f k) x i) (nI k) (nI i) := by
    intro K k x hk hK j
    induction j with
    | zero =>
      intro i hi
      obtain rfl : i = 5 := by omega
      rw [wp_X6_digest_B134, nI_1]
      exact pk_le 5 5 (fun _ => hK) (fun q => absurd q (by omega))
    | succ j ih =>
      intro i hi
      rw [wp_X6_digest_B134, nI_1, nI_1]
      refine pk_le 5 i (fun q => absurd q (by omega)) (fun _ => p_sentence hm hm8 (fun k hk => (hW.2.2.2.1 k hk).1.mono hN4) (fun k' hk' e y hy e' => ?_) (fun k' hk' e c => absurd ⟨i, by omega, rfl⟩ c) (fun c => absurd ⟨k, hk, rfl⟩ c))
      obtain rfl := (nI_eq (a := k) (b := k') (by omega) (by omega)).mp e
      obtain rfl := (nI_eq (a := i) (b := y) (by omega) (by omega)).mp e'
      exact ih (i + 1) (by omega)
  have b120 : ∀ j i, i + j = m → wp_X6_digest_B120 post (j + 1) v f z (dg_k f (dg_1 f N m h) i) (nI i) := by
    intro j
    induction j with
    | zero =>
      intro i hi
      obtain rfl : i = m := by omega
      rw [wp_X6_digest_B120]
      refine pk_le i i (fun _ => pk_le N 0 (fun q => ⟨n + 1, ?_⟩) (fun q => ?_) hN) (fun q => absurd q (by omega)) hm
      · have go := b215 v f (fun _ _ => rfl) (fun _ _ _ => rfl) n 0 (by omega)
        unfold dg_2 at go
        rw [if_neg (by omega)] at go
        exact go
      · refine p_match hW hN hm (fun c => absurd rfl c) (fun c => absurd c (by omega)) (fun _ v2 f2 hv hf => ⟨fun _ => ⟨5, b188 (by omega) 4 0 rfl v2 f2 hv hf⟩, fun s hs e => absurd ((nI_eq (a := 0) (b := 10 + s) (by omega) (by omega)).mp e) (by omega)⟩)
    | succ j ih =>
      intro i hi
      rw [wp_X6_digest_B120]
      exact pk_le m i (fun q => absurd q (by omega)) (fun _ => ⟨6, b134 _ i _ (by omega) (ih (i + 1) (by omega)) 5 0 rfl⟩) hm
  have b87 : ∀ (K : (Nat → Int32) → (Nat → Nat → Int32) → Int64 → Int64 → Int32 → Prop) (s : Nat) (x : Int64), s < N → K v f z (dg_h (g_now f (g_uX f m) s) x 4) (nI (s + 1)) → ∀ j i, i + j = 4 → wp_X6_digest_B87 post K (j + 1) v f z (dg_h (g_now f (g_uX f m) s) x i) (nI s) (nI i) := by
    intro K s x hs hK j
    induction j with
    | zero =>
      intro i hi
      obtain rfl : i = 4 := by omega
      rw [wp_X6_digest_B87, nI_1]
      exact pk_le 4 4 (fun _ => hK) (fun q => absurd q (by omega))
    | succ j ih =>
      intro i hi
      rw [wp_X6_digest_B87, nI_1, nI_1]
      exact pk_le 4 i (fun q => absurd q (by omega)) (fun _ => p_endingNow hm hm8 (by omega) (by omega) (ih (i + 1) (by omega)))
  have b58 : ∀ (K : (Nat → Int32) → (Nat → Nat → Int32) → Int64 → Int64 → Int32 → Prop) (s : Nat) (x : Int64), s < N → K v f z (dg_h (g_now f (g_uX f m) s) (dg_h (g_ab f N m h s) x 9) 4) (nI (s + 1)) → ∀ j i, i + j = 9 → wp_X6_digest_B58 post K (j + 1) v f z (dg_h (g_ab f N m h s) x i) (nI s) (nI i) := by
    intro K s x hs hK j
    induction j with
    | zero =>
      intro i hi
      obtain rfl : i = 9 := by omega
      rw [wp_X6_digest_B58]
      exact pk_le 9 9 (fun _ => ⟨5, b87 K s _ hs hK 4 0 rfl⟩) (fun q => absurd q (by omega))
    | succ j ih =>
      intro i hi
      rw [wp_X6_digest_B58, nI_1]
      refine pk_le 9 i (fun q => absurd q (by omega)) (fun _ => p_about hN hN4 hm hm8 hh hh8 (fun i hi => (hW.2.2.2.2.2 i hi).2.1) (fun s' hs' e y hy e' => ?_) (fun k' hk' e c => absurd ⟨i, by omega, rfl⟩ c) (fun c => absurd ⟨s, hs, rfl⟩ c))
      obtain rfl := (nI_eq (a := s) (b := s') (by omega) (by omega)).mp e
      obtain rfl := (nI_eq (a := i) (b := y) (by omega) (by omega)).mp e'
      exact ih (i + 1) (by omega)
  have b44 : ∀ j i, i + j = N → wp_X6_digest_B44 post (j + 1) v f z (dg_s f N m h (dg_h (f 4) 1021 (if 0 < N then 4 else 0)) i) (nI i) := by
    intro j
    induction j with
    | zero =>
      intro i hi
      obtain rfl : i = N := by omega
      rw [wp_X6_digest_B44]
      exact pk_le i i (fun _ => ⟨m + 1, b120 m 0 (by omega)⟩) (fun q => absurd q (by omega)) hN
    | succ j ih =>
      intro i hi
      rw [wp_X6_digest_B44]
      exact pk_le N i (fun q => absurd q (by omega)) (fun _ => ⟨10, b58 _ i _ (by omega) (ih (i + 1) (by omega)) 9 0 rfl⟩) hN
  have b6 : 0 < N → ∀ j i, i + j = 4 → wp_X6_digest_B6 post (j + 1) v f z (dg_h (f 4) 1021 i) (nI i) := by
    intro hN0 j
    induction j with
    | zero =>
      intro i hi
      obtain rfl : i = 4 := by omega
      rw [wp_X6_digest_B6]
      have go := b44 N 0 (by omega)
      rw [if_pos hN0] at go
      exact pk_le N 0 (fun q => absurd q (by omega)) (fun _ => pk_le 4 4 (fun _ => ⟨N + 1, go⟩) (fun q => absurd q (by omega))) hN
    | succ j ih =>
      intro i hi
      rw [wp_X6_digest_B6, nI_1, nI_clamp (by omega)]
      exact pk_le N 0 (fun q => absurd q (by omega)) (fun _ => pk_le 4 i (fun q => absurd q (by omega)) (fun _ => ⟨vp_in_nI (by omega) (by omega), ih (i + 1) (by omega)⟩)) hN
  unfold wp_X6_digest
  by_cases hN0 : 0 < N
  · exact ⟨5, b6 hN0 4 0 rfl⟩
  · refine ⟨1, ?_⟩
    rw [wp_X6_digest_B6]
    have go := b44 N 0 (by omega)
    rw [if_neg hN0] at go
    exact pk_le N 0 (fun q => ⟨N + 1, go⟩) (fun q => absurd q (by omega)) hN
theorem q_saySpeaker {post : (Nat → Int32) → (Nat → Nat → Int32) → Int64 → Prop} {f : Nat → Nat → Int32} {N m h : Nat} {w : Nat → Int32} {g : Nat → Nat → Int32} {z : Int64} (hW : WF f N m h) (hR : RY f (g_uX f m) N m h w g) {s : Nat} (hs : s < N) (hp : ∀ g2 : Nat → Nat → Int32, (∀ k, k ≠ 9 → g2 k = g k) → post w g2 (dg_h (g_now f (g_uX f m) s) (dg_h (g_ab f N m h s) z 9) 4)) : wp_X7_saySpeaker post w g z (nI s) := by
  have keep : ∀ g2 : Nat → Nat → Int32, (∀ k, k ≠ 9 → g2 k = g k) → RY f (g_uX f m) N m h w g2 := fun g2 hg => hR.keep ⟨rfl, rfl, rfl⟩ ⟨hg 3 (by decide), hg 4 (by decide), hg 5 (by decide), hg 8 (by decide)⟩
  have b27 : ∀ g2 : Nat → Nat → Int32, (∀ k, k ≠ 9 → g2 k = g k) → ∀ j i, i + j = 4 → wp_X7_saySpeaker_B27 post (j + 1) w g2 (dg_h (g_now f (g_uX f m) s) (dg_h (g_ab f N m h s) z 9) i) (nI s) (nI i) := by
    intro g2 hg j
    induction j with
    | zero =>
      intro i hi
      obtain rfl : i = 4 := by omega
      rw [wp_X7_saySpeaker_B27]
      exact pk_le 4 4 (fun _ => hp g2 hg) (fun q => absurd q (by omega))
    | succ j ih =>
      intro i hi
      rw [wp_X7_saySpeaker_B27, nI_1]
      exact pk_le 4 i (fun q => absurd q (by omega)) (fun _ => q_wouldOf hW (keep g2 hg) hs (by omega) (ih (i + 1) (by omega)))
  have b2 : ∀ j i, i + j = 9 → ∀ g2 : Nat → Nat → Int32, (∀ k, k ≠ 9 → g2 k = g k) → wp_X7_saySpeaker_B2 post (j + 1) w g2 (dg_h (g_ab f N m h s) z i) (nI s) (nI i) := by
    intro j
    induction j with
    | zero =>
      intro i hi g2 hg
      obtain rfl : i = 9 := by omega
      rw [wp_X7_saySpeaker_B2]
      exact pk_le 9 9 (fun _ => ⟨5, b27 g2 hg 4 0 rfl⟩) (fun q => absurd q (by omega))
    | succ j ih =>
      intro i hi g2 hg
      rw [wp_X7_saySpeaker_B2, nI_1]
      refine pk_le 9 i (fun q => absurd q (by omega)) (fun _ => q_tell hW (keep g2 hg) hs (fun k hk e g3 hg3 => ?_) (fun c => absurd ⟨i, by omega, rfl⟩ c))
      obtain rfl := (nI_eq (a := i) (b := k) (by omega) (by omega)).mp e
      exact ih (i + 1) (by omega) g3 (fun k hk => (hg3 k hk).trans (hg k hk))
  unfold wp_X7_saySpeaker
  exact ⟨10, b2 9 0 rfl g (fun _ _ => rfl)⟩
theorem q_digest {post : Int64 → (Nat → Int32) → (Nat → Nat → Int32) → Int64 → Prop} {f : Nat → Nat → Int32} {N m h n : Nat} {w : Nat → Int32} {g : Nat → Nat → Int32} {z : Int64} (hW : WF f N m h) (hR : RY f (g_uX f m) N m h w g) (hn : w 0 = nI n) (hn30 : n ≤ 30) (hpg : ∀ i, i < n → g 0 i = f 0 i) (hp : ∀ (g2 : Nat → Nat → Int32) (z2 : Int64), (∀ i, i ≠ 6 → i ≠ 7 → i ≠ 9 → g2 i = g i) → post (dg_4 f N m h n (w 8) (w 7)) w g2 z2) : wp_X7_digest post w g z := by
  have hN4 : N ≤ 4 := hW.1.1
  have hm8 : m ≤ 8 := hW.1.2.1
  have hN : w 6 = nI N := hR.1.1
  have hm : w 9 = nI m := hR.1.2.1
  have keep : ∀ g2 : Nat → Nat → Int32, (∀ i, i ≠ 6 → i ≠ 7 → i ≠ 9 → g2 i = g i) → RY f (g_uX f m) N m h w g2 := fun g2 hg => hR.keep ⟨rfl, rfl, rfl⟩ ⟨hg 3 (by decide) (by decide) (by decide), hg 4 (by decide) (by decide) (by decide), hg 5 (by decide) (by decide) (by decide), hg 8 (by decide) (by decide) (by decide)⟩
  have b170 : ∀ g2 : Nat → Nat → Int32, (∀ i, i ≠ 6 → i ≠ 7 → i ≠ 9 → g2 i = g i) → ∀ j i, i + j = 9 → wp_X7_digest_B170 post (j + 1) w g2 (dg_h (g_co f N m h (w 8) (nI n) (w 7)) (dg_3 f N m h n) i) (nI i) := by
    intro g2 hg j
    induction j with
    | zero =>
      intro i hi
      obtain rfl : i = 9 := by omega
      rw [wp_X7_digest_B170]
      exact pk_le 9 9 (fun _ => hp g2 _ hg) (fun q => absurd q (by omega))
    | succ j ih =>
      intro i hi
      rw [wp_X7_digest_B170, nI_1]
      refine pk_le 9 i (fun q => absurd q (by omega)) (fun _ => q_countOf hW (keep g2 hg) rfl hn rfl (fun k hk e => ?_) (fun c => absurd ⟨i, by omega, rfl⟩ c))
      obtain rfl := (nI_eq (a := i) (b := k) (by omega) (by omega)).mp e
      exact ih (i + 1) (by omega)
  have b143 : ∀ g2 : Nat → Nat → Int32, (∀ i, i ≠ 6 → i ≠ 7 → i ≠ 9 → g2 i = g i) → ∀ j i, i + j = n → wp_X7_digest_B143 post (j + 1) w g2 (dg_h (f 0) (dg_2 f N m h) i) (nI i) := by
    intro g2 hg j
    induction j with
    | zero =>
      intro i hi
      obtain rfl : i = n := by omega
      rw [wp_X7_digest_B143]
      exact pk_le i i (fun _ => ⟨10, b170 g2 hg 9 0 rfl⟩) (fun q => absurd q (by omega)) hn
    | succ j ih =>
      intro i hi
      rw [wp_X7_digest_B143, nI_1, nI_clamp (by omega), hg 0 (by decide) (by decide) (by decide), hpg i (by omega)]
      exact pk_le n i (fun q => absurd q (by omega)) (fun _ => ⟨vp_in_nI (by omega) (by omega), ih (i + 1) (by omega)⟩) hn
  have b119 : 0 < N → ∀ j i, i + j = 4 → ∀ g2 : Nat → Nat → Int32, (∀ i, i ≠ 6 → i ≠ 7 → i ≠ 9 → g2 i = g i) → wp_X7_digest_B119 post (j + 1) w g2 (dg_h (g_ma f N m) (dg_k f (dg_1 f N m h) m) (i + 1)) (nI (10 + i)) := by
    intro hN0 j
    induction j with
    | zero =>
      intro i hi g2 hg
      obtain rfl : i = 4 := by omega
      rw [wp_X7_digest_B119]
      have go := b143 g2 hg n 0 (by omega)
      unfold dg_2 at go
      rw [if_pos hN0] at go
      exact pk_le 14 14 (fun _ => ⟨n + 1, go⟩) (fun q => absurd q (by omega))
    | succ j ih =>
      intro i hi g2 hg
      rw [wp_X7_digest_B119, nI_1]
      refine pk_le 14 (10 + i) (fun q => absurd q (by omega)) (fun _ => q_matchOf hW (keep g2 hg) hN0 (Or.inr ⟨i, by omega, rfl⟩) (fun g3 hg3 => ⟨fun e => absurd ((nI_eq (a := 10 + i) (b := 0) (by omega) (by omega)).mp e) (by omega), fun s hs e => ?_⟩))
      obtain rfl : i = s := by
        have := (nI_eq (a := 10 + i) (b := 10 + s) (by omega) (by omega)).mp e
        omega
      exact ih (i + 1) (by omega) g3 (fun k h1 h2 h3 => (hg3 k h1 h2).trans (hg k h1 h2 h3))
  have b71 : ∀ (g2 : Nat → Nat → Int32), (∀ i, i ≠ 6 → i ≠ 7 → i ≠ 9 → g2 i = g i) → ∀ (K : (Nat → Int32) → (Nat → Nat → Int32) → Int64 → Int32 → Prop) (k : Nat) (x : Int64), k < m → K w g2 (dg_h (g_se f k) x 5) (nI (k + 1)) → ∀ j i, i + j = 5 → wp_X7_digest_B71 post K (j + 1) w g2 (dg_h (g_se f k) x i) (nI k) (nI i) := by
    intro g2 hg K k x hk hK j
    induction j with
    | zero =>
      intro i hi
      obtain rfl : i = 5 := by omega
      rw [wp_X7_digest_B71, nI_1]
      exact pk_le 5 5 (fun _ => hK) (fun q => absurd q (by omega))
    | succ j ih =>
      intro i hi
      rw [wp_X7_digest_B71, nI_1, nI_1]
      refine pk_le 5 i (fun q => absurd q (by omega)) (fun _ => q_tellSentence hW (keep g2 hg) hk (fun y hy e' => ?_) (fun c => absurd ⟨i, by omega, rfl⟩ c))
      obtain rfl := (nI_eq (a := i) (b := y) (by omega) (by omega)).mp e'
      exact ih (i + 1) (by omega)
  have b61 : ∀ (g2 : Nat → Nat → Int32), (∀ i, i ≠ 6 → i ≠ 7 → i ≠ 9 → g2 i = g i) → ∀ j i, i + j = m → wp_X7_digest_B61 post (j + 1) w g2 (dg_k f (dg_1 f N m h) i) (nI i) := by
    intro g2 hg j
    induction j with
    | zero =>
      intro i hi
      obtain rfl : i = m := by omega
      rw [wp_X7_digest_B61]
      refine pk_le i i (fun _ => q_lacks hN hN4 (fun q => br_f (by decide) ⟨n + 1, ?_⟩) (fun q => br_t rfl ?_)) (fun q => absurd q (by omega)) hm
      · have go := b143 g2 hg n 0 (by omega)
        unfold dg_2 at go
        rw [if_neg (by omega)] at go
        exact go
      · refine q_matchOf hW (keep g2 hg) q (Or.inl rfl) (fun g3 hg3 => ⟨fun _ => ⟨5, b119 q 4 0 rfl g3 (fun k h1 h2 h3 => (hg3 k h1 h2).trans (hg k h1 h2 h3))⟩, fun s hs e => absurd ((nI_eq (a := 0) (b := 10 + s) (by omega) (by omega)).mp e) (by omega)⟩)
    | succ j ih =>
      intro i hi
      rw [wp_X7_digest_B61]
      exact pk_le m i (fun q => absurd q (by omega)) (fun _ => ⟨6, b71 g2 hg _ i _ (by omega) (ih (i + 1) (by omega)) 5 0 rfl⟩) hm
  have b40 : ∀ j i, i + j = N → ∀ (g2 : Nat → Nat → Int32), (∀ i, i ≠ 6 → i ≠ 7 → i ≠ 9 → g2 i = g i) → wp_X7_digest_B40 post (j + 1) w g2 (dg_s f N m h (dg_h (f 4) 1021 (if 0 < N then 4 else 0)) i) (nI i) := by
    intro j
    induction j with
    | zero =>
      intro i hi g2 hg
      obtain rfl : i = N := by omega
      rw [wp_X7_digest_B40]
      exact pk_le i i (fun _ => ⟨m + 1, b61 g2 hg m 0 (by omega)⟩) (fun q => absurd q (by omega)) hN
    | succ j ih =>
      intro i hi g2 hg
      rw [wp_X7_digest_B40, nI_1]
      exact pk_le N i (fun q => absurd q (by omega)) (fun _ => q_saySpeaker hW (keep g2 hg) (by omega) (fun g3 hg3 => ih (i + 1) (by omega) g3 (fun k h1 h2 h3 => (hg3 k h3).trans (hg k h1 h2 h3)))) hN
  have b9 : 0 < N → ∀ j i, i + j = 4 → wp_X7_digest_B9 post (j + 1) w g (dg_h (f 4) 1021 i) (nI i) := by
    intro hN0 j
    induction j with
    | zero =>
      intro i hi
      obtain rfl : i = 4 := by omega
      rw [wp_X7_digest_B9]
      have go := b40 N 0 (by omega) g (fun _ _ _ _ => rfl)
      rw [if_pos hN0] at go
      exact pk_le 4 4 (fun _ => ⟨N + 1, go⟩) (fun q => absurd q (by omega))
    | succ j ih =>
      intro i hi
      rw [wp_X7_digest_B9, nI_1, nI_clamp (by omega), hR.2.1 hN0 i (by omega)]
      exact pk_le 4 i (fun q => absurd q (by omega)) (fun _ => q_lacks hN hN4 (fun q => absurd q (by omega)) (fun q => br_t rfl ⟨vp_in_nI (by omega) (by omega), ih (i + 1) (by omega)⟩))
  unfold wp_X7_digest
  by_cases hN0 : 0 < N
  · exact ⟨5, b9 hN0 4 0 rfl⟩
  · refine ⟨1, ?_⟩
    rw [wp_X7_digest_B9]
    have go := b40 N 0 (by omega) g (fun _ _ _ _ => rfl)
    rw [if_neg hN0] at go
    exact pk_le 4 0 (fun q => absurd q (by omega)) (fun _ => q_lacks hN hN4 (fun q => br_f (by decide) ⟨N + 1, go⟩) (fun q => absurd q (by omega)))
