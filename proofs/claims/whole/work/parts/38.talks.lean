/-! TALKS, told once -/
theorem tl_andL (a b : Nat) : lN a &&& lN b = lN (a &&& b) := by
  apply Int64.toBitVec_inj.1
  show BitVec.ofNat 64 a &&& BitVec.ofNat 64 b = BitVec.ofNat 64 (a &&& b)
  apply BitVec.eq_of_getLsbD_eq
  intro i hi
  simp [hi]
theorem tl_mask (n : Nat) : lN n &&& 2147483647 = lN (n % 2147483648) := by
  show lN n &&& lN (2 ^ 31 - 1) = lN (n % 2 ^ 31)
  rw [tl_andL, Nat.and_two_pow_sub_one_eq_mod]
def tl_nx (s : Nat) : Nat := (1103515245 * s + 12345) % 2147483648
def tl_dr (s n : Nat) : Nat := tl_nx s / 65536 % n
theorem tl_nx_lt (s : Nat) : tl_nx s < 2 ^ 31 := Nat.mod_lt _ (by decide)
theorem tl_dr_lt (s : Nat) {n : Nat} (h : 0 < n) : tl_dr s n < n := Nat.mod_lt _ h
theorem p_draw {post : Int32 → (Nat → Int32) → (Nat → Nat → Int32) → Int64 → Prop} {v : Nat → Int32} {f : Nat → Nat → Int32} {s n : Nat} (hs : s < 2 ^ 31) (h0 : 0 < n) (hn : n ≤ 4) (hp : post (nI (tl_dr s n)) v f (lN (tl_nx s))) : wp_X5_draw post v f (lN s) (nI n) := by
  have e1 : (1103515245 : Int64) * lN s + 12345 = lN (1103515245 * s + 12345) := by
    show lN 1103515245 * lN s + lN 12345 = _
    rw [lN_mul, lN_add]
  have e2 : lN (1103515245 * s + 12345) - lN (1103515245 * s + 12345) / (2147483648 : Int64) * (2147483648 : Int64) = lN (tl_nx s) := pk_lRem (b := 2147483648) (by omega) (by decide) (by decide)
  have hl := tl_nx_lt s
  have e3 : lN (tl_nx s) / (65536 : Int64) = lN (tl_nx s / 65536) := pk_lDiv (b := 65536) (by omega) (by decide) (by decide)
  have e4 : lN (tl_nx s / 65536) - lN (tl_nx s / 65536) / lN n * lN n = lN (tl_dr s n) := pk_lRem (by omega) h0 (by omega)
  unfold wp_X5_draw
  rw [e1, e2, e3, nI_l (by omega), e4, lN_i]
  exact pk_le 1 n (fun _ => ⟨fun c => by rw [show (0 : Int64) = lN 0 from rfl, pk_lEQ (by omega) (by omega)] at c; omega, hp⟩) (fun q => absurd q (by omega))
theorem q_draw {post : Int32 → (Nat → Int32) → (Nat → Nat → Int32) → Int64 → Prop} {w : Nat → Int32} {g : Nat → Nat → Int32} {z : Int64} {s n : Nat} (hw : w 11 = nI s) (hs : s < 2 ^ 31) (h0 : 0 < n) (hn : n ≤ 4) (hp : post (nI (tl_dr s n)) (upd w 11 (nI (tl_nx s))) g z) : wp_X7_draw post w g z (nI n) := by
  have e1 : (1103515245 : Int64) * lN s + 12345 = lN (1103515245 * s + 12345) := by
    show lN 1103515245 * lN s + lN 12345 = _
    rw [lN_mul, lN_add]
  have hl := tl_nx_lt s
  have e3 : nI (tl_nx s) / (65536 : Int32) = nI (tl_nx s / 65536) := pk_div (d := 65536) (by omega) (by decide) (by decide)
  have e4 : nI (tl_nx s / 65536) - nI (tl_nx s / 65536) / nI n * nI n = nI (tl_dr s n) := pk_rem (by omega) h0 (by omega)
  unfold wp_X7_draw
  rw [hw, nI_l (by omega), e1, tl_mask, lN_i, show (1103515245 * s + 12345) % 2147483648 = tl_nx s from rfl, e3, e4]
  exact ⟨fun c => by rw [show (0 : Int32) = nI 0 from rfl, nI_eq (by omega) (by omega)] at c; omega, hp⟩
/-- seed, used, ended, as wanted -/
abbrev TL := Nat × (Nat → Int32) × Nat × Nat
noncomputable def tl_step (f : Nat → Nat → Int32) (N : Nat) (t : TL) : TL :=
  if tl_dr (tl_nx (tl_nx t.1)) N = tl_dr t.1 N then (tl_nx (tl_nx (tl_nx t.1)), t.2)
  else if g_now f t.2.1 (tl_dr (tl_nx (tl_nx t.1)) N) (tl_dr (tl_nx t.1) 4) = -1 then (tl_nx (tl_nx (tl_nx t.1)), t.2)
  else (tl_nx (tl_nx (tl_nx t.1)), upd t.2.1 (tl_dr (tl_nx (tl_nx t.1)) N) (t.2.1 (tl_dr (tl_nx (tl_nx t.1)) N) ||| ((1 : Int32) <<< (g_now f t.2.1 (tl_dr (tl_nx (tl_nx t.1)) N) (tl_dr (tl_nx t.1) 4) &&& 31))), t.2.2.1 + 1, t.2.2.2 + if g_b (g_now f t.2.1 (tl_dr (tl_nx (tl_nx t.1)) N) (tl_dr (tl_nx t.1) 4) = f 7 (tl_dr t.1 N)) = true then 1 else 0)
noncomputable def tl_run (f : Nat → Nat → Int32) (N : Nat) (t : TL) : Nat → TL
  | 0 => t
  | n + 1 => tl_step f N (tl_run f N t n)
theorem tl_run_s {f : Nat → Nat → Int32} {N : Nat} {t : TL} (h : t.1 < 2 ^ 31) : ∀ n, (tl_run f N t n).1 < 2 ^ 31
  | 0 => h
  | n + 1 => by
    unfold tl_run tl_step
    split
    · exact tl_nx_lt _
    · split <;> exact tl_nx_lt _
noncomputable def tl_ans (f : Nat → Nat → Int32) (u : Nat → Int32) (N t s : Nat) : Nat → Int32
  | 0 => nI (tl_run f N ⟨s, u, 0, 0⟩ t).2.2.1
  | 1 => nI (tl_run f N ⟨s, u, 0, 0⟩ t).2.2.2
  | _ => nI (tl_run f N ⟨s, u, 0, 0⟩ t).1
theorem p_talkOnce {post : (Nat → Int32) → (Nat → Nat → Int32) → Int64 → Prop} {f0 : Nat → Nat → Int32} {v : Nat → Int32} {f : Nat → Nat → Int32} {N : Nat} {t : TL} (hN0 : 0 < N) (hN4 : N ≤ 4) (hN : v 7 = nI N) (hs : t.1 < 2 ^ 31) (he : v 15 = nI t.2.2.1) (ha : v 16 = nI t.2.2.2) (hf : ∀ i, i ≠ 25 → f i = f0 i) (hu : ∀ s, s < 4 → f 25 s = t.2.1 s) (hp : ∀ (v2 : Nat → Int32) (f2 : Nat → Nat → Int32), (∀ i, i ≠ 15 → i ≠ 16 → v2 i = v i) → (∀ i, i ≠ 25 → f2 i = f0 i) → v2 15 = nI (tl_step f0 N t).2.2.1 → v2 16 = nI (tl_step f0 N t).2.2.2 → (∀ s, s < 4 → f2 25 s = (tl_step f0 N t).2.1 s) → post v2 f2 (lN (tl_step f0 N t).1)) : wp_X5_talkOnce post v f (lN t.1) := by
  unfold wp_X5_talkOnce
  rw [hN]
  refine p_draw hs hN0 hN4 (p_draw (n := 4) (tl_nx_lt _) (by decide) (by decide) ?_)
  rw [hN]
  refine p_draw (tl_nx_lt _) hN0 hN4 ?_
  have hb := tl_dr_lt t.1 hN0
  have ho := tl_dr_lt (tl_nx t.1) (n := 4) (by decide)
  have hd := tl_dr_lt (tl_nx (tl_nx t.1)) hN0
  unfold tl_step at hp
  generalize tl_dr t.1 N = b at *
  generalize tl_dr (tl_nx t.1) 4 = o at *
  generalize tl_dr (tl_nx (tl_nx t.1)) N = d at *
  refine pk_eq d b (fun q => ?_) (fun q => ⟨vp_in_nI (by omega) (by omega), vp_in_nI ho (by omega), vp_in_nI (by omega) (by omega), vp_in_nI (by omega) (by omega), p_endingBy ?_⟩)
  · rw [if_pos q] at hp
    exact hp v f (fun _ _ _ => rfl) hf he ha hu
  · rw [if_neg q] at hp
    have en : g_end (f 5 (nI d).toNatClampNeg) (f 4 (nI o).toNatClampNeg) (f 7 (nI d).toNatClampNeg) (f 25 (nI d).toNatClampNeg) = g_now f0 t.2.1 d o := by
      unfold g_now
      rw [nI_clamp (by omega), nI_clamp (by omega), hf 5 (by decide), hf 4 (by decide), hf 7 (by decide), hu d (by omega)]
    rw [en, nI_clamp (by omega), nI_clamp (by omega)]
    generalize g_now f0 t.2.1 d o = x at *
    refine ⟨fun c => ?_, fun c => ⟨vp_in_nI (by omega) (by omega), vp_in_nI (by omega) (by omega), vp_in_nI (by omega) (by omega), ?_⟩⟩
    · rw [if_pos c] at hp
      exact hp v f (fun _ _ _ => rfl) hf he ha hu
    · rw [if_neg c] at hp
      have fr : ∀ i, i ≠ 25 → va_up f 25 (upd (f 25) d (f 25 d ||| ((1 : Int32) <<< (x &&& 31)))) i = f0 i := fun i hi => by
        rw [up_ne hi]
        exact hf i hi
      have uu : ∀ s, s < 4 → va_up f 25 (upd (f 25) d (f 25 d ||| ((1 : Int32) <<< (x &&& 31)))) 25 s = upd t.2.1 d (t.2.1 d ||| ((1 : Int32) <<< (x &&& 31))) s := fun s hs => by
        rw [up_eq]
        by_cases e : s = d
        · rw [e, pk_us, pk_us, hu d (by omega)]
        · rw [pk_un e, pk_un e]
          exact hu s hs
      have vv : ∀ (k : Int32) i, i ≠ 15 → i ≠ 16 → upd (upd v 15 (v 15 + 1)) 16 k i = v i := fun k i h1 h2 => by rw [pk_un h2, pk_un h1]
      have e15 : ∀ k : Int32, upd (upd v 15 (v 15 + 1)) 16 k 15 = nI (t.2.2.1 + 1) := fun k => by rw [pk_un (by decide), pk_us, he, nI_1]
      refine ⟨fun w => ?_, fun w => ?_⟩
      · rw [hf 7 (by decide)] at w
        rw [if_pos (g_bt w)] at hp
        exact hp _ _ (vv _) fr (e15 _) (by rw [pk_us, ha, nI_1]) uu
      · rw [hf 7 (by decide)] at w
        rw [if_neg (g_bf w)] at hp
        exact hp _ _ (vv _) fr (e15 _) (by rw [pk_us, ha, nI_a0]; rfl) uu
theorem p_run {post : (Nat → Int32) → (Nat → Nat → Int32) → Int64 → Prop} {v : Nat → Int32} {f : Nat → Nat → Int32} {z : Int64} {N m n s : Nat} (hN0 : 0 < N) (hN4 : N ≤ 4) (hN : v 7 = nI N) (hm : v 8 = nI m) (hm8 : m ≤ 8) (hn : n ≤ 60) (hs : s < 2 ^ 31) (hp : ∀ (v2 : Nat → Int32) (f2 : Nat → Nat → Int32), (∀ i, i ≠ 15 → i ≠ 16 → v2 i = v i) → (∀ i, i ≠ 25 → f2 i = f i) → v2 15 = nI (tl_run f N ⟨s, g_uX f m, 0, 0⟩ n).2.2.1 → v2 16 = nI (tl_run f N ⟨s, g_uX f m, 0, 0⟩ n).2.2.2 → post v2 f2 (lN (tl_run f N ⟨s, g_uX f m, 0, 0⟩ n).1)) : wp_X5_run post v f z (nI n) (nI s) := by
  have talk : ∀ j i, i + j = n → ∀ (v2 : Nat → Int32) (f2 : Nat → Nat → Int32), (∀ i, i ≠ 15 → i ≠ 16 → v2 i = v i) → (∀ i, i ≠ 25 → f2 i = f i) → v2 15 = nI (tl_run f N ⟨s, g_uX f m, 0, 0⟩ i).2.2.1 → v2 16 = nI (tl_run f N ⟨s, g_uX f m, 0, 0⟩ i).2.2.2 → (∀ k, k < 4 → f2 25 k = (tl_run f N ⟨s, g_uX f m, 0, 0⟩ i).2.1 k) → wp_X5_run_B48 post (j + 1) v2 f2 (lN (tl_run f N ⟨s, g_uX f m, 0, 0⟩ i).1) (nI n) (nI i) := by
    intro j
    induction j with
    | zero =>
      intro i hi v2 f2 hv hf he ha hu
      obtain rfl : i = n := by omega
      rw [wp_X5_run_B48]
      exact pk_le i i (fun _ => hp v2 f2 hv hf he ha) (fun q => absurd q (by omega))
    | succ j ih =>
      intro i hi v2 f2 hv hf he ha hu
      rw [wp_X5_run_B48, nI_1]
      refine pk_le n i (fun q => absurd q (by omega)) (fun _ => p_talkOnce (f0 := f) (N := N) hN0 hN4 (by rw [hv 7 (by decide) (by decide)]; exact hN) (tl_run_s hs i) he ha hf hu (fun v3 f3 hv3 hf3 he3 ha3 hu3 => ?_))
      exact ih (i + 1) (by omega) v3 f3 (fun k h1 h2 => (hv3 k h1 h2).trans (hv k h1 h2)) hf3 he3 ha3 hu3
  have used : ∀ j i, i + j = 4 → ∀ f2 : Nat → Nat → Int32, (∀ k, k ≠ 25 → f2 k = f k) → (∀ k, k < i → f2 25 k = g_uX f m k) → wp_X5_run_B20 post (j + 1) (upd (upd v 15 0) 16 0) f2 (lN s) (nI n) (nI i) := by
    intro j
    induction j with
    | zero =>
      intro i hi f2 hf hu
      obtain rfl : i = 4 := by omega
      rw [wp_X5_run_B20]
      exact pk_le 4 4 (fun _ => ⟨n + 1, talk n 0 (by omega) _ f2 (fun k h1 h2 => by rw [pk_un h2, pk_un h1]) hf (by rw [pk_un (by decide), pk_us]; rfl) (by rw [pk_us]; rfl) hu⟩) (fun q => absurd q (by omega))
    | succ j ih =>
      intro i hi f2 hf hu
      rw [wp_X5_run_B20, nI_clamp (by omega), nI_1]
      refine pk_le 4 i (fun q => absurd q (by omega)) (fun _ => p_usedBy (m := m) (by rw [pk_un (by decide), pk_un (by decide)]; exact hm) hm8 ⟨vp_in_nI (by omega) (by omega), ?_⟩)
      refine ih (i + 1) (by omega) _ (fun k hk => by rw [up_ne hk]; exact hf k hk) (fun k hk => ?_)
      rw [up_eq, hf 10 (by decide), hf 11 (by decide)]
      by_cases e : k = i
      · rw [e, pk_us]
        rfl
      · rw [pk_un e]
        exact hu k (by omega)
  unfold wp_X5_run
  rw [nI_l hs]
  exact ⟨5, used 4 0 rfl f (fun _ _ => rfl) (fun k hk => by omega)⟩
/-- what talks() asks of its three numbers -/
def tl_ok (x y w : Int32) : Prop := (∃ t, 1 ≤ t ∧ t ≤ 60 ∧ x = nI t) ∧ (∃ s, s < 2 ^ 31 ∧ y = nI s) ∧ ∃ j, j < 3 ∧ w = nI j
theorem p_talks {post : Int32 → (Nat → Int32) → (Nat → Nat → Int32) → Int64 → Prop} {v : Nat → Int32} {f : Nat → Nat → Int32} {z : Int64} {N m : Nat} (hN4 : N ≤ 4) (hN : v 7 = nI N) (hm : v 8 = nI m) (hm8 : m ≤ 8) {x y w : Int32} (hout : ¬ tl_ok x y w → post (-102) v f z) (h0 : N = 0 → tl_ok x y w → post (-103) v f z) (h1 : 0 < N → ∀ t s j, 1 ≤ t → t ≤ 60 → s < 2 ^ 31 → j < 3 → x = nI t → y = nI s → w = nI j → ∀ (v2 : Nat → Int32) (f2 : Nat → Nat → Int32) (z2 : Int64), (∀ i, i ≠ 15 → i ≠ 16 → v2 i = v i) → (∀ i, i ≠ 25 → f2 i = f i) → post (tl_ans f (g_uX f m) N t s j) v2 f2 z2) : wp_X6_talks post v f z x y w := by
  unfold wp_X6_talks
  refine ⟨fun c => hout ?_, fun c1 => ⟨fun c => hout ?_, fun c2 => ⟨fun c => hout ?_, fun c3 => ⟨fun c => hout ?_, fun c4 => ⟨fun c5 => ?_, fun c => hout ?_⟩⟩⟩⟩⟩
  · rintro ⟨⟨t, t1, t2, rfl⟩, -, -⟩
    exact nI_nlt (a := t) (b := 1) (by omega) (by omega) c
  · rintro ⟨⟨t, t1, t2, rfl⟩, -, -⟩
    exact nI_nlt (a := 60) (b := t) (by omega) (by omega) c
  · rintro ⟨-, ⟨t, t1, rfl⟩, -⟩
    exact nI_nlt (a := t) (b := 0) (by omega) (by omega) c
  · rintro ⟨-, -, ⟨t, t1, rfl⟩⟩
    exact nI_nlt (a := t) (b := 0) (by omega) (by omega) c
  · have d1 : ¬ x.toInt < 1 := fun q => c1 (Int32.lt_iff_toInt_lt.mpr q)
    have d2 : ¬ 60 < x.toInt := fun q => c2 (Int32.lt_iff_toInt_lt.mpr q)
    have d3 : ¬ y.toInt < 0 := fun q => c3 (Int32.lt_iff_toInt_lt.mpr q)
    have d4 : ¬ w.toInt < 0 := fun q => c4 (Int32.lt_iff_toInt_lt.mpr q)
    have d5 : w.toInt < 3 := Int32.lt_iff_toInt_lt.mp c5
    have d6 := Int32.toInt_lt y
    obtain ⟨t, ht1, ht2, rfl⟩ : ∃ t, 1 ≤ t ∧ t ≤ 60 ∧ x = nI t := ⟨x.toInt.toNat, by omega, by omega, of_toInt (by omega) (by omega)⟩
    obtain ⟨s, hs, rfl⟩ : ∃ s, s < 2 ^ 31 ∧ y = nI s := ⟨y.toInt.toNat, by omega, of_toInt (by omega) (by omega)⟩
    obtain ⟨j, hj, rfl⟩ : ∃ j, j < 3 ∧ w = nI j := ⟨w.toInt.toNat, by omega, of_toInt (by omega) (by omega)⟩
    refine pk_eq N 0 (fun q => h0 q ⟨⟨t, ht1, ht2, rfl⟩, ⟨s, hs, rfl⟩, ⟨j, hj, rfl⟩⟩) (fun q => ?_) hN
    refine p_run (by omega) hN4 hN hm hm8 ht2 hs (fun v2 f2 hv hf he ha => ?_)
    have go := h1 (by omega) t s j ht1 ht2 hs hj rfl rfl rfl v2 f2 (lN (tl_run f N ⟨s, g_uX f m, 0, 0⟩ t).1) hv hf
    refine ⟨fun e => ?_, fun e => ?_, fun e => ?_⟩
    · obtain rfl := (nI_eq (a := j) (b := 0) (by omega) (by omega)).mp e
      rw [he]
      exact go
    · obtain rfl := (nI_eq (a := j) (b := 1) (by omega) (by omega)).mp e
      rw [ha]
      exact go
    · rw [nI_toInt (by omega)] at e
      obtain rfl : j = 2 := by omega
      rw [lN_i]
      exact go
  · rintro ⟨-, -, ⟨t, t1, rfl⟩⟩
    exact c (nI_lt t1 (by decide))
theorem RY.use {f : Nat → Nat → Int32} {u : Nat → Int32} {N m h : Nat} {w : Nat → Int32} {g : Nat → Nat → Int32} (hR : RY f u N m h w g) (d : Nat) (x : Int32) : RY f (upd u d x) N m h w (va_up g 4 (upd (g 4) (3 * d + 2) x)) := by
  obtain ⟨h1, h2, h3, h4, h5⟩ := hR
  refine ⟨h1, ?_, fun s hs => ?_, ?_, ?_⟩
  · rw [up_ne (by decide)]
    exact h2
  · obtain ⟨e1, e2, e3⟩ := h3 s hs
    rw [up_eq, pk_un (by omega), pk_un (by omega)]
    refine ⟨e1, e2, ?_⟩
    by_cases e : s = d
    · rw [e, pk_us, pk_us]
    · rw [pk_un (by omega), pk_un e]
      exact e3
  · rw [up_ne (by decide)]
    exact h4
  · rw [up_ne (by decide)]
    exact h5
theorem q_talks118 {post : Int32 → (Nat → Int32) → (Nat → Nat → Int32) → Int64 → Prop} {K : (Nat → Int32) → (Nat → Nat → Int32) → Int64 → Int32 → Int32 → Int32 → Int32 → Int32 → Prop} {f : Nat → Nat → Int32} {u : Nat → Int32} {N m h : Nat} {w : Nat → Int32} {g : Nat → Nat → Int32} {z : Int64} (hN4 : N ≤ 4) (hR : RY f u N m h w g) {n j e a i b d : Nat} {x : Int32} (hb : b < N) (hd : d < N) (h0 : x = -1 → K w g z (nI n) (nI j) (nI e) (nI a) (nI (i + 1))) (h1 : ¬ x = -1 → K w (va_up g 4 (upd (g 4) (3 * d + 2) (u d ||| ((1 : Int32) <<< (x &&& 31))))) z (nI n) (nI j) (nI (e + 1)) (nI (a + if g_b (x = f 7 b) = true then 1 else 0)) (nI (i + 1))) : wp_X7_talks_B118 post K w g z (nI n) (nI j) (nI e) (nI a) (nI i) (nI b) (nI d) x := by
  unfold wp_X7_talks_B118
  obtain ⟨-, -, h3, -, -⟩ := hR
  simp only [m3, a2, nI_1]
  rw [nI_clamp (by omega), nI_clamp (by omega), (h3 d hd).2.2, pk_un (by omega), (h3 b hb).2.1]
  refine ⟨h0, fun c => ⟨vp_in_nI (by omega) (by omega), vp_in_nI (by omega) (by omega), vp_in_nI (by omega) (by omega), fun e => ?_, fun e => ?_⟩⟩
  · have := h1 c
    rw [if_pos (g_bt e)] at this
    exact this
  · have := h1 c
    rw [if_neg (g_bf e)] at this
    rw [nI_a0]
    exact this
theorem q_talks {post : Int32 → (Nat → Int32) → (Nat → Nat → Int32) → Int64 → Prop} {f : Nat → Nat → Int32} {N m h : Nat} {w : Nat → Int32} {g : Nat → Nat → Int32} {z : Int64} (hW : WF f N m h) (hR : RY f (g_uX f m) N m h w g) {x y k : Int32} (hout : ¬ tl_ok x y k → post (-102) w g z) (h0 : N = 0 → tl_ok x y k → post (-103) w g z) (h1 : 0 < N → ∀ t s j, 1 ≤ t → t ≤ 60 → s < 2 ^ 31 → j < 3 → x = nI t → y = nI s → k = nI j → ∀ (w2 : Nat → Int32) (g2 : Nat → Nat → Int32), RY f (g_uX f m) N m h w2 g2 → (∀ i, i ≠ 11 → w2 i = w i) → (∀ i, i ≠ 4 → i ≠ 10 → g2 i = g i) → post (tl_ans f (g_uX f m) N t s j) w2 g2 z) : wp_X7_talks post w g z x y k := by
  have hN4 : N ≤ 4 := hW.1.1
  have hN6 : w 6 = nI N := hR.1.1
  have loop : 0 < N → ∀ n s j, 1 ≤ n → n ≤ 60 → s < 2 ^ 31 → j < 3 → x = nI n → y = nI s → k = nI j → ∀ c i, i + c = n → ∀ (w2 : Nat → Int32) (g2 : Nat → Nat → Int32), RY f (tl_run f N ⟨s, g_uX f m, 0, 0⟩ i).2.1 N m h w2 g2 → (∀ i, i ≠ 11 → w2 i = w i) → (∀ i, i ≠ 4 → i ≠ 10 → g2 i = g i) → (∀ i, i < 12 → g2 10 i = g 4 i) → w2 11 = nI (tl_run f N ⟨s, g_uX f m, 0, 0⟩ i).1 → wp_X7_talks_B66 post (c + 1) w2 g2 z (nI n) (nI j) (nI (tl_run f N ⟨s, g_uX f m, 0, 0⟩ i).2.2.1) (nI (tl_run f N ⟨s, g_uX f m, 0, 0⟩ i).2.2.2) (nI i) := by
    intro hN0 n s j hn1 hn hs hj hx hy hk c
    induction c with
    | zero =>
      intro i hi w2 g2 hR2 hw hg hsv h11
      obtain rfl : i = n := by omega
      rw [wp_X7_talks_B66]
      have back : RY f (g_uX f m) N m h w2 (va_up g2 4 (va_cpy (g2 10) (g2 4) 0 0 12)) := by
        obtain ⟨a1, a2, a3, a4, a5⟩ := hR
        refine ⟨hR2.1, ?_, fun q hq => ?_, ?_, ?_⟩
        · rw [up_ne (by decide)]
          exact hR2.2.1
        · rw [up_eq, pk_cpy_in (by omega) (by omega), pk_cpy_in (by omega) (by omega), pk_cpy_in (by omega) (by omega), Nat.zero_add, Nat.zero_add, Nat.zero_add, Nat.sub_zero, Nat.sub_zero, Nat.sub_zero, hsv _ (by omega), hsv _ (by omega), hsv _ (by omega)]
          exact a3 q hq
        · rw [up_ne (by decide)]
          exact hR2.2.2.2.1
        · rw [up_ne (by decide)]
          exact hR2.2.2.2.2
      have go := h1 hN0 i s j hn1 hn hs hj hx hy hk w2 _ back hw (fun q h1 h2 => by rw [up_ne h1]; exact hg q h1 h2)
      refine pk_le i i (fun _ => ?_) (fun q => absurd q (by omega))
      refine ⟨fun e => ?_, fun e0 => ⟨fun e => ?_, fun e => ?_⟩⟩
      · obtain rfl := (nI_eq (a := j) (b := 0) (by omega) (by omega)).mp e
        exact go
      · obtain rfl := (nI_eq (a := j) (b := 1) (by omega) (by omega)).mp e
        exact go
      · have e0' : j ≠ 0 := fun q => e0 (by rw [q]; rfl)
        have e' : j ≠ 1 := fun q => e (by rw [q]; rfl)
        obtain rfl : j = 2 := by omega
        rw [h11]
        exact go
    | succ c ih =>
      intro i hi w2 g2 hR2 hw hg hsv h11
      rw [wp_X7_talks_B66]
      have hst := tl_run_s (f := f) (N := N) (t := ⟨s, g_uX f m, 0, 0⟩) hs i
      have nx := ih (i + 1) (by omega)
      rw [tl_run] at nx
      generalize tl_run f N ⟨s, g_uX f m, 0, 0⟩ i = t at *
      have h6 : w2 6 = nI N := (hw 6 (by decide)).trans hN6
      refine pk_le n i (fun q => absurd q (by omega)) (fun _ => ?_)
      rw [h6]
      refine q_draw h11 hst hN0 hN4 (q_draw (n := 4) pk_us (tl_nx_lt _) (by decide) (by decide) ?_)
      rw [pk_un (by decide), pk_un (by decide), h6]
      refine q_draw pk_us (tl_nx_lt _) hN0 hN4 ?_
      have hb := tl_dr_lt t.1 hN0
      have ho := tl_dr_lt (tl_nx t.1) (n := 4) (by decide)
      have hd := tl_dr_lt (tl_nx (tl_nx t.1)) hN0
      have hw3 : ∀ a b c : Int32, ∀ i, i ≠ 11 → upd (upd (upd w2 11 a) 11 b) 11 c i = w2 i := fun a b c i hi => by rw [pk_un hi, pk_un hi, pk_un hi]
      generalize hw4 : upd (upd (upd w2 11 (nI (tl_nx t.1))) 11 (nI (tl_nx (tl_nx t.1)))) 11 (nI (tl_nx (tl_nx (tl_nx t.1)))) = w4
      have h114 : w4 11 = nI (tl_nx (tl_nx (tl_nx t.1))) := by rw [← hw4, pk_us]
      have hw4w : ∀ i, i ≠ 11 → w4 i = w2 i := fun i hi => by rw [← hw4]; exact hw3 _ _ _ i hi
      have hR4 : RY f t.2.1 N m h w4 g2 := hR2.keep ⟨hw4w 6 (by decide), hw4w 9 (by decide), hw4w 10 (by decide)⟩ ⟨rfl, rfl, rfl, rfl⟩
      have hw4' : ∀ i, i ≠ 11 → w4 i = w i := fun i hi => (hw4w i hi).trans (hw i hi)
      unfold tl_step at nx
      generalize tl_dr t.1 N = b at *
      generalize tl_dr (tl_nx t.1) 4 = o at *
      generalize tl_dr (tl_nx (tl_nx t.1)) N = d at *
      refine pk_eq d b (fun q => ?_) (fun q => q_wouldOf hW hR4 hd ho ?_)
      · rw [if_pos q] at nx
        refine q_talks118 hN4 hR4 hb hd (fun _ => ?_) (fun c => absurd rfl c)
        exact nx w4 g2 hR4 hw4' hg hsv h114
      · rw [if_neg q] at nx
        refine q_talks118 hN4 hR4 hb hd (fun c => ?_) (fun c => ?_)
        · rw [if_pos c] at nx
          exact nx w4 g2 hR4 hw4' hg hsv h114
        · rw [if_neg c] at nx
          exact nx w4 _ (hR4.use d _) hw4' (fun i h1 h2 => by rw [up_ne h1]; exact hg i h1 h2) (fun i hi => by rw [up_ne (by decide)]; exact hsv i hi) h114
  have one : (1 : Int64).toInt = 1 := by decide
  have two : (2 : Int64).toInt = 2 := by decide
  have sixty : (60 : Int64).toInt = 60 := by decide
  have zero : (0 : Int64).toInt = 0 := by decide
  have bx := Int32.toInt_lt x
  have by' := Int32.toInt_lt y
  unfold wp_X7_talks
  refine q_in (fun q1 q2 => ⟨fun c => absurd c (by decide), fun _ => ⟨fun c => hout ?_, fun c3 => ?_⟩⟩) (fun q => br_t rfl (hout ?_))
  · rintro ⟨-, ⟨t, t1, rfl⟩, -⟩
    exact nI_nlt (a := t) (b := 0) (by omega) (by omega) c
  · rw [Int32.toInt_toInt64, one] at q1
    rw [Int32.toInt_toInt64, sixty] at q2
    have d3 : ¬ y.toInt < 0 := fun q => c3 (Int32.lt_iff_toInt_lt.mpr q)
    refine q_in (fun q3 q4 => ⟨fun c => absurd c (by decide), fun _ => ?_⟩) (fun q => br_t rfl (hout ?_))
    · rw [Int32.toInt_toInt64, zero] at q3
      rw [Int32.toInt_toInt64, two] at q4
      have hx : ∃ t, 1 ≤ t ∧ t ≤ 60 ∧ x = nI t := ⟨x.toInt.toNat, by omega, by omega, of_toInt (by omega) (by omega)⟩
      have hy : ∃ s, s < 2 ^ 31 ∧ y = nI s := ⟨y.toInt.toNat, by omega, of_toInt (by omega) (by omega)⟩
      have hk : ∃ j, j < 3 ∧ k = nI j := ⟨k.toInt.toNat, by omega, of_toInt (by omega) (by omega)⟩
      refine q_lacks hN6 hN4 (fun e => br_f (by decide) (h0 e ⟨hx, hy, hk⟩)) (fun hN0 => br_t rfl ?_)
      obtain ⟨t, ht1, ht2, hx⟩ := hx
      obtain ⟨s, hs, hy⟩ := hy
      obtain ⟨j, hj, hk⟩ := hk
      have go := loop hN0 t s j ht1 ht2 hs hj hx hy hk t 0 (by omega) (upd w 11 y) (va_up g 10 (va_cpy (g 4) (g 10) 0 0 12)) (hR.keep ⟨rfl, rfl, rfl⟩ ⟨rfl, rfl, rfl, rfl⟩) (fun i hi => pk_un hi) (fun i h1 h2 => up_ne h2) (fun i hi => by rw [up_eq, pk_cpy_in (by omega) (by omega), Nat.zero_add, Nat.sub_zero]) (by rw [pk_us, hy]; rfl)
      rw [← hx, ← hk] at go
      exact ⟨t + 1, go⟩
    · rintro ⟨-, -, ⟨t, t1, rfl⟩⟩
      rw [Int32.toInt_toInt64, nI_toInt (by omega), zero, two] at q
      omega
  · rintro ⟨⟨t, t1, t2, rfl⟩, -, -⟩
    rw [Int32.toInt_toInt64, nI_toInt (by omega), one, sixty] at q
    omega
