/-! BEGIN, what is told, in the reference; bits -/
theorem or_bit_d : ∀ x, x < 256 → ∀ n, n < 8 → nI x ||| ((1 : Int32) <<< (nI n &&& 31)) = nI (x ||| 2 ^ n) ∧ x ||| 2 ^ n < 256 := by decide +kernel
theorem or_bit6 : ∀ x, x < 64 → ∀ n, n < 6 → x ||| 2 ^ n < 64 := by decide +kernel
theorem or_bit5 : ∀ x, x < 32 → ∀ n, n < 5 → x ||| 2 ^ n < 32 := by decide +kernel
theorem Rg.or6 {x y : Int32} (h : Rg 64 x) (hy : Rg 6 y) : Rg 64 (x ||| ((1 : Int32) <<< (y &&& 31))) := by
  obtain ⟨k, hk, rfl⟩ := h
  obtain ⟨n, hn, rfl⟩ := hy
  exact ⟨k ||| 2 ^ n, or_bit6 k hk n hn, (or_bit_d k (by omega) n (by omega)).1⟩
theorem Rg.or8 {x y : Int32} (h : Rg 256 x) (hy : Rg 8 y) : Rg 256 (x ||| ((1 : Int32) <<< (y &&& 31))) := by
  obtain ⟨k, hk, rfl⟩ := h
  obtain ⟨n, hn, rfl⟩ := hy
  exact ⟨k ||| 2 ^ n, (or_bit_d k hk n hn).2, (or_bit_d k hk n hn).1⟩
theorem g_bits_rg (p : Nat → Bool) : ∀ n, n ≤ 5 → Rg 32 (g_bits p n)
  | 0, _ => ⟨0, by omega, rfl⟩
  | n + 1, h => by
    obtain ⟨k, hk, e⟩ := g_bits_rg p n (by omega)
    unfold g_bits
    split
    · rw [e]
      exact ⟨k ||| 2 ^ n, or_bit5 k hk n (by omega), (or_bit_d k (by omega) n (by omega)).1⟩
    · exact ⟨k, hk, e⟩
theorem g_which_rg (f : Nat → Nat → Int32) (h s : Nat) : Rg 256 (g_which f h s) := (g_bits_rg _ 5 (Nat.le_refl _)).mono (by omega)
theorem g_used_rg {e g : Nat → Int32} {s : Int32} : ∀ {m : Nat}, (∀ k, k < m → e k = s → Rg 6 (g k)) → Rg 64 (g_used e g s m)
  | 0, _ => ⟨0, by omega, rfl⟩
  | m + 1, h => by
    have := g_used_rg (e := e) (g := g) (s := s) (m := m) (fun k hk => h k (by omega))
    unfold g_used
    split
    · rename_i c
      exact this.or6 (h m (by omega) c)
    · exact this
def g_mx (c : Nat → Nat) : Nat → Nat
  | 0 => 0
  | i + 1 => max (g_mx c i) (c i)
theorem g_most_mx (kinds ft w : Int32) : ∀ i, g_most kinds ft w i = g_mx (fun y => g_way kinds ft w (nI y + (-1)) 5) i
  | 0 => rfl
  | i + 1 => by
    unfold g_most g_mx
    rw [g_most_mx kinds ft w i]
theorem g_mx_step {c c2 : Nat → Nat} {a : Nat} (h1 : ∀ y, y ≠ a → c2 y = c y) (h2 : c a ≤ c2 a) : ∀ n, g_mx c2 n = if a < n then max (g_mx c n) (c2 a) else g_mx c n
  | 0 => by simp [g_mx]
  | n + 1 => by
    have ih := g_mx_step h1 h2 n
    by_cases e : n = a
    · subst e
      rw [if_neg (by omega)] at ih
      rw [if_pos (by omega)]
      show max (g_mx c2 n) (c2 n) = max (max (g_mx c n) (c n)) (c2 n)
      omega
    · have e1 := h1 n e
      show max (g_mx c2 n) (c2 n) = _
      by_cases q : a < n
      · rw [if_pos q] at ih
        rw [if_pos (by omega)]
        show _ = max (max (g_mx c n) (c n)) (c2 a)
        omega
      · rw [if_neg q] at ih
        rw [if_neg (by omega)]
        show _ = max (g_mx c n) (c n)
        omega
theorem way_inj : ∀ a, a < 7 → ∀ b, b < 7 → (nI a + (-1) = nI b + (-1) ↔ a = b) := by decide +kernel
theorem end_way {kd ft w u : Int32} (hw : Rg 6 w) : ∃ a, a < 7 ∧ g_end kd ft w u = nI a + (-1) ∧ g_end kd ft w u + 1 = nI a := by
  rcases g_end_rng (kd := kd) (ft := ft) (u := u) hw with e | ⟨k, hk, e⟩
  · exact ⟨0, by omega, by rw [e]; decide, by rw [e]; decide⟩
  · exact ⟨k + 1, by omega, by rw [e, nI_d], by rw [e, nI_1]⟩
theorem g_way_le (kinds ft w y : Int32) (n : Nat) : g_way kinds ft w y n ≤ n := g_cnt_le _ n
theorem g_mx_le {c : Nat → Nat} {b : Nat} (h : ∀ y, c y ≤ b) : ∀ n, g_mx c n ≤ b
  | 0 => Nat.zero_le _
  | n + 1 => by
    have h1 := g_mx_le h n
    have h2 := h n
    show max _ _ ≤ b
    omega
theorem up_ne {α : Type} {f : Nat → α} {k j : Nat} {v : α} (h : j ≠ k) : va_up f k v j = f j := by unfold va_up; rw [if_neg h]
theorem up_eq {α : Type} {f : Nat → α} {k : Nat} {v : α} : va_up f k v k = v := by unfold va_up; rw [if_pos rfl]
theorem q_begin55 {post : Int32 → (Nat → Int32) → (Nat → Nat → Int32) → Int64 → Prop} {K : (Nat → Int32) → (Nat → Nat → Int32) → Int64 → Int32 → Int32 → Int32 → Int32 → Int32 → Prop} {w : Nat → Int32} {g : Nat → Nat → Int32} {z : Int64} {s o : Nat} (hs : s < 4) (ho : o < 4) {ft wt bits best : Int32} {least : Nat} (hl : least < 2 ^ 31) (hft : Rg 256 ft) (hwt : Rg 6 wt) (hbits : Rg 256 bits) (e3 : g 3 o = ft) (e4 : g 4 (3 * s + 1) = wt)
    (HK : ∀ g2 : Nat → Nat → Int32, (∀ k, k ≠ 9 → g2 k = g k) → K w g2 z (nI s) bits (if least ≤ g_most bits ft wt 7 then best else nI o) (nI (if least ≤ g_most bits ft wt 7 then least else g_most bits ft wt 7)) (nI (o + 1))) :
    ∀ a i, i + a = 5 → ∀ g2 : Nat → Nat → Int32, (∀ k, k ≠ 9 → g2 k = g k) → (∀ y, y < 7 → g2 9 y = nI (g_way bits ft wt (nI y + (-1)) i)) → wp_X7_beginOf_B55 post K (a + 1) w g2 z (nI s) bits best (nI least) (nI o) (nI (g_mx (fun y => g_way bits ft wt (nI y + (-1)) i) 7)) (nI i) := by
  intro a
  induction a with
  | zero =>
    intro i hi g2 hg hp
    obtain rfl : i = 5 := by omega
    rw [wp_X7_beginOf_B55]
    rw [← g_most_mx]
    have hm := g_most_le bits ft wt 7
    have := HK g2 hg
    refine pk_le 5 5 (fun _ => pk_le least (g_most bits ft wt 7) (fun q => ?_) (fun q => ?_)) (fun q => absurd q (by omega))
    · unfold wp_X7_beginOf_B145
      rw [if_pos q, if_pos q] at this
      rw [nI_1]
      exact pk_le least (g_most bits ft wt 7) (fun _ => this) (fun q2 => absurd q2 (by omega))
    · unfold wp_X7_beginOf_B145
      rw [if_neg (by omega), if_neg (by omega)] at this
      rw [nI_1]
      exact pk_le least (g_most bits ft wt 7) (fun q2 => absurd q2 (by omega)) (fun _ => this)
  | succ a ih =>
    intro i hi g2 hg hp
    rw [wp_X7_beginOf_B55]
    simp (disch := omega) only [m3, nI_1, nI_clamp]
    rw [hg 4 (by omega), e4]
    refine pk_le 5 i (fun q => absurd q (by omega)) (fun _ => ⟨vp_in_nI (by omega) (by omega), q_endsBy ho (by rw [hg 3 (by omega), e3]) hft hwt ?_⟩)
    obtain ⟨b, hb, eb, eb1⟩ := end_way (kd := nI i) (ft := ft) (u := 0) hwt
    rw [eb1, nI_clamp (by omega)]
    have hcb := g_way_le bits ft wt (nI b + (-1)) i
    have step : ∀ y, y < 7 → g_way bits ft wt (nI y + (-1)) (i + 1) = if y = b ∧ g_has bits (nI i) = true then g_way bits ft wt (nI y + (-1)) i + 1 else g_way bits ft wt (nI y + (-1)) i := by
      intro y hy
      have iff : (g_has bits (nI i) = true ∧ g_end (nI i) ft wt 0 = nI y + (-1)) ↔ (y = b ∧ g_has bits (nI i) = true) := by
        rw [eb, way_inj b hb y hy]
        exact ⟨fun ⟨h1, h2⟩ => ⟨h2.symm, h1⟩, fun ⟨h1, h2⟩ => ⟨h2, h1.symm⟩⟩
      show g_cnt _ (i + 1) = _
      rw [g_cnt]
      by_cases c : y = b ∧ g_has bits (nI i) = true
      · rw [if_pos (g_bt (iff.mpr c)), if_pos c]
        rfl
      · rw [if_neg (g_bf (fun q => c (iff.mp q))), if_neg c]
        rfl
    have newv : g2 9 b + ((bits >>> (nI i &&& 31)) &&& 1) = nI (g_way bits ft wt (nI b + (-1)) (i + 1)) := by
      rw [hp b hb, g_bitY0 hbits (by omega), step b hb]
      by_cases c : g_has bits (nI i) = true
      · rw [if_pos c, if_pos ⟨rfl, c⟩, nI_1]
      · rw [if_neg c, if_neg (fun q => c q.2), nI_a0]
    simp only [pk_us]
    rw [newv]
    have hg' : ∀ k, k ≠ 9 → va_up g2 9 (upd (g2 9) b (nI (g_way bits ft wt (nI b + (-1)) (i + 1)))) k = g k := fun k hk => by
      rw [up_ne hk]
      exact hg k hk
    have hp' : ∀ y, y < 7 → va_up g2 9 (upd (g2 9) b (nI (g_way bits ft wt (nI b + (-1)) (i + 1)))) 9 y = nI (g_way bits ft wt (nI y + (-1)) (i + 1)) := fun y hy => by
      rw [up_eq]
      by_cases e : y = b
      · subst e
        rw [pk_us]
      · rw [pk_un e, hp y hy, step y hy, if_neg (fun q => e q.1)]
    have nx := ih (i + 1) (by omega) _ hg' hp'
    have mono : g_way bits ft wt (nI b + (-1)) i ≤ g_way bits ft wt (nI b + (-1)) (i + 1) := by
      rw [step b hb]
      split <;> omega
    have mx : g_mx (fun y => g_way bits ft wt (nI y + (-1)) (i + 1)) 7 = max (g_mx (fun y => g_way bits ft wt (nI y + (-1)) i) 7) (g_way bits ft wt (nI b + (-1)) (i + 1)) := by
      have e1 : g_mx (fun y => g_way bits ft wt (nI y + (-1)) (i + 1)) 7 = g_mx (fun y => if y < 7 then g_way bits ft wt (nI y + (-1)) (i + 1) else g_way bits ft wt (nI y + (-1)) i) 7 := rfl
      rw [e1]
      have := g_mx_step (c := fun y => g_way bits ft wt (nI y + (-1)) i) (c2 := fun y => if y < 7 then g_way bits ft wt (nI y + (-1)) (i + 1) else g_way bits ft wt (nI y + (-1)) i) (a := b) (fun y hy => by
        show (if y < 7 then _ else _) = _
        by_cases q : y < 7
        · rw [if_pos q, step y q, if_neg (fun w => hy w.1)]
        · rw [if_neg q]) (by
        show _ ≤ (if b < 7 then _ else _)
        rw [if_pos hb]
        exact mono) 7
      rw [this, if_pos hb]
      show max _ (if b < 7 then _ else _) = _
      rw [if_pos hb]
    have bd := g_mx_le (c := fun y => g_way bits ft wt (nI y + (-1)) i) (b := i) (fun y => g_way_le bits ft wt _ i) 7
    have bd2 := g_way_le bits ft wt (nI b + (-1)) (i + 1)
    refine ⟨vp_in_nI hb (by omega), vp_in_nI hb (by omega), vp_in_nI hb (by omega), pk_le (g_way bits ft wt (nI b + (-1)) (i + 1)) (g_mx (fun y => g_way bits ft wt (nI y + (-1)) i) 7) (fun q => ?_) (fun q => ⟨vp_in_nI hb (by omega), ?_⟩)⟩
    · rw [mx, Nat.max_eq_left q] at nx
      exact nx
    · rw [mx, Nat.max_eq_right (by omega)] at nx
      exact nx
theorem q_beginOf {post : Int32 → (Nat → Int32) → (Nat → Nat → Int32) → Int64 → Prop} {f : Nat → Nat → Int32} {u : Nat → Int32} {N m h : Nat} {w : Nat → Int32} {g : Nat → Nat → Int32} {z : Int64} (hW : WF f N m h) (hR : RY f u N m h w g) {s : Nat} (hs : s < N) (hp : ∀ g2 : Nat → Nat → Int32, (∀ k, k ≠ 9 → g2 k = g k) → post (g_begin f h s) w g2 z) : wp_X7_beginOf post w g z (nI s) := by
  have hN4 := hW.1.1
  unfold wp_X7_beginOf
  refine q_whichOf hW hR hs ?_
  have hbits := g_which_rg f h s
  by_cases c0 : g_which f h s = 0
  · refine ⟨1, ?_⟩
    rw [wp_X7_beginOf_B15]
    have := hp g (fun _ _ => rfl)
    rw [g_begin, if_pos c0] at this
    exact br_f (by decide) (br_t c0 this)
  · have e4 := (hR.2.2.1 s hs).2.1
    have hwt := (hW.2.2.1 s hs).2
    have hL : ∀ o, g_most (g_which f h s) (f 4 o) (f 7 s) 7 ≤ 5 := fun o => g_most_le _ _ _ _
    have key : ∀ j i, i + j = 4 → ∀ g2 : Nat → Nat → Int32, (∀ k, k ≠ 9 → g2 k = g k) → wp_X7_beginOf_B15 post (j + 1) w g2 z (nI s) (g_which f h s) (g_tell (fun o => g_most (g_which f h s) (f 4 o) (f 7 s) 7) i).1 (nI (g_tell (fun o => g_most (g_which f h s) (f 4 o) (f 7 s) 7) i).2) (nI i) := by
      intro j
      induction j with
      | zero =>
        intro i hi g2 hg
        obtain rfl : i = 4 := by omega
        rw [wp_X7_beginOf_B15]
        have := hp g2 hg
        rw [g_begin, if_neg c0] at this
        exact pk_le 4 4 (fun _ => this) (fun q => absurd q (by omega))
      | succ j ih =>
        intro i hi g2 hg
        rw [wp_X7_beginOf_B15]
        have b2 := g_tell_le _ hL i
        refine pk_le 4 i (fun q => absurd q (by omega)) (fun _ => br_f c0 ?_)
        have c28 : ∀ a b, b + a = 7 → ∀ g3 : Nat → Nat → Int32, (∀ k, k ≠ 9 → g3 k = g k) → (∀ y, y < b → g3 9 y = 0) → wp_X7_beginOf_B28 post (wp_X7_beginOf_B15 post (j + 1)) (a + 1) w g3 z (nI s) (g_which f h s) (g_tell (fun o => g_most (g_which f h s) (f 4 o) (f 7 s) 7) i).1 (nI (g_tell (fun o => g_most (g_which f h s) (f 4 o) (f 7 s) 7) i).2) (nI i) (nI b) := by
          intro a
          induction a with
          | zero =>
            intro b hb g3 hg3 h0
            obtain rfl : b = 7 := by omega
            rw [wp_X7_beginOf_B28]
            refine pk_le 7 7 (fun _ => ⟨6, ?_⟩) (fun q => absurd q (by omega))
            have := q_begin55 (post := post) (K := wp_X7_beginOf_B15 post (j + 1)) (w := w) (g := g3) (z := z) (s := s) (o := i) (by omega) (by omega) (ft := f 4 i) (wt := f 7 s) (bits := g_which f h s) (best := (g_tell (fun o => g_most (g_which f h s) (f 4 o) (f 7 s) 7) i).1) (least := (g_tell (fun o => g_most (g_which f h s) (f 4 o) (f 7 s) 7) i).2) (by omega) ((hW.2.1 (by omega) i (by omega)).mono (by omega)) hwt hbits (by rw [hg3 3 (by omega)]; exact hR.2.1 (by omega) i (by omega)) (by rw [hg3 4 (by omega)]; exact e4) (fun g4 hg4 => by
              have nx := ih (i + 1) (by omega) g4 (fun k hk => (hg4 k hk).trans (hg3 k hk))
              rw [g_tell] at nx
              by_cases q : (g_tell (fun o => g_most (g_which f h s) (f 4 o) (f 7 s) 7) i).2 ≤ g_most (g_which f h s) (f 4 i) (f 7 s) 7
              · rw [if_pos q] at nx
                rw [if_pos q, if_pos q]
                exact nx
              · rw [if_neg q] at nx
                rw [if_neg q, if_neg q]
                exact nx) 5 0 rfl g3 (fun _ _ => rfl) (fun y hy => by rw [h0 y hy]; rfl)
            have z0 : g_mx (fun y => g_way (g_which f h s) (f 4 i) (f 7 s) (nI y + (-1)) 0) 7 = 0 := by
              have := g_mx_le (c := fun y => g_way (g_which f h s) (f 4 i) (f 7 s) (nI y + (-1)) 0) (b := 0) (fun y => g_way_le _ _ _ _ 0) 7
              omega
            rw [z0] at this
            exact this
          | succ a ih2 =>
            intro b hb g3 hg3 h0
            rw [wp_X7_beginOf_B28, nI_clamp (by omega), nI_1]
            refine pk_le 7 b (fun q => absurd q (by omega)) (fun _ => ⟨vp_in_nI (by omega) (by omega), ih2 (b + 1) (by omega) _ (fun k hk => by rw [up_ne hk]; exact hg3 k hk) (fun y hy => ?_)⟩)
            rw [up_eq]
            by_cases e : y = b
            · subst e
              rw [pk_us]
            · rw [pk_un e]
              exact h0 y (by omega)
        exact ⟨8, c28 7 0 rfl g2 hg (fun y hy => by omega)⟩
    exact ⟨5, key 4 0 rfl g (fun _ _ => rfl)⟩
theorem RY.keep {f : Nat → Nat → Int32} {u : Nat → Int32} {N m h : Nat} {w w2 : Nat → Int32} {g g2 : Nat → Nat → Int32} (hR : RY f u N m h w g) (hw : w2 6 = w 6 ∧ w2 9 = w 9 ∧ w2 10 = w 10) (hg : g2 3 = g 3 ∧ g2 4 = g 4 ∧ g2 5 = g 5 ∧ g2 8 = g 8) : RY f u N m h w2 g2 := by
  unfold RY
  rw [hw.1, hw.2.1, hw.2.2, hg.1, hg.2.1, hg.2.2.1, hg.2.2.2]
  exact hR
theorem q_tell {post : Int32 → (Nat → Int32) → (Nat → Nat → Int32) → Int64 → Prop} {f : Nat → Nat → Int32} {N m h : Nat} {w : Nat → Int32} {g : Nat → Nat → Int32} {z : Int64} (hW : WF f N m h) (hR : RY f (g_uX f m) N m h w g) {s : Nat} (hs : s < N) {x : Int32} (h1 : ∀ k, k < 9 → x = nI k → ∀ g2 : Nat → Nat → Int32, (∀ k, k ≠ 9 → g2 k = g k) → post (g_ab f N m h s k) w g2 z) (h2 : (¬ ∃ k, k < 9 ∧ x = nI k) → post (-102) w g z) : wp_X7_tell post w g z (nI s) x := by
  have hN4 := hW.1.1
  have hm8 := hW.1.2.1
  obtain ⟨e1, e2, e3⟩ := hR.2.2.1 s hs
  unfold wp_X7_tell
  have h3 : ∀ k, k < 9 → x = nI k → post (g_ab f N m h s k) w g z := fun k hk e => h1 k hk e g (fun _ _ => rfl)
  refine ⟨fun e => ?_, fun e => ?_, fun e => ?_, fun e => q_openOf hW hR (h3 3 (by omega) e), fun e => ?_, fun e => ?_, fun e => q_sureOf hW hR hs (h3 6 (by omega) e), fun e => q_whichOf hW hR hs (h3 7 (by omega) e), fun e => q_beginOf hW hR hs (fun g2 hg => h1 8 (by omega) e g2 hg), fun e => h2 ?_⟩
  · have e' : x = nI 0 := e
    rw [e', m3, nI_add, nI_clamp (by omega), show 3 * s + 0 = 3 * s from rfl, e1]
    exact ⟨vp_in_nI (by omega) (by omega), h3 0 (by omega) e'⟩
  · have e' : x = nI 1 := e
    rw [e', m3, nI_add, nI_clamp (by omega), e2]
    exact ⟨vp_in_nI (by omega) (by omega), h3 1 (by omega) e'⟩
  · have e' : x = nI 2 := e
    rw [e', m3, nI_add, nI_clamp (by omega), e3]
    exact ⟨vp_in_nI (by omega) (by omega), h3 2 (by omega) e'⟩
  · exact q_saidBy (c := 0) hR.1.2.1 hm8 (by omega) (p := f 8) (fun k hk => (hR.2.2.2.1 k hk).1) (h3 4 (by omega) e)
  · exact q_saidBy (c := 2) hR.1.2.1 hm8 (by omega) (p := f 10) (fun k hk => (hR.2.2.2.1 k hk).2.2.1) (h3 5 (by omega) e)
  · rintro ⟨k, hk, rfl⟩
    rw [nI_toInt (by omega)] at e
    omega
/-- what sentence() tells -/
noncomputable def g_se (f : Nat → Nat → Int32) (k : Nat) : Nat → Int32
  | 0 => f 8 k
  | 1 => f 9 k
  | 2 => f 10 k
  | 3 => f 11 k
  | 4 => if g_b (g_asW f k) = true then 1 else 0
  | _ => -102
theorem p_sentence {post : Int32 → Prop} {v : Nat → Int32} {f : Nat → Nat → Int32} {z : Int64} {m : Nat} (hm : v 8 = nI m) (hm8 : m ≤ 8) (hb : ∀ k, k < m → Rg 4 (f 8 k)) {x y : Int32} (h1 : ∀ k, k < m → x = nI k → ∀ j, j < 5 → y = nI j → post (g_se f k j)) (h2 : ∀ k, k < m → x = nI k → (¬ ∃ j, j < 5 ∧ y = nI j) → post (-102)) (h0 : (¬ ∃ k, k < m ∧ x = nI k) → post (-101)) : wp_X6_sentence post v f z x y := by
  unfold wp_X6_sentence
  refine p_isSentence hm hm8 (fun k hk e => br_f (by decide) ?_) (fun c => br_t rfl (h0 c))
  subst e
  rw [nI_clamp (by omega)]
  have h1 := h1 k hk rfl
  have k8 : vp_in (nI k) 8 := vp_in_nI (by omega) (by omega)
  refine ⟨fun e => ⟨k8, h1 0 (by omega) e⟩, fun e => ⟨k8, h1 1 (by omega) e⟩, fun e => ⟨k8, h1 2 (by omega) e⟩, fun e => ⟨k8, h1 3 (by omega) e⟩, fun e => p_isAsWanted (by omega) (hb k hk) (fun c => br_f (by decide) ?_) (fun c => br_t rfl ?_), fun e => h2 k hk rfl ?_⟩
  · have := h1 4 (by omega) e
    rwa [g_se, if_pos (g_bt c)] at this
  · have := h1 4 (by omega) e
    rwa [g_se, if_neg (g_bf c)] at this
  · rintro ⟨j, hj, rfl⟩
    rw [nI_toInt (by omega)] at e
    omega
theorem q_isWanted {post : Int32 → Prop} {f : Nat → Nat → Int32} {u : Nat → Int32} {N m h : Nat} {w : Nat → Int32} {g : Nat → Nat → Int32} {z : Int64} (hW : WF f N m h) (hR : RY f u N m h w g) {k : Nat} (hk : k < m) (h1 : g_asW f k → post 1) (h0 : ¬ g_asW f k → post 0) : wp_X7_isWanted post w g z (nI k) := by
  have hN4 := hW.1.1
  have hm8 := hW.1.2.1
  obtain ⟨e1, e2, e3, e4⟩ := hR.2.2.2.1 k hk
  obtain ⟨⟨b, hb, eb⟩, -, -⟩ := hW.2.2.2.1 k hk
  have ew := (hR.2.2.1 b hb).2.1
  unfold wp_X7_isWanted
  simp (disch := omega) only [m4, nI_1, a2, a3, nI_clamp]
  rw [e1, e3, e4, eb]
  simp (disch := omega) only [m3, nI_1, nI_clamp]
  rw [ew]
  have iff : g_asW f k ↔ ¬ f 10 k = -1 ∧ f 11 k = f 7 b := by
    unfold g_asW
    rw [eb, nI_clamp (by omega)]
  rw [iff] at h1 h0
  exact ⟨vp_in_nI (by omega) (by omega), fun c => h0 (fun q => q.1 c), fun c => ⟨vp_in_nI (by omega) (by omega), vp_in_nI (by omega) (by omega), vp_in_nI (by omega) (by omega), fun d => h1 ⟨c, d⟩, fun d => h0 (fun q => d q.2)⟩⟩
theorem q_tellSentence {post : Int32 → Prop} {f : Nat → Nat → Int32} {u : Nat → Int32} {N m h : Nat} {w : Nat → Int32} {g : Nat → Nat → Int32} {z : Int64} (hW : WF f N m h) (hR : RY f u N m h w g) {k : Nat} (hk : k < m) {y : Int32} (h1 : ∀ j, j < 5 → y = nI j → post (g_se f k j)) (h2 : (¬ ∃ j, j < 5 ∧ y = nI j) → post (-102)) : wp_X7_tellSentence post w g z (nI k) y := by
  have hm8 := hW.1.2.1
  obtain ⟨e1, e2, e3, e4⟩ := hR.2.2.2.1 k hk
  unfold wp_X7_tellSentence
  refine q_inN 4 (by omega) (by decide) (fun j hj e => br_f (by decide) ?_) (fun c => br_t rfl ⟨fun e => ?_, fun e => h2 ?_⟩)
  · subst e
    have := h1 j (by omega) rfl
    simp (disch := omega) only [m4, nI_add, nI_clamp]
    refine ⟨vp_in_nI (by omega) (by omega), ?_⟩
    match j, hj, this with
    | 0, _, this =>
      rw [show 4 * k + 0 = 4 * k from rfl, e1]
      exact this
    | 1, _, this =>
      rw [e2]
      exact this
    | 2, _, this =>
      rw [e3]
      exact this
    | 3, _, this =>
      rw [e4]
      exact this
  · refine q_isWanted hW hR hk (fun c => br_f (by decide) ?_) (fun c => br_t rfl ?_)
    · have := h1 4 (by omega) e
      rwa [g_se, if_pos (g_bt c)] at this
    · have := h1 4 (by omega) e
      rwa [g_se, if_neg (g_bf c)] at this
  · rintro ⟨j, hj, rfl⟩
    by_cases q : j < 4
    · exact c ⟨j, q, rfl⟩
    · obtain rfl : j = 4 := by omega
      exact e rfl
theorem q_wantedMany {post : Int32 → Prop} {f : Nat → Nat → Int32} {u : Nat → Int32} {N m h : Nat} {w : Nat → Int32} {g : Nat → Nat → Int32} {z : Int64} (hW : WF f N m h) (hR : RY f u N m h w g) (hp : post (nI (g_cnt (fun k => g_b (g_asW f k)) m))) : wp_X7_wantedMany post w g z := by
  have hm8 := hW.1.2.1
  have hm := hR.1.2.1
  have key : ∀ j i, i + j = m → wp_X7_wantedMany_B4 post w g z (j + 1) (nI (g_cnt (fun k => g_b (g_asW f k)) i)) (nI i) := by
    intro j
    induction j with
    | zero =>
      intro i hi
      obtain rfl : i = m := by omega
      rw [wp_X7_wantedMany_B4]
      exact pk_le i i (fun _ => hp) (fun q => absurd q (by omega)) hm
    | succ j ih =>
      intro i hi
      rw [wp_X7_wantedMany_B4, nI_1, nI_1, nI_a0]
      have := ih (i + 1) (by omega)
      refine pk_le m i (fun q => absurd q (by omega)) (fun _ => q_isWanted hW hR (by omega) (fun c => br_f (by decide) ?_) (fun c => br_t rfl ?_)) hm
      · rwa [g_cnt, if_pos (g_bt c)] at this
      · rwa [g_cnt, if_neg (g_bf c)] at this
  unfold wp_X7_wantedMany
  exact ⟨m + 1, key m 0 (by omega)⟩
