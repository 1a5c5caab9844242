def nb (r : Int32) : Prop := narrow .boolean (.int r) = .int r
theorem sw_of (x : Int32) (k : Int32) (h : x.toInt = k.toInt) : x = k := Int32.toInt_inj.mp h
theorem sw_0_8 (x : Int32) : x = 0 ∨ x = 1 ∨ x = 2 ∨ x = 3 ∨ x = 4 ∨ x = 5 ∨ x = 6 ∨ x = 7 ∨ x = 8 ∨ (x.toInt < 0 ∨ 8 < x.toInt) := by
  have h : x.toInt = 0 ∨ x.toInt = 1 ∨ x.toInt = 2 ∨ x.toInt = 3 ∨ x.toInt = 4 ∨ x.toInt = 5 ∨ x.toInt = 6 ∨ x.toInt = 7 ∨ x.toInt = 8 ∨ (x.toInt < 0 ∨ 8 < x.toInt) := by omega
  exact h.imp (sw_of x 0) (Or.imp (sw_of x 1) (Or.imp (sw_of x 2) (Or.imp (sw_of x 3) (Or.imp (sw_of x 4) (Or.imp (sw_of x 5) (Or.imp (sw_of x 6) (Or.imp (sw_of x 7) (Or.imp (sw_of x 8) id))))))))
theorem sw_0_4 (x : Int32) : x = 0 ∨ x = 1 ∨ x = 2 ∨ x = 3 ∨ x = 4 ∨ (x.toInt < 0 ∨ 4 < x.toInt) := by
  have h : x.toInt = 0 ∨ x.toInt = 1 ∨ x.toInt = 2 ∨ x.toInt = 3 ∨ x.toInt = 4 ∨ (x.toInt < 0 ∨ 4 < x.toInt) := by omega
  exact h.imp (sw_of x 0) (Or.imp (sw_of x 1) (Or.imp (sw_of x 2) (Or.imp (sw_of x 3) (Or.imp (sw_of x 4) id))))
theorem sw_1_4 (x : Int32) : x = 1 ∨ x = 2 ∨ x = 3 ∨ x = 4 ∨ (x.toInt < 1 ∨ 4 < x.toInt) := by
  have h : x.toInt = 1 ∨ x.toInt = 2 ∨ x.toInt = 3 ∨ x.toInt = 4 ∨ (x.toInt < 1 ∨ 4 < x.toInt) := by omega
  exact h.imp (sw_of x 1) (Or.imp (sw_of x 2) (Or.imp (sw_of x 3) (Or.imp (sw_of x 4) id)))
theorem sw_0_1 (x : Int32) : x = 0 ∨ x = 1 ∨ (x.toInt < 0 ∨ 1 < x.toInt) := by
  have h : x.toInt = 0 ∨ x.toInt = 1 ∨ (x.toInt < 0 ∨ 1 < x.toInt) := by omega
  exact h.imp (sw_of x 0) (Or.imp (sw_of x 1) id)
theorem lk_0_1 {x : Int32} {a b d : Int} (h : x.toInt < 0 ∨ 1 < x.toInt) : Op.lookupswitch.offset [(0, a), (1, b)] d x.toInt = d := by
  show (if (0 : Int) = x.toInt then a else if (1 : Int) = x.toInt then b else d) = d
  rw [if_neg (by omega), if_neg (by omega)]
def rmX7_copy : Room := { frames := 0, cells := 0, slots := 0, locals := 0 }
theorem cpy_0 (g h : Nat → Int32) : va_cpy g h 0 0 0 = h := by
  funext k
  simp [va_cpy]
theorem cpy_s (g h : Nat → Int32) (i : Nat) : upd (va_cpy g h 0 0 i) i (g i) = va_cpy g h 0 0 (i + 1) := by
  funext k
  by_cases e : k = i
  · subst e
    simp [upd, va_cpy]
  · by_cases q : k < i
    · have q2 : k < i + 1 := by omega
      simp [upd, va_cpy, e, q, q2]
    · have q2 : ¬ k < i + 1 := by omega
      simp [upd, va_cpy, e, q, q2]
set_option maxHeartbeats 4000000 in
set_option maxRecDepth 100000 in
theorem c_X7_copy (l : Launch) (D : va_G) (cI : ClassId) (a b n : Nat) (hn : n < 2 ^ 31) (g h0 : Nat → Int32) (sz : Nat) : Met l yX7_copy wsX7_copy rmX7_copy (va_Pc [.ref a, .ref b] (mP D cI [(a, .inl (cI, n, .inl g)), (b, .inl (cI, n, .inl h0))] sz)) (va_Qv (fun _ : Unit => True) (fun _ t => va_P D vwCl [(a, .inl (cI, n, .inl g)), (b, .inl (cI, n, .inl (va_cpy g h0 0 0 n)))] t.heap ∧ va_K D vwCl [(cI, .int)] t ∧ va_D (va_A [(a, .inl (cI, n, .inl g)), (b, .inl (cI, n, .inl h0))] sz) [(a, .inl (cI, n, .inl g)), (b, .inl (cI, n, .inl (va_cpy g h0 0 0 n)))]) (va_A [(a, .inl (cI, n, .inl g)), (b, .inl (cI, n, .inl h0))] sz)) 0 0 (va_A [(a, .inl (cI, n, .inl g)), (b, .inl (cI, n, .inl h0))] sz) := by
  refine Met.ofW (cc := cX7_copy) (maxL := 3) (ret := none) (by decide) rfl ?_
  intro p e s m args below meth c s₁ B hml hv
  obtain ⟨rfl, hsz, ⟨hP, hK, hN⟩, hD0⟩ := hv
  have hx := B.exec
  have hb := B.bytes
  have hr := B.returns
  have hlocks : meth.locks = false := B.notSynchronized
  subst hsz
  have hD := hD0.self (sz := s.heap.size)
  generalize hAe : va_A [(a, .inl (cI, n, .inl g)), (b, .inl (cI, n, .inl h0))] s.heap.size = A at hD ⊢
  have hS : va_S A s.heap s.heap [] := va_S.rf
  have hl := lv_entry ([.ref a, .ref b]) (n := 3) (Nat.le_of_ble_eq_true rfl)
  rw [lg_entry_eq]
  generalize (lg_sl ([.ref a, .ref b]) ++ List.replicate (3 - (lg_sl ([.ref a, .ref b])).length) Slot.unset).toArray = ls at hl ⊢
  have hl : lv_has ls 3 [(0, .ref a), (1, .ref b)] := hl
  have B2 : ∀ (k i : Nat), i + k = n → ∀ (H : Heap) (locs : List Loc), va_P D vwCl [(a, .inl (cI, n, .inl g)), (b, .inl (cI, n, .inl (va_cpy g h0 0 0 i)))] H → va_D A [(a, .inl (cI, n, .inl g)), (b, .inl (cI, n, .inl (va_cpy g h0 0 0 i)))] → va_S A s.heap H locs → ∀ (ls : Array Slot), lv_has ls 3 [(0, .ref a), (1, .ref b), (2, .int (nI i))] → W p l e (headSpec wsX7_copy rmX7_copy).room s m ([.ref a, .ref b] : List Value).toArray below meth c H locs 0 0 (MQ below (va_Qv (fun _ : Unit => True) (fun _ t => va_P D vwCl [(a, .inl (cI, n, .inl g)), (b, .inl (cI, n, .inl (va_cpy g h0 0 0 n)))] t.heap ∧ va_K D vwCl [(cI, .int)] t ∧ va_D A [(a, .inl (cI, n, .inl g)), (b, .inl (cI, n, .inl (va_cpy g h0 0 0 n)))]) A) ([.ref a, .ref b] : List Value).toArray s 0 0 A) (F0 m 2 ls []) := by
    intro k
    induction k with
    | zero =>
      intro i hi H locs hP hD hS ls hl
      obtain rfl : i = n := by omega
      refine lv_iload_n hx hb dX7_copy_2 rfl (lv_at hl 2 rfl) ?_
      refine lv_aload_n hx hb dX7_copy_3 rfl (lv_at hl 0 rfl) ?_
      refine va_alen hx hb hK hP 0 0 (x := (i, .inl g)) rfl rfl rfl dX7_copy_4 ?_
      refine lv_icmp_ge (tgt := 20) hx hb dX7_copy_5 (by decide) (fun c9 => ?_) (fun c9 => ?_)
      · exact W.vret hx hb hr (fun t ht hW => ⟨⟨(), rfl, trivial, by rw [ht]; exact hP, va_K.moved hW.alike hK, hD⟩, hS.F ht⟩) hS.2.2 dX7_copy_20 hlocks
      · exact absurd (nI_le (Nat.le_refl i) hn) c9
    | succ k ih =>
      intro i hi H locs hP hD hS ls hl
      refine lv_iload_n hx hb dX7_copy_2 rfl (lv_at hl 2 rfl) ?_
      refine lv_aload_n hx hb dX7_copy_3 rfl (lv_at hl 0 rfl) ?_
      refine va_alen hx hb hK hP 0 0 (x := (n, .inl g)) rfl rfl rfl dX7_copy_4 ?_
      refine lv_icmp_ge (tgt := 20) hx hb dX7_copy_5 (by decide) (fun c9 => ?_) (fun c9 => ?_)
      · exact absurd c9 (nI_ge (by omega) hn)
      · refine lv_aload_n hx hb dX7_copy_8 rfl (lv_at hl 1 rfl) ?_
        refine lv_iload_n hx hb dX7_copy_9 rfl (lv_at hl 2 rfl) ?_
        refine lv_aload_n hx hb dX7_copy_10 rfl (lv_at hl 0 rfl) ?_
        refine lv_iload_n hx hb dX7_copy_11 rfl (lv_at hl 2 rfl) ?_
        refine va_iald hx hb hK hP 0 0 (f := g) rfl rfl (vp_in_nI (by omega) hn) dX7_copy_12 ?_
        refine va_iast hx hb hK hP hD hS 1 0 (f := va_cpy g h0 0 0 i) rfl rfl (vp_in_nI (by omega) hn) dX7_copy_13 (fun H locs hP hD hS => ?_)
        rw [nI_clamp (by omega), cpy_s] at hP hD
        have hP : va_P D vwCl [(a, .inl (cI, n, .inl g)), (b, .inl (cI, n, .inl (va_cpy g h0 0 0 (i + 1))))] H := hP
        have hD : va_D A [(a, .inl (cI, n, .inl g)), (b, .inl (cI, n, .inl (va_cpy g h0 0 0 (i + 1))))] := hD
        refine lv_iinc (v := nI (i + 1)) (lv' := [(2, .int (nI (i + 1))), (0, .ref a), (1, .ref b)]) hx hb dX7_copy_14 hl (k := 2) rfl (nI_1 i) (by decide) rfl (fun ls hl => ?_)
        refine lv_goto (tgt := 2) hx hb dX7_copy_17 (by decide) ?_
        exact ih (i + 1) (by omega) H locs hP hD hS ls (lv_sub hl [1, 2, 0] rfl)
  refine lv_iconst (v := nI 0) hx hb dX7_copy_0 (by decide) ?_
  refine lv_istore_n (lv' := [(2, .int (nI 0)), (0, .ref a), (1, .ref b)]) hx hb dX7_copy_1 rfl hl (by decide) rfl (fun ls hl => ?_)
  rw [← cpy_0 g h0] at hP hD
  exact B2 n 0 (by omega) _ _ hP hD hS ls (lv_sub hl [1, 2, 0] rfl)
section
variable {p : Program} {l : Launch} {e : Env} {R : Room} {s : State} {m : MethodId} {args : Array Value} {below : List Frame} {meth : Method} {c : Code} {H : Heap} {locs : List Loc} {cells slots : Nat} {Q : State → Prop} {cc : ByteArray} {pc : Nat} {ls : Array Slot} {rest st0 : List Value} {D : va_G} {A : Nat → Prop} {cI : ClassId} {H0 : Heap} {Ts : List Cond} {own : String} {index nL maxL : Nat} {bytes : ByteArray} {ret : Option FieldType}
theorem cpW {ws : va_W} (i j : Nat) {a b n : Nat} {f0 f1 : Nat → Int32} (S : CallFix p m c cc nL s args Ts own) (cw : CallB R s args own index yX7_copy bytes maxL ret wsX7_copy rmX7_copy 0 0 2 ∧ (Cond.static yX7_copy).before args s = true) (hn : n < 2 ^ 31) (hK : va_K D vwCl [(cI, .int)] s) (hP : va_P D vwCl ws H) (hN : NW s) (hD : va_D A ws) (hS : va_S A H0 H locs) (hA : ∀ q, H0.size ≤ q → A q) (hij : i ≠ j) (hi : ws[i]? = some (a, .inl (cI, n, .inl f0))) (hj : ws[j]? = some (b, .inl (cI, n, .inl f1))) (hsz : ls.size = nL) (hst : st0 = [.ref b, .ref a] ++ rest) (hW : (rest.map fun v => v.category).sum ≤ 8) (hdg : decode cc pc = .ok (.invokestatic index, 3)) (hc : cells ≤ R.cells) (hs : slots ≤ R.slots)
    (kk : ∀ (H1 : Heap) (locs1 : List Loc), va_P D vwCl (ws.set j (b, .inl (cI, n, .inl (va_cpy f0 f1 0 0 n)))) H1 → va_D A (ws.set j (b, .inl (cI, n, .inl (va_cpy f0 f1 0 0 n)))) → va_S A H0 H1 locs1 → W p l e R s m args below meth c H1 locs1 cells slots Q (F0 m (pc + 3) ls rest)) : W p l e R s m args below meth c H locs cells slots Q (F0 m pc ls st0) := by
  have hC : [i, j].map (fun i => ws[i]?) = ([(a, .inl (cI, n, .inl f0)), (b, .inl (cI, n, .inl f1))] : va_W).map some := by simp [hi, hj]
  have hPc : va_P D vwCl [(a, .inl (cI, n, .inl f0)), (b, .inl (cI, n, .inl f1))] H := hP.sub [i, j] (by simp [hi, hj])
  have hDc : va_D A [(a, .inl (cI, n, .inl f0)), (b, .inl (cI, n, .inl f1))] := hD.sub [i, j] (by simp [va_nd, hij]) hC
  have hF := va_free (wc := [(a, .inl (cI, n, .inl f0)), (b, .inl (cI, n, .inl f1))]) hD hS hA [i, j] hC
  refine va_callv (va_runS (g := F0 m pc ls st0) S (c_X7_copy l D cI a b n hn f0 f1 H.size) cw ⟨mP.blind, fun U hU hW => ⟨rfl, by rw [hU], ⟨by rw [hU]; exact hPc, va_K.moved hW.alike hK, NW.warm hW hN⟩, hDc.weaken (fun _ _ _ _ => trivial)⟩⟩ rfl rfl hsz hst (lv_room hW) hdg ⟨hc, hs⟩) hS (fun q _ h => hF q h) hF (fun u t H1 locs1 ht hvm hp hB hz hk hS1 => ?_)
  obtain ⟨hP1, hK1, hD1⟩ := hB
  rw [ht] at hP1
  have hjl : j < ws.length := (List.getElem?_eq_some_iff.mp hj).1
  refine kk H1 locs1 ?_ (hD.set hj) hS1
  intro k q hq
  by_cases hkj : k = j
  · subst hkj
    rw [List.getElem?_set_self hjl] at hq
    exact hP1 1 q hq
  · rw [List.getElem?_set_ne (fun e => hkj e.symm)] at hq
    by_cases hki : k = i
    · subst hki
      exact hP1 0 q (by rw [← hq, hi]; rfl)
    · have hlt := (hP k q hq).lt
      refine (hP k q hq).kept (hk q.1 hlt (fun h => ?_))
      rcases h with ⟨k2, e2, h⟩ | h
      · match k2, h with
        | 0, h =>
          have h0 : (a, (.inl (cI, n, .inl f0) : va_E)) = (q.1, e2) := Option.some.inj h
          exact hki (hD.1 k i q _ hq hi (congrArg Prod.fst h0).symm)
        | 1, h =>
          have h0 : (b, (.inl (cI, n, .inl f1) : va_E)) = (q.1, e2) := Option.some.inj h
          exact hkj (hD.1 k j q _ hq hj (congrArg Prod.fst h0).symm)
        | k2 + 2, h => simp at h
      · omega
end
