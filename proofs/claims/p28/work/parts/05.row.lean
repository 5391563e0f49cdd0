/-! HangingChain$Row (X3): its contracts. Laid by wip/whole/gen.py, s05_row.py. -/
def outN (n : Nat) (f : Fn) (k : Nat) : Fn := fun j => if j < k then f j else rdN n f (j + 1)
theorem outN_step {n k i : Nat} {f g : Fn} (hk : k ≤ i) (hi : i < n) (hg : ∀ j, g j = (if j < i then outN n f k j else f j)) : ∀ j, upd g i (rdN n g (i + 1)) j = (if j < i + 1 then outN n f k j else f j) := by
  intro j
  unfold upd
  by_cases hj : j = i
  · subst hj
    rw [if_pos rfl, if_pos (by omega)]
    have e : outN n f k j = rdN n f (j + 1) := if_neg (by omega)
    rw [e]
    unfold rdN
    by_cases h : j + 1 < n
    · rw [if_pos h, if_pos h, hg, if_neg (by omega)]
    · rw [if_neg h, if_neg h]
  · rw [if_neg hj, hg]
    by_cases h : j < i
    · rw [if_pos h, if_pos (by omega)]
    · rw [if_neg h, if_neg (by omega)]
theorem outN_end {n k i : Nat} {f g : Fn} (hg : ∀ j, g j = (if j < i then outN n f k j else f j)) (hi : n ≤ i) {j : Nat} (hj : j < n) : g j = outN n f k j := by
  rw [hg, if_pos (by omega)]
def turnN (f : Fn) (k : Nat) : Fn := fun j => if j < k then f (k - 1 - j) else f j
theorem turnN_step {k i b : Nat} {f g : Fn} (hib : i < b) (hk : i + b + 1 = k) (hg : ∀ j, g j = (if j < i ∨ (b < j ∧ j < k) then turnN f k j else f j)) : ∀ j, upd (upd g i (g b)) b (g i) j = (if j < i + 1 ∨ (b - 1 < j ∧ j < k) then turnN f k j else f j) := by
  intro j
  unfold upd
  by_cases h1 : j = b
  · subst h1
    rw [if_pos rfl, if_pos (by omega), hg, if_neg (by omega)]
    unfold turnN
    rw [if_pos (by omega)]
    congr 1
    omega
  · rw [if_neg h1]
    by_cases h2 : j = i
    · subst h2
      rw [if_pos rfl, if_pos (by omega), hg, if_neg (by omega)]
      unfold turnN
      rw [if_pos (by omega)]
      congr 1
      omega
    · rw [if_neg h2, hg]
      by_cases h : j < i ∨ (b < j ∧ j < k)
      · rw [if_pos h, if_pos (by omega)]
      · rw [if_neg h, if_neg (by omega)]
theorem turnN_end {k i b : Nat} {f g : Fn} (hg : ∀ j, g j = (if j < i ∨ (b < j ∧ j < k) then turnN f k j else f j)) (h : b ≤ i ∧ i + b + 1 = k) {j : Nat} : g j = turnN f k j := by
  rw [hg]
  by_cases h1 : j < i ∨ (b < j ∧ j < k)
  · rw [if_pos h1]
  · rw [if_neg h1]
    unfold turnN
    by_cases h2 : j < k
    · rw [if_pos h2]
      congr 1
      omega
    · rw [if_neg h2]
set_option maxHeartbeats 4000000 in
set_option maxRecDepth 100000 in
/-- Row.at: the cell, 0 outside -/
theorem c_X3_at (l : Launch) (G : kG) (h0 : Nat) (a0 : Nat) (n : Nat) (f : Fn) (k : Nat) (sz : Nat) (hn : n < 2 ^ 26) (hk : k < 2 ^ 30) : kMet l yX3_at wsX3_at ({ frames := 0, cells := 0, slots := 0, locals := 0 } : Room) G [.ref h0, .int (nI (k))] [(h0, .inr (3, [.ref a0])), (a0, .inl (G.2.1, n, .inl f))] sz (kQi G (fun (r : Int32) (u : Unit) => r = rdN n f k) (fun (u : Unit) => [(h0, .inr (3, [.ref a0])), (a0, .inl (G.2.1, n, .inl f))])) 0 0 := by
  refine k_entry (cc := cX3_at) (maxL := 2) (ret := (some .int)) (by decide) rfl (Nat.le_of_ble_eq_true rfl) ?_
  intro p e s m args below meth c A ls H locs Q hQ hx hb hml hr hts hown hlocks hin hA hP hK hD hS hl
  have hown : s.vm.findClass RX3 = some m.cls := hown
  have hl : lv_has ls 2 [(0, .ref h0), (1, .int (nI (k)))] := hl
  have hf7 := hts (.fieldLink RX3 7 "HangingChain$Row" "cells" "[I") (by decide +kernel)
  have hinX3 : ∀ w ∈ wsX30, w ∈ wsX3_at := by decide +kernel
  refine lv_iload_n hx hb dX3_at_0 rfl (lv_at hl 1 rfl) ?_
  refine g_if_lt (a := k) (tgt := 22) hx hb (by omega) dX3_at_1 (by decide) ?_
  refine lv_iload_n hx hb dX3_at_4 rfl (lv_at hl 1 rfl) ?_
  refine lv_aload_n hx hb dX3_at_5 rfl (lv_at hl 0 rfl) ?_
  refine va_get (D := G.1) (ci := 3) (v := .ref a0) (C := RX3) (T := TX3) (N := 1) hx hb hts hinX3 hown hK hP 0 rfl rfl 0 (by decide) hf7 (fun _ h9 => h9) rfl dX3_at_6 ?_
  refine va_alen (v := nI n) hx hb hK hP 1 0 rfl rfl rfl dX3_at_9 ?_
  refine g_icmp_ge (a := k) (b := n) (tgt := 22) hx hb (by omega) (by omega) dX3_at_10 (by decide) (fun c_10 => ?_) (fun c_10 => ?_)
  · skip
    refine lv_iconst (v := 0) hx hb dX3_at_22 (by decide) ?_
    rw [hQ]
    exact k_iret (v := 0) () [0, 1] hx hb hr hlocks ((rdN_out (by assumption)).symm) hK hP hD hS rfl (by decide) dX3_at_23
  · skip
    refine lv_aload_n hx hb dX3_at_13 rfl (lv_at hl 0 rfl) ?_
    refine va_get (D := G.1) (ci := 3) (v := .ref a0) (C := RX3) (T := TX3) (N := 1) hx hb hts hinX3 hown hK hP 0 rfl rfl 0 (by decide) hf7 (fun _ h9 => h9) rfl dX3_at_14 ?_
    refine lv_iload_n hx hb dX3_at_17 rfl (lv_at hl 1 rfl) ?_
    refine g_iald (k := k) hx hb hK hP 1 rfl (by omega) (by omega) dX3_at_18 ?_
    refine lv_goto (tgt := 23) hx hb dX3_at_19 (by decide) ?_
    rw [hQ]
    exact k_iret (v := f k) () [0, 1] hx hb hr hlocks ((rdN_in (by assumption)).symm) hK hP hD hS rfl (by decide) dX3_at_23
theorem c_X3_atI (l : Launch) (G : kG) (h0 : Nat) (a0 : Nat) (n : Nat) (f : Fn) (k : Nat) (sz : Nat) (hn : n < 2 ^ 26) (hk : k < n) : kMet l yX3_at wsX3_at ({ frames := 0, cells := 0, slots := 0, locals := 0 } : Room) G [.ref h0, .int (nI (k))] [(h0, .inr (3, [.ref a0])), (a0, .inl (G.2.1, n, .inl f))] sz (kQi G (fun (r : Int32) (u : Unit) => r = f k) (fun (u : Unit) => [(h0, .inr (3, [.ref a0])), (a0, .inl (G.2.1, n, .inl f))])) 0 0 := by
  have h := c_X3_at l G h0 a0 n f k sz hn (by omega)
  rw [rdN_in hk] at h
  exact h
set_option maxHeartbeats 4000000 in
set_option maxRecDepth 100000 in
/-- Row.put: nothing outside -/
theorem c_X3_put (l : Launch) (G : kG) (h0 : Nat) (a0 : Nat) (n : Nat) (f : Fn) (k : Nat) (v : Int32) (sz : Nat) (hn : n < 2 ^ 26) (hk : k < 2 ^ 30) : kMet l yX3_put wsX3_put ({ frames := 0, cells := 0, slots := 0, locals := 0 } : Room) G [.ref h0, .int (nI (k)), .int v] [(h0, .inr (3, [.ref a0])), (a0, .inl (G.2.1, n, .inl f))] sz (kQv G (fun (u : Unit) => True) (fun (u : Unit) => [(h0, .inr (3, [.ref a0])), (a0, .inl (G.2.1, n, .inl (wrN n f k v)))])) 0 0 := by
  refine k_entry (cc := cX3_put) (maxL := 3) (ret := none) (by decide) rfl (Nat.le_of_ble_eq_true rfl) ?_
  intro p e s m args below meth c A ls H locs Q hQ hx hb hml hr hts hown hlocks hin hA hP hK hD hS hl
  have hown : s.vm.findClass RX3 = some m.cls := hown
  have hl : lv_has ls 3 [(0, .ref h0), (1, .int (nI (k))), (2, .int v)] := hl
  have hf7 := hts (.fieldLink RX3 7 "HangingChain$Row" "cells" "[I") (by decide +kernel)
  have hinX3 : ∀ w ∈ wsX30, w ∈ wsX3_put := by decide +kernel
  refine lv_iload_n hx hb dX3_put_0 rfl (lv_at hl 1 rfl) ?_
  refine g_if_lt (a := k) (tgt := 20) hx hb (by omega) dX3_put_1 (by decide) ?_
  refine lv_iload_n hx hb dX3_put_4 rfl (lv_at hl 1 rfl) ?_
  refine lv_aload_n hx hb dX3_put_5 rfl (lv_at hl 0 rfl) ?_
  refine va_get (D := G.1) (ci := 3) (v := .ref a0) (C := RX3) (T := TX3) (N := 1) hx hb hts hinX3 hown hK hP 0 rfl rfl 0 (by decide) hf7 (fun _ h9 => h9) rfl dX3_put_6 ?_
  refine va_alen (v := nI n) hx hb hK hP 1 0 rfl rfl rfl dX3_put_9 ?_
  refine g_icmp_ge (a := k) (b := n) (tgt := 20) hx hb (by omega) (by omega) dX3_put_10 (by decide) (fun c_10 => ?_) (fun c_10 => ?_)
  · skip
    refine g_cong (g := wrN n f k v) 1 hP hD rfl (fun j hj => by first | rw [wrN_in (by omega)] | (unfold wrN; rw [if_neg (by omega)])) (fun hP hD => ?_)
    have hP : va_P G.1 vwCl [(h0, .inr (3, [.ref a0])), (a0, .inl (G.2.1, n, .inl (wrN n f k v)))] H := hP
    have hD : va_D A [(h0, .inr (3, [.ref a0])), (a0, .inl (G.2.1, n, .inl (wrN n f k v)))] := hD
    rw [hQ]
    exact k_vret () [0, 1] hx hb hr hlocks (trivial) hK hP hD hS rfl (by decide) dX3_put_20
  · skip
    refine lv_aload_n hx hb dX3_put_13 rfl (lv_at hl 0 rfl) ?_
    refine va_get (D := G.1) (ci := 3) (v := .ref a0) (C := RX3) (T := TX3) (N := 1) hx hb hts hinX3 hown hK hP 0 rfl rfl 0 (by decide) hf7 (fun _ h9 => h9) rfl dX3_put_14 ?_
    refine lv_iload_n hx hb dX3_put_17 rfl (lv_at hl 1 rfl) ?_
    refine lv_iload_n hx hb dX3_put_18 rfl (lv_at hl 2 rfl) ?_
    refine g_iast (k := k) hx hb hK hP hD hS 1 rfl (by omega) (by omega) dX3_put_19 (fun H locs hP hD hS => ?_)
    have hP : va_P G.1 vwCl [(h0, .inr (3, [.ref a0])), (a0, .inl (G.2.1, n, .inl (upd f k v)))] H := hP
    have hD : va_D A [(h0, .inr (3, [.ref a0])), (a0, .inl (G.2.1, n, .inl (upd f k v)))] := hD
    refine g_cong (g := wrN n f k v) 1 hP hD rfl (fun j hj => by first | rw [wrN_in (by omega)] | (unfold wrN; rw [if_neg (by omega)])) (fun hP hD => ?_)
    have hP : va_P G.1 vwCl [(h0, .inr (3, [.ref a0])), (a0, .inl (G.2.1, n, .inl (wrN n f k v)))] H := hP
    have hD : va_D A [(h0, .inr (3, [.ref a0])), (a0, .inl (G.2.1, n, .inl (wrN n f k v)))] := hD
    rw [hQ]
    exact k_vret () [0, 1] hx hb hr hlocks (trivial) hK hP hD hS rfl (by decide) dX3_put_20
theorem c_X3_putI (l : Launch) (G : kG) (h0 : Nat) (a0 : Nat) (n : Nat) (f : Fn) (k : Nat) (v : Int32) (sz : Nat) (hn : n < 2 ^ 26) (hk : k < n) : kMet l yX3_put wsX3_put ({ frames := 0, cells := 0, slots := 0, locals := 0 } : Room) G [.ref h0, .int (nI (k)), .int v] [(h0, .inr (3, [.ref a0])), (a0, .inl (G.2.1, n, .inl f))] sz (kQv G (fun (u : Unit) => True) (fun (u : Unit) => [(h0, .inr (3, [.ref a0])), (a0, .inl (G.2.1, n, .inl (upd f k v)))])) 0 0 := by
  have h := c_X3_put l G h0 a0 n f k v sz hn (by omega)
  rw [wrN_in hk] at h
  exact h
set_option maxHeartbeats 4000000 in
set_option maxRecDepth 100000 in
/-- Row.sum of the first k -/
theorem c_X3_sum (l : Launch) (G : kG) (h0 : Nat) (a0 : Nat) (n : Nat) (f : Fn) (k : Nat) (sz : Nat) (hn : n < 2 ^ 26) (hk : k ≤ n) : kMet l yX3_sum wsX3_sum ({ frames := 0, cells := 0, slots := 0, locals := 0 } : Room) G [.ref h0, .int (nI (k))] [(h0, .inr (3, [.ref a0])), (a0, .inl (G.2.1, n, .inl f))] sz (kQi G (fun (r : Int32) (u : Unit) => r = sumN f k) (fun (u : Unit) => [(h0, .inr (3, [.ref a0])), (a0, .inl (G.2.1, n, .inl f))])) 0 0 := by
  refine k_entry (cc := cX3_sum) (maxL := 4) (ret := (some .int)) (by decide) rfl (Nat.le_of_ble_eq_true rfl) ?_
  intro p e s m args below meth c A ls H locs Q hQ hx hb hml hr hts hown hlocks hin hA hP hK hD hS hl
  have hown : s.vm.findClass RX3 = some m.cls := hown
  have hl : lv_has ls 4 [(0, .ref h0), (1, .int (nI (k)))] := hl
  have hf7 := hts (.fieldLink RX3 7 "HangingChain$Row" "cells" "[I") (by decide +kernel)
  have hinX3 : ∀ w ∈ wsX30, w ∈ wsX3_sum := by decide +kernel
  refine lv_iconst (v := 0) hx hb dX3_sum_0 (by decide) ?_
  refine lv_istore_n (lv' := [(2, .int 0), (0, .ref h0), (1, .int (nI (k)))]) hx hb dX3_sum_1 rfl hl (by decide) rfl (fun ls hl => ?_)
  refine lv_iconst (v := 0) hx hb dX3_sum_2 (by decide) ?_
  refine lv_istore_n (lv' := [(3, .int 0), (2, .int 0), (0, .ref h0), (1, .int (nI (k)))]) hx hb dX3_sum_3 rfl hl (by decide) rfl (fun ls hl => ?_)
  have L4 : ∀ (n9 : Nat) (i : Nat) (t : Int32), (i ≤ k) → (t = sumN f i) → (k - i < n9) → ∀ (H : Heap) (locs : List Loc) (ls : Array Slot), va_P G.1 vwCl [(h0, .inr (3, [.ref a0])), (a0, .inl (G.2.1, n, .inl f))] H → va_D A [(h0, .inr (3, [.ref a0])), (a0, .inl (G.2.1, n, .inl f))] → va_S A s.heap H locs → lv_has ls 4 [(3, .int (nI i)), (2, .int t), (0, .ref h0), (1, .int (nI (k)))] → W p l e ({ frames := 0, cells := 0, slots := 0, locals := 0 } : Room) s m args below meth c H locs 0 0 Q (F0 m 4 ls []) := by
    intro n9
    induction n9 with
    | zero =>
      intro i t hi ht hm9 H locs ls hP hD hS hl
      exact absurd hm9 (Nat.not_lt_zero _)
    | succ n9 ih4 =>
      intro i t hi ht hm9 H locs ls hP hD hS hl
      refine lv_iload_n hx hb dX3_sum_4 rfl (lv_at hl 0 rfl) ?_
      refine lv_iload_n hx hb dX3_sum_5 rfl (lv_at hl 3 rfl) ?_
      refine g_icmp_ge (a := i) (b := k) (tgt := 33) hx hb (by omega) (by omega) dX3_sum_6 (by decide) (fun c_6 => ?_) (fun c_6 => ?_)
      · skip
        refine lv_iload_n hx hb dX3_sum_33 rfl (lv_at hl 1 rfl) ?_
        rw [hQ]
        exact k_iret (v := t) () [0, 1] hx hb hr hlocks (by rw [ht]; congr 1; omega) hK hP hD hS rfl (by decide) dX3_sum_34
      · skip
        refine lv_iload_n hx hb dX3_sum_9 rfl (lv_at hl 0 rfl) ?_
        refine lv_aload_n hx hb dX3_sum_10 rfl (lv_at hl 2 rfl) ?_
        refine va_get (D := G.1) (ci := 3) (v := .ref a0) (C := RX3) (T := TX3) (N := 1) hx hb hts hinX3 hown hK hP 0 rfl rfl 0 (by decide) hf7 (fun _ h9 => h9) rfl dX3_sum_11 ?_
        refine va_alen (v := nI n) hx hb hK hP 1 0 rfl rfl rfl dX3_sum_14 ?_
        refine g_icmp_ge (a := i) (b := n) (tgt := 33) hx hb (by omega) (by omega) dX3_sum_15 (by decide) (fun c_15 => ?_) (fun c_15 => ?_)
        · omega
        · skip
          refine lv_iload_n hx hb dX3_sum_18 rfl (lv_at hl 1 rfl) ?_
          refine lv_aload_n hx hb dX3_sum_19 rfl (lv_at hl 2 rfl) ?_
          refine va_get (D := G.1) (ci := 3) (v := .ref a0) (C := RX3) (T := TX3) (N := 1) hx hb hts hinX3 hown hK hP 0 rfl rfl 0 (by decide) hf7 (fun _ h9 => h9) rfl dX3_sum_20 ?_
          refine lv_iload_n hx hb dX3_sum_23 rfl (lv_at hl 0 rfl) ?_
          refine g_iald (k := i) hx hb hK hP 1 rfl (by omega) (by omega) dX3_sum_24 ?_
          refine lv_iadd hx hb dX3_sum_25 ?_
          refine lv_istore_n (lv' := [(2, .int (t + (f i))), (3, .int (nI i)), (0, .ref h0), (1, .int (nI (k)))]) hx hb dX3_sum_26 rfl hl (by decide) rfl (fun ls hl => ?_)
          refine lv_iinc (v := nI (i + 1)) (lv' := [(3, .int (nI (i + 1))), (2, .int (t + (f i))), (0, .ref h0), (1, .int (nI (k)))]) hx hb dX3_sum_27 hl (k := 1) rfl (nI_add (i) 1) (by decide) rfl (fun ls hl => ?_)
          refine lv_goto (tgt := 4) hx hb dX3_sum_30 (by decide) ?_
          exact ih4 (i + 1) (t + f i) (by first | assumption | omega) (by rw [ht]; rfl) (by omega) _ _ _ hP hD hS (lv_sub hl [0, 1, 2, 3] rfl)
  exact L4 (k - 0 + 1) 0 0 (by first | assumption | omega) (rfl) (Nat.lt_succ_self _) _ _ _ hP hD hS (lv_sub hl [0, 1, 2, 3] rfl)
set_option maxHeartbeats 4000000 in
set_option maxRecDepth 100000 in
/-- Row.copyFrom of a row of the same length -/
theorem c_X3_copyFrom (l : Launch) (G : kG) (h0 : Nat) (a0 : Nat) (n : Nat) (f : Fn) (h1 : Nat) (a1 : Nat) (o : Fn) (sz : Nat) (hn : n < 2 ^ 26) : kMet l yX3_copyFrom wsX3_copyFrom ({ frames := 1, cells := 0, slots := 0, locals := 21 } : Room) G [.ref h0, .ref h1] [(h0, .inr (3, [.ref a0])), (a0, .inl (G.2.1, n, .inl f)), (h1, .inr (3, [.ref a1])), (a1, .inl (G.2.1, n, .inl o))] sz (kQv G (fun (u : Unit) => True) (fun (u : Unit) => [(h0, .inr (3, [.ref a0])), (a0, .inl (G.2.1, n, .inl o)), (h1, .inr (3, [.ref a1])), (a1, .inl (G.2.1, n, .inl o))])) 0 0 := by
  refine k_entry (cc := cX3_copyFrom) (maxL := 3) (ret := none) (by decide) rfl (Nat.le_of_ble_eq_true rfl) ?_
  intro p e s m args below meth c A ls H locs Q hQ hx hb hml hr hts hown hlocks hin hA hP hK hD hS hl
  have hown : s.vm.findClass RX3 = some m.cls := hown
  have hl : lv_has ls 3 [(0, .ref h0), (1, .ref h1)] := hl
  have hf7 := hts (.fieldLink RX3 7 "HangingChain$Row" "cells" "[I") (by decide +kernel)
  have hinX3 : ∀ w ∈ wsX30, w ∈ wsX3_copyFrom := by decide +kernel
  refine lv_iconst (v := 0) hx hb dX3_copyFrom_0 (by decide) ?_
  refine lv_istore_n (lv' := [(2, .int 0), (0, .ref h0), (1, .ref h1)]) hx hb dX3_copyFrom_1 rfl hl (by decide) rfl (fun ls hl => ?_)
  have L2 : ∀ (n9 : Nat) (i : Nat) (g : Fn), (i ≤ n) → (∀ j, j < i → g j = o j) → (n - i < n9) → ∀ (H : Heap) (locs : List Loc) (ls : Array Slot), va_P G.1 vwCl [(h0, .inr (3, [.ref a0])), (a0, .inl (G.2.1, n, .inl g)), (h1, .inr (3, [.ref a1])), (a1, .inl (G.2.1, n, .inl o))] H → va_D A [(h0, .inr (3, [.ref a0])), (a0, .inl (G.2.1, n, .inl g)), (h1, .inr (3, [.ref a1])), (a1, .inl (G.2.1, n, .inl o))] → va_S A s.heap H locs → lv_has ls 3 [(2, .int (nI i)), (0, .ref h0), (1, .ref h1)] → W p l e ({ frames := 1, cells := 0, slots := 0, locals := 21 } : Room) s m args below meth c H locs 0 0 Q (F0 m 2 ls []) := by
    intro n9
    induction n9 with
    | zero =>
      intro i g hi hg hm9 H locs ls hP hD hS hl
      exact absurd hm9 (Nat.not_lt_zero _)
    | succ n9 ih2 =>
      intro i g hi hg hm9 H locs ls hP hD hS hl
      refine lv_iload_n hx hb dX3_copyFrom_2 rfl (lv_at hl 0 rfl) ?_
      refine lv_aload_n hx hb dX3_copyFrom_3 rfl (lv_at hl 1 rfl) ?_
      refine va_get (D := G.1) (ci := 3) (v := .ref a0) (C := RX3) (T := TX3) (N := 1) hx hb hts hinX3 hown hK hP 0 rfl rfl 0 (by decide) hf7 (fun _ h9 => h9) rfl dX3_copyFrom_4 ?_
      refine va_alen (v := nI n) hx hb hK hP 1 0 rfl rfl rfl dX3_copyFrom_7 ?_
      refine g_icmp_ge (a := i) (b := n) (tgt := 28) hx hb (by omega) (by omega) dX3_copyFrom_8 (by decide) (fun c_8 => ?_) (fun c_8 => ?_)
      · skip
        refine g_cong (g := o) 1 hP hD rfl (fun j hj => hg j (by omega)) (fun hP hD => ?_)
        have hP : va_P G.1 vwCl [(h0, .inr (3, [.ref a0])), (a0, .inl (G.2.1, n, .inl o)), (h1, .inr (3, [.ref a1])), (a1, .inl (G.2.1, n, .inl o))] H := hP
        have hD : va_D A [(h0, .inr (3, [.ref a0])), (a0, .inl (G.2.1, n, .inl o)), (h1, .inr (3, [.ref a1])), (a1, .inl (G.2.1, n, .inl o))] := hD
        rw [hQ]
        exact k_vret () [0, 1, 2, 3] hx hb hr hlocks (trivial) hK hP hD hS rfl (by decide) dX3_copyFrom_28
      · skip
        refine lv_aload_n hx hb dX3_copyFrom_11 rfl (lv_at hl 1 rfl) ?_
        refine va_get (D := G.1) (ci := 3) (v := .ref a0) (C := RX3) (T := TX3) (N := 1) hx hb hts hinX3 hown hK hP 0 rfl rfl 0 (by decide) hf7 (fun _ h9 => h9) rfl dX3_copyFrom_12 ?_
        refine lv_iload_n hx hb dX3_copyFrom_15 rfl (lv_at hl 0 rfl) ?_
        refine lv_aload_n hx hb dX3_copyFrom_16 rfl (lv_at hl 2 rfl) ?_
        refine lv_iload_n hx hb dX3_copyFrom_17 rfl (lv_at hl 0 rfl) ?_
        refine k_ci (wr := [(h0, .inr (3, [.ref a0])), (a0, .inl (G.2.1, n, .inl g))]) [0, 1] rfl (by decide) [2, 3] rfl (by decide) hP hD hS hA (k_V (n := 1) (ci := 3) (As := [.int (nI i)]) (rest := [.int (nI i), .ref a0]) (wc := [(h1, .inr (3, [.ref a1])), (a1, .inl (G.2.1, n, .inl o))]) hx hb hml hown hts hK hP hD hl (c_X3_atI l G h1 a1 n o i H.size (by first | assumption | omega) (by first | assumption | omega)) [2, 3] rfl (by decide) gX3_copyFrom_X3_at rfl rfl rfl (by decide +kernel) rfl ⟨Nat.le_of_ble_eq_true rfl, Nat.le_of_ble_eq_true rfl⟩ rfl rfl rfl (Nat.le_of_ble_eq_true rfl) dX3_copyFrom_18 ⟨Nat.le_of_ble_eq_true rfl, Nat.le_of_ble_eq_true rfl⟩) (fun r_18 u H locs hw hP hD hS => ?_)
        have hw_18 : r_18 = o i := hw
        have hP : va_P G.1 vwCl [(h0, .inr (3, [.ref a0])), (a0, .inl (G.2.1, n, .inl g)), (h1, .inr (3, [.ref a1])), (a1, .inl (G.2.1, n, .inl o))] H := hP
        have hD : va_D A [(h0, .inr (3, [.ref a0])), (a0, .inl (G.2.1, n, .inl g)), (h1, .inr (3, [.ref a1])), (a1, .inl (G.2.1, n, .inl o))] := hD
        subst hw_18
        refine g_iast (k := i) hx hb hK hP hD hS 1 rfl (by omega) (by omega) dX3_copyFrom_21 (fun H locs hP hD hS => ?_)
        have hP : va_P G.1 vwCl [(h0, .inr (3, [.ref a0])), (a0, .inl (G.2.1, n, .inl (upd g i (o i)))), (h1, .inr (3, [.ref a1])), (a1, .inl (G.2.1, n, .inl o))] H := hP
        have hD : va_D A [(h0, .inr (3, [.ref a0])), (a0, .inl (G.2.1, n, .inl (upd g i (o i)))), (h1, .inr (3, [.ref a1])), (a1, .inl (G.2.1, n, .inl o))] := hD
        refine lv_iinc (v := nI (i + 1)) (lv' := [(2, .int (nI (i + 1))), (0, .ref h0), (1, .ref h1)]) hx hb dX3_copyFrom_22 hl (k := 0) rfl (nI_add (i) 1) (by decide) rfl (fun ls hl => ?_)
        refine lv_goto (tgt := 2) hx hb dX3_copyFrom_25 (by decide) ?_
        exact ih2 (i + 1) (upd g i (o i)) (by first | assumption | omega) (upd_to hg rfl) (by omega) _ _ _ hP hD hS (lv_sub hl [0, 1, 2] rfl)
  exact L2 (n - 0 + 1) 0 f (by first | assumption | omega) (fun j h => absurd h (Nat.not_lt_zero j)) (Nat.lt_succ_self _) _ _ _ hP hD hS (lv_sub hl [0, 1, 2] rfl)
set_option maxHeartbeats 4000000 in
set_option maxRecDepth 100000 in
/-- Row.takeOut: what is behind comes up, 0 last -/
theorem c_X3_takeOut (l : Launch) (G : kG) (h0 : Nat) (a0 : Nat) (n : Nat) (f : Fn) (k : Nat) (sz : Nat) (hn : n < 2 ^ 26) (hk : k < 2 ^ 26) : kMet l yX3_takeOut wsX3_takeOut ({ frames := 1, cells := 0, slots := 0, locals := 22 } : Room) G [.ref h0, .int (nI (k))] [(h0, .inr (3, [.ref a0])), (a0, .inl (G.2.1, n, .inl f))] sz (kQv G (fun (u : Unit) => True) (fun (u : Unit) => [(h0, .inr (3, [.ref a0])), (a0, .inl (G.2.1, n, .inl (outN n f k)))])) 0 0 := by
  refine k_entry (cc := cX3_takeOut) (maxL := 3) (ret := none) (by decide) rfl (Nat.le_of_ble_eq_true rfl) ?_
  intro p e s m args below meth c A ls H locs Q hQ hx hb hml hr hts hown hlocks hin hA hP hK hD hS hl
  have hown : s.vm.findClass RX3 = some m.cls := hown
  have hl : lv_has ls 3 [(0, .ref h0), (1, .int (nI (k)))] := hl
  have hf7 := hts (.fieldLink RX3 7 "HangingChain$Row" "cells" "[I") (by decide +kernel)
  have hinX3 : ∀ w ∈ wsX30, w ∈ wsX3_takeOut := by decide +kernel
  refine lv_iload_n hx hb dX3_takeOut_0 rfl (lv_at hl 1 rfl) ?_
  refine lv_istore_n (lv' := [(2, .int (nI (k))), (0, .ref h0), (1, .int (nI (k)))]) hx hb dX3_takeOut_1 rfl hl (by decide) rfl (fun ls hl => ?_)
  have L2 : ∀ (n9 : Nat) (i : Nat) (g : Fn), (k ≤ i) → (i ≤ n ∨ i = k) → (∀ j, g j = (if j < i then outN n f k j else f j)) → (n - i < n9) → ∀ (H : Heap) (locs : List Loc) (ls : Array Slot), va_P G.1 vwCl [(h0, .inr (3, [.ref a0])), (a0, .inl (G.2.1, n, .inl g))] H → va_D A [(h0, .inr (3, [.ref a0])), (a0, .inl (G.2.1, n, .inl g))] → va_S A s.heap H locs → lv_has ls 3 [(2, .int (nI i)), (0, .ref h0), (1, .int (nI (k)))] → W p l e ({ frames := 1, cells := 0, slots := 0, locals := 22 } : Room) s m args below meth c H locs 0 0 Q (F0 m 2 ls []) := by
    intro n9
    induction n9 with
    | zero =>
      intro i g hi hi2 hg hm9 H locs ls hP hD hS hl
      exact absurd hm9 (Nat.not_lt_zero _)
    | succ n9 ih2 =>
      intro i g hi hi2 hg hm9 H locs ls hP hD hS hl
      refine lv_iload_n hx hb dX3_takeOut_2 rfl (lv_at hl 0 rfl) ?_
      refine lv_aload_n hx hb dX3_takeOut_3 rfl (lv_at hl 1 rfl) ?_
      refine va_get (D := G.1) (ci := 3) (v := .ref a0) (C := RX3) (T := TX3) (N := 1) hx hb hts hinX3 hown hK hP 0 rfl rfl 0 (by decide) hf7 (fun _ h9 => h9) rfl dX3_takeOut_4 ?_
      refine va_alen (v := nI n) hx hb hK hP 1 0 rfl rfl rfl dX3_takeOut_7 ?_
      refine g_icmp_ge (a := i) (b := n) (tgt := 29) hx hb (by omega) (by omega) dX3_takeOut_8 (by decide) (fun c_8 => ?_) (fun c_8 => ?_)
      · skip
        refine g_cong (g := outN n f k) 1 hP hD rfl (fun j hj => outN_end hg (by omega) hj) (fun hP hD => ?_)
        have hP : va_P G.1 vwCl [(h0, .inr (3, [.ref a0])), (a0, .inl (G.2.1, n, .inl (outN n f k)))] H := hP
        have hD : va_D A [(h0, .inr (3, [.ref a0])), (a0, .inl (G.2.1, n, .inl (outN n f k)))] := hD
        rw [hQ]
        exact k_vret () [0, 1] hx hb hr hlocks (trivial) hK hP hD hS rfl (by decide) dX3_takeOut_29
      · skip
        refine lv_aload_n hx hb dX3_takeOut_11 rfl (lv_at hl 1 rfl) ?_
        refine lv_iload_n hx hb dX3_takeOut_12 rfl (lv_at hl 0 rfl) ?_
        refine lv_aload_n hx hb dX3_takeOut_13 rfl (lv_at hl 1 rfl) ?_
        refine lv_iload_n hx hb dX3_takeOut_14 rfl (lv_at hl 0 rfl) ?_
        refine lv_iconst (v := 1) hx hb dX3_takeOut_15 (by decide) ?_
        refine lv_iadd hx hb dX3_takeOut_16 ?_
        refine g_ti (y := nI (i + 1)) (nI_add (i) (1)) ?_
        refine k_ci (wr := []) [] rfl (by decide) [0, 1] rfl (by decide) hP hD hS hA (k_V (n := 1) (ci := 3) (As := [.int (nI (i + 1))]) (rest := [.int (nI i), .ref h0]) (wc := [(h0, .inr (3, [.ref a0])), (a0, .inl (G.2.1, n, .inl g))]) hx hb hml hown hts hK hP hD hl (c_X3_at l G h0 a0 n g (i + 1) H.size (by first | assumption | omega) (by first | assumption | omega)) [0, 1] rfl (by decide) gX3_takeOut_X3_at rfl rfl rfl (by decide +kernel) rfl ⟨Nat.le_of_ble_eq_true rfl, Nat.le_of_ble_eq_true rfl⟩ rfl rfl rfl (Nat.le_of_ble_eq_true rfl) dX3_takeOut_17 ⟨Nat.le_of_ble_eq_true rfl, Nat.le_of_ble_eq_true rfl⟩) (fun r_17 u H locs hw hP hD hS => ?_)
        have hw_17 : r_17 = rdN n g (i + 1) := hw
        have hP : va_P G.1 vwCl [(h0, .inr (3, [.ref a0])), (a0, .inl (G.2.1, n, .inl g))] H := hP
        have hD : va_D A [(h0, .inr (3, [.ref a0])), (a0, .inl (G.2.1, n, .inl g))] := hD
        subst hw_17
        refine k_cv (wr := []) [] rfl (by decide) [0, 1] rfl (by decide) hP hD hS hA (k_V (n := 2) (ci := 3) (As := [.int (nI i), .int (rdN n g (i + 1))]) (rest := []) (wc := [(h0, .inr (3, [.ref a0])), (a0, .inl (G.2.1, n, .inl g))]) hx hb hml hown hts hK hP hD hl (c_X3_putI l G h0 a0 n g i (rdN n g (i + 1)) H.size (by first | assumption | omega) (by first | assumption | omega)) [0, 1] rfl (by decide) gX3_takeOut_X3_put rfl rfl rfl (by decide +kernel) rfl ⟨Nat.le_of_ble_eq_true rfl, Nat.le_of_ble_eq_true rfl⟩ rfl rfl rfl (Nat.le_of_ble_eq_true rfl) dX3_takeOut_20 ⟨Nat.le_of_ble_eq_true rfl, Nat.le_of_ble_eq_true rfl⟩) (fun u H locs hw hP hD hS => ?_)
        have hw_20 : True := hw
        have hP : va_P G.1 vwCl [(h0, .inr (3, [.ref a0])), (a0, .inl (G.2.1, n, .inl (upd g i (rdN n g (i + 1)))))] H := hP
        have hD : va_D A [(h0, .inr (3, [.ref a0])), (a0, .inl (G.2.1, n, .inl (upd g i (rdN n g (i + 1)))))] := hD
        refine lv_iinc (v := nI (i + 1)) (lv' := [(2, .int (nI (i + 1))), (0, .ref h0), (1, .int (nI (k)))]) hx hb dX3_takeOut_23 hl (k := 0) rfl (nI_add (i) 1) (by decide) rfl (fun ls hl => ?_)
        refine lv_goto (tgt := 2) hx hb dX3_takeOut_26 (by decide) ?_
        exact ih2 (i + 1) (upd g i (rdN n g (i + 1))) (by first | assumption | omega) (Or.inl (by omega)) (outN_step hi (by omega) hg) (by omega) _ _ _ hP hD hS (lv_sub hl [0, 1, 2] rfl)
  exact L2 (n - k + 1) k f (by first | assumption | omega) (Or.inr rfl) (fun j => by unfold outN; split <;> first | rfl | (rw [if_pos (by assumption)])) (Nat.lt_succ_self _) _ _ _ hP hD hS (lv_sub hl [0, 1, 2] rfl)
set_option maxHeartbeats 4000000 in
set_option maxRecDepth 100000 in
/-- Row.turnRound of the first k -/
theorem c_X3_turnRound (l : Launch) (G : kG) (h0 : Nat) (a0 : Nat) (n : Nat) (f : Fn) (k : Nat) (sz : Nat) (hn : n < 2 ^ 26) (hk : k ≤ n) (hk1 : 1 ≤ k) : kMet l yX3_turnRound wsX3_turnRound ({ frames := 1, cells := 0, slots := 0, locals := 22 } : Room) G [.ref h0, .int (nI (k))] [(h0, .inr (3, [.ref a0])), (a0, .inl (G.2.1, n, .inl f))] sz (kQv G (fun (u : Unit) => True) (fun (u : Unit) => [(h0, .inr (3, [.ref a0])), (a0, .inl (G.2.1, n, .inl (turnN f k)))])) 0 0 := by
  refine k_entry (cc := cX3_turnRound) (maxL := 5) (ret := none) (by decide) rfl (Nat.le_of_ble_eq_true rfl) ?_
  intro p e s m args below meth c A ls H locs Q hQ hx hb hml hr hts hown hlocks hin hA hP hK hD hS hl
  have hown : s.vm.findClass RX3 = some m.cls := hown
  have hl : lv_has ls 5 [(0, .ref h0), (1, .int (nI (k)))] := hl
  refine lv_iload_n hx hb dX3_turnRound_0 rfl (lv_at hl 1 rfl) ?_
  refine lv_iconst (v := 1) hx hb dX3_turnRound_1 (by decide) ?_
  refine lv_isub hx hb dX3_turnRound_2 ?_
  refine g_ti (y := nI (k - 1)) (pk_sub (a := k) (b := 1) (by omega)) ?_
  refine lv_istore_n (lv' := [(2, .int (nI (k - 1))), (0, .ref h0), (1, .int (nI (k)))]) hx hb dX3_turnRound_3 rfl hl (by decide) rfl (fun ls hl => ?_)
  refine lv_iconst (v := 0) hx hb dX3_turnRound_4 (by decide) ?_
  refine lv_istore_n (lv' := [(3, .int 0), (2, .int (nI (k - 1))), (0, .ref h0), (1, .int (nI (k)))]) hx hb dX3_turnRound_5 rfl hl (by decide) rfl (fun ls hl => ?_)
  have L6 : ∀ (n9 : Nat) (i : Nat) (b : Nat) (g : Fn), (i + b + 1 = k ∨ (i = b + 1 ∧ i + b + 1 = k)) → (∀ j, g j = (if j < i ∨ (b < j ∧ j < k) then turnN f k j else f j)) → (k - i < n9) → ∀ (H : Heap) (locs : List Loc) (ls : Array Slot), va_P G.1 vwCl [(h0, .inr (3, [.ref a0])), (a0, .inl (G.2.1, n, .inl g))] H → va_D A [(h0, .inr (3, [.ref a0])), (a0, .inl (G.2.1, n, .inl g))] → va_S A s.heap H locs → lv_has ls 5 [(3, .int (nI i)), (2, .int (nI b)), (0, .ref h0), (1, .int (nI (k)))] → W p l e ({ frames := 1, cells := 0, slots := 0, locals := 22 } : Room) s m args below meth c H locs 0 0 Q (F0 m 6 ls []) := by
    intro n9
    induction n9 with
    | zero =>
      intro i b g hb9 hg hm9 H locs ls hP hD hS hl
      exact absurd hm9 (Nat.not_lt_zero _)
    | succ n9 ih6 =>
      intro i b g hb9 hg hm9 H locs ls hP hD hS hl
      refine lv_iload_n hx hb dX3_turnRound_6 rfl (lv_at hl 0 rfl) ?_
      refine lv_iload_n hx hb dX3_turnRound_7 rfl (lv_at hl 1 rfl) ?_
      refine g_icmp_ge (a := i) (b := b) (tgt := 44) hx hb (by omega) (by omega) dX3_turnRound_8 (by decide) (fun c_8 => ?_) (fun c_8 => ?_)
      · skip
        refine g_cong (g := turnN f k) 1 hP hD rfl (fun j hj => turnN_end hg (by omega)) (fun hP hD => ?_)
        have hP : va_P G.1 vwCl [(h0, .inr (3, [.ref a0])), (a0, .inl (G.2.1, n, .inl (turnN f k)))] H := hP
        have hD : va_D A [(h0, .inr (3, [.ref a0])), (a0, .inl (G.2.1, n, .inl (turnN f k)))] := hD
        rw [hQ]
        exact k_vret () [0, 1] hx hb hr hlocks (trivial) hK hP hD hS rfl (by decide) dX3_turnRound_44
      · skip
        refine lv_aload_n hx hb dX3_turnRound_11 rfl (lv_at hl 2 rfl) ?_
        refine lv_iload_n hx hb dX3_turnRound_12 rfl (lv_at hl 0 rfl) ?_
        refine k_ci (wr := []) [] rfl (by decide) [0, 1] rfl (by decide) hP hD hS hA (k_V (n := 1) (ci := 3) (As := [.int (nI i)]) (rest := []) (wc := [(h0, .inr (3, [.ref a0])), (a0, .inl (G.2.1, n, .inl g))]) hx hb hml hown hts hK hP hD hl (c_X3_atI l G h0 a0 n g i H.size (by first | assumption | omega) (by first | assumption | omega)) [0, 1] rfl (by decide) gX3_turnRound_X3_at rfl rfl rfl (by decide +kernel) rfl ⟨Nat.le_of_ble_eq_true rfl, Nat.le_of_ble_eq_true rfl⟩ rfl rfl rfl (Nat.le_of_ble_eq_true rfl) dX3_turnRound_13 ⟨Nat.le_of_ble_eq_true rfl, Nat.le_of_ble_eq_true rfl⟩) (fun r_13 u H locs hw hP hD hS => ?_)
        have hw_13 : r_13 = g i := hw
        have hP : va_P G.1 vwCl [(h0, .inr (3, [.ref a0])), (a0, .inl (G.2.1, n, .inl g))] H := hP
        have hD : va_D A [(h0, .inr (3, [.ref a0])), (a0, .inl (G.2.1, n, .inl g))] := hD
        subst hw_13
        refine lv_istore (lv' := [(4, .int (g i)), (3, .int (nI i)), (2, .int (nI b)), (0, .ref h0), (1, .int (nI (k)))]) hx hb dX3_turnRound_16 hl (by decide) rfl (fun ls hl => ?_)
        refine lv_aload_n hx hb dX3_turnRound_18 rfl (lv_at hl 3 rfl) ?_
        refine lv_iload_n hx hb dX3_turnRound_19 rfl (lv_at hl 1 rfl) ?_
        refine lv_aload_n hx hb dX3_turnRound_20 rfl (lv_at hl 3 rfl) ?_
        refine lv_iload_n hx hb dX3_turnRound_21 rfl (lv_at hl 2 rfl) ?_
        refine k_ci (wr := []) [] rfl (by decide) [0, 1] rfl (by decide) hP hD hS hA (k_V (n := 1) (ci := 3) (As := [.int (nI b)]) (rest := [.int (nI i), .ref h0]) (wc := [(h0, .inr (3, [.ref a0])), (a0, .inl (G.2.1, n, .inl g))]) hx hb hml hown hts hK hP hD hl (c_X3_atI l G h0 a0 n g b H.size (by first | assumption | omega) (by first | assumption | omega)) [0, 1] rfl (by decide) gX3_turnRound_X3_at rfl rfl rfl (by decide +kernel) rfl ⟨Nat.le_of_ble_eq_true rfl, Nat.le_of_ble_eq_true rfl⟩ rfl rfl rfl (Nat.le_of_ble_eq_true rfl) dX3_turnRound_22 ⟨Nat.le_of_ble_eq_true rfl, Nat.le_of_ble_eq_true rfl⟩) (fun r_22 u H locs hw hP hD hS => ?_)
        have hw_22 : r_22 = g b := hw
        have hP : va_P G.1 vwCl [(h0, .inr (3, [.ref a0])), (a0, .inl (G.2.1, n, .inl g))] H := hP
        have hD : va_D A [(h0, .inr (3, [.ref a0])), (a0, .inl (G.2.1, n, .inl g))] := hD
        subst hw_22
        refine k_cv (wr := []) [] rfl (by decide) [0, 1] rfl (by decide) hP hD hS hA (k_V (n := 2) (ci := 3) (As := [.int (nI i), .int (g b)]) (rest := []) (wc := [(h0, .inr (3, [.ref a0])), (a0, .inl (G.2.1, n, .inl g))]) hx hb hml hown hts hK hP hD hl (c_X3_putI l G h0 a0 n g i (g b) H.size (by first | assumption | omega) (by first | assumption | omega)) [0, 1] rfl (by decide) gX3_turnRound_X3_put rfl rfl rfl (by decide +kernel) rfl ⟨Nat.le_of_ble_eq_true rfl, Nat.le_of_ble_eq_true rfl⟩ rfl rfl rfl (Nat.le_of_ble_eq_true rfl) dX3_turnRound_25 ⟨Nat.le_of_ble_eq_true rfl, Nat.le_of_ble_eq_true rfl⟩) (fun u H locs hw hP hD hS => ?_)
        have hw_25 : True := hw
        have hP : va_P G.1 vwCl [(h0, .inr (3, [.ref a0])), (a0, .inl (G.2.1, n, .inl (upd g i (g b))))] H := hP
        have hD : va_D A [(h0, .inr (3, [.ref a0])), (a0, .inl (G.2.1, n, .inl (upd g i (g b))))] := hD
        refine lv_aload_n hx hb dX3_turnRound_28 rfl (lv_at hl 3 rfl) ?_
        refine lv_iload_n hx hb dX3_turnRound_29 rfl (lv_at hl 2 rfl) ?_
        refine lv_iload hx hb dX3_turnRound_30 (lv_at hl 0 rfl) ?_
        refine k_cv (wr := []) [] rfl (by decide) [0, 1] rfl (by decide) hP hD hS hA (k_V (n := 2) (ci := 3) (As := [.int (nI b), .int (g i)]) (rest := []) (wc := [(h0, .inr (3, [.ref a0])), (a0, .inl (G.2.1, n, .inl (upd g i (g b))))]) hx hb hml hown hts hK hP hD hl (c_X3_putI l G h0 a0 n (upd g i (g b)) b (g i) H.size (by first | assumption | omega) (by first | assumption | omega)) [0, 1] rfl (by decide) gX3_turnRound_X3_put rfl rfl rfl (by decide +kernel) rfl ⟨Nat.le_of_ble_eq_true rfl, Nat.le_of_ble_eq_true rfl⟩ rfl rfl rfl (Nat.le_of_ble_eq_true rfl) dX3_turnRound_32 ⟨Nat.le_of_ble_eq_true rfl, Nat.le_of_ble_eq_true rfl⟩) (fun u H locs hw hP hD hS => ?_)
        have hw_32 : True := hw
        have hP : va_P G.1 vwCl [(h0, .inr (3, [.ref a0])), (a0, .inl (G.2.1, n, .inl (upd (upd g i (g b)) b (g i))))] H := hP
        have hD : va_D A [(h0, .inr (3, [.ref a0])), (a0, .inl (G.2.1, n, .inl (upd (upd g i (g b)) b (g i))))] := hD
        refine lv_iinc (v := nI (b - 1)) (lv' := [(2, .int (nI (b - 1))), (4, .int (g i)), (3, .int (nI i)), (0, .ref h0), (1, .int (nI (k)))]) hx hb dX3_turnRound_35 hl (k := 2) rfl (g_dec (b) (by omega)) (by decide) rfl (fun ls hl => ?_)
        refine lv_iinc (v := nI (i + 1)) (lv' := [(3, .int (nI (i + 1))), (2, .int (nI (b - 1))), (4, .int (g i)), (0, .ref h0), (1, .int (nI (k)))]) hx hb dX3_turnRound_38 hl (k := 2) rfl (nI_add (i) 1) (by decide) rfl (fun ls hl => ?_)
        refine lv_goto (tgt := 6) hx hb dX3_turnRound_41 (by decide) ?_
        exact ih6 (i + 1) (b - 1) (upd (upd g i (g b)) b (g i)) (by omega) (turnN_step (by omega) (by omega) hg) (by omega) _ _ _ hP hD hS (lv_sub hl [0, 1, 3, 4] rfl)
  exact L6 (k - 0 + 1) 0 (k - 1) f (by omega) (fun j => by rw [if_neg (by omega)]) (Nat.lt_succ_self _) _ _ _ hP hD hS (lv_sub hl [0, 1, 2, 3] rfl)
set_option maxHeartbeats 4000000 in
set_option maxRecDepth 100000 in
/-- Row(n): a new row of zeros -/
theorem c_X3_init (l : Launch) (G : kG) (h0 : Nat) (n : Nat) (sz : Nat) (hn : n < 2 ^ 26) : kMet l yX3_init wsX3_init ({ frames := 1, cells := 1, slots := n, locals := 30 } : Room) G [.ref h0, .int (nI (n))] [(h0, .inr (3, [.null]))] sz (kQv G (fun (u : Nat) => True) (fun (u : Nat) => [(h0, .inr (3, [.ref u])), (u, .inl (G.2.1, n, .inl (fun _ => 0)))])) 1 n := by
  refine k_entry (cc := cX3_init) (maxL := 2) (ret := none) (by decide) rfl (Nat.le_of_ble_eq_true rfl) ?_
  intro p e s m args below meth c A ls H locs Q hQ hx hb hml hr hts hown hlocks hin hA hP hK hD hS hl
  have hown : s.vm.findClass RX3 = some m.cls := hown
  have hl : lv_has ls 2 [(0, .ref h0), (1, .int (nI (n)))] := hl
  have harrI := hts (.arrayClass .int) (by decide +kernel)
  have hf7 := hts (.fieldLink RX3 7 "HangingChain$Row" "cells" "[I") (by decide +kernel)
  have hinX3 : ∀ w ∈ wsX30, w ∈ wsX3_init := by decide +kernel
  refine lv_aload_n hx hb dX3_init_0 rfl (lv_at hl 0 rfl) ?_
  refine W.objInit hx hb hown (hts (.methodLink RX3 1 objectInit) (by decide +kernel)) (hts (.instanceMethod objectInit) (by decide +kernel)) (hts (.code objectInit ⟨#[0xb1]⟩ 1 none) (by decide +kernel)) rfl (by rw [hml]; exact hl.1) rfl dX3_init_1 (Nat.le_of_ble_eq_true rfl) (Nat.le_of_ble_eq_true rfl) ?_
  refine W.eq (g2 := F0 m 4 ls []) rfl ?_
  refine lv_aload_n hx hb dX3_init_4 rfl (lv_at hl 0 rfl) ?_
  refine lv_iload_n hx hb dX3_init_5 rfl (lv_at hl 1 rfl) ?_
  refine g_if_ge (a := n) (tgt := 13) hx hb (by omega) dX3_init_6 (by decide) ?_
  refine lv_iload_n hx hb dX3_init_13 rfl (lv_at hl 1 rfl) ?_
  refine g_newai (N' := n) hx hb harrI hK hP hD hS hA (by omega) (by show 0 + 1 ≤ 1; omega) (by show 0 + n ≤ n; omega) dX3_init_14 (fun q_14 H hP hD hS => ?_)
  have hP : va_P G.1 vwCl [(h0, .inr (3, [.null])), (q_14, .inl (G.2.1, n, .inl (fun _ => 0)))] H := hP
  have hD : va_D A [(h0, .inr (3, [.null])), (q_14, .inl (G.2.1, n, .inl (fun _ => 0)))] := hD
  refine va_putF (D := G.1) (ci := 3) (v := .ref q_14) (ty := .array .int) (C := RX3) (T := TX3) (N := 1) hx hb hts hinX3 tyX3 tyX3_ok nmX3 hown hK hP hD hS 0 rfl rfl 0 (by decide) hf7 (fun _ h9 => h9) rfl hin rfl (by decide +kernel) (rfl) (rfl) (Nat.le_of_ble_eq_true rfl) dX3_init_16 (fun H locs hP hD hS => ?_)
  have hP : va_P G.1 vwCl [(h0, .inr (3, [.ref q_14])), (q_14, .inl (G.2.1, n, .inl (fun _ => 0)))] H := hP
  have hD : va_D A [(h0, .inr (3, [.ref q_14])), (q_14, .inl (G.2.1, n, .inl (fun _ => 0)))] := hD
  refine W.widen (k := 1) (n := n) (by omega) (by omega) ?_
  rw [hQ]
  exact k_vret q_14 [0, 1] hx hb hr hlocks (trivial) hK hP hD hS rfl (by decide) dX3_init_19
