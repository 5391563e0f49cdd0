/-! HangingChain$ShapeReader (X4): the automaton, and its contracts. A state: (state, links, steps, weights). Laid by wip/whole/gen.py, s08_reader.py. -/
abbrev Rs : Type := Nat × Nat × Fn × Fn
def bI (b : Bool) : Int32 := if b then 1 else 0
theorem bI_t {r : Int32} {b : Bool} (h : r = bI b) (c : ¬ r = 0) : b = true := by
  cases b with
  | true => rfl
  | false => exact absurd h c
theorem bI_f {r : Int32} {b : Bool} (h : r = bI b) (c : r = 0) : b = false := by
  cases b with
  | false => rfl
  | true => rw [c] at h; exact absurd h (by decide)
theorem bI_01 (b : Bool) : bI b = 0 ∨ bI b = 1 := by
  cases b with
  | false => exact Or.inl rfl
  | true => exact Or.inr rfl
def stp (x : Int32) : Int32 := if x = 94 then 1 else if x = 118 then -1 else 0
def tkB (x : Int32) (S : Rs) : Bool × Rs := if x = 91 then (true, 3, S.2) else (false, S)
def tkE (x : Int32) (S : Rs) : Bool × Rs := if x = 93 then (true, 6, S.2) else (false, S)
def tkT (x : Int32) (S : Rs) : Bool × Rs := if x = 50 then (true, 2, S.2.1, upd S.2.2.1 (S.2.1 - 1) (2 * S.2.2.1 (S.2.1 - 1)), S.2.2.2) else (false, S)
def tkD (x : Int32) (nx : Nat) (S : Rs) : Bool × Rs := if 48 ≤ x ∧ x ≤ 57 then (true, nx, S.2.1, S.2.2.1, upd S.2.2.2 S.2.1 (10 * S.2.2.2 S.2.1 + x - 48)) else (false, S)
def tkL (x : Int32) (S : Rs) : Bool × Rs := if 20 ≤ S.2.1 then (false, S) else if x = 61 ∨ x = 94 ∨ x = 118 then (true, (if stp x = 0 then 2 else 1), S.2.1 + 1, upd S.2.2.1 S.2.1 (stp x), S.2.2.2) else (false, S)
def tkA (x : Int32) (S : Rs) : Bool × Rs :=
  if S.1 = 1 then (if (tkT x S).1 = true then tkT x S else if (tkB x S).1 = true then tkB x S else tkL x S)
  else if S.1 = 2 then (if (tkB x S).1 = true then tkB x S else tkL x S)
  else if S.1 = 3 then (if x = 48 then (false, S) else tkD x 4 S)
  else if S.1 = 4 then (if (tkD x 5 S).1 = true then tkD x 5 S else tkE x S)
  else if S.1 = 5 then tkE x S
  else tkL x S
theorem rs_inj {z l z2 l2 : Nat} {st we st2 we2 : Fn} (h : ((z, l, st, we) : Rs) = (z2, l2, st2, we2)) : l = l2 ∧ z = z2 ∧ st = st2 ∧ we = we2 := by
  simp only [Prod.mk.injEq] at h
  exact ⟨h.2.1, h.1, h.2.2.1, h.2.2.2⟩
theorem tkB_k {x : Int32} {S : Rs} (b : (tkB x S).1 = false) : (tkB x S).2 = S := by
  unfold tkB at b ⊢
  by_cases h : x = 91
  · rw [if_pos h] at b; exact absurd (show true = false from b) (by decide)
  · rw [if_neg h]
theorem tkE_k {x : Int32} {S : Rs} (b : (tkE x S).1 = false) : (tkE x S).2 = S := by
  unfold tkE at b ⊢
  by_cases h : x = 93
  · rw [if_pos h] at b; exact absurd (show true = false from b) (by decide)
  · rw [if_neg h]
theorem tkT_k {x : Int32} {S : Rs} (b : (tkT x S).1 = false) : (tkT x S).2 = S := by
  unfold tkT at b ⊢
  by_cases h : x = 50
  · rw [if_pos h] at b; exact absurd (show true = false from b) (by decide)
  · rw [if_neg h]
theorem tkD_k {x : Int32} {nx : Nat} {S : Rs} (b : (tkD x nx S).1 = false) : (tkD x nx S).2 = S := by
  unfold tkD at b ⊢
  by_cases h : 48 ≤ x ∧ x ≤ 57
  · rw [if_pos h] at b; exact absurd (show true = false from b) (by decide)
  · rw [if_neg h]
theorem tkL_k {x : Int32} {S : Rs} (b : (tkL x S).1 = false) : (tkL x S).2 = S := by
  unfold tkL at b ⊢
  by_cases h : 20 ≤ S.2.1
  · rw [if_pos h]
  · rw [if_neg h] at b ⊢
    by_cases h2 : x = 61 ∨ x = 94 ∨ x = 118
    · rw [if_pos h2] at b; exact absurd (show true = false from b) (by decide)
    · rw [if_neg h2]
theorem tkB_s {x : Int32} {z l z2 l2 : Nat} {st we st2 we2 : Fn} (b : (tkB x (z, l, st, we)).1 = false) (h : (tkB x (z, l, st, we)).2 = (z2, l2, st2, we2)) : l = l2 ∧ z = z2 ∧ st = st2 ∧ we = we2 := rs_inj ((tkB_k b).symm.trans h)
theorem tkE_s {x : Int32} {z l z2 l2 : Nat} {st we st2 we2 : Fn} (b : (tkE x (z, l, st, we)).1 = false) (h : (tkE x (z, l, st, we)).2 = (z2, l2, st2, we2)) : l = l2 ∧ z = z2 ∧ st = st2 ∧ we = we2 := rs_inj ((tkE_k b).symm.trans h)
theorem tkT_s {x : Int32} {z l z2 l2 : Nat} {st we st2 we2 : Fn} (b : (tkT x (z, l, st, we)).1 = false) (h : (tkT x (z, l, st, we)).2 = (z2, l2, st2, we2)) : l = l2 ∧ z = z2 ∧ st = st2 ∧ we = we2 := rs_inj ((tkT_k b).symm.trans h)
theorem tkD_s {x : Int32} {nx z l z2 l2 : Nat} {st we st2 we2 : Fn} (b : (tkD x nx (z, l, st, we)).1 = false) (h : (tkD x nx (z, l, st, we)).2 = (z2, l2, st2, we2)) : l = l2 ∧ z = z2 ∧ st = st2 ∧ we = we2 := rs_inj ((tkD_k b).symm.trans h)
theorem tkL_s {x : Int32} {z l z2 l2 : Nat} {st we st2 we2 : Fn} (b : (tkL x (z, l, st, we)).1 = false) (h : (tkL x (z, l, st, we)).2 = (z2, l2, st2, we2)) : l = l2 ∧ z = z2 ∧ st = st2 ∧ we = we2 := rs_inj ((tkL_k b).symm.trans h)
theorem tkA_k {x : Int32} {S : Rs} (b : (tkA x S).1 = false) : (tkA x S).2 = S := by
  unfold tkA at b ⊢
  split at b <;> rename_i h1 <;> simp only [h1, if_true, if_false, reduceIte] at b ⊢
  · split at b
    · rename_i h2; rw [h2] at b; exact absurd (show true = false from b) (by decide)
    · rename_i h2; rw [if_neg h2]
      split at b
      · rename_i h3; rw [h3] at b; exact absurd (show true = false from b) (by decide)
      · rename_i h3; rw [if_neg h3]; exact tkL_k b
  · split at b <;> rename_i h1 <;> simp only [h1, if_true, if_false, reduceIte] at b ⊢
    · split at b
      · rename_i h2; rw [h2] at b; exact absurd (show true = false from b) (by decide)
      · rename_i h2; rw [if_neg h2]; exact tkL_k b
    · split at b <;> rename_i h1 <;> simp only [h1, if_true, if_false, reduceIte] at b ⊢
      · split at b
        · rename_i h2; rw [if_pos h2]
        · rename_i h2; rw [if_neg h2]; exact tkD_k b
      · split at b <;> rename_i h1 <;> simp only [h1, if_true, if_false, reduceIte] at b ⊢
        · split at b
          · rename_i h2; rw [h2] at b; exact absurd (show true = false from b) (by decide)
          · rename_i h2; rw [if_neg h2]; exact tkE_k b
        · split at b <;> rename_i h1 <;> simp only [h1, if_true, if_false, reduceIte] at b ⊢
          · exact tkE_k b
          · exact tkL_k b
theorem tkA_s {x : Int32} {z l z2 l2 : Nat} {st we st2 we2 : Fn} (b : (tkA x (z, l, st, we)).1 = false) (h : (tkA x (z, l, st, we)).2 = (z2, l2, st2, we2)) : ((z, l, st, we) : Rs) = (z2, l2, st2, we2) := (tkA_k b).symm.trans h
/-- what stays true of a state -/
def rsV (S : Rs) : Prop := S.2.1 ≤ 20 ∧ S.1 ≤ 6 ∧ (S.1 = 1 → 1 ≤ S.2.1)
theorem tkA_v {x : Int32} {S : Rs} (h : rsV S) : rsV (tkA x S).2 := by
  obtain ⟨z, l, st, we⟩ := S
  obtain ⟨h1, h2, h3⟩ := h
  simp only at h1 h2 h3
  have vS : rsV (z, l, st, we) := ⟨h1, h2, h3⟩
  have vB : rsV (tkB x (z, l, st, we)).2 := by
    unfold tkB
    split
    · exact ⟨h1, (by decide : (3 : Nat) ≤ 6), fun q => absurd q (by show ¬ (3 : Nat) = 1; decide)⟩
    · exact vS
  have vE : rsV (tkE x (z, l, st, we)).2 := by
    unfold tkE
    split
    · exact ⟨h1, (by decide : (6 : Nat) ≤ 6), fun q => absurd q (by show ¬ (6 : Nat) = 1; decide)⟩
    · exact vS
  have vT : rsV (tkT x (z, l, st, we)).2 := by
    unfold tkT
    split
    · exact ⟨h1, (by decide : (2 : Nat) ≤ 6), fun q => absurd q (by show ¬ (2 : Nat) = 1; decide)⟩
    · exact vS
  have vD : ∀ nx, nx = 4 ∨ nx = 5 → rsV (tkD x nx (z, l, st, we)).2 := by
    intro nx hn
    unfold tkD
    split
    · exact ⟨h1, by show nx ≤ 6; omega, fun q => by have q : nx = 1 := q; omega⟩
    · exact vS
  have vL : rsV (tkL x (z, l, st, we)).2 := by
    unfold tkL
    split
    · exact vS
    · rename_i h4
      simp only at h4
      split
      · refine ⟨by show l + 1 ≤ 20; omega, ?_, fun _ => by show 1 ≤ l + 1; omega⟩
        show (if stp x = 0 then 2 else 1) ≤ 6
        split <;> decide
      · exact vS
  unfold tkA
  repeat' split
  all_goals first | exact vT | exact vB | exact vL | exact vE | exact vS | exact vD 4 (Or.inl rfl) | exact vD 5 (Or.inr rfl)
def rdS (f : Fn) : Nat → Rs
  | 0 => (0, 0, fun _ => 0, fun _ => 0)
  | i + 1 => (tkA (f i) (rdS f i)).2
theorem rdS_v (f : Fn) (i : Nat) : rsV (rdS f i) := by
  induction i with
  | zero => exact ⟨Nat.zero_le _, Nat.zero_le _, fun h => absurd h (by show ¬ (0 : Nat) = 1; decide)⟩
  | succ i ih => exact tkA_v ih
theorem rdS_inv {f : Fn} {i z l : Nat} {st we : Fn} (h : rdS f i = (z, l, st, we)) : l ≤ 20 ∧ z ≤ 6 ∧ (z = 1 → 1 ≤ l) := by
  have h1 := rdS_v f i
  rw [h] at h1
  exact h1
/-- k is the first character that the automaton doesn't take, or the length -/
def rdK (f : Fn) (len k : Nat) : Prop := k ≤ len ∧ (∀ j, j < k → (tkA (f j) (rdS f j)).1 = true) ∧ (k < len → (tkA (f k) (rdS f k)).1 = false)
abbrev cmpl (z : Nat) : Prop := z = 1 ∨ z = 2 ∨ z = 6
set_option maxHeartbeats 4000000 in
set_option maxRecDepth 100000 in
theorem c_X4_takesBracket (l : Launch) (G : kG) (r0 : Nat) (rrs : Nat) (ras : Nat) (rrw : Nat) (raw : Nat) (lk : Nat) (z : Nat) (st : Fn) (we : Fn) (x : Int32) (sz : Nat) : kMet l yX4_takesBracket wsX4_takesBracket ({ frames := 0, cells := 0, slots := 0, locals := 0 } : Room) G [.ref r0, .int x] [(r0, .inr (4, [.ref rrs, .ref rrw, .int (nI (lk)), .int (nI (z))])), (rrs, .inr (3, [.ref ras])), (ras, .inl (G.2.1, 20, .inl st)), (rrw, .inr (3, [.ref raw])), (raw, .inl (G.2.1, 21, .inl we))] sz (kQi G (fun (r : Int32) (u : Nat × Nat × Fn × Fn) => r = bI (tkB x (z, lk, st, we)).1 ∧ (tkB x (z, lk, st, we)).2 = (u.2.1, u.1, u.2.2.1, u.2.2.2)) (fun (u : Nat × Nat × Fn × Fn) => [(r0, .inr (4, [.ref rrs, .ref rrw, .int (nI (u.1)), .int (nI (u.2.1))])), (rrs, .inr (3, [.ref ras])), (ras, .inl (G.2.1, 20, .inl u.2.2.1)), (rrw, .inr (3, [.ref raw])), (raw, .inl (G.2.1, 21, .inl u.2.2.2))])) 0 0 := by
  refine k_entry (cc := cX4_takesBracket) (maxL := 2) (ret := (some .boolean)) (by decide) rfl (Nat.le_of_ble_eq_true rfl) ?_
  intro p e s m args below meth c A ls H locs Q hQ hx hb hml hr hts hown hlocks hin hA hP hK hD hS hl
  have hown : s.vm.findClass RX4 = some m.cls := hown
  have hl : lv_has ls 2 [(0, .ref r0), (1, .int x)] := hl
  have hf27 := hts (.fieldLink RX4 27 "HangingChain$ShapeReader" "state" "I") (by decide +kernel)
  have hinX4 : ∀ w ∈ wsX40, w ∈ wsX4_takesBracket := by decide +kernel
  refine lv_iload_n hx hb dX4_takesBracket_0 rfl (lv_at hl 1 rfl) ?_
  refine lv_bipush (v := 91) hx hb dX4_takesBracket_1 (by decide) ?_
  refine lv_icmp_eq (tgt := 8) hx hb dX4_takesBracket_3 (by decide) (fun c_3 => ?_) (fun c_3 => ?_)
  · skip
    refine lv_aload_n hx hb dX4_takesBracket_8 rfl (lv_at hl 0 rfl) ?_
    refine lv_iconst (v := 3) hx hb dX4_takesBracket_9 (by decide) ?_
    refine va_put (D := G.1) (ci := 4) (v := .int 3) (ty := .int) (C := RX4) (T := TX4) (N := 4) hx hb hts hinX4 tyX4 tyX4_ok nmX4 hown hK hP hD hS 0 rfl rfl 3 (by decide) hf27 (fun _ h9 => h9) rfl (by decide +kernel) (rfl) (rfl) (Nat.le_of_ble_eq_true rfl) dX4_takesBracket_10 (fun H locs hP hD hS => ?_)
    have hP : va_P G.1 vwCl [(r0, .inr (4, [.ref rrs, .ref rrw, .int (nI (lk)), .int 3])), (rrs, .inr (3, [.ref ras])), (ras, .inl (G.2.1, 20, .inl st)), (rrw, .inr (3, [.ref raw])), (raw, .inl (G.2.1, 21, .inl we))] H := hP
    have hD : va_D A [(r0, .inr (4, [.ref rrs, .ref rrw, .int (nI (lk)), .int 3])), (rrs, .inr (3, [.ref ras])), (ras, .inl (G.2.1, 20, .inl st)), (rrw, .inr (3, [.ref raw])), (raw, .inl (G.2.1, 21, .inl we))] := hD
    refine lv_iconst (v := 1) hx hb dX4_takesBracket_13 (by decide) ?_
    rw [hQ]
    exact k_zret (v := 1) (lk, 3, st, we) [0, 1, 2, 3, 4] hx hb hr hlocks (by first | exact Or.inl rfl | exact Or.inr rfl) (by unfold tkB; rw [if_pos c_3]; exact ⟨rfl, rfl⟩) hK hP hD hS rfl (by decide) dX4_takesBracket_14
  · skip
    refine lv_iconst (v := 0) hx hb dX4_takesBracket_6 (by decide) ?_
    rw [hQ]
    exact k_zret (v := 0) (lk, z, st, we) [0, 1, 2, 3, 4] hx hb hr hlocks (by first | exact Or.inl rfl | exact Or.inr rfl) (by unfold tkB; rw [if_neg c_3]; exact ⟨rfl, rfl⟩) hK hP hD hS rfl (by decide) dX4_takesBracket_7
set_option maxHeartbeats 4000000 in
set_option maxRecDepth 100000 in
theorem c_X4_takesEnd (l : Launch) (G : kG) (r0 : Nat) (rrs : Nat) (ras : Nat) (rrw : Nat) (raw : Nat) (lk : Nat) (z : Nat) (st : Fn) (we : Fn) (x : Int32) (sz : Nat) : kMet l yX4_takesEnd wsX4_takesEnd ({ frames := 0, cells := 0, slots := 0, locals := 0 } : Room) G [.ref r0, .int x] [(r0, .inr (4, [.ref rrs, .ref rrw, .int (nI (lk)), .int (nI (z))])), (rrs, .inr (3, [.ref ras])), (ras, .inl (G.2.1, 20, .inl st)), (rrw, .inr (3, [.ref raw])), (raw, .inl (G.2.1, 21, .inl we))] sz (kQi G (fun (r : Int32) (u : Nat × Nat × Fn × Fn) => r = bI (tkE x (z, lk, st, we)).1 ∧ (tkE x (z, lk, st, we)).2 = (u.2.1, u.1, u.2.2.1, u.2.2.2)) (fun (u : Nat × Nat × Fn × Fn) => [(r0, .inr (4, [.ref rrs, .ref rrw, .int (nI (u.1)), .int (nI (u.2.1))])), (rrs, .inr (3, [.ref ras])), (ras, .inl (G.2.1, 20, .inl u.2.2.1)), (rrw, .inr (3, [.ref raw])), (raw, .inl (G.2.1, 21, .inl u.2.2.2))])) 0 0 := by
  refine k_entry (cc := cX4_takesEnd) (maxL := 2) (ret := (some .boolean)) (by decide) rfl (Nat.le_of_ble_eq_true rfl) ?_
  intro p e s m args below meth c A ls H locs Q hQ hx hb hml hr hts hown hlocks hin hA hP hK hD hS hl
  have hown : s.vm.findClass RX4 = some m.cls := hown
  have hl : lv_has ls 2 [(0, .ref r0), (1, .int x)] := hl
  have hf27 := hts (.fieldLink RX4 27 "HangingChain$ShapeReader" "state" "I") (by decide +kernel)
  have hinX4 : ∀ w ∈ wsX40, w ∈ wsX4_takesEnd := by decide +kernel
  refine lv_iload_n hx hb dX4_takesEnd_0 rfl (lv_at hl 1 rfl) ?_
  refine lv_bipush (v := 93) hx hb dX4_takesEnd_1 (by decide) ?_
  refine lv_icmp_eq (tgt := 8) hx hb dX4_takesEnd_3 (by decide) (fun c_3 => ?_) (fun c_3 => ?_)
  · skip
    refine lv_aload_n hx hb dX4_takesEnd_8 rfl (lv_at hl 0 rfl) ?_
    refine lv_bipush (v := 6) hx hb dX4_takesEnd_9 (by decide) ?_
    refine va_put (D := G.1) (ci := 4) (v := .int 6) (ty := .int) (C := RX4) (T := TX4) (N := 4) hx hb hts hinX4 tyX4 tyX4_ok nmX4 hown hK hP hD hS 0 rfl rfl 3 (by decide) hf27 (fun _ h9 => h9) rfl (by decide +kernel) (rfl) (rfl) (Nat.le_of_ble_eq_true rfl) dX4_takesEnd_11 (fun H locs hP hD hS => ?_)
    have hP : va_P G.1 vwCl [(r0, .inr (4, [.ref rrs, .ref rrw, .int (nI (lk)), .int 6])), (rrs, .inr (3, [.ref ras])), (ras, .inl (G.2.1, 20, .inl st)), (rrw, .inr (3, [.ref raw])), (raw, .inl (G.2.1, 21, .inl we))] H := hP
    have hD : va_D A [(r0, .inr (4, [.ref rrs, .ref rrw, .int (nI (lk)), .int 6])), (rrs, .inr (3, [.ref ras])), (ras, .inl (G.2.1, 20, .inl st)), (rrw, .inr (3, [.ref raw])), (raw, .inl (G.2.1, 21, .inl we))] := hD
    refine lv_iconst (v := 1) hx hb dX4_takesEnd_14 (by decide) ?_
    rw [hQ]
    exact k_zret (v := 1) (lk, 6, st, we) [0, 1, 2, 3, 4] hx hb hr hlocks (by first | exact Or.inl rfl | exact Or.inr rfl) (by unfold tkE; rw [if_pos c_3]; exact ⟨rfl, rfl⟩) hK hP hD hS rfl (by decide) dX4_takesEnd_15
  · skip
    refine lv_iconst (v := 0) hx hb dX4_takesEnd_6 (by decide) ?_
    rw [hQ]
    exact k_zret (v := 0) (lk, z, st, we) [0, 1, 2, 3, 4] hx hb hr hlocks (by first | exact Or.inl rfl | exact Or.inr rfl) (by unfold tkE; rw [if_neg c_3]; exact ⟨rfl, rfl⟩) hK hP hD hS rfl (by decide) dX4_takesEnd_7
set_option maxHeartbeats 4000000 in
set_option maxRecDepth 100000 in
theorem c_X4_takesTwo (l : Launch) (G : kG) (r0 : Nat) (rrs : Nat) (ras : Nat) (rrw : Nat) (raw : Nat) (lk : Nat) (z : Nat) (st : Fn) (we : Fn) (x : Int32) (sz : Nat) (hl20 : lk ≤ 20) (hl1 : 1 ≤ lk) : kMet l yX4_takesTwo wsX4_takesTwo ({ frames := 1, cells := 0, slots := 0, locals := 22 } : Room) G [.ref r0, .int x] [(r0, .inr (4, [.ref rrs, .ref rrw, .int (nI (lk)), .int (nI (z))])), (rrs, .inr (3, [.ref ras])), (ras, .inl (G.2.1, 20, .inl st)), (rrw, .inr (3, [.ref raw])), (raw, .inl (G.2.1, 21, .inl we))] sz (kQi G (fun (r : Int32) (u : Nat × Nat × Fn × Fn) => r = bI (tkT x (z, lk, st, we)).1 ∧ (tkT x (z, lk, st, we)).2 = (u.2.1, u.1, u.2.2.1, u.2.2.2)) (fun (u : Nat × Nat × Fn × Fn) => [(r0, .inr (4, [.ref rrs, .ref rrw, .int (nI (u.1)), .int (nI (u.2.1))])), (rrs, .inr (3, [.ref ras])), (ras, .inl (G.2.1, 20, .inl u.2.2.1)), (rrw, .inr (3, [.ref raw])), (raw, .inl (G.2.1, 21, .inl u.2.2.2))])) 0 0 := by
  refine k_entry (cc := cX4_takesTwo) (maxL := 2) (ret := (some .boolean)) (by decide) rfl (Nat.le_of_ble_eq_true rfl) ?_
  intro p e s m args below meth c A ls H locs Q hQ hx hb hml hr hts hown hlocks hin hA hP hK hD hS hl
  have hown : s.vm.findClass RX4 = some m.cls := hown
  have hl : lv_has ls 2 [(0, .ref r0), (1, .int x)] := hl
  have hf14 := hts (.fieldLink RX4 14 "HangingChain$ShapeReader" "steps" "LHangingChain$Row;") (by decide +kernel)
  have hinX4 : ∀ w ∈ wsX40, w ∈ wsX4_takesTwo := by decide +kernel
  have hf23 := hts (.fieldLink RX4 23 "HangingChain$ShapeReader" "links" "I") (by decide +kernel)
  have hf27 := hts (.fieldLink RX4 27 "HangingChain$ShapeReader" "state" "I") (by decide +kernel)
  refine lv_iload_n hx hb dX4_takesTwo_0 rfl (lv_at hl 1 rfl) ?_
  refine lv_bipush (v := 50) hx hb dX4_takesTwo_1 (by decide) ?_
  refine lv_icmp_eq (tgt := 8) hx hb dX4_takesTwo_3 (by decide) (fun c_3 => ?_) (fun c_3 => ?_)
  · skip
    refine lv_aload_n hx hb dX4_takesTwo_8 rfl (lv_at hl 0 rfl) ?_
    refine va_get (D := G.1) (ci := 4) (v := .ref rrs) (C := RX4) (T := TX4) (N := 4) hx hb hts hinX4 hown hK hP 0 rfl rfl 0 (by decide) hf14 (fun _ h9 => h9) rfl dX4_takesTwo_9 ?_
    refine lv_aload_n hx hb dX4_takesTwo_12 rfl (lv_at hl 0 rfl) ?_
    refine va_get (D := G.1) (ci := 4) (v := .int (nI (lk))) (C := RX4) (T := TX4) (N := 4) hx hb hts hinX4 hown hK hP 0 rfl rfl 2 (by decide) hf23 (fun _ h9 => h9) rfl dX4_takesTwo_13 ?_
    refine lv_iconst (v := 1) hx hb dX4_takesTwo_16 (by decide) ?_
    refine lv_isub hx hb dX4_takesTwo_17 ?_
    refine g_ti (y := nI (lk - 1)) (pk_sub (a := lk) (b := 1) (by omega)) ?_
    refine lv_iconst (v := 2) hx hb dX4_takesTwo_18 (by decide) ?_
    refine lv_aload_n hx hb dX4_takesTwo_19 rfl (lv_at hl 0 rfl) ?_
    refine va_get (D := G.1) (ci := 4) (v := .ref rrs) (C := RX4) (T := TX4) (N := 4) hx hb hts hinX4 hown hK hP 0 rfl rfl 0 (by decide) hf14 (fun _ h9 => h9) rfl dX4_takesTwo_20 ?_
    refine lv_aload_n hx hb dX4_takesTwo_23 rfl (lv_at hl 0 rfl) ?_
    refine va_get (D := G.1) (ci := 4) (v := .int (nI (lk))) (C := RX4) (T := TX4) (N := 4) hx hb hts hinX4 hown hK hP 0 rfl rfl 2 (by decide) hf23 (fun _ h9 => h9) rfl dX4_takesTwo_24 ?_
    refine lv_iconst (v := 1) hx hb dX4_takesTwo_27 (by decide) ?_
    refine lv_isub hx hb dX4_takesTwo_28 ?_
    refine g_ti (y := nI (lk - 1)) (pk_sub (a := lk) (b := 1) (by omega)) ?_
    refine k_ci (wr := [(r0, .inr (4, [.ref rrs, .ref rrw, .int (nI (lk)), .int (nI (z))])), (rrw, .inr (3, [.ref raw])), (raw, .inl (G.2.1, 21, .inl we))]) [0, 3, 4] rfl (by decide) [1, 2] rfl (by decide) hP hD hS hA (k_V (n := 1) (ci := 3) (As := [.int (nI (lk - 1))]) (rest := [.int 2, .int (nI (lk - 1)), .ref rrs]) (wc := [(rrs, .inr (3, [.ref ras])), (ras, .inl (G.2.1, 20, .inl st))]) hx hb hml hown hts hK hP hD hl (c_X3_atI l G rrs ras 20 st (lk - 1) H.size (by first | assumption | omega) (by first | assumption | omega)) [1, 2] rfl (by decide) gX4_takesTwo_X3_at rfl rfl rfl (by decide +kernel) rfl ⟨Nat.le_of_ble_eq_true rfl, Nat.le_of_ble_eq_true rfl⟩ rfl rfl rfl (Nat.le_of_ble_eq_true rfl) dX4_takesTwo_29 ⟨Nat.le_of_ble_eq_true rfl, Nat.le_of_ble_eq_true rfl⟩) (fun r_29 u H locs hw hP hD hS => ?_)
    have hw_29 : r_29 = st (lk - 1) := hw
    have hP : va_P G.1 vwCl [(r0, .inr (4, [.ref rrs, .ref rrw, .int (nI (lk)), .int (nI (z))])), (rrw, .inr (3, [.ref raw])), (raw, .inl (G.2.1, 21, .inl we)), (rrs, .inr (3, [.ref ras])), (ras, .inl (G.2.1, 20, .inl st))] H := hP
    have hD : va_D A [(r0, .inr (4, [.ref rrs, .ref rrw, .int (nI (lk)), .int (nI (z))])), (rrw, .inr (3, [.ref raw])), (raw, .inl (G.2.1, 21, .inl we)), (rrs, .inr (3, [.ref ras])), (ras, .inl (G.2.1, 20, .inl st))] := hD
    subst hw_29
    refine lv_imul hx hb dX4_takesTwo_32 ?_
    refine k_cv (wr := [(r0, .inr (4, [.ref rrs, .ref rrw, .int (nI (lk)), .int (nI (z))])), (rrw, .inr (3, [.ref raw])), (raw, .inl (G.2.1, 21, .inl we))]) [0, 1, 2] rfl (by decide) [3, 4] rfl (by decide) hP hD hS hA (k_V (n := 2) (ci := 3) (As := [.int (nI (lk - 1)), .int (2 * (st (lk - 1)))]) (rest := []) (wc := [(rrs, .inr (3, [.ref ras])), (ras, .inl (G.2.1, 20, .inl st))]) hx hb hml hown hts hK hP hD hl (c_X3_putI l G rrs ras 20 st (lk - 1) (2 * (st (lk - 1))) H.size (by first | assumption | omega) (by first | assumption | omega)) [3, 4] rfl (by decide) gX4_takesTwo_X3_put rfl rfl rfl (by decide +kernel) rfl ⟨Nat.le_of_ble_eq_true rfl, Nat.le_of_ble_eq_true rfl⟩ rfl rfl rfl (Nat.le_of_ble_eq_true rfl) dX4_takesTwo_33 ⟨Nat.le_of_ble_eq_true rfl, Nat.le_of_ble_eq_true rfl⟩) (fun u H locs hw hP hD hS => ?_)
    have hw_33 : True := hw
    have hP : va_P G.1 vwCl [(r0, .inr (4, [.ref rrs, .ref rrw, .int (nI (lk)), .int (nI (z))])), (rrw, .inr (3, [.ref raw])), (raw, .inl (G.2.1, 21, .inl we)), (rrs, .inr (3, [.ref ras])), (ras, .inl (G.2.1, 20, .inl (upd st (lk - 1) (2 * (st (lk - 1))))))] H := hP
    have hD : va_D A [(r0, .inr (4, [.ref rrs, .ref rrw, .int (nI (lk)), .int (nI (z))])), (rrw, .inr (3, [.ref raw])), (raw, .inl (G.2.1, 21, .inl we)), (rrs, .inr (3, [.ref ras])), (ras, .inl (G.2.1, 20, .inl (upd st (lk - 1) (2 * (st (lk - 1))))))] := hD
    refine lv_aload_n hx hb dX4_takesTwo_36 rfl (lv_at hl 0 rfl) ?_
    refine lv_iconst (v := 2) hx hb dX4_takesTwo_37 (by decide) ?_
    refine va_put (D := G.1) (ci := 4) (v := .int 2) (ty := .int) (C := RX4) (T := TX4) (N := 4) hx hb hts hinX4 tyX4 tyX4_ok nmX4 hown hK hP hD hS 0 rfl rfl 3 (by decide) hf27 (fun _ h9 => h9) rfl (by decide +kernel) (rfl) (rfl) (Nat.le_of_ble_eq_true rfl) dX4_takesTwo_38 (fun H locs hP hD hS => ?_)
    have hP : va_P G.1 vwCl [(r0, .inr (4, [.ref rrs, .ref rrw, .int (nI (lk)), .int 2])), (rrw, .inr (3, [.ref raw])), (raw, .inl (G.2.1, 21, .inl we)), (rrs, .inr (3, [.ref ras])), (ras, .inl (G.2.1, 20, .inl (upd st (lk - 1) (2 * (st (lk - 1))))))] H := hP
    have hD : va_D A [(r0, .inr (4, [.ref rrs, .ref rrw, .int (nI (lk)), .int 2])), (rrw, .inr (3, [.ref raw])), (raw, .inl (G.2.1, 21, .inl we)), (rrs, .inr (3, [.ref ras])), (ras, .inl (G.2.1, 20, .inl (upd st (lk - 1) (2 * (st (lk - 1))))))] := hD
    refine lv_iconst (v := 1) hx hb dX4_takesTwo_41 (by decide) ?_
    rw [hQ]
    exact k_zret (v := 1) (lk, 2, (upd st (lk - 1) (2 * st (lk - 1))), we) [0, 3, 4, 1, 2] hx hb hr hlocks (by first | exact Or.inl rfl | exact Or.inr rfl) (by unfold tkT; rw [if_pos c_3]; exact ⟨rfl, rfl⟩) hK hP hD hS rfl (by decide) dX4_takesTwo_42
  · skip
    refine lv_iconst (v := 0) hx hb dX4_takesTwo_6 (by decide) ?_
    rw [hQ]
    exact k_zret (v := 0) (lk, z, st, we) [0, 1, 2, 3, 4] hx hb hr hlocks (by first | exact Or.inl rfl | exact Or.inr rfl) (by unfold tkT; rw [if_neg c_3]; exact ⟨rfl, rfl⟩) hK hP hD hS rfl (by decide) dX4_takesTwo_7
set_option maxHeartbeats 4000000 in
set_option maxRecDepth 100000 in
theorem c_X4_takesDigit (l : Launch) (G : kG) (r0 : Nat) (rrs : Nat) (ras : Nat) (rrw : Nat) (raw : Nat) (lk : Nat) (z : Nat) (st : Fn) (we : Fn) (x : Int32) (nx : Nat) (sz : Nat) (hl20 : lk ≤ 20) : kMet l yX4_takesDigit wsX4_takesDigit ({ frames := 1, cells := 0, slots := 0, locals := 22 } : Room) G [.ref r0, .int x, .int (nI (nx))] [(r0, .inr (4, [.ref rrs, .ref rrw, .int (nI (lk)), .int (nI (z))])), (rrs, .inr (3, [.ref ras])), (ras, .inl (G.2.1, 20, .inl st)), (rrw, .inr (3, [.ref raw])), (raw, .inl (G.2.1, 21, .inl we))] sz (kQi G (fun (r : Int32) (u : Nat × Nat × Fn × Fn) => r = bI (tkD x nx (z, lk, st, we)).1 ∧ (tkD x nx (z, lk, st, we)).2 = (u.2.1, u.1, u.2.2.1, u.2.2.2)) (fun (u : Nat × Nat × Fn × Fn) => [(r0, .inr (4, [.ref rrs, .ref rrw, .int (nI (u.1)), .int (nI (u.2.1))])), (rrs, .inr (3, [.ref ras])), (ras, .inl (G.2.1, 20, .inl u.2.2.1)), (rrw, .inr (3, [.ref raw])), (raw, .inl (G.2.1, 21, .inl u.2.2.2))])) 0 0 := by
  refine k_entry (cc := cX4_takesDigit) (maxL := 3) (ret := (some .boolean)) (by decide) rfl (Nat.le_of_ble_eq_true rfl) ?_
  intro p e s m args below meth c A ls H locs Q hQ hx hb hml hr hts hown hlocks hin hA hP hK hD hS hl
  have hown : s.vm.findClass RX4 = some m.cls := hown
  have hl : lv_has ls 3 [(0, .ref r0), (1, .int x), (2, .int (nI (nx)))] := hl
  have hf20 := hts (.fieldLink RX4 20 "HangingChain$ShapeReader" "weights" "LHangingChain$Row;") (by decide +kernel)
  have hinX4 : ∀ w ∈ wsX40, w ∈ wsX4_takesDigit := by decide +kernel
  have hf23 := hts (.fieldLink RX4 23 "HangingChain$ShapeReader" "links" "I") (by decide +kernel)
  have hf27 := hts (.fieldLink RX4 27 "HangingChain$ShapeReader" "state" "I") (by decide +kernel)
  refine lv_iload_n hx hb dX4_takesDigit_0 rfl (lv_at hl 1 rfl) ?_
  refine lv_bipush (v := 48) hx hb dX4_takesDigit_1 (by decide) ?_
  refine lv_icmp_lt (tgt := 12) hx hb dX4_takesDigit_3 (by decide) (fun c_3 => ?_) (fun c_3 => ?_)
  · skip
    refine lv_iconst (v := 0) hx hb dX4_takesDigit_12 (by decide) ?_
    rw [hQ]
    exact k_zret (v := 0) (lk, z, st, we) [0, 1, 2, 3, 4] hx hb hr hlocks (by first | exact Or.inl rfl | exact Or.inr rfl) (by unfold tkD; rw [if_neg (by first | (intro q; exact absurd c_3 (Int32.not_lt.mpr q.1)) | (intro q; exact c_9 q.2))]; exact ⟨rfl, rfl⟩) hK hP hD hS rfl (by decide) dX4_takesDigit_13
  · skip
    refine lv_iload_n hx hb dX4_takesDigit_6 rfl (lv_at hl 1 rfl) ?_
    refine lv_bipush (v := 57) hx hb dX4_takesDigit_7 (by decide) ?_
    refine lv_icmp_le (tgt := 14) hx hb dX4_takesDigit_9 (by decide) (fun c_9 => ?_) (fun c_9 => ?_)
    · skip
      refine lv_aload_n hx hb dX4_takesDigit_14 rfl (lv_at hl 0 rfl) ?_
      refine va_get (D := G.1) (ci := 4) (v := .ref rrw) (C := RX4) (T := TX4) (N := 4) hx hb hts hinX4 hown hK hP 0 rfl rfl 1 (by decide) hf20 (fun _ h9 => h9) rfl dX4_takesDigit_15 ?_
      refine lv_aload_n hx hb dX4_takesDigit_18 rfl (lv_at hl 0 rfl) ?_
      refine va_get (D := G.1) (ci := 4) (v := .int (nI (lk))) (C := RX4) (T := TX4) (N := 4) hx hb hts hinX4 hown hK hP 0 rfl rfl 2 (by decide) hf23 (fun _ h9 => h9) rfl dX4_takesDigit_19 ?_
      refine lv_bipush (v := 10) hx hb dX4_takesDigit_22 (by decide) ?_
      refine lv_aload_n hx hb dX4_takesDigit_24 rfl (lv_at hl 0 rfl) ?_
      refine va_get (D := G.1) (ci := 4) (v := .ref rrw) (C := RX4) (T := TX4) (N := 4) hx hb hts hinX4 hown hK hP 0 rfl rfl 1 (by decide) hf20 (fun _ h9 => h9) rfl dX4_takesDigit_25 ?_
      refine lv_aload_n hx hb dX4_takesDigit_28 rfl (lv_at hl 0 rfl) ?_
      refine va_get (D := G.1) (ci := 4) (v := .int (nI (lk))) (C := RX4) (T := TX4) (N := 4) hx hb hts hinX4 hown hK hP 0 rfl rfl 2 (by decide) hf23 (fun _ h9 => h9) rfl dX4_takesDigit_29 ?_
      refine k_ci (wr := [(r0, .inr (4, [.ref rrs, .ref rrw, .int (nI (lk)), .int (nI (z))])), (rrs, .inr (3, [.ref ras])), (ras, .inl (G.2.1, 20, .inl st))]) [0, 1, 2] rfl (by decide) [3, 4] rfl (by decide) hP hD hS hA (k_V (n := 1) (ci := 3) (As := [.int (nI (lk))]) (rest := [.int 10, .int (nI (lk)), .ref rrw]) (wc := [(rrw, .inr (3, [.ref raw])), (raw, .inl (G.2.1, 21, .inl we))]) hx hb hml hown hts hK hP hD hl (c_X3_atI l G rrw raw 21 we lk H.size (by first | assumption | omega) (by first | assumption | omega)) [3, 4] rfl (by decide) gX4_takesDigit_X3_at rfl rfl rfl (by decide +kernel) rfl ⟨Nat.le_of_ble_eq_true rfl, Nat.le_of_ble_eq_true rfl⟩ rfl rfl rfl (Nat.le_of_ble_eq_true rfl) dX4_takesDigit_32 ⟨Nat.le_of_ble_eq_true rfl, Nat.le_of_ble_eq_true rfl⟩) (fun r_32 u H locs hw hP hD hS => ?_)
      have hw_32 : r_32 = we lk := hw
      have hP : va_P G.1 vwCl [(r0, .inr (4, [.ref rrs, .ref rrw, .int (nI (lk)), .int (nI (z))])), (rrs, .inr (3, [.ref ras])), (ras, .inl (G.2.1, 20, .inl st)), (rrw, .inr (3, [.ref raw])), (raw, .inl (G.2.1, 21, .inl we))] H := hP
      have hD : va_D A [(r0, .inr (4, [.ref rrs, .ref rrw, .int (nI (lk)), .int (nI (z))])), (rrs, .inr (3, [.ref ras])), (ras, .inl (G.2.1, 20, .inl st)), (rrw, .inr (3, [.ref raw])), (raw, .inl (G.2.1, 21, .inl we))] := hD
      subst hw_32
      refine lv_imul hx hb dX4_takesDigit_35 ?_
      refine lv_iload_n hx hb dX4_takesDigit_36 rfl (lv_at hl 1 rfl) ?_
      refine lv_iadd hx hb dX4_takesDigit_37 ?_
      refine lv_bipush (v := 48) hx hb dX4_takesDigit_38 (by decide) ?_
      refine lv_isub hx hb dX4_takesDigit_40 ?_
      refine k_cv (wr := [(r0, .inr (4, [.ref rrs, .ref rrw, .int (nI (lk)), .int (nI (z))])), (rrs, .inr (3, [.ref ras])), (ras, .inl (G.2.1, 20, .inl st))]) [0, 1, 2] rfl (by decide) [3, 4] rfl (by decide) hP hD hS hA (k_V (n := 2) (ci := 3) (As := [.int (nI (lk)), .int (((10 * (we lk)) + x) - 48)]) (rest := []) (wc := [(rrw, .inr (3, [.ref raw])), (raw, .inl (G.2.1, 21, .inl we))]) hx hb hml hown hts hK hP hD hl (c_X3_putI l G rrw raw 21 we lk (((10 * (we lk)) + x) - 48) H.size (by first | assumption | omega) (by first | assumption | omega)) [3, 4] rfl (by decide) gX4_takesDigit_X3_put rfl rfl rfl (by decide +kernel) rfl ⟨Nat.le_of_ble_eq_true rfl, Nat.le_of_ble_eq_true rfl⟩ rfl rfl rfl (Nat.le_of_ble_eq_true rfl) dX4_takesDigit_41 ⟨Nat.le_of_ble_eq_true rfl, Nat.le_of_ble_eq_true rfl⟩) (fun u H locs hw hP hD hS => ?_)
      have hw_41 : True := hw
      have hP : va_P G.1 vwCl [(r0, .inr (4, [.ref rrs, .ref rrw, .int (nI (lk)), .int (nI (z))])), (rrs, .inr (3, [.ref ras])), (ras, .inl (G.2.1, 20, .inl st)), (rrw, .inr (3, [.ref raw])), (raw, .inl (G.2.1, 21, .inl (upd we lk (((10 * (we lk)) + x) - 48))))] H := hP
      have hD : va_D A [(r0, .inr (4, [.ref rrs, .ref rrw, .int (nI (lk)), .int (nI (z))])), (rrs, .inr (3, [.ref ras])), (ras, .inl (G.2.1, 20, .inl st)), (rrw, .inr (3, [.ref raw])), (raw, .inl (G.2.1, 21, .inl (upd we lk (((10 * (we lk)) + x) - 48))))] := hD
      refine lv_aload_n hx hb dX4_takesDigit_44 rfl (lv_at hl 0 rfl) ?_
      refine lv_iload_n hx hb dX4_takesDigit_45 rfl (lv_at hl 2 rfl) ?_
      refine va_put (D := G.1) (ci := 4) (v := .int (nI (nx))) (ty := .int) (C := RX4) (T := TX4) (N := 4) hx hb hts hinX4 tyX4 tyX4_ok nmX4 hown hK hP hD hS 0 rfl rfl 3 (by decide) hf27 (fun _ h9 => h9) rfl (by decide +kernel) (rfl) (rfl) (Nat.le_of_ble_eq_true rfl) dX4_takesDigit_46 (fun H locs hP hD hS => ?_)
      have hP : va_P G.1 vwCl [(r0, .inr (4, [.ref rrs, .ref rrw, .int (nI (lk)), .int (nI (nx))])), (rrs, .inr (3, [.ref ras])), (ras, .inl (G.2.1, 20, .inl st)), (rrw, .inr (3, [.ref raw])), (raw, .inl (G.2.1, 21, .inl (upd we lk (((10 * (we lk)) + x) - 48))))] H := hP
      have hD : va_D A [(r0, .inr (4, [.ref rrs, .ref rrw, .int (nI (lk)), .int (nI (nx))])), (rrs, .inr (3, [.ref ras])), (ras, .inl (G.2.1, 20, .inl st)), (rrw, .inr (3, [.ref raw])), (raw, .inl (G.2.1, 21, .inl (upd we lk (((10 * (we lk)) + x) - 48))))] := hD
      refine lv_iconst (v := 1) hx hb dX4_takesDigit_49 (by decide) ?_
      rw [hQ]
      exact k_zret (v := 1) (lk, nx, st, (upd we lk (10 * we lk + x - 48))) [0, 1, 2, 3, 4] hx hb hr hlocks (by first | exact Or.inl rfl | exact Or.inr rfl) (by unfold tkD; rw [if_pos ⟨Int32.not_lt.mp c_3, c_9⟩]; exact ⟨rfl, rfl⟩) hK hP hD hS rfl (by decide) dX4_takesDigit_50
    · skip
      refine lv_iconst (v := 0) hx hb dX4_takesDigit_12 (by decide) ?_
      rw [hQ]
      exact k_zret (v := 0) (lk, z, st, we) [0, 1, 2, 3, 4] hx hb hr hlocks (by first | exact Or.inl rfl | exact Or.inr rfl) (by unfold tkD; rw [if_neg (by first | (intro q; exact absurd c_3 (Int32.not_lt.mpr q.1)) | (intro q; exact c_9 q.2))]; exact ⟨rfl, rfl⟩) hK hP hD hS rfl (by decide) dX4_takesDigit_13
set_option maxHeartbeats 4000000 in
set_option maxRecDepth 100000 in
theorem c_X4_takesLink (l : Launch) (G : kG) (r0 : Nat) (rrs : Nat) (ras : Nat) (rrw : Nat) (raw : Nat) (lk : Nat) (z : Nat) (st : Fn) (we : Fn) (x : Int32) (sz : Nat) (hl20 : lk ≤ 20) : kMet l yX4_takesLink wsX4_takesLink ({ frames := 1, cells := 0, slots := 0, locals := 22 } : Room) G [.ref r0, .int x] [(r0, .inr (4, [.ref rrs, .ref rrw, .int (nI (lk)), .int (nI (z))])), (rrs, .inr (3, [.ref ras])), (ras, .inl (G.2.1, 20, .inl st)), (rrw, .inr (3, [.ref raw])), (raw, .inl (G.2.1, 21, .inl we))] sz (kQi G (fun (r : Int32) (u : Nat × Nat × Fn × Fn) => r = bI (tkL x (z, lk, st, we)).1 ∧ (tkL x (z, lk, st, we)).2 = (u.2.1, u.1, u.2.2.1, u.2.2.2)) (fun (u : Nat × Nat × Fn × Fn) => [(r0, .inr (4, [.ref rrs, .ref rrw, .int (nI (u.1)), .int (nI (u.2.1))])), (rrs, .inr (3, [.ref ras])), (ras, .inl (G.2.1, 20, .inl u.2.2.1)), (rrw, .inr (3, [.ref raw])), (raw, .inl (G.2.1, 21, .inl u.2.2.2))])) 0 0 := by
  refine k_entry (cc := cX4_takesLink) (maxL := 3) (ret := (some .boolean)) (by decide) rfl (Nat.le_of_ble_eq_true rfl) ?_
  intro p e s m args below meth c A ls H locs Q hQ hx hb hml hr hts hown hlocks hin hA hP hK hD hS hl
  have hown : s.vm.findClass RX4 = some m.cls := hown
  have hl : lv_has ls 3 [(0, .ref r0), (1, .int x)] := hl
  have hf23 := hts (.fieldLink RX4 23 "HangingChain$ShapeReader" "links" "I") (by decide +kernel)
  have hinX4 : ∀ w ∈ wsX40, w ∈ wsX4_takesLink := by decide +kernel
  have hf14 := hts (.fieldLink RX4 14 "HangingChain$ShapeReader" "steps" "LHangingChain$Row;") (by decide +kernel)
  have hf27 := hts (.fieldLink RX4 27 "HangingChain$ShapeReader" "state" "I") (by decide +kernel)
  refine lv_aload_n hx hb dX4_takesLink_0 rfl (lv_at hl 0 rfl) ?_
  refine va_get (D := G.1) (ci := 4) (v := .int (nI (lk))) (C := RX4) (T := TX4) (N := 4) hx hb hts hinX4 hown hK hP 0 rfl rfl 2 (by decide) hf23 (fun _ h9 => h9) rfl dX4_takesLink_1 ?_
  refine lv_bipush (v := 20) hx hb dX4_takesLink_4 (by decide) ?_
  refine g_icmp_lt (a := lk) (b := 20) (tgt := 11) hx hb (by omega) (by omega) dX4_takesLink_6 (by decide) (fun c_6 => ?_) (fun c_6 => ?_)
  · skip
    refine lv_iload_n hx hb dX4_takesLink_11 rfl (lv_at hl 1 rfl) ?_
    refine lv_bipush (v := 61) hx hb dX4_takesLink_12 (by decide) ?_
    have L31 : (x = 61 ∨ x = 94 ∨ x = 118) → ∀ (H : Heap) (locs : List Loc) (ls : Array Slot), va_P G.1 vwCl [(r0, .inr (4, [.ref rrs, .ref rrw, .int (nI (lk)), .int (nI (z))])), (rrs, .inr (3, [.ref ras])), (ras, .inl (G.2.1, 20, .inl st)), (rrw, .inr (3, [.ref raw])), (raw, .inl (G.2.1, 21, .inl we))] H → va_D A [(r0, .inr (4, [.ref rrs, .ref rrw, .int (nI (lk)), .int (nI (z))])), (rrs, .inr (3, [.ref ras])), (ras, .inl (G.2.1, 20, .inl st)), (rrw, .inr (3, [.ref raw])), (raw, .inl (G.2.1, 21, .inl we))] → va_S A s.heap H locs → lv_has ls 3 [(0, .ref r0), (1, .int x)] → W p l e ({ frames := 1, cells := 0, slots := 0, locals := 22 } : Room) s m args below meth c H locs 0 0 Q (F0 m 31 ls []) := by
      intro hx3 H locs ls hP hD hS hl
      refine lv_iload_n hx hb dX4_takesLink_31 rfl (lv_at hl 1 rfl) ?_
      refine lv_bipush (v := 94) hx hb dX4_takesLink_32 (by decide) ?_
      have L52 : ∀ (v : Int32), (v = stp x) → ∀ (H : Heap) (locs : List Loc) (ls : Array Slot), va_P G.1 vwCl [(r0, .inr (4, [.ref rrs, .ref rrw, .int (nI (lk)), .int (nI (z))])), (rrs, .inr (3, [.ref ras])), (ras, .inl (G.2.1, 20, .inl st)), (rrw, .inr (3, [.ref raw])), (raw, .inl (G.2.1, 21, .inl we))] H → va_D A [(r0, .inr (4, [.ref rrs, .ref rrw, .int (nI (lk)), .int (nI (z))])), (rrs, .inr (3, [.ref ras])), (ras, .inl (G.2.1, 20, .inl st)), (rrw, .inr (3, [.ref raw])), (raw, .inl (G.2.1, 21, .inl we))] → va_S A s.heap H locs → lv_has ls 3 [(0, .ref r0), (1, .int x)] → W p l e ({ frames := 1, cells := 0, slots := 0, locals := 22 } : Room) s m args below meth c H locs 0 0 Q (F0 m 52 ls [.int v]) := by
        intro v ev H locs ls hP hD hS hl
        subst ev
        refine lv_istore_n (lv' := [(2, .int (stp x)), (0, .ref r0), (1, .int x)]) hx hb dX4_takesLink_52 rfl hl (by decide) rfl (fun ls hl => ?_)
        refine lv_aload_n hx hb dX4_takesLink_53 rfl (lv_at hl 1 rfl) ?_
        refine va_get (D := G.1) (ci := 4) (v := .ref rrs) (C := RX4) (T := TX4) (N := 4) hx hb hts hinX4 hown hK hP 0 rfl rfl 0 (by decide) hf14 (fun _ h9 => h9) rfl dX4_takesLink_54 ?_
        refine lv_aload_n hx hb dX4_takesLink_57 rfl (lv_at hl 1 rfl) ?_
        refine va_get (D := G.1) (ci := 4) (v := .int (nI (lk))) (C := RX4) (T := TX4) (N := 4) hx hb hts hinX4 hown hK hP 0 rfl rfl 2 (by decide) hf23 (fun _ h9 => h9) rfl dX4_takesLink_58 ?_
        refine lv_iload_n hx hb dX4_takesLink_61 rfl (lv_at hl 0 rfl) ?_
        refine k_cv (wr := [(r0, .inr (4, [.ref rrs, .ref rrw, .int (nI (lk)), .int (nI (z))])), (rrw, .inr (3, [.ref raw])), (raw, .inl (G.2.1, 21, .inl we))]) [0, 3, 4] rfl (by decide) [1, 2] rfl (by decide) hP hD hS hA (k_V (n := 2) (ci := 3) (As := [.int (nI (lk)), .int (stp x)]) (rest := []) (wc := [(rrs, .inr (3, [.ref ras])), (ras, .inl (G.2.1, 20, .inl st))]) hx hb hml hown hts hK hP hD hl (c_X3_putI l G rrs ras 20 st lk (stp x) H.size (by first | assumption | omega) (by first | assumption | omega)) [1, 2] rfl (by decide) gX4_takesLink_X3_put rfl rfl rfl (by decide +kernel) rfl ⟨Nat.le_of_ble_eq_true rfl, Nat.le_of_ble_eq_true rfl⟩ rfl rfl rfl (Nat.le_of_ble_eq_true rfl) dX4_takesLink_62 ⟨Nat.le_of_ble_eq_true rfl, Nat.le_of_ble_eq_true rfl⟩) (fun u H locs hw hP hD hS => ?_)
        have hw_62 : True := hw
        have hP : va_P G.1 vwCl [(r0, .inr (4, [.ref rrs, .ref rrw, .int (nI (lk)), .int (nI (z))])), (rrw, .inr (3, [.ref raw])), (raw, .inl (G.2.1, 21, .inl we)), (rrs, .inr (3, [.ref ras])), (ras, .inl (G.2.1, 20, .inl (upd st lk (stp x))))] H := hP
        have hD : va_D A [(r0, .inr (4, [.ref rrs, .ref rrw, .int (nI (lk)), .int (nI (z))])), (rrw, .inr (3, [.ref raw])), (raw, .inl (G.2.1, 21, .inl we)), (rrs, .inr (3, [.ref ras])), (ras, .inl (G.2.1, 20, .inl (upd st lk (stp x))))] := hD
        refine lv_aload_n hx hb dX4_takesLink_65 rfl (lv_at hl 1 rfl) ?_
        refine lv_dup hx hb dX4_takesLink_66 rfl ?_
        refine va_get (D := G.1) (ci := 4) (v := .int (nI (lk))) (C := RX4) (T := TX4) (N := 4) hx hb hts hinX4 hown hK hP 0 rfl rfl 2 (by decide) hf23 (fun _ h9 => h9) rfl dX4_takesLink_67 ?_
        refine lv_iconst (v := 1) hx hb dX4_takesLink_70 (by decide) ?_
        refine lv_iadd hx hb dX4_takesLink_71 ?_
        refine g_ti (y := nI (lk + 1)) (nI_add (lk) (1)) ?_
        refine va_put (D := G.1) (ci := 4) (v := .int (nI (lk + 1))) (ty := .int) (C := RX4) (T := TX4) (N := 4) hx hb hts hinX4 tyX4 tyX4_ok nmX4 hown hK hP hD hS 0 rfl rfl 2 (by decide) hf23 (fun _ h9 => h9) rfl (by decide +kernel) (rfl) (rfl) (Nat.le_of_ble_eq_true rfl) dX4_takesLink_72 (fun H locs hP hD hS => ?_)
        have hP : va_P G.1 vwCl [(r0, .inr (4, [.ref rrs, .ref rrw, .int (nI (lk + 1)), .int (nI (z))])), (rrw, .inr (3, [.ref raw])), (raw, .inl (G.2.1, 21, .inl we)), (rrs, .inr (3, [.ref ras])), (ras, .inl (G.2.1, 20, .inl (upd st lk (stp x))))] H := hP
        have hD : va_D A [(r0, .inr (4, [.ref rrs, .ref rrw, .int (nI (lk + 1)), .int (nI (z))])), (rrw, .inr (3, [.ref raw])), (raw, .inl (G.2.1, 21, .inl we)), (rrs, .inr (3, [.ref ras])), (ras, .inl (G.2.1, 20, .inl (upd st lk (stp x))))] := hD
        refine lv_aload_n hx hb dX4_takesLink_75 rfl (lv_at hl 1 rfl) ?_
        refine lv_iload_n hx hb dX4_takesLink_76 rfl (lv_at hl 0 rfl) ?_
        have L85 : ∀ (w : Nat), (w = if stp x = 0 then 2 else 1) → ∀ (H : Heap) (locs : List Loc) (ls : Array Slot), va_P G.1 vwCl [(r0, .inr (4, [.ref rrs, .ref rrw, .int (nI (lk + 1)), .int (nI (z))])), (rrw, .inr (3, [.ref raw])), (raw, .inl (G.2.1, 21, .inl we)), (rrs, .inr (3, [.ref ras])), (ras, .inl (G.2.1, 20, .inl (upd st lk (stp x))))] H → va_D A [(r0, .inr (4, [.ref rrs, .ref rrw, .int (nI (lk + 1)), .int (nI (z))])), (rrw, .inr (3, [.ref raw])), (raw, .inl (G.2.1, 21, .inl we)), (rrs, .inr (3, [.ref ras])), (ras, .inl (G.2.1, 20, .inl (upd st lk (stp x))))] → va_S A s.heap H locs → lv_has ls 3 [(2, .int (stp x)), (0, .ref r0), (1, .int x)] → W p l e ({ frames := 1, cells := 0, slots := 0, locals := 22 } : Room) s m args below meth c H locs 0 0 Q (F0 m 85 ls [.int (nI w), .ref r0]) := by
          intro w ew H locs ls hP hD hS hl
          refine va_put (D := G.1) (ci := 4) (v := .int (nI w)) (ty := .int) (C := RX4) (T := TX4) (N := 4) hx hb hts hinX4 tyX4 tyX4_ok nmX4 hown hK hP hD hS 0 rfl rfl 3 (by decide) hf27 (fun _ h9 => h9) rfl (by decide +kernel) (rfl) (rfl) (Nat.le_of_ble_eq_true rfl) dX4_takesLink_85 (fun H locs hP hD hS => ?_)
          have hP : va_P G.1 vwCl [(r0, .inr (4, [.ref rrs, .ref rrw, .int (nI (lk + 1)), .int (nI w)])), (rrw, .inr (3, [.ref raw])), (raw, .inl (G.2.1, 21, .inl we)), (rrs, .inr (3, [.ref ras])), (ras, .inl (G.2.1, 20, .inl (upd st lk (stp x))))] H := hP
          have hD : va_D A [(r0, .inr (4, [.ref rrs, .ref rrw, .int (nI (lk + 1)), .int (nI w)])), (rrw, .inr (3, [.ref raw])), (raw, .inl (G.2.1, 21, .inl we)), (rrs, .inr (3, [.ref ras])), (ras, .inl (G.2.1, 20, .inl (upd st lk (stp x))))] := hD
          refine lv_iconst (v := 1) hx hb dX4_takesLink_88 (by decide) ?_
          rw [hQ]
          exact k_zret (v := 1) ((lk + 1), w, (upd st lk (stp x)), we) [0, 3, 4, 1, 2] hx hb hr hlocks (by first | exact Or.inl rfl | exact Or.inr rfl) (by simp only [tkL]; rw [if_neg (by omega), if_pos hx3, ← ew]; exact ⟨rfl, rfl⟩) hK hP hD hS rfl (by decide) dX4_takesLink_89
        refine lv_if_ne (tgt := 84) hx hb dX4_takesLink_77 (by decide) (fun c_77 => ?_) (fun c_77 => ?_)
        · skip
          refine lv_iconst (v := 1) hx hb dX4_takesLink_84 (by decide) ?_
          exact L85 1 ((if_neg c_77).symm) _ _ _ hP hD hS (lv_sub hl [0, 1, 2] rfl)
        · skip
          refine lv_iconst (v := 2) hx hb dX4_takesLink_80 (by decide) ?_
          refine lv_goto (tgt := 85) hx hb dX4_takesLink_81 (by decide) ?_
          exact L85 2 ((if_pos c_77).symm) _ _ _ hP hD hS (lv_sub hl [0, 1, 2] rfl)
      refine lv_icmp_ne (tgt := 41) hx hb dX4_takesLink_34 (by decide) (fun c_34 => ?_) (fun c_34 => ?_)
      · skip
        refine lv_iload_n hx hb dX4_takesLink_41 rfl (lv_at hl 1 rfl) ?_
        refine lv_bipush (v := 118) hx hb dX4_takesLink_42 (by decide) ?_
        refine lv_icmp_ne (tgt := 51) hx hb dX4_takesLink_44 (by decide) (fun c_44 => ?_) (fun c_44 => ?_)
        · skip
          refine lv_iconst (v := 0) hx hb dX4_takesLink_51 (by decide) ?_
          exact L52 0 (by unfold stp; rw [if_neg c_34, if_neg c_44]) _ _ _ hP hD hS (lv_sub hl [0, 1] rfl)
        · skip
          refine lv_iconst (v := (-1)) hx hb dX4_takesLink_47 (by decide) ?_
          refine lv_goto (tgt := 52) hx hb dX4_takesLink_48 (by decide) ?_
          exact L52 (-1) (by rw [c_44]; rfl) _ _ _ hP hD hS (lv_sub hl [0, 1] rfl)
      · skip
        refine lv_iconst (v := 1) hx hb dX4_takesLink_37 (by decide) ?_
        refine lv_goto (tgt := 52) hx hb dX4_takesLink_38 (by decide) ?_
        exact L52 1 (by rw [c_34]; rfl) _ _ _ hP hD hS (lv_sub hl [0, 1] rfl)
    refine lv_icmp_eq (tgt := 31) hx hb dX4_takesLink_14 (by decide) (fun c_14 => ?_) (fun c_14 => ?_)
    · skip
      exact L31 (Or.inl c_14) _ _ _ hP hD hS (lv_sub hl [0, 1] rfl)
    · skip
      refine lv_iload_n hx hb dX4_takesLink_17 rfl (lv_at hl 1 rfl) ?_
      refine lv_bipush (v := 94) hx hb dX4_takesLink_18 (by decide) ?_
      refine lv_icmp_eq (tgt := 31) hx hb dX4_takesLink_20 (by decide) (fun c_20 => ?_) (fun c_20 => ?_)
      · skip
        exact L31 (Or.inr (Or.inl c_20)) _ _ _ hP hD hS (lv_sub hl [0, 1] rfl)
      · skip
        refine lv_iload_n hx hb dX4_takesLink_23 rfl (lv_at hl 1 rfl) ?_
        refine lv_bipush (v := 118) hx hb dX4_takesLink_24 (by decide) ?_
        refine lv_icmp_eq (tgt := 31) hx hb dX4_takesLink_26 (by decide) (fun c_26 => ?_) (fun c_26 => ?_)
        · skip
          exact L31 (Or.inr (Or.inr c_26)) _ _ _ hP hD hS (lv_sub hl [0, 1] rfl)
        · skip
          refine lv_iconst (v := 0) hx hb dX4_takesLink_29 (by decide) ?_
          rw [hQ]
          exact k_zret (v := 0) (lk, z, st, we) [0, 1, 2, 3, 4] hx hb hr hlocks (by first | exact Or.inl rfl | exact Or.inr rfl) (by simp only [tkL]; rw [if_neg (by omega), if_neg (by intro q; rcases q with q | q | q; exact c_14 q; exact c_20 q; exact c_26 q)]; exact ⟨rfl, rfl⟩) hK hP hD hS rfl (by decide) dX4_takesLink_30
  · skip
    refine lv_iconst (v := 0) hx hb dX4_takesLink_9 (by decide) ?_
    rw [hQ]
    exact k_zret (v := 0) (lk, z, st, we) [0, 1, 2, 3, 4] hx hb hr hlocks (by first | exact Or.inl rfl | exact Or.inr rfl) (by simp only [tkL]; rw [if_pos (by omega)]; exact ⟨rfl, rfl⟩) hK hP hD hS rfl (by decide) dX4_takesLink_10
set_option maxHeartbeats 4000000 in
set_option maxRecDepth 100000 in
theorem c_X4_takes (l : Launch) (G : kG) (r0 : Nat) (rrs : Nat) (ras : Nat) (rrw : Nat) (raw : Nat) (lk : Nat) (z : Nat) (st : Fn) (we : Fn) (x : Int32) (sz : Nat) (hl20 : lk ≤ 20) (hz : z ≤ 6) (hl1 : z = 1 → 1 ≤ lk) : kMet l yX4_takes wsX4_takes ({ frames := 2, cells := 0, slots := 0, locals := 44 } : Room) G [.ref r0, .int x] [(r0, .inr (4, [.ref rrs, .ref rrw, .int (nI (lk)), .int (nI (z))])), (rrs, .inr (3, [.ref ras])), (ras, .inl (G.2.1, 20, .inl st)), (rrw, .inr (3, [.ref raw])), (raw, .inl (G.2.1, 21, .inl we))] sz (kQi G (fun (r : Int32) (u : Nat × Nat × Fn × Fn) => r = bI (tkA x (z, lk, st, we)).1 ∧ (tkA x (z, lk, st, we)).2 = (u.2.1, u.1, u.2.2.1, u.2.2.2)) (fun (u : Nat × Nat × Fn × Fn) => [(r0, .inr (4, [.ref rrs, .ref rrw, .int (nI (u.1)), .int (nI (u.2.1))])), (rrs, .inr (3, [.ref ras])), (ras, .inl (G.2.1, 20, .inl u.2.2.1)), (rrw, .inr (3, [.ref raw])), (raw, .inl (G.2.1, 21, .inl u.2.2.2))])) 0 0 := by
  refine k_entry (cc := cX4_takes) (maxL := 2) (ret := (some .boolean)) (by decide) rfl (Nat.le_of_ble_eq_true rfl) ?_
  intro p e s m args below meth c A ls H locs Q hQ hx hb hml hr hts hown hlocks hin hA hP hK hD hS hl
  have hown : s.vm.findClass RX4 = some m.cls := hown
  have hl : lv_has ls 2 [(0, .ref r0), (1, .int x)] := hl
  have hf27 := hts (.fieldLink RX4 27 "HangingChain$ShapeReader" "state" "I") (by decide +kernel)
  have hinX4 : ∀ w ∈ wsX40, w ∈ wsX4_takes := by decide +kernel
  refine lv_aload_n hx hb dX4_takes_0 rfl (lv_at hl 0 rfl) ?_
  refine va_get (D := G.1) (ci := 4) (v := .int (nI (z))) (C := RX4) (T := TX4) (N := 4) hx hb hts hinX4 hown hK hP 0 rfl rfl 3 (by decide) hf27 (fun _ h9 => h9) rfl dX4_takes_1 ?_
  rcases (show z = 0 ∨ z = 1 ∨ z = 2 ∨ z = 3 ∨ z = 4 ∨ z = 5 ∨ z = 6 by omega) with rfl | rfl | rfl | rfl | rfl | rfl | rfl
  · skip
    refine lv_tableOut (x := nI 0) (tgt := 142) hx hb dX4_takes_4 (by decide) (by decide) ?_
    refine lv_aload_n hx hb dX4_takes_142 rfl (lv_at hl 0 rfl) ?_
    refine lv_iload_n hx hb dX4_takes_143 rfl (lv_at hl 1 rfl) ?_
    refine k_ci (wr := []) [] rfl (by decide) [0, 1, 2, 3, 4] rfl (by decide) hP hD hS hA (k_V (n := 1) (ci := 4) (As := [.int x]) (rest := []) (wc := [(r0, .inr (4, [.ref rrs, .ref rrw, .int (nI (lk)), .int (nI (0))])), (rrs, .inr (3, [.ref ras])), (ras, .inl (G.2.1, 20, .inl st)), (rrw, .inr (3, [.ref raw])), (raw, .inl (G.2.1, 21, .inl we))]) hx hb hml hown hts hK hP hD hl (c_X4_takesLink l G r0 rrs ras rrw raw lk 0 st we x H.size (by first | assumption | omega)) [0, 1, 2, 3, 4] rfl (by decide) gX4_takes_X4_takesLink rfl rfl rfl (by decide +kernel) rfl ⟨Nat.le_of_ble_eq_true rfl, Nat.le_of_ble_eq_true rfl⟩ rfl rfl rfl (Nat.le_of_ble_eq_true rfl) dX4_takes_144 ⟨Nat.le_of_ble_eq_true rfl, Nat.le_of_ble_eq_true rfl⟩) (fun r_144 u H locs hw hP hD hS => ?_)
    obtain ⟨lk_144, z_144, st_144, we_144⟩ := u
    have hw_144 : r_144 = bI (tkL x (0, lk, st, we)).1 ∧ (tkL x (0, lk, st, we)).2 = (z_144, lk_144, st_144, we_144) := hw
    have hP : va_P G.1 vwCl [(r0, .inr (4, [.ref rrs, .ref rrw, .int (nI (lk_144)), .int (nI (z_144))])), (rrs, .inr (3, [.ref ras])), (ras, .inl (G.2.1, 20, .inl st_144)), (rrw, .inr (3, [.ref raw])), (raw, .inl (G.2.1, 21, .inl we_144))] H := hP
    have hD : va_D A [(r0, .inr (4, [.ref rrs, .ref rrw, .int (nI (lk_144)), .int (nI (z_144))])), (rrs, .inr (3, [.ref ras])), (ras, .inl (G.2.1, 20, .inl st_144)), (rrw, .inr (3, [.ref raw])), (raw, .inl (G.2.1, 21, .inl we_144))] := hD
    obtain ⟨hr_144, hu_144⟩ := hw_144
    rw [hQ]
    exact k_zret (v := r_144) (lk_144, z_144, st_144, we_144) [0, 1, 2, 3, 4] hx hb hr hlocks (by rw [hr_144]; exact bI_01 _) (by have e : tkA x (0, lk, st, we) = tkL x (0, lk, st, we) := (by simp [tkA]); rw [e]; exact ⟨hr_144, hu_144⟩) hK hP hD hS rfl (by decide) dX4_takes_147
  · skip
    refine lv_tableIn (x := nI 1) (off := 36) (tgt := 40) hx hb dX4_takes_4 (by decide) (by decide) rfl (by decide) ?_
    refine lv_aload_n hx hb dX4_takes_40 rfl (lv_at hl 0 rfl) ?_
    refine lv_iload_n hx hb dX4_takes_41 rfl (lv_at hl 1 rfl) ?_
    refine k_ci (wr := []) [] rfl (by decide) [0, 1, 2, 3, 4] rfl (by decide) hP hD hS hA (k_V (n := 1) (ci := 4) (As := [.int x]) (rest := []) (wc := [(r0, .inr (4, [.ref rrs, .ref rrw, .int (nI (lk)), .int (nI (1))])), (rrs, .inr (3, [.ref ras])), (ras, .inl (G.2.1, 20, .inl st)), (rrw, .inr (3, [.ref raw])), (raw, .inl (G.2.1, 21, .inl we))]) hx hb hml hown hts hK hP hD hl (c_X4_takesTwo l G r0 rrs ras rrw raw lk 1 st we x H.size (by first | assumption | omega) (by first | assumption | omega)) [0, 1, 2, 3, 4] rfl (by decide) gX4_takes_X4_takesTwo rfl rfl rfl (by decide +kernel) rfl ⟨Nat.le_of_ble_eq_true rfl, Nat.le_of_ble_eq_true rfl⟩ rfl rfl rfl (Nat.le_of_ble_eq_true rfl) dX4_takes_42 ⟨Nat.le_of_ble_eq_true rfl, Nat.le_of_ble_eq_true rfl⟩) (fun r_42 u H locs hw hP hD hS => ?_)
    obtain ⟨lk_42, z_42, st_42, we_42⟩ := u
    have hw_42 : r_42 = bI (tkT x (1, lk, st, we)).1 ∧ (tkT x (1, lk, st, we)).2 = (z_42, lk_42, st_42, we_42) := hw
    have hP : va_P G.1 vwCl [(r0, .inr (4, [.ref rrs, .ref rrw, .int (nI (lk_42)), .int (nI (z_42))])), (rrs, .inr (3, [.ref ras])), (ras, .inl (G.2.1, 20, .inl st_42)), (rrw, .inr (3, [.ref raw])), (raw, .inl (G.2.1, 21, .inl we_42))] H := hP
    have hD : va_D A [(r0, .inr (4, [.ref rrs, .ref rrw, .int (nI (lk_42)), .int (nI (z_42))])), (rrs, .inr (3, [.ref ras])), (ras, .inl (G.2.1, 20, .inl st_42)), (rrw, .inr (3, [.ref raw])), (raw, .inl (G.2.1, 21, .inl we_42))] := hD
    obtain ⟨hr_42, hu_42⟩ := hw_42
    refine lv_if_ne (tgt := 64) hx hb dX4_takes_45 (by decide) (fun c_45 => ?_) (fun c_45 => ?_)
    · skip
      have b_42 := bI_t hr_42 c_45
      refine lv_iconst (v := 1) hx hb dX4_takes_64 (by decide) ?_
      refine lv_goto (tgt := 69) hx hb dX4_takes_65 (by decide) ?_
      rw [hQ]
      exact k_zret (v := 1) (lk_42, z_42, st_42, we_42) [0, 1, 2, 3, 4] hx hb hr hlocks (by first | exact Or.inl rfl | exact Or.inr rfl) (by have e : tkA x (1, lk, st, we) = tkT x (1, lk, st, we) := (by simp [tkA, b_42]); rw [e, b_42]; exact ⟨rfl, hu_42⟩) hK hP hD hS rfl (by decide) dX4_takes_69
    · skip
      have b_42 := bI_f hr_42 c_45
      obtain ⟨rfl, rfl, rfl, rfl⟩ := tkT_s b_42 hu_42
      refine lv_aload_n hx hb dX4_takes_48 rfl (lv_at hl 0 rfl) ?_
      refine lv_iload_n hx hb dX4_takes_49 rfl (lv_at hl 1 rfl) ?_
      refine k_ci (wr := []) [] rfl (by decide) [0, 1, 2, 3, 4] rfl (by decide) hP hD hS hA (k_V (n := 1) (ci := 4) (As := [.int x]) (rest := []) (wc := [(r0, .inr (4, [.ref rrs, .ref rrw, .int (nI (lk)), .int (nI (1))])), (rrs, .inr (3, [.ref ras])), (ras, .inl (G.2.1, 20, .inl st)), (rrw, .inr (3, [.ref raw])), (raw, .inl (G.2.1, 21, .inl we))]) hx hb hml hown hts hK hP hD hl (c_X4_takesBracket l G r0 rrs ras rrw raw lk 1 st we x H.size) [0, 1, 2, 3, 4] rfl (by decide) gX4_takes_X4_takesBracket rfl rfl rfl (by decide +kernel) rfl ⟨Nat.le_of_ble_eq_true rfl, Nat.le_of_ble_eq_true rfl⟩ rfl rfl rfl (Nat.le_of_ble_eq_true rfl) dX4_takes_50 ⟨Nat.le_of_ble_eq_true rfl, Nat.le_of_ble_eq_true rfl⟩) (fun r_50 u H locs hw hP hD hS => ?_)
      obtain ⟨lk_50, z_50, st_50, we_50⟩ := u
      have hw_50 : r_50 = bI (tkB x (1, lk, st, we)).1 ∧ (tkB x (1, lk, st, we)).2 = (z_50, lk_50, st_50, we_50) := hw
      have hP : va_P G.1 vwCl [(r0, .inr (4, [.ref rrs, .ref rrw, .int (nI (lk_50)), .int (nI (z_50))])), (rrs, .inr (3, [.ref ras])), (ras, .inl (G.2.1, 20, .inl st_50)), (rrw, .inr (3, [.ref raw])), (raw, .inl (G.2.1, 21, .inl we_50))] H := hP
      have hD : va_D A [(r0, .inr (4, [.ref rrs, .ref rrw, .int (nI (lk_50)), .int (nI (z_50))])), (rrs, .inr (3, [.ref ras])), (ras, .inl (G.2.1, 20, .inl st_50)), (rrw, .inr (3, [.ref raw])), (raw, .inl (G.2.1, 21, .inl we_50))] := hD
      obtain ⟨hr_50, hu_50⟩ := hw_50
      refine lv_if_ne (tgt := 64) hx hb dX4_takes_53 (by decide) (fun c_53 => ?_) (fun c_53 => ?_)
      · skip
        have b_50 := bI_t hr_50 c_53
        refine lv_iconst (v := 1) hx hb dX4_takes_64 (by decide) ?_
        refine lv_goto (tgt := 69) hx hb dX4_takes_65 (by decide) ?_
        rw [hQ]
        exact k_zret (v := 1) (lk_50, z_50, st_50, we_50) [0, 1, 2, 3, 4] hx hb hr hlocks (by first | exact Or.inl rfl | exact Or.inr rfl) (by have e : tkA x (1, lk, st, we) = tkB x (1, lk, st, we) := (by simp [tkA, b_42, b_50]); rw [e, b_50]; exact ⟨rfl, hu_50⟩) hK hP hD hS rfl (by decide) dX4_takes_69
      · skip
        have b_50 := bI_f hr_50 c_53
        obtain ⟨rfl, rfl, rfl, rfl⟩ := tkB_s b_50 hu_50
        refine lv_aload_n hx hb dX4_takes_56 rfl (lv_at hl 0 rfl) ?_
        refine lv_iload_n hx hb dX4_takes_57 rfl (lv_at hl 1 rfl) ?_
        refine k_ci (wr := []) [] rfl (by decide) [0, 1, 2, 3, 4] rfl (by decide) hP hD hS hA (k_V (n := 1) (ci := 4) (As := [.int x]) (rest := []) (wc := [(r0, .inr (4, [.ref rrs, .ref rrw, .int (nI (lk)), .int (nI (1))])), (rrs, .inr (3, [.ref ras])), (ras, .inl (G.2.1, 20, .inl st)), (rrw, .inr (3, [.ref raw])), (raw, .inl (G.2.1, 21, .inl we))]) hx hb hml hown hts hK hP hD hl (c_X4_takesLink l G r0 rrs ras rrw raw lk 1 st we x H.size (by first | assumption | omega)) [0, 1, 2, 3, 4] rfl (by decide) gX4_takes_X4_takesLink rfl rfl rfl (by decide +kernel) rfl ⟨Nat.le_of_ble_eq_true rfl, Nat.le_of_ble_eq_true rfl⟩ rfl rfl rfl (Nat.le_of_ble_eq_true rfl) dX4_takes_58 ⟨Nat.le_of_ble_eq_true rfl, Nat.le_of_ble_eq_true rfl⟩) (fun r_58 u H locs hw hP hD hS => ?_)
        obtain ⟨lk_58, z_58, st_58, we_58⟩ := u
        have hw_58 : r_58 = bI (tkL x (1, lk, st, we)).1 ∧ (tkL x (1, lk, st, we)).2 = (z_58, lk_58, st_58, we_58) := hw
        have hP : va_P G.1 vwCl [(r0, .inr (4, [.ref rrs, .ref rrw, .int (nI (lk_58)), .int (nI (z_58))])), (rrs, .inr (3, [.ref ras])), (ras, .inl (G.2.1, 20, .inl st_58)), (rrw, .inr (3, [.ref raw])), (raw, .inl (G.2.1, 21, .inl we_58))] H := hP
        have hD : va_D A [(r0, .inr (4, [.ref rrs, .ref rrw, .int (nI (lk_58)), .int (nI (z_58))])), (rrs, .inr (3, [.ref ras])), (ras, .inl (G.2.1, 20, .inl st_58)), (rrw, .inr (3, [.ref raw])), (raw, .inl (G.2.1, 21, .inl we_58))] := hD
        obtain ⟨hr_58, hu_58⟩ := hw_58
        refine lv_if_eq (tgt := 68) hx hb dX4_takes_61 (by decide) (fun c_61 => ?_) (fun c_61 => ?_)
        · skip
          have b_58 := bI_f hr_58 c_61
          obtain ⟨rfl, rfl, rfl, rfl⟩ := tkL_s b_58 hu_58
          refine lv_iconst (v := 0) hx hb dX4_takes_68 (by decide) ?_
          rw [hQ]
          exact k_zret (v := 0) (lk, 1, st, we) [0, 1, 2, 3, 4] hx hb hr hlocks (by first | exact Or.inl rfl | exact Or.inr rfl) (by have e : tkA x (1, lk, st, we) = tkL x (1, lk, st, we) := (by simp [tkA, b_42, b_50, b_58]); rw [e, b_58]; exact ⟨rfl, hu_58⟩) hK hP hD hS rfl (by decide) dX4_takes_69
        · skip
          have b_58 := bI_t hr_58 c_61
          refine lv_iconst (v := 1) hx hb dX4_takes_64 (by decide) ?_
          refine lv_goto (tgt := 69) hx hb dX4_takes_65 (by decide) ?_
          rw [hQ]
          exact k_zret (v := 1) (lk_58, z_58, st_58, we_58) [0, 1, 2, 3, 4] hx hb hr hlocks (by first | exact Or.inl rfl | exact Or.inr rfl) (by have e : tkA x (1, lk, st, we) = tkL x (1, lk, st, we) := (by simp [tkA, b_42, b_50, b_58]); rw [e, b_58]; exact ⟨rfl, hu_58⟩) hK hP hD hS rfl (by decide) dX4_takes_69
  · skip
    refine lv_tableIn (x := nI 2) (off := 66) (tgt := 70) hx hb dX4_takes_4 (by decide) (by decide) rfl (by decide) ?_
    refine lv_aload_n hx hb dX4_takes_70 rfl (lv_at hl 0 rfl) ?_
    refine lv_iload_n hx hb dX4_takes_71 rfl (lv_at hl 1 rfl) ?_
    refine k_ci (wr := []) [] rfl (by decide) [0, 1, 2, 3, 4] rfl (by decide) hP hD hS hA (k_V (n := 1) (ci := 4) (As := [.int x]) (rest := []) (wc := [(r0, .inr (4, [.ref rrs, .ref rrw, .int (nI (lk)), .int (nI (2))])), (rrs, .inr (3, [.ref ras])), (ras, .inl (G.2.1, 20, .inl st)), (rrw, .inr (3, [.ref raw])), (raw, .inl (G.2.1, 21, .inl we))]) hx hb hml hown hts hK hP hD hl (c_X4_takesBracket l G r0 rrs ras rrw raw lk 2 st we x H.size) [0, 1, 2, 3, 4] rfl (by decide) gX4_takes_X4_takesBracket rfl rfl rfl (by decide +kernel) rfl ⟨Nat.le_of_ble_eq_true rfl, Nat.le_of_ble_eq_true rfl⟩ rfl rfl rfl (Nat.le_of_ble_eq_true rfl) dX4_takes_72 ⟨Nat.le_of_ble_eq_true rfl, Nat.le_of_ble_eq_true rfl⟩) (fun r_72 u H locs hw hP hD hS => ?_)
    obtain ⟨lk_72, z_72, st_72, we_72⟩ := u
    have hw_72 : r_72 = bI (tkB x (2, lk, st, we)).1 ∧ (tkB x (2, lk, st, we)).2 = (z_72, lk_72, st_72, we_72) := hw
    have hP : va_P G.1 vwCl [(r0, .inr (4, [.ref rrs, .ref rrw, .int (nI (lk_72)), .int (nI (z_72))])), (rrs, .inr (3, [.ref ras])), (ras, .inl (G.2.1, 20, .inl st_72)), (rrw, .inr (3, [.ref raw])), (raw, .inl (G.2.1, 21, .inl we_72))] H := hP
    have hD : va_D A [(r0, .inr (4, [.ref rrs, .ref rrw, .int (nI (lk_72)), .int (nI (z_72))])), (rrs, .inr (3, [.ref ras])), (ras, .inl (G.2.1, 20, .inl st_72)), (rrw, .inr (3, [.ref raw])), (raw, .inl (G.2.1, 21, .inl we_72))] := hD
    obtain ⟨hr_72, hu_72⟩ := hw_72
    refine lv_if_ne (tgt := 86) hx hb dX4_takes_75 (by decide) (fun c_75 => ?_) (fun c_75 => ?_)
    · skip
      have b_72 := bI_t hr_72 c_75
      refine lv_iconst (v := 1) hx hb dX4_takes_86 (by decide) ?_
      refine lv_goto (tgt := 91) hx hb dX4_takes_87 (by decide) ?_
      rw [hQ]
      exact k_zret (v := 1) (lk_72, z_72, st_72, we_72) [0, 1, 2, 3, 4] hx hb hr hlocks (by first | exact Or.inl rfl | exact Or.inr rfl) (by have e : tkA x (2, lk, st, we) = tkB x (2, lk, st, we) := (by simp [tkA, b_72]); rw [e, b_72]; exact ⟨rfl, hu_72⟩) hK hP hD hS rfl (by decide) dX4_takes_91
    · skip
      have b_72 := bI_f hr_72 c_75
      obtain ⟨rfl, rfl, rfl, rfl⟩ := tkB_s b_72 hu_72
      refine lv_aload_n hx hb dX4_takes_78 rfl (lv_at hl 0 rfl) ?_
      refine lv_iload_n hx hb dX4_takes_79 rfl (lv_at hl 1 rfl) ?_
      refine k_ci (wr := []) [] rfl (by decide) [0, 1, 2, 3, 4] rfl (by decide) hP hD hS hA (k_V (n := 1) (ci := 4) (As := [.int x]) (rest := []) (wc := [(r0, .inr (4, [.ref rrs, .ref rrw, .int (nI (lk)), .int (nI (2))])), (rrs, .inr (3, [.ref ras])), (ras, .inl (G.2.1, 20, .inl st)), (rrw, .inr (3, [.ref raw])), (raw, .inl (G.2.1, 21, .inl we))]) hx hb hml hown hts hK hP hD hl (c_X4_takesLink l G r0 rrs ras rrw raw lk 2 st we x H.size (by first | assumption | omega)) [0, 1, 2, 3, 4] rfl (by decide) gX4_takes_X4_takesLink rfl rfl rfl (by decide +kernel) rfl ⟨Nat.le_of_ble_eq_true rfl, Nat.le_of_ble_eq_true rfl⟩ rfl rfl rfl (Nat.le_of_ble_eq_true rfl) dX4_takes_80 ⟨Nat.le_of_ble_eq_true rfl, Nat.le_of_ble_eq_true rfl⟩) (fun r_80 u H locs hw hP hD hS => ?_)
      obtain ⟨lk_80, z_80, st_80, we_80⟩ := u
      have hw_80 : r_80 = bI (tkL x (2, lk, st, we)).1 ∧ (tkL x (2, lk, st, we)).2 = (z_80, lk_80, st_80, we_80) := hw
      have hP : va_P G.1 vwCl [(r0, .inr (4, [.ref rrs, .ref rrw, .int (nI (lk_80)), .int (nI (z_80))])), (rrs, .inr (3, [.ref ras])), (ras, .inl (G.2.1, 20, .inl st_80)), (rrw, .inr (3, [.ref raw])), (raw, .inl (G.2.1, 21, .inl we_80))] H := hP
      have hD : va_D A [(r0, .inr (4, [.ref rrs, .ref rrw, .int (nI (lk_80)), .int (nI (z_80))])), (rrs, .inr (3, [.ref ras])), (ras, .inl (G.2.1, 20, .inl st_80)), (rrw, .inr (3, [.ref raw])), (raw, .inl (G.2.1, 21, .inl we_80))] := hD
      obtain ⟨hr_80, hu_80⟩ := hw_80
      refine lv_if_eq (tgt := 90) hx hb dX4_takes_83 (by decide) (fun c_83 => ?_) (fun c_83 => ?_)
      · skip
        have b_80 := bI_f hr_80 c_83
        obtain ⟨rfl, rfl, rfl, rfl⟩ := tkL_s b_80 hu_80
        refine lv_iconst (v := 0) hx hb dX4_takes_90 (by decide) ?_
        rw [hQ]
        exact k_zret (v := 0) (lk, 2, st, we) [0, 1, 2, 3, 4] hx hb hr hlocks (by first | exact Or.inl rfl | exact Or.inr rfl) (by have e : tkA x (2, lk, st, we) = tkL x (2, lk, st, we) := (by simp [tkA, b_72, b_80]); rw [e, b_80]; exact ⟨rfl, hu_80⟩) hK hP hD hS rfl (by decide) dX4_takes_91
      · skip
        have b_80 := bI_t hr_80 c_83
        refine lv_iconst (v := 1) hx hb dX4_takes_86 (by decide) ?_
        refine lv_goto (tgt := 91) hx hb dX4_takes_87 (by decide) ?_
        rw [hQ]
        exact k_zret (v := 1) (lk_80, z_80, st_80, we_80) [0, 1, 2, 3, 4] hx hb hr hlocks (by first | exact Or.inl rfl | exact Or.inr rfl) (by have e : tkA x (2, lk, st, we) = tkL x (2, lk, st, we) := (by simp [tkA, b_72, b_80]); rw [e, b_80]; exact ⟨rfl, hu_80⟩) hK hP hD hS rfl (by decide) dX4_takes_91
  · skip
    refine lv_tableIn (x := nI 3) (off := 88) (tgt := 92) hx hb dX4_takes_4 (by decide) (by decide) rfl (by decide) ?_
    refine lv_iload_n hx hb dX4_takes_92 rfl (lv_at hl 1 rfl) ?_
    refine lv_bipush (v := 48) hx hb dX4_takes_93 (by decide) ?_
    refine lv_icmp_eq (tgt := 111) hx hb dX4_takes_95 (by decide) (fun c_95 => ?_) (fun c_95 => ?_)
    · skip
      refine lv_iconst (v := 0) hx hb dX4_takes_111 (by decide) ?_
      rw [hQ]
      exact k_zret (v := 0) (lk, 3, st, we) [0, 1, 2, 3, 4] hx hb hr hlocks (by first | exact Or.inl rfl | exact Or.inr rfl) (by have e : tkA x (3, lk, st, we) = (false, (3, lk, st, we)) := (by simp [tkA, c_95]); rw [e]; exact ⟨rfl, rfl⟩) hK hP hD hS rfl (by decide) dX4_takes_112
    · skip
      have n48 := c_95
      refine lv_aload_n hx hb dX4_takes_98 rfl (lv_at hl 0 rfl) ?_
      refine lv_iload_n hx hb dX4_takes_99 rfl (lv_at hl 1 rfl) ?_
      refine lv_iconst (v := 4) hx hb dX4_takes_100 (by decide) ?_
      refine k_ci (wr := []) [] rfl (by decide) [0, 1, 2, 3, 4] rfl (by decide) hP hD hS hA (k_V (n := 2) (ci := 4) (As := [.int x, .int 4]) (rest := []) (wc := [(r0, .inr (4, [.ref rrs, .ref rrw, .int (nI (lk)), .int (nI (3))])), (rrs, .inr (3, [.ref ras])), (ras, .inl (G.2.1, 20, .inl st)), (rrw, .inr (3, [.ref raw])), (raw, .inl (G.2.1, 21, .inl we))]) hx hb hml hown hts hK hP hD hl (c_X4_takesDigit l G r0 rrs ras rrw raw lk 3 st we x 4 H.size (by first | assumption | omega)) [0, 1, 2, 3, 4] rfl (by decide) gX4_takes_X4_takesDigit rfl rfl rfl (by decide +kernel) rfl ⟨Nat.le_of_ble_eq_true rfl, Nat.le_of_ble_eq_true rfl⟩ rfl rfl rfl (Nat.le_of_ble_eq_true rfl) dX4_takes_101 ⟨Nat.le_of_ble_eq_true rfl, Nat.le_of_ble_eq_true rfl⟩) (fun r_101 u H locs hw hP hD hS => ?_)
      obtain ⟨lk_101, z_101, st_101, we_101⟩ := u
      have hw_101 : r_101 = bI (tkD x 4 (3, lk, st, we)).1 ∧ (tkD x 4 (3, lk, st, we)).2 = (z_101, lk_101, st_101, we_101) := hw
      have hP : va_P G.1 vwCl [(r0, .inr (4, [.ref rrs, .ref rrw, .int (nI (lk_101)), .int (nI (z_101))])), (rrs, .inr (3, [.ref ras])), (ras, .inl (G.2.1, 20, .inl st_101)), (rrw, .inr (3, [.ref raw])), (raw, .inl (G.2.1, 21, .inl we_101))] H := hP
      have hD : va_D A [(r0, .inr (4, [.ref rrs, .ref rrw, .int (nI (lk_101)), .int (nI (z_101))])), (rrs, .inr (3, [.ref ras])), (ras, .inl (G.2.1, 20, .inl st_101)), (rrw, .inr (3, [.ref raw])), (raw, .inl (G.2.1, 21, .inl we_101))] := hD
      obtain ⟨hr_101, hu_101⟩ := hw_101
      refine lv_if_eq (tgt := 111) hx hb dX4_takes_104 (by decide) (fun c_104 => ?_) (fun c_104 => ?_)
      · skip
        have b_101 := bI_f hr_101 c_104
        obtain ⟨rfl, rfl, rfl, rfl⟩ := tkD_s b_101 hu_101
        refine lv_iconst (v := 0) hx hb dX4_takes_111 (by decide) ?_
        rw [hQ]
        exact k_zret (v := 0) (lk, 3, st, we) [0, 1, 2, 3, 4] hx hb hr hlocks (by first | exact Or.inl rfl | exact Or.inr rfl) (by have e : tkA x (3, lk, st, we) = tkD x 4 (3, lk, st, we) := (by simp [tkA, b_101, n48]); rw [e, b_101]; exact ⟨rfl, hu_101⟩) hK hP hD hS rfl (by decide) dX4_takes_112
      · skip
        have b_101 := bI_t hr_101 c_104
        refine lv_iconst (v := 1) hx hb dX4_takes_107 (by decide) ?_
        refine lv_goto (tgt := 112) hx hb dX4_takes_108 (by decide) ?_
        rw [hQ]
        exact k_zret (v := 1) (lk_101, z_101, st_101, we_101) [0, 1, 2, 3, 4] hx hb hr hlocks (by first | exact Or.inl rfl | exact Or.inr rfl) (by have e : tkA x (3, lk, st, we) = tkD x 4 (3, lk, st, we) := (by simp [tkA, b_101, n48]); rw [e, b_101]; exact ⟨rfl, hu_101⟩) hK hP hD hS rfl (by decide) dX4_takes_112
  · skip
    refine lv_tableIn (x := nI 4) (off := 109) (tgt := 113) hx hb dX4_takes_4 (by decide) (by decide) rfl (by decide) ?_
    refine lv_aload_n hx hb dX4_takes_113 rfl (lv_at hl 0 rfl) ?_
    refine lv_iload_n hx hb dX4_takes_114 rfl (lv_at hl 1 rfl) ?_
    refine lv_iconst (v := 5) hx hb dX4_takes_115 (by decide) ?_
    refine k_ci (wr := []) [] rfl (by decide) [0, 1, 2, 3, 4] rfl (by decide) hP hD hS hA (k_V (n := 2) (ci := 4) (As := [.int x, .int 5]) (rest := []) (wc := [(r0, .inr (4, [.ref rrs, .ref rrw, .int (nI (lk)), .int (nI (4))])), (rrs, .inr (3, [.ref ras])), (ras, .inl (G.2.1, 20, .inl st)), (rrw, .inr (3, [.ref raw])), (raw, .inl (G.2.1, 21, .inl we))]) hx hb hml hown hts hK hP hD hl (c_X4_takesDigit l G r0 rrs ras rrw raw lk 4 st we x 5 H.size (by first | assumption | omega)) [0, 1, 2, 3, 4] rfl (by decide) gX4_takes_X4_takesDigit rfl rfl rfl (by decide +kernel) rfl ⟨Nat.le_of_ble_eq_true rfl, Nat.le_of_ble_eq_true rfl⟩ rfl rfl rfl (Nat.le_of_ble_eq_true rfl) dX4_takes_116 ⟨Nat.le_of_ble_eq_true rfl, Nat.le_of_ble_eq_true rfl⟩) (fun r_116 u H locs hw hP hD hS => ?_)
    obtain ⟨lk_116, z_116, st_116, we_116⟩ := u
    have hw_116 : r_116 = bI (tkD x 5 (4, lk, st, we)).1 ∧ (tkD x 5 (4, lk, st, we)).2 = (z_116, lk_116, st_116, we_116) := hw
    have hP : va_P G.1 vwCl [(r0, .inr (4, [.ref rrs, .ref rrw, .int (nI (lk_116)), .int (nI (z_116))])), (rrs, .inr (3, [.ref ras])), (ras, .inl (G.2.1, 20, .inl st_116)), (rrw, .inr (3, [.ref raw])), (raw, .inl (G.2.1, 21, .inl we_116))] H := hP
    have hD : va_D A [(r0, .inr (4, [.ref rrs, .ref rrw, .int (nI (lk_116)), .int (nI (z_116))])), (rrs, .inr (3, [.ref ras])), (ras, .inl (G.2.1, 20, .inl st_116)), (rrw, .inr (3, [.ref raw])), (raw, .inl (G.2.1, 21, .inl we_116))] := hD
    obtain ⟨hr_116, hu_116⟩ := hw_116
    refine lv_if_ne (tgt := 130) hx hb dX4_takes_119 (by decide) (fun c_119 => ?_) (fun c_119 => ?_)
    · skip
      have b_116 := bI_t hr_116 c_119
      refine lv_iconst (v := 1) hx hb dX4_takes_130 (by decide) ?_
      refine lv_goto (tgt := 135) hx hb dX4_takes_131 (by decide) ?_
      rw [hQ]
      exact k_zret (v := 1) (lk_116, z_116, st_116, we_116) [0, 1, 2, 3, 4] hx hb hr hlocks (by first | exact Or.inl rfl | exact Or.inr rfl) (by have e : tkA x (4, lk, st, we) = tkD x 5 (4, lk, st, we) := (by simp [tkA, b_116]); rw [e, b_116]; exact ⟨rfl, hu_116⟩) hK hP hD hS rfl (by decide) dX4_takes_135
    · skip
      have b_116 := bI_f hr_116 c_119
      obtain ⟨rfl, rfl, rfl, rfl⟩ := tkD_s b_116 hu_116
      refine lv_aload_n hx hb dX4_takes_122 rfl (lv_at hl 0 rfl) ?_
      refine lv_iload_n hx hb dX4_takes_123 rfl (lv_at hl 1 rfl) ?_
      refine k_ci (wr := []) [] rfl (by decide) [0, 1, 2, 3, 4] rfl (by decide) hP hD hS hA (k_V (n := 1) (ci := 4) (As := [.int x]) (rest := []) (wc := [(r0, .inr (4, [.ref rrs, .ref rrw, .int (nI (lk)), .int (nI (4))])), (rrs, .inr (3, [.ref ras])), (ras, .inl (G.2.1, 20, .inl st)), (rrw, .inr (3, [.ref raw])), (raw, .inl (G.2.1, 21, .inl we))]) hx hb hml hown hts hK hP hD hl (c_X4_takesEnd l G r0 rrs ras rrw raw lk 4 st we x H.size) [0, 1, 2, 3, 4] rfl (by decide) gX4_takes_X4_takesEnd rfl rfl rfl (by decide +kernel) rfl ⟨Nat.le_of_ble_eq_true rfl, Nat.le_of_ble_eq_true rfl⟩ rfl rfl rfl (Nat.le_of_ble_eq_true rfl) dX4_takes_124 ⟨Nat.le_of_ble_eq_true rfl, Nat.le_of_ble_eq_true rfl⟩) (fun r_124 u H locs hw hP hD hS => ?_)
      obtain ⟨lk_124, z_124, st_124, we_124⟩ := u
      have hw_124 : r_124 = bI (tkE x (4, lk, st, we)).1 ∧ (tkE x (4, lk, st, we)).2 = (z_124, lk_124, st_124, we_124) := hw
      have hP : va_P G.1 vwCl [(r0, .inr (4, [.ref rrs, .ref rrw, .int (nI (lk_124)), .int (nI (z_124))])), (rrs, .inr (3, [.ref ras])), (ras, .inl (G.2.1, 20, .inl st_124)), (rrw, .inr (3, [.ref raw])), (raw, .inl (G.2.1, 21, .inl we_124))] H := hP
      have hD : va_D A [(r0, .inr (4, [.ref rrs, .ref rrw, .int (nI (lk_124)), .int (nI (z_124))])), (rrs, .inr (3, [.ref ras])), (ras, .inl (G.2.1, 20, .inl st_124)), (rrw, .inr (3, [.ref raw])), (raw, .inl (G.2.1, 21, .inl we_124))] := hD
      obtain ⟨hr_124, hu_124⟩ := hw_124
      refine lv_if_eq (tgt := 134) hx hb dX4_takes_127 (by decide) (fun c_127 => ?_) (fun c_127 => ?_)
      · skip
        have b_124 := bI_f hr_124 c_127
        obtain ⟨rfl, rfl, rfl, rfl⟩ := tkE_s b_124 hu_124
        refine lv_iconst (v := 0) hx hb dX4_takes_134 (by decide) ?_
        rw [hQ]
        exact k_zret (v := 0) (lk, 4, st, we) [0, 1, 2, 3, 4] hx hb hr hlocks (by first | exact Or.inl rfl | exact Or.inr rfl) (by have e : tkA x (4, lk, st, we) = tkE x (4, lk, st, we) := (by simp [tkA, b_116, b_124]); rw [e, b_124]; exact ⟨rfl, hu_124⟩) hK hP hD hS rfl (by decide) dX4_takes_135
      · skip
        have b_124 := bI_t hr_124 c_127
        refine lv_iconst (v := 1) hx hb dX4_takes_130 (by decide) ?_
        refine lv_goto (tgt := 135) hx hb dX4_takes_131 (by decide) ?_
        rw [hQ]
        exact k_zret (v := 1) (lk_124, z_124, st_124, we_124) [0, 1, 2, 3, 4] hx hb hr hlocks (by first | exact Or.inl rfl | exact Or.inr rfl) (by have e : tkA x (4, lk, st, we) = tkE x (4, lk, st, we) := (by simp [tkA, b_116, b_124]); rw [e, b_124]; exact ⟨rfl, hu_124⟩) hK hP hD hS rfl (by decide) dX4_takes_135
  · skip
    refine lv_tableIn (x := nI 5) (off := 132) (tgt := 136) hx hb dX4_takes_4 (by decide) (by decide) rfl (by decide) ?_
    refine lv_aload_n hx hb dX4_takes_136 rfl (lv_at hl 0 rfl) ?_
    refine lv_iload_n hx hb dX4_takes_137 rfl (lv_at hl 1 rfl) ?_
    refine k_ci (wr := []) [] rfl (by decide) [0, 1, 2, 3, 4] rfl (by decide) hP hD hS hA (k_V (n := 1) (ci := 4) (As := [.int x]) (rest := []) (wc := [(r0, .inr (4, [.ref rrs, .ref rrw, .int (nI (lk)), .int (nI (5))])), (rrs, .inr (3, [.ref ras])), (ras, .inl (G.2.1, 20, .inl st)), (rrw, .inr (3, [.ref raw])), (raw, .inl (G.2.1, 21, .inl we))]) hx hb hml hown hts hK hP hD hl (c_X4_takesEnd l G r0 rrs ras rrw raw lk 5 st we x H.size) [0, 1, 2, 3, 4] rfl (by decide) gX4_takes_X4_takesEnd rfl rfl rfl (by decide +kernel) rfl ⟨Nat.le_of_ble_eq_true rfl, Nat.le_of_ble_eq_true rfl⟩ rfl rfl rfl (Nat.le_of_ble_eq_true rfl) dX4_takes_138 ⟨Nat.le_of_ble_eq_true rfl, Nat.le_of_ble_eq_true rfl⟩) (fun r_138 u H locs hw hP hD hS => ?_)
    obtain ⟨lk_138, z_138, st_138, we_138⟩ := u
    have hw_138 : r_138 = bI (tkE x (5, lk, st, we)).1 ∧ (tkE x (5, lk, st, we)).2 = (z_138, lk_138, st_138, we_138) := hw
    have hP : va_P G.1 vwCl [(r0, .inr (4, [.ref rrs, .ref rrw, .int (nI (lk_138)), .int (nI (z_138))])), (rrs, .inr (3, [.ref ras])), (ras, .inl (G.2.1, 20, .inl st_138)), (rrw, .inr (3, [.ref raw])), (raw, .inl (G.2.1, 21, .inl we_138))] H := hP
    have hD : va_D A [(r0, .inr (4, [.ref rrs, .ref rrw, .int (nI (lk_138)), .int (nI (z_138))])), (rrs, .inr (3, [.ref ras])), (ras, .inl (G.2.1, 20, .inl st_138)), (rrw, .inr (3, [.ref raw])), (raw, .inl (G.2.1, 21, .inl we_138))] := hD
    obtain ⟨hr_138, hu_138⟩ := hw_138
    rw [hQ]
    exact k_zret (v := r_138) (lk_138, z_138, st_138, we_138) [0, 1, 2, 3, 4] hx hb hr hlocks (by rw [hr_138]; exact bI_01 _) (by have e : tkA x (5, lk, st, we) = tkE x (5, lk, st, we) := (by simp [tkA]); rw [e]; exact ⟨hr_138, hu_138⟩) hK hP hD hS rfl (by decide) dX4_takes_141
  · skip
    refine lv_tableOut (x := nI 6) (tgt := 142) hx hb dX4_takes_4 (by decide) (by decide) ?_
    refine lv_aload_n hx hb dX4_takes_142 rfl (lv_at hl 0 rfl) ?_
    refine lv_iload_n hx hb dX4_takes_143 rfl (lv_at hl 1 rfl) ?_
    refine k_ci (wr := []) [] rfl (by decide) [0, 1, 2, 3, 4] rfl (by decide) hP hD hS hA (k_V (n := 1) (ci := 4) (As := [.int x]) (rest := []) (wc := [(r0, .inr (4, [.ref rrs, .ref rrw, .int (nI (lk)), .int (nI (6))])), (rrs, .inr (3, [.ref ras])), (ras, .inl (G.2.1, 20, .inl st)), (rrw, .inr (3, [.ref raw])), (raw, .inl (G.2.1, 21, .inl we))]) hx hb hml hown hts hK hP hD hl (c_X4_takesLink l G r0 rrs ras rrw raw lk 6 st we x H.size (by first | assumption | omega)) [0, 1, 2, 3, 4] rfl (by decide) gX4_takes_X4_takesLink rfl rfl rfl (by decide +kernel) rfl ⟨Nat.le_of_ble_eq_true rfl, Nat.le_of_ble_eq_true rfl⟩ rfl rfl rfl (Nat.le_of_ble_eq_true rfl) dX4_takes_144 ⟨Nat.le_of_ble_eq_true rfl, Nat.le_of_ble_eq_true rfl⟩) (fun r_144 u H locs hw hP hD hS => ?_)
    obtain ⟨lk_144, z_144, st_144, we_144⟩ := u
    have hw_144 : r_144 = bI (tkL x (6, lk, st, we)).1 ∧ (tkL x (6, lk, st, we)).2 = (z_144, lk_144, st_144, we_144) := hw
    have hP : va_P G.1 vwCl [(r0, .inr (4, [.ref rrs, .ref rrw, .int (nI (lk_144)), .int (nI (z_144))])), (rrs, .inr (3, [.ref ras])), (ras, .inl (G.2.1, 20, .inl st_144)), (rrw, .inr (3, [.ref raw])), (raw, .inl (G.2.1, 21, .inl we_144))] H := hP
    have hD : va_D A [(r0, .inr (4, [.ref rrs, .ref rrw, .int (nI (lk_144)), .int (nI (z_144))])), (rrs, .inr (3, [.ref ras])), (ras, .inl (G.2.1, 20, .inl st_144)), (rrw, .inr (3, [.ref raw])), (raw, .inl (G.2.1, 21, .inl we_144))] := hD
    obtain ⟨hr_144, hu_144⟩ := hw_144
    rw [hQ]
    exact k_zret (v := r_144) (lk_144, z_144, st_144, we_144) [0, 1, 2, 3, 4] hx hb hr hlocks (by rw [hr_144]; exact bI_01 _) (by have e : tkA x (6, lk, st, we) = tkL x (6, lk, st, we) := (by simp [tkA]); rw [e]; exact ⟨hr_144, hu_144⟩) hK hP hD hS rfl (by decide) dX4_takes_147
set_option maxHeartbeats 4000000 in
set_option maxRecDepth 100000 in
theorem c_X4_read (l : Launch) (G : kG) (r0 : Nat) (rrs : Nat) (ras : Nat) (rrw : Nat) (raw : Nat) (lk : Nat) (z : Nat) (st : Fn) (we : Fn) (h1 : Nat) (a1 : Nat) (co : Fn) (len : Nat) (sz : Nat) (hlen : len ≤ 60) : kMet l yX4_read wsX4_read ({ frames := 3, cells := 0, slots := 0, locals := 65 } : Room) G [.ref r0, .ref h1, .int (nI (len))] [(r0, .inr (4, [.ref rrs, .ref rrw, .int (nI (lk)), .int (nI (z))])), (rrs, .inr (3, [.ref ras])), (ras, .inl (G.2.1, 20, .inl st)), (rrw, .inr (3, [.ref raw])), (raw, .inl (G.2.1, 21, .inl we)), (h1, .inr (3, [.ref a1])), (a1, .inl (G.2.1, 60, .inl co))] sz (kQi G (fun (r : Int32) (u : Nat × Nat × Nat × Fn × Fn) => r = nI u.1 ∧ rdK co len u.1 ∧ rdS co u.1 = (u.2.2.1, u.2.1, u.2.2.2.1, u.2.2.2.2)) (fun (u : Nat × Nat × Nat × Fn × Fn) => [(r0, .inr (4, [.ref rrs, .ref rrw, .int (nI (u.2.1)), .int (nI (u.2.2.1))])), (rrs, .inr (3, [.ref ras])), (ras, .inl (G.2.1, 20, .inl u.2.2.2.1)), (rrw, .inr (3, [.ref raw])), (raw, .inl (G.2.1, 21, .inl u.2.2.2.2)), (h1, .inr (3, [.ref a1])), (a1, .inl (G.2.1, 60, .inl co))])) 0 0 := by
  refine k_entry (cc := cX4_read) (maxL := 4) (ret := (some .int)) (by decide) rfl (Nat.le_of_ble_eq_true rfl) ?_
  intro p e s m args below meth c A ls H locs Q hQ hx hb hml hr hts hown hlocks hin hA hP hK hD hS hl
  have hown : s.vm.findClass RX4 = some m.cls := hown
  have hl : lv_has ls 4 [(0, .ref r0), (1, .ref h1), (2, .int (nI (len)))] := hl
  have hf14 := hts (.fieldLink RX4 14 "HangingChain$ShapeReader" "steps" "LHangingChain$Row;") (by decide +kernel)
  have hinX4 : ∀ w ∈ wsX40, w ∈ wsX4_read := by decide +kernel
  have hf20 := hts (.fieldLink RX4 20 "HangingChain$ShapeReader" "weights" "LHangingChain$Row;") (by decide +kernel)
  have hf23 := hts (.fieldLink RX4 23 "HangingChain$ShapeReader" "links" "I") (by decide +kernel)
  have hf27 := hts (.fieldLink RX4 27 "HangingChain$ShapeReader" "state" "I") (by decide +kernel)
  refine lv_aload_n hx hb dX4_read_0 rfl (lv_at hl 0 rfl) ?_
  refine va_get (D := G.1) (ci := 4) (v := .ref rrs) (C := RX4) (T := TX4) (N := 4) hx hb hts hinX4 hown hK hP 0 rfl rfl 0 (by decide) hf14 (fun _ h9 => h9) rfl dX4_read_1 ?_
  refine k_cv (wr := [(r0, .inr (4, [.ref rrs, .ref rrw, .int (nI (lk)), .int (nI (z))])), (rrw, .inr (3, [.ref raw])), (raw, .inl (G.2.1, 21, .inl we)), (h1, .inr (3, [.ref a1])), (a1, .inl (G.2.1, 60, .inl co))]) [0, 3, 4, 5, 6] rfl (by decide) [1, 2] rfl (by decide) hP hD hS hA (k_V (n := 0) (ci := 3) (As := []) (rest := []) (wc := [(rrs, .inr (3, [.ref ras])), (ras, .inl (G.2.1, 20, .inl st))]) hx hb hml hown hts hK hP hD hl (c_X3_clear l G rrs ras 20 st H.size (by first | assumption | omega)) [1, 2] rfl (by decide) gX4_read_X3_clear rfl rfl rfl (by decide +kernel) rfl ⟨Nat.le_of_ble_eq_true rfl, Nat.le_of_ble_eq_true rfl⟩ rfl rfl rfl (Nat.le_of_ble_eq_true rfl) dX4_read_4 ⟨Nat.le_of_ble_eq_true rfl, Nat.le_of_ble_eq_true rfl⟩) (fun u H locs hw hP hD hS => ?_)
  have hw_4 : True := hw
  have hP : va_P G.1 vwCl [(r0, .inr (4, [.ref rrs, .ref rrw, .int (nI (lk)), .int (nI (z))])), (rrw, .inr (3, [.ref raw])), (raw, .inl (G.2.1, 21, .inl we)), (h1, .inr (3, [.ref a1])), (a1, .inl (G.2.1, 60, .inl co)), (rrs, .inr (3, [.ref ras])), (ras, .inl (G.2.1, 20, .inl (fun _ => 0)))] H := hP
  have hD : va_D A [(r0, .inr (4, [.ref rrs, .ref rrw, .int (nI (lk)), .int (nI (z))])), (rrw, .inr (3, [.ref raw])), (raw, .inl (G.2.1, 21, .inl we)), (h1, .inr (3, [.ref a1])), (a1, .inl (G.2.1, 60, .inl co)), (rrs, .inr (3, [.ref ras])), (ras, .inl (G.2.1, 20, .inl (fun _ => 0)))] := hD
  refine lv_aload_n hx hb dX4_read_7 rfl (lv_at hl 0 rfl) ?_
  refine va_get (D := G.1) (ci := 4) (v := .ref rrw) (C := RX4) (T := TX4) (N := 4) hx hb hts hinX4 hown hK hP 0 rfl rfl 1 (by decide) hf20 (fun _ h9 => h9) rfl dX4_read_8 ?_
  refine k_cv (wr := [(r0, .inr (4, [.ref rrs, .ref rrw, .int (nI (lk)), .int (nI (z))])), (h1, .inr (3, [.ref a1])), (a1, .inl (G.2.1, 60, .inl co)), (rrs, .inr (3, [.ref ras])), (ras, .inl (G.2.1, 20, .inl (fun _ => 0)))]) [0, 3, 4, 5, 6] rfl (by decide) [1, 2] rfl (by decide) hP hD hS hA (k_V (n := 0) (ci := 3) (As := []) (rest := []) (wc := [(rrw, .inr (3, [.ref raw])), (raw, .inl (G.2.1, 21, .inl we))]) hx hb hml hown hts hK hP hD hl (c_X3_clear l G rrw raw 21 we H.size (by first | assumption | omega)) [1, 2] rfl (by decide) gX4_read_X3_clear rfl rfl rfl (by decide +kernel) rfl ⟨Nat.le_of_ble_eq_true rfl, Nat.le_of_ble_eq_true rfl⟩ rfl rfl rfl (Nat.le_of_ble_eq_true rfl) dX4_read_11 ⟨Nat.le_of_ble_eq_true rfl, Nat.le_of_ble_eq_true rfl⟩) (fun u H locs hw hP hD hS => ?_)
  have hw_11 : True := hw
  have hP : va_P G.1 vwCl [(r0, .inr (4, [.ref rrs, .ref rrw, .int (nI (lk)), .int (nI (z))])), (h1, .inr (3, [.ref a1])), (a1, .inl (G.2.1, 60, .inl co)), (rrs, .inr (3, [.ref ras])), (ras, .inl (G.2.1, 20, .inl (fun _ => 0))), (rrw, .inr (3, [.ref raw])), (raw, .inl (G.2.1, 21, .inl (fun _ => 0)))] H := hP
  have hD : va_D A [(r0, .inr (4, [.ref rrs, .ref rrw, .int (nI (lk)), .int (nI (z))])), (h1, .inr (3, [.ref a1])), (a1, .inl (G.2.1, 60, .inl co)), (rrs, .inr (3, [.ref ras])), (ras, .inl (G.2.1, 20, .inl (fun _ => 0))), (rrw, .inr (3, [.ref raw])), (raw, .inl (G.2.1, 21, .inl (fun _ => 0)))] := hD
  refine lv_aload_n hx hb dX4_read_14 rfl (lv_at hl 0 rfl) ?_
  refine lv_iconst (v := 0) hx hb dX4_read_15 (by decide) ?_
  refine va_put (D := G.1) (ci := 4) (v := .int 0) (ty := .int) (C := RX4) (T := TX4) (N := 4) hx hb hts hinX4 tyX4 tyX4_ok nmX4 hown hK hP hD hS 0 rfl rfl 2 (by decide) hf23 (fun _ h9 => h9) rfl (by decide +kernel) (rfl) (rfl) (Nat.le_of_ble_eq_true rfl) dX4_read_16 (fun H locs hP hD hS => ?_)
  have hP : va_P G.1 vwCl [(r0, .inr (4, [.ref rrs, .ref rrw, .int 0, .int (nI (z))])), (h1, .inr (3, [.ref a1])), (a1, .inl (G.2.1, 60, .inl co)), (rrs, .inr (3, [.ref ras])), (ras, .inl (G.2.1, 20, .inl (fun _ => 0))), (rrw, .inr (3, [.ref raw])), (raw, .inl (G.2.1, 21, .inl (fun _ => 0)))] H := hP
  have hD : va_D A [(r0, .inr (4, [.ref rrs, .ref rrw, .int 0, .int (nI (z))])), (h1, .inr (3, [.ref a1])), (a1, .inl (G.2.1, 60, .inl co)), (rrs, .inr (3, [.ref ras])), (ras, .inl (G.2.1, 20, .inl (fun _ => 0))), (rrw, .inr (3, [.ref raw])), (raw, .inl (G.2.1, 21, .inl (fun _ => 0)))] := hD
  refine lv_aload_n hx hb dX4_read_19 rfl (lv_at hl 0 rfl) ?_
  refine lv_iconst (v := 0) hx hb dX4_read_20 (by decide) ?_
  refine va_put (D := G.1) (ci := 4) (v := .int 0) (ty := .int) (C := RX4) (T := TX4) (N := 4) hx hb hts hinX4 tyX4 tyX4_ok nmX4 hown hK hP hD hS 0 rfl rfl 3 (by decide) hf27 (fun _ h9 => h9) rfl (by decide +kernel) (rfl) (rfl) (Nat.le_of_ble_eq_true rfl) dX4_read_21 (fun H locs hP hD hS => ?_)
  have hP : va_P G.1 vwCl [(r0, .inr (4, [.ref rrs, .ref rrw, .int 0, .int 0])), (h1, .inr (3, [.ref a1])), (a1, .inl (G.2.1, 60, .inl co)), (rrs, .inr (3, [.ref ras])), (ras, .inl (G.2.1, 20, .inl (fun _ => 0))), (rrw, .inr (3, [.ref raw])), (raw, .inl (G.2.1, 21, .inl (fun _ => 0)))] H := hP
  have hD : va_D A [(r0, .inr (4, [.ref rrs, .ref rrw, .int 0, .int 0])), (h1, .inr (3, [.ref a1])), (a1, .inl (G.2.1, 60, .inl co)), (rrs, .inr (3, [.ref ras])), (ras, .inl (G.2.1, 20, .inl (fun _ => 0))), (rrw, .inr (3, [.ref raw])), (raw, .inl (G.2.1, 21, .inl (fun _ => 0)))] := hD
  refine lv_iconst (v := 0) hx hb dX4_read_24 (by decide) ?_
  refine lv_istore_n (lv' := [(3, .int 0), (0, .ref r0), (1, .ref h1), (2, .int (nI (len)))]) hx hb dX4_read_25 rfl hl (by decide) rfl (fun ls hl => ?_)
  have L26 : ∀ (n9 : Nat) (i : Nat) (lki : Nat) (zi : Nat) (sti : Fn) (wei : Fn), (i ≤ len) → (∀ j, j < i → (tkA (co j) (rdS co j)).1 = true) → (rdS co i = (zi, lki, sti, wei)) → (len - i < n9) → ∀ (H : Heap) (locs : List Loc) (ls : Array Slot), va_P G.1 vwCl [(r0, .inr (4, [.ref rrs, .ref rrw, .int (nI lki), .int (nI zi)])), (h1, .inr (3, [.ref a1])), (a1, .inl (G.2.1, 60, .inl co)), (rrs, .inr (3, [.ref ras])), (ras, .inl (G.2.1, 20, .inl sti)), (rrw, .inr (3, [.ref raw])), (raw, .inl (G.2.1, 21, .inl wei))] H → va_D A [(r0, .inr (4, [.ref rrs, .ref rrw, .int (nI lki), .int (nI zi)])), (h1, .inr (3, [.ref a1])), (a1, .inl (G.2.1, 60, .inl co)), (rrs, .inr (3, [.ref ras])), (ras, .inl (G.2.1, 20, .inl sti)), (rrw, .inr (3, [.ref raw])), (raw, .inl (G.2.1, 21, .inl wei))] → va_S A s.heap H locs → lv_has ls 4 [(3, .int (nI i)), (0, .ref r0), (1, .ref h1), (2, .int (nI (len)))] → W p l e ({ frames := 3, cells := 0, slots := 0, locals := 65 } : Room) s m args below meth c H locs 0 0 Q (F0 m 26 ls []) := by
    intro n9
    induction n9 with
    | zero =>
      intro i lki zi sti wei hi hok hSi hm9 H locs ls hP hD hS hl
      exact absurd hm9 (Nat.not_lt_zero _)
    | succ n9 ih26 =>
      intro i lki zi sti wei hi hok hSi hm9 H locs ls hP hD hS hl
      obtain ⟨hv1, hv2, hv3⟩ := rdS_inv hSi
      refine lv_iload_n hx hb dX4_read_26 rfl (lv_at hl 0 rfl) ?_
      refine lv_iload_n hx hb dX4_read_27 rfl (lv_at hl 3 rfl) ?_
      refine g_icmp_ge (a := i) (b := len) (tgt := 51) hx hb (by omega) (by omega) dX4_read_28 (by decide) (fun c_28 => ?_) (fun c_28 => ?_)
      · skip
        refine lv_iload_n hx hb dX4_read_51 rfl (lv_at hl 3 rfl) ?_
        have e9 : len = i := by omega
        subst e9
        rw [hQ]
        exact k_iret (v := nI (len)) (len, lki, zi, sti, wei) [0, 3, 4, 5, 6, 1, 2] hx hb hr hlocks (⟨rfl, ⟨Nat.le_refl _, hok, fun h => absurd h (Nat.lt_irrefl _)⟩, hSi⟩) hK hP hD hS rfl (by decide) dX4_read_52
      · skip
        refine lv_aload_n hx hb dX4_read_31 rfl (lv_at hl 1 rfl) ?_
        refine lv_aload_n hx hb dX4_read_32 rfl (lv_at hl 2 rfl) ?_
        refine lv_iload_n hx hb dX4_read_33 rfl (lv_at hl 0 rfl) ?_
        refine k_ci (wr := [(r0, .inr (4, [.ref rrs, .ref rrw, .int (nI lki), .int (nI zi)])), (rrs, .inr (3, [.ref ras])), (ras, .inl (G.2.1, 20, .inl sti)), (rrw, .inr (3, [.ref raw])), (raw, .inl (G.2.1, 21, .inl wei))]) [0, 3, 4, 5, 6] rfl (by decide) [1, 2] rfl (by decide) hP hD hS hA (k_V (n := 1) (ci := 3) (As := [.int (nI i)]) (rest := [.ref r0]) (wc := [(h1, .inr (3, [.ref a1])), (a1, .inl (G.2.1, 60, .inl co))]) hx hb hml hown hts hK hP hD hl (c_X3_atI l G h1 a1 60 co i H.size (by first | assumption | omega) (by first | assumption | omega)) [1, 2] rfl (by decide) gX4_read_X3_at rfl rfl rfl (by decide +kernel) rfl ⟨Nat.le_of_ble_eq_true rfl, Nat.le_of_ble_eq_true rfl⟩ rfl rfl rfl (Nat.le_of_ble_eq_true rfl) dX4_read_34 ⟨Nat.le_of_ble_eq_true rfl, Nat.le_of_ble_eq_true rfl⟩) (fun r_34 u H locs hw hP hD hS => ?_)
        have hw_34 : r_34 = co i := hw
        have hP : va_P G.1 vwCl [(r0, .inr (4, [.ref rrs, .ref rrw, .int (nI lki), .int (nI zi)])), (rrs, .inr (3, [.ref ras])), (ras, .inl (G.2.1, 20, .inl sti)), (rrw, .inr (3, [.ref raw])), (raw, .inl (G.2.1, 21, .inl wei)), (h1, .inr (3, [.ref a1])), (a1, .inl (G.2.1, 60, .inl co))] H := hP
        have hD : va_D A [(r0, .inr (4, [.ref rrs, .ref rrw, .int (nI lki), .int (nI zi)])), (rrs, .inr (3, [.ref ras])), (ras, .inl (G.2.1, 20, .inl sti)), (rrw, .inr (3, [.ref raw])), (raw, .inl (G.2.1, 21, .inl wei)), (h1, .inr (3, [.ref a1])), (a1, .inl (G.2.1, 60, .inl co))] := hD
        subst hw_34
        refine k_ci (wr := [(h1, .inr (3, [.ref a1])), (a1, .inl (G.2.1, 60, .inl co))]) [5, 6] rfl (by decide) [0, 1, 2, 3, 4] rfl (by decide) hP hD hS hA (k_V (n := 1) (ci := 4) (As := [.int (co i)]) (rest := []) (wc := [(r0, .inr (4, [.ref rrs, .ref rrw, .int (nI (lki)), .int (nI (zi))])), (rrs, .inr (3, [.ref ras])), (ras, .inl (G.2.1, 20, .inl sti)), (rrw, .inr (3, [.ref raw])), (raw, .inl (G.2.1, 21, .inl wei))]) hx hb hml hown hts hK hP hD hl (c_X4_takes l G r0 rrs ras rrw raw lki zi sti wei (co i) H.size (by first | assumption | omega) (by first | assumption | omega) (by first | assumption | omega)) [0, 1, 2, 3, 4] rfl (by decide) gX4_read_X4_takes rfl rfl rfl (by decide +kernel) rfl ⟨Nat.le_of_ble_eq_true rfl, Nat.le_of_ble_eq_true rfl⟩ rfl rfl rfl (Nat.le_of_ble_eq_true rfl) dX4_read_37 ⟨Nat.le_of_ble_eq_true rfl, Nat.le_of_ble_eq_true rfl⟩) (fun r_37 u H locs hw hP hD hS => ?_)
        obtain ⟨lk_37, z_37, st_37, we_37⟩ := u
        have hw_37 : r_37 = bI (tkA (co i) (zi, lki, sti, wei)).1 ∧ (tkA (co i) (zi, lki, sti, wei)).2 = (z_37, lk_37, st_37, we_37) := hw
        have hP : va_P G.1 vwCl [(h1, .inr (3, [.ref a1])), (a1, .inl (G.2.1, 60, .inl co)), (r0, .inr (4, [.ref rrs, .ref rrw, .int (nI (lk_37)), .int (nI (z_37))])), (rrs, .inr (3, [.ref ras])), (ras, .inl (G.2.1, 20, .inl st_37)), (rrw, .inr (3, [.ref raw])), (raw, .inl (G.2.1, 21, .inl we_37))] H := hP
        have hD : va_D A [(h1, .inr (3, [.ref a1])), (a1, .inl (G.2.1, 60, .inl co)), (r0, .inr (4, [.ref rrs, .ref rrw, .int (nI (lk_37)), .int (nI (z_37))])), (rrs, .inr (3, [.ref ras])), (ras, .inl (G.2.1, 20, .inl st_37)), (rrw, .inr (3, [.ref raw])), (raw, .inl (G.2.1, 21, .inl we_37))] := hD
        obtain ⟨hr_37, hu_37⟩ := hw_37
        refine lv_if_ne (tgt := 45) hx hb dX4_read_40 (by decide) (fun c_40 => ?_) (fun c_40 => ?_)
        · skip
          have b_37 := bI_t hr_37 c_40
          refine lv_iinc (v := nI (i + 1)) (lv' := [(3, .int (nI (i + 1))), (0, .ref r0), (1, .ref h1), (2, .int (nI (len)))]) hx hb dX4_read_45 hl (k := 0) rfl (nI_add (i) 1) (by decide) rfl (fun ls hl => ?_)
          refine lv_goto (tgt := 26) hx hb dX4_read_48 (by decide) ?_
          have hP9 : va_P G.1 vwCl [(r0, .inr (4, [.ref rrs, .ref rrw, .int (nI lk_37), .int (nI z_37)])), (h1, .inr (3, [.ref a1])), (a1, .inl (G.2.1, 60, .inl co)), (rrs, .inr (3, [.ref ras])), (ras, .inl (G.2.1, 20, .inl st_37)), (rrw, .inr (3, [.ref raw])), (raw, .inl (G.2.1, 21, .inl we_37))] _ := hP.sub [2, 0, 1, 3, 4, 5, 6] (k_fm (ws := [(h1, .inr (3, [.ref a1])), (a1, .inl (G.2.1, 60, .inl co)), (r0, .inr (4, [.ref rrs, .ref rrw, .int (nI (lk_37)), .int (nI (z_37))])), (rrs, .inr (3, [.ref ras])), (ras, .inl (G.2.1, 20, .inl st_37)), (rrw, .inr (3, [.ref raw])), (raw, .inl (G.2.1, 21, .inl we_37))]) (w := [(r0, .inr (4, [.ref rrs, .ref rrw, .int (nI lk_37), .int (nI z_37)])), (h1, .inr (3, [.ref a1])), (a1, .inl (G.2.1, 60, .inl co)), (rrs, .inr (3, [.ref ras])), (ras, .inl (G.2.1, 20, .inl st_37)), (rrw, .inr (3, [.ref raw])), (raw, .inl (G.2.1, 21, .inl we_37))]) rfl)
          have hD9 : va_D A [(r0, .inr (4, [.ref rrs, .ref rrw, .int (nI lk_37), .int (nI z_37)])), (h1, .inr (3, [.ref a1])), (a1, .inl (G.2.1, 60, .inl co)), (rrs, .inr (3, [.ref ras])), (ras, .inl (G.2.1, 20, .inl st_37)), (rrw, .inr (3, [.ref raw])), (raw, .inl (G.2.1, 21, .inl we_37))] := hD.sub [2, 0, 1, 3, 4, 5, 6] (by decide) rfl
          exact ih26 (i + 1) lk_37 z_37 st_37 we_37 (by first | assumption | omega) (lt_s hok (by rw [hSi]; exact b_37)) (by show (tkA (co i) (rdS co i)).2 = _; rw [hSi]; exact hu_37) (by omega) _ _ _ hP9 hD9 hS (lv_sub hl [0, 1, 2, 3] rfl)
        · skip
          have b_37 := bI_f hr_37 c_40
          refine lv_iload_n hx hb dX4_read_43 rfl (lv_at hl 0 rfl) ?_
          rw [hQ]
          exact k_iret (v := nI i) (i, lk_37, z_37, st_37, we_37) [2, 3, 4, 5, 6, 0, 1] hx hb hr hlocks (⟨rfl, ⟨by omega, hok, fun _ => by rw [hSi]; exact b_37⟩, by rw [hSi]; exact (tkA_s b_37 hu_37)⟩) hK hP hD hS rfl (by decide) dX4_read_44
  exact L26 (len - 0 + 1) 0 0 0 (fun _ => 0) (fun _ => 0) (by first | assumption | omega) (fun j h => absurd h (Nat.not_lt_zero j)) (rfl) (Nat.lt_succ_self _) _ _ _ hP hD hS (lv_sub hl [0, 1, 2, 3] rfl)
set_option maxHeartbeats 4000000 in
set_option maxRecDepth 100000 in
theorem c_X4_isComplete (l : Launch) (G : kG) (r0 : Nat) (rrs : Nat) (ras : Nat) (rrw : Nat) (raw : Nat) (lk : Nat) (z : Nat) (st : Fn) (we : Fn) (sz : Nat) (hz : z ≤ 6) : kMet l yX4_isComplete wsX4_isComplete ({ frames := 0, cells := 0, slots := 0, locals := 0 } : Room) G [.ref r0] [(r0, .inr (4, [.ref rrs, .ref rrw, .int (nI (lk)), .int (nI (z))])), (rrs, .inr (3, [.ref ras])), (ras, .inl (G.2.1, 20, .inl st)), (rrw, .inr (3, [.ref raw])), (raw, .inl (G.2.1, 21, .inl we))] sz (kQi G (fun (r : Int32) (u : Unit) => r = (if cmpl z then 1 else 0)) (fun (u : Unit) => [(r0, .inr (4, [.ref rrs, .ref rrw, .int (nI (lk)), .int (nI (z))])), (rrs, .inr (3, [.ref ras])), (ras, .inl (G.2.1, 20, .inl st)), (rrw, .inr (3, [.ref raw])), (raw, .inl (G.2.1, 21, .inl we))])) 0 0 := by
  refine k_entry (cc := cX4_isComplete) (maxL := 1) (ret := (some .boolean)) (by decide) rfl (Nat.le_of_ble_eq_true rfl) ?_
  intro p e s m args below meth c A ls H locs Q hQ hx hb hml hr hts hown hlocks hin hA hP hK hD hS hl
  have hown : s.vm.findClass RX4 = some m.cls := hown
  have hl : lv_has ls 1 [(0, .ref r0)] := hl
  have hf27 := hts (.fieldLink RX4 27 "HangingChain$ShapeReader" "state" "I") (by decide +kernel)
  have hinX4 : ∀ w ∈ wsX40, w ∈ wsX4_isComplete := by decide +kernel
  refine lv_aload_n hx hb dX4_isComplete_0 rfl (lv_at hl 0 rfl) ?_
  refine va_get (D := G.1) (ci := 4) (v := .int (nI (z))) (C := RX4) (T := TX4) (N := 4) hx hb hts hinX4 hown hK hP 0 rfl rfl 3 (by decide) hf27 (fun _ h9 => h9) rfl dX4_isComplete_1 ?_
  refine lv_iconst (v := 1) hx hb dX4_isComplete_4 (by decide) ?_
  refine g_icmp_eq (a := z) (b := 1) (tgt := 25) hx hb (by omega) (by omega) dX4_isComplete_5 (by decide) (fun c_5 => ?_) (fun c_5 => ?_)
  · skip
    refine lv_iconst (v := 1) hx hb dX4_isComplete_25 (by decide) ?_
    refine lv_goto (tgt := 30) hx hb dX4_isComplete_26 (by decide) ?_
    rw [hQ]
    exact k_zret (v := 1) () [0, 1, 2, 3, 4] hx hb hr hlocks (by first | exact Or.inl rfl | exact Or.inr rfl) (by unfold cmpl; first | rw [if_pos (by omega)] | rw [if_neg (by omega)]) hK hP hD hS rfl (by decide) dX4_isComplete_30
  · skip
    refine lv_aload_n hx hb dX4_isComplete_8 rfl (lv_at hl 0 rfl) ?_
    refine va_get (D := G.1) (ci := 4) (v := .int (nI (z))) (C := RX4) (T := TX4) (N := 4) hx hb hts hinX4 hown hK hP 0 rfl rfl 3 (by decide) hf27 (fun _ h9 => h9) rfl dX4_isComplete_9 ?_
    refine lv_iconst (v := 2) hx hb dX4_isComplete_12 (by decide) ?_
    refine g_icmp_eq (a := z) (b := 2) (tgt := 25) hx hb (by omega) (by omega) dX4_isComplete_13 (by decide) (fun c_13 => ?_) (fun c_13 => ?_)
    · skip
      refine lv_iconst (v := 1) hx hb dX4_isComplete_25 (by decide) ?_
      refine lv_goto (tgt := 30) hx hb dX4_isComplete_26 (by decide) ?_
      rw [hQ]
      exact k_zret (v := 1) () [0, 1, 2, 3, 4] hx hb hr hlocks (by first | exact Or.inl rfl | exact Or.inr rfl) (by unfold cmpl; first | rw [if_pos (by omega)] | rw [if_neg (by omega)]) hK hP hD hS rfl (by decide) dX4_isComplete_30
    · skip
      refine lv_aload_n hx hb dX4_isComplete_16 rfl (lv_at hl 0 rfl) ?_
      refine va_get (D := G.1) (ci := 4) (v := .int (nI (z))) (C := RX4) (T := TX4) (N := 4) hx hb hts hinX4 hown hK hP 0 rfl rfl 3 (by decide) hf27 (fun _ h9 => h9) rfl dX4_isComplete_17 ?_
      refine lv_bipush (v := 6) hx hb dX4_isComplete_20 (by decide) ?_
      refine g_icmp_ne (a := z) (b := 6) (tgt := 29) hx hb (by omega) (by omega) dX4_isComplete_22 (by decide) (fun c_22 => ?_) (fun c_22 => ?_)
      · skip
        refine lv_iconst (v := 0) hx hb dX4_isComplete_29 (by decide) ?_
        rw [hQ]
        exact k_zret (v := 0) () [0, 1, 2, 3, 4] hx hb hr hlocks (by first | exact Or.inl rfl | exact Or.inr rfl) (by unfold cmpl; first | rw [if_pos (by omega)] | rw [if_neg (by omega)]) hK hP hD hS rfl (by decide) dX4_isComplete_30
      · skip
        refine lv_iconst (v := 1) hx hb dX4_isComplete_25 (by decide) ?_
        refine lv_goto (tgt := 30) hx hb dX4_isComplete_26 (by decide) ?_
        rw [hQ]
        exact k_zret (v := 1) () [0, 1, 2, 3, 4] hx hb hr hlocks (by first | exact Or.inl rfl | exact Or.inr rfl) (by unfold cmpl; first | rw [if_pos (by omega)] | rw [if_neg (by omega)]) hK hP hD hS rfl (by decide) dX4_isComplete_30
set_option maxHeartbeats 4000000 in
set_option maxRecDepth 100000 in
theorem c_X4_init (l : Launch) (G : kG) (r0 : Nat) (sz : Nat) : kMet l yX4_init wsX4_init ({ frames := 2, cells := 4, slots := 43, locals := 51 } : Room) G [.ref r0] [(r0, .inr (4, [.null, .null, .int 0, .int 0]))] sz (kQv G (fun (u : Nat × Nat × Nat × Nat) => True) (fun (u : Nat × Nat × Nat × Nat) => [(r0, .inr (4, [.ref u.1, .ref u.2.2.1, .int (nI 0), .int (nI 0)])), (u.1, .inr (3, [.ref u.2.1])), (u.2.1, .inl (G.2.1, 20, .inl (fun _ => 0))), (u.2.2.1, .inr (3, [.ref u.2.2.2])), (u.2.2.2, .inl (G.2.1, 21, .inl (fun _ => 0)))])) 4 43 := by
  refine k_entry (cc := cX4_init) (maxL := 1) (ret := none) (by decide) rfl (Nat.le_of_ble_eq_true rfl) ?_
  intro p e s m args below meth c A ls H locs Q hQ hx hb hml hr hts hown hlocks hin hA hP hK hD hS hl
  have hown : s.vm.findClass RX4 = some m.cls := hown
  have hl : lv_has ls 1 [(0, .ref r0)] := hl
  have hinX3 : ∀ w ∈ wsX30, w ∈ wsX4_init := by decide +kernel
  have hcl9 := hts (.classLink RX4 9 RX3) (by decide +kernel)
  have hitX3 := hts (.instantiable RX3 1) (by decide +kernel)
  have hizX3 := hts (.initialized RX3) (by decide +kernel)
  have hiniX3_init := hts (.initialized RX3) (by decide +kernel)
  have hml11 := hts (.methodLink RX4 11 yX3_init) (by decide +kernel)
  have hinsX3_init := hts (.instanceMethod yX3_init) (by decide +kernel)
  have hf14 := hts (.fieldLink RX4 14 "HangingChain$ShapeReader" "steps" "LHangingChain$Row;") (by decide +kernel)
  have hinX4 : ∀ w ∈ wsX40, w ∈ wsX4_init := by decide +kernel
  have hf20 := hts (.fieldLink RX4 20 "HangingChain$ShapeReader" "weights" "LHangingChain$Row;") (by decide +kernel)
  have hf23 := hts (.fieldLink RX4 23 "HangingChain$ShapeReader" "links" "I") (by decide +kernel)
  have hf27 := hts (.fieldLink RX4 27 "HangingChain$ShapeReader" "state" "I") (by decide +kernel)
  refine lv_aload_n hx hb dX4_init_0 rfl (lv_at hl 0 rfl) ?_
  refine W.objInit hx hb hown (hts (.methodLink RX4 3 objectInit) (by decide +kernel)) (hts (.instanceMethod objectInit) (by decide +kernel)) (hts (.code objectInit ⟨#[0xb1]⟩ 1 none) (by decide +kernel)) rfl (by rw [hml]; exact hl.1) rfl dX4_init_1 (Nat.le_of_ble_eq_true rfl) (Nat.le_of_ble_eq_true rfl) ?_
  refine W.eq (g2 := F0 m 4 ls []) rfl ?_
  refine lv_aload_n hx hb dX4_init_4 rfl (lv_at hl 0 rfl) ?_
  refine va_new (ci := 3) (fs := [.null]) (C := RX3) (T := TX3) (N := 1) hx hb hts hinX3 tyX3 tyX3_ok hown hcl9 hitX3 hizX3 hK hP hD hS hA rfl (fun j hj => by rcases (show j = 0 by omega) with rfl <;> rfl) (Nat.le_of_ble_eq_true rfl) (Nat.le_of_ble_eq_true rfl) dX4_init_5 (fun q_5 H hP hD hS => ?_)
  have hP : va_P G.1 vwCl [(r0, .inr (4, [.null, .null, .int 0, .int 0])), (q_5, .inr (3, [.null]))] H := hP
  have hD : va_D A [(r0, .inr (4, [.null, .null, .int 0, .int 0])), (q_5, .inr (3, [.null]))] := hD
  refine lv_dup hx hb dX4_init_8 rfl ?_
  refine lv_bipush (v := 20) hx hb dX4_init_9 (by decide) ?_
  refine k_cv (wr := [(r0, .inr (4, [.null, .null, .int 0, .int 0]))]) [0] rfl (by decide) [1] rfl (by decide) hP hD hS hA (k_I (n := 1) (As := [.int 20]) (rest := [.ref q_5, .ref r0]) (wc := [(q_5, .inr (3, [.null]))]) hx hb hml hown hts hK hP hD hl (c_X3_init l G q_5 20 H.size (by first | assumption | omega)) [1] rfl (by decide) gX4_init_X3_init rfl rfl rfl hiniX3_init hml11 hinsX3_init rfl (by decide +kernel) rfl ⟨Nat.le_of_ble_eq_true rfl, Nat.le_of_ble_eq_true rfl⟩ rfl (Nat.le_of_ble_eq_true rfl) dX4_init_11 ⟨Nat.le_of_ble_eq_true rfl, Nat.le_of_ble_eq_true rfl⟩) (fun u H locs hw hP hD hS => ?_)
  obtain ⟨a_11, eu9⟩ : ∃ x, x = u := ⟨_, rfl⟩; subst eu9
  have hw_11 : True := hw
  have hP : va_P G.1 vwCl [(r0, .inr (4, [.null, .null, .int 0, .int 0])), (q_5, .inr (3, [.ref a_11])), (a_11, .inl (G.2.1, 20, .inl (fun _ => 0)))] H := hP
  have hD : va_D A [(r0, .inr (4, [.null, .null, .int 0, .int 0])), (q_5, .inr (3, [.ref a_11])), (a_11, .inl (G.2.1, 20, .inl (fun _ => 0)))] := hD
  refine va_putF (D := G.1) (ci := 4) (v := .ref q_5) (ty := .object "HangingChain$Row") (C := RX4) (T := TX4) (N := 4) hx hb hts hinX4 tyX4 tyX4_ok nmX4 hown hK hP hD hS 0 rfl rfl 0 (by decide) hf14 (fun _ h9 => h9) rfl hin rfl (by decide +kernel) (rfl) (rfl) (Nat.le_of_ble_eq_true rfl) dX4_init_14 (fun H locs hP hD hS => ?_)
  have hP : va_P G.1 vwCl [(r0, .inr (4, [.ref q_5, .null, .int 0, .int 0])), (q_5, .inr (3, [.ref a_11])), (a_11, .inl (G.2.1, 20, .inl (fun _ => 0)))] H := hP
  have hD : va_D A [(r0, .inr (4, [.ref q_5, .null, .int 0, .int 0])), (q_5, .inr (3, [.ref a_11])), (a_11, .inl (G.2.1, 20, .inl (fun _ => 0)))] := hD
  refine lv_aload_n hx hb dX4_init_17 rfl (lv_at hl 0 rfl) ?_
  refine va_new (ci := 3) (fs := [.null]) (C := RX3) (T := TX3) (N := 1) hx hb hts hinX3 tyX3 tyX3_ok hown hcl9 hitX3 hizX3 hK hP hD hS hA rfl (fun j hj => by rcases (show j = 0 by omega) with rfl <;> rfl) (Nat.le_of_ble_eq_true rfl) (Nat.le_of_ble_eq_true rfl) dX4_init_18 (fun q_18 H hP hD hS => ?_)
  have hP : va_P G.1 vwCl [(r0, .inr (4, [.ref q_5, .null, .int 0, .int 0])), (q_5, .inr (3, [.ref a_11])), (a_11, .inl (G.2.1, 20, .inl (fun _ => 0))), (q_18, .inr (3, [.null]))] H := hP
  have hD : va_D A [(r0, .inr (4, [.ref q_5, .null, .int 0, .int 0])), (q_5, .inr (3, [.ref a_11])), (a_11, .inl (G.2.1, 20, .inl (fun _ => 0))), (q_18, .inr (3, [.null]))] := hD
  refine lv_dup hx hb dX4_init_21 rfl ?_
  refine lv_bipush (v := 21) hx hb dX4_init_22 (by decide) ?_
  refine k_cv (wr := [(r0, .inr (4, [.ref q_5, .null, .int 0, .int 0])), (q_5, .inr (3, [.ref a_11])), (a_11, .inl (G.2.1, 20, .inl (fun _ => 0)))]) [0, 1, 2] rfl (by decide) [3] rfl (by decide) hP hD hS hA (k_I (n := 1) (As := [.int 21]) (rest := [.ref q_18, .ref r0]) (wc := [(q_18, .inr (3, [.null]))]) hx hb hml hown hts hK hP hD hl (c_X3_init l G q_18 21 H.size (by first | assumption | omega)) [3] rfl (by decide) gX4_init_X3_init rfl rfl rfl hiniX3_init hml11 hinsX3_init rfl (by decide +kernel) rfl ⟨Nat.le_of_ble_eq_true rfl, Nat.le_of_ble_eq_true rfl⟩ rfl (Nat.le_of_ble_eq_true rfl) dX4_init_24 ⟨Nat.le_of_ble_eq_true rfl, Nat.le_of_ble_eq_true rfl⟩) (fun u H locs hw hP hD hS => ?_)
  obtain ⟨a_24, eu9⟩ : ∃ x, x = u := ⟨_, rfl⟩; subst eu9
  have hw_24 : True := hw
  have hP : va_P G.1 vwCl [(r0, .inr (4, [.ref q_5, .null, .int 0, .int 0])), (q_5, .inr (3, [.ref a_11])), (a_11, .inl (G.2.1, 20, .inl (fun _ => 0))), (q_18, .inr (3, [.ref a_24])), (a_24, .inl (G.2.1, 21, .inl (fun _ => 0)))] H := hP
  have hD : va_D A [(r0, .inr (4, [.ref q_5, .null, .int 0, .int 0])), (q_5, .inr (3, [.ref a_11])), (a_11, .inl (G.2.1, 20, .inl (fun _ => 0))), (q_18, .inr (3, [.ref a_24])), (a_24, .inl (G.2.1, 21, .inl (fun _ => 0)))] := hD
  refine va_putF (D := G.1) (ci := 4) (v := .ref q_18) (ty := .object "HangingChain$Row") (C := RX4) (T := TX4) (N := 4) hx hb hts hinX4 tyX4 tyX4_ok nmX4 hown hK hP hD hS 0 rfl rfl 1 (by decide) hf20 (fun _ h9 => h9) rfl hin rfl (by decide +kernel) (rfl) (rfl) (Nat.le_of_ble_eq_true rfl) dX4_init_27 (fun H locs hP hD hS => ?_)
  have hP : va_P G.1 vwCl [(r0, .inr (4, [.ref q_5, .ref q_18, .int 0, .int 0])), (q_5, .inr (3, [.ref a_11])), (a_11, .inl (G.2.1, 20, .inl (fun _ => 0))), (q_18, .inr (3, [.ref a_24])), (a_24, .inl (G.2.1, 21, .inl (fun _ => 0)))] H := hP
  have hD : va_D A [(r0, .inr (4, [.ref q_5, .ref q_18, .int 0, .int 0])), (q_5, .inr (3, [.ref a_11])), (a_11, .inl (G.2.1, 20, .inl (fun _ => 0))), (q_18, .inr (3, [.ref a_24])), (a_24, .inl (G.2.1, 21, .inl (fun _ => 0)))] := hD
  refine lv_aload_n hx hb dX4_init_30 rfl (lv_at hl 0 rfl) ?_
  refine lv_iconst (v := 0) hx hb dX4_init_31 (by decide) ?_
  refine va_put (D := G.1) (ci := 4) (v := .int 0) (ty := .int) (C := RX4) (T := TX4) (N := 4) hx hb hts hinX4 tyX4 tyX4_ok nmX4 hown hK hP hD hS 0 rfl rfl 2 (by decide) hf23 (fun _ h9 => h9) rfl (by decide +kernel) (rfl) (rfl) (Nat.le_of_ble_eq_true rfl) dX4_init_32 (fun H locs hP hD hS => ?_)
  have hP : va_P G.1 vwCl [(r0, .inr (4, [.ref q_5, .ref q_18, .int 0, .int 0])), (q_5, .inr (3, [.ref a_11])), (a_11, .inl (G.2.1, 20, .inl (fun _ => 0))), (q_18, .inr (3, [.ref a_24])), (a_24, .inl (G.2.1, 21, .inl (fun _ => 0)))] H := hP
  have hD : va_D A [(r0, .inr (4, [.ref q_5, .ref q_18, .int 0, .int 0])), (q_5, .inr (3, [.ref a_11])), (a_11, .inl (G.2.1, 20, .inl (fun _ => 0))), (q_18, .inr (3, [.ref a_24])), (a_24, .inl (G.2.1, 21, .inl (fun _ => 0)))] := hD
  refine lv_aload_n hx hb dX4_init_35 rfl (lv_at hl 0 rfl) ?_
  refine lv_iconst (v := 0) hx hb dX4_init_36 (by decide) ?_
  refine va_put (D := G.1) (ci := 4) (v := .int 0) (ty := .int) (C := RX4) (T := TX4) (N := 4) hx hb hts hinX4 tyX4 tyX4_ok nmX4 hown hK hP hD hS 0 rfl rfl 3 (by decide) hf27 (fun _ h9 => h9) rfl (by decide +kernel) (rfl) (rfl) (Nat.le_of_ble_eq_true rfl) dX4_init_37 (fun H locs hP hD hS => ?_)
  have hP : va_P G.1 vwCl [(r0, .inr (4, [.ref q_5, .ref q_18, .int 0, .int 0])), (q_5, .inr (3, [.ref a_11])), (a_11, .inl (G.2.1, 20, .inl (fun _ => 0))), (q_18, .inr (3, [.ref a_24])), (a_24, .inl (G.2.1, 21, .inl (fun _ => 0)))] H := hP
  have hD : va_D A [(r0, .inr (4, [.ref q_5, .ref q_18, .int 0, .int 0])), (q_5, .inr (3, [.ref a_11])), (a_11, .inl (G.2.1, 20, .inl (fun _ => 0))), (q_18, .inr (3, [.ref a_24])), (a_24, .inl (G.2.1, 21, .inl (fun _ => 0)))] := hD
  rw [hQ]
  exact k_vret (q_5, a_11, q_18, a_24) [0, 1, 2, 3, 4] hx hb hr hlocks (trivial) hK hP hD hS rfl (by decide) dX4_init_40
