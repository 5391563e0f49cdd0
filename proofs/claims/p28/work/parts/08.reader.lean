/-! HangingChain$ShapeReader (X4): the automaton, and its contracts. A state: (state, links, steps, weights). Laid by wip/whole/gen.py, s08_reader.py. -/
abbrev Rs : Type := Nat × Nat × Fn × Fn
def bI (b : Bool) : Int32 := if b then 1 else 0
theorem bI_t {r : Int32} {b : Bool} (h : r = bI b) (c : ¬ r = 0) : b = true := by
  cases b with
  | true => rfl
  | false => exact absurd h c
theorem bI_f {r : Int32} {b : Bool} (h : r = bI b) (c : r = 0) : b = false := by
  cases b with
  | false => rfl
  | true => rw [c] at h; exact absurd h (by decide)
theorem bI_01 (b : Bool) : bI b = 0 ∨ bI b = 1 := by
  cases b with
  | false => exact Or.inl rfl
  | true => exact Or.inr rfl
def stp (x : Int32) : Int32 := if x = 94 then 1 else if x = 118 then -1 else 0
def tkB (x : Int32) (S : Rs) : Bool × Rs := if x = 91 then (true, 3, S.2) else (false, S)
def tkE (x : Int32) (S : Rs) : Bool × Rs := if x = 93 then (true, 6, S.2) else (false, S)
def tkT (x : Int32) (S : Rs) : Bool × Rs := if x = 50 then (true, 2, S.2.1, upd S.2.2.1 (S.2.1 - 1) (2 * S.2.2.1 (S.2.1 - 1)), S.2.2.2) else (false, S)
def tkD (x : Int32) (nx : Nat) (S : Rs) : Bool × Rs := if 48 ≤ x ∧ x ≤ 57 then (true, nx, S.2.1, S.2.2.1, upd S.2.2.2 S.2.1 (10 * S.2.2.2 S.2.1 + x - 48)) else (false, S)
def tkL (x : Int32) (S : Rs) : Bool × Rs := if 20 ≤ S.2.1 then (false, S) else if x = 61 ∨ x = 94 ∨ x = 118 then (true, (if stp x = 0 then 2 else 1), S.2.1 + 1, upd S.2.2.1 S.2.1 (stp x), S.2.2.2) else (false, S)
def tkA (x : Int32) (S : Rs) : Bool × Rs :=
  if S.1 = 1 then (if (tkT x S).1 = true then tkT x S else if (tkB x S).1 = true then tkB x S else tkL x S)
  else if S.1 = 2 then (if (tkB x S).1 = true then tkB x S else tkL x S)
  else if S.1 = 3 then (if x = 48 then (false, S) else tkD x 4 S)
  else if S.1 = 4 then (if (tkD x 5 S).1 = true then tkD x 5 S else tkE x S)
  else if S.1 = 5 then tkE x S
  else tkL x S
theorem rs_inj {z l z2 l2 : Nat} {st we st2 we2 : Fn} (h : ((z, l, st, we) : Rs) = (z2, l2, st2, we2)) : l = l2 ∧ z = z2 ∧ st = st2 ∧ we = we2 := by
  simp only [Prod.mk.injEq] at h
  exact ⟨h.2.1, h.1, h.2.2.1, h.2.2.2⟩
theorem tkB_k {x : Int32} {S : Rs} (b : (tkB x S).1 = false) : (tkB x S).2 = S := by
  unfold tkB at b ⊢
  by_cases h : x = 91
  · rw [if_pos h] at b; exact absurd (show true = false from b) (by decide)
  · rw [if_neg h]
theorem tkE_k {x : Int32} {S : Rs} (b : (tkE x S).1 = false) : (tkE x S).2 = S := by
  unfold tkE at b ⊢
  by_cases h : x = 93
  · rw [if_pos h] at b; exact absurd (show true = false from b) (by decide)
  · rw [if_neg h]
theorem tkT_k {x : Int32} {S : Rs} (b : (tkT x S).1 = false) : (tkT x S).2 = S := by
  unfold tkT at b ⊢
  by_cases h : x = 50
  · rw [if_pos h] at b; exact absurd (show true = false from b) (by decide)
  · rw [if_neg h]
theorem tkD_k {x : Int32} {nx : Nat} {S : Rs} (b : (tkD x nx S).1 = false) : (tkD x nx S).2 = S := by
  unfold tkD at b ⊢
  by_cases h : 48 ≤ x ∧ x ≤ 57
  · rw [if_pos h] at b; exact absurd (show true = false from b) (by decide)
  · rw [if_neg h]
theorem tkL_k {x : Int32} {S : Rs} (b : (tkL x S).1 = false) : (tkL x S).2 = S := by
  unfold tkL at b ⊢
  by_cases h : 20 ≤ S.2.1
  · rw [if_pos h]
  · rw [if_neg h] at b ⊢
    by_cases h2 : x = 61 ∨ x = 94 ∨ x = 118
    · rw [if_pos h2] at b; exact absurd (show true = false from b) (by decide)
    · rw [if_neg h2]
theorem tkB_s {x : Int32} {z l z2 l2 : Nat} {st we st2 we2 : Fn} (b : (tkB x (z, l, st, we)).1 = false) (h : (tkB x (z, l, st, we)).2 = (z2, l2, st2, we2)) : l = l2 ∧ z = z2 ∧ st = st2 ∧ we = we2 := rs_inj ((tkB_k b).symm.trans h)
theorem tkE_s {x : Int32} {z l z2 l2 : Nat} {st we st2 we2 : Fn} (b : (tkE x (z, l, st, we)).1 = false) (h : (tkE x (z, l, st, we)).2 = (z2, l2, st2, we2)) : l = l2 ∧ z = z2 ∧ st = st2 ∧ we = we2 := rs_inj ((tkE_k b).symm.trans h)
theorem tkT_s {x : Int32} {z l z2 l2 : Nat} {st we st2 we2 : Fn} (b : (tkT x (z, l, st, we)).1 = false) (h : (tkT x (z, l, st, we)).2 = (z2, l2, st2, we2)) : l = l2 ∧ z = z2 ∧ st = st2 ∧ we = we2 := rs_inj ((tkT_k b).symm.trans h)
theorem tkD_s {x : Int32} {nx z l z2 l2 : Nat} {st we st2 we2 : Fn} (b : (tkD x nx (z, l, st, we)).1 = false) (h : (tkD x nx (z, l, st, we)).2 = (z2, l2, st2, we2)) : l = l2 ∧ z = z2 ∧ st = st2 ∧ we = we2 := rs_inj ((tkD_k b).symm.trans h)
theorem tkL_s {x : Int32} {z l z2 l2 : Nat} {st we st2 we2 : Fn} (b : (tkL x (z, l, st, we)).1 = false) (h : (tkL x (z, l, st, we)).2 = (z2, l2, st2, we2)) : l = l2 ∧ z = z2 ∧ st = st2 ∧ we = we2 := rs_inj ((tkL_k b).symm.trans h)
theorem tkA_k {x : Int32} {S : Rs} (b : (tkA x S).1 = false) : (tkA x S).2 = S := by
  unfold tkA at b ⊢
  split at b <;> rename_i h1 <;> simp only [h1, if_true, if_false, reduceIte] at b ⊢
  · split at b
    · rename_i h2; rw [h2] at b; exact absurd (show true = false from b) (by decide)
    · rename_i h2; rw [if_neg h2]
      split at b
      · rename_i h3; rw [h3] at b; exact absurd (show true = false from b) (by decide)
      · rename_i h3; rw [if_neg h3]; exact tkL_k b
  · split at b <;> rename_i h1 <;> simp only [h1, if_true, if_false, reduceIte] at b ⊢
    · split at b
      · rename_i h2; rw [h2] at b; exact absurd (show true = false from b) (by decide)
      · rename_i h2; rw [if_neg h2]; exact tkL_k b
    · split at b <;> rename_i h1 <;> simp only [h1, if_true, if_false, reduceIte] at b ⊢
      · split at b
        · rename_i h2; rw [if_pos h2]
        · rename_i h2; rw [if_neg h2]; exact tkD_k b
      · split at b <;> rename_i h1 <;> simp only [h1, if_true, if_false, reduceIte] at b ⊢
        · split at b
          · rename_i h2; rw [h2] at b; exact absurd (show true = false from b) (by decide)
          · rename_i h2; rw [if_neg h2]; exact tkE_k b
        · split at b <;> rename_i h1 <;> simp only [h1, if_true, if_false, reduceIte] at b ⊢
          · exact tkE_k b
          · exact tkL_k b
theorem tkA_s {x : Int32} {z l z2 l2 : Nat} {st we st2 we2 : Fn} (b : (tkA x (z, l, st, we)).1 = false) (h : (tkA x (z, l, st, we)).2 = (z2, l2, st2, we2)) : ((z, l, st, we) : Rs) = (z2, l2, st2, we2) := (tkA_k b).symm.trans h
/-- what stays true of a state -/
def rsV (S : Rs) : Prop := S.2.1 ≤ 20 ∧ S.1 ≤ 6 ∧ (S.1 = 1 → 1 ≤ S.2.1)
theorem tkA_v {x : Int32} {S : Rs} (h : rsV S) : rsV (tkA x S).2 := by
  obtain ⟨z, l, st, we⟩ := S
  obtain ⟨h1, h2, h3⟩ := h
  simp only at h1 h2 h3
  have vS : rsV (z, l, st, we) := ⟨h1, h2, h3⟩
  have vB : rsV (tkB x (z, l, st, we)).2 := by
    unfold tkB
    split
    · exact ⟨h1, (by decide : (3 : Nat) ≤ 6), fun q => absurd q (by show ¬ (3 : Nat) = 1; decide)⟩
    · exact vS
  have vE : rsV (tkE x (z, l, st, we)).2 := by
    unfold tkE
    split
    · exact ⟨h1, (by decide : (6 : Nat) ≤ 6), fun q => absurd q (by show ¬ (6 : Nat) = 1; decide)⟩
    · exact vS
  have vT : rsV (tkT x (z, l, st, we)).2 := by
    unfold tkT
    split
    · exact ⟨h1, (by decide : (2 : Nat) ≤ 6), fun q => absurd q (by show ¬ (2 : Nat) = 1; decide)⟩
    · exact vS
  have vD : ∀ nx, nx = 4 ∨ nx = 5 → rsV (tkD x nx (z, l, st, we)).2 := by
    intro nx hn
    unfold tkD
    split
    · exact ⟨h1, by show nx ≤ 6; omega, fun q => by have q : nx = 1 := q; omega⟩
    · exact vS
  have vL : rsV (tkL x (z, l, st, we)).2 := by
    unfold tkL
    split
    · exact vS
    · rename_i h4
      simp only at h4
      split
      · refine ⟨by show l + 1 ≤ 20; omega, ?_, fun _ => by show 1 ≤ l + 1; omega⟩
        show (if stp x = 0 then 2 else 1) ≤ 6
        split <;> decide
      · exact vS
  unfold tkA
  repeat' split
  all_goals first | exact vT | exact vB | exact vL | exact vE | exact vS | exact vD 4 (Or.inl rfl) | exact vD 5 (Or.inr rfl)
def rdS (f : Fn) : Nat → Rs
  | 0 => (0, 0, fun _ => 0, fun _ => 0)
  | i + 1 => (tkA (f i) (rdS f i)).2
theorem rdS_v (f : Fn) (i : Nat) : rsV (rdS f i) := by
  induction i with
  | zero => exact ⟨Nat.zero_le _, Nat.zero_le _, fun h => absurd h (by show ¬ (0 : Nat) = 1; decide)⟩
  | succ i ih => exact tkA_v ih
theorem rdS_inv {f : Fn} {i z l : Nat} {st we : Fn} (h : rdS f i = (z, l, st, we)) : l ≤ 20 ∧ z ≤ 6 ∧ (z = 1 → 1 ≤ l) := by
  have h1 := rdS_v f i
  rw [h] at h1
  exact h1
/-- k is the first character that the automaton doesn't take, or the length -/
def rdK (f : Fn) (len k : Nat) : Prop := k ≤ len ∧ (∀ j, j < k → (tkA (f j) (rdS f j)).1 = true) ∧ (k < len → (tkA (f k) (rdS f k)).1 = false)
abbrev cmpl (z : Nat) : Prop := z = 1 ∨ z = 2 ∨ z = 6
set_option maxHeartbeats 4000000 in
set_option maxRecDepth 100000 in
theorem c_X4_init (l : Launch) (G : kG) (r0 : Nat) (sz : Nat) : kMet l yX4_init wsX4_init ({ frames := 2, cells := 4, slots := 43, locals := 51 } : Room) G [.ref r0] [(r0, .inr (4, [.null, .null, .int 0, .int 0]))] sz (kQv G (fun (u : Nat × Nat × Nat × Nat) => True) (fun (u : Nat × Nat × Nat × Nat) => [(r0, .inr (4, [.ref u.1, .ref u.2.2.1, .int (nI 0), .int (nI 0)])), (u.1, .inr (3, [.ref u.2.1])), (u.2.1, .inl (G.2.1, 20, .inl (fun _ => 0))), (u.2.2.1, .inr (3, [.ref u.2.2.2])), (u.2.2.2, .inl (G.2.1, 21, .inl (fun _ => 0)))])) 4 43 := by
  refine k_entry (cc := cX4_init) (maxL := 1) (ret := none) (by decide) rfl (Nat.le_of_ble_eq_true rfl) ?_
  intro p e s m args below meth c A ls H locs Q hQ hx hb hml hr hts hown hlocks hin hA hP hK hD hS hl
  have hown : s.vm.findClass RX4 = some m.cls := hown
  have hl : lv_has ls 1 [(0, .ref r0)] := hl
  have hinX3 : ∀ w ∈ wsX30, w ∈ wsX4_init := by decide +kernel
  have hcl9 := hts (.classLink RX4 9 RX3) (by decide +kernel)
  have hitX3 := hts (.instantiable RX3 1) (by decide +kernel)
  have hizX3 := hts (.initialized RX3) (by decide +kernel)
  have hiniX3_init := hts (.initialized RX3) (by decide +kernel)
  have hml11 := hts (.methodLink RX4 11 yX3_init) (by decide +kernel)
  have hinsX3_init := hts (.instanceMethod yX3_init) (by decide +kernel)
  have hf14 := hts (.fieldLink RX4 14 "HangingChain$ShapeReader" "steps" "LHangingChain$Row;") (by decide +kernel)
  have hinX4 : ∀ w ∈ wsX40, w ∈ wsX4_init := by decide +kernel
  have hf20 := hts (.fieldLink RX4 20 "HangingChain$ShapeReader" "weights" "LHangingChain$Row;") (by decide +kernel)
  have hf23 := hts (.fieldLink RX4 23 "HangingChain$ShapeReader" "links" "I") (by decide +kernel)
  have hf27 := hts (.fieldLink RX4 27 "HangingChain$ShapeReader" "state" "I") (by decide +kernel)
  refine lv_aload_n hx hb dX4_init_0 rfl (lv_at hl 0 rfl) ?_
  refine W.objInit hx hb hown (hts (.methodLink RX4 3 objectInit) (by decide +kernel)) (hts (.instanceMethod objectInit) (by decide +kernel)) (hts (.code objectInit ⟨#[0xb1]⟩ 1 none) (by decide +kernel)) rfl (by rw [hml]; exact hl.1) rfl dX4_init_1 (Nat.le_of_ble_eq_true rfl) (Nat.le_of_ble_eq_true rfl) ?_
  refine W.eq (g2 := F0 m 4 ls []) rfl ?_
  refine lv_aload_n hx hb dX4_init_4 rfl (lv_at hl 0 rfl) ?_
  refine va_new (ci := 3) (fs := [.null]) (C := RX3) (T := TX3) (N := 1) hx hb hts hinX3 tyX3 tyX3_ok hown hcl9 hitX3 hizX3 hK hP hD hS hA rfl (fun j hj => by rcases (show j = 0 by omega) with rfl <;> rfl) (Nat.le_of_ble_eq_true rfl) (Nat.le_of_ble_eq_true rfl) dX4_init_5 (fun q_5 H hP hD hS => ?_)
  have hP : va_P G.1 vwCl [(r0, .inr (4, [.null, .null, .int 0, .int 0])), (q_5, .inr (3, [.null]))] H := hP
  have hD : va_D A [(r0, .inr (4, [.null, .null, .int 0, .int 0])), (q_5, .inr (3, [.null]))] := hD
  refine lv_dup hx hb dX4_init_8 rfl ?_
  refine lv_bipush (v := 20) hx hb dX4_init_9 (by decide) ?_
  refine k_cv (wr := [(r0, .inr (4, [.null, .null, .int 0, .int 0]))]) [0] rfl (by decide) [1] rfl (by decide) hP hD hS hA (k_I (n := 1) (As := [.int 20]) (rest := [.ref q_5, .ref r0]) (wc := [(q_5, .inr (3, [.null]))]) hx hb hml hown hts hK hP hD hl (c_X3_init l G q_5 20 H.size (by first | assumption | omega)) [1] rfl (by decide) gX4_init_X3_init rfl rfl rfl hiniX3_init hml11 hinsX3_init rfl (by decide +kernel) rfl ⟨Nat.le_of_ble_eq_true rfl, Nat.le_of_ble_eq_true rfl⟩ rfl (Nat.le_of_ble_eq_true rfl) dX4_init_11 ⟨Nat.le_of_ble_eq_true rfl, Nat.le_of_ble_eq_true rfl⟩) (fun u H locs hw hP hD hS => ?_)
  obtain ⟨a_11, eu9⟩ : ∃ x, x = u := ⟨_, rfl⟩; subst eu9
  have hw_11 : True := hw
  have hP : va_P G.1 vwCl [(r0, .inr (4, [.null, .null, .int 0, .int 0])), (q_5, .inr (3, [.ref a_11])), (a_11, .inl (G.2.1, 20, .inl (fun _ => 0)))] H := hP
  have hD : va_D A [(r0, .inr (4, [.null, .null, .int 0, .int 0])), (q_5, .inr (3, [.ref a_11])), (a_11, .inl (G.2.1, 20, .inl (fun _ => 0)))] := hD
  refine va_putF (D := G.1) (ci := 4) (v := .ref q_5) (ty := .object "HangingChain$Row") (C := RX4) (T := TX4) (N := 4) hx hb hts hinX4 tyX4 tyX4_ok nmX4 hown hK hP hD hS 0 rfl rfl 0 (by decide) hf14 (fun _ h9 => h9) rfl hin rfl (by decide +kernel) (rfl) (rfl) (Nat.le_of_ble_eq_true rfl) dX4_init_14 (fun H locs hP hD hS => ?_)
  have hP : va_P G.1 vwCl [(r0, .inr (4, [.ref q_5, .null, .int 0, .int 0])), (q_5, .inr (3, [.ref a_11])), (a_11, .inl (G.2.1, 20, .inl (fun _ => 0)))] H := hP
  have hD : va_D A [(r0, .inr (4, [.ref q_5, .null, .int 0, .int 0])), (q_5, .inr (3, [.ref a_11])), (a_11, .inl (G.2.1, 20, .inl (fun _ => 0)))] := hD
  refine lv_aload_n hx hb dX4_init_17 rfl (lv_at hl 0 rfl) ?_
  refine va_new (ci := 3) (fs := [.null]) (C := RX3) (T := TX3) (N := 1) hx hb hts hinX3 tyX3 tyX3_ok hown hcl9 hitX3 hizX3 hK hP hD hS hA rfl (fun j hj => by rcases (show j = 0 by omega) with rfl <;> rfl) (Nat.le_of_ble_eq_true rfl) (Nat.le_of_ble_eq_true rfl) dX4_init_18 (fun q_18 H hP hD hS => ?_)
  have hP : va_P G.1 vwCl [(r0, .inr (4, [.ref q_5, .null, .int 0, .int 0])), (q_5, .inr (3, [.ref a_11])), (a_11, .inl (G.2.1, 20, .inl (fun _ => 0))), (q_18, .inr (3, [.null]))] H := hP
  have hD : va_D A [(r0, .inr (4, [.ref q_5, .null, .int 0, .int 0])), (q_5, .inr (3, [.ref a_11])), (a_11, .inl (G.2.1, 20, .inl (fun _ => 0))), (q_18, .inr (3, [.null]))] := hD
  refine lv_dup hx hb dX4_init_21 rfl ?_
  refine lv_bipush (v := 21) hx hb dX4_init_22 (by decide) ?_
  refine k_cv (wr := [(r0, .inr (4, [.ref q_5, .null, .int 0, .int 0])), (q_5, .inr (3, [.ref a_11])), (a_11, .inl (G.2.1, 20, .inl (fun _ => 0)))]) [0, 1, 2] rfl (by decide) [3] rfl (by decide) hP hD hS hA (k_I (n := 1) (As := [.int 21]) (rest := [.ref q_18, .ref r0]) (wc := [(q_18, .inr (3, [.null]))]) hx hb hml hown hts hK hP hD hl (c_X3_init l G q_18 21 H.size (by first | assumption | omega)) [3] rfl (by decide) gX4_init_X3_init rfl rfl rfl hiniX3_init hml11 hinsX3_init rfl (by decide +kernel) rfl ⟨Nat.le_of_ble_eq_true rfl, Nat.le_of_ble_eq_true rfl⟩ rfl (Nat.le_of_ble_eq_true rfl) dX4_init_24 ⟨Nat.le_of_ble_eq_true rfl, Nat.le_of_ble_eq_true rfl⟩) (fun u H locs hw hP hD hS => ?_)
  obtain ⟨a_24, eu9⟩ : ∃ x, x = u := ⟨_, rfl⟩; subst eu9
  have hw_24 : True := hw
  have hP : va_P G.1 vwCl [(r0, .inr (4, [.ref q_5, .null, .int 0, .int 0])), (q_5, .inr (3, [.ref a_11])), (a_11, .inl (G.2.1, 20, .inl (fun _ => 0))), (q_18, .inr (3, [.ref a_24])), (a_24, .inl (G.2.1, 21, .inl (fun _ => 0)))] H := hP
  have hD : va_D A [(r0, .inr (4, [.ref q_5, .null, .int 0, .int 0])), (q_5, .inr (3, [.ref a_11])), (a_11, .inl (G.2.1, 20, .inl (fun _ => 0))), (q_18, .inr (3, [.ref a_24])), (a_24, .inl (G.2.1, 21, .inl (fun _ => 0)))] := hD
  refine va_putF (D := G.1) (ci := 4) (v := .ref q_18) (ty := .object "HangingChain$Row") (C := RX4) (T := TX4) (N := 4) hx hb hts hinX4 tyX4 tyX4_ok nmX4 hown hK hP hD hS 0 rfl rfl 1 (by decide) hf20 (fun _ h9 => h9) rfl hin rfl (by decide +kernel) (rfl) (rfl) (Nat.le_of_ble_eq_true rfl) dX4_init_27 (fun H locs hP hD hS => ?_)
  have hP : va_P G.1 vwCl [(r0, .inr (4, [.ref q_5, .ref q_18, .int 0, .int 0])), (q_5, .inr (3, [.ref a_11])), (a_11, .inl (G.2.1, 20, .inl (fun _ => 0))), (q_18, .inr (3, [.ref a_24])), (a_24, .inl (G.2.1, 21, .inl (fun _ => 0)))] H := hP
  have hD : va_D A [(r0, .inr (4, [.ref q_5, .ref q_18, .int 0, .int 0])), (q_5, .inr (3, [.ref a_11])), (a_11, .inl (G.2.1, 20, .inl (fun _ => 0))), (q_18, .inr (3, [.ref a_24])), (a_24, .inl (G.2.1, 21, .inl (fun _ => 0)))] := hD
  refine lv_aload_n hx hb dX4_init_30 rfl (lv_at hl 0 rfl) ?_
  refine lv_iconst (v := 0) hx hb dX4_init_31 (by decide) ?_
  refine va_put (D := G.1) (ci := 4) (v := .int 0) (ty := .int) (C := RX4) (T := TX4) (N := 4) hx hb hts hinX4 tyX4 tyX4_ok nmX4 hown hK hP hD hS 0 rfl rfl 2 (by decide) hf23 (fun _ h9 => h9) rfl (by decide +kernel) (rfl) (rfl) (Nat.le_of_ble_eq_true rfl) dX4_init_32 (fun H locs hP hD hS => ?_)
  have hP : va_P G.1 vwCl [(r0, .inr (4, [.ref q_5, .ref q_18, .int 0, .int 0])), (q_5, .inr (3, [.ref a_11])), (a_11, .inl (G.2.1, 20, .inl (fun _ => 0))), (q_18, .inr (3, [.ref a_24])), (a_24, .inl (G.2.1, 21, .inl (fun _ => 0)))] H := hP
  have hD : va_D A [(r0, .inr (4, [.ref q_5, .ref q_18, .int 0, .int 0])), (q_5, .inr (3, [.ref a_11])), (a_11, .inl (G.2.1, 20, .inl (fun _ => 0))), (q_18, .inr (3, [.ref a_24])), (a_24, .inl (G.2.1, 21, .inl (fun _ => 0)))] := hD
  refine lv_aload_n hx hb dX4_init_35 rfl (lv_at hl 0 rfl) ?_
  refine lv_iconst (v := 0) hx hb dX4_init_36 (by decide) ?_
  refine va_put (D := G.1) (ci := 4) (v := .int 0) (ty := .int) (C := RX4) (T := TX4) (N := 4) hx hb hts hinX4 tyX4 tyX4_ok nmX4 hown hK hP hD hS 0 rfl rfl 3 (by decide) hf27 (fun _ h9 => h9) rfl (by decide +kernel) (rfl) (rfl) (Nat.le_of_ble_eq_true rfl) dX4_init_37 (fun H locs hP hD hS => ?_)
  have hP : va_P G.1 vwCl [(r0, .inr (4, [.ref q_5, .ref q_18, .int 0, .int 0])), (q_5, .inr (3, [.ref a_11])), (a_11, .inl (G.2.1, 20, .inl (fun _ => 0))), (q_18, .inr (3, [.ref a_24])), (a_24, .inl (G.2.1, 21, .inl (fun _ => 0)))] H := hP
  have hD : va_D A [(r0, .inr (4, [.ref q_5, .ref q_18, .int 0, .int 0])), (q_5, .inr (3, [.ref a_11])), (a_11, .inl (G.2.1, 20, .inl (fun _ => 0))), (q_18, .inr (3, [.ref a_24])), (a_24, .inl (G.2.1, 21, .inl (fun _ => 0)))] := hD
  rw [hQ]
  exact k_vret (q_5, a_11, q_18, a_24) [0, 1, 2, 3, 4] hx hb hr hlocks (trivial) hK hP hD hS rfl (by decide) dX4_init_40
