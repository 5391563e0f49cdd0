/-! # pure facts: the best of many; what keeps a chain as the law makes it -/
section FBB
variable {F : Fn} {j : Nat}
theorem nI_m1 {b : Nat} (h : b < 2 ^ 31) : ¬ nI b = -1 := fun q => by
  have h1 := nI_pos' h
  rw [q] at h1
  exact absurd h1 (by decide)
theorem bst_min : ∀ i, i < 2 ^ 31 → (bst F j i = (-1, 0) ∧ ∀ t, t < i → t = j) ∨ ∃ b, b < i ∧ b ≠ j ∧ bst F j i = (nI b, F b) ∧ ∀ t, t < i → t ≠ j → F b ≤ F t ∧ (t < b → F b < F t) := by
  intro i
  induction i with
  | zero => exact fun _ => Or.inl ⟨rfl, fun t h => absurd h (Nat.not_lt_zero t)⟩
  | succ i ih =>
    intro hi
    have e : bst F j (i + 1) = if i = j then bst F j i else if (bst F j i).1 = -1 ∨ F i < (bst F j i).2 then (nI i, F i) else bst F j i := rfl
    by_cases q : i = j
    · rw [if_pos q] at e
      rw [e]
      rcases ih (by omega) with ⟨h1, h2⟩ | ⟨b, h1, h2, h3, h4⟩
      · refine Or.inl ⟨h1, fun t ht => ?_⟩
        rcases Nat.lt_or_ge t i with g | g
        · exact h2 t g
        · omega
      · exact Or.inr ⟨b, by omega, h2, h3, fun t ht hn => h4 t (by omega) hn⟩
    · rw [if_neg q] at e
      rw [e]
      rcases ih (by omega) with ⟨h1, h2⟩ | ⟨b, h1, h2, h3, h4⟩
      · rw [h1, if_pos (Or.inl rfl)]
        refine Or.inr ⟨i, by omega, q, rfl, fun t ht hn => ?_⟩
        rcases Nat.lt_or_ge t i with g | g
        · exact absurd (h2 t g) hn
        · obtain rfl : t = i := by omega
          exact ⟨Int32.le_refl _, fun z => absurd z (Nat.lt_irrefl _)⟩
      · rw [h3]
        by_cases g : F i < F b
        · rw [if_pos (Or.inr g)]
          refine Or.inr ⟨i, by omega, q, rfl, fun t ht hn => ?_⟩
          rcases Nat.lt_or_ge t i with z | z
          · have z1 := Int32.lt_of_lt_of_le g (h4 t z hn).1
            exact ⟨Int32.le_of_lt z1, fun _ => z1⟩
          · obtain rfl : t = i := by omega
            exact ⟨Int32.le_refl _, fun z => absurd z (Nat.lt_irrefl _)⟩
        · rw [if_neg (fun z => z.elim (nI_m1 (by omega)) g)]
          refine Or.inr ⟨b, by omega, h2, rfl, fun t ht hn => ?_⟩
          rcases Nat.lt_or_ge t i with z | z
          · exact h4 t z hn
          · obtain rfl : t = i := by omega
            exact ⟨Int32.not_lt.mp g, fun z => by omega⟩
theorem bsh_min : ∀ i, i < 2 ^ 31 - 1 → (i = 0 ∧ bsh F i = (-1, 0)) ∨ ∃ b, 1 ≤ b ∧ b ≤ i ∧ bsh F i = (nI b, F b) ∧ ∀ t, 1 ≤ t → t ≤ i → F b ≤ F t ∧ (t < b → F b < F t) := by
  intro i
  induction i with
  | zero => exact fun _ => Or.inl ⟨rfl, rfl⟩
  | succ i ih =>
    intro hi
    have e : bsh F (i + 1) = if (bsh F i).1 = -1 ∨ F (i + 1) < (bsh F i).2 then (nI (i + 1), F (i + 1)) else bsh F i := rfl
    rw [e]
    rcases ih (by omega) with ⟨h1, h2⟩ | ⟨b, h1, h2, h3, h4⟩
    · rw [h2, if_pos (Or.inl rfl)]
      refine Or.inr ⟨i + 1, by omega, by omega, rfl, fun t h5 h6 => ?_⟩
      obtain rfl : t = i + 1 := by omega
      exact ⟨Int32.le_refl _, fun z => absurd z (Nat.lt_irrefl _)⟩
    · rw [h3]
      by_cases g : F (i + 1) < F b
      · rw [if_pos (Or.inr g)]
        refine Or.inr ⟨i + 1, by omega, by omega, rfl, fun t h5 h6 => ?_⟩
        rcases Nat.lt_or_ge i t with z | z
        · obtain rfl : t = i + 1 := by omega
          exact ⟨Int32.le_refl _, fun z => absurd z (Nat.lt_irrefl _)⟩
        · have z1 := Int32.lt_of_lt_of_le g (h4 t h5 z).1
          exact ⟨Int32.le_of_lt z1, fun _ => z1⟩
      · rw [if_neg (fun z => z.elim (nI_m1 (by omega)) g)]
        refine Or.inr ⟨b, h1, by omega, rfl, fun t h5 h6 => ?_⟩
        rcases Nat.lt_or_ge i t with z | z
        · obtain rfl : t = i + 1 := by omega
          exact ⟨Int32.not_lt.mp g, fun z => by omega⟩
        · exact h4 t h5 z
theorem bsp_min : ∀ i, i ≤ 5 → (i = 0 ∧ bsp F i = (-3, 0)) ∨ ∃ b, b < i ∧ bsp F i = (stI b, F b) ∧ ∀ t, t < i → F b ≤ F t ∧ (t < b → F b < F t) := by
  intro i
  induction i with
  | zero => exact fun _ => Or.inl ⟨rfl, rfl⟩
  | succ i ih =>
    intro hi
    have e : bsp F (i + 1) = if (bsp F i).1 = -3 ∨ F i < (bsp F i).2 then (stI i, F i) else bsp F i := rfl
    rw [e]
    rcases ih (by omega) with ⟨h1, h2⟩ | ⟨b, h2, h3, h4⟩
    · rw [h2, if_pos (Or.inl rfl)]
      refine Or.inr ⟨i, by omega, rfl, fun t h6 => ?_⟩
      obtain rfl : t = i := by omega
      exact ⟨Int32.le_refl _, fun z => absurd z (Nat.lt_irrefl _)⟩
    · rw [h3]
      by_cases g : F i < F b
      · rw [if_pos (Or.inr g)]
        refine Or.inr ⟨i, by omega, rfl, fun t h6 => ?_⟩
        rcases Nat.lt_or_ge t i with z | z
        · have z1 := Int32.lt_of_lt_of_le g (h4 t z).1
          exact ⟨Int32.le_of_lt z1, fun _ => z1⟩
        · obtain rfl : t = i := by omega
          exact ⟨Int32.le_refl _, fun z => absurd z (Nat.lt_irrefl _)⟩
      · rw [if_neg (fun z => z.elim (stI_3 (by omega)) g)]
        refine Or.inr ⟨b, by omega, rfl, fun t h6 => ?_⟩
        rcases Nat.lt_or_ge t i with z | z
        · exact h4 t z
        · obtain rfl : t = i := by omega
          exact ⟨Int32.not_lt.mp g, fun z => by omega⟩
theorem hvI_ex {P : Nat → Bool} : ∀ i, hvI P i = -1 ∨ ∃ k, k < i ∧ hvI P i = nI k ∧ P k = true := by
  intro i
  induction i with
  | zero => exact Or.inl rfl
  | succ i ih =>
    have e : hvI P (i + 1) = if P i = true then nI i else hvI P i := rfl
    rw [e]
    by_cases q : P i = true
    · exact Or.inr ⟨i, by omega, if_pos q, q⟩
    · rw [if_neg q]
      rcases ih with h | ⟨k, h1, h2, h3⟩
      · exact Or.inl h
      · exact Or.inr ⟨k, by omega, h2, h3⟩
theorem hvI_ge {P : Nat → Bool} {w : Nat} (hw : P w = true) : ∀ i, w < i → ∃ k, w ≤ k ∧ k < i ∧ hvI P i = nI k := by
  intro i
  induction i with
  | zero => exact fun h => absurd h (Nat.not_lt_zero _)
  | succ i ih =>
    intro h
    have e : hvI P (i + 1) = if P i = true then nI i else hvI P i := rfl
    rw [e]
    by_cases q : P i = true
    · exact ⟨i, by omega, by omega, if_pos q⟩
    · rw [if_neg q]
      have hwi : w ≠ i := fun z => q (z ▸ hw)
      obtain ⟨k, h1, h2, h3⟩ := ih (by omega)
      exact ⟨k, h1, by omega, h3⟩
end FBB
/-! ## what keeps a chain as the law makes it -/
section FOK
variable {c : CV} {p : PS} {j q : Nat} {v : Int32}
theorem r99_upd {f : Fn} {n : Nat} (h : ∀ k, k ≤ n → r99 (f k)) (hv : r99 v) : ∀ k, k ≤ n → r99 (upd f j v k) := fun k hk => by
  by_cases e : k = j
  · rw [upd_e e]
    exact hv
  · rw [pk_un e]
    exact h k hk
theorem okC_we (hc : okC c) (hv : 0 ≤ v ∧ v ≤ 99) : okC (cWe c j v) := by
  obtain ⟨h1, h2, ⟨c1, c2, c3⟩, s⟩ := hc
  exact ⟨h1, h2, ⟨c1, fun k hk => ⟨r99_upd (fun k hk => (c2 k hk).1) hv k hk, (c2 k hk).2⟩, c3⟩, s⟩
theorem okC_ha (hc : okC c) (hv : 0 ≤ v ∧ v ≤ 99) : okC (cHa c j v) := by
  obtain ⟨h1, h2, ⟨c1, c2, c3⟩, s⟩ := hc
  exact ⟨h1, h2, ⟨c1, fun k hk => ⟨(c2 k hk).1, r99_upd (fun k hk => (c2 k hk).2.1) hv k hk, (c2 k hk).2.2⟩, c3⟩, s⟩
theorem okC_pr (hc : okC c) (hv : 0 ≤ v ∧ v ≤ 99) : okC (cPr c j v) := by
  obtain ⟨h1, h2, ⟨c1, c2, c3⟩, s⟩ := hc
  exact ⟨h1, h2, ⟨c1, fun k hk => ⟨(c2 k hk).1, (c2 k hk).2.1, r99_upd (fun k hk => (c2 k hk).2.2) hv k hk⟩, c3⟩, s⟩
theorem okC_st (hc : okC c) (hv : -2 ≤ v ∧ v ≤ 2) : okC (cSt c j v) := by
  obtain ⟨h1, h2, ⟨c1, c2⟩, s⟩ := hc
  refine ⟨h1, h2, ⟨fun k hk => ?_, c2⟩, s⟩
  show -2 ≤ upd c.2.1 j v k ∧ upd c.2.1 j v k ≤ 2
  by_cases e : k = j
  · rw [upd_e e]
    exact hv
  · rw [pk_un e]
    exact c1 k hk
theorem okC_mv (hc : okC c) (hj : j ≤ c.1) (hq : q ≤ c.1) (hjq : j ≠ q) : okC (cMv c j q) := by
  obtain ⟨h1, h2, ⟨c1, c2, c3⟩, s⟩ := hc
  refine ⟨h1, h2, ⟨c1, fun k hk => ⟨?_, (c2 k hk).2⟩, c3⟩, s⟩
  obtain ⟨b, eb, x, y, ex, ey, hb, hy, hx⟩ := mvBy_r99 (c2 j hj).1 (c2 q hq).1
  show r99 (mvN c.2.2.1 j q k)
  unfold mvN
  rw [pk_un (Ne.symm hjq), eb, ex, ey, pk_sub hb, nI_add]
  exact r99_upd (r99_upd (fun k hk => (c2 k hk).1) (r99_nI (by omega))) (r99_nI (by omega)) k hk
theorem okC_se (hc : okC c) (hv : sLow (nI j) ≤ v ∧ v ≤ sHigh (nI j)) (hj : j < 4) : okC (cSe c j v) := by
  obtain ⟨h1, h2, ⟨c1, c2, c3, c4, c5, c6, c7, c8⟩, s1, s2⟩ := hc
  have key : (0 ≤ upd c.2.2.2.2.2 j v 0 ∧ upd c.2.2.2.2.2 j v 0 ≤ 20 ∧ 0 ≤ upd c.2.2.2.2.2 j v 2 ∧ upd c.2.2.2.2.2 j v 2 ≤ 20 ∧ 1 ≤ upd c.2.2.2.2.2 j v 3 ∧ upd c.2.2.2.2.2 j v 3 ≤ 999) ∧ -40 ≤ upd c.2.2.2.2.2 j v 1 ∧ upd c.2.2.2.2.2 j v 1 ≤ 40 := by
    rcases (show j = 0 ∨ j = 1 ∨ j = 2 ∨ j = 3 by omega) with e | e | e | e <;> subst e
    · rw [pk_us, pk_un (by omega), pk_un (by omega), pk_un (by omega)]
      exact ⟨⟨hv.1, hv.2, c5, c6, c7, c8⟩, s1, s2⟩
    · rw [pk_us, pk_un (by omega), pk_un (by omega), pk_un (by omega)]
      exact ⟨⟨c3, c4, c5, c6, c7, c8⟩, hv.1, hv.2⟩
    · rw [pk_us, pk_un (by omega), pk_un (by omega), pk_un (by omega)]
      exact ⟨⟨c3, c4, hv.1, hv.2, c7, c8⟩, s1, s2⟩
    · rw [pk_us, pk_un (by omega), pk_un (by omega), pk_un (by omega)]
      exact ⟨⟨c3, c4, c5, c6, hv.1, hv.2⟩, s1, s2⟩
  exact ⟨h1, h2, ⟨c1, c2, key.1⟩, key.2⟩
theorem r99_0 : r99 0 := ⟨by decide, by decide⟩
theorem r99_new {f : Fn} {n : Nat} (h : ∀ k, k ≤ n → r99 (f k)) : ∀ k, k ≤ n + 1 → r99 (upd f (n + 1) 0 k) := fun k hk => by
  by_cases e : k = n + 1
  · rw [upd_e e]
    exact r99_0
  · rw [pk_un e]
    exact h k (by omega)
theorem okC_li (hc : okC c) (hv : -2 ≤ v ∧ v ≤ 2) (hn : c.1 < 20) : okC (cLi c v) := by
  obtain ⟨h1, h2, ⟨c1, c2, c3⟩, s⟩ := hc
  refine ⟨Nat.le_add_left 1 c.1, hn, ⟨fun k hk => ?_, fun k hk => ⟨r99_new (fun k hk => (c2 k hk).1) k hk, r99_new (fun k hk => (c2 k hk).2.1) k hk, r99_new (fun k hk => (c2 k hk).2.2) k hk⟩, c3⟩, s⟩
  have hk2 : k < c.1 + 1 := hk
  show -2 ≤ upd c.2.1 c.1 v k ∧ upd c.2.1 c.1 v k ≤ 2
  by_cases e : k = c.1
  · rw [upd_e e]
    exact hv
  · rw [pk_un e]
    exact c1 k (by omega)
theorem outN_l {m k q : Nat} {f : Fn} (h : q < k) : outN m f k q = f q := if_pos h
theorem outN_r {m k q : Nat} {f : Fn} (h : k ≤ q) (h2 : q + 1 < m) : outN m f k q = f (q + 1) := by
  unfold outN
  rw [if_neg (by omega), rdN_in h2]
theorem okC_cu (hc : okC c) (hj : j < c.1) (h1n : 1 < c.1) : okC (cCu c j) := by
  obtain ⟨h1, h2, ⟨c1, c2, c3⟩, s⟩ := hc
  refine ⟨show 1 ≤ c.1 - 1 by omega, show c.1 - 1 ≤ 20 by omega, ⟨fun k hk => ?_, fun k hk => ?_, c3⟩, s⟩
  · show -2 ≤ outN 20 c.2.1 j k ∧ outN 20 c.2.1 j k ≤ 2
    have hk2 : k < c.1 - 1 := hk
    rcases Nat.lt_or_ge k j with q | q
    · rw [outN_l q]
      exact c1 k (by omega)
    · rw [outN_r q (by omega)]
      exact c1 (k + 1) (by omega)
  · show r99 (outN 21 c.2.2.1 (j + 1) k) ∧ r99 (outN 21 c.2.2.2.1 (j + 1) k) ∧ r99 (outN 21 c.2.2.2.2.1 (j + 1) k)
    have hk2 : k ≤ c.1 - 1 := hk
    rcases Nat.lt_or_ge k (j + 1) with q | q
    · rw [outN_l q, outN_l q, outN_l q]
      exact c2 k (by omega)
    · rw [outN_r q (by omega), outN_r q (by omega), outN_r q (by omega)]
      exact c2 (k + 1) (by omega)
theorem okC_tu (hc : okC c) : okC (cTu c) := by
  obtain ⟨h1, h2, ⟨c1, c2, c3⟩, s⟩ := hc
  have tj : ∀ (f : Fn) (k : Nat), k ≤ c.1 → turnN f (c.1 + 1) k = f (c.1 - k) := fun f k hk => by
    unfold turnN
    rw [if_pos (by omega)]
    congr 1
  refine ⟨h1, h2, ⟨fun k hk => ?_, fun k hk => ?_, c3⟩, s⟩
  · have hk2 : k < c.1 := hk
    show -2 ≤ negN (turnN c.2.1 c.1) c.1 k ∧ negN (turnN c.2.1 c.1) c.1 k ≤ 2
    unfold negN turnN
    rw [if_pos hk2, if_pos hk2]
    exact neg_r2 (c1 (c.1 - 1 - k) (by omega))
  · have hk2 : k ≤ c.1 := hk
    show r99 (turnN c.2.2.1 (c.1 + 1) k) ∧ r99 (turnN c.2.2.2.1 (c.1 + 1) k) ∧ r99 (turnN c.2.2.2.2.1 (c.1 + 1) k)
    rw [tj _ k hk2, tj _ k hk2, tj _ k hk2]
    exact c2 (c.1 - k) (by omega)
/-! ## what a change answers is not below 0 -/
theorem nn_bend (hc : okC c) (hj : j < c.1) : 0 ≤ c.2.1 j + 2 := by
  have h := fx_le.mp (hc.2.2.1.1 j hj).1
  have h2 := fx_le.mp (hc.2.2.1.1 j hj).2
  rw [fx_m2] at h
  rw [fx_2] at h2
  rw [fx_le, fx_add (by rw [fx_2]; omega) (by rw [fx_2]; omega), fx_2, fx_0]
  omega
theorem nn_turn (hc : okC c) : 0 ≤ sHT (cTu c).2.1 c.1 + 100 := by
  have h := ht_b (okC_tu hc) c.1 (Nat.le_refl _)
  have h2 := hc.2.1
  rw [fx_le, fx_add (by rw [fx_100]; omega) (by rw [fx_100]; omega), fx_100, fx_0]
  omega
theorem nn_set (hc : okC c) (hj : j < 4) : 0 ≤ c.2.2.2.2.2 j + 100 := by
  obtain ⟨h1, h2, ⟨c1, c2, c3, c4, c5, c6, c7, c8⟩, s1, s2⟩ := hc
  have key : -40 ≤ (c.2.2.2.2.2 j).toInt ∧ (c.2.2.2.2.2 j).toInt ≤ 999 := by
    rw [fx_le] at c3 c4 c5 c6 c7 c8 s1 s2
    have a0 := c3
    rw [show (0 : Int32).toInt = 0 from rfl] at c3 c5
    rw [show (20 : Int32).toInt = 20 from rfl] at c4 c6
    rw [show (1 : Int32).toInt = 1 from rfl] at c7
    rw [show (999 : Int32).toInt = 999 from rfl] at c8
    rw [show (-40 : Int32).toInt = -40 from rfl] at s1
    rw [show (40 : Int32).toInt = 40 from rfl] at s2
    rcases (show j = 0 ∨ j = 1 ∨ j = 2 ∨ j = 3 by omega) with e | e | e | e <;> subst e <;> omega
  rw [fx_le, fx_add (by rw [fx_100]; omega) (by rw [fx_100]; omega), fx_100, fx_0]
  omega
theorem nn_move (hc : okC c) (hj : j ≤ c.1) (hq : q ≤ c.1) : 0 ≤ mvBy c.2.2.1 j q := by
  obtain ⟨b, eb, x, y, ex, ey, hb, hy, hx⟩ := mvBy_r99 (hc.2.2.1.2.1 j hj).1 (hc.2.2.1.2.1 q hq).1
  rw [eb]
  exact nI_pos' (by omega)
theorem nn_we (hc : okC c) (hj : j ≤ c.1) : 0 ≤ c.2.2.1 j ∧ c.2.2.1 j ≤ 99 := (hc.2.2.1.2.1 j hj).1
theorem nn_ha (hc : okC c) (hj : j ≤ c.1) : 0 ≤ c.2.2.2.1 j ∧ c.2.2.2.1 j ≤ 99 := (hc.2.2.1.2.1 j hj).2.1
theorem nn_pr (hc : okC c) (hj : j ≤ c.1) : 0 ≤ c.2.2.2.2.1 j ∧ c.2.2.2.2.1 j ≤ 99 := (hc.2.2.1.2.1 j hj).2.2
theorem nI_99 {w : Nat} (h : w < 100) : 0 ≤ nI w ∧ nI w ≤ 99 := r99_nI (by omega)
theorem st5 {k : Nat} (h : k < 5) : -2 ≤ nI k - 2 ∧ nI k - 2 ≤ 2 := by
  rcases (show k = 0 ∨ k = 1 ∨ k = 2 ∨ k = 3 ∨ k = 4 by omega) with e | e | e | e | e <;> subst e <;> exact ⟨by decide, by decide⟩
theorem un_lt (hp : okQ p) : (pSv p c).2.2 - 1 < 7 := by
  have h := (okQ_sv (c := c) hp).2
  omega
/-! ## what would be -/
theorem cWe_2 {w : Int32} : cWe (cWe c j v) j w = cWe c j w := by
  show (c.1, c.2.1, upd (upd c.2.2.1 j v) j w, c.2.2.2.1, c.2.2.2.2.1, c.2.2.2.2.2) = (c.1, c.2.1, upd c.2.2.1 j w, c.2.2.2.1, c.2.2.2.2.1, c.2.2.2.2.2)
  rw [upd_u]
theorem cWe_s : cWe c j (c.2.2.1 j) = c := by
  show (c.1, c.2.1, upd c.2.2.1 j (c.2.2.1 j), c.2.2.2.1, c.2.2.2.2.1, c.2.2.2.2.2) = c
  have e : upd c.2.2.1 j (c.2.2.1 j) = c.2.2.1 := by
    funext k
    by_cases h : k = j
    · rw [upd_e h, h]
    · rw [pk_un h]
  rw [e]
theorem mw_P {w kp : Nat} (h : ¬ CT (cWe c j (nI w)) kp 7 = 0) : pWe c.1 c.2.1 c.2.2.1 c.2.2.2.1 c.2.2.2.2.1 c.2.2.2.2.2 j w = true := by
  refine decide_eq_true ?_
  by_cases q : GR (cWe c j (nI w)) ≤ c.2.2.2.2.2 3
  · exact q
  · exact absurd (show CT (cWe c j (nI w)) kp 7 = 0 from if_neg q) h
theorem mw_ge {w kp : Nat} (hw : w < 100) (h : ¬ CT (cWe c j (nI w)) kp 7 = 0) : ¬ MW c j < nI w := by
  obtain ⟨k, h1, h2, h3⟩ := hvI_ge (mw_P h) 100 hw
  rw [show MW c j = nI k from h3]
  exact nI_nlt h1 (by omega)
theorem mw_ex (h : ¬ MW c j = -1) : ∃ k, k < 100 ∧ MW c j = nI k ∧ pWe c.1 c.2.1 c.2.2.1 c.2.2.2.1 c.2.2.2.2.1 c.2.2.2.2.2 j k = true := (hvI_ex 100).resolve_left h
theorem mw_99 (h : ¬ MW c j = -1) : 0 ≤ MW c j ∧ MW c j ≤ 99 := by
  obtain ⟨k, h1, h2, h3⟩ := mw_ex h
  rw [h2]
  exact nI_99 h1
theorem mw_ho {kp : Nat} (h : ¬ MW c j = -1) : CT (cWe c j (MW c j)) kp 7 = 1 := by
  obtain ⟨k, h1, h2, h3⟩ := mw_ex h
  rw [h2]
  exact if_pos (of_decide_eq_true h3)
theorem bm_e (h : ¬ c.2.2.1 j = 0) : BM c j = (bst (fun t => GR (cMv c j t)) j (c.1 + 1)).1 := if_neg h
theorem bm_some (hc : okC c) (h : ¬ c.2.2.1 j = 0) : ∃ b, b ≤ c.1 ∧ b ≠ j ∧ BM c j = nI b ∧ ∀ t, t ≤ c.1 → t ≠ j → GR (cMv c j b) ≤ GR (cMv c j t) ∧ (t < b → GR (cMv c j b) < GR (cMv c j t)) := by
  have h1 := hc.1
  have h2 := hc.2.1
  rw [bm_e h]
  rcases bst_min (F := fun t => GR (cMv c j t)) (j := j) (c.1 + 1) (by omega) with ⟨g1, g2⟩ | ⟨b, g1, g2, g3, g4⟩
  · have a := g2 0 (by omega)
    have b := g2 1 (by omega)
    omega
  · exact ⟨b, by omega, g2, by rw [g3], fun t ht hn => g4 t (by omega) hn⟩
theorem bm_0 (h : c.2.2.1 j = 0) : BM c j = -1 := if_pos h
theorem bm_ex (hc : okC c) (h : ¬ BM c j < 0) : ∃ b, b ≤ c.1 ∧ b ≠ j ∧ BM c j = nI b ∧ ∀ t, t ≤ c.1 → t ≠ j → GR (cMv c j b) ≤ GR (cMv c j t) ∧ (t < b → GR (cMv c j b) < GR (cMv c j t)) := by
  by_cases q : c.2.2.1 j = 0
  · rw [bm_0 q] at h
    exact absurd (by decide) h
  · exact bm_some hc q
theorem nm_t (hc : okC c) (h : BM c j = -1) : 1 = nM c j := by
  by_cases q : c.2.2.1 j = 0
  · exact (if_pos q).symm
  · obtain ⟨b, hb, -, e, -⟩ := bm_some hc q
    rw [e] at h
    exact absurd h (nI_m1 (by have := hc.2.1; omega))
theorem nm_f (h : ¬ BM c j = -1) : 0 = nM c j := (if_neg (fun q => h (bm_0 q))).symm
theorem nm_1 (h : JT c j 1 = 0) : 1 = nM c j := (if_pos h).symm
theorem nm_0 (h : ¬ JT c j 1 = 0) : 0 = nM c j := (if_neg h).symm
theorem bs_ex : ∃ b, b < 5 ∧ BSp c j = stI b ∧ ∀ t, t < 5 → GR (cSt c j (stI b)) ≤ GR (cSt c j (stI t)) ∧ (t < b → GR (cSt c j (stI b)) < GR (cSt c j (stI t))) := by
  rcases bsp_min (F := gSp c.1 c.2.1 c.2.2.1 c.2.2.2.1 c.2.2.2.2.1 c.2.2.2.2.2 j) 5 (Nat.le_refl _) with ⟨g1, -⟩ | ⟨b, g1, g3, g4⟩
  · exact absurd g1 (by decide)
  · refine ⟨b, g1, ?_, g4⟩
    unfold BSp
    rw [g3]
theorem bs_r : -2 ≤ BSp c j ∧ BSp c j ≤ 2 := by
  obtain ⟨b, hb, e, -⟩ := bs_ex (c := c) (j := j)
  rw [e]
  exact stI_r hb
theorem bs_eq (hq : q < 5) (h : ¬ GR (cSt c j (BSp c j)) < GR (cSt c j (stI q))) : GR (cSt c j (stI q)) = GR (cSt c j (BSp c j)) := by
  obtain ⟨b, hb, e, g⟩ := bs_ex (c := c) (j := j)
  rw [e] at h ⊢
  exact Int32.le_antisymm (Int32.not_lt.mp h) (g q hq).1
theorem stI_lt {a b : Nat} (ha : a < 5) (hb : b < 5) (h : stI a < stI b) : a < b := by
  rcases (show a = 0 ∨ a = 1 ∨ a = 2 ∨ a = 3 ∨ a = 4 by omega) with e | e | e | e | e <;> subst e <;>
  rcases (show b = 0 ∨ b = 1 ∨ b = 2 ∨ b = 3 ∨ b = 4 by omega) with e | e | e | e | e <;> subst e <;> first | omega | exact absurd h (by decide)
theorem bs_lt (hq : q < 5) (h : ¬ GR (cSt c j (BSp c j)) < GR (cSt c j (stI q))) : ¬ stI q < BSp c j := by
  obtain ⟨b, hb, e, g⟩ := bs_ex (c := c) (j := j)
  rw [e] at h ⊢
  exact fun z => h ((g q hq).2 (stI_lt hq hb z))
theorem stI_3t (hq : q ≤ 5) (h : 3 ≤ stI q) : 5 = q := by
  rcases (show q = 0 ∨ q = 1 ∨ q = 2 ∨ q = 3 ∨ q = 4 ∨ q = 5 by omega) with e | e | e | e | e | e <;> subst e <;> first | rfl | exact absurd h (by decide)
theorem stI_3f (hq : q ≤ 5) (h : ¬ 3 ≤ stI q) : q < 5 := by
  rcases (show q = 0 ∨ q = 1 ∨ q = 2 ∨ q = 3 ∨ q = 4 ∨ q = 5 by omega) with e | e | e | e | e | e <;> subst e <;> first | omega | exact absurd (by decide) h
theorem bh_some (hc : okC c) (h : ¬ c.1 = 1) : ∃ b, 1 ≤ b ∧ b < c.1 ∧ BH c v = nI b ∧ ∀ t, 1 ≤ t → t < c.1 → GR (cHa c b (mn 99 (c.2.2.2.1 b + v))) ≤ GR (cHa c t (mn 99 (c.2.2.2.1 t + v))) ∧ (t < b → GR (cHa c b (mn 99 (c.2.2.2.1 b + v))) < GR (cHa c t (mn 99 (c.2.2.2.1 t + v)))) := by
  have h1 := hc.1
  have h2 := hc.2.1
  rcases bsh_min (F := fun t => GR (cHa c t (mn 99 (c.2.2.2.1 t + v)))) (c.1 - 1) (by omega) with ⟨g1, -⟩ | ⟨b, g0, g1, g3, g4⟩
  · omega
  · exact ⟨b, g0, by omega, congrArg Prod.fst g3, fun t h3 h4 => g4 t h3 (by omega)⟩
theorem bh_0 (h : c.1 = 1) : BH c v = -1 := by
  unfold BH
  rw [h]
  rfl
theorem bh_ex (hc : okC c) (h : ¬ BH c v < 0) : ∃ b, 1 ≤ b ∧ b < c.1 ∧ BH c v = nI b ∧ ∀ t, 1 ≤ t → t < c.1 → GR (cHa c b (mn 99 (c.2.2.2.1 b + v))) ≤ GR (cHa c t (mn 99 (c.2.2.2.1 t + v))) ∧ (t < b → GR (cHa c b (mn 99 (c.2.2.2.1 b + v))) < GR (cHa c t (mn 99 (c.2.2.2.1 t + v)))) := by
  by_cases q : c.1 = 1
  · rw [bh_0 q] at h
    exact absurd (by decide) h
  · exact bh_some hc q
theorem bh_pos (hc : okC c) (h : ¬ BH c v < 0) : ¬ BH c v ≤ 0 := by
  obtain ⟨b, h1, h2, e, -⟩ := bh_ex hc h
  rw [e]
  exact nI_nle (by omega) (by have := hc.2.1; omega)
theorem bh_n (hc : okC c) (h : ¬ BH c v < 0) : ¬ nI c.1 ≤ BH c v := by
  obtain ⟨b, h1, h2, e, -⟩ := bh_ex hc h
  rw [e]
  exact nI_ge h2 (by have := hc.2.1; omega)
theorem on_t (hc : okC c) (h : BH c v = -1) : 1 = oN c := by
  by_cases q : c.1 = 1
  · exact (if_pos q).symm
  · obtain ⟨b, h1, h2, e, -⟩ := bh_some (v := v) hc q
    rw [e] at h
    exact absurd h (nI_m1 (by have := hc.2.1; omega))
theorem on_f (h : ¬ BH c v = -1) : 0 = oN c := (if_neg (fun q => h (bh_0 q))).symm
theorem on_1 (h : c.1 = 1) : 1 = oN c := (if_pos h).symm
theorem on_0 (h : c.1 ≠ 1) : 0 = oN c := (if_neg h).symm
theorem ha_r (hc : okC c) (hj : j ≤ c.1) (hv : 0 ≤ v ∧ v ≤ 99) : 0 ≤ mn 99 (c.2.2.2.1 j + v) ∧ mn 99 (c.2.2.2.1 j + v) ≤ 99 := by
  obtain ⟨x, hx, ex⟩ := i99 (hc.2.2.1.2.1 j hj).2.1
  obtain ⟨y, hy, ey⟩ := i99 hv
  rw [ex, ey, nI_add, show (99 : Int32) = nI 99 from rfl, mn_min (by omega) (by omega)]
  exact r99_nI (Nat.min_le_left _ _)
/-! ## comparisons of doubles -/
theorem ev_0 (hc : okC c) {op : CmpOp} : ¬ Op.cmpValue (FP.dcmp (EV c) FP.dconst0) op < 0 := by
  rcases (ev_01 hc).1 with h | h <;> rw [h] <;> cases op <;> decide
theorem ev_1 (hc : okC c) {op : CmpOp} : ¬ 0 < Op.cmpValue (FP.dcmp (EV c) FP.dconst1) op := by
  rcases (ev_01 hc).2 with h | h <;> rw [h] <;> cases op <;> decide
end FOK
