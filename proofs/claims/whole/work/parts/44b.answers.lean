/-! # both sides answer alike -/
section ANS
variable {n : Nat} {st we ha pr se st2 we2 ha2 pr2 se2 : Fn} {j t : Nat} {v : Int32}
theorem an_lk (h : chEq n st we ha pr se st2 we2 ha2 pr2 se2) (hj : j < n) (w : Nat) : tLk n st we ha pr se j w = tLk n st2 we2 ha2 pr2 se2 j w := by
  rcases w with _ | _ | w
  · show st j + 2 = st2 j + 2
    rw [h.1 j hj]
  · exact che_fo h hj
  · show (if se 3 < cFO n st we ha pr se j then (1 : Int32) else 0) = if se2 3 < cFO n st2 we2 ha2 pr2 se2 j then (1 : Int32) else 0
    rw [che_fo h hj, h.2.2 3 (by omega)]
theorem an_jt (h : chEq n st we ha pr se st2 we2 ha2 pr2 se2) (hj : j ≤ n) (w : Nat) : tJt n st we ha pr se j w = tJt n st2 we2 ha2 pr2 se2 j w := by
  rcases w with _ | _ | _ | _ | _ | _ | _ | w
  · show sHT st j + 100 = sHT st2 j + 100
    rw [che_ht h hj]
  · exact (h.2.1 j hj).1
  · exact (h.2.1 j hj).2.1
  · exact (h.2.1 j hj).2.2
  · exact che_bu h hj
  · exact che_hg h hj
  · exact che_pp h hj
  · exact che_ld h hj
theorem an_lo (h : chEq n st we ha pr se st2 we2 ha2 pr2 se2) : loN (sHT st) n = loN (sHT st2) n := loN_c n (fun k hk => che_ht h hk)
theorem an_c7 (h : chEq n st we ha pr se st2 we2 ha2 pr2 se2) : (if cGR n st we ha pr se ≤ se 3 then (1 : Int32) else 0) = if cGR n st2 we2 ha2 pr2 se2 ≤ se2 3 then (1 : Int32) else 0 := by rw [h.2.2 3 (by omega), che_gr h]
theorem an_c6 (h : chEq n st we ha pr se st2 we2 ha2 pr2 se2) : nI (brN (cFO n st we ha pr se) (se 3) n) = nI (brN (cFO n st2 we2 ha2 pr2 se2) (se2 3) n) := by rw [h.2.2 3 (by omega), brN_c n (fun k hk => che_fo h hk)]
theorem an_c9 (h : chEq n st we ha pr se st2 we2 ha2 pr2 se2) {x : Int32} : sHT st (loN (sHT st) n) + x = sHT st2 (loN (sHT st2) n) + x := by rw [an_lo h, che_ht h (loN_le _ n)]
theorem an_ct (h : chEq n st we ha pr se st2 we2 ha2 pr2 se2) (sm w : Nat) (hw : w < 11) : tCt n st we ha pr se sm w = tCt n st2 we2 ha2 pr2 se2 sm w := by
  have e1 := sumN_c (n + 1) (fun k hk => (h.2.1 k (by omega)).1)
  have e2 := sumN_c (n + 1) (fun k hk => che_ld h (show k ≤ n by omega))
  rcases (show w = 0 ∨ w = 1 ∨ w = 2 ∨ w = 3 ∨ w = 4 ∨ w = 5 ∨ w = 6 ∨ w = 7 ∨ w = 8 ∨ w = 9 ∨ w = 10 by omega) with q | q | q | q | q | q | q | q | q | q | q <;> rw [q] <;> unfold tCt
  · exact (rfl : nI n = nI n)
  · exact e1
  · exact e2
  · exact che_ah h
  · exact che_be h
  · exact che_gr h
  · exact an_c6 h
  · exact an_c7 h
  · exact congrArg nI (an_lo h)
  · exact an_c9 h
  · exact (rfl : nI sm = nI sm)
theorem an_we (h : chEq n st we ha pr se st2 we2 ha2 pr2 se2) : gWe n st we ha pr se j v = gWe n st2 we2 ha2 pr2 se2 j v := che_gr (chE_we h)
theorem an_hv (h : chEq n st we ha pr se st2 we2 ha2 pr2 se2) : hvI (pWe n st we ha pr se j) 100 = hvI (pWe n st2 we2 ha2 pr2 se2 j) 100 := by
  congr 1
  funext i
  unfold pWe
  rw [an_we h, h.2.2 3 (by omega)]
theorem bst_c {F G : Nat → Int32} {j : Nat} : ∀ i, (∀ k, k < i → F k = G k) → bst F j i = bst G j i := by
  intro i
  induction i with
  | zero => intro _; rfl
  | succ i ih =>
    intro h
    show (if i = j then bst F j i else if (bst F j i).1 = -1 ∨ F i < (bst F j i).2 then (nI i, F i) else bst F j i) = (if i = j then bst G j i else if (bst G j i).1 = -1 ∨ G i < (bst G j i).2 then (nI i, G i) else bst G j i)
    rw [ih (fun k hk => h k (by omega)), h i (Nat.lt_succ_self i)]
theorem an_to (h : chEq n st we ha pr se st2 we2 ha2 pr2 se2) (hj : j ≤ n) : bTo n st we ha pr se j = bTo n st2 we2 ha2 pr2 se2 j := by
  have e : bst (gMv n st we ha pr se j) j (n + 1) = bst (gMv n st2 we2 ha2 pr2 se2 j) j (n + 1) := bst_c (n + 1) (fun k hk => che_gr (chE_mv h hj (show k ≤ n by omega)))
  unfold bTo
  rw [(h.2.1 j hj).1, e]
theorem bsh_c {F G : Nat → Int32} : ∀ i, (∀ k, k < i → F (k + 1) = G (k + 1)) → bsh F i = bsh G i := by
  intro i
  induction i with
  | zero => intro _; rfl
  | succ i ih =>
    intro h
    show (if (bsh F i).1 = -1 ∨ F (i + 1) < (bsh F i).2 then (nI (i + 1), F (i + 1)) else bsh F i) = (if (bsh G i).1 = -1 ∨ G (i + 1) < (bsh G i).2 then (nI (i + 1), G (i + 1)) else bsh G i)
    rw [ih (fun k hk => h k (by omega)), h i (Nat.lt_succ_self i)]
theorem an_hg (h : chEq n st we ha pr se st2 we2 ha2 pr2 se2) {k : Nat} (hk : k ≤ n) : gHg n st we ha pr se v k = gHg n st2 we2 ha2 pr2 se2 v k := by
  unfold gHg
  rw [(h.2.1 k hk).2.1]
  exact che_gr (chE_ha h rfl)
theorem an_sh (h : chEq n st we ha pr se st2 we2 ha2 pr2 se2) : (bsh (gHg n st we ha pr se v) (n - 1)).1 = (bsh (gHg n st2 we2 ha2 pr2 se2 v) (n - 1)).1 := by
  rw [bsh_c (n - 1) (fun k hk => an_hg h (show k + 1 ≤ n by omega))]
theorem an_sp (h : chEq n st we ha pr se st2 we2 ha2 pr2 se2) : (bsp (gSp n st we ha pr se j) 5).1 + 2 = (bsp (gSp n st2 we2 ha2 pr2 se2 j) 5).1 + 2 := by
  have e : gSp n st we ha pr se j = gSp n st2 we2 ha2 pr2 se2 j := by
    funext i
    exact che_gr (chE_st h)
  rw [e]
theorem an_ev (h : chEq n st we ha pr se st2 we2 ha2 pr2 se2) : evn (cAH n st we ha pr se) (cBE n st we ha pr se) = evn (cAH n st2 we2 ha2 pr2 se2) (cBE n st2 we2 ha2 pr2 se2) := by rw [che_ah h, che_be h]
theorem hT_c {f g : Nat → Int32} {h : Int64} : ∀ i, (∀ k, k < i → f k = g k) → hT f i h = hT g i h := by
  intro i
  induction i with
  | zero => intro _; rfl
  | succ i ih =>
    intro e
    show hmix (hT f i h) (f i).toInt64 = hmix (hT g i h) (g i).toInt64
    rw [ih (fun k hk => e k (by omega)), e i (Nat.lt_succ_self i)]
theorem hLk_c (h : chEq n st we ha pr se st2 we2 ha2 pr2 se2) (x : Int64) : ∀ k, k ≤ n → hLk n st we ha pr se k x = hLk n st2 we2 ha2 pr2 se2 k x := by
  intro k
  induction k with
  | zero => intro _; rfl
  | succ k ih =>
    intro hk
    show hmix (hT (tLk n st we ha pr se k) 3 (hLk n st we ha pr se k x)) ((bsp (gSp n st we ha pr se k) 5).1 + 2).toInt64 = hmix (hT (tLk n st2 we2 ha2 pr2 se2 k) 3 (hLk n st2 we2 ha2 pr2 se2 k x)) ((bsp (gSp n st2 we2 ha2 pr2 se2 k) 5).1 + 2).toInt64
    rw [ih (by omega), an_sp h, hT_c 3 (fun i _ => an_lk h (show k < n by omega) i)]
theorem hJt_c (h : chEq n st we ha pr se st2 we2 ha2 pr2 se2) (x : Int64) : ∀ k, k ≤ n + 1 → hJt n st we ha pr se k x = hJt n st2 we2 ha2 pr2 se2 k x := by
  intro k
  induction k with
  | zero => intro _; rfl
  | succ k ih =>
    intro hk
    show hmix (hmix (hmix (hT (tJt n st we ha pr se k) 8 (hJt n st we ha pr se k x)) (gWe n st we ha pr se k 20).toInt64) (hvI (pWe n st we ha pr se k) 100).toInt64) (bTo n st we ha pr se k).toInt64 = hmix (hmix (hmix (hT (tJt n st2 we2 ha2 pr2 se2 k) 8 (hJt n st2 we2 ha2 pr2 se2 k x)) (gWe n st2 we2 ha2 pr2 se2 k 20).toInt64) (hvI (pWe n st2 we2 ha2 pr2 se2 k) 100).toInt64) (bTo n st2 we2 ha2 pr2 se2 k).toInt64
    rw [ih (by omega), an_we h, an_hv h, an_to h (show k ≤ n by omega), hT_c 8 (fun i _ => an_jt h (show k ≤ n by omega) i)]
theorem an_dg (h : chEq n st we ha pr se st2 we2 ha2 pr2 se2) {k sm ln : Nat} {tx tx2 : Fn} (ht : ∀ i, i < ln → tx i = tx2 i) : dgN n st we ha pr se k sm ln tx = dgN n st2 we2 ha2 pr2 se2 k sm ln tx2 := by
  have e1 : hS1 n st we ha pr se sm = hS1 n st2 we2 ha2 pr2 se2 sm := by
    unfold hS1
    rw [hT_c 11 (fun i hi => an_ct h sm i hi), hT_c 4 (fun i hi => by show se i + 100 = se2 i + 100; rw [h.2.2 i hi])]
  have e2 : hS2 n st we ha pr se sm = hS2 n st2 we2 ha2 pr2 se2 sm := by
    unfold hS2
    rw [e1, hLk_c h _ n (Nat.le_refl n), hJt_c h _ (n + 1) (Nat.le_refl _)]
  have e3 : hS3 n st we ha pr se sm = hS3 n st2 we2 ha2 pr2 se2 sm := by
    unfold hS3
    rw [e2, an_sh h]
  unfold dgN
  rw [e3, an_ev h, hT_c ln ht]
end ANS
/-! ## the walls bear nothing less than 0 -/
theorem mn_nat {a b : Nat} (ha : a < 2 ^ 31) (hb : b < 2 ^ 31) : ∃ m, m ≤ a ∧ mn (nI a) (nI b) = nI m := by
  unfold mn
  by_cases q : nI b < nI a
  · exact ⟨b, Nat.le_of_lt ((nI_ltI hb ha).mp q), if_pos q⟩
  · exact ⟨a, Nat.le_refl a, if_neg q⟩
section WAL
variable {n : Nat} {st we ha pr se ld : Fn}
theorem ld_nat (c : cV n st we ha pr se) {k : Nat} (hk : k ≤ n) : ∃ L, L ≤ 139 ∧ cLD n st we ha pr se k = nI L := by
  obtain ⟨c1, c2, c3, c4, -⟩ := c
  obtain ⟨w, hw, ew⟩ := i99 (c2 k hk).1
  obtain ⟨h, hh, eh⟩ := i99 (c2 k hk).2.1
  obtain ⟨p, hp, ep⟩ := i99 (c2 k hk).2.2
  obtain ⟨z, hz, ez⟩ : ∃ i : Nat, i ≤ 20 ∧ se 0 = nI i := nI_of2 (M := 20) rfl (Int32.not_lt.mpr c3) c4
  obtain ⟨b, hb, eb⟩ : ∃ b, b ≤ 139 ∧ sBU n we se k = nI b := by
    unfold sBU
    by_cases q : k = 0 ∨ k = n
    · exact ⟨0, by omega, if_pos q⟩
    · refine ⟨w + 2 * z, by omega, ?_⟩
      rw [if_neg q, ew, ez, show (2 : Int32) = nI 2 from rfl, pk_mul, nI_add]
  obtain ⟨g, hg, eg⟩ := mn_nat (a := b) (b := h) (by omega) (by omega)
  have e1 : sHG n we ha se k = nI g := by
    unfold sHG
    rw [eb, eh, eg]
  have e2 : sBU n we se k - sHG n we ha se k = nI (b - g) := by rw [eb, e1, pk_sub hg]
  obtain ⟨x, hx, ex⟩ : ∃ x, x ≤ b - g ∧ jPP n (sHT st) we ha pr se k = nI x := by
    unfold jPP
    by_cases q : sHT st k ≤ se 1
    · obtain ⟨x, hx, ex⟩ := mn_nat (a := b - g) (b := p) (by omega) (by omega)
      exact ⟨x, hx, by rw [if_pos q, e2, ep, ex]⟩
    · exact ⟨0, by omega, if_neg q⟩
  refine ⟨b - g - x, by omega, ?_⟩
  show sBU n we se k - sHG n we ha se k - jPP n (sHT st) we ha pr se k = _
  rw [e2, ex, pk_sub hx]
theorem part_nat {L k : Nat} (hL : L ≤ 139) (hk : k ≤ n) (hn1 : 1 ≤ n) (hn : n ≤ 20) : nI L * nI k / nI n = nI (L * k / n) ∧ L * k / n ≤ L := by
  have h1 : L * k ≤ 139 * 20 := Nat.mul_le_mul hL (by omega)
  refine ⟨by rw [pk_mul, pk_div (a := L * k) (d := n) (by omega) (by omega) (by omega)], ?_⟩
  have h2 : L * k ≤ L * n := Nat.mul_le_mul (Nat.le_refl L) hk
  exact Nat.le_trans (Nat.div_le_div_right h2) (by rw [Nat.mul_div_cancel _ (by omega)]; exact Nat.le_refl L)
theorem wB_nat (hn1 : 1 ≤ n) (hn : n ≤ 20) (hl : ∀ k, k ≤ n → ∃ L, L ≤ 139 ∧ ld k = nI L) : ∀ i, i ≤ n → ∃ B, B ≤ 139 * i ∧ wBE ld n i = nI B := by
  intro i
  induction i with
  | zero => exact fun _ => ⟨0, by omega, rfl⟩
  | succ i ih =>
    intro hi
    obtain ⟨B, hB, eB⟩ := ih (by omega)
    obtain ⟨L, hL, eL⟩ := hl (i + 1) hi
    obtain ⟨q1, q2⟩ := part_nat hL hi hn1 hn
    refine ⟨B + L * (i + 1) / n, by omega, ?_⟩
    show wBE ld n i + ld (i + 1) * nI (i + 1) / nI n = _
    rw [eB, eL, q1, nI_add]
theorem wA_nat (hn1 : 1 ≤ n) (hn : n ≤ 20) (hl : ∀ k, k ≤ n → ∃ L, L ≤ 139 ∧ ld k = nI L) : ∀ i, i ≤ n → ∃ B, B ≤ 139 * i ∧ wAH ld n i = nI B := by
  intro i
  induction i with
  | zero => exact fun _ => ⟨0, by omega, rfl⟩
  | succ i ih =>
    intro hi
    obtain ⟨B, hB, eB⟩ := ih (by omega)
    obtain ⟨L, hL, eL⟩ := hl (i + 1) hi
    obtain ⟨q1, q2⟩ := part_nat hL hi hn1 hn
    have q3 : L - L * (i + 1) / n ≤ 139 := Nat.le_trans (Nat.sub_le _ _) hL
    refine ⟨B + (L - L * (i + 1) / n), Nat.le_trans (Nat.add_le_add hB q3) (Nat.le_of_eq (Nat.mul_succ 139 i).symm), ?_⟩
    show wAH ld n i + (ld (i + 1) - ld (i + 1) * nI (i + 1) / nI n) = _
    rw [eB, eL, q1, pk_sub q2, nI_add]
theorem walls_ex (hn1 : 1 ≤ n) (hn : n ≤ 20) (c : cV n st we ha pr se) : ∃ k, evOK (cAH n st we ha pr se) (cBE n st we ha pr se) k := by
  obtain ⟨A, hA, eA⟩ := wA_nat hn1 hn (fun k hk => ld_nat c hk) (n - 1) (by omega)
  obtain ⟨B, hB, eB⟩ := wB_nat hn1 hn (fun k hk => ld_nat c hk) (n - 1) (by omega)
  refine ev_ex ?_ ?_
  · show 0 ≤ wAH (cLD n st we ha pr se) n (n - 1)
    rw [eA]
    exact nI_pos' (by omega)
  · show 0 ≤ wBE (cLD n st we ha pr se) n (n - 1)
    rw [eB]
    exact nI_pos' (by omega)
end WAL
/-! ## a shape that is read: its numbers are in their ranges -/
def sI (S : Rs) : Prop := (∀ k, k < S.2.1 → -2 ≤ S.2.2.1 k ∧ S.2.2.1 k ≤ 2) ∧ (S.1 = 1 → S.2.2.1 (S.2.1 - 1) = 1 ∨ S.2.2.1 (S.2.1 - 1) = -1) ∧ (∀ k, S.2.1 < k → S.2.2.2 k = 0) ∧ S.2.2.2 0 = 0 ∧ (∀ k, k ≤ S.2.1 → r99 (S.2.2.2 k)) ∧ (S.1 ≠ 0 → 1 ≤ S.2.1) ∧ (S.1 ≤ 3 → S.2.2.2 S.2.1 = 0) ∧ (S.1 = 4 → ∃ d : Nat, d ≤ 9 ∧ S.2.2.2 S.2.1 = nI d)
section SHI
variable {z l : Nat} {st we : Fn} {x : Int32}
theorem r99_0 : r99 0 := ⟨by decide, by decide⟩
theorem sI_B (h : sI (z, l, st, we)) (hz : z = 1 ∨ z = 2) : sI (tkB x (z, l, st, we)).2 := by
  unfold tkB
  split
  · obtain ⟨a1, a2, a3, a4, a5, a6, a7, a8⟩ := h
    exact ⟨a1, fun q => absurd (show (3 : Nat) = 1 from q) (by decide), a3, a4, a5, fun _ => a6 (show z ≠ 0 by omega), fun _ => a7 (show z ≤ 3 by omega), fun q => absurd (show (3 : Nat) = 4 from q) (by decide)⟩
  · exact h
theorem sI_E (h : sI (z, l, st, we)) (hz : z = 4 ∨ z = 5) : sI (tkE x (z, l, st, we)).2 := by
  unfold tkE
  split
  · obtain ⟨a1, a2, a3, a4, a5, a6, a7, a8⟩ := h
    exact ⟨a1, fun q => absurd (show (6 : Nat) = 1 from q) (by decide), a3, a4, a5, fun _ => a6 (show z ≠ 0 by omega), fun q => absurd (show (6 : Nat) ≤ 3 from q) (by decide), fun q => absurd (show (6 : Nat) = 4 from q) (by decide)⟩
  · exact h
theorem sI_T (h : sI (z, l, st, we)) (hz : z = 1) : sI (tkT x (z, l, st, we)).2 := by
  unfold tkT
  split
  · obtain ⟨a1, a2, a3, a4, a5, a6, a7, a8⟩ := h
    have h2 : st (l - 1) = 1 ∨ st (l - 1) = -1 := a2 hz
    refine ⟨fun k hk => ?_, fun q => absurd (show (2 : Nat) = 1 from q) (by decide), a3, a4, a5, fun _ => a6 (show z ≠ 0 by omega), fun _ => a7 (show z ≤ 3 by omega), fun q => absurd (show (2 : Nat) = 4 from q) (by decide)⟩
    show -2 ≤ upd st (l - 1) (2 * st (l - 1)) k ∧ upd st (l - 1) (2 * st (l - 1)) k ≤ 2
    by_cases e : k = l - 1
    · rw [upd_e e]
      rcases h2 with g | g <;> rw [g] <;> exact ⟨by decide, by decide⟩
    · rw [pk_un e]
      exact a1 k hk
  · exact h
theorem sI_L (h : sI (z, l, st, we)) : sI (tkL x (z, l, st, we)).2 := by
  unfold tkL
  split
  · exact h
  · split
    · obtain ⟨a1, a2, a3, a4, a5, a6, a7, a8⟩ := h
      have hs : stp x = 1 ∨ stp x = -1 ∨ stp x = 0 := by
        unfold stp
        split
        · exact Or.inl rfl
        · split
          · exact Or.inr (Or.inl rfl)
          · exact Or.inr (Or.inr rfl)
      refine ⟨fun k hk => ?_, fun q => ?_, fun k hk => a3 k (show l < k by have q : l + 1 < k := hk; omega), a4, fun k hk => ?_, fun _ => Nat.le_add_left 1 l, fun _ => a3 (l + 1) (Nat.lt_succ_self l), fun q => ?_⟩
      · show -2 ≤ upd st l (stp x) k ∧ upd st l (stp x) k ≤ 2
        have hk2 : k < l + 1 := hk
        by_cases e : k = l
        · rw [upd_e e]
          rcases hs with g | g | g <;> rw [g] <;> exact ⟨by decide, by decide⟩
        · rw [pk_un e]
          exact a1 k (show k < l by omega)
      · show upd st l (stp x) (l + 1 - 1) = 1 ∨ upd st l (stp x) (l + 1 - 1) = -1
        have q2 : (if stp x = 0 then 2 else 1) = 1 := q
        rw [show l + 1 - 1 = l by omega, pk_us]
        rcases hs with g | g | g
        · exact Or.inl g
        · exact Or.inr g
        · rw [if_pos g] at q2
          exact absurd q2 (by decide)
      · show r99 (we k)
        have hk2 : k ≤ l + 1 := hk
        rcases Nat.lt_or_ge l k with e | e
        · rw [show we k = 0 from a3 k e]
          exact r99_0
        · exact a5 k e
      · exfalso
        have q2 : (if stp x = 0 then 2 else 1) = 4 := q
        split at q2 <;> omega
    · exact h
theorem dig_nat (h : 48 ≤ x ∧ x ≤ 57) : ∃ y : Nat, 48 ≤ y ∧ y ≤ 57 ∧ x = nI y := by
  obtain ⟨y, hy, ey⟩ := i99 (x := x) ⟨Int32.le_trans (by decide) h.1, Int32.le_trans h.2 (by decide)⟩
  subst ey
  have h1 : nI 48 ≤ nI y := h.1
  have h2 : nI y ≤ nI 57 := h.2
  exact ⟨y, (nI_leI (by omega) (by omega)).mp h1, (nI_leI (by omega) (by omega)).mp h2, rfl⟩
theorem dv1 {d y : Nat} (h0 : d = 0) (h1 : 48 ≤ y) (h2 : y ≤ 57) : 10 * d + y - 48 ≤ 9 := by omega
theorem dv2 {d y : Nat} (h0 : d ≤ 9) (h1 : 48 ≤ y) (h2 : y ≤ 57) : 10 * d + y - 48 ≤ 99 := by omega
theorem dv3 {d y : Nat} (h1 : 48 ≤ y) : 48 ≤ 10 * d + y := by omega
theorem sI_D {nx : Nat} (h : sI (z, l, st, we)) (hz : (z = 3 ∧ nx = 4) ∨ (z = 4 ∧ nx = 5)) : sI (tkD x nx (z, l, st, we)).2 := by
  unfold tkD
  split
  · rename_i hd
    obtain ⟨y, y1, y2, ey⟩ := dig_nat hd
    obtain ⟨a1, a2, a3, a4, a5, a6, a7, a8⟩ := h
    have hl : 1 ≤ l := a6 (show z ≠ 0 by omega)
    obtain ⟨d, hd1, hd2, hd3⟩ : ∃ d : Nat, we l = nI d ∧ (z = 3 → d = 0) ∧ d ≤ 9 := by
      rcases hz with ⟨g, _⟩ | ⟨g, _⟩
      · exact ⟨0, a7 (show z ≤ 3 by omega), fun _ => rfl, by omega⟩
      · obtain ⟨d, q1, q2⟩ := a8 g
        exact ⟨d, q2, fun q => absurd q (by omega), q1⟩
    have ev : 10 * we l + x - 48 = nI (10 * d + y - 48) := by
      rw [hd1, ey, show (10 : Int32) = nI 10 from rfl, show (48 : Int32) = nI 48 from rfl, pk_mul, nI_add, pk_sub (dv3 y1)]
    have hz1 : nx = 4 ∨ nx = 5 := hz.elim (fun q => Or.inl q.2) (fun q => Or.inr q.2)
    refine ⟨a1, fun q => (hz1.elim (fun e => absurd ((show nx = 1 from q).symm.trans e) (by decide)) (fun e => absurd ((show nx = 1 from q).symm.trans e) (by decide))), fun k hk => ?_, ?_, fun k hk => ?_, fun _ => hl, fun q => (hz1.elim (fun e => absurd (e ▸ (show nx ≤ 3 from q) : 4 ≤ 3) (by decide)) (fun e => absurd (e ▸ (show nx ≤ 3 from q) : 5 ≤ 3) (by decide))), fun q => ?_⟩
    · show upd we l (10 * we l + x - 48) k = 0
      have hk2 : l < k := hk
      rw [pk_un (by omega)]
      exact a3 k hk2
    · show upd we l (10 * we l + x - 48) 0 = 0
      rw [pk_un (by omega)]
      exact a4
    · show r99 (upd we l (10 * we l + x - 48) k)
      by_cases e : k = l
      · rw [upd_e e, ev]
        exact r99_nI (dv2 hd3 y1 y2)
      · rw [pk_un e]
        exact a5 k hk
    · have q2 : nx = 4 := q
      have q4 : z = 3 := hz.elim (fun e => e.1) (fun e => absurd (q2.symm.trans e.2) (by decide))
      refine ⟨10 * d + y - 48, ?_, ?_⟩
      · exact dv1 (hd2 q4) y1 y2
      · show upd we l (10 * we l + x - 48) l = _
        rw [pk_us, ev]
  · exact h
end SHI
theorem sI_A {x : Int32} {S : Rs} (h : sI S) : sI (tkA x S).2 := by
  obtain ⟨z, l, st, we⟩ := S
  unfold tkA
  by_cases c1 : z = 1
  · rw [if_pos (show (z, l, st, we).1 = 1 from c1)]
    split
    · exact sI_T h c1
    · split
      · exact sI_B h (Or.inl c1)
      · exact sI_L h
  · rw [if_neg (show ¬ (z, l, st, we).1 = 1 from c1)]
    by_cases c2 : z = 2
    · rw [if_pos (show (z, l, st, we).1 = 2 from c2)]
      split
      · exact sI_B h (Or.inr c2)
      · exact sI_L h
    · rw [if_neg (show ¬ (z, l, st, we).1 = 2 from c2)]
      by_cases c3 : z = 3
      · rw [if_pos (show (z, l, st, we).1 = 3 from c3)]
        split
        · exact h
        · exact sI_D h (Or.inl ⟨c3, rfl⟩)
      · rw [if_neg (show ¬ (z, l, st, we).1 = 3 from c3)]
        by_cases c4 : z = 4
        · rw [if_pos (show (z, l, st, we).1 = 4 from c4)]
          split
          · exact sI_D h (Or.inr ⟨c4, rfl⟩)
          · exact sI_E h (Or.inl c4)
        · rw [if_neg (show ¬ (z, l, st, we).1 = 4 from c4)]
          by_cases c5 : z = 5
          · rw [if_pos (show (z, l, st, we).1 = 5 from c5)]
            exact sI_E h (Or.inr c5)
          · rw [if_neg (show ¬ (z, l, st, we).1 = 5 from c5)]
            exact sI_L h
theorem sI_S (f : Fn) (i : Nat) : sI (rdS f i) := by
  induction i with
  | zero => exact ⟨fun k hk => absurd hk (Nat.not_lt_zero k), fun q => absurd (show (0 : Nat) = 1 from q) (by decide), fun _ _ => rfl, rfl, fun _ _ => r99_0, fun q => absurd rfl q, fun _ => rfl, fun q => absurd (show (0 : Nat) = 4 from q) (by decide)⟩
  | succ i ih => exact sI_A ih
theorem P_shp {n : Nat} {st we ha pr se s tx tx2 : Fn} {ln lk z : Nat} {rst rwe : Fn} (h : okP (n, st, we, ha, pr, se) s) (hG : pG tx ln) (ht : ∀ i, i < ln → tx i = tx2 i) (hS : rdS tx ln = (z, lk, rst, rwe)) : okP (lk, rst, rwe, fun _ => 0, fun _ => 0, se) (mShp s tx2 ln) := by
  obtain ⟨c1, c2, c3⟩ := okP_cV h
  obtain ⟨q1, q2, q3⟩ := h.2
  have hi := sI_S tx ln
  have hv := rdS_v tx ln
  have hz := hG.2
  rw [hS] at hi hv hz
  obtain ⟨a1, a2, a3, a4, a5, a6, a7, a8⟩ := hi
  have hlk : lk ≤ 20 := hv.1
  have hlk1 : 1 ≤ lk := a6 (by
    have hz2 : z = 1 ∨ z = 2 ∨ z = 6 := hz
    show z ≠ 0
    omega)
  have e : mShp s tx2 ln = upd (shS (noM s 0) rst rwe lk) 0 (nI lk) := by
    unfold mShp
    rw [← rdS_c ln ht, hS]
  rw [e]
  refine okP_of (by rw [pk_us]) hlk1 hlk ⟨a1, fun k hk => ⟨a5 k hk, r99_0, r99_0⟩, c3⟩ ⟨fun k hk => ?_, fun k hk => ⟨?_, ?_, ?_⟩, fun k hk => ?_⟩
  · show rst k = upd (shS (noM s 0) rst rwe lk) 0 (nI lk) (5 + k)
    have hk2 : k < lk := hk
    unfold shS
    rw [pk_un (by omega), if_pos (by omega)]
    congr 1
    omega
  · show rwe k = upd (shS (noM s 0) rst rwe lk) 0 (nI lk) (25 + k)
    have hk2 : k ≤ lk := hk
    unfold shS
    rw [pk_un (by omega), if_neg (by omega)]
    rcases Nat.eq_zero_or_pos k with g | g
    · subst g
      rw [if_neg (by omega), if_neg (by omega), noM_j (Or.inl rfl)]
      exact a4
    · rw [if_pos (by omega)]
      congr 1
      omega
  · show (0 : Int32) = upd (shS (noM s 0) rst rwe lk) 0 (nI lk) (46 + k)
    have hk2 : k ≤ lk := hk
    unfold shS
    rw [pk_un (by omega), if_neg (by omega), if_neg (by omega)]
    rcases Nat.eq_zero_or_pos k with g | g
    · subst g
      rw [if_neg (by omega), noM_j (Or.inr (Or.inl rfl))]
    · rw [if_pos (by omega)]
  · show (0 : Int32) = upd (shS (noM s 0) rst rwe lk) 0 (nI lk) (67 + k)
    have hk2 : k ≤ lk := hk
    unfold shS
    rw [pk_un (by omega), if_neg (by omega), if_neg (by omega)]
    rcases Nat.eq_zero_or_pos k with g | g
    · subst g
      rw [if_neg (by omega), noM_j (Or.inr (Or.inr rfl))]
    · rw [if_pos (by omega)]
  · show se k = upd (shS (noM s 0) rst rwe lk) 0 (nI lk) (1 + k)
    have hk2 : k < 4 := hk
    unfold shS
    rw [pk_un (by omega), if_neg (by omega), if_neg (by omega), if_neg (by omega), noM_o (by omega) (by omega) (by omega)]
    exact q3 k hk
/-- the beginning -/
theorem okP_0 : okP (1, (fun _ => 0), (fun _ => 0), (fun _ => 0), (fun _ => 0), set0) mS0 := by
  have o : ∀ k, 5 ≤ k → mS0 k = 0 := fun k hk => by
    unfold mS0
    rw [pk_un (by omega), pk_un (by omega), pk_un (by omega), pk_un (by omega), pk_un (by omega)]
  have z0 : r99 0 := r99_0
  refine okP_of (by decide) (by decide) (by decide) ⟨fun k hk => ⟨(by decide : (-2 : Int32) ≤ 0), (by decide : (0 : Int32) ≤ 2)⟩, fun k hk => ⟨z0, z0, z0⟩, by decide, by decide, by decide, by decide, by decide, by decide⟩ ⟨fun k hk => (o _ (by omega)).symm, fun k hk => ⟨(o _ (by omega)).symm, (o _ (by omega)).symm, (o _ (by omega)).symm⟩, fun k hk => ?_⟩
  have hk2 : k < 4 := hk
  rcases (show k = 0 ∨ k = 1 ∨ k = 2 ∨ k = 3 by omega) with q | q | q | q <;> subst q <;> decide
