/-! # what binds the two sides: their chains, their saved chains, their texts -/
section CHQ
variable {n : Nat} {st we ha pr se st2 we2 ha2 pr2 se2 st3 we3 ha3 pr3 se3 : Fn} {j t : Nat} {v : Int32}
theorem chE_sy (h : chEq n st we ha pr se st2 we2 ha2 pr2 se2) : chEq n st2 we2 ha2 pr2 se2 st we ha pr se := ⟨fun k hk => (h.1 k hk).symm, fun k hk => ⟨(h.2.1 k hk).1.symm, (h.2.1 k hk).2.1.symm, (h.2.1 k hk).2.2.symm⟩, fun k hk => (h.2.2 k hk).symm⟩
theorem chE_tr (h : chEq n st we ha pr se st2 we2 ha2 pr2 se2) (g : chEq n st2 we2 ha2 pr2 se2 st3 we3 ha3 pr3 se3) : chEq n st we ha pr se st3 we3 ha3 pr3 se3 := ⟨fun k hk => (h.1 k hk).trans (g.1 k hk), fun k hk => ⟨(h.2.1 k hk).1.trans (g.2.1 k hk).1, (h.2.1 k hk).2.1.trans (g.2.1 k hk).2.1, (h.2.1 k hk).2.2.trans (g.2.1 k hk).2.2⟩, fun k hk => (h.2.2 k hk).trans (g.2.2 k hk)⟩
theorem upd_c {f g : Fn} {j k : Nat} {v w : Int32} (h : f k = g k) (e : v = w) : upd f j v k = upd g j w k := by
  subst e
  by_cases q : k = j
  · rw [upd_e q, upd_e q]
  · rw [pk_un q, pk_un q]
    exact h
theorem chE_we (h : chEq n st we ha pr se st2 we2 ha2 pr2 se2) : chEq n st (upd we j v) ha pr se st2 (upd we2 j v) ha2 pr2 se2 := ⟨h.1, fun k hk => ⟨upd_c (h.2.1 k hk).1 rfl, (h.2.1 k hk).2⟩, h.2.2⟩
theorem chE_ha (h : chEq n st we ha pr se st2 we2 ha2 pr2 se2) (e : v = v) : chEq n st we (upd ha j v) pr se st2 we2 (upd ha2 j v) pr2 se2 := ⟨h.1, fun k hk => ⟨(h.2.1 k hk).1, upd_c (h.2.1 k hk).2.1 rfl, (h.2.1 k hk).2.2⟩, h.2.2⟩
theorem chE_pr (h : chEq n st we ha pr se st2 we2 ha2 pr2 se2) : chEq n st we ha (upd pr j v) se st2 we2 ha2 (upd pr2 j v) se2 := ⟨h.1, fun k hk => ⟨(h.2.1 k hk).1, (h.2.1 k hk).2.1, upd_c (h.2.1 k hk).2.2 rfl⟩, h.2.2⟩
theorem chE_st (h : chEq n st we ha pr se st2 we2 ha2 pr2 se2) : chEq n (upd st j v) we ha pr se (upd st2 j v) we2 ha2 pr2 se2 := ⟨fun k hk => upd_c (h.1 k hk) rfl, h.2.1, h.2.2⟩
theorem chE_se (h : chEq n st we ha pr se st2 we2 ha2 pr2 se2) : chEq n st we ha pr (upd se j v) st2 we2 ha2 pr2 (upd se2 j v) := ⟨h.1, h.2.1, fun k hk => upd_c (h.2.2 k hk) rfl⟩
theorem mvBy_c (h : chEq n st we ha pr se st2 we2 ha2 pr2 se2) (hj : j ≤ n) (ht : t ≤ n) : mvBy we j t = mvBy we2 j t := by
  unfold mvBy
  rw [(h.2.1 j hj).1, (h.2.1 t ht).1]
theorem chE_mv (h : chEq n st we ha pr se st2 we2 ha2 pr2 se2) (hj : j ≤ n) (ht : t ≤ n) : chEq n st (mvN we j t) ha pr se st2 (mvN we2 j t) ha2 pr2 se2 := by
  have e := mvBy_c h hj ht
  have ej : we j - mvBy we j t = we2 j - mvBy we2 j t := by rw [e, (h.2.1 j hj).1]
  refine ⟨h.1, fun k hk => ⟨?_, (h.2.1 k hk).2⟩, h.2.2⟩
  unfold mvN
  exact upd_c (upd_c (h.2.1 k hk).1 ej) (by rw [upd_c (h.2.1 t ht).1 ej, e])
theorem cV_c (h : chEq n st we ha pr se st2 we2 ha2 pr2 se2) (c : cV n st we ha pr se) : cV n st2 we2 ha2 pr2 se2 := by
  obtain ⟨c1, c2, c3, c4, c5, c6, c7, c8⟩ := c
  have e0 := h.2.2 0 (by omega)
  have e2 := h.2.2 2 (by omega)
  have e3 := h.2.2 3 (by omega)
  refine ⟨fun k hk => by rw [← h.1 k hk]; exact c1 k hk, fun k hk => ?_, by rw [← e0]; exact c3, by rw [← e0]; exact c4, by rw [← e2]; exact c5, by rw [← e2]; exact c6, by rw [← e3]; exact c7, by rw [← e3]; exact c8⟩
  obtain ⟨a1, a2, a3⟩ := h.2.1 k hk
  rw [← a1, ← a2, ← a3]
  exact c2 k hk
end CHQ
/-- a chain of the class, and the row of the reference -/
def okP (c : CV) (s : Fn) : Prop := mOK s c.1 ∧ chEq c.1 c.2.1 c.2.2.1 c.2.2.2.1 c.2.2.2.2.1 c.2.2.2.2.2 (mST s) (mWE s) (mHA s) (mPR s) (mSE s)
theorem okP_cV {c : CV} {s : Fn} (h : okP c s) : cV c.1 c.2.1 c.2.2.1 c.2.2.2.1 c.2.2.2.2.1 c.2.2.2.2.2 := cV_c (chE_sy h.2) h.1.2.2.2
theorem okP_of {c : CV} {s : Fn} (h0 : s 0 = nI c.1) (h1 : 1 ≤ c.1) (h2 : c.1 ≤ 20) (hv : cV c.1 c.2.1 c.2.2.1 c.2.2.2.1 c.2.2.2.2.1 c.2.2.2.2.2) (hq : chEq c.1 c.2.1 c.2.2.1 c.2.2.2.1 c.2.2.2.2.1 c.2.2.2.2.2 (mST s) (mWE s) (mHA s) (mPR s) (mSE s)) : okP c s :=
  ⟨⟨h0, h1, h2, cV_c hq hv⟩, hq⟩
theorem okP_cong {c : CV} {s s2 : Fn} (h : okP c s) (e : ∀ k, k < 88 → s k = s2 k) : okP c s2 := by
  have hn := h.1.2.2.1
  refine okP_of (by rw [← e 0 (by omega)]; exact h.1.1) h.1.2.1 hn (okP_cV h) (chE_tr h.2 ⟨fun k hk => e _ (by omega), fun k hk => ⟨e _ (by omega), e _ (by omega), e _ (by omega)⟩, fun k hk => e _ (by omega)⟩)
section PRS
variable {n : Nat} {st we ha pr se s : Fn} {j t : Nat} {v : Int32}
theorem P_we (h : okP (n, st, we, ha, pr, se) s) (hj : j ≤ n) (hv : 0 ≤ v ∧ v ≤ 99) : okP (n, st, upd we j v, ha, pr, se) (upd s (25 + j) v) := ⟨mOK_we h.1 hj hv, chE_tr (chE_we h.2) (chE_sy (mEQ_we h.1 hj))⟩
theorem P_ha (h : okP (n, st, we, ha, pr, se) s) (hj : j ≤ n) (hv : 0 ≤ v ∧ v ≤ 99) : okP (n, st, we, upd ha j v, pr, se) (upd s (46 + j) v) := ⟨mOK_ha h.1 hj hv, chE_tr (chE_ha h.2 rfl) (chE_sy (mEQ_ha h.1 hj))⟩
theorem P_st (h : okP (n, st, we, ha, pr, se) s) (hj : j < n) (hv : -2 ≤ v ∧ v ≤ 2) : okP (n, upd st j v, we, ha, pr, se) (upd s (5 + j) v) := ⟨mOK_st h.1 hj hv, chE_tr (chE_st h.2) (chE_sy (mEQ_st h.1 hj))⟩
theorem P_mv (h : okP (n, st, we, ha, pr, se) s) (hj : j ≤ n) (ht : t ≤ n) (hjt : j ≠ t) : okP (n, st, mvN we j t, ha, pr, se) (mMov s j t) := ⟨mOK_mov h.1 hj ht hjt, chE_tr (chE_mv h.2 hj ht) (chE_sy (mEQ_mov h.1 hj ht hjt))⟩
theorem P_pr (h : okP (n, st, we, ha, pr, se) s) (hj : j ≤ n) (hv : 0 ≤ v ∧ v ≤ 99) : okP (n, st, we, ha, upd pr j v, se) (upd s (67 + j) v) := by
  obtain ⟨c1, c2, c3⟩ := okP_cV h
  have hn : n ≤ 20 := h.1.2.2.1
  have uo : ∀ {p q : Nat}, p + q ≠ 67 + j → (fun i => s (p + i)) q = (fun i => upd s (67 + j) v (p + i)) q := fun e => (pk_un e).symm
  refine okP_of (by rw [pk_un (by omega)]; exact h.1.1) h.1.2.1 hn ⟨c1, fun k hk => ⟨(c2 k hk).1, (c2 k hk).2.1, ?_⟩, c3⟩ (chE_tr (chE_pr h.2) ⟨fun k hk => uo (by have q : k < n := hk; omega), fun k hk => ⟨uo (by have q : k ≤ n := hk; omega), uo (by have q : k ≤ n := hk; omega), ?_⟩, fun k hk => uo (by omega)⟩)
  · show r99 (upd pr j v k)
    by_cases q : k = j
    · rw [upd_e q]; exact hv
    · rw [pk_un q]; exact (c2 k hk).2.2
  · show upd (mPR s) j v k = upd s (67 + j) v (67 + k)
    by_cases q : k = j
    · rw [upd_e q, upd_e (by omega)]
    · rw [pk_un q, pk_un (by omega)]; rfl
theorem P_se (h : okP (n, st, we, ha, pr, se) s) (hj : j < 4) (hv : sLow (nI j) ≤ v ∧ v ≤ sHigh (nI j)) : okP (n, st, we, ha, pr, upd se j v) (upd s (1 + j) v) := by
  obtain ⟨c1, c2, c3, c4, c5, c6, c7, c8⟩ := okP_cV h
  have hn : n ≤ 20 := h.1.2.2.1
  have uo : ∀ {p q : Nat}, p + q ≠ 1 + j → (fun i => s (p + i)) q = (fun i => upd s (1 + j) v (p + i)) q := fun e => (pk_un e).symm
  refine okP_of (by rw [pk_un (by omega)]; exact h.1.1) h.1.2.1 hn ⟨c1, c2, ?_⟩ (chE_tr (chE_se h.2) ⟨fun k hk => uo (by omega), fun k hk => ⟨uo (by omega), uo (by omega), uo (by omega)⟩, fun k hk => ?_⟩)
  · show 0 ≤ upd se j v 0 ∧ upd se j v 0 ≤ 20 ∧ 0 ≤ upd se j v 2 ∧ upd se j v 2 ≤ 20 ∧ 1 ≤ upd se j v 3 ∧ upd se j v 3 ≤ 999
    rcases (show j = 0 ∨ j = 1 ∨ j = 2 ∨ j = 3 by omega) with q | q | q | q <;> subst q
    · rw [pk_us, pk_un (by omega), pk_un (by omega)]
      exact ⟨hv.1, hv.2, c5, c6, c7, c8⟩
    · rw [pk_un (by omega), pk_un (by omega), pk_un (by omega)]
      exact ⟨c3, c4, c5, c6, c7, c8⟩
    · rw [pk_un (by omega), pk_us, pk_un (by omega)]
      exact ⟨c3, c4, hv.1, hv.2, c7, c8⟩
    · rw [pk_un (by omega), pk_un (by omega), pk_us]
      exact ⟨c3, c4, c5, c6, hv.1, hv.2⟩
  · show upd (mSE s) j v k = upd s (1 + j) v (1 + k)
    by_cases q : k = j
    · rw [upd_e q, upd_e (by omega)]
    · rw [pk_un q, pk_un (by omega)]; rfl
theorem P_turn (h : okP (n, st, we, ha, pr, se) s) : okP (n, negN (turnN st n) n, turnN we (n + 1), turnN ha (n + 1), turnN pr (n + 1), se) (mTurn s n) := by
  have hn : n ≤ 20 := h.1.2.2.1
  have tj : ∀ (f : Fn) (k : Nat), k ≤ n → turnN f (n + 1) k = f (n - k) := fun f k hk => by
    unfold turnN
    rw [if_pos (by omega)]
    congr 1
  refine ⟨mTurn_ok h.1, fun k hk => ?_, fun k hk => ?_, fun k hk => ?_⟩
  · show negN (turnN st n) n k = mST (mTurn s n) k
    have hk2 : k < n := hk
    rw [mTurn_st hn hk2]
    unfold negN turnN
    have e : st (n - 1 - k) = mST s (n - 1 - k) := h.2.1 (n - 1 - k) (by show n - 1 - k < n; omega)
    rw [if_pos hk2, if_pos hk2, e]
  · have hk2 : k ≤ n := hk
    obtain ⟨a1, a2, a3⟩ := h.2.2.1 (n - k) (by show n - k ≤ n; omega)
    refine ⟨?_, ?_, ?_⟩
    · show turnN we (n + 1) k = mWE (mTurn s n) k
      rw [mTurn_we hn hk2, tj we k hk2]
      exact a1
    · show turnN ha (n + 1) k = mHA (mTurn s n) k
      rw [mTurn_ha hn hk2, tj ha k hk2]
      exact a2
    · show turnN pr (n + 1) k = mPR (mTurn s n) k
      rw [mTurn_pr hn hk2, tj pr k hk2]
      exact a3
  · show se k = mSE (mTurn s n) k
    rw [mTurn_se hn hk]
    exact h.2.2.2 k hk
theorem noM_o {s : Fn} {j k : Nat} (h1 : k ≠ 25 + j) (h2 : k ≠ 46 + j) (h3 : k ≠ 67 + j) : noM s j k = s k := by
  unfold noM
  rw [pk_un h3, pk_un h2, pk_un h1]
theorem noM_j {s : Fn} {j k : Nat} (h : k = 25 + j ∨ k = 46 + j ∨ k = 67 + j) : noM s j k = 0 := by
  unfold noM
  rcases h with h | h | h
  · rw [pk_un (by omega), pk_un (by omega), upd_e h]
  · rw [pk_un (by omega), upd_e h]
  · rw [upd_e h]
theorem mLink_o {k : Nat} (h0 : k ≠ 0) (h1 : k ≠ 5 + n) (h2 : k ≠ 25 + (n + 1)) (h3 : k ≠ 46 + (n + 1)) (h4 : k ≠ 67 + (n + 1)) : mLink s n v k = s k := by
  unfold mLink
  rw [noM_o h2 h3 h4, pk_un h0, pk_un h1]
theorem P_link (h : okP (n, st, we, ha, pr, se) s) (hn : n < 20) (hv : -2 ≤ v ∧ v ≤ 2) : okP (n + 1, upd st n v, upd we (n + 1) 0, upd ha (n + 1) 0, upd pr (n + 1) 0, se) (mLink s n v) := by
  obtain ⟨c1, c2, c3⟩ := okP_cV h
  obtain ⟨q1, q2, q3⟩ := h.2
  have z : r99 0 := ⟨by decide, by decide⟩
  refine okP_of ?_ (by show 1 ≤ n + 1; omega) (by show n + 1 ≤ 20; omega) ⟨fun k hk => ?_, fun k hk => ?_, c3⟩ ⟨fun k hk => ?_, fun k hk => ?_, fun k hk => ?_⟩
  · show mLink s n v 0 = nI (n + 1)
    unfold mLink
    rw [noM_o (by omega) (by omega) (by omega), pk_us]
  · show -2 ≤ upd st n v k ∧ upd st n v k ≤ 2
    have hk2 : k < n + 1 := hk
    by_cases q : k = n
    · rw [upd_e q]; exact hv
    · rw [pk_un q]; exact c1 k (by show k < n; omega)
  · show r99 (upd we (n + 1) 0 k) ∧ r99 (upd ha (n + 1) 0 k) ∧ r99 (upd pr (n + 1) 0 k)
    have hk2 : k ≤ n + 1 := hk
    by_cases q : k = n + 1
    · rw [upd_e q, upd_e q, upd_e q]; exact ⟨z, z, z⟩
    · rw [pk_un q, pk_un q, pk_un q]; exact c2 k (by show k ≤ n; omega)
  · show upd st n v k = mLink s n v (5 + k)
    have hk2 : k < n + 1 := hk
    by_cases q : k = n
    · subst q
      unfold mLink
      rw [pk_us, noM_o (by omega) (by omega) (by omega), pk_un (by omega), pk_us]
    · rw [pk_un q, mLink_o (by omega) (by omega) (by omega) (by omega) (by omega)]
      exact q1 k (by show k < n; omega)
  · show upd we (n + 1) 0 k = mLink s n v (25 + k) ∧ upd ha (n + 1) 0 k = mLink s n v (46 + k) ∧ upd pr (n + 1) 0 k = mLink s n v (67 + k)
    have hk2 : k ≤ n + 1 := hk
    by_cases q : k = n + 1
    · subst q
      unfold mLink
      rw [pk_us, pk_us, pk_us, noM_j (Or.inl rfl), noM_j (Or.inr (Or.inl rfl)), noM_j (Or.inr (Or.inr rfl))]
      exact ⟨rfl, rfl, rfl⟩
    · rw [pk_un q, pk_un q, pk_un q, mLink_o (by omega) (by omega) (by omega) (by omega) (by omega), mLink_o (by omega) (by omega) (by omega) (by omega) (by omega), mLink_o (by omega) (by omega) (by omega) (by omega) (by omega)]
      exact q2 k (by show k ≤ n; omega)
  · show se k = mLink s n v (1 + k)
    rw [mLink_o (by omega) (by omega) (by omega) (by omega) (by omega)]
    exact q3 k hk
theorem outN_l {m k q : Nat} {f : Fn} (h : q < k) : outN m f k q = f q := if_pos h
theorem outN_r {m k q : Nat} {f : Fn} (h : k ≤ q) (h2 : q + 1 < m) : outN m f k q = f (q + 1) := by
  unfold outN
  rw [if_neg (by omega), rdN_in h2]
theorem mCut_t {k p : Nat} (h0 : p ≠ 0) (h : (5 + k ≤ p ∧ p < 5 + (n - 1)) ∨ (26 + k ≤ p ∧ p < 26 + (n - 1)) ∨ (47 + k ≤ p ∧ p < 47 + (n - 1)) ∨ (68 + k ≤ p ∧ p < 68 + (n - 1))) : mCut s n k p = s (p + 1) := by
  unfold mCut cutI
  rw [pk_un h0, if_pos h]
theorem mCut_f {k p : Nat} (h0 : p ≠ 0) (h : ¬ ((5 + k ≤ p ∧ p < 5 + (n - 1)) ∨ (26 + k ≤ p ∧ p < 26 + (n - 1)) ∨ (47 + k ≤ p ∧ p < 47 + (n - 1)) ∨ (68 + k ≤ p ∧ p < 68 + (n - 1)))) : mCut s n k p = s p := by
  unfold mCut cutI
  rw [pk_un h0, if_neg h]
theorem P_cut (h : okP (n, st, we, ha, pr, se) s) (hj : j < n) (h1 : 1 < n) : okP (n - 1, outN 20 st j, outN 21 we (j + 1), outN 21 ha (j + 1), outN 21 pr (j + 1), se) (mCut s n j) := by
  obtain ⟨c1, c2, c3⟩ := okP_cV h
  obtain ⟨q1, q2, q3⟩ := h.2
  have hn : n ≤ 20 := h.1.2.2.1
  refine okP_of ?_ (by show 1 ≤ n - 1; omega) (by show n - 1 ≤ 20; omega) ⟨fun k hk => ?_, fun k hk => ?_, c3⟩ ⟨fun k hk => ?_, fun k hk => ?_, fun k hk => ?_⟩
  · show mCut s n j 0 = nI (n - 1)
    unfold mCut
    rw [pk_us]
  · show -2 ≤ outN 20 st j k ∧ outN 20 st j k ≤ 2
    have hk2 : k < n - 1 := hk
    rcases Nat.lt_or_ge k j with q | q
    · rw [outN_l q]; exact c1 k (by show k < n; omega)
    · rw [outN_r q (by omega)]; exact c1 (k + 1) (by show k + 1 < n; omega)
  · show r99 (outN 21 we (j + 1) k) ∧ r99 (outN 21 ha (j + 1) k) ∧ r99 (outN 21 pr (j + 1) k)
    have hk2 : k ≤ n - 1 := hk
    rcases Nat.lt_or_ge k (j + 1) with q | q
    · rw [outN_l q, outN_l q, outN_l q]; exact c2 k (by show k ≤ n; omega)
    · rw [outN_r q (by omega), outN_r q (by omega), outN_r q (by omega)]; exact c2 (k + 1) (by show k + 1 ≤ n; omega)
  · show outN 20 st j k = mCut s n j (5 + k)
    have hk2 : k < n - 1 := hk
    rcases Nat.lt_or_ge k j with q | q
    · rw [outN_l q, mCut_f (by omega) (by omega)]; exact q1 k (by show k < n; omega)
    · rw [outN_r q (by omega), mCut_t (by omega) (by omega)]; exact q1 (k + 1) (by show k + 1 < n; omega)
  · show outN 21 we (j + 1) k = mCut s n j (25 + k) ∧ outN 21 ha (j + 1) k = mCut s n j (46 + k) ∧ outN 21 pr (j + 1) k = mCut s n j (67 + k)
    have hk2 : k ≤ n - 1 := hk
    rcases Nat.lt_or_ge k (j + 1) with q | q
    · rw [outN_l q, outN_l q, outN_l q, mCut_f (by omega) (by omega), mCut_f (by omega) (by omega), mCut_f (by omega) (by omega)]; exact q2 k (by show k ≤ n; omega)
    · rw [outN_r q (by omega), outN_r q (by omega), outN_r q (by omega), mCut_t (by omega) (by omega), mCut_t (by omega) (by omega), mCut_t (by omega) (by omega)]; exact q2 (k + 1) (by show k + 1 ≤ n; omega)
  · show se k = mCut s n j (1 + k)
    have hk2 : k < 4 := hk
    rw [mCut_f (by omega) (by omega)]
    exact q3 k hk
end PRS
/-- the saved chains -/
def okV (sv : Nat → CV) (old kp : Nat) (svm : Fn) (sm : Nat) : Prop := old < 6 ∧ kp ≤ 6 ∧ sm = kp ∧ ∀ i, i < kp → okP (sv ((old + i) % 6)) (mGet svm i)
theorem mGet_put {g s : Fn} {m i : Nat} : (i = m → ∀ k, k < 88 → mGet (mPutI g m s 88) i k = s k) ∧ (i ≠ m → ∀ k, k < 88 → mGet (mPutI g m s 88) i k = mGet g i k) := by
  refine ⟨fun e k hk => ?_, fun e k hk => ?_⟩
  · subst e
    show (if 88 * i ≤ 88 * i + k ∧ 88 * i + k < 88 * i + 88 then s (88 * i + k - 88 * i) else g (88 * i + k)) = s k
    rw [if_pos (by omega)]
    congr 1
    omega
  · show (if 88 * m ≤ 88 * i + k ∧ 88 * i + k < 88 * m + 88 then s (88 * i + k - 88 * m) else g (88 * i + k)) = g (88 * i + k)
    rw [if_neg (by omega)]
theorem V_save {sv : Nat → CV} {old kp sm : Nat} {svm s : Fn} {c : CV} (h : okV sv old kp svm sm) (hc : okP c s) : okV (upC sv (pj (pOld old kp) (pKp kp)) c) (pOld old kp) (pKp kp) (mSV svm sm s) (mSM sm) := by
  obtain ⟨h1, h2, h3, h4⟩ := h
  subst h3
  rcases Nat.lt_or_ge sm 6 with q | q
  · have e1 : pOld old sm = old := if_pos q
    have e2 : pKp sm = sm + 1 := if_pos q
    have e3 : mSM sm = sm + 1 := if_neg (by omega)
    have e4 : mSV svm sm s = mPutI svm sm s 88 := if_neg (by omega)
    rw [e1, e2, e3, e4]
    refine ⟨h1, by omega, rfl, fun i hi => ?_⟩
    unfold pj upC
    by_cases e : i = sm
    · rw [if_pos (by rw [e]; congr 1)]
      exact okP_cong hc (fun k hk => (mGet_put.1 e k hk).symm)
    · rw [if_neg (by omega)]
      exact okP_cong (h4 i (by omega)) (fun k hk => (mGet_put.2 e k hk).symm)
  · have e0 : sm = 6 := by omega
    subst e0
    have e1 : pOld old 6 = (old + 1) % 6 := if_neg (by omega)
    have e2 : pKp 6 = 6 := if_neg (by omega)
    have e3 : mSM 6 = 6 := if_pos rfl
    have e4 : mSV svm 6 s = mPutI (tilN (mS88 svm) svm 440) 5 s 88 := if_pos rfl
    rw [e1, e2, e3, e4]
    refine ⟨Nat.mod_lt _ (by decide), by omega, rfl, fun i hi => ?_⟩
    unfold pj upC
    by_cases e : i = 5
    · rw [if_pos (by omega)]
      exact okP_cong hc (fun k hk => (mGet_put.1 e k hk).symm)
    · rw [if_neg (by omega)]
      have g := h4 (i + 1) (by omega)
      rw [show ((old + 1) % 6 + i) % 6 = (old + (i + 1)) % 6 by omega]
      refine okP_cong g (fun k hk => ?_)
      rw [mGet_put.2 e k hk]
      show svm (88 * (i + 1) + k) = (if 88 * i + k < 440 then svm (88 + (88 * i + k)) else svm (88 * i + k))
      rw [if_pos (by omega)]
      congr 1
      omega
theorem V_undo {sv : Nat → CV} {old kp sm : Nat} {svm s : Fn} (h : okV sv old kp svm sm) (hk : 1 ≤ kp) : okP (sv (pj old kp)) (tilN (mGet svm (sm - 1)) s 88) ∧ okV sv old (kp - 1) svm (sm - 1) := by
  obtain ⟨h1, h2, h3, h4⟩ := h
  subst h3
  refine ⟨?_, h1, by omega, rfl, fun i hi => h4 i (by omega)⟩
  have g := h4 (sm - 1) (by omega)
  unfold pj
  rw [show old + sm - 1 = old + (sm - 1) by omega]
  exact okP_cong g (fun k hk => (tilN_lt hk).symm)
/-- the texts -/
def okT (ln : Nat) (tx : Fn) (ln2 : Nat) (tx2 : Fn) : Prop := ln2 = ln ∧ ln ≤ 60 ∧ ∀ k, k < ln → tx k = tx2 k
theorem rdS_c {f g : Fn} : ∀ i, (∀ k, k < i → f k = g k) → rdS f i = rdS g i := by
  intro i
  induction i with
  | zero => intro _; rfl
  | succ i ih =>
    intro h
    show (tkA (f i) (rdS f i)).2 = (tkA (g i) (rdS g i)).2
    rw [ih (fun k hk => h k (by omega)), h i (Nat.lt_succ_self i)]
theorem rdK_c {f g : Fn} {ln k : Nat} (h : ∀ k, k < ln → f k = g k) (hk : rdK f ln k) : rdK g ln k := by
  obtain ⟨h1, h2, h3⟩ := hk
  refine ⟨h1, fun j hj => ?_, fun hl => ?_⟩
  · rw [← h j (by omega), ← rdS_c j (fun i hi => h i (by omega))]
    exact h2 j hj
  · rw [← h k hl, ← rdS_c k (fun i hi => h i (by omega))]
    exact h3 hl
theorem pG_c {f g : Fn} {ln : Nat} (h : ∀ k, k < ln → f k = g k) (hG : pG f ln) : pG g ln := ⟨rdK_c h hG.1, by rw [← rdS_c ln h]; exact hG.2⟩
