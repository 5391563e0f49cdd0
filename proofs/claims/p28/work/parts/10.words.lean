/-! HangingChainModel (X6), the reference: its row of numbers read as a chain's; its contracts. Laid by wip/whole/gen.py, m10.py. -/
def mST (s : Fn) : Fn := fun k => s (5 + k)
def mWE (s : Fn) : Fn := fun k => s (25 + k)
def mHA (s : Fn) : Fn := fun k => s (46 + k)
def mPR (s : Fn) : Fn := fun k => s (67 + k)
def mSE (s : Fn) : Fn := fun k => s (1 + k)
/-- 0 to 99 -/
def r99 (x : Int32) : Prop := 0 ≤ x ∧ x ≤ 99
/-- a chain's numbers are in their ranges -/
def cV (n : Nat) (st we ha pr se : Fn) : Prop := (∀ k, k < n → -2 ≤ st k ∧ st k ≤ 2) ∧ (∀ k, k ≤ n → r99 (we k) ∧ r99 (ha k) ∧ r99 (pr k)) ∧ 0 ≤ se 0 ∧ se 0 ≤ 20 ∧ 0 ≤ se 2 ∧ se 2 ≤ 20 ∧ 1 ≤ se 3 ∧ se 3 ≤ 999
def mOK (s : Fn) (n : Nat) : Prop := s 0 = nI n ∧ 1 ≤ n ∧ n ≤ 20 ∧ cV n (mST s) (mWE s) (mHA s) (mPR s) (mSE s)
/-- k is a number of n things -/
def isN (k : Int32) (n : Nat) : Bool := decide (0 ≤ k.toInt ∧ k.toInt < n)
theorem isN_t {k : Int32} {n : Nat} (hn : n < 2 ^ 31) (h : isN k n = true) : ∃ j : Nat, j < n ∧ k = nI j := by
  have h1 := of_decide_eq_true h
  exact vp_in_of (vp_in_iff.mpr h1) hn
theorem isN_nI {j n : Nat} (hj : j < 2 ^ 31) : isN (nI j) n = decide (j < n) := by
  unfold isN
  rw [nI_toInt hj]
  apply decide_eq_decide.mpr
  omega
theorem in_isN (k : Int32) {n : Nat} (hn : n < 2 ^ 30) : decide (0 ≤ k ∧ k ≤ nI n) = isN k (n + 1) := by
  unfold isN
  apply decide_eq_decide.mpr
  rw [Int32.le_iff_toInt_le, Int32.le_iff_toInt_le, nI_toInt (by omega), Int32.toInt_zero]
  omega
theorem isJoint_ok {k : Int32} {n : Nat} (hn : n ≤ 20) : bI (decide (0 ≤ k ∧ k ≤ nI n)) = bI (isN k (n + 1)) := by rw [in_isN k (by omega)]
theorem isLink_ok {k : Int32} {n : Nat} (hn1 : 1 ≤ n) (hn : n ≤ 20) : bI (decide (0 ≤ k ∧ k ≤ nI (n - 1))) = bI (isN k n) := by
  rw [in_isN k (by omega), Nat.sub_add_cancel hn1]
def mS88 (sv : Fn) : Fn := fun j => sv (88 + j)
theorem mS88_rd (sv : Fn) (i : Nat) : tilN (mS88 sv) sv i (88 + i) = mS88 sv i := if_neg (by omega)
def mPutI (g : Fn) (m : Nat) (s : Fn) (i : Nat) : Fn := fun j => if 88 * m ≤ j ∧ j < 88 * m + i then s (j - 88 * m) else g j
theorem mPutI_0 (g : Fn) (m : Nat) (s : Fn) : mPutI g m s 0 = g := by
  funext j
  unfold mPutI
  rw [if_neg (by omega)]
theorem mPutI_S (g : Fn) (m : Nat) (s : Fn) (i : Nat) : upd (mPutI g m s i) (88 * m + i) (s i) = mPutI g m s (i + 1) := by
  funext j
  unfold upd mPutI
  by_cases h : j = 88 * m + i
  · subst h
    rw [if_pos rfl, if_pos (by omega)]
    congr 1
    omega
  · rw [if_neg h]
    by_cases h2 : 88 * m ≤ j ∧ j < 88 * m + i
    · rw [if_pos h2, if_pos (by omega)]
    · rw [if_neg h2, if_neg (by omega)]
def mSM (sm : Nat) : Nat := if sm = 6 then 6 else sm + 1
def mSV (sv : Fn) (sm : Nat) (s : Fn) : Fn := if sm = 6 then mPutI (tilN (mS88 sv) sv 440) 5 s 88 else mPutI sv sm s 88
theorem mSV_of {sm mm : Nat} {g sv s : Fn} (h : (sm = 6 ∧ mm = 5 ∧ g = tilN (mS88 sv) sv 440) ∨ (sm ≠ 6 ∧ mm = sm ∧ g = sv)) : mPutI g mm s 88 = mSV sv sm s := by
  unfold mSV
  rcases h with ⟨h1, rfl, rfl⟩ | ⟨h1, rfl, rfl⟩
  · rw [if_pos h1]
  · rw [if_neg h1]
theorem mSM_of {sm mm : Nat} {g sv : Fn} (h : (sm = 6 ∧ mm = 5 ∧ g = tilN (mS88 sv) sv 440) ∨ (sm ≠ 6 ∧ mm = sm ∧ g = sv)) : nI (mm + 1) = nI (mSM sm) := by
  unfold mSM
  rcases h with ⟨h1, rfl, rfl⟩ | ⟨h1, rfl, rfl⟩
  · rw [if_pos h1]
  · rw [if_neg h1]
theorem mn_l {a b : Int32} (h : b ≤ a) : mn a b = b := by
  unfold mn
  by_cases q : b < a
  · rw [if_pos q]
  · rw [if_neg q]
    exact Int32.le_antisymm (Int32.not_lt.mp q) h
theorem mn_r {a b : Int32} (h : ¬ b ≤ a) : mn a b = a := if_neg (fun q => h (Int32.le_of_lt q))
theorem mx_l {a b : Int32} (h : b ≤ a) : mx a b = a := if_neg (Int32.not_lt.mpr h)
theorem mx_r {a b : Int32} (h : ¬ b ≤ a) : mx a b = b := if_pos (Int32.not_le.mp h)
theorem lay_ht {s ht : Fn} {i : Nat} (h : i ≠ 0) : tilN (sHT (mST s)) ht i (i - 1) + s (5 + i - 1) = sHT (mST s) i := by
  obtain ⟨j, rfl⟩ : ∃ j, i = j + 1 := ⟨i - 1, by omega⟩
  show _ = sHT (mST s) j + s (5 + j)
  rw [show j + 1 - 1 = j by omega, show 5 + (j + 1) - 1 = 5 + j by omega]
  congr 1
  exact if_pos (Nat.lt_succ_self j)
/-- the walls, as the reference adds them up: the joints 0 to i - 1 -/
def mBE (ld : Fn) (n : Nat) : Nat → Int32
  | 0 => 0
  | i + 1 => mBE ld n i + ld i * nI i / nI n
def mAH (ld : Fn) (n : Nat) : Nat → Int32
  | 0 => 0
  | i + 1 => mAH ld n i + (ld i - ld i * nI i / nI n)
theorem i32_0div (x : Int32) : (0 : Int32) / x = 0 := by
  apply Int32.toInt_inj.mp
  rw [Int32.toInt_div]
  simp
theorem mBE_w {ld : Fn} {n : Nat} (h0 : ld 0 = 0) : ∀ i, mBE ld n (i + 1) = wBE ld n i := by
  intro i
  induction i with
  | zero =>
    show 0 + ld 0 * nI 0 / nI n = 0
    rw [h0, Int32.zero_mul, i32_0div]
    rfl
  | succ i ih =>
    show mBE ld n (i + 1) + _ = wBE ld n i + _
    rw [ih]
theorem mAH_w {ld : Fn} {n : Nat} (h0 : ld 0 = 0) : ∀ i, mAH ld n (i + 1) = wAH ld n i := by
  intro i
  induction i with
  | zero =>
    show 0 + (ld 0 - ld 0 * nI 0 / nI n) = 0
    rw [h0, Int32.zero_mul, i32_0div]
    rfl
  | succ i ih =>
    show mAH ld n (i + 1) + _ = wAH ld n i + _
    rw [ih]
theorem mn_0 {b : Int32} (h : 0 ≤ b) : mn 0 b = 0 := if_neg (Int32.not_lt.mpr h)
theorem jLD_wall {n : Nat} {ht we ha pr se : Fn} {k : Nat} (hk : k = 0 ∨ k = n) (h1 : 0 ≤ ha k) (h2 : 0 ≤ pr k) : jLD n ht we ha pr se k = 0 := by
  have e1 : sBU n we se k = 0 := if_pos hk
  have e2 : sHG n we ha se k = 0 := by unfold sHG; rw [e1, mn_0 h1]
  have e3 : jPP n ht we ha pr se k = 0 := by
    unfold jPP
    rw [e1, e2]
    split
    · exact mn_0 h2
    · rfl
  unfold jLD
  rw [e1, e2, e3]
  rfl
theorem cLD_0 {n : Nat} {st we ha pr se : Fn} (h : cV n st we ha pr se) : cLD n st we ha pr se 0 = 0 := jLD_wall (Or.inl rfl) (h.2.1 0 (Nat.zero_le _)).2.1.1 (h.2.1 0 (Nat.zero_le _)).2.2.1
theorem cLD_n {n : Nat} {st we ha pr se : Fn} (h : cV n st we ha pr se) : cLD n st we ha pr se n = 0 := jLD_wall (Or.inr rfl) (h.2.1 n (Nat.le_refl _)).2.1.1 (h.2.1 n (Nat.le_refl _)).2.2.1
theorem mAH_of {s : Fn} {n : Nat} (h : mOK s n) : mAH (cLD n (mST s) (mWE s) (mHA s) (mPR s) (mSE s)) n (n + 1) = cAH n (mST s) (mWE s) (mHA s) (mPR s) (mSE s) := by
  obtain ⟨h0, h1, h2, hv⟩ := h
  obtain ⟨j, rfl⟩ : ∃ j, n = j + 1 := ⟨n - 1, by omega⟩
  rw [mAH_w (cLD_0 hv)]
  show wAH _ _ j + _ = wAH _ _ (j + 1 - 1)
  rw [cLD_n hv, Int32.zero_mul, i32_0div, show j + 1 - 1 = j by omega]
  show _ + 0 = _
  rw [Int32.add_zero]
theorem mBE_of {s : Fn} {n : Nat} (h : mOK s n) : mBE (cLD n (mST s) (mWE s) (mHA s) (mPR s) (mSE s)) n (n + 1) = cBE n (mST s) (mWE s) (mHA s) (mPR s) (mSE s) := by
  obtain ⟨h0, h1, h2, hv⟩ := h
  obtain ⟨j, rfl⟩ : ∃ j, n = j + 1 := ⟨n - 1, by omega⟩
  rw [mBE_w (cLD_0 hv)]
  show wBE _ _ j + _ = wBE _ _ (j + 1 - 1)
  rw [cLD_n hv, Int32.zero_mul, i32_0div, show j + 1 - 1 = j by omega, Int32.add_zero]
theorem okB_lay {n : Nat} {st we ha pr se ht bu hg pq ld fo LD : Fn} (h : LD = tilN (cLD n st we ha pr se) ld (n + 1)) : okB n st we ha pr se (tilN (sHT st) ht (n + 1)) (tilN (sBU n we se) bu (n + 1)) (tilN (sHG n we ha se) hg (n + 1)) (tilN (jPP n (sHT st) we ha pr se) pq (n + 1)) LD (tilN (sFO (cAH n st we ha pr se) LD st se) fo n) := by
  subst h
  exact ⟨tilN_in, tilN_in, tilN_in, tilN_in, tilN_in, fun k hk => by rw [tilN_lt hk]; exact sFO_c tilN_in k hk⟩
theorem jPP_t {n : Nat} {ht we ha pr se : Fn} {k : Nat} (h : ht k ≤ se 1) : jPP n ht we ha pr se k = mn (sBU n we se k - sHG n we ha se k) (pr k) := if_pos h
theorem jPP_f {n : Nat} {ht we ha pr se : Fn} {k : Nat} (h : ¬ ht k ≤ se 1) : jPP n ht we ha pr se k = 0 := if_neg h
theorem mPP_l {s ht : Fn} {n k : Nat} (h : ht k ≤ s 2) (h2 : s (67 + k) ≤ sBU n (mWE s) (mSE s) k - sHG n (mWE s) (mHA s) (mSE s) k) : s (67 + k) = jPP n ht (mWE s) (mHA s) (mPR s) (mSE s) k := by
  have e : jPP n ht (mWE s) (mHA s) (mPR s) (mSE s) k = mn (sBU n (mWE s) (mSE s) k - sHG n (mWE s) (mHA s) (mSE s) k) (mPR s k) := jPP_t (show ht k ≤ mSE s 1 from h)
  rw [e]
  exact (mn_l (show mPR s k ≤ _ from h2)).symm
theorem mPP_r {s ht : Fn} {n k : Nat} (h : ht k ≤ s 2) (h2 : ¬ s (67 + k) ≤ sBU n (mWE s) (mSE s) k - sHG n (mWE s) (mHA s) (mSE s) k) : sBU n (mWE s) (mSE s) k - sHG n (mWE s) (mHA s) (mSE s) k = jPP n ht (mWE s) (mHA s) (mPR s) (mSE s) k := by
  have e : jPP n ht (mWE s) (mHA s) (mPR s) (mSE s) k = mn (sBU n (mWE s) (mSE s) k - sHG n (mWE s) (mHA s) (mSE s) k) (mPR s k) := jPP_t (show ht k ≤ mSE s 1 from h)
  rw [e]
  exact (mn_r (show ¬ mPR s k ≤ _ from h2)).symm
theorem mPP_f {s ht : Fn} {n k : Nat} (h : ¬ ht k ≤ s 2) : 0 = jPP n ht (mWE s) (mHA s) (mPR s) (mSE s) k := (jPP_f (show ¬ ht k ≤ mSE s 1 from h)).symm
theorem mHG_l {s : Fn} {n k : Nat} (h : s (46 + k) ≤ sBU n (mWE s) (mSE s) k) : s (46 + k) = sHG n (mWE s) (mHA s) (mSE s) k := (mn_l (show mHA s k ≤ sBU n (mWE s) (mSE s) k from h)).symm
theorem mHG_r {s : Fn} {n k : Nat} (h : ¬ s (46 + k) ≤ sBU n (mWE s) (mSE s) k) : sBU n (mWE s) (mSE s) k = sHG n (mWE s) (mHA s) (mSE s) k := (mn_r (show ¬ mHA s k ≤ sBU n (mWE s) (mSE s) k from h)).symm
theorem mBU_t {s : Fn} {n k : Nat} (h : ¬ (k = 0 ∨ k = n)) : s (25 + k) + 2 * s 1 = sBU n (mWE s) (mSE s) k := (show sBU n (mWE s) (mSE s) k = mWE s k + 2 * mSE s 0 from if_neg h).symm
theorem mBU_f {s : Fn} {n k : Nat} (h : k = 0 ∨ k = n) : 0 = sBU n (mWE s) (mSE s) k := (show sBU n (mWE s) (mSE s) k = 0 from if_pos h).symm
