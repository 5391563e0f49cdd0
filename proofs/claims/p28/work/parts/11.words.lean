/-! HangingChainModel (X6): its moves, case by case. Laid by wip/whole/gen.py, m11.py. -/
def noM (s : Fn) (j : Nat) : Fn := upd (upd (upd s (25 + j) 0) (46 + j) 0) (67 + j) 0
theorem noM_0 (s : Fn) (j : Nat) : noM s j 0 = s 0 := by
  unfold noM
  rw [pk_un (by omega), pk_un (by omega), pk_un (by omega)]
def mLink (s : Fn) (n : Nat) (v : Int32) : Fn := noM (upd (upd s (5 + n) v) 0 (nI (n + 1))) (n + 1)
/-- what is behind the link k has come up, as far as the place i -/
def cutI (s : Fn) (k i : Nat) : Fn := fun j => if (5 + k ≤ j ∧ j < 5 + i) ∨ (26 + k ≤ j ∧ j < 26 + i) ∨ (47 + k ≤ j ∧ j < 47 + i) ∨ (68 + k ≤ j ∧ j < 68 + i) then s (j + 1) else s j
theorem cutI_0 (s : Fn) (k : Nat) : cutI s k k = s := by
  funext j
  unfold cutI
  rw [if_neg (by omega)]
theorem cutI_z (s : Fn) (k i : Nat) : cutI s k i 0 = s 0 := by
  unfold cutI
  rw [if_neg (by omega)]
theorem cutI_at {s : Fn} {k i : Nat} (j : Nat) (h : j = 5 + i + 1 ∨ j = 25 + i + 2 ∨ j = 46 + i + 2 ∨ j = 67 + i + 2) (hi : i < 19) : cutI s k i j = s j := by
  unfold cutI
  rw [if_neg (by omega)]
theorem cutI_S {s : Fn} {k i : Nat} (hk : k ≤ i) (hi : i < 19) : upd (upd (upd (upd (cutI s k i) (5 + i) ((cutI s k i) (5 + i + 1))) (25 + i + 1) ((upd (cutI s k i) (5 + i) ((cutI s k i) (5 + i + 1))) (25 + i + 2))) (46 + i + 1) ((upd (upd (cutI s k i) (5 + i) ((cutI s k i) (5 + i + 1))) (25 + i + 1) ((upd (cutI s k i) (5 + i) ((cutI s k i) (5 + i + 1))) (25 + i + 2))) (46 + i + 2))) (67 + i + 1) ((upd (upd (upd (cutI s k i) (5 + i) ((cutI s k i) (5 + i + 1))) (25 + i + 1) ((upd (cutI s k i) (5 + i) ((cutI s k i) (5 + i + 1))) (25 + i + 2))) (46 + i + 1) ((upd (upd (cutI s k i) (5 + i) ((cutI s k i) (5 + i + 1))) (25 + i + 1) ((upd (cutI s k i) (5 + i) ((cutI s k i) (5 + i + 1))) (25 + i + 2))) (46 + i + 2))) (67 + i + 2)) = cutI s k (i + 1) := by
  have e1 : cutI s k i (5 + i + 1) = s (5 + i + 1) := cutI_at _ (by omega) hi
  have e2 : (upd (cutI s k i) (5 + i) (s (5 + i + 1))) (25 + i + 2) = s (25 + i + 2) := by rw [pk_un (by omega)]; exact cutI_at _ (by omega) hi
  have e3 : (upd (upd (cutI s k i) (5 + i) (s (5 + i + 1))) (25 + i + 1) (s (25 + i + 2))) (46 + i + 2) = s (46 + i + 2) := by rw [pk_un (by omega), pk_un (by omega)]; exact cutI_at _ (by omega) hi
  have e4 : (upd (upd (upd (cutI s k i) (5 + i) (s (5 + i + 1))) (25 + i + 1) (s (25 + i + 2))) (46 + i + 1) (s (46 + i + 2))) (67 + i + 2) = s (67 + i + 2) := by rw [pk_un (by omega), pk_un (by omega), pk_un (by omega)]; exact cutI_at _ (by omega) hi
  rw [e1, e2, e3, e4]
  funext j
  by_cases h4 : j = 67 + i + 1
  · subst h4
    rw [pk_us]
    unfold cutI
    rw [if_pos (by omega)]
  rw [pk_un h4]
  by_cases h3 : j = 46 + i + 1
  · subst h3
    rw [pk_us]
    unfold cutI
    rw [if_pos (by omega)]
  rw [pk_un h3]
  by_cases h2 : j = 25 + i + 1
  · subst h2
    rw [pk_us]
    unfold cutI
    rw [if_pos (by omega)]
  rw [pk_un h2]
  by_cases h1 : j = 5 + i
  · subst h1
    rw [pk_us]
    unfold cutI
    rw [if_pos (by omega)]
  rw [pk_un h1]
  unfold cutI
  by_cases h : (5 + k ≤ j ∧ j < 5 + i) ∨ (26 + k ≤ j ∧ j < 26 + i) ∨ (47 + k ≤ j ∧ j < 47 + i) ∨ (68 + k ≤ j ∧ j < 68 + i)
  · rw [if_pos h, if_pos (by omega)]
  · rw [if_neg h, if_neg (by omega)]
def mCut (s : Fn) (n k : Nat) : Fn := upd (cutI s k (n - 1)) 0 (nI (n - 1))
def exch (s : Fn) (a b : Nat) : Fn := upd (upd s a (s b)) b (s a)
/-- a stretch of len from lo on, turned round as far as i from both ends -/
def revI (f : Fn) (lo len i : Nat) : Fn := fun j => if lo ≤ j ∧ j < lo + len ∧ (j < lo + i ∨ lo + len ≤ j + i) then f (lo + (lo + len - 1 - j)) else f j
theorem revI_0 (f : Fn) (lo len : Nat) : revI f lo len 0 = f := by
  funext j
  unfold revI
  rw [if_neg (by omega)]
theorem revI_S {f : Fn} {lo len i a b : Nat} (ha : a = lo + i) (hb : b + i + 1 = lo + len) (hab : a ≤ b) : exch (revI f lo len i) a b = revI f lo len (i + 1) := by
  subst ha
  have ea : revI f lo len i (lo + i) = f (lo + i) := by
    unfold revI
    by_cases q : lo ≤ lo + i ∧ lo + i < lo + len ∧ (lo + i < lo + i ∨ lo + len ≤ lo + i + i)
    · rw [if_pos q]
      congr 1
      omega
    · rw [if_neg q]
  have eb : revI f lo len i b = f b := by
    unfold revI
    by_cases q : lo ≤ b ∧ b < lo + len ∧ (b < lo + i ∨ lo + len ≤ b + i)
    · rw [if_pos q]
      congr 1
      omega
    · rw [if_neg q]
  unfold exch
  rw [ea, eb]
  funext j
  by_cases h1 : j = b
  · subst h1
    rw [pk_us]
    unfold revI
    rw [if_pos (by omega)]
    congr 1
    omega
  rw [pk_un h1]
  by_cases h2 : j = lo + i
  · subst h2
    rw [pk_us]
    unfold revI
    rw [if_pos (by omega)]
    congr 1
    omega
  rw [pk_un h2]
  unfold revI
  by_cases h : lo ≤ j ∧ j < lo + len ∧ (j < lo + i ∨ lo + len ≤ j + i)
  · rw [if_pos h, if_pos (by omega)]
  · rw [if_neg h, if_neg (by omega)]
theorem revI_S' {f : Fn} {n i : Nat} (hi : i < n / 2) (_ : n ≤ 20) : exch (revI f 5 n i) (5 + i) (5 + n - 1 - i) = revI f 5 n (i + 1) := revI_S rfl (by omega) (by omega)
def ngI (f : Fn) (lo i : Nat) : Fn := fun j => if lo ≤ j ∧ j < lo + i then -(f j) else f j
theorem ngI_0 (f : Fn) (lo : Nat) : ngI f lo 0 = f := by
  funext j
  unfold ngI
  rw [if_neg (by omega)]
theorem ngI_S (f : Fn) (lo i : Nat) : upd (ngI f lo i) (lo + i) (-(ngI f lo i (lo + i))) = ngI f lo (i + 1) := by
  have e : ngI f lo i (lo + i) = f (lo + i) := by
    unfold ngI
    rw [if_neg (by omega)]
  rw [e]
  funext j
  by_cases h : j = lo + i
  · subst h
    rw [pk_us]
    unfold ngI
    rw [if_pos (by omega)]
  · rw [pk_un h]
    unfold ngI
    by_cases h2 : lo ≤ j ∧ j < lo + i
    · rw [if_pos h2, if_pos (by omega)]
    · rw [if_neg h2, if_neg (by omega)]
/-- stretches that lie apart are turned each by itself -/
theorem exch_rev {f : Fn} {lo len i a b : Nat} (h : (a < lo ∨ lo + len ≤ a) ∧ (b < lo ∨ lo + len ≤ b)) : exch (revI f lo len i) a b = revI (exch f a b) lo len i := by
  have ea : revI f lo len i a = f a := by
    unfold revI
    rw [if_neg (by omega)]
  have eb : revI f lo len i b = f b := by
    unfold revI
    rw [if_neg (by omega)]
  unfold exch
  rw [ea, eb]
  funext j
  by_cases h1 : j = b
  · subst h1
    rw [pk_us]
    unfold revI
    rw [if_neg (by omega), pk_us]
  rw [pk_un h1]
  by_cases h2 : j = a
  · subst h2
    rw [pk_us]
    unfold revI
    rw [if_neg (by omega), pk_un h1, pk_us]
  rw [pk_un h2]
  unfold revI
  by_cases q : lo ≤ j ∧ j < lo + len ∧ (j < lo + i ∨ lo + len ≤ j + i)
  · rw [if_pos q, if_pos q, pk_un (by omega), pk_un (by omega)]
  · rw [if_neg q, if_neg q, pk_un h1, pk_un h2]
theorem turn3_S {f : Fn} {n i : Nat} (hi : i < (n + 1) / 2) (hn : n ≤ 20) : exch (exch (exch (revI (revI (revI f 25 (n + 1) i) 46 (n + 1) i) 67 (n + 1) i) (25 + i) (25 + n - i)) (46 + i) (46 + n - i)) (67 + i) (67 + n - i) = revI (revI (revI f 25 (n + 1) (i + 1)) 46 (n + 1) (i + 1)) 67 (n + 1) (i + 1) := by
  rw [exch_rev (lo := 67) (by omega), exch_rev (lo := 46) (by omega), revI_S (a := 25 + i) (b := 25 + n - i) rfl (by omega) (by omega)]
  rw [exch_rev (lo := 67) (by omega), revI_S (a := 46 + i) (b := 46 + n - i) rfl (by omega) (by omega)]
  rw [revI_S (a := 67 + i) (b := 67 + n - i) rfl (by omega) (by omega)]
def mTurn (s : Fn) (n : Nat) : Fn := revI (revI (revI (ngI (revI s 5 n (n / 2)) 5 n) 25 (n + 1) ((n + 1) / 2)) 46 (n + 1) ((n + 1) / 2)) 67 (n + 1) ((n + 1) / 2)
theorem revI_at {f : Fn} {lo len i j : Nat} (hj : j < len) (hi : len ≤ 2 * i + 1) : revI f lo len i (lo + j) = f (lo + (len - 1 - j)) := by
  unfold revI
  by_cases q : lo ≤ lo + j ∧ lo + j < lo + len ∧ (lo + j < lo + i ∨ lo + len ≤ lo + j + i)
  · rw [if_pos q]
    congr 1
    omega
  · rw [if_neg q]
    congr 1
    omega
theorem revI_out {f : Fn} {lo len i j : Nat} (hj : j < lo ∨ lo + len ≤ j) : revI f lo len i j = f j := by
  unfold revI
  rw [if_neg (by omega)]
theorem mTurn_0 {s : Fn} {n : Nat} (hn : n ≤ 20) : mTurn s n 0 = s 0 := by
  unfold mTurn
  rw [revI_out (by omega), revI_out (by omega), revI_out (by omega)]
  unfold ngI
  rw [if_neg (by omega), revI_out (by omega)]
theorem mTurn_se {s : Fn} {n k : Nat} (hn : n ≤ 20) (hk : k < 4) : mSE (mTurn s n) k = mSE s k := by
  unfold mSE mTurn
  rw [revI_out (by omega), revI_out (by omega), revI_out (by omega)]
  unfold ngI
  rw [if_neg (by omega), revI_out (by omega)]
theorem mTurn_st {s : Fn} {n k : Nat} (hn : n ≤ 20) (hk : k < n) : mST (mTurn s n) k = -(mST s (n - 1 - k)) := by
  unfold mST mTurn
  rw [revI_out (by omega), revI_out (by omega), revI_out (by omega)]
  unfold ngI
  rw [if_pos (by omega), revI_at hk (by omega)]
theorem mTurn_we {s : Fn} {n k : Nat} (hn : n ≤ 20) (hk : k ≤ n) : mWE (mTurn s n) k = mWE s (n - k) := by
  unfold mWE mTurn
  rw [revI_out (by omega), revI_out (by omega), revI_at (by omega) (by omega)]
  unfold ngI
  rw [if_neg (by omega), revI_out (by omega)]
  congr 1
theorem mTurn_ha {s : Fn} {n k : Nat} (hn : n ≤ 20) (hk : k ≤ n) : mHA (mTurn s n) k = mHA s (n - k) := by
  unfold mHA mTurn
  rw [revI_out (by omega), revI_at (by omega) (by omega), revI_out (by omega)]
  unfold ngI
  rw [if_neg (by omega), revI_out (by omega)]
  congr 1
theorem mTurn_pr {s : Fn} {n k : Nat} (hn : n ≤ 20) (hk : k ≤ n) : mPR (mTurn s n) k = mPR s (n - k) := by
  unfold mPR mTurn
  rw [revI_at (by omega) (by omega), revI_out (by omega), revI_out (by omega)]
  unfold ngI
  rw [if_neg (by omega), revI_out (by omega)]
  congr 1
theorem neg_r2 {x : Int32} (h : -2 ≤ x ∧ x ≤ 2) : -2 ≤ -x ∧ -x ≤ 2 := by
  have h1 := Int32.le_iff_toInt_le.mp h.1
  have h2 := Int32.le_iff_toInt_le.mp h.2
  rw [show (-2 : Int32).toInt = -2 from rfl] at h1
  rw [show (2 : Int32).toInt = 2 from rfl] at h2
  obtain ⟨z, hz⟩ : ∃ z : Int, z = x.toInt := ⟨_, rfl⟩
  have hx : x = Int32.ofInt z := by rw [hz, Int32.ofInt_toInt]
  rcases (show z = -2 ∨ z = -1 ∨ z = 0 ∨ z = 1 ∨ z = 2 by omega) with q | q | q | q | q <;> rw [q] at hx <;> subst hx <;> decide
theorem mTurn_ok {s : Fn} {n : Nat} (h : mOK s n) : mOK (mTurn s n) n := by
  obtain ⟨h0, h1, h2, hv⟩ := h
  refine ⟨(mTurn_0 h2).trans h0, h1, h2, fun k hk => ?_, fun k hk => ?_, ?_⟩
  · rw [mTurn_st h2 hk]
    exact neg_r2 (hv.1 _ (by omega))
  · rw [mTurn_we h2 hk, mTurn_ha h2 hk, mTurn_pr h2 hk]
    exact hv.2.1 _ (by omega)
  · rw [mTurn_se h2 (by omega), mTurn_se h2 (by omega), mTurn_se h2 (by omega)]
    exact hv.2.2
def mMov (s : Fn) (j t : Nat) : Fn := upd (upd s (25 + j) (s (25 + j) - mvBy (mWE s) j t)) (25 + t) ((upd s (25 + j) (s (25 + j) - mvBy (mWE s) j t)) (25 + t) + mvBy (mWE s) j t)
theorem mvBy_l {s : Fn} {j t : Nat} (h : ¬ 99 - s (25 + t) ≤ s (25 + j)) : s (25 + j) = mvBy (mWE s) j t := (show mvBy (mWE s) j t = mWE s j from if_neg (show ¬ 99 - mWE s t < mWE s j from fun q => h (Int32.le_of_lt q))).symm
theorem mvBy_r {s : Fn} {j t : Nat} (h : 99 - s (25 + t) ≤ s (25 + j)) : 99 - s (25 + t) = mvBy (mWE s) j t := by
  show 99 - mWE s t = if 99 - mWE s t < mWE s j then 99 - mWE s t else mWE s j
  by_cases q : 99 - mWE s t < mWE s j
  · rw [if_pos q]
  · rw [if_neg q]
    exact Int32.le_antisymm h (Int32.not_lt.mp q)
def sLow (k : Int32) : Int32 := if k = 1 then -40 else if k = 3 then 1 else 0
def sHigh (k : Int32) : Int32 := if k = 1 then 40 else if k = 3 then 999 else 20
theorem in4 (k : Int32) : decide (0 ≤ k ∧ k ≤ 3) = isN k 4 := in_isN k (n := 3) (by omega)
theorem in4_t {k : Int32} (h : isN k 4 = true) : bI (decide (0 ≤ k ∧ k ≤ 3)) = nI 1 := by rw [in4, h]; rfl
theorem in4_f {k : Int32} (h : isN k 4 = false) : bI (decide (0 ≤ k ∧ k ≤ 3)) = nI 0 := by rw [in4, h]; rfl
/-- the saved row m -/
def mGet (sv : Fn) (m : Nat) : Fn := fun j => sv (88 * m + j)
