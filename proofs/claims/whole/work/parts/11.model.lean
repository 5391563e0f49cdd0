/-! HangingChainModel (X6): its moves, case by case. Laid by wip/whole/gen.py, m11.py. -/
def noM (s : Fn) (j : Nat) : Fn := upd (upd (upd s (25 + j) 0) (46 + j) 0) (67 + j) 0
theorem noM_0 (s : Fn) (j : Nat) : noM s j 0 = s 0 := by
  unfold noM
  rw [pk_un (by omega), pk_un (by omega), pk_un (by omega)]
def mLink (s : Fn) (n : Nat) (v : Int32) : Fn := noM (upd (upd s (5 + n) v) 0 (nI (n + 1))) (n + 1)
/-- what is behind the link k has come up, as far as the place i -/
def cutI (s : Fn) (k i : Nat) : Fn := fun j => if (5 + k ≤ j ∧ j < 5 + i) ∨ (26 + k ≤ j ∧ j < 26 + i) ∨ (47 + k ≤ j ∧ j < 47 + i) ∨ (68 + k ≤ j ∧ j < 68 + i) then s (j + 1) else s j
theorem cutI_0 (s : Fn) (k : Nat) : cutI s k k = s := by
  funext j
  unfold cutI
  rw [if_neg (by omega)]
theorem cutI_z (s : Fn) (k i : Nat) : cutI s k i 0 = s 0 := by
  unfold cutI
  rw [if_neg (by omega)]
theorem cutI_at {s : Fn} {k i : Nat} (j : Nat) (h : j = 5 + i + 1 ∨ j = 25 + i + 2 ∨ j = 46 + i + 2 ∨ j = 67 + i + 2) (hi : i < 19) : cutI s k i j = s j := by
  unfold cutI
  rw [if_neg (by omega)]
theorem cutI_S {s : Fn} {k i : Nat} (hk : k ≤ i) (hi : i < 19) : upd (upd (upd (upd (cutI s k i) (5 + i) ((cutI s k i) (5 + i + 1))) (25 + i + 1) ((upd (cutI s k i) (5 + i) ((cutI s k i) (5 + i + 1))) (25 + i + 2))) (46 + i + 1) ((upd (upd (cutI s k i) (5 + i) ((cutI s k i) (5 + i + 1))) (25 + i + 1) ((upd (cutI s k i) (5 + i) ((cutI s k i) (5 + i + 1))) (25 + i + 2))) (46 + i + 2))) (67 + i + 1) ((upd (upd (upd (cutI s k i) (5 + i) ((cutI s k i) (5 + i + 1))) (25 + i + 1) ((upd (cutI s k i) (5 + i) ((cutI s k i) (5 + i + 1))) (25 + i + 2))) (46 + i + 1) ((upd (upd (cutI s k i) (5 + i) ((cutI s k i) (5 + i + 1))) (25 + i + 1) ((upd (cutI s k i) (5 + i) ((cutI s k i) (5 + i + 1))) (25 + i + 2))) (46 + i + 2))) (67 + i + 2)) = cutI s k (i + 1) := by
  have e1 : cutI s k i (5 + i + 1) = s (5 + i + 1) := cutI_at _ (by omega) hi
  have e2 : (upd (cutI s k i) (5 + i) (s (5 + i + 1))) (25 + i + 2) = s (25 + i + 2) := by rw [pk_un (by omega)]; exact cutI_at _ (by omega) hi
  have e3 : (upd (upd (cutI s k i) (5 + i) (s (5 + i + 1))) (25 + i + 1) (s (25 + i + 2))) (46 + i + 2) = s (46 + i + 2) := by rw [pk_un (by omega), pk_un (by omega)]; exact cutI_at _ (by omega) hi
  have e4 : (upd (upd (upd (cutI s k i) (5 + i) (s (5 + i + 1))) (25 + i + 1) (s (25 + i + 2))) (46 + i + 1) (s (46 + i + 2))) (67 + i + 2) = s (67 + i + 2) := by rw [pk_un (by omega), pk_un (by omega), pk_un (by omega)]; exact cutI_at _ (by omega) hi
  rw [e1, e2, e3, e4]
  funext j
  by_cases h4 : j = 67 + i + 1
  · subst h4
    rw [pk_us]
    unfold cutI
    rw [if_pos (by omega)]
  rw [pk_un h4]
  by_cases h3 : j = 46 + i + 1
  · subst h3
    rw [pk_us]
    unfold cutI
    rw [if_pos (by omega)]
  rw [pk_un h3]
  by_cases h2 : j = 25 + i + 1
  · subst h2
    rw [pk_us]
    unfold cutI
    rw [if_pos (by omega)]
  rw [pk_un h2]
  by_cases h1 : j = 5 + i
  · subst h1
    rw [pk_us]
    unfold cutI
    rw [if_pos (by omega)]
  rw [pk_un h1]
  unfold cutI
  by_cases h : (5 + k ≤ j ∧ j < 5 + i) ∨ (26 + k ≤ j ∧ j < 26 + i) ∨ (47 + k ≤ j ∧ j < 47 + i) ∨ (68 + k ≤ j ∧ j < 68 + i)
  · rw [if_pos h, if_pos (by omega)]
  · rw [if_neg h, if_neg (by omega)]
def mCut (s : Fn) (n k : Nat) : Fn := upd (cutI s k (n - 1)) 0 (nI (n - 1))
def exch (s : Fn) (a b : Nat) : Fn := upd (upd s a (s b)) b (s a)
/-- a stretch of len from lo on, turned round as far as i from both ends -/
def revI (f : Fn) (lo len i : Nat) : Fn := fun j => if lo ≤ j ∧ j < lo + len ∧ (j < lo + i ∨ lo + len ≤ j + i) then f (lo + (lo + len - 1 - j)) else f j
theorem revI_0 (f : Fn) (lo len : Nat) : revI f lo len 0 = f := by
  funext j
  unfold revI
  rw [if_neg (by omega)]
theorem revI_S {f : Fn} {lo len i a b : Nat} (ha : a = lo + i) (hb : b + i + 1 = lo + len) (hab : a ≤ b) : exch (revI f lo len i) a b = revI f lo len (i + 1) := by
  subst ha
  have ea : revI f lo len i (lo + i) = f (lo + i) := by
    unfold revI
    by_cases q : lo ≤ lo + i ∧ lo + i < lo + len ∧ (lo + i < lo + i ∨ lo + len ≤ lo + i + i)
    · rw [if_pos q]
      congr 1
      omega
    · rw [if_neg q]
  have eb : revI f lo len i b = f b := by
    unfold revI
    by_cases q : lo ≤ b ∧ b < lo + len ∧ (b < lo + i ∨ lo + len ≤ b + i)
    · rw [if_pos q]
      congr 1
      omega
    · rw [if_neg q]
  unfold exch
  rw [ea, eb]
  funext j
  by_cases h1 : j = b
  · subst h1
    rw [pk_us]
    unfold revI
    rw [if_pos (by omega)]
    congr 1
    omega
  rw [pk_un h1]
  by_cases h2 : j = lo + i
  · subst h2
    rw [pk_us]
    unfold revI
    rw [if_pos (by omega)]
    congr 1
    omega
  rw [pk_un h2]
  unfold revI
  by_cases h : lo ≤ j ∧ j < lo + len ∧ (j < lo + i ∨ lo + len ≤ j + i)
  · rw [if_pos h, if_pos (by omega)]
  · rw [if_neg h, if_neg (by omega)]
theorem revI_S' {f : Fn} {n i : Nat} (hi : i < n / 2) (_ : n ≤ 20) : exch (revI f 5 n i) (5 + i) (5 + n - 1 - i) = revI f 5 n (i + 1) := revI_S rfl (by omega) (by omega)
def ngI (f : Fn) (lo i : Nat) : Fn := fun j => if lo ≤ j ∧ j < lo + i then -(f j) else f j
theorem ngI_0 (f : Fn) (lo : Nat) : ngI f lo 0 = f := by
  funext j
  unfold ngI
  rw [if_neg (by omega)]
theorem ngI_S (f : Fn) (lo i : Nat) : upd (ngI f lo i) (lo + i) (-(ngI f lo i (lo + i))) = ngI f lo (i + 1) := by
  have e : ngI f lo i (lo + i) = f (lo + i) := by
    unfold ngI
    rw [if_neg (by omega)]
  rw [e]
  funext j
  by_cases h : j = lo + i
  · subst h
    rw [pk_us]
    unfold ngI
    rw [if_pos (by omega)]
  · rw [pk_un h]
    unfold ngI
    by_cases h2 : lo ≤ j ∧ j < lo + i
    · rw [if_pos h2, if_pos (by omega)]
    · rw [if_neg h2, if_neg (by omega)]
/-- stretches that lie apart are turned each by itself -/
theorem exch_rev {f : Fn} {lo len i a b : Nat} (h : (a < lo ∨ lo + len ≤ a) ∧ (b < lo ∨ lo + len ≤ b)) : exch (revI f lo len i) a b = revI (exch f a b) lo len i := by
  have ea : revI f lo len i a = f a := by
    unfold revI
    rw [if_neg (by omega)]
  have eb : revI f lo len i b = f b := by
    unfold revI
    rw [if_neg (by omega)]
  unfold exch
  rw [ea, eb]
  funext j
  by_cases h1 : j = b
  · subst h1
    rw [pk_us]
    unfold revI
    rw [if_neg (by omega), pk_us]
  rw [pk_un h1]
  by_cases h2 : j = a
  · subst h2
    rw [pk_us]
    unfold revI
    rw [if_neg (by omega), pk_un h1, pk_us]
  rw [pk_un h2]
  unfold revI
  by_cases q : lo ≤ j ∧ j < lo + len ∧ (j < lo + i ∨ lo + len ≤ j + i)
  · rw [if_pos q, if_pos q, pk_un (by omega), pk_un (by omega)]
  · rw [if_neg q, if_neg q, pk_un h1, pk_un h2]
theorem turn3_S {f : Fn} {n i : Nat} (hi : i < (n + 1) / 2) (hn : n ≤ 20) : exch (exch (exch (revI (revI (revI f 25 (n + 1) i) 46 (n + 1) i) 67 (n + 1) i) (25 + i) (25 + n - i)) (46 + i) (46 + n - i)) (67 + i) (67 + n - i) = revI (revI (revI f 25 (n + 1) (i + 1)) 46 (n + 1) (i + 1)) 67 (n + 1) (i + 1) := by
  rw [exch_rev (lo := 67) (by omega), exch_rev (lo := 46) (by omega), revI_S (a := 25 + i) (b := 25 + n - i) rfl (by omega) (by omega)]
  rw [exch_rev (lo := 67) (by omega), revI_S (a := 46 + i) (b := 46 + n - i) rfl (by omega) (by omega)]
  rw [revI_S (a := 67 + i) (b := 67 + n - i) rfl (by omega) (by omega)]
def mTurn (s : Fn) (n : Nat) : Fn := revI (revI (revI (ngI (revI s 5 n (n / 2)) 5 n) 25 (n + 1) ((n + 1) / 2)) 46 (n + 1) ((n + 1) / 2)) 67 (n + 1) ((n + 1) / 2)
theorem revI_at {f : Fn} {lo len i j : Nat} (hj : j < len) (hi : len ≤ 2 * i + 1) : revI f lo len i (lo + j) = f (lo + (len - 1 - j)) := by
  unfold revI
  by_cases q : lo ≤ lo + j ∧ lo + j < lo + len ∧ (lo + j < lo + i ∨ lo + len ≤ lo + j + i)
  · rw [if_pos q]
    congr 1
    omega
  · rw [if_neg q]
    congr 1
    omega
theorem revI_out {f : Fn} {lo len i j : Nat} (hj : j < lo ∨ lo + len ≤ j) : revI f lo len i j = f j := by
  unfold revI
  rw [if_neg (by omega)]
theorem mTurn_0 {s : Fn} {n : Nat} (hn : n ≤ 20) : mTurn s n 0 = s 0 := by
  unfold mTurn
  rw [revI_out (by omega), revI_out (by omega), revI_out (by omega)]
  unfold ngI
  rw [if_neg (by omega), revI_out (by omega)]
theorem mTurn_se {s : Fn} {n k : Nat} (hn : n ≤ 20) (hk : k < 4) : mSE (mTurn s n) k = mSE s k := by
  unfold mSE mTurn
  rw [revI_out (by omega), revI_out (by omega), revI_out (by omega)]
  unfold ngI
  rw [if_neg (by omega), revI_out (by omega)]
theorem mTurn_st {s : Fn} {n k : Nat} (hn : n ≤ 20) (hk : k < n) : mST (mTurn s n) k = -(mST s (n - 1 - k)) := by
  unfold mST mTurn
  rw [revI_out (by omega), revI_out (by omega), revI_out (by omega)]
  unfold ngI
  rw [if_pos (by omega), revI_at hk (by omega)]
theorem mTurn_we {s : Fn} {n k : Nat} (hn : n ≤ 20) (hk : k ≤ n) : mWE (mTurn s n) k = mWE s (n - k) := by
  unfold mWE mTurn
  rw [revI_out (by omega), revI_out (by omega), revI_at (by omega) (by omega)]
  unfold ngI
  rw [if_neg (by omega), revI_out (by omega)]
  congr 1
theorem mTurn_ha {s : Fn} {n k : Nat} (hn : n ≤ 20) (hk : k ≤ n) : mHA (mTurn s n) k = mHA s (n - k) := by
  unfold mHA mTurn
  rw [revI_out (by omega), revI_at (by omega) (by omega), revI_out (by omega)]
  unfold ngI
  rw [if_neg (by omega), revI_out (by omega)]
  congr 1
theorem mTurn_pr {s : Fn} {n k : Nat} (hn : n ≤ 20) (hk : k ≤ n) : mPR (mTurn s n) k = mPR s (n - k) := by
  unfold mPR mTurn
  rw [revI_at (by omega) (by omega), revI_out (by omega), revI_out (by omega)]
  unfold ngI
  rw [if_neg (by omega), revI_out (by omega)]
  congr 1
theorem neg_r2 {x : Int32} (h : -2 ≤ x ∧ x ≤ 2) : -2 ≤ -x ∧ -x ≤ 2 := by
  have h1 := Int32.le_iff_toInt_le.mp h.1
  have h2 := Int32.le_iff_toInt_le.mp h.2
  rw [show (-2 : Int32).toInt = -2 from rfl] at h1
  rw [show (2 : Int32).toInt = 2 from rfl] at h2
  obtain ⟨z, hz⟩ : ∃ z : Int, z = x.toInt := ⟨_, rfl⟩
  have hx : x = Int32.ofInt z := by rw [hz, Int32.ofInt_toInt]
  rcases (show z = -2 ∨ z = -1 ∨ z = 0 ∨ z = 1 ∨ z = 2 by omega) with q | q | q | q | q <;> rw [q] at hx <;> subst hx <;> decide
theorem mTurn_ok {s : Fn} {n : Nat} (h : mOK s n) : mOK (mTurn s n) n := by
  obtain ⟨h0, h1, h2, hv⟩ := h
  refine ⟨(mTurn_0 h2).trans h0, h1, h2, fun k hk => ?_, fun k hk => ?_, ?_⟩
  · rw [mTurn_st h2 hk]
    exact neg_r2 (hv.1 _ (by omega))
  · rw [mTurn_we h2 hk, mTurn_ha h2 hk, mTurn_pr h2 hk]
    exact hv.2.1 _ (by omega)
  · rw [mTurn_se h2 (by omega), mTurn_se h2 (by omega), mTurn_se h2 (by omega)]
    exact hv.2.2
def mMov (s : Fn) (j t : Nat) : Fn := upd (upd s (25 + j) (s (25 + j) - mvBy (mWE s) j t)) (25 + t) ((upd s (25 + j) (s (25 + j) - mvBy (mWE s) j t)) (25 + t) + mvBy (mWE s) j t)
theorem mvBy_l {s : Fn} {j t : Nat} (h : ¬ 99 - s (25 + t) ≤ s (25 + j)) : s (25 + j) = mvBy (mWE s) j t := (show mvBy (mWE s) j t = mWE s j from if_neg (show ¬ 99 - mWE s t < mWE s j from fun q => h (Int32.le_of_lt q))).symm
theorem mvBy_r {s : Fn} {j t : Nat} (h : 99 - s (25 + t) ≤ s (25 + j)) : 99 - s (25 + t) = mvBy (mWE s) j t := by
  show 99 - mWE s t = if 99 - mWE s t < mWE s j then 99 - mWE s t else mWE s j
  by_cases q : 99 - mWE s t < mWE s j
  · rw [if_pos q]
  · rw [if_neg q]
    exact Int32.le_antisymm h (Int32.not_lt.mp q)
def sLow (k : Int32) : Int32 := if k = 1 then -40 else if k = 3 then 1 else 0
def sHigh (k : Int32) : Int32 := if k = 1 then 40 else if k = 3 then 999 else 20
theorem in4 (k : Int32) : decide (0 ≤ k ∧ k ≤ 3) = isN k 4 := in_isN k (n := 3) (by omega)
theorem in4_t {k : Int32} (h : isN k 4 = true) : bI (decide (0 ≤ k ∧ k ≤ 3)) = nI 1 := by rw [in4, h]; rfl
theorem in4_f {k : Int32} (h : isN k 4 = false) : bI (decide (0 ≤ k ∧ k ≤ 3)) = nI 0 := by rw [in4, h]; rfl
/-- the saved row m -/
def mGet (sv : Fn) (m : Nat) : Fn := fun j => sv (88 * m + j)
set_option maxHeartbeats 4000000 in
set_option maxRecDepth 100000 in
theorem c_X6_noMore (l : Launch) (G : kG) (m0 : Nat) (ms : Nat) (mv : Nat) (mt : Nat) (mh : Nat) (mb : Nat) (mg : Nat) (mq : Nat) (ml : Nat) (mf : Nat) (th : Nat) (s0 : Fn) (sv : Fn) (sm : Nat) (tx : Fn) (ln : Nat) (ht : Fn) (bu : Fn) (hg : Fn) (pq : Fn) (ld : Fn) (fo : Fn) (nw : Int32) (fw : Int32) (tp : Nat) (wr : Bool) (dg : Int64) (k : Nat) (sz : Nat) (hk : k ≤ 20) : kMet l yX6_noMore wsX6_noMore ({ frames := 0, cells := 0, slots := 0, locals := 0 } : Room) G [.ref m0, .int (nI (k))] [(m0, .inr (6, [.int (nI (th)), .ref ms, .ref mv, .int (nI (sm)), .ref mt, .int (nI (ln)), .ref mh, .ref mb, .ref mg, .ref mq, .ref ml, .ref mf, .int nw, .int fw, .int (nI (tp)), .int (bI (wr)), .long dg])), (ms, .inl (G.2.1, 88, .inl s0)), (mv, .inl (G.2.1, 528, .inl sv)), (mt, .inl (G.2.1, 60, .inl tx)), (mh, .inl (G.2.1, 21, .inl ht)), (mb, .inl (G.2.1, 21, .inl bu)), (mg, .inl (G.2.1, 21, .inl hg)), (mq, .inl (G.2.1, 21, .inl pq)), (ml, .inl (G.2.1, 21, .inl ld)), (mf, .inl (G.2.1, 20, .inl fo))] sz (kQv G (fun (u : Unit) => True) (fun (u : Unit) => [(m0, .inr (6, [.int (nI (th)), .ref ms, .ref mv, .int (nI (sm)), .ref mt, .int (nI (ln)), .ref mh, .ref mb, .ref mg, .ref mq, .ref ml, .ref mf, .int nw, .int fw, .int (nI (tp)), .int (bI (wr)), .long dg])), (ms, .inl (G.2.1, 88, .inl (noM s0 k))), (mv, .inl (G.2.1, 528, .inl sv)), (mt, .inl (G.2.1, 60, .inl tx)), (mh, .inl (G.2.1, 21, .inl ht)), (mb, .inl (G.2.1, 21, .inl bu)), (mg, .inl (G.2.1, 21, .inl hg)), (mq, .inl (G.2.1, 21, .inl pq)), (ml, .inl (G.2.1, 21, .inl ld)), (mf, .inl (G.2.1, 20, .inl fo))])) 0 0 := by
  refine k_entry (cc := cX6_noMore) (maxL := 2) (ret := none) (by decide) rfl (Nat.le_of_ble_eq_true rfl) ?_
  intro p e s m args below meth c A ls H locs Q hQ hx hb hml hr hts hown hlocks hin hA hP hK hD hS hl
  have hown : s.vm.findClass RX6 = some m.cls := hown
  have hl : lv_has ls 2 [(0, .ref m0), (1, .int (nI (k)))] := hl
  have hf7 := hts (.fieldLink RX6 7 "HangingChainModel" "s" "[I") (by decide +kernel)
  have hinX6 : ∀ w ∈ wsX60, w ∈ wsX6_noMore := by decide +kernel
  refine lv_aload_n hx hb dX6_noMore_0 rfl (lv_at hl 0 rfl) ?_
  refine va_get (D := G.1) (ci := 6) (v := .ref ms) (C := RX6) (T := TX6) (N := 17) hx hb hts hinX6 hown hK hP 0 rfl rfl 1 (by decide) hf7 (fun _ h9 => h9) rfl dX6_noMore_1 ?_
  refine lv_bipush (v := 25) hx hb dX6_noMore_4 (by decide) ?_
  refine lv_iload_n hx hb dX6_noMore_6 rfl (lv_at hl 1 rfl) ?_
  refine lv_iadd hx hb dX6_noMore_7 ?_
  refine g_ti (y := nI (25 + k)) (nI_add (25) (k)) ?_
  refine lv_iconst (v := 0) hx hb dX6_noMore_8 (by decide) ?_
  refine g_iast (k := 25 + k) hx hb hK hP hD hS 1 rfl (by omega) (by omega) dX6_noMore_9 (fun H locs hP hD hS => ?_)
  have hP : va_P G.1 vwCl [(m0, .inr (6, [.int (nI (th)), .ref ms, .ref mv, .int (nI (sm)), .ref mt, .int (nI (ln)), .ref mh, .ref mb, .ref mg, .ref mq, .ref ml, .ref mf, .int nw, .int fw, .int (nI (tp)), .int (bI (wr)), .long dg])), (ms, .inl (G.2.1, 88, .inl (upd s0 (25 + k) 0))), (mv, .inl (G.2.1, 528, .inl sv)), (mt, .inl (G.2.1, 60, .inl tx)), (mh, .inl (G.2.1, 21, .inl ht)), (mb, .inl (G.2.1, 21, .inl bu)), (mg, .inl (G.2.1, 21, .inl hg)), (mq, .inl (G.2.1, 21, .inl pq)), (ml, .inl (G.2.1, 21, .inl ld)), (mf, .inl (G.2.1, 20, .inl fo))] H := hP
  have hD : va_D A [(m0, .inr (6, [.int (nI (th)), .ref ms, .ref mv, .int (nI (sm)), .ref mt, .int (nI (ln)), .ref mh, .ref mb, .ref mg, .ref mq, .ref ml, .ref mf, .int nw, .int fw, .int (nI (tp)), .int (bI (wr)), .long dg])), (ms, .inl (G.2.1, 88, .inl (upd s0 (25 + k) 0))), (mv, .inl (G.2.1, 528, .inl sv)), (mt, .inl (G.2.1, 60, .inl tx)), (mh, .inl (G.2.1, 21, .inl ht)), (mb, .inl (G.2.1, 21, .inl bu)), (mg, .inl (G.2.1, 21, .inl hg)), (mq, .inl (G.2.1, 21, .inl pq)), (ml, .inl (G.2.1, 21, .inl ld)), (mf, .inl (G.2.1, 20, .inl fo))] := hD
  refine lv_aload_n hx hb dX6_noMore_10 rfl (lv_at hl 0 rfl) ?_
  refine va_get (D := G.1) (ci := 6) (v := .ref ms) (C := RX6) (T := TX6) (N := 17) hx hb hts hinX6 hown hK hP 0 rfl rfl 1 (by decide) hf7 (fun _ h9 => h9) rfl dX6_noMore_11 ?_
  refine lv_bipush (v := 46) hx hb dX6_noMore_14 (by decide) ?_
  refine lv_iload_n hx hb dX6_noMore_16 rfl (lv_at hl 1 rfl) ?_
  refine lv_iadd hx hb dX6_noMore_17 ?_
  refine g_ti (y := nI (46 + k)) (nI_add (46) (k)) ?_
  refine lv_iconst (v := 0) hx hb dX6_noMore_18 (by decide) ?_
  refine g_iast (k := 46 + k) hx hb hK hP hD hS 1 rfl (by omega) (by omega) dX6_noMore_19 (fun H locs hP hD hS => ?_)
  have hP : va_P G.1 vwCl [(m0, .inr (6, [.int (nI (th)), .ref ms, .ref mv, .int (nI (sm)), .ref mt, .int (nI (ln)), .ref mh, .ref mb, .ref mg, .ref mq, .ref ml, .ref mf, .int nw, .int fw, .int (nI (tp)), .int (bI (wr)), .long dg])), (ms, .inl (G.2.1, 88, .inl (upd (upd s0 (25 + k) 0) (46 + k) 0))), (mv, .inl (G.2.1, 528, .inl sv)), (mt, .inl (G.2.1, 60, .inl tx)), (mh, .inl (G.2.1, 21, .inl ht)), (mb, .inl (G.2.1, 21, .inl bu)), (mg, .inl (G.2.1, 21, .inl hg)), (mq, .inl (G.2.1, 21, .inl pq)), (ml, .inl (G.2.1, 21, .inl ld)), (mf, .inl (G.2.1, 20, .inl fo))] H := hP
  have hD : va_D A [(m0, .inr (6, [.int (nI (th)), .ref ms, .ref mv, .int (nI (sm)), .ref mt, .int (nI (ln)), .ref mh, .ref mb, .ref mg, .ref mq, .ref ml, .ref mf, .int nw, .int fw, .int (nI (tp)), .int (bI (wr)), .long dg])), (ms, .inl (G.2.1, 88, .inl (upd (upd s0 (25 + k) 0) (46 + k) 0))), (mv, .inl (G.2.1, 528, .inl sv)), (mt, .inl (G.2.1, 60, .inl tx)), (mh, .inl (G.2.1, 21, .inl ht)), (mb, .inl (G.2.1, 21, .inl bu)), (mg, .inl (G.2.1, 21, .inl hg)), (mq, .inl (G.2.1, 21, .inl pq)), (ml, .inl (G.2.1, 21, .inl ld)), (mf, .inl (G.2.1, 20, .inl fo))] := hD
  refine lv_aload_n hx hb dX6_noMore_20 rfl (lv_at hl 0 rfl) ?_
  refine va_get (D := G.1) (ci := 6) (v := .ref ms) (C := RX6) (T := TX6) (N := 17) hx hb hts hinX6 hown hK hP 0 rfl rfl 1 (by decide) hf7 (fun _ h9 => h9) rfl dX6_noMore_21 ?_
  refine lv_bipush (v := 67) hx hb dX6_noMore_24 (by decide) ?_
  refine lv_iload_n hx hb dX6_noMore_26 rfl (lv_at hl 1 rfl) ?_
  refine lv_iadd hx hb dX6_noMore_27 ?_
  refine g_ti (y := nI (67 + k)) (nI_add (67) (k)) ?_
  refine lv_iconst (v := 0) hx hb dX6_noMore_28 (by decide) ?_
  refine g_iast (k := 67 + k) hx hb hK hP hD hS 1 rfl (by omega) (by omega) dX6_noMore_29 (fun H locs hP hD hS => ?_)
  have hP : va_P G.1 vwCl [(m0, .inr (6, [.int (nI (th)), .ref ms, .ref mv, .int (nI (sm)), .ref mt, .int (nI (ln)), .ref mh, .ref mb, .ref mg, .ref mq, .ref ml, .ref mf, .int nw, .int fw, .int (nI (tp)), .int (bI (wr)), .long dg])), (ms, .inl (G.2.1, 88, .inl (upd (upd (upd s0 (25 + k) 0) (46 + k) 0) (67 + k) 0))), (mv, .inl (G.2.1, 528, .inl sv)), (mt, .inl (G.2.1, 60, .inl tx)), (mh, .inl (G.2.1, 21, .inl ht)), (mb, .inl (G.2.1, 21, .inl bu)), (mg, .inl (G.2.1, 21, .inl hg)), (mq, .inl (G.2.1, 21, .inl pq)), (ml, .inl (G.2.1, 21, .inl ld)), (mf, .inl (G.2.1, 20, .inl fo))] H := hP
  have hD : va_D A [(m0, .inr (6, [.int (nI (th)), .ref ms, .ref mv, .int (nI (sm)), .ref mt, .int (nI (ln)), .ref mh, .ref mb, .ref mg, .ref mq, .ref ml, .ref mf, .int nw, .int fw, .int (nI (tp)), .int (bI (wr)), .long dg])), (ms, .inl (G.2.1, 88, .inl (upd (upd (upd s0 (25 + k) 0) (46 + k) 0) (67 + k) 0))), (mv, .inl (G.2.1, 528, .inl sv)), (mt, .inl (G.2.1, 60, .inl tx)), (mh, .inl (G.2.1, 21, .inl ht)), (mb, .inl (G.2.1, 21, .inl bu)), (mg, .inl (G.2.1, 21, .inl hg)), (mq, .inl (G.2.1, 21, .inl pq)), (ml, .inl (G.2.1, 21, .inl ld)), (mf, .inl (G.2.1, 20, .inl fo))] := hD
  rw [hQ]
  exact k_vret () [0, 1, 2, 3, 4, 5, 6, 7, 8, 9] hx hb hr hlocks (trivial) hK hP hD hS rfl (by decide) dX6_noMore_30
set_option maxHeartbeats 4000000 in
set_option maxRecDepth 100000 in
theorem c_X6_link_1 (l : Launch) (G : kG) (m0 : Nat) (ms : Nat) (mv : Nat) (mt : Nat) (mh : Nat) (mb : Nat) (mg : Nat) (mq : Nat) (ml : Nat) (mf : Nat) (th : Nat) (s0 : Fn) (sv : Fn) (sm : Nat) (tx : Fn) (ln : Nat) (ht : Fn) (bu : Fn) (hg : Fn) (pq : Fn) (ld : Fn) (fo : Fn) (nw : Int32) (fw : Int32) (tp : Nat) (wr : Bool) (dg : Int64) (v : Int32) (n : Nat) (sz : Nat) (hok : mOK s0 n) (h1 : ¬ (-2 ≤ v ∧ v ≤ 2)) : kMet l yX6_link wsX6_link ({ frames := 1, cells := 0, slots := 0, locals := 22 } : Room) G [.ref m0, .int v] [(m0, .inr (6, [.int (nI (th)), .ref ms, .ref mv, .int (nI (sm)), .ref mt, .int (nI (ln)), .ref mh, .ref mb, .ref mg, .ref mq, .ref ml, .ref mf, .int nw, .int fw, .int (nI (tp)), .int (bI (wr)), .long dg])), (ms, .inl (G.2.1, 88, .inl s0)), (mv, .inl (G.2.1, 528, .inl sv)), (mt, .inl (G.2.1, 60, .inl tx)), (mh, .inl (G.2.1, 21, .inl ht)), (mb, .inl (G.2.1, 21, .inl bu)), (mg, .inl (G.2.1, 21, .inl hg)), (mq, .inl (G.2.1, 21, .inl pq)), (ml, .inl (G.2.1, 21, .inl ld)), (mf, .inl (G.2.1, 20, .inl fo))] sz (kQi G (fun (r : Int32) (u : Unit) => r = 0) (fun (u : Unit) => [(m0, .inr (6, [.int (nI 1), .ref ms, .ref mv, .int (nI (sm)), .ref mt, .int (nI (ln)), .ref mh, .ref mb, .ref mg, .ref mq, .ref ml, .ref mf, .int nw, .int fw, .int (nI (tp)), .int (bI (wr)), .long dg])), (ms, .inl (G.2.1, 88, .inl s0)), (mv, .inl (G.2.1, 528, .inl sv)), (mt, .inl (G.2.1, 60, .inl tx)), (mh, .inl (G.2.1, 21, .inl ht)), (mb, .inl (G.2.1, 21, .inl bu)), (mg, .inl (G.2.1, 21, .inl hg)), (mq, .inl (G.2.1, 21, .inl pq)), (ml, .inl (G.2.1, 21, .inl ld)), (mf, .inl (G.2.1, 20, .inl fo))])) 0 0 := by
  refine k_entry (cc := cX6_link) (maxL := 2) (ret := (some .int)) (by decide) rfl (Nat.le_of_ble_eq_true rfl) ?_
  intro p e s m args below meth c A ls H locs Q hQ hx hb hml hr hts hown hlocks hin hA hP hK hD hS hl
  have hown : s.vm.findClass RX6 = some m.cls := hown
  have hl : lv_has ls 2 [(0, .ref m0), (1, .int v)] := hl
  obtain ⟨hs0, hn1, hn, hv⟩ := id hok
  refine lv_aload_n hx hb dX6_link_0 rfl (lv_at hl 0 rfl) ?_
  refine lv_iload_n hx hb dX6_link_1 rfl (lv_at hl 1 rfl) ?_
  refine lv_bipush (v := (-2)) hx hb dX6_link_2 (by decide) ?_
  refine lv_iconst (v := 2) hx hb dX6_link_4 (by decide) ?_
  refine k_ci (wr := [(m0, .inr (6, [.int (nI (th)), .ref ms, .ref mv, .int (nI (sm)), .ref mt, .int (nI (ln)), .ref mh, .ref mb, .ref mg, .ref mq, .ref ml, .ref mf, .int nw, .int fw, .int (nI (tp)), .int (bI (wr)), .long dg])), (ms, .inl (G.2.1, 88, .inl s0)), (mv, .inl (G.2.1, 528, .inl sv)), (mt, .inl (G.2.1, 60, .inl tx)), (mh, .inl (G.2.1, 21, .inl ht)), (mb, .inl (G.2.1, 21, .inl bu)), (mg, .inl (G.2.1, 21, .inl hg)), (mq, .inl (G.2.1, 21, .inl pq)), (ml, .inl (G.2.1, 21, .inl ld)), (mf, .inl (G.2.1, 20, .inl fo))]) [0, 1, 2, 3, 4, 5, 6, 7, 8, 9] rfl (by decide) [] rfl (by decide) hP hD hS hA (k_S (n := 3) (As := [.int v, .int (-2), .int 2]) (rest := [.ref m0]) (wc := []) hx hb hml hown hts hK hP hD hl (c_X6_in l G v (-2) 2 H.size) [] rfl (by decide) gX6_link_X6_in rfl rfl rfl (by decide +kernel) rfl ⟨Nat.le_of_ble_eq_true rfl, Nat.le_of_ble_eq_true rfl⟩ rfl (Nat.le_of_ble_eq_true rfl) dX6_link_5 ⟨Nat.le_of_ble_eq_true rfl, Nat.le_of_ble_eq_true rfl⟩) (fun r_5 u H locs hw hP hD hS => ?_)
  have hw_5 : r_5 = bI (decide ((-2) ≤ v ∧ v ≤ 2)) := hw
  have hP : va_P G.1 vwCl [(m0, .inr (6, [.int (nI (th)), .ref ms, .ref mv, .int (nI (sm)), .ref mt, .int (nI (ln)), .ref mh, .ref mb, .ref mg, .ref mq, .ref ml, .ref mf, .int nw, .int fw, .int (nI (tp)), .int (bI (wr)), .long dg])), (ms, .inl (G.2.1, 88, .inl s0)), (mv, .inl (G.2.1, 528, .inl sv)), (mt, .inl (G.2.1, 60, .inl tx)), (mh, .inl (G.2.1, 21, .inl ht)), (mb, .inl (G.2.1, 21, .inl bu)), (mg, .inl (G.2.1, 21, .inl hg)), (mq, .inl (G.2.1, 21, .inl pq)), (ml, .inl (G.2.1, 21, .inl ld)), (mf, .inl (G.2.1, 20, .inl fo))] H := hP
  have hD : va_D A [(m0, .inr (6, [.int (nI (th)), .ref ms, .ref mv, .int (nI (sm)), .ref mt, .int (nI (ln)), .ref mh, .ref mb, .ref mg, .ref mq, .ref ml, .ref mf, .int nw, .int fw, .int (nI (tp)), .int (bI (wr)), .long dg])), (ms, .inl (G.2.1, 88, .inl s0)), (mv, .inl (G.2.1, 528, .inl sv)), (mt, .inl (G.2.1, 60, .inl tx)), (mh, .inl (G.2.1, 21, .inl ht)), (mb, .inl (G.2.1, 21, .inl bu)), (mg, .inl (G.2.1, 21, .inl hg)), (mq, .inl (G.2.1, 21, .inl pq)), (ml, .inl (G.2.1, 21, .inl ld)), (mf, .inl (G.2.1, 20, .inl fo))] := hD
  subst hw_5
  refine g_ti (y := nI 0) (by rw [decide_eq_false h1]; rfl) ?_
  refine g_if_ne (a := 0) (tgt := 15) hx hb (by omega) dX6_link_8 (by decide) (fun c_8 => ?_) (fun c_8 => ?_)
  · exact absurd c_8 (by decide)
  · skip
    refine lv_iconst (v := 1) hx hb dX6_link_11 (by decide) ?_
    refine lv_goto (tgt := 31) hx hb dX6_link_12 (by decide) ?_
    refine k_ci (wr := []) [] rfl (by decide) [0, 1, 2, 3, 4, 5, 6, 7, 8, 9] rfl (by decide) hP hD hS hA (k_V (n := 1) (ci := 6) (As := [.int 1]) (rest := []) (wc := [(m0, .inr (6, [.int (nI (th)), .ref ms, .ref mv, .int (nI (sm)), .ref mt, .int (nI (ln)), .ref mh, .ref mb, .ref mg, .ref mq, .ref ml, .ref mf, .int nw, .int fw, .int (nI (tp)), .int (bI (wr)), .long dg])), (ms, .inl (G.2.1, 88, .inl s0)), (mv, .inl (G.2.1, 528, .inl sv)), (mt, .inl (G.2.1, 60, .inl tx)), (mh, .inl (G.2.1, 21, .inl ht)), (mb, .inl (G.2.1, 21, .inl bu)), (mg, .inl (G.2.1, 21, .inl hg)), (mq, .inl (G.2.1, 21, .inl pq)), (ml, .inl (G.2.1, 21, .inl ld)), (mf, .inl (G.2.1, 20, .inl fo))]) hx hb hml hown hts hK hP hD hl (c_X6_holds l G m0 ms mv mt mh mb mg mq ml mf th s0 sv sm tx ln ht bu hg pq ld fo nw fw tp wr dg 1 H.size (by first | assumption | omega)) [0, 1, 2, 3, 4, 5, 6, 7, 8, 9] rfl (by decide) gX6_link_X6_holds rfl rfl rfl (by decide +kernel) rfl ⟨Nat.le_of_ble_eq_true rfl, Nat.le_of_ble_eq_true rfl⟩ rfl rfl rfl (Nat.le_of_ble_eq_true rfl) dX6_link_31 ⟨Nat.le_of_ble_eq_true rfl, Nat.le_of_ble_eq_true rfl⟩) (fun r_31 u H locs hw hP hD hS => ?_)
    have hw_31 : r_31 = bI (decide (1 = 0)) := hw
    have hP : va_P G.1 vwCl [(m0, .inr (6, [.int (nI (1)), .ref ms, .ref mv, .int (nI (sm)), .ref mt, .int (nI (ln)), .ref mh, .ref mb, .ref mg, .ref mq, .ref ml, .ref mf, .int nw, .int fw, .int (nI (tp)), .int (bI (wr)), .long dg])), (ms, .inl (G.2.1, 88, .inl s0)), (mv, .inl (G.2.1, 528, .inl sv)), (mt, .inl (G.2.1, 60, .inl tx)), (mh, .inl (G.2.1, 21, .inl ht)), (mb, .inl (G.2.1, 21, .inl bu)), (mg, .inl (G.2.1, 21, .inl hg)), (mq, .inl (G.2.1, 21, .inl pq)), (ml, .inl (G.2.1, 21, .inl ld)), (mf, .inl (G.2.1, 20, .inl fo))] H := hP
    have hD : va_D A [(m0, .inr (6, [.int (nI (1)), .ref ms, .ref mv, .int (nI (sm)), .ref mt, .int (nI (ln)), .ref mh, .ref mb, .ref mg, .ref mq, .ref ml, .ref mf, .int nw, .int fw, .int (nI (tp)), .int (bI (wr)), .long dg])), (ms, .inl (G.2.1, 88, .inl s0)), (mv, .inl (G.2.1, 528, .inl sv)), (mt, .inl (G.2.1, 60, .inl tx)), (mh, .inl (G.2.1, 21, .inl ht)), (mb, .inl (G.2.1, 21, .inl bu)), (mg, .inl (G.2.1, 21, .inl hg)), (mq, .inl (G.2.1, 21, .inl pq)), (ml, .inl (G.2.1, 21, .inl ld)), (mf, .inl (G.2.1, 20, .inl fo))] := hD
    subst hw_31
    refine g_ti (y := nI 0) (by rw [decide_eq_false (by decide)]; rfl) ?_
    refine g_if_ne (a := 0) (tgt := 39) hx hb (by omega) dX6_link_34 (by decide) (fun c_34 => ?_) (fun c_34 => ?_)
    · exact absurd c_34 (by decide)
    · skip
      refine lv_iconst (v := 0) hx hb dX6_link_37 (by decide) ?_
      rw [hQ]
      exact k_iret (v := 0) () [0, 1, 2, 3, 4, 5, 6, 7, 8, 9] hx hb hr hlocks (rfl) hK hP hD hS rfl (by decide) dX6_link_38
set_option maxHeartbeats 4000000 in
set_option maxRecDepth 100000 in
theorem c_X6_link_2 (l : Launch) (G : kG) (m0 : Nat) (ms : Nat) (mv : Nat) (mt : Nat) (mh : Nat) (mb : Nat) (mg : Nat) (mq : Nat) (ml : Nat) (mf : Nat) (th : Nat) (s0 : Fn) (sv : Fn) (sm : Nat) (tx : Fn) (ln : Nat) (ht : Fn) (bu : Fn) (hg : Fn) (pq : Fn) (ld : Fn) (fo : Fn) (nw : Int32) (fw : Int32) (tp : Nat) (wr : Bool) (dg : Int64) (v : Int32) (n : Nat) (sz : Nat) (hok : mOK s0 n) (h1 : -2 ≤ v ∧ v ≤ 2) (h2 : n = 20) : kMet l yX6_link wsX6_link ({ frames := 1, cells := 0, slots := 0, locals := 22 } : Room) G [.ref m0, .int v] [(m0, .inr (6, [.int (nI (th)), .ref ms, .ref mv, .int (nI (sm)), .ref mt, .int (nI (ln)), .ref mh, .ref mb, .ref mg, .ref mq, .ref ml, .ref mf, .int nw, .int fw, .int (nI (tp)), .int (bI (wr)), .long dg])), (ms, .inl (G.2.1, 88, .inl s0)), (mv, .inl (G.2.1, 528, .inl sv)), (mt, .inl (G.2.1, 60, .inl tx)), (mh, .inl (G.2.1, 21, .inl ht)), (mb, .inl (G.2.1, 21, .inl bu)), (mg, .inl (G.2.1, 21, .inl hg)), (mq, .inl (G.2.1, 21, .inl pq)), (ml, .inl (G.2.1, 21, .inl ld)), (mf, .inl (G.2.1, 20, .inl fo))] sz (kQi G (fun (r : Int32) (u : Unit) => r = 0) (fun (u : Unit) => [(m0, .inr (6, [.int (nI 2), .ref ms, .ref mv, .int (nI (sm)), .ref mt, .int (nI (ln)), .ref mh, .ref mb, .ref mg, .ref mq, .ref ml, .ref mf, .int nw, .int fw, .int (nI (tp)), .int (bI (wr)), .long dg])), (ms, .inl (G.2.1, 88, .inl s0)), (mv, .inl (G.2.1, 528, .inl sv)), (mt, .inl (G.2.1, 60, .inl tx)), (mh, .inl (G.2.1, 21, .inl ht)), (mb, .inl (G.2.1, 21, .inl bu)), (mg, .inl (G.2.1, 21, .inl hg)), (mq, .inl (G.2.1, 21, .inl pq)), (ml, .inl (G.2.1, 21, .inl ld)), (mf, .inl (G.2.1, 20, .inl fo))])) 0 0 := by
  refine k_entry (cc := cX6_link) (maxL := 2) (ret := (some .int)) (by decide) rfl (Nat.le_of_ble_eq_true rfl) ?_
  intro p e s m args below meth c A ls H locs Q hQ hx hb hml hr hts hown hlocks hin hA hP hK hD hS hl
  have hown : s.vm.findClass RX6 = some m.cls := hown
  have hl : lv_has ls 2 [(0, .ref m0), (1, .int v)] := hl
  have hf7 := hts (.fieldLink RX6 7 "HangingChainModel" "s" "[I") (by decide +kernel)
  have hinX6 : ∀ w ∈ wsX60, w ∈ wsX6_link := by decide +kernel
  obtain ⟨hs0, hn1, hn, hv⟩ := id hok
  refine lv_aload_n hx hb dX6_link_0 rfl (lv_at hl 0 rfl) ?_
  refine lv_iload_n hx hb dX6_link_1 rfl (lv_at hl 1 rfl) ?_
  refine lv_bipush (v := (-2)) hx hb dX6_link_2 (by decide) ?_
  refine lv_iconst (v := 2) hx hb dX6_link_4 (by decide) ?_
  refine k_ci (wr := [(m0, .inr (6, [.int (nI (th)), .ref ms, .ref mv, .int (nI (sm)), .ref mt, .int (nI (ln)), .ref mh, .ref mb, .ref mg, .ref mq, .ref ml, .ref mf, .int nw, .int fw, .int (nI (tp)), .int (bI (wr)), .long dg])), (ms, .inl (G.2.1, 88, .inl s0)), (mv, .inl (G.2.1, 528, .inl sv)), (mt, .inl (G.2.1, 60, .inl tx)), (mh, .inl (G.2.1, 21, .inl ht)), (mb, .inl (G.2.1, 21, .inl bu)), (mg, .inl (G.2.1, 21, .inl hg)), (mq, .inl (G.2.1, 21, .inl pq)), (ml, .inl (G.2.1, 21, .inl ld)), (mf, .inl (G.2.1, 20, .inl fo))]) [0, 1, 2, 3, 4, 5, 6, 7, 8, 9] rfl (by decide) [] rfl (by decide) hP hD hS hA (k_S (n := 3) (As := [.int v, .int (-2), .int 2]) (rest := [.ref m0]) (wc := []) hx hb hml hown hts hK hP hD hl (c_X6_in l G v (-2) 2 H.size) [] rfl (by decide) gX6_link_X6_in rfl rfl rfl (by decide +kernel) rfl ⟨Nat.le_of_ble_eq_true rfl, Nat.le_of_ble_eq_true rfl⟩ rfl (Nat.le_of_ble_eq_true rfl) dX6_link_5 ⟨Nat.le_of_ble_eq_true rfl, Nat.le_of_ble_eq_true rfl⟩) (fun r_5 u H locs hw hP hD hS => ?_)
  have hw_5 : r_5 = bI (decide ((-2) ≤ v ∧ v ≤ 2)) := hw
  have hP : va_P G.1 vwCl [(m0, .inr (6, [.int (nI (th)), .ref ms, .ref mv, .int (nI (sm)), .ref mt, .int (nI (ln)), .ref mh, .ref mb, .ref mg, .ref mq, .ref ml, .ref mf, .int nw, .int fw, .int (nI (tp)), .int (bI (wr)), .long dg])), (ms, .inl (G.2.1, 88, .inl s0)), (mv, .inl (G.2.1, 528, .inl sv)), (mt, .inl (G.2.1, 60, .inl tx)), (mh, .inl (G.2.1, 21, .inl ht)), (mb, .inl (G.2.1, 21, .inl bu)), (mg, .inl (G.2.1, 21, .inl hg)), (mq, .inl (G.2.1, 21, .inl pq)), (ml, .inl (G.2.1, 21, .inl ld)), (mf, .inl (G.2.1, 20, .inl fo))] H := hP
  have hD : va_D A [(m0, .inr (6, [.int (nI (th)), .ref ms, .ref mv, .int (nI (sm)), .ref mt, .int (nI (ln)), .ref mh, .ref mb, .ref mg, .ref mq, .ref ml, .ref mf, .int nw, .int fw, .int (nI (tp)), .int (bI (wr)), .long dg])), (ms, .inl (G.2.1, 88, .inl s0)), (mv, .inl (G.2.1, 528, .inl sv)), (mt, .inl (G.2.1, 60, .inl tx)), (mh, .inl (G.2.1, 21, .inl ht)), (mb, .inl (G.2.1, 21, .inl bu)), (mg, .inl (G.2.1, 21, .inl hg)), (mq, .inl (G.2.1, 21, .inl pq)), (ml, .inl (G.2.1, 21, .inl ld)), (mf, .inl (G.2.1, 20, .inl fo))] := hD
  subst hw_5
  refine g_ti (y := nI 1) (by rw [decide_eq_true h1]; rfl) ?_
  refine g_if_ne (a := 1) (tgt := 15) hx hb (by omega) dX6_link_8 (by decide) (fun c_8 => ?_) (fun c_8 => ?_)
  · skip
    refine lv_aload_n hx hb dX6_link_15 rfl (lv_at hl 0 rfl) ?_
    refine va_get (D := G.1) (ci := 6) (v := .ref ms) (C := RX6) (T := TX6) (N := 17) hx hb hts hinX6 hown hK hP 0 rfl rfl 1 (by decide) hf7 (fun _ h9 => h9) rfl dX6_link_16 ?_
    refine lv_iconst (v := 0) hx hb dX6_link_19 (by decide) ?_
    refine g_iald (k := 0) hx hb hK hP 1 rfl (by omega) (by omega) dX6_link_20 ?_
    refine g_ti (y := nI n) (hs0) ?_
    refine lv_bipush (v := 20) hx hb dX6_link_21 (by decide) ?_
    refine g_icmp_ne (a := n) (b := 20) (tgt := 30) hx hb (by omega) (by omega) dX6_link_23 (by decide) (fun c_23 => ?_) (fun c_23 => ?_)
    · exact absurd h2 c_23
    · skip
      refine lv_iconst (v := 2) hx hb dX6_link_26 (by decide) ?_
      refine lv_goto (tgt := 31) hx hb dX6_link_27 (by decide) ?_
      refine k_ci (wr := []) [] rfl (by decide) [0, 1, 2, 3, 4, 5, 6, 7, 8, 9] rfl (by decide) hP hD hS hA (k_V (n := 1) (ci := 6) (As := [.int 2]) (rest := []) (wc := [(m0, .inr (6, [.int (nI (th)), .ref ms, .ref mv, .int (nI (sm)), .ref mt, .int (nI (ln)), .ref mh, .ref mb, .ref mg, .ref mq, .ref ml, .ref mf, .int nw, .int fw, .int (nI (tp)), .int (bI (wr)), .long dg])), (ms, .inl (G.2.1, 88, .inl s0)), (mv, .inl (G.2.1, 528, .inl sv)), (mt, .inl (G.2.1, 60, .inl tx)), (mh, .inl (G.2.1, 21, .inl ht)), (mb, .inl (G.2.1, 21, .inl bu)), (mg, .inl (G.2.1, 21, .inl hg)), (mq, .inl (G.2.1, 21, .inl pq)), (ml, .inl (G.2.1, 21, .inl ld)), (mf, .inl (G.2.1, 20, .inl fo))]) hx hb hml hown hts hK hP hD hl (c_X6_holds l G m0 ms mv mt mh mb mg mq ml mf th s0 sv sm tx ln ht bu hg pq ld fo nw fw tp wr dg 2 H.size (by first | assumption | omega)) [0, 1, 2, 3, 4, 5, 6, 7, 8, 9] rfl (by decide) gX6_link_X6_holds rfl rfl rfl (by decide +kernel) rfl ⟨Nat.le_of_ble_eq_true rfl, Nat.le_of_ble_eq_true rfl⟩ rfl rfl rfl (Nat.le_of_ble_eq_true rfl) dX6_link_31 ⟨Nat.le_of_ble_eq_true rfl, Nat.le_of_ble_eq_true rfl⟩) (fun r_31 u H locs hw hP hD hS => ?_)
      have hw_31 : r_31 = bI (decide (2 = 0)) := hw
      have hP : va_P G.1 vwCl [(m0, .inr (6, [.int (nI (2)), .ref ms, .ref mv, .int (nI (sm)), .ref mt, .int (nI (ln)), .ref mh, .ref mb, .ref mg, .ref mq, .ref ml, .ref mf, .int nw, .int fw, .int (nI (tp)), .int (bI (wr)), .long dg])), (ms, .inl (G.2.1, 88, .inl s0)), (mv, .inl (G.2.1, 528, .inl sv)), (mt, .inl (G.2.1, 60, .inl tx)), (mh, .inl (G.2.1, 21, .inl ht)), (mb, .inl (G.2.1, 21, .inl bu)), (mg, .inl (G.2.1, 21, .inl hg)), (mq, .inl (G.2.1, 21, .inl pq)), (ml, .inl (G.2.1, 21, .inl ld)), (mf, .inl (G.2.1, 20, .inl fo))] H := hP
      have hD : va_D A [(m0, .inr (6, [.int (nI (2)), .ref ms, .ref mv, .int (nI (sm)), .ref mt, .int (nI (ln)), .ref mh, .ref mb, .ref mg, .ref mq, .ref ml, .ref mf, .int nw, .int fw, .int (nI (tp)), .int (bI (wr)), .long dg])), (ms, .inl (G.2.1, 88, .inl s0)), (mv, .inl (G.2.1, 528, .inl sv)), (mt, .inl (G.2.1, 60, .inl tx)), (mh, .inl (G.2.1, 21, .inl ht)), (mb, .inl (G.2.1, 21, .inl bu)), (mg, .inl (G.2.1, 21, .inl hg)), (mq, .inl (G.2.1, 21, .inl pq)), (ml, .inl (G.2.1, 21, .inl ld)), (mf, .inl (G.2.1, 20, .inl fo))] := hD
      subst hw_31
      refine g_ti (y := nI 0) (by rw [decide_eq_false (by decide)]; rfl) ?_
      refine g_if_ne (a := 0) (tgt := 39) hx hb (by omega) dX6_link_34 (by decide) (fun c_34 => ?_) (fun c_34 => ?_)
      · exact absurd c_34 (by decide)
      · skip
        refine lv_iconst (v := 0) hx hb dX6_link_37 (by decide) ?_
        rw [hQ]
        exact k_iret (v := 0) () [0, 1, 2, 3, 4, 5, 6, 7, 8, 9] hx hb hr hlocks (rfl) hK hP hD hS rfl (by decide) dX6_link_38
  · exact absurd c_8 (by decide)
set_option maxHeartbeats 4000000 in
set_option maxRecDepth 100000 in
theorem c_X6_link_0 (l : Launch) (G : kG) (m0 : Nat) (ms : Nat) (mv : Nat) (mt : Nat) (mh : Nat) (mb : Nat) (mg : Nat) (mq : Nat) (ml : Nat) (mf : Nat) (th : Nat) (s0 : Fn) (sv : Fn) (sm : Nat) (tx : Fn) (ln : Nat) (ht : Fn) (bu : Fn) (hg : Fn) (pq : Fn) (ld : Fn) (fo : Fn) (nw : Int32) (fw : Int32) (tp : Nat) (wr : Bool) (dg : Int64) (v : Int32) (n : Nat) (sz : Nat) (hok : mOK s0 n) (hsm : sm ≤ 6) (h1 : -2 ≤ v ∧ v ≤ 2) (h2 : n < 20) : kMet l yX6_link wsX6_link ({ frames := 1, cells := 0, slots := 0, locals := 22 } : Room) G [.ref m0, .int v] [(m0, .inr (6, [.int (nI (th)), .ref ms, .ref mv, .int (nI (sm)), .ref mt, .int (nI (ln)), .ref mh, .ref mb, .ref mg, .ref mq, .ref ml, .ref mf, .int nw, .int fw, .int (nI (tp)), .int (bI (wr)), .long dg])), (ms, .inl (G.2.1, 88, .inl s0)), (mv, .inl (G.2.1, 528, .inl sv)), (mt, .inl (G.2.1, 60, .inl tx)), (mh, .inl (G.2.1, 21, .inl ht)), (mb, .inl (G.2.1, 21, .inl bu)), (mg, .inl (G.2.1, 21, .inl hg)), (mq, .inl (G.2.1, 21, .inl pq)), (ml, .inl (G.2.1, 21, .inl ld)), (mf, .inl (G.2.1, 20, .inl fo))] sz (kQi G (fun (r : Int32) (u : Unit) => r = nI (n + 1)) (fun (u : Unit) => [(m0, .inr (6, [.int (nI 0), .ref ms, .ref mv, .int (nI (mSM sm)), .ref mt, .int (nI (ln)), .ref mh, .ref mb, .ref mg, .ref mq, .ref ml, .ref mf, .int nw, .int fw, .int (nI (tp)), .int (bI (wr)), .long dg])), (ms, .inl (G.2.1, 88, .inl (mLink s0 n v))), (mv, .inl (G.2.1, 528, .inl (mSV sv sm s0))), (mt, .inl (G.2.1, 60, .inl tx)), (mh, .inl (G.2.1, 21, .inl ht)), (mb, .inl (G.2.1, 21, .inl bu)), (mg, .inl (G.2.1, 21, .inl hg)), (mq, .inl (G.2.1, 21, .inl pq)), (ml, .inl (G.2.1, 21, .inl ld)), (mf, .inl (G.2.1, 20, .inl fo))])) 0 0 := by
  refine k_entry (cc := cX6_link) (maxL := 2) (ret := (some .int)) (by decide) rfl (Nat.le_of_ble_eq_true rfl) ?_
  intro p e s m args below meth c A ls H locs Q hQ hx hb hml hr hts hown hlocks hin hA hP hK hD hS hl
  have hown : s.vm.findClass RX6 = some m.cls := hown
  have hl : lv_has ls 2 [(0, .ref m0), (1, .int v)] := hl
  have hf7 := hts (.fieldLink RX6 7 "HangingChainModel" "s" "[I") (by decide +kernel)
  have hinX6 : ∀ w ∈ wsX60, w ∈ wsX6_link := by decide +kernel
  obtain ⟨hs0, hn1, hn, hv⟩ := id hok
  refine lv_aload_n hx hb dX6_link_0 rfl (lv_at hl 0 rfl) ?_
  refine lv_iload_n hx hb dX6_link_1 rfl (lv_at hl 1 rfl) ?_
  refine lv_bipush (v := (-2)) hx hb dX6_link_2 (by decide) ?_
  refine lv_iconst (v := 2) hx hb dX6_link_4 (by decide) ?_
  refine k_ci (wr := [(m0, .inr (6, [.int (nI (th)), .ref ms, .ref mv, .int (nI (sm)), .ref mt, .int (nI (ln)), .ref mh, .ref mb, .ref mg, .ref mq, .ref ml, .ref mf, .int nw, .int fw, .int (nI (tp)), .int (bI (wr)), .long dg])), (ms, .inl (G.2.1, 88, .inl s0)), (mv, .inl (G.2.1, 528, .inl sv)), (mt, .inl (G.2.1, 60, .inl tx)), (mh, .inl (G.2.1, 21, .inl ht)), (mb, .inl (G.2.1, 21, .inl bu)), (mg, .inl (G.2.1, 21, .inl hg)), (mq, .inl (G.2.1, 21, .inl pq)), (ml, .inl (G.2.1, 21, .inl ld)), (mf, .inl (G.2.1, 20, .inl fo))]) [0, 1, 2, 3, 4, 5, 6, 7, 8, 9] rfl (by decide) [] rfl (by decide) hP hD hS hA (k_S (n := 3) (As := [.int v, .int (-2), .int 2]) (rest := [.ref m0]) (wc := []) hx hb hml hown hts hK hP hD hl (c_X6_in l G v (-2) 2 H.size) [] rfl (by decide) gX6_link_X6_in rfl rfl rfl (by decide +kernel) rfl ⟨Nat.le_of_ble_eq_true rfl, Nat.le_of_ble_eq_true rfl⟩ rfl (Nat.le_of_ble_eq_true rfl) dX6_link_5 ⟨Nat.le_of_ble_eq_true rfl, Nat.le_of_ble_eq_true rfl⟩) (fun r_5 u H locs hw hP hD hS => ?_)
  have hw_5 : r_5 = bI (decide ((-2) ≤ v ∧ v ≤ 2)) := hw
  have hP : va_P G.1 vwCl [(m0, .inr (6, [.int (nI (th)), .ref ms, .ref mv, .int (nI (sm)), .ref mt, .int (nI (ln)), .ref mh, .ref mb, .ref mg, .ref mq, .ref ml, .ref mf, .int nw, .int fw, .int (nI (tp)), .int (bI (wr)), .long dg])), (ms, .inl (G.2.1, 88, .inl s0)), (mv, .inl (G.2.1, 528, .inl sv)), (mt, .inl (G.2.1, 60, .inl tx)), (mh, .inl (G.2.1, 21, .inl ht)), (mb, .inl (G.2.1, 21, .inl bu)), (mg, .inl (G.2.1, 21, .inl hg)), (mq, .inl (G.2.1, 21, .inl pq)), (ml, .inl (G.2.1, 21, .inl ld)), (mf, .inl (G.2.1, 20, .inl fo))] H := hP
  have hD : va_D A [(m0, .inr (6, [.int (nI (th)), .ref ms, .ref mv, .int (nI (sm)), .ref mt, .int (nI (ln)), .ref mh, .ref mb, .ref mg, .ref mq, .ref ml, .ref mf, .int nw, .int fw, .int (nI (tp)), .int (bI (wr)), .long dg])), (ms, .inl (G.2.1, 88, .inl s0)), (mv, .inl (G.2.1, 528, .inl sv)), (mt, .inl (G.2.1, 60, .inl tx)), (mh, .inl (G.2.1, 21, .inl ht)), (mb, .inl (G.2.1, 21, .inl bu)), (mg, .inl (G.2.1, 21, .inl hg)), (mq, .inl (G.2.1, 21, .inl pq)), (ml, .inl (G.2.1, 21, .inl ld)), (mf, .inl (G.2.1, 20, .inl fo))] := hD
  subst hw_5
  refine g_ti (y := nI 1) (by rw [decide_eq_true h1]; rfl) ?_
  refine g_if_ne (a := 1) (tgt := 15) hx hb (by omega) dX6_link_8 (by decide) (fun c_8 => ?_) (fun c_8 => ?_)
  · skip
    refine lv_aload_n hx hb dX6_link_15 rfl (lv_at hl 0 rfl) ?_
    refine va_get (D := G.1) (ci := 6) (v := .ref ms) (C := RX6) (T := TX6) (N := 17) hx hb hts hinX6 hown hK hP 0 rfl rfl 1 (by decide) hf7 (fun _ h9 => h9) rfl dX6_link_16 ?_
    refine lv_iconst (v := 0) hx hb dX6_link_19 (by decide) ?_
    refine g_iald (k := 0) hx hb hK hP 1 rfl (by omega) (by omega) dX6_link_20 ?_
    refine g_ti (y := nI n) (hs0) ?_
    refine lv_bipush (v := 20) hx hb dX6_link_21 (by decide) ?_
    refine g_icmp_ne (a := n) (b := 20) (tgt := 30) hx hb (by omega) (by omega) dX6_link_23 (by decide) (fun c_23 => ?_) (fun c_23 => ?_)
    · skip
      refine lv_iconst (v := 0) hx hb dX6_link_30 (by decide) ?_
      refine k_ci (wr := []) [] rfl (by decide) [0, 1, 2, 3, 4, 5, 6, 7, 8, 9] rfl (by decide) hP hD hS hA (k_V (n := 1) (ci := 6) (As := [.int 0]) (rest := []) (wc := [(m0, .inr (6, [.int (nI (th)), .ref ms, .ref mv, .int (nI (sm)), .ref mt, .int (nI (ln)), .ref mh, .ref mb, .ref mg, .ref mq, .ref ml, .ref mf, .int nw, .int fw, .int (nI (tp)), .int (bI (wr)), .long dg])), (ms, .inl (G.2.1, 88, .inl s0)), (mv, .inl (G.2.1, 528, .inl sv)), (mt, .inl (G.2.1, 60, .inl tx)), (mh, .inl (G.2.1, 21, .inl ht)), (mb, .inl (G.2.1, 21, .inl bu)), (mg, .inl (G.2.1, 21, .inl hg)), (mq, .inl (G.2.1, 21, .inl pq)), (ml, .inl (G.2.1, 21, .inl ld)), (mf, .inl (G.2.1, 20, .inl fo))]) hx hb hml hown hts hK hP hD hl (c_X6_holds l G m0 ms mv mt mh mb mg mq ml mf th s0 sv sm tx ln ht bu hg pq ld fo nw fw tp wr dg 0 H.size (by first | assumption | omega)) [0, 1, 2, 3, 4, 5, 6, 7, 8, 9] rfl (by decide) gX6_link_X6_holds rfl rfl rfl (by decide +kernel) rfl ⟨Nat.le_of_ble_eq_true rfl, Nat.le_of_ble_eq_true rfl⟩ rfl rfl rfl (Nat.le_of_ble_eq_true rfl) dX6_link_31 ⟨Nat.le_of_ble_eq_true rfl, Nat.le_of_ble_eq_true rfl⟩) (fun r_31 u H locs hw hP hD hS => ?_)
      have hw_31 : r_31 = bI (decide (0 = 0)) := hw
      have hP : va_P G.1 vwCl [(m0, .inr (6, [.int (nI (0)), .ref ms, .ref mv, .int (nI (sm)), .ref mt, .int (nI (ln)), .ref mh, .ref mb, .ref mg, .ref mq, .ref ml, .ref mf, .int nw, .int fw, .int (nI (tp)), .int (bI (wr)), .long dg])), (ms, .inl (G.2.1, 88, .inl s0)), (mv, .inl (G.2.1, 528, .inl sv)), (mt, .inl (G.2.1, 60, .inl tx)), (mh, .inl (G.2.1, 21, .inl ht)), (mb, .inl (G.2.1, 21, .inl bu)), (mg, .inl (G.2.1, 21, .inl hg)), (mq, .inl (G.2.1, 21, .inl pq)), (ml, .inl (G.2.1, 21, .inl ld)), (mf, .inl (G.2.1, 20, .inl fo))] H := hP
      have hD : va_D A [(m0, .inr (6, [.int (nI (0)), .ref ms, .ref mv, .int (nI (sm)), .ref mt, .int (nI (ln)), .ref mh, .ref mb, .ref mg, .ref mq, .ref ml, .ref mf, .int nw, .int fw, .int (nI (tp)), .int (bI (wr)), .long dg])), (ms, .inl (G.2.1, 88, .inl s0)), (mv, .inl (G.2.1, 528, .inl sv)), (mt, .inl (G.2.1, 60, .inl tx)), (mh, .inl (G.2.1, 21, .inl ht)), (mb, .inl (G.2.1, 21, .inl bu)), (mg, .inl (G.2.1, 21, .inl hg)), (mq, .inl (G.2.1, 21, .inl pq)), (ml, .inl (G.2.1, 21, .inl ld)), (mf, .inl (G.2.1, 20, .inl fo))] := hD
      subst hw_31
      refine g_ti (y := nI 1) (by rw [decide_eq_true (show (0 : Nat) = 0 from rfl)]; rfl) ?_
      refine g_if_ne (a := 1) (tgt := 39) hx hb (by omega) dX6_link_34 (by decide) (fun c_34 => ?_) (fun c_34 => ?_)
      · skip
        refine lv_aload_n hx hb dX6_link_39 rfl (lv_at hl 0 rfl) ?_
        refine k_cv (wr := []) [] rfl (by decide) [0, 1, 2, 3, 4, 5, 6, 7, 8, 9] rfl (by decide) hP hD hS hA (k_V (n := 0) (ci := 6) (As := []) (rest := []) (wc := [(m0, .inr (6, [.int (nI (0)), .ref ms, .ref mv, .int (nI (sm)), .ref mt, .int (nI (ln)), .ref mh, .ref mb, .ref mg, .ref mq, .ref ml, .ref mf, .int nw, .int fw, .int (nI (tp)), .int (bI (wr)), .long dg])), (ms, .inl (G.2.1, 88, .inl s0)), (mv, .inl (G.2.1, 528, .inl sv)), (mt, .inl (G.2.1, 60, .inl tx)), (mh, .inl (G.2.1, 21, .inl ht)), (mb, .inl (G.2.1, 21, .inl bu)), (mg, .inl (G.2.1, 21, .inl hg)), (mq, .inl (G.2.1, 21, .inl pq)), (ml, .inl (G.2.1, 21, .inl ld)), (mf, .inl (G.2.1, 20, .inl fo))]) hx hb hml hown hts hK hP hD hl (c_X6_save l G m0 ms mv mt mh mb mg mq ml mf 0 s0 sv sm tx ln ht bu hg pq ld fo nw fw tp wr dg H.size (by first | assumption | omega)) [0, 1, 2, 3, 4, 5, 6, 7, 8, 9] rfl (by decide) gX6_link_X6_save rfl rfl rfl (by decide +kernel) rfl ⟨Nat.le_of_ble_eq_true rfl, Nat.le_of_ble_eq_true rfl⟩ rfl rfl rfl (Nat.le_of_ble_eq_true rfl) dX6_link_40 ⟨Nat.le_of_ble_eq_true rfl, Nat.le_of_ble_eq_true rfl⟩) (fun u H locs hw hP hD hS => ?_)
        have hw_40 : True := hw
        have hP : va_P G.1 vwCl [(m0, .inr (6, [.int (nI (0)), .ref ms, .ref mv, .int (nI (mSM sm)), .ref mt, .int (nI (ln)), .ref mh, .ref mb, .ref mg, .ref mq, .ref ml, .ref mf, .int nw, .int fw, .int (nI (tp)), .int (bI (wr)), .long dg])), (ms, .inl (G.2.1, 88, .inl s0)), (mv, .inl (G.2.1, 528, .inl (mSV sv sm s0))), (mt, .inl (G.2.1, 60, .inl tx)), (mh, .inl (G.2.1, 21, .inl ht)), (mb, .inl (G.2.1, 21, .inl bu)), (mg, .inl (G.2.1, 21, .inl hg)), (mq, .inl (G.2.1, 21, .inl pq)), (ml, .inl (G.2.1, 21, .inl ld)), (mf, .inl (G.2.1, 20, .inl fo))] H := hP
        have hD : va_D A [(m0, .inr (6, [.int (nI (0)), .ref ms, .ref mv, .int (nI (mSM sm)), .ref mt, .int (nI (ln)), .ref mh, .ref mb, .ref mg, .ref mq, .ref ml, .ref mf, .int nw, .int fw, .int (nI (tp)), .int (bI (wr)), .long dg])), (ms, .inl (G.2.1, 88, .inl s0)), (mv, .inl (G.2.1, 528, .inl (mSV sv sm s0))), (mt, .inl (G.2.1, 60, .inl tx)), (mh, .inl (G.2.1, 21, .inl ht)), (mb, .inl (G.2.1, 21, .inl bu)), (mg, .inl (G.2.1, 21, .inl hg)), (mq, .inl (G.2.1, 21, .inl pq)), (ml, .inl (G.2.1, 21, .inl ld)), (mf, .inl (G.2.1, 20, .inl fo))] := hD
        refine lv_aload_n hx hb dX6_link_43 rfl (lv_at hl 0 rfl) ?_
        refine va_get (D := G.1) (ci := 6) (v := .ref ms) (C := RX6) (T := TX6) (N := 17) hx hb hts hinX6 hown hK hP 0 rfl rfl 1 (by decide) hf7 (fun _ h9 => h9) rfl dX6_link_44 ?_
        refine lv_iconst (v := 5) hx hb dX6_link_47 (by decide) ?_
        refine lv_aload_n hx hb dX6_link_48 rfl (lv_at hl 0 rfl) ?_
        refine va_get (D := G.1) (ci := 6) (v := .ref ms) (C := RX6) (T := TX6) (N := 17) hx hb hts hinX6 hown hK hP 0 rfl rfl 1 (by decide) hf7 (fun _ h9 => h9) rfl dX6_link_49 ?_
        refine lv_iconst (v := 0) hx hb dX6_link_52 (by decide) ?_
        refine g_iald (k := 0) hx hb hK hP 1 rfl (by omega) (by omega) dX6_link_53 ?_
        refine g_ti (y := nI n) (hs0) ?_
        refine lv_iadd hx hb dX6_link_54 ?_
        refine g_ti (y := nI (5 + n)) (nI_add (5) (n)) ?_
        refine lv_iload_n hx hb dX6_link_55 rfl (lv_at hl 1 rfl) ?_
        refine g_iast (k := 5 + n) hx hb hK hP hD hS 1 rfl (by omega) (by omega) dX6_link_56 (fun H locs hP hD hS => ?_)
        have hP : va_P G.1 vwCl [(m0, .inr (6, [.int (nI (0)), .ref ms, .ref mv, .int (nI (mSM sm)), .ref mt, .int (nI (ln)), .ref mh, .ref mb, .ref mg, .ref mq, .ref ml, .ref mf, .int nw, .int fw, .int (nI (tp)), .int (bI (wr)), .long dg])), (ms, .inl (G.2.1, 88, .inl (upd s0 (5 + n) v))), (mv, .inl (G.2.1, 528, .inl (mSV sv sm s0))), (mt, .inl (G.2.1, 60, .inl tx)), (mh, .inl (G.2.1, 21, .inl ht)), (mb, .inl (G.2.1, 21, .inl bu)), (mg, .inl (G.2.1, 21, .inl hg)), (mq, .inl (G.2.1, 21, .inl pq)), (ml, .inl (G.2.1, 21, .inl ld)), (mf, .inl (G.2.1, 20, .inl fo))] H := hP
        have hD : va_D A [(m0, .inr (6, [.int (nI (0)), .ref ms, .ref mv, .int (nI (mSM sm)), .ref mt, .int (nI (ln)), .ref mh, .ref mb, .ref mg, .ref mq, .ref ml, .ref mf, .int nw, .int fw, .int (nI (tp)), .int (bI (wr)), .long dg])), (ms, .inl (G.2.1, 88, .inl (upd s0 (5 + n) v))), (mv, .inl (G.2.1, 528, .inl (mSV sv sm s0))), (mt, .inl (G.2.1, 60, .inl tx)), (mh, .inl (G.2.1, 21, .inl ht)), (mb, .inl (G.2.1, 21, .inl bu)), (mg, .inl (G.2.1, 21, .inl hg)), (mq, .inl (G.2.1, 21, .inl pq)), (ml, .inl (G.2.1, 21, .inl ld)), (mf, .inl (G.2.1, 20, .inl fo))] := hD
        refine lv_aload_n hx hb dX6_link_57 rfl (lv_at hl 0 rfl) ?_
        refine va_get (D := G.1) (ci := 6) (v := .ref ms) (C := RX6) (T := TX6) (N := 17) hx hb hts hinX6 hown hK hP 0 rfl rfl 1 (by decide) hf7 (fun _ h9 => h9) rfl dX6_link_58 ?_
        refine lv_iconst (v := 0) hx hb dX6_link_61 (by decide) ?_
        refine lv_dup2_11 hx hb dX6_link_62 rfl rfl ?_
        refine g_iald (k := 0) hx hb hK hP 1 rfl (by omega) (by omega) dX6_link_63 ?_
        refine g_ti (y := nI n) (by rw [pk_un (by omega)]; exact hs0) ?_
        refine lv_iconst (v := 1) hx hb dX6_link_64 (by decide) ?_
        refine lv_iadd hx hb dX6_link_65 ?_
        refine g_ti (y := nI (n + 1)) (nI_add (n) (1)) ?_
        refine g_iast (k := 0) hx hb hK hP hD hS 1 rfl (by omega) (by omega) dX6_link_66 (fun H locs hP hD hS => ?_)
        have hP : va_P G.1 vwCl [(m0, .inr (6, [.int (nI (0)), .ref ms, .ref mv, .int (nI (mSM sm)), .ref mt, .int (nI (ln)), .ref mh, .ref mb, .ref mg, .ref mq, .ref ml, .ref mf, .int nw, .int fw, .int (nI (tp)), .int (bI (wr)), .long dg])), (ms, .inl (G.2.1, 88, .inl (upd (upd s0 (5 + n) v) 0 (nI (n + 1))))), (mv, .inl (G.2.1, 528, .inl (mSV sv sm s0))), (mt, .inl (G.2.1, 60, .inl tx)), (mh, .inl (G.2.1, 21, .inl ht)), (mb, .inl (G.2.1, 21, .inl bu)), (mg, .inl (G.2.1, 21, .inl hg)), (mq, .inl (G.2.1, 21, .inl pq)), (ml, .inl (G.2.1, 21, .inl ld)), (mf, .inl (G.2.1, 20, .inl fo))] H := hP
        have hD : va_D A [(m0, .inr (6, [.int (nI (0)), .ref ms, .ref mv, .int (nI (mSM sm)), .ref mt, .int (nI (ln)), .ref mh, .ref mb, .ref mg, .ref mq, .ref ml, .ref mf, .int nw, .int fw, .int (nI (tp)), .int (bI (wr)), .long dg])), (ms, .inl (G.2.1, 88, .inl (upd (upd s0 (5 + n) v) 0 (nI (n + 1))))), (mv, .inl (G.2.1, 528, .inl (mSV sv sm s0))), (mt, .inl (G.2.1, 60, .inl tx)), (mh, .inl (G.2.1, 21, .inl ht)), (mb, .inl (G.2.1, 21, .inl bu)), (mg, .inl (G.2.1, 21, .inl hg)), (mq, .inl (G.2.1, 21, .inl pq)), (ml, .inl (G.2.1, 21, .inl ld)), (mf, .inl (G.2.1, 20, .inl fo))] := hD
        refine lv_aload_n hx hb dX6_link_67 rfl (lv_at hl 0 rfl) ?_
        refine lv_aload_n hx hb dX6_link_68 rfl (lv_at hl 0 rfl) ?_
        refine va_get (D := G.1) (ci := 6) (v := .ref ms) (C := RX6) (T := TX6) (N := 17) hx hb hts hinX6 hown hK hP 0 rfl rfl 1 (by decide) hf7 (fun _ h9 => h9) rfl dX6_link_69 ?_
        refine lv_iconst (v := 0) hx hb dX6_link_72 (by decide) ?_
        refine g_iald (k := 0) hx hb hK hP 1 rfl (by omega) (by omega) dX6_link_73 ?_
        refine g_ti (y := nI (n + 1)) (rfl) ?_
        refine k_cv (wr := []) [] rfl (by decide) [0, 1, 2, 3, 4, 5, 6, 7, 8, 9] rfl (by decide) hP hD hS hA (k_V (n := 1) (ci := 6) (As := [.int (nI (n + 1))]) (rest := []) (wc := [(m0, .inr (6, [.int (nI (0)), .ref ms, .ref mv, .int (nI ((mSM sm))), .ref mt, .int (nI (ln)), .ref mh, .ref mb, .ref mg, .ref mq, .ref ml, .ref mf, .int nw, .int fw, .int (nI (tp)), .int (bI (wr)), .long dg])), (ms, .inl (G.2.1, 88, .inl (upd (upd s0 (5 + n) v) 0 (nI (n + 1))))), (mv, .inl (G.2.1, 528, .inl (mSV sv sm s0))), (mt, .inl (G.2.1, 60, .inl tx)), (mh, .inl (G.2.1, 21, .inl ht)), (mb, .inl (G.2.1, 21, .inl bu)), (mg, .inl (G.2.1, 21, .inl hg)), (mq, .inl (G.2.1, 21, .inl pq)), (ml, .inl (G.2.1, 21, .inl ld)), (mf, .inl (G.2.1, 20, .inl fo))]) hx hb hml hown hts hK hP hD hl (c_X6_noMore l G m0 ms mv mt mh mb mg mq ml mf 0 (upd (upd s0 (5 + n) v) 0 (nI (n + 1))) (mSV sv sm s0) (mSM sm) tx ln ht bu hg pq ld fo nw fw tp wr dg (n + 1) H.size (by first | assumption | omega)) [0, 1, 2, 3, 4, 5, 6, 7, 8, 9] rfl (by decide) gX6_link_X6_noMore rfl rfl rfl (by decide +kernel) rfl ⟨Nat.le_of_ble_eq_true rfl, Nat.le_of_ble_eq_true rfl⟩ rfl rfl rfl (Nat.le_of_ble_eq_true rfl) dX6_link_74 ⟨Nat.le_of_ble_eq_true rfl, Nat.le_of_ble_eq_true rfl⟩) (fun u H locs hw hP hD hS => ?_)
        have hw_74 : True := hw
        have hP : va_P G.1 vwCl [(m0, .inr (6, [.int (nI (0)), .ref ms, .ref mv, .int (nI ((mSM sm))), .ref mt, .int (nI (ln)), .ref mh, .ref mb, .ref mg, .ref mq, .ref ml, .ref mf, .int nw, .int fw, .int (nI (tp)), .int (bI (wr)), .long dg])), (ms, .inl (G.2.1, 88, .inl (noM (upd (upd s0 (5 + n) v) 0 (nI (n + 1))) (n + 1)))), (mv, .inl (G.2.1, 528, .inl (mSV sv sm s0))), (mt, .inl (G.2.1, 60, .inl tx)), (mh, .inl (G.2.1, 21, .inl ht)), (mb, .inl (G.2.1, 21, .inl bu)), (mg, .inl (G.2.1, 21, .inl hg)), (mq, .inl (G.2.1, 21, .inl pq)), (ml, .inl (G.2.1, 21, .inl ld)), (mf, .inl (G.2.1, 20, .inl fo))] H := hP
        have hD : va_D A [(m0, .inr (6, [.int (nI (0)), .ref ms, .ref mv, .int (nI ((mSM sm))), .ref mt, .int (nI (ln)), .ref mh, .ref mb, .ref mg, .ref mq, .ref ml, .ref mf, .int nw, .int fw, .int (nI (tp)), .int (bI (wr)), .long dg])), (ms, .inl (G.2.1, 88, .inl (noM (upd (upd s0 (5 + n) v) 0 (nI (n + 1))) (n + 1)))), (mv, .inl (G.2.1, 528, .inl (mSV sv sm s0))), (mt, .inl (G.2.1, 60, .inl tx)), (mh, .inl (G.2.1, 21, .inl ht)), (mb, .inl (G.2.1, 21, .inl bu)), (mg, .inl (G.2.1, 21, .inl hg)), (mq, .inl (G.2.1, 21, .inl pq)), (ml, .inl (G.2.1, 21, .inl ld)), (mf, .inl (G.2.1, 20, .inl fo))] := hD
        refine lv_aload_n hx hb dX6_link_77 rfl (lv_at hl 0 rfl) ?_
        refine va_get (D := G.1) (ci := 6) (v := .ref ms) (C := RX6) (T := TX6) (N := 17) hx hb hts hinX6 hown hK hP 0 rfl rfl 1 (by decide) hf7 (fun _ h9 => h9) rfl dX6_link_78 ?_
        refine lv_iconst (v := 0) hx hb dX6_link_81 (by decide) ?_
        refine g_iald (k := 0) hx hb hK hP 1 rfl (by omega) (by omega) dX6_link_82 ?_
        refine g_ti (y := nI (n + 1)) (noM_0 _ _) ?_
        rw [hQ]
        exact k_iret (v := nI (n + 1)) () [0, 1, 2, 3, 4, 5, 6, 7, 8, 9] hx hb hr hlocks (rfl) hK hP hD hS rfl (by decide) dX6_link_83
      · exact absurd c_34 (by decide)
    · omega
  · exact absurd c_8 (by decide)
set_option maxHeartbeats 4000000 in
set_option maxRecDepth 100000 in
theorem c_X6_cut_1 (l : Launch) (G : kG) (m0 : Nat) (ms : Nat) (mv : Nat) (mt : Nat) (mh : Nat) (mb : Nat) (mg : Nat) (mq : Nat) (ml : Nat) (mf : Nat) (th : Nat) (s0 : Fn) (sv : Fn) (sm : Nat) (tx : Fn) (ln : Nat) (ht : Fn) (bu : Fn) (hg : Fn) (pq : Fn) (ld : Fn) (fo : Fn) (nw : Int32) (fw : Int32) (tp : Nat) (wr : Bool) (dg : Int64) (k : Int32) (n : Nat) (sz : Nat) (hok : mOK s0 n) (h1 : isN k n = false) : kMet l yX6_cut wsX6_cut ({ frames := 2, cells := 0, slots := 0, locals := 43 } : Room) G [.ref m0, .int k] [(m0, .inr (6, [.int (nI (th)), .ref ms, .ref mv, .int (nI (sm)), .ref mt, .int (nI (ln)), .ref mh, .ref mb, .ref mg, .ref mq, .ref ml, .ref mf, .int nw, .int fw, .int (nI (tp)), .int (bI (wr)), .long dg])), (ms, .inl (G.2.1, 88, .inl s0)), (mv, .inl (G.2.1, 528, .inl sv)), (mt, .inl (G.2.1, 60, .inl tx)), (mh, .inl (G.2.1, 21, .inl ht)), (mb, .inl (G.2.1, 21, .inl bu)), (mg, .inl (G.2.1, 21, .inl hg)), (mq, .inl (G.2.1, 21, .inl pq)), (ml, .inl (G.2.1, 21, .inl ld)), (mf, .inl (G.2.1, 20, .inl fo))] sz (kQi G (fun (r : Int32) (u : Unit) => r = 0) (fun (u : Unit) => [(m0, .inr (6, [.int (nI 1), .ref ms, .ref mv, .int (nI (sm)), .ref mt, .int (nI (ln)), .ref mh, .ref mb, .ref mg, .ref mq, .ref ml, .ref mf, .int nw, .int fw, .int (nI (tp)), .int (bI (wr)), .long dg])), (ms, .inl (G.2.1, 88, .inl s0)), (mv, .inl (G.2.1, 528, .inl sv)), (mt, .inl (G.2.1, 60, .inl tx)), (mh, .inl (G.2.1, 21, .inl ht)), (mb, .inl (G.2.1, 21, .inl bu)), (mg, .inl (G.2.1, 21, .inl hg)), (mq, .inl (G.2.1, 21, .inl pq)), (ml, .inl (G.2.1, 21, .inl ld)), (mf, .inl (G.2.1, 20, .inl fo))])) 0 0 := by
  refine k_entry (cc := cX6_cut) (maxL := 3) (ret := (some .int)) (by decide) rfl (Nat.le_of_ble_eq_true rfl) ?_
  intro p e s m args below meth c A ls H locs Q hQ hx hb hml hr hts hown hlocks hin hA hP hK hD hS hl
  have hown : s.vm.findClass RX6 = some m.cls := hown
  have hl : lv_has ls 3 [(0, .ref m0), (1, .int k)] := hl
  obtain ⟨hs0, hn1, hn, hv⟩ := id hok
  refine lv_aload_n hx hb dX6_cut_0 rfl (lv_at hl 0 rfl) ?_
  refine lv_aload_n hx hb dX6_cut_1 rfl (lv_at hl 0 rfl) ?_
  refine lv_iload_n hx hb dX6_cut_2 rfl (lv_at hl 1 rfl) ?_
  refine k_ci (wr := []) [] rfl (by decide) [0, 1, 2, 3, 4, 5, 6, 7, 8, 9] rfl (by decide) hP hD hS hA (k_V (n := 1) (ci := 6) (As := [.int k]) (rest := [.ref m0]) (wc := [(m0, .inr (6, [.int (nI (th)), .ref ms, .ref mv, .int (nI (sm)), .ref mt, .int (nI (ln)), .ref mh, .ref mb, .ref mg, .ref mq, .ref ml, .ref mf, .int nw, .int fw, .int (nI (tp)), .int (bI (wr)), .long dg])), (ms, .inl (G.2.1, 88, .inl s0)), (mv, .inl (G.2.1, 528, .inl sv)), (mt, .inl (G.2.1, 60, .inl tx)), (mh, .inl (G.2.1, 21, .inl ht)), (mb, .inl (G.2.1, 21, .inl bu)), (mg, .inl (G.2.1, 21, .inl hg)), (mq, .inl (G.2.1, 21, .inl pq)), (ml, .inl (G.2.1, 21, .inl ld)), (mf, .inl (G.2.1, 20, .inl fo))]) hx hb hml hown hts hK hP hD hl (c_X6_isLink l G m0 ms mv mt mh mb mg mq ml mf th s0 sv sm tx ln ht bu hg pq ld fo nw fw tp wr dg k n H.size (by first | assumption | omega)) [0, 1, 2, 3, 4, 5, 6, 7, 8, 9] rfl (by decide) gX6_cut_X6_isLink rfl rfl rfl (by decide +kernel) rfl ⟨Nat.le_of_ble_eq_true rfl, Nat.le_of_ble_eq_true rfl⟩ rfl rfl rfl (Nat.le_of_ble_eq_true rfl) dX6_cut_3 ⟨Nat.le_of_ble_eq_true rfl, Nat.le_of_ble_eq_true rfl⟩) (fun r_3 u H locs hw hP hD hS => ?_)
  have hw_3 : r_3 = bI (isN k n) := hw
  have hP : va_P G.1 vwCl [(m0, .inr (6, [.int (nI (th)), .ref ms, .ref mv, .int (nI (sm)), .ref mt, .int (nI (ln)), .ref mh, .ref mb, .ref mg, .ref mq, .ref ml, .ref mf, .int nw, .int fw, .int (nI (tp)), .int (bI (wr)), .long dg])), (ms, .inl (G.2.1, 88, .inl s0)), (mv, .inl (G.2.1, 528, .inl sv)), (mt, .inl (G.2.1, 60, .inl tx)), (mh, .inl (G.2.1, 21, .inl ht)), (mb, .inl (G.2.1, 21, .inl bu)), (mg, .inl (G.2.1, 21, .inl hg)), (mq, .inl (G.2.1, 21, .inl pq)), (ml, .inl (G.2.1, 21, .inl ld)), (mf, .inl (G.2.1, 20, .inl fo))] H := hP
  have hD : va_D A [(m0, .inr (6, [.int (nI (th)), .ref ms, .ref mv, .int (nI (sm)), .ref mt, .int (nI (ln)), .ref mh, .ref mb, .ref mg, .ref mq, .ref ml, .ref mf, .int nw, .int fw, .int (nI (tp)), .int (bI (wr)), .long dg])), (ms, .inl (G.2.1, 88, .inl s0)), (mv, .inl (G.2.1, 528, .inl sv)), (mt, .inl (G.2.1, 60, .inl tx)), (mh, .inl (G.2.1, 21, .inl ht)), (mb, .inl (G.2.1, 21, .inl bu)), (mg, .inl (G.2.1, 21, .inl hg)), (mq, .inl (G.2.1, 21, .inl pq)), (ml, .inl (G.2.1, 21, .inl ld)), (mf, .inl (G.2.1, 20, .inl fo))] := hD
  subst hw_3
  refine g_ti (y := nI 0) (by rw [h1]; rfl) ?_
  refine g_if_ne (a := 0) (tgt := 13) hx hb (by omega) dX6_cut_6 (by decide) (fun c_6 => ?_) (fun c_6 => ?_)
  · exact absurd c_6 (by decide)
  · skip
    refine lv_iconst (v := 1) hx hb dX6_cut_9 (by decide) ?_
    refine lv_goto (tgt := 28) hx hb dX6_cut_10 (by decide) ?_
    refine k_ci (wr := []) [] rfl (by decide) [0, 1, 2, 3, 4, 5, 6, 7, 8, 9] rfl (by decide) hP hD hS hA (k_V (n := 1) (ci := 6) (As := [.int 1]) (rest := []) (wc := [(m0, .inr (6, [.int (nI (th)), .ref ms, .ref mv, .int (nI (sm)), .ref mt, .int (nI (ln)), .ref mh, .ref mb, .ref mg, .ref mq, .ref ml, .ref mf, .int nw, .int fw, .int (nI (tp)), .int (bI (wr)), .long dg])), (ms, .inl (G.2.1, 88, .inl s0)), (mv, .inl (G.2.1, 528, .inl sv)), (mt, .inl (G.2.1, 60, .inl tx)), (mh, .inl (G.2.1, 21, .inl ht)), (mb, .inl (G.2.1, 21, .inl bu)), (mg, .inl (G.2.1, 21, .inl hg)), (mq, .inl (G.2.1, 21, .inl pq)), (ml, .inl (G.2.1, 21, .inl ld)), (mf, .inl (G.2.1, 20, .inl fo))]) hx hb hml hown hts hK hP hD hl (c_X6_holds l G m0 ms mv mt mh mb mg mq ml mf th s0 sv sm tx ln ht bu hg pq ld fo nw fw tp wr dg 1 H.size (by first | assumption | omega)) [0, 1, 2, 3, 4, 5, 6, 7, 8, 9] rfl (by decide) gX6_cut_X6_holds rfl rfl rfl (by decide +kernel) rfl ⟨Nat.le_of_ble_eq_true rfl, Nat.le_of_ble_eq_true rfl⟩ rfl rfl rfl (Nat.le_of_ble_eq_true rfl) dX6_cut_28 ⟨Nat.le_of_ble_eq_true rfl, Nat.le_of_ble_eq_true rfl⟩) (fun r_28 u H locs hw hP hD hS => ?_)
    have hw_28 : r_28 = bI (decide (1 = 0)) := hw
    have hP : va_P G.1 vwCl [(m0, .inr (6, [.int (nI (1)), .ref ms, .ref mv, .int (nI (sm)), .ref mt, .int (nI (ln)), .ref mh, .ref mb, .ref mg, .ref mq, .ref ml, .ref mf, .int nw, .int fw, .int (nI (tp)), .int (bI (wr)), .long dg])), (ms, .inl (G.2.1, 88, .inl s0)), (mv, .inl (G.2.1, 528, .inl sv)), (mt, .inl (G.2.1, 60, .inl tx)), (mh, .inl (G.2.1, 21, .inl ht)), (mb, .inl (G.2.1, 21, .inl bu)), (mg, .inl (G.2.1, 21, .inl hg)), (mq, .inl (G.2.1, 21, .inl pq)), (ml, .inl (G.2.1, 21, .inl ld)), (mf, .inl (G.2.1, 20, .inl fo))] H := hP
    have hD : va_D A [(m0, .inr (6, [.int (nI (1)), .ref ms, .ref mv, .int (nI (sm)), .ref mt, .int (nI (ln)), .ref mh, .ref mb, .ref mg, .ref mq, .ref ml, .ref mf, .int nw, .int fw, .int (nI (tp)), .int (bI (wr)), .long dg])), (ms, .inl (G.2.1, 88, .inl s0)), (mv, .inl (G.2.1, 528, .inl sv)), (mt, .inl (G.2.1, 60, .inl tx)), (mh, .inl (G.2.1, 21, .inl ht)), (mb, .inl (G.2.1, 21, .inl bu)), (mg, .inl (G.2.1, 21, .inl hg)), (mq, .inl (G.2.1, 21, .inl pq)), (ml, .inl (G.2.1, 21, .inl ld)), (mf, .inl (G.2.1, 20, .inl fo))] := hD
    subst hw_28
    refine g_ti (y := nI 0) (by rw [decide_eq_false (by decide)]; rfl) ?_
    refine g_if_ne (a := 0) (tgt := 36) hx hb (by omega) dX6_cut_31 (by decide) (fun c_31 => ?_) (fun c_31 => ?_)
    · exact absurd c_31 (by decide)
    · skip
      refine lv_iconst (v := 0) hx hb dX6_cut_34 (by decide) ?_
      rw [hQ]
      exact k_iret (v := 0) () [0, 1, 2, 3, 4, 5, 6, 7, 8, 9] hx hb hr hlocks (rfl) hK hP hD hS rfl (by decide) dX6_cut_35
set_option maxHeartbeats 4000000 in
set_option maxRecDepth 100000 in
theorem c_X6_cut_2 (l : Launch) (G : kG) (m0 : Nat) (ms : Nat) (mv : Nat) (mt : Nat) (mh : Nat) (mb : Nat) (mg : Nat) (mq : Nat) (ml : Nat) (mf : Nat) (th : Nat) (s0 : Fn) (sv : Fn) (sm : Nat) (tx : Fn) (ln : Nat) (ht : Fn) (bu : Fn) (hg : Fn) (pq : Fn) (ld : Fn) (fo : Fn) (nw : Int32) (fw : Int32) (tp : Nat) (wr : Bool) (dg : Int64) (k : Int32) (n : Nat) (sz : Nat) (hok : mOK s0 n) (h1 : isN k n = true) (h2 : n = 1) : kMet l yX6_cut wsX6_cut ({ frames := 2, cells := 0, slots := 0, locals := 43 } : Room) G [.ref m0, .int k] [(m0, .inr (6, [.int (nI (th)), .ref ms, .ref mv, .int (nI (sm)), .ref mt, .int (nI (ln)), .ref mh, .ref mb, .ref mg, .ref mq, .ref ml, .ref mf, .int nw, .int fw, .int (nI (tp)), .int (bI (wr)), .long dg])), (ms, .inl (G.2.1, 88, .inl s0)), (mv, .inl (G.2.1, 528, .inl sv)), (mt, .inl (G.2.1, 60, .inl tx)), (mh, .inl (G.2.1, 21, .inl ht)), (mb, .inl (G.2.1, 21, .inl bu)), (mg, .inl (G.2.1, 21, .inl hg)), (mq, .inl (G.2.1, 21, .inl pq)), (ml, .inl (G.2.1, 21, .inl ld)), (mf, .inl (G.2.1, 20, .inl fo))] sz (kQi G (fun (r : Int32) (u : Unit) => r = 0) (fun (u : Unit) => [(m0, .inr (6, [.int (nI 2), .ref ms, .ref mv, .int (nI (sm)), .ref mt, .int (nI (ln)), .ref mh, .ref mb, .ref mg, .ref mq, .ref ml, .ref mf, .int nw, .int fw, .int (nI (tp)), .int (bI (wr)), .long dg])), (ms, .inl (G.2.1, 88, .inl s0)), (mv, .inl (G.2.1, 528, .inl sv)), (mt, .inl (G.2.1, 60, .inl tx)), (mh, .inl (G.2.1, 21, .inl ht)), (mb, .inl (G.2.1, 21, .inl bu)), (mg, .inl (G.2.1, 21, .inl hg)), (mq, .inl (G.2.1, 21, .inl pq)), (ml, .inl (G.2.1, 21, .inl ld)), (mf, .inl (G.2.1, 20, .inl fo))])) 0 0 := by
  refine k_entry (cc := cX6_cut) (maxL := 3) (ret := (some .int)) (by decide) rfl (Nat.le_of_ble_eq_true rfl) ?_
  intro p e s m args below meth c A ls H locs Q hQ hx hb hml hr hts hown hlocks hin hA hP hK hD hS hl
  have hown : s.vm.findClass RX6 = some m.cls := hown
  have hl : lv_has ls 3 [(0, .ref m0), (1, .int k)] := hl
  have hf7 := hts (.fieldLink RX6 7 "HangingChainModel" "s" "[I") (by decide +kernel)
  have hinX6 : ∀ w ∈ wsX60, w ∈ wsX6_cut := by decide +kernel
  obtain ⟨hs0, hn1, hn, hv⟩ := id hok
  refine lv_aload_n hx hb dX6_cut_0 rfl (lv_at hl 0 rfl) ?_
  refine lv_aload_n hx hb dX6_cut_1 rfl (lv_at hl 0 rfl) ?_
  refine lv_iload_n hx hb dX6_cut_2 rfl (lv_at hl 1 rfl) ?_
  refine k_ci (wr := []) [] rfl (by decide) [0, 1, 2, 3, 4, 5, 6, 7, 8, 9] rfl (by decide) hP hD hS hA (k_V (n := 1) (ci := 6) (As := [.int k]) (rest := [.ref m0]) (wc := [(m0, .inr (6, [.int (nI (th)), .ref ms, .ref mv, .int (nI (sm)), .ref mt, .int (nI (ln)), .ref mh, .ref mb, .ref mg, .ref mq, .ref ml, .ref mf, .int nw, .int fw, .int (nI (tp)), .int (bI (wr)), .long dg])), (ms, .inl (G.2.1, 88, .inl s0)), (mv, .inl (G.2.1, 528, .inl sv)), (mt, .inl (G.2.1, 60, .inl tx)), (mh, .inl (G.2.1, 21, .inl ht)), (mb, .inl (G.2.1, 21, .inl bu)), (mg, .inl (G.2.1, 21, .inl hg)), (mq, .inl (G.2.1, 21, .inl pq)), (ml, .inl (G.2.1, 21, .inl ld)), (mf, .inl (G.2.1, 20, .inl fo))]) hx hb hml hown hts hK hP hD hl (c_X6_isLink l G m0 ms mv mt mh mb mg mq ml mf th s0 sv sm tx ln ht bu hg pq ld fo nw fw tp wr dg k n H.size (by first | assumption | omega)) [0, 1, 2, 3, 4, 5, 6, 7, 8, 9] rfl (by decide) gX6_cut_X6_isLink rfl rfl rfl (by decide +kernel) rfl ⟨Nat.le_of_ble_eq_true rfl, Nat.le_of_ble_eq_true rfl⟩ rfl rfl rfl (Nat.le_of_ble_eq_true rfl) dX6_cut_3 ⟨Nat.le_of_ble_eq_true rfl, Nat.le_of_ble_eq_true rfl⟩) (fun r_3 u H locs hw hP hD hS => ?_)
  have hw_3 : r_3 = bI (isN k n) := hw
  have hP : va_P G.1 vwCl [(m0, .inr (6, [.int (nI (th)), .ref ms, .ref mv, .int (nI (sm)), .ref mt, .int (nI (ln)), .ref mh, .ref mb, .ref mg, .ref mq, .ref ml, .ref mf, .int nw, .int fw, .int (nI (tp)), .int (bI (wr)), .long dg])), (ms, .inl (G.2.1, 88, .inl s0)), (mv, .inl (G.2.1, 528, .inl sv)), (mt, .inl (G.2.1, 60, .inl tx)), (mh, .inl (G.2.1, 21, .inl ht)), (mb, .inl (G.2.1, 21, .inl bu)), (mg, .inl (G.2.1, 21, .inl hg)), (mq, .inl (G.2.1, 21, .inl pq)), (ml, .inl (G.2.1, 21, .inl ld)), (mf, .inl (G.2.1, 20, .inl fo))] H := hP
  have hD : va_D A [(m0, .inr (6, [.int (nI (th)), .ref ms, .ref mv, .int (nI (sm)), .ref mt, .int (nI (ln)), .ref mh, .ref mb, .ref mg, .ref mq, .ref ml, .ref mf, .int nw, .int fw, .int (nI (tp)), .int (bI (wr)), .long dg])), (ms, .inl (G.2.1, 88, .inl s0)), (mv, .inl (G.2.1, 528, .inl sv)), (mt, .inl (G.2.1, 60, .inl tx)), (mh, .inl (G.2.1, 21, .inl ht)), (mb, .inl (G.2.1, 21, .inl bu)), (mg, .inl (G.2.1, 21, .inl hg)), (mq, .inl (G.2.1, 21, .inl pq)), (ml, .inl (G.2.1, 21, .inl ld)), (mf, .inl (G.2.1, 20, .inl fo))] := hD
  subst hw_3
  refine g_ti (y := nI 1) (by rw [h1]; rfl) ?_
  refine g_if_ne (a := 1) (tgt := 13) hx hb (by omega) dX6_cut_6 (by decide) (fun c_6 => ?_) (fun c_6 => ?_)
  · skip
    refine lv_aload_n hx hb dX6_cut_13 rfl (lv_at hl 0 rfl) ?_
    refine va_get (D := G.1) (ci := 6) (v := .ref ms) (C := RX6) (T := TX6) (N := 17) hx hb hts hinX6 hown hK hP 0 rfl rfl 1 (by decide) hf7 (fun _ h9 => h9) rfl dX6_cut_14 ?_
    refine lv_iconst (v := 0) hx hb dX6_cut_17 (by decide) ?_
    refine g_iald (k := 0) hx hb hK hP 1 rfl (by omega) (by omega) dX6_cut_18 ?_
    refine g_ti (y := nI n) (hs0) ?_
    refine lv_iconst (v := 1) hx hb dX6_cut_19 (by decide) ?_
    refine g_icmp_ne (a := n) (b := 1) (tgt := 27) hx hb (by omega) (by omega) dX6_cut_20 (by decide) (fun c_20 => ?_) (fun c_20 => ?_)
    · exact absurd h2 c_20
    · skip
      refine lv_iconst (v := 2) hx hb dX6_cut_23 (by decide) ?_
      refine lv_goto (tgt := 28) hx hb dX6_cut_24 (by decide) ?_
      refine k_ci (wr := []) [] rfl (by decide) [0, 1, 2, 3, 4, 5, 6, 7, 8, 9] rfl (by decide) hP hD hS hA (k_V (n := 1) (ci := 6) (As := [.int 2]) (rest := []) (wc := [(m0, .inr (6, [.int (nI (th)), .ref ms, .ref mv, .int (nI (sm)), .ref mt, .int (nI (ln)), .ref mh, .ref mb, .ref mg, .ref mq, .ref ml, .ref mf, .int nw, .int fw, .int (nI (tp)), .int (bI (wr)), .long dg])), (ms, .inl (G.2.1, 88, .inl s0)), (mv, .inl (G.2.1, 528, .inl sv)), (mt, .inl (G.2.1, 60, .inl tx)), (mh, .inl (G.2.1, 21, .inl ht)), (mb, .inl (G.2.1, 21, .inl bu)), (mg, .inl (G.2.1, 21, .inl hg)), (mq, .inl (G.2.1, 21, .inl pq)), (ml, .inl (G.2.1, 21, .inl ld)), (mf, .inl (G.2.1, 20, .inl fo))]) hx hb hml hown hts hK hP hD hl (c_X6_holds l G m0 ms mv mt mh mb mg mq ml mf th s0 sv sm tx ln ht bu hg pq ld fo nw fw tp wr dg 2 H.size (by first | assumption | omega)) [0, 1, 2, 3, 4, 5, 6, 7, 8, 9] rfl (by decide) gX6_cut_X6_holds rfl rfl rfl (by decide +kernel) rfl ⟨Nat.le_of_ble_eq_true rfl, Nat.le_of_ble_eq_true rfl⟩ rfl rfl rfl (Nat.le_of_ble_eq_true rfl) dX6_cut_28 ⟨Nat.le_of_ble_eq_true rfl, Nat.le_of_ble_eq_true rfl⟩) (fun r_28 u H locs hw hP hD hS => ?_)
      have hw_28 : r_28 = bI (decide (2 = 0)) := hw
      have hP : va_P G.1 vwCl [(m0, .inr (6, [.int (nI (2)), .ref ms, .ref mv, .int (nI (sm)), .ref mt, .int (nI (ln)), .ref mh, .ref mb, .ref mg, .ref mq, .ref ml, .ref mf, .int nw, .int fw, .int (nI (tp)), .int (bI (wr)), .long dg])), (ms, .inl (G.2.1, 88, .inl s0)), (mv, .inl (G.2.1, 528, .inl sv)), (mt, .inl (G.2.1, 60, .inl tx)), (mh, .inl (G.2.1, 21, .inl ht)), (mb, .inl (G.2.1, 21, .inl bu)), (mg, .inl (G.2.1, 21, .inl hg)), (mq, .inl (G.2.1, 21, .inl pq)), (ml, .inl (G.2.1, 21, .inl ld)), (mf, .inl (G.2.1, 20, .inl fo))] H := hP
      have hD : va_D A [(m0, .inr (6, [.int (nI (2)), .ref ms, .ref mv, .int (nI (sm)), .ref mt, .int (nI (ln)), .ref mh, .ref mb, .ref mg, .ref mq, .ref ml, .ref mf, .int nw, .int fw, .int (nI (tp)), .int (bI (wr)), .long dg])), (ms, .inl (G.2.1, 88, .inl s0)), (mv, .inl (G.2.1, 528, .inl sv)), (mt, .inl (G.2.1, 60, .inl tx)), (mh, .inl (G.2.1, 21, .inl ht)), (mb, .inl (G.2.1, 21, .inl bu)), (mg, .inl (G.2.1, 21, .inl hg)), (mq, .inl (G.2.1, 21, .inl pq)), (ml, .inl (G.2.1, 21, .inl ld)), (mf, .inl (G.2.1, 20, .inl fo))] := hD
      subst hw_28
      refine g_ti (y := nI 0) (by rw [decide_eq_false (by decide)]; rfl) ?_
      refine g_if_ne (a := 0) (tgt := 36) hx hb (by omega) dX6_cut_31 (by decide) (fun c_31 => ?_) (fun c_31 => ?_)
      · exact absurd c_31 (by decide)
      · skip
        refine lv_iconst (v := 0) hx hb dX6_cut_34 (by decide) ?_
        rw [hQ]
        exact k_iret (v := 0) () [0, 1, 2, 3, 4, 5, 6, 7, 8, 9] hx hb hr hlocks (rfl) hK hP hD hS rfl (by decide) dX6_cut_35
  · exact absurd c_6 (by decide)
set_option maxHeartbeats 4000000 in
set_option maxRecDepth 100000 in
theorem c_X6_cut_0 (l : Launch) (G : kG) (m0 : Nat) (ms : Nat) (mv : Nat) (mt : Nat) (mh : Nat) (mb : Nat) (mg : Nat) (mq : Nat) (ml : Nat) (mf : Nat) (th : Nat) (s0 : Fn) (sv : Fn) (sm : Nat) (tx : Fn) (ln : Nat) (ht : Fn) (bu : Fn) (hg : Fn) (pq : Fn) (ld : Fn) (fo : Fn) (nw : Int32) (fw : Int32) (tp : Nat) (wr : Bool) (dg : Int64) (j : Nat) (n : Nat) (sz : Nat) (hok : mOK s0 n) (hsm : sm ≤ 6) (hj : j < n) (h2 : 1 < n) : kMet l yX6_cut wsX6_cut ({ frames := 2, cells := 0, slots := 0, locals := 43 } : Room) G [.ref m0, .int (nI (j))] [(m0, .inr (6, [.int (nI (th)), .ref ms, .ref mv, .int (nI (sm)), .ref mt, .int (nI (ln)), .ref mh, .ref mb, .ref mg, .ref mq, .ref ml, .ref mf, .int nw, .int fw, .int (nI (tp)), .int (bI (wr)), .long dg])), (ms, .inl (G.2.1, 88, .inl s0)), (mv, .inl (G.2.1, 528, .inl sv)), (mt, .inl (G.2.1, 60, .inl tx)), (mh, .inl (G.2.1, 21, .inl ht)), (mb, .inl (G.2.1, 21, .inl bu)), (mg, .inl (G.2.1, 21, .inl hg)), (mq, .inl (G.2.1, 21, .inl pq)), (ml, .inl (G.2.1, 21, .inl ld)), (mf, .inl (G.2.1, 20, .inl fo))] sz (kQi G (fun (r : Int32) (u : Unit) => r = nI (n - 1)) (fun (u : Unit) => [(m0, .inr (6, [.int (nI 0), .ref ms, .ref mv, .int (nI (mSM sm)), .ref mt, .int (nI (ln)), .ref mh, .ref mb, .ref mg, .ref mq, .ref ml, .ref mf, .int nw, .int fw, .int (nI (tp)), .int (bI (wr)), .long dg])), (ms, .inl (G.2.1, 88, .inl (mCut s0 n j))), (mv, .inl (G.2.1, 528, .inl (mSV sv sm s0))), (mt, .inl (G.2.1, 60, .inl tx)), (mh, .inl (G.2.1, 21, .inl ht)), (mb, .inl (G.2.1, 21, .inl bu)), (mg, .inl (G.2.1, 21, .inl hg)), (mq, .inl (G.2.1, 21, .inl pq)), (ml, .inl (G.2.1, 21, .inl ld)), (mf, .inl (G.2.1, 20, .inl fo))])) 0 0 := by
  refine k_entry (cc := cX6_cut) (maxL := 3) (ret := (some .int)) (by decide) rfl (Nat.le_of_ble_eq_true rfl) ?_
  intro p e s m args below meth c A ls H locs Q hQ hx hb hml hr hts hown hlocks hin hA hP hK hD hS hl
  have hown : s.vm.findClass RX6 = some m.cls := hown
  have hl : lv_has ls 3 [(0, .ref m0), (1, .int (nI (j)))] := hl
  have hf7 := hts (.fieldLink RX6 7 "HangingChainModel" "s" "[I") (by decide +kernel)
  have hinX6 : ∀ w ∈ wsX60, w ∈ wsX6_cut := by decide +kernel
  obtain ⟨hs0, hn1, hn, hv⟩ := id hok
  refine lv_aload_n hx hb dX6_cut_0 rfl (lv_at hl 0 rfl) ?_
  refine lv_aload_n hx hb dX6_cut_1 rfl (lv_at hl 0 rfl) ?_
  refine lv_iload_n hx hb dX6_cut_2 rfl (lv_at hl 1 rfl) ?_
  refine k_ci (wr := []) [] rfl (by decide) [0, 1, 2, 3, 4, 5, 6, 7, 8, 9] rfl (by decide) hP hD hS hA (k_V (n := 1) (ci := 6) (As := [.int (nI (j))]) (rest := [.ref m0]) (wc := [(m0, .inr (6, [.int (nI (th)), .ref ms, .ref mv, .int (nI (sm)), .ref mt, .int (nI (ln)), .ref mh, .ref mb, .ref mg, .ref mq, .ref ml, .ref mf, .int nw, .int fw, .int (nI (tp)), .int (bI (wr)), .long dg])), (ms, .inl (G.2.1, 88, .inl s0)), (mv, .inl (G.2.1, 528, .inl sv)), (mt, .inl (G.2.1, 60, .inl tx)), (mh, .inl (G.2.1, 21, .inl ht)), (mb, .inl (G.2.1, 21, .inl bu)), (mg, .inl (G.2.1, 21, .inl hg)), (mq, .inl (G.2.1, 21, .inl pq)), (ml, .inl (G.2.1, 21, .inl ld)), (mf, .inl (G.2.1, 20, .inl fo))]) hx hb hml hown hts hK hP hD hl (c_X6_isLink l G m0 ms mv mt mh mb mg mq ml mf th s0 sv sm tx ln ht bu hg pq ld fo nw fw tp wr dg (nI (j)) n H.size (by first | assumption | omega)) [0, 1, 2, 3, 4, 5, 6, 7, 8, 9] rfl (by decide) gX6_cut_X6_isLink rfl rfl rfl (by decide +kernel) rfl ⟨Nat.le_of_ble_eq_true rfl, Nat.le_of_ble_eq_true rfl⟩ rfl rfl rfl (Nat.le_of_ble_eq_true rfl) dX6_cut_3 ⟨Nat.le_of_ble_eq_true rfl, Nat.le_of_ble_eq_true rfl⟩) (fun r_3 u H locs hw hP hD hS => ?_)
  have hw_3 : r_3 = bI (isN (nI (j)) n) := hw
  have hP : va_P G.1 vwCl [(m0, .inr (6, [.int (nI (th)), .ref ms, .ref mv, .int (nI (sm)), .ref mt, .int (nI (ln)), .ref mh, .ref mb, .ref mg, .ref mq, .ref ml, .ref mf, .int nw, .int fw, .int (nI (tp)), .int (bI (wr)), .long dg])), (ms, .inl (G.2.1, 88, .inl s0)), (mv, .inl (G.2.1, 528, .inl sv)), (mt, .inl (G.2.1, 60, .inl tx)), (mh, .inl (G.2.1, 21, .inl ht)), (mb, .inl (G.2.1, 21, .inl bu)), (mg, .inl (G.2.1, 21, .inl hg)), (mq, .inl (G.2.1, 21, .inl pq)), (ml, .inl (G.2.1, 21, .inl ld)), (mf, .inl (G.2.1, 20, .inl fo))] H := hP
  have hD : va_D A [(m0, .inr (6, [.int (nI (th)), .ref ms, .ref mv, .int (nI (sm)), .ref mt, .int (nI (ln)), .ref mh, .ref mb, .ref mg, .ref mq, .ref ml, .ref mf, .int nw, .int fw, .int (nI (tp)), .int (bI (wr)), .long dg])), (ms, .inl (G.2.1, 88, .inl s0)), (mv, .inl (G.2.1, 528, .inl sv)), (mt, .inl (G.2.1, 60, .inl tx)), (mh, .inl (G.2.1, 21, .inl ht)), (mb, .inl (G.2.1, 21, .inl bu)), (mg, .inl (G.2.1, 21, .inl hg)), (mq, .inl (G.2.1, 21, .inl pq)), (ml, .inl (G.2.1, 21, .inl ld)), (mf, .inl (G.2.1, 20, .inl fo))] := hD
  subst hw_3
  refine g_ti (y := nI 1) (by rw [isN_nI (by omega), decide_eq_true hj]; rfl) ?_
  refine g_if_ne (a := 1) (tgt := 13) hx hb (by omega) dX6_cut_6 (by decide) (fun c_6 => ?_) (fun c_6 => ?_)
  · skip
    refine lv_aload_n hx hb dX6_cut_13 rfl (lv_at hl 0 rfl) ?_
    refine va_get (D := G.1) (ci := 6) (v := .ref ms) (C := RX6) (T := TX6) (N := 17) hx hb hts hinX6 hown hK hP 0 rfl rfl 1 (by decide) hf7 (fun _ h9 => h9) rfl dX6_cut_14 ?_
    refine lv_iconst (v := 0) hx hb dX6_cut_17 (by decide) ?_
    refine g_iald (k := 0) hx hb hK hP 1 rfl (by omega) (by omega) dX6_cut_18 ?_
    refine g_ti (y := nI n) (hs0) ?_
    refine lv_iconst (v := 1) hx hb dX6_cut_19 (by decide) ?_
    refine g_icmp_ne (a := n) (b := 1) (tgt := 27) hx hb (by omega) (by omega) dX6_cut_20 (by decide) (fun c_20 => ?_) (fun c_20 => ?_)
    · skip
      refine lv_iconst (v := 0) hx hb dX6_cut_27 (by decide) ?_
      refine k_ci (wr := []) [] rfl (by decide) [0, 1, 2, 3, 4, 5, 6, 7, 8, 9] rfl (by decide) hP hD hS hA (k_V (n := 1) (ci := 6) (As := [.int 0]) (rest := []) (wc := [(m0, .inr (6, [.int (nI (th)), .ref ms, .ref mv, .int (nI (sm)), .ref mt, .int (nI (ln)), .ref mh, .ref mb, .ref mg, .ref mq, .ref ml, .ref mf, .int nw, .int fw, .int (nI (tp)), .int (bI (wr)), .long dg])), (ms, .inl (G.2.1, 88, .inl s0)), (mv, .inl (G.2.1, 528, .inl sv)), (mt, .inl (G.2.1, 60, .inl tx)), (mh, .inl (G.2.1, 21, .inl ht)), (mb, .inl (G.2.1, 21, .inl bu)), (mg, .inl (G.2.1, 21, .inl hg)), (mq, .inl (G.2.1, 21, .inl pq)), (ml, .inl (G.2.1, 21, .inl ld)), (mf, .inl (G.2.1, 20, .inl fo))]) hx hb hml hown hts hK hP hD hl (c_X6_holds l G m0 ms mv mt mh mb mg mq ml mf th s0 sv sm tx ln ht bu hg pq ld fo nw fw tp wr dg 0 H.size (by first | assumption | omega)) [0, 1, 2, 3, 4, 5, 6, 7, 8, 9] rfl (by decide) gX6_cut_X6_holds rfl rfl rfl (by decide +kernel) rfl ⟨Nat.le_of_ble_eq_true rfl, Nat.le_of_ble_eq_true rfl⟩ rfl rfl rfl (Nat.le_of_ble_eq_true rfl) dX6_cut_28 ⟨Nat.le_of_ble_eq_true rfl, Nat.le_of_ble_eq_true rfl⟩) (fun r_28 u H locs hw hP hD hS => ?_)
      have hw_28 : r_28 = bI (decide (0 = 0)) := hw
      have hP : va_P G.1 vwCl [(m0, .inr (6, [.int (nI (0)), .ref ms, .ref mv, .int (nI (sm)), .ref mt, .int (nI (ln)), .ref mh, .ref mb, .ref mg, .ref mq, .ref ml, .ref mf, .int nw, .int fw, .int (nI (tp)), .int (bI (wr)), .long dg])), (ms, .inl (G.2.1, 88, .inl s0)), (mv, .inl (G.2.1, 528, .inl sv)), (mt, .inl (G.2.1, 60, .inl tx)), (mh, .inl (G.2.1, 21, .inl ht)), (mb, .inl (G.2.1, 21, .inl bu)), (mg, .inl (G.2.1, 21, .inl hg)), (mq, .inl (G.2.1, 21, .inl pq)), (ml, .inl (G.2.1, 21, .inl ld)), (mf, .inl (G.2.1, 20, .inl fo))] H := hP
      have hD : va_D A [(m0, .inr (6, [.int (nI (0)), .ref ms, .ref mv, .int (nI (sm)), .ref mt, .int (nI (ln)), .ref mh, .ref mb, .ref mg, .ref mq, .ref ml, .ref mf, .int nw, .int fw, .int (nI (tp)), .int (bI (wr)), .long dg])), (ms, .inl (G.2.1, 88, .inl s0)), (mv, .inl (G.2.1, 528, .inl sv)), (mt, .inl (G.2.1, 60, .inl tx)), (mh, .inl (G.2.1, 21, .inl ht)), (mb, .inl (G.2.1, 21, .inl bu)), (mg, .inl (G.2.1, 21, .inl hg)), (mq, .inl (G.2.1, 21, .inl pq)), (ml, .inl (G.2.1, 21, .inl ld)), (mf, .inl (G.2.1, 20, .inl fo))] := hD
      subst hw_28
      refine g_ti (y := nI 1) (by rw [decide_eq_true (show (0 : Nat) = 0 from rfl)]; rfl) ?_
      refine g_if_ne (a := 1) (tgt := 36) hx hb (by omega) dX6_cut_31 (by decide) (fun c_31 => ?_) (fun c_31 => ?_)
      · skip
        refine lv_aload_n hx hb dX6_cut_36 rfl (lv_at hl 0 rfl) ?_
        refine k_cv (wr := []) [] rfl (by decide) [0, 1, 2, 3, 4, 5, 6, 7, 8, 9] rfl (by decide) hP hD hS hA (k_V (n := 0) (ci := 6) (As := []) (rest := []) (wc := [(m0, .inr (6, [.int (nI (0)), .ref ms, .ref mv, .int (nI (sm)), .ref mt, .int (nI (ln)), .ref mh, .ref mb, .ref mg, .ref mq, .ref ml, .ref mf, .int nw, .int fw, .int (nI (tp)), .int (bI (wr)), .long dg])), (ms, .inl (G.2.1, 88, .inl s0)), (mv, .inl (G.2.1, 528, .inl sv)), (mt, .inl (G.2.1, 60, .inl tx)), (mh, .inl (G.2.1, 21, .inl ht)), (mb, .inl (G.2.1, 21, .inl bu)), (mg, .inl (G.2.1, 21, .inl hg)), (mq, .inl (G.2.1, 21, .inl pq)), (ml, .inl (G.2.1, 21, .inl ld)), (mf, .inl (G.2.1, 20, .inl fo))]) hx hb hml hown hts hK hP hD hl (c_X6_save l G m0 ms mv mt mh mb mg mq ml mf 0 s0 sv sm tx ln ht bu hg pq ld fo nw fw tp wr dg H.size (by first | assumption | omega)) [0, 1, 2, 3, 4, 5, 6, 7, 8, 9] rfl (by decide) gX6_cut_X6_save rfl rfl rfl (by decide +kernel) rfl ⟨Nat.le_of_ble_eq_true rfl, Nat.le_of_ble_eq_true rfl⟩ rfl rfl rfl (Nat.le_of_ble_eq_true rfl) dX6_cut_37 ⟨Nat.le_of_ble_eq_true rfl, Nat.le_of_ble_eq_true rfl⟩) (fun u H locs hw hP hD hS => ?_)
        have hw_37 : True := hw
        have hP : va_P G.1 vwCl [(m0, .inr (6, [.int (nI (0)), .ref ms, .ref mv, .int (nI (mSM sm)), .ref mt, .int (nI (ln)), .ref mh, .ref mb, .ref mg, .ref mq, .ref ml, .ref mf, .int nw, .int fw, .int (nI (tp)), .int (bI (wr)), .long dg])), (ms, .inl (G.2.1, 88, .inl s0)), (mv, .inl (G.2.1, 528, .inl (mSV sv sm s0))), (mt, .inl (G.2.1, 60, .inl tx)), (mh, .inl (G.2.1, 21, .inl ht)), (mb, .inl (G.2.1, 21, .inl bu)), (mg, .inl (G.2.1, 21, .inl hg)), (mq, .inl (G.2.1, 21, .inl pq)), (ml, .inl (G.2.1, 21, .inl ld)), (mf, .inl (G.2.1, 20, .inl fo))] H := hP
        have hD : va_D A [(m0, .inr (6, [.int (nI (0)), .ref ms, .ref mv, .int (nI (mSM sm)), .ref mt, .int (nI (ln)), .ref mh, .ref mb, .ref mg, .ref mq, .ref ml, .ref mf, .int nw, .int fw, .int (nI (tp)), .int (bI (wr)), .long dg])), (ms, .inl (G.2.1, 88, .inl s0)), (mv, .inl (G.2.1, 528, .inl (mSV sv sm s0))), (mt, .inl (G.2.1, 60, .inl tx)), (mh, .inl (G.2.1, 21, .inl ht)), (mb, .inl (G.2.1, 21, .inl bu)), (mg, .inl (G.2.1, 21, .inl hg)), (mq, .inl (G.2.1, 21, .inl pq)), (ml, .inl (G.2.1, 21, .inl ld)), (mf, .inl (G.2.1, 20, .inl fo))] := hD
        refine lv_iload_n hx hb dX6_cut_40 rfl (lv_at hl 1 rfl) ?_
        refine lv_istore_n (lv' := [(2, .int (nI (j))), (0, .ref m0), (1, .int (nI (j)))]) hx hb dX6_cut_41 rfl hl (by decide) rfl (fun ls hl => ?_)
        have L42 : ∀ (n9 : Nat) (i : Nat), (j ≤ i) → (i ≤ n - 1) → (n - i < n9) → ∀ (H : Heap) (locs : List Loc) (ls : Array Slot), va_P G.1 vwCl [(m0, .inr (6, [.int (nI (0)), .ref ms, .ref mv, .int (nI (mSM sm)), .ref mt, .int (nI (ln)), .ref mh, .ref mb, .ref mg, .ref mq, .ref ml, .ref mf, .int nw, .int fw, .int (nI (tp)), .int (bI (wr)), .long dg])), (ms, .inl (G.2.1, 88, .inl (cutI s0 j i))), (mv, .inl (G.2.1, 528, .inl (mSV sv sm s0))), (mt, .inl (G.2.1, 60, .inl tx)), (mh, .inl (G.2.1, 21, .inl ht)), (mb, .inl (G.2.1, 21, .inl bu)), (mg, .inl (G.2.1, 21, .inl hg)), (mq, .inl (G.2.1, 21, .inl pq)), (ml, .inl (G.2.1, 21, .inl ld)), (mf, .inl (G.2.1, 20, .inl fo))] H → va_D A [(m0, .inr (6, [.int (nI (0)), .ref ms, .ref mv, .int (nI (mSM sm)), .ref mt, .int (nI (ln)), .ref mh, .ref mb, .ref mg, .ref mq, .ref ml, .ref mf, .int nw, .int fw, .int (nI (tp)), .int (bI (wr)), .long dg])), (ms, .inl (G.2.1, 88, .inl (cutI s0 j i))), (mv, .inl (G.2.1, 528, .inl (mSV sv sm s0))), (mt, .inl (G.2.1, 60, .inl tx)), (mh, .inl (G.2.1, 21, .inl ht)), (mb, .inl (G.2.1, 21, .inl bu)), (mg, .inl (G.2.1, 21, .inl hg)), (mq, .inl (G.2.1, 21, .inl pq)), (ml, .inl (G.2.1, 21, .inl ld)), (mf, .inl (G.2.1, 20, .inl fo))] → va_S A s.heap H locs → lv_has ls 3 [(2, .int (nI i)), (0, .ref m0), (1, .int (nI (j)))] → W p l e ({ frames := 2, cells := 0, slots := 0, locals := 43 } : Room) s m args below meth c H locs 0 0 Q (F0 m 42 ls []) := by
          intro n9
          induction n9 with
          | zero =>
            intro i hi hi2 hm9 H locs ls hP hD hS hl
            exact absurd hm9 (Nat.not_lt_zero _)
          | succ n9 ih42 =>
            intro i hi hi2 hm9 H locs ls hP hD hS hl
            refine lv_iload_n hx hb dX6_cut_42 rfl (lv_at hl 0 rfl) ?_
            refine lv_aload_n hx hb dX6_cut_43 rfl (lv_at hl 1 rfl) ?_
            refine va_get (D := G.1) (ci := 6) (v := .ref ms) (C := RX6) (T := TX6) (N := 17) hx hb hts hinX6 hown hK hP 0 rfl rfl 1 (by decide) hf7 (fun _ h9 => h9) rfl dX6_cut_44 ?_
            refine lv_iconst (v := 0) hx hb dX6_cut_47 (by decide) ?_
            refine g_iald (k := 0) hx hb hK hP 1 rfl (by omega) (by omega) dX6_cut_48 ?_
            refine g_ti (y := nI n) ((cutI_z _ _ _).trans hs0) ?_
            refine lv_iconst (v := 1) hx hb dX6_cut_49 (by decide) ?_
            refine lv_isub hx hb dX6_cut_50 ?_
            refine g_ti (y := nI (n - 1)) (pk_sub (a := n) (b := 1) (by omega)) ?_
            refine g_icmp_ge (a := i) (b := n - 1) (tgt := 144) hx hb (by omega) (by omega) dX6_cut_51 (by decide) (fun c_51 => ?_) (fun c_51 => ?_)
            · skip
              have e9 : n - 1 = i := by omega
              subst e9
              refine lv_aload_n hx hb dX6_cut_144 rfl (lv_at hl 1 rfl) ?_
              refine va_get (D := G.1) (ci := 6) (v := .ref ms) (C := RX6) (T := TX6) (N := 17) hx hb hts hinX6 hown hK hP 0 rfl rfl 1 (by decide) hf7 (fun _ h9 => h9) rfl dX6_cut_145 ?_
              refine lv_iconst (v := 0) hx hb dX6_cut_148 (by decide) ?_
              refine lv_dup2_11 hx hb dX6_cut_149 rfl rfl ?_
              refine g_iald (k := 0) hx hb hK hP 1 rfl (by omega) (by omega) dX6_cut_150 ?_
              refine g_ti (y := nI n) ((cutI_z _ _ _).trans hs0) ?_
              refine lv_iconst (v := 1) hx hb dX6_cut_151 (by decide) ?_
              refine lv_isub hx hb dX6_cut_152 ?_
              refine g_ti (y := nI (n - 1)) (pk_sub (a := n) (b := 1) (by omega)) ?_
              refine g_iast (k := 0) hx hb hK hP hD hS 1 rfl (by omega) (by omega) dX6_cut_153 (fun H locs hP hD hS => ?_)
              have hP : va_P G.1 vwCl [(m0, .inr (6, [.int (nI (0)), .ref ms, .ref mv, .int (nI (mSM sm)), .ref mt, .int (nI (ln)), .ref mh, .ref mb, .ref mg, .ref mq, .ref ml, .ref mf, .int nw, .int fw, .int (nI (tp)), .int (bI (wr)), .long dg])), (ms, .inl (G.2.1, 88, .inl (upd (cutI s0 j (n - 1)) 0 (nI (n - 1))))), (mv, .inl (G.2.1, 528, .inl (mSV sv sm s0))), (mt, .inl (G.2.1, 60, .inl tx)), (mh, .inl (G.2.1, 21, .inl ht)), (mb, .inl (G.2.1, 21, .inl bu)), (mg, .inl (G.2.1, 21, .inl hg)), (mq, .inl (G.2.1, 21, .inl pq)), (ml, .inl (G.2.1, 21, .inl ld)), (mf, .inl (G.2.1, 20, .inl fo))] H := hP
              have hD : va_D A [(m0, .inr (6, [.int (nI (0)), .ref ms, .ref mv, .int (nI (mSM sm)), .ref mt, .int (nI (ln)), .ref mh, .ref mb, .ref mg, .ref mq, .ref ml, .ref mf, .int nw, .int fw, .int (nI (tp)), .int (bI (wr)), .long dg])), (ms, .inl (G.2.1, 88, .inl (upd (cutI s0 j (n - 1)) 0 (nI (n - 1))))), (mv, .inl (G.2.1, 528, .inl (mSV sv sm s0))), (mt, .inl (G.2.1, 60, .inl tx)), (mh, .inl (G.2.1, 21, .inl ht)), (mb, .inl (G.2.1, 21, .inl bu)), (mg, .inl (G.2.1, 21, .inl hg)), (mq, .inl (G.2.1, 21, .inl pq)), (ml, .inl (G.2.1, 21, .inl ld)), (mf, .inl (G.2.1, 20, .inl fo))] := hD
              refine lv_aload_n hx hb dX6_cut_154 rfl (lv_at hl 1 rfl) ?_
              refine va_get (D := G.1) (ci := 6) (v := .ref ms) (C := RX6) (T := TX6) (N := 17) hx hb hts hinX6 hown hK hP 0 rfl rfl 1 (by decide) hf7 (fun _ h9 => h9) rfl dX6_cut_155 ?_
              refine lv_iconst (v := 0) hx hb dX6_cut_158 (by decide) ?_
              refine g_iald (k := 0) hx hb hK hP 1 rfl (by omega) (by omega) dX6_cut_159 ?_
              refine g_ti (y := nI (n - 1)) (rfl) ?_
              rw [hQ]
              exact k_iret (v := nI (n - 1)) () [0, 1, 2, 3, 4, 5, 6, 7, 8, 9] hx hb hr hlocks (rfl) hK hP hD hS rfl (by decide) dX6_cut_160
            · skip
              refine lv_aload_n hx hb dX6_cut_54 rfl (lv_at hl 1 rfl) ?_
              refine va_get (D := G.1) (ci := 6) (v := .ref ms) (C := RX6) (T := TX6) (N := 17) hx hb hts hinX6 hown hK hP 0 rfl rfl 1 (by decide) hf7 (fun _ h9 => h9) rfl dX6_cut_55 ?_
              refine lv_iconst (v := 5) hx hb dX6_cut_58 (by decide) ?_
              refine lv_iload_n hx hb dX6_cut_59 rfl (lv_at hl 0 rfl) ?_
              refine lv_iadd hx hb dX6_cut_60 ?_
              refine g_ti (y := nI (5 + i)) (nI_add (5) (i)) ?_
              refine lv_aload_n hx hb dX6_cut_61 rfl (lv_at hl 1 rfl) ?_
              refine va_get (D := G.1) (ci := 6) (v := .ref ms) (C := RX6) (T := TX6) (N := 17) hx hb hts hinX6 hown hK hP 0 rfl rfl 1 (by decide) hf7 (fun _ h9 => h9) rfl dX6_cut_62 ?_
              refine lv_iconst (v := 5) hx hb dX6_cut_65 (by decide) ?_
              refine lv_iload_n hx hb dX6_cut_66 rfl (lv_at hl 0 rfl) ?_
              refine lv_iadd hx hb dX6_cut_67 ?_
              refine g_ti (y := nI (5 + i)) (nI_add (5) (i)) ?_
              refine lv_iconst (v := 1) hx hb dX6_cut_68 (by decide) ?_
              refine lv_iadd hx hb dX6_cut_69 ?_
              refine g_ti (y := nI ((5 + i) + 1)) (nI_add (5 + i) (1)) ?_
              refine g_iald (k := (5 + i) + 1) hx hb hK hP 1 rfl (by omega) (by omega) dX6_cut_70 ?_
              refine g_iast (k := 5 + i) hx hb hK hP hD hS 1 rfl (by omega) (by omega) dX6_cut_71 (fun H locs hP hD hS => ?_)
              have hP : va_P G.1 vwCl [(m0, .inr (6, [.int (nI (0)), .ref ms, .ref mv, .int (nI (mSM sm)), .ref mt, .int (nI (ln)), .ref mh, .ref mb, .ref mg, .ref mq, .ref ml, .ref mf, .int nw, .int fw, .int (nI (tp)), .int (bI (wr)), .long dg])), (ms, .inl (G.2.1, 88, .inl (upd (cutI s0 j i) (5 + i) ((cutI s0 j i) ((5 + i) + 1))))), (mv, .inl (G.2.1, 528, .inl (mSV sv sm s0))), (mt, .inl (G.2.1, 60, .inl tx)), (mh, .inl (G.2.1, 21, .inl ht)), (mb, .inl (G.2.1, 21, .inl bu)), (mg, .inl (G.2.1, 21, .inl hg)), (mq, .inl (G.2.1, 21, .inl pq)), (ml, .inl (G.2.1, 21, .inl ld)), (mf, .inl (G.2.1, 20, .inl fo))] H := hP
              have hD : va_D A [(m0, .inr (6, [.int (nI (0)), .ref ms, .ref mv, .int (nI (mSM sm)), .ref mt, .int (nI (ln)), .ref mh, .ref mb, .ref mg, .ref mq, .ref ml, .ref mf, .int nw, .int fw, .int (nI (tp)), .int (bI (wr)), .long dg])), (ms, .inl (G.2.1, 88, .inl (upd (cutI s0 j i) (5 + i) ((cutI s0 j i) ((5 + i) + 1))))), (mv, .inl (G.2.1, 528, .inl (mSV sv sm s0))), (mt, .inl (G.2.1, 60, .inl tx)), (mh, .inl (G.2.1, 21, .inl ht)), (mb, .inl (G.2.1, 21, .inl bu)), (mg, .inl (G.2.1, 21, .inl hg)), (mq, .inl (G.2.1, 21, .inl pq)), (ml, .inl (G.2.1, 21, .inl ld)), (mf, .inl (G.2.1, 20, .inl fo))] := hD
              refine lv_aload_n hx hb dX6_cut_72 rfl (lv_at hl 1 rfl) ?_
              refine va_get (D := G.1) (ci := 6) (v := .ref ms) (C := RX6) (T := TX6) (N := 17) hx hb hts hinX6 hown hK hP 0 rfl rfl 1 (by decide) hf7 (fun _ h9 => h9) rfl dX6_cut_73 ?_
              refine lv_bipush (v := 25) hx hb dX6_cut_76 (by decide) ?_
              refine lv_iload_n hx hb dX6_cut_78 rfl (lv_at hl 0 rfl) ?_
              refine lv_iadd hx hb dX6_cut_79 ?_
              refine g_ti (y := nI (25 + i)) (nI_add (25) (i)) ?_
              refine lv_iconst (v := 1) hx hb dX6_cut_80 (by decide) ?_
              refine lv_iadd hx hb dX6_cut_81 ?_
              refine g_ti (y := nI ((25 + i) + 1)) (nI_add (25 + i) (1)) ?_
              refine lv_aload_n hx hb dX6_cut_82 rfl (lv_at hl 1 rfl) ?_
              refine va_get (D := G.1) (ci := 6) (v := .ref ms) (C := RX6) (T := TX6) (N := 17) hx hb hts hinX6 hown hK hP 0 rfl rfl 1 (by decide) hf7 (fun _ h9 => h9) rfl dX6_cut_83 ?_
              refine lv_bipush (v := 25) hx hb dX6_cut_86 (by decide) ?_
              refine lv_iload_n hx hb dX6_cut_88 rfl (lv_at hl 0 rfl) ?_
              refine lv_iadd hx hb dX6_cut_89 ?_
              refine g_ti (y := nI (25 + i)) (nI_add (25) (i)) ?_
              refine lv_iconst (v := 2) hx hb dX6_cut_90 (by decide) ?_
              refine lv_iadd hx hb dX6_cut_91 ?_
              refine g_ti (y := nI ((25 + i) + 2)) (nI_add (25 + i) (2)) ?_
              refine g_iald (k := (25 + i) + 2) hx hb hK hP 1 rfl (by omega) (by omega) dX6_cut_92 ?_
              refine g_iast (k := (25 + i) + 1) hx hb hK hP hD hS 1 rfl (by omega) (by omega) dX6_cut_93 (fun H locs hP hD hS => ?_)
              have hP : va_P G.1 vwCl [(m0, .inr (6, [.int (nI (0)), .ref ms, .ref mv, .int (nI (mSM sm)), .ref mt, .int (nI (ln)), .ref mh, .ref mb, .ref mg, .ref mq, .ref ml, .ref mf, .int nw, .int fw, .int (nI (tp)), .int (bI (wr)), .long dg])), (ms, .inl (G.2.1, 88, .inl (upd (upd (cutI s0 j i) (5 + i) ((cutI s0 j i) ((5 + i) + 1))) ((25 + i) + 1) ((upd (cutI s0 j i) (5 + i) ((cutI s0 j i) ((5 + i) + 1))) ((25 + i) + 2))))), (mv, .inl (G.2.1, 528, .inl (mSV sv sm s0))), (mt, .inl (G.2.1, 60, .inl tx)), (mh, .inl (G.2.1, 21, .inl ht)), (mb, .inl (G.2.1, 21, .inl bu)), (mg, .inl (G.2.1, 21, .inl hg)), (mq, .inl (G.2.1, 21, .inl pq)), (ml, .inl (G.2.1, 21, .inl ld)), (mf, .inl (G.2.1, 20, .inl fo))] H := hP
              have hD : va_D A [(m0, .inr (6, [.int (nI (0)), .ref ms, .ref mv, .int (nI (mSM sm)), .ref mt, .int (nI (ln)), .ref mh, .ref mb, .ref mg, .ref mq, .ref ml, .ref mf, .int nw, .int fw, .int (nI (tp)), .int (bI (wr)), .long dg])), (ms, .inl (G.2.1, 88, .inl (upd (upd (cutI s0 j i) (5 + i) ((cutI s0 j i) ((5 + i) + 1))) ((25 + i) + 1) ((upd (cutI s0 j i) (5 + i) ((cutI s0 j i) ((5 + i) + 1))) ((25 + i) + 2))))), (mv, .inl (G.2.1, 528, .inl (mSV sv sm s0))), (mt, .inl (G.2.1, 60, .inl tx)), (mh, .inl (G.2.1, 21, .inl ht)), (mb, .inl (G.2.1, 21, .inl bu)), (mg, .inl (G.2.1, 21, .inl hg)), (mq, .inl (G.2.1, 21, .inl pq)), (ml, .inl (G.2.1, 21, .inl ld)), (mf, .inl (G.2.1, 20, .inl fo))] := hD
              refine lv_aload_n hx hb dX6_cut_94 rfl (lv_at hl 1 rfl) ?_
              refine va_get (D := G.1) (ci := 6) (v := .ref ms) (C := RX6) (T := TX6) (N := 17) hx hb hts hinX6 hown hK hP 0 rfl rfl 1 (by decide) hf7 (fun _ h9 => h9) rfl dX6_cut_95 ?_
              refine lv_bipush (v := 46) hx hb dX6_cut_98 (by decide) ?_
              refine lv_iload_n hx hb dX6_cut_100 rfl (lv_at hl 0 rfl) ?_
              refine lv_iadd hx hb dX6_cut_101 ?_
              refine g_ti (y := nI (46 + i)) (nI_add (46) (i)) ?_
              refine lv_iconst (v := 1) hx hb dX6_cut_102 (by decide) ?_
              refine lv_iadd hx hb dX6_cut_103 ?_
              refine g_ti (y := nI ((46 + i) + 1)) (nI_add (46 + i) (1)) ?_
              refine lv_aload_n hx hb dX6_cut_104 rfl (lv_at hl 1 rfl) ?_
              refine va_get (D := G.1) (ci := 6) (v := .ref ms) (C := RX6) (T := TX6) (N := 17) hx hb hts hinX6 hown hK hP 0 rfl rfl 1 (by decide) hf7 (fun _ h9 => h9) rfl dX6_cut_105 ?_
              refine lv_bipush (v := 46) hx hb dX6_cut_108 (by decide) ?_
              refine lv_iload_n hx hb dX6_cut_110 rfl (lv_at hl 0 rfl) ?_
              refine lv_iadd hx hb dX6_cut_111 ?_
              refine g_ti (y := nI (46 + i)) (nI_add (46) (i)) ?_
              refine lv_iconst (v := 2) hx hb dX6_cut_112 (by decide) ?_
              refine lv_iadd hx hb dX6_cut_113 ?_
              refine g_ti (y := nI ((46 + i) + 2)) (nI_add (46 + i) (2)) ?_
              refine g_iald (k := (46 + i) + 2) hx hb hK hP 1 rfl (by omega) (by omega) dX6_cut_114 ?_
              refine g_iast (k := (46 + i) + 1) hx hb hK hP hD hS 1 rfl (by omega) (by omega) dX6_cut_115 (fun H locs hP hD hS => ?_)
              have hP : va_P G.1 vwCl [(m0, .inr (6, [.int (nI (0)), .ref ms, .ref mv, .int (nI (mSM sm)), .ref mt, .int (nI (ln)), .ref mh, .ref mb, .ref mg, .ref mq, .ref ml, .ref mf, .int nw, .int fw, .int (nI (tp)), .int (bI (wr)), .long dg])), (ms, .inl (G.2.1, 88, .inl (upd (upd (upd (cutI s0 j i) (5 + i) ((cutI s0 j i) ((5 + i) + 1))) ((25 + i) + 1) ((upd (cutI s0 j i) (5 + i) ((cutI s0 j i) ((5 + i) + 1))) ((25 + i) + 2))) ((46 + i) + 1) ((upd (upd (cutI s0 j i) (5 + i) ((cutI s0 j i) ((5 + i) + 1))) ((25 + i) + 1) ((upd (cutI s0 j i) (5 + i) ((cutI s0 j i) ((5 + i) + 1))) ((25 + i) + 2))) ((46 + i) + 2))))), (mv, .inl (G.2.1, 528, .inl (mSV sv sm s0))), (mt, .inl (G.2.1, 60, .inl tx)), (mh, .inl (G.2.1, 21, .inl ht)), (mb, .inl (G.2.1, 21, .inl bu)), (mg, .inl (G.2.1, 21, .inl hg)), (mq, .inl (G.2.1, 21, .inl pq)), (ml, .inl (G.2.1, 21, .inl ld)), (mf, .inl (G.2.1, 20, .inl fo))] H := hP
              have hD : va_D A [(m0, .inr (6, [.int (nI (0)), .ref ms, .ref mv, .int (nI (mSM sm)), .ref mt, .int (nI (ln)), .ref mh, .ref mb, .ref mg, .ref mq, .ref ml, .ref mf, .int nw, .int fw, .int (nI (tp)), .int (bI (wr)), .long dg])), (ms, .inl (G.2.1, 88, .inl (upd (upd (upd (cutI s0 j i) (5 + i) ((cutI s0 j i) ((5 + i) + 1))) ((25 + i) + 1) ((upd (cutI s0 j i) (5 + i) ((cutI s0 j i) ((5 + i) + 1))) ((25 + i) + 2))) ((46 + i) + 1) ((upd (upd (cutI s0 j i) (5 + i) ((cutI s0 j i) ((5 + i) + 1))) ((25 + i) + 1) ((upd (cutI s0 j i) (5 + i) ((cutI s0 j i) ((5 + i) + 1))) ((25 + i) + 2))) ((46 + i) + 2))))), (mv, .inl (G.2.1, 528, .inl (mSV sv sm s0))), (mt, .inl (G.2.1, 60, .inl tx)), (mh, .inl (G.2.1, 21, .inl ht)), (mb, .inl (G.2.1, 21, .inl bu)), (mg, .inl (G.2.1, 21, .inl hg)), (mq, .inl (G.2.1, 21, .inl pq)), (ml, .inl (G.2.1, 21, .inl ld)), (mf, .inl (G.2.1, 20, .inl fo))] := hD
              refine lv_aload_n hx hb dX6_cut_116 rfl (lv_at hl 1 rfl) ?_
              refine va_get (D := G.1) (ci := 6) (v := .ref ms) (C := RX6) (T := TX6) (N := 17) hx hb hts hinX6 hown hK hP 0 rfl rfl 1 (by decide) hf7 (fun _ h9 => h9) rfl dX6_cut_117 ?_
              refine lv_bipush (v := 67) hx hb dX6_cut_120 (by decide) ?_
              refine lv_iload_n hx hb dX6_cut_122 rfl (lv_at hl 0 rfl) ?_
              refine lv_iadd hx hb dX6_cut_123 ?_
              refine g_ti (y := nI (67 + i)) (nI_add (67) (i)) ?_
              refine lv_iconst (v := 1) hx hb dX6_cut_124 (by decide) ?_
              refine lv_iadd hx hb dX6_cut_125 ?_
              refine g_ti (y := nI ((67 + i) + 1)) (nI_add (67 + i) (1)) ?_
              refine lv_aload_n hx hb dX6_cut_126 rfl (lv_at hl 1 rfl) ?_
              refine va_get (D := G.1) (ci := 6) (v := .ref ms) (C := RX6) (T := TX6) (N := 17) hx hb hts hinX6 hown hK hP 0 rfl rfl 1 (by decide) hf7 (fun _ h9 => h9) rfl dX6_cut_127 ?_
              refine lv_bipush (v := 67) hx hb dX6_cut_130 (by decide) ?_
              refine lv_iload_n hx hb dX6_cut_132 rfl (lv_at hl 0 rfl) ?_
              refine lv_iadd hx hb dX6_cut_133 ?_
              refine g_ti (y := nI (67 + i)) (nI_add (67) (i)) ?_
              refine lv_iconst (v := 2) hx hb dX6_cut_134 (by decide) ?_
              refine lv_iadd hx hb dX6_cut_135 ?_
              refine g_ti (y := nI ((67 + i) + 2)) (nI_add (67 + i) (2)) ?_
              refine g_iald (k := (67 + i) + 2) hx hb hK hP 1 rfl (by omega) (by omega) dX6_cut_136 ?_
              refine g_iast (k := (67 + i) + 1) hx hb hK hP hD hS 1 rfl (by omega) (by omega) dX6_cut_137 (fun H locs hP hD hS => ?_)
              have hP : va_P G.1 vwCl [(m0, .inr (6, [.int (nI (0)), .ref ms, .ref mv, .int (nI (mSM sm)), .ref mt, .int (nI (ln)), .ref mh, .ref mb, .ref mg, .ref mq, .ref ml, .ref mf, .int nw, .int fw, .int (nI (tp)), .int (bI (wr)), .long dg])), (ms, .inl (G.2.1, 88, .inl (upd (upd (upd (upd (cutI s0 j i) (5 + i) ((cutI s0 j i) ((5 + i) + 1))) ((25 + i) + 1) ((upd (cutI s0 j i) (5 + i) ((cutI s0 j i) ((5 + i) + 1))) ((25 + i) + 2))) ((46 + i) + 1) ((upd (upd (cutI s0 j i) (5 + i) ((cutI s0 j i) ((5 + i) + 1))) ((25 + i) + 1) ((upd (cutI s0 j i) (5 + i) ((cutI s0 j i) ((5 + i) + 1))) ((25 + i) + 2))) ((46 + i) + 2))) ((67 + i) + 1) ((upd (upd (upd (cutI s0 j i) (5 + i) ((cutI s0 j i) ((5 + i) + 1))) ((25 + i) + 1) ((upd (cutI s0 j i) (5 + i) ((cutI s0 j i) ((5 + i) + 1))) ((25 + i) + 2))) ((46 + i) + 1) ((upd (upd (cutI s0 j i) (5 + i) ((cutI s0 j i) ((5 + i) + 1))) ((25 + i) + 1) ((upd (cutI s0 j i) (5 + i) ((cutI s0 j i) ((5 + i) + 1))) ((25 + i) + 2))) ((46 + i) + 2))) ((67 + i) + 2))))), (mv, .inl (G.2.1, 528, .inl (mSV sv sm s0))), (mt, .inl (G.2.1, 60, .inl tx)), (mh, .inl (G.2.1, 21, .inl ht)), (mb, .inl (G.2.1, 21, .inl bu)), (mg, .inl (G.2.1, 21, .inl hg)), (mq, .inl (G.2.1, 21, .inl pq)), (ml, .inl (G.2.1, 21, .inl ld)), (mf, .inl (G.2.1, 20, .inl fo))] H := hP
              have hD : va_D A [(m0, .inr (6, [.int (nI (0)), .ref ms, .ref mv, .int (nI (mSM sm)), .ref mt, .int (nI (ln)), .ref mh, .ref mb, .ref mg, .ref mq, .ref ml, .ref mf, .int nw, .int fw, .int (nI (tp)), .int (bI (wr)), .long dg])), (ms, .inl (G.2.1, 88, .inl (upd (upd (upd (upd (cutI s0 j i) (5 + i) ((cutI s0 j i) ((5 + i) + 1))) ((25 + i) + 1) ((upd (cutI s0 j i) (5 + i) ((cutI s0 j i) ((5 + i) + 1))) ((25 + i) + 2))) ((46 + i) + 1) ((upd (upd (cutI s0 j i) (5 + i) ((cutI s0 j i) ((5 + i) + 1))) ((25 + i) + 1) ((upd (cutI s0 j i) (5 + i) ((cutI s0 j i) ((5 + i) + 1))) ((25 + i) + 2))) ((46 + i) + 2))) ((67 + i) + 1) ((upd (upd (upd (cutI s0 j i) (5 + i) ((cutI s0 j i) ((5 + i) + 1))) ((25 + i) + 1) ((upd (cutI s0 j i) (5 + i) ((cutI s0 j i) ((5 + i) + 1))) ((25 + i) + 2))) ((46 + i) + 1) ((upd (upd (cutI s0 j i) (5 + i) ((cutI s0 j i) ((5 + i) + 1))) ((25 + i) + 1) ((upd (cutI s0 j i) (5 + i) ((cutI s0 j i) ((5 + i) + 1))) ((25 + i) + 2))) ((46 + i) + 2))) ((67 + i) + 2))))), (mv, .inl (G.2.1, 528, .inl (mSV sv sm s0))), (mt, .inl (G.2.1, 60, .inl tx)), (mh, .inl (G.2.1, 21, .inl ht)), (mb, .inl (G.2.1, 21, .inl bu)), (mg, .inl (G.2.1, 21, .inl hg)), (mq, .inl (G.2.1, 21, .inl pq)), (ml, .inl (G.2.1, 21, .inl ld)), (mf, .inl (G.2.1, 20, .inl fo))] := hD
              refine lv_iinc (v := nI (i + 1)) (lv' := [(2, .int (nI (i + 1))), (0, .ref m0), (1, .int (nI (j)))]) hx hb dX6_cut_138 hl (k := 0) rfl (nI_add (i) 1) (by decide) rfl (fun ls hl => ?_)
              refine lv_goto (tgt := 42) hx hb dX6_cut_141 (by decide) ?_
              have hfx_1 : (upd (upd (upd (upd (cutI s0 j i) (5 + i) ((cutI s0 j i) ((5 + i) + 1))) ((25 + i) + 1) ((upd (cutI s0 j i) (5 + i) ((cutI s0 j i) ((5 + i) + 1))) ((25 + i) + 2))) ((46 + i) + 1) ((upd (upd (cutI s0 j i) (5 + i) ((cutI s0 j i) ((5 + i) + 1))) ((25 + i) + 1) ((upd (cutI s0 j i) (5 + i) ((cutI s0 j i) ((5 + i) + 1))) ((25 + i) + 2))) ((46 + i) + 2))) ((67 + i) + 1) ((upd (upd (upd (cutI s0 j i) (5 + i) ((cutI s0 j i) ((5 + i) + 1))) ((25 + i) + 1) ((upd (cutI s0 j i) (5 + i) ((cutI s0 j i) ((5 + i) + 1))) ((25 + i) + 2))) ((46 + i) + 1) ((upd (upd (cutI s0 j i) (5 + i) ((cutI s0 j i) ((5 + i) + 1))) ((25 + i) + 1) ((upd (cutI s0 j i) (5 + i) ((cutI s0 j i) ((5 + i) + 1))) ((25 + i) + 2))) ((46 + i) + 2))) ((67 + i) + 2)) : Nat → Int32) = cutI s0 j (i + 1) := cutI_S (by omega) (by omega)
              have hP : va_P G.1 vwCl [(m0, .inr (6, [.int (nI (0)), .ref ms, .ref mv, .int (nI (mSM sm)), .ref mt, .int (nI (ln)), .ref mh, .ref mb, .ref mg, .ref mq, .ref ml, .ref mf, .int nw, .int fw, .int (nI (tp)), .int (bI (wr)), .long dg])), (ms, .inl (G.2.1, 88, .inl (cutI s0 j (i + 1)))), (mv, .inl (G.2.1, 528, .inl (mSV sv sm s0))), (mt, .inl (G.2.1, 60, .inl tx)), (mh, .inl (G.2.1, 21, .inl ht)), (mb, .inl (G.2.1, 21, .inl bu)), (mg, .inl (G.2.1, 21, .inl hg)), (mq, .inl (G.2.1, 21, .inl pq)), (ml, .inl (G.2.1, 21, .inl ld)), (mf, .inl (G.2.1, 20, .inl fo))] H := by rw [← hfx_1]; exact hP
              have hD : va_D A [(m0, .inr (6, [.int (nI (0)), .ref ms, .ref mv, .int (nI (mSM sm)), .ref mt, .int (nI (ln)), .ref mh, .ref mb, .ref mg, .ref mq, .ref ml, .ref mf, .int nw, .int fw, .int (nI (tp)), .int (bI (wr)), .long dg])), (ms, .inl (G.2.1, 88, .inl (cutI s0 j (i + 1)))), (mv, .inl (G.2.1, 528, .inl (mSV sv sm s0))), (mt, .inl (G.2.1, 60, .inl tx)), (mh, .inl (G.2.1, 21, .inl ht)), (mb, .inl (G.2.1, 21, .inl bu)), (mg, .inl (G.2.1, 21, .inl hg)), (mq, .inl (G.2.1, 21, .inl pq)), (ml, .inl (G.2.1, 21, .inl ld)), (mf, .inl (G.2.1, 20, .inl fo))] := by rw [← hfx_1]; exact hD
              exact ih42 (i + 1) (by first | assumption | omega) (by first | assumption | omega) (by omega) _ _ _ hP hD hS (lv_sub hl [0, 1, 2] rfl)
        have hfx_2 : (s0 : Nat → Int32) = cutI s0 j j := (cutI_0 _ _).symm
        have hP : va_P G.1 vwCl [(m0, .inr (6, [.int (nI (0)), .ref ms, .ref mv, .int (nI (mSM sm)), .ref mt, .int (nI (ln)), .ref mh, .ref mb, .ref mg, .ref mq, .ref ml, .ref mf, .int nw, .int fw, .int (nI (tp)), .int (bI (wr)), .long dg])), (ms, .inl (G.2.1, 88, .inl (cutI s0 j j))), (mv, .inl (G.2.1, 528, .inl (mSV sv sm s0))), (mt, .inl (G.2.1, 60, .inl tx)), (mh, .inl (G.2.1, 21, .inl ht)), (mb, .inl (G.2.1, 21, .inl bu)), (mg, .inl (G.2.1, 21, .inl hg)), (mq, .inl (G.2.1, 21, .inl pq)), (ml, .inl (G.2.1, 21, .inl ld)), (mf, .inl (G.2.1, 20, .inl fo))] H := by rw [← hfx_2]; exact hP
        have hD : va_D A [(m0, .inr (6, [.int (nI (0)), .ref ms, .ref mv, .int (nI (mSM sm)), .ref mt, .int (nI (ln)), .ref mh, .ref mb, .ref mg, .ref mq, .ref ml, .ref mf, .int nw, .int fw, .int (nI (tp)), .int (bI (wr)), .long dg])), (ms, .inl (G.2.1, 88, .inl (cutI s0 j j))), (mv, .inl (G.2.1, 528, .inl (mSV sv sm s0))), (mt, .inl (G.2.1, 60, .inl tx)), (mh, .inl (G.2.1, 21, .inl ht)), (mb, .inl (G.2.1, 21, .inl bu)), (mg, .inl (G.2.1, 21, .inl hg)), (mq, .inl (G.2.1, 21, .inl pq)), (ml, .inl (G.2.1, 21, .inl ld)), (mf, .inl (G.2.1, 20, .inl fo))] := by rw [← hfx_2]; exact hD
        exact L42 (n - j + 1) j (by first | assumption | omega) (by first | assumption | omega) (Nat.lt_succ_self _) _ _ _ hP hD hS (lv_sub hl [0, 1, 2] rfl)
      · exact absurd c_31 (by decide)
    · omega
  · exact absurd c_6 (by decide)
set_option maxHeartbeats 4000000 in
set_option maxRecDepth 100000 in
theorem c_X6_puts (l : Launch) (G : kG) (m0 : Nat) (ms : Nat) (mv : Nat) (mt : Nat) (mh : Nat) (mb : Nat) (mg : Nat) (mq : Nat) (ml : Nat) (mf : Nat) (th : Nat) (s0 : Fn) (sv : Fn) (sm : Nat) (tx : Fn) (ln : Nat) (ht : Fn) (bu : Fn) (hg : Fn) (pq : Fn) (ld : Fn) (fo : Fn) (nw : Int32) (fw : Int32) (tp : Nat) (wr : Bool) (dg : Int64) (a : Nat) (v : Int32) (sz : Nat) (hsm : sm ≤ 6) (ha : a < 88) : kMet l yX6_puts wsX6_puts ({ frames := 1, cells := 0, slots := 0, locals := 21 } : Room) G [.ref m0, .int (nI (a)), .int v] [(m0, .inr (6, [.int (nI (th)), .ref ms, .ref mv, .int (nI (sm)), .ref mt, .int (nI (ln)), .ref mh, .ref mb, .ref mg, .ref mq, .ref ml, .ref mf, .int nw, .int fw, .int (nI (tp)), .int (bI (wr)), .long dg])), (ms, .inl (G.2.1, 88, .inl s0)), (mv, .inl (G.2.1, 528, .inl sv)), (mt, .inl (G.2.1, 60, .inl tx)), (mh, .inl (G.2.1, 21, .inl ht)), (mb, .inl (G.2.1, 21, .inl bu)), (mg, .inl (G.2.1, 21, .inl hg)), (mq, .inl (G.2.1, 21, .inl pq)), (ml, .inl (G.2.1, 21, .inl ld)), (mf, .inl (G.2.1, 20, .inl fo))] sz (kQi G (fun (r : Int32) (u : Unit) => r = s0 a) (fun (u : Unit) => [(m0, .inr (6, [.int (nI (th)), .ref ms, .ref mv, .int (nI (mSM sm)), .ref mt, .int (nI (ln)), .ref mh, .ref mb, .ref mg, .ref mq, .ref ml, .ref mf, .int nw, .int fw, .int (nI (tp)), .int (bI (wr)), .long dg])), (ms, .inl (G.2.1, 88, .inl (upd s0 a v))), (mv, .inl (G.2.1, 528, .inl (mSV sv sm s0))), (mt, .inl (G.2.1, 60, .inl tx)), (mh, .inl (G.2.1, 21, .inl ht)), (mb, .inl (G.2.1, 21, .inl bu)), (mg, .inl (G.2.1, 21, .inl hg)), (mq, .inl (G.2.1, 21, .inl pq)), (ml, .inl (G.2.1, 21, .inl ld)), (mf, .inl (G.2.1, 20, .inl fo))])) 0 0 := by
  refine k_entry (cc := cX6_puts) (maxL := 4) (ret := (some .int)) (by decide) rfl (Nat.le_of_ble_eq_true rfl) ?_
  intro p e s m args below meth c A ls H locs Q hQ hx hb hml hr hts hown hlocks hin hA hP hK hD hS hl
  have hown : s.vm.findClass RX6 = some m.cls := hown
  have hl : lv_has ls 4 [(0, .ref m0), (1, .int (nI (a))), (2, .int v)] := hl
  have hf7 := hts (.fieldLink RX6 7 "HangingChainModel" "s" "[I") (by decide +kernel)
  have hinX6 : ∀ w ∈ wsX60, w ∈ wsX6_puts := by decide +kernel
  refine lv_aload_n hx hb dX6_puts_0 rfl (lv_at hl 0 rfl) ?_
  refine k_cv (wr := []) [] rfl (by decide) [0, 1, 2, 3, 4, 5, 6, 7, 8, 9] rfl (by decide) hP hD hS hA (k_V (n := 0) (ci := 6) (As := []) (rest := []) (wc := [(m0, .inr (6, [.int (nI (th)), .ref ms, .ref mv, .int (nI (sm)), .ref mt, .int (nI (ln)), .ref mh, .ref mb, .ref mg, .ref mq, .ref ml, .ref mf, .int nw, .int fw, .int (nI (tp)), .int (bI (wr)), .long dg])), (ms, .inl (G.2.1, 88, .inl s0)), (mv, .inl (G.2.1, 528, .inl sv)), (mt, .inl (G.2.1, 60, .inl tx)), (mh, .inl (G.2.1, 21, .inl ht)), (mb, .inl (G.2.1, 21, .inl bu)), (mg, .inl (G.2.1, 21, .inl hg)), (mq, .inl (G.2.1, 21, .inl pq)), (ml, .inl (G.2.1, 21, .inl ld)), (mf, .inl (G.2.1, 20, .inl fo))]) hx hb hml hown hts hK hP hD hl (c_X6_save l G m0 ms mv mt mh mb mg mq ml mf th s0 sv sm tx ln ht bu hg pq ld fo nw fw tp wr dg H.size (by first | assumption | omega)) [0, 1, 2, 3, 4, 5, 6, 7, 8, 9] rfl (by decide) gX6_puts_X6_save rfl rfl rfl (by decide +kernel) rfl ⟨Nat.le_of_ble_eq_true rfl, Nat.le_of_ble_eq_true rfl⟩ rfl rfl rfl (Nat.le_of_ble_eq_true rfl) dX6_puts_1 ⟨Nat.le_of_ble_eq_true rfl, Nat.le_of_ble_eq_true rfl⟩) (fun u H locs hw hP hD hS => ?_)
  have hw_1 : True := hw
  have hP : va_P G.1 vwCl [(m0, .inr (6, [.int (nI (th)), .ref ms, .ref mv, .int (nI (mSM sm)), .ref mt, .int (nI (ln)), .ref mh, .ref mb, .ref mg, .ref mq, .ref ml, .ref mf, .int nw, .int fw, .int (nI (tp)), .int (bI (wr)), .long dg])), (ms, .inl (G.2.1, 88, .inl s0)), (mv, .inl (G.2.1, 528, .inl (mSV sv sm s0))), (mt, .inl (G.2.1, 60, .inl tx)), (mh, .inl (G.2.1, 21, .inl ht)), (mb, .inl (G.2.1, 21, .inl bu)), (mg, .inl (G.2.1, 21, .inl hg)), (mq, .inl (G.2.1, 21, .inl pq)), (ml, .inl (G.2.1, 21, .inl ld)), (mf, .inl (G.2.1, 20, .inl fo))] H := hP
  have hD : va_D A [(m0, .inr (6, [.int (nI (th)), .ref ms, .ref mv, .int (nI (mSM sm)), .ref mt, .int (nI (ln)), .ref mh, .ref mb, .ref mg, .ref mq, .ref ml, .ref mf, .int nw, .int fw, .int (nI (tp)), .int (bI (wr)), .long dg])), (ms, .inl (G.2.1, 88, .inl s0)), (mv, .inl (G.2.1, 528, .inl (mSV sv sm s0))), (mt, .inl (G.2.1, 60, .inl tx)), (mh, .inl (G.2.1, 21, .inl ht)), (mb, .inl (G.2.1, 21, .inl bu)), (mg, .inl (G.2.1, 21, .inl hg)), (mq, .inl (G.2.1, 21, .inl pq)), (ml, .inl (G.2.1, 21, .inl ld)), (mf, .inl (G.2.1, 20, .inl fo))] := hD
  refine lv_aload_n hx hb dX6_puts_4 rfl (lv_at hl 0 rfl) ?_
  refine va_get (D := G.1) (ci := 6) (v := .ref ms) (C := RX6) (T := TX6) (N := 17) hx hb hts hinX6 hown hK hP 0 rfl rfl 1 (by decide) hf7 (fun _ h9 => h9) rfl dX6_puts_5 ?_
  refine lv_iload_n hx hb dX6_puts_8 rfl (lv_at hl 1 rfl) ?_
  refine g_iald (k := a) hx hb hK hP 1 rfl (by omega) (by omega) dX6_puts_9 ?_
  refine lv_istore_n (lv' := [(3, .int (s0 a)), (0, .ref m0), (1, .int (nI (a))), (2, .int v)]) hx hb dX6_puts_10 rfl hl (by decide) rfl (fun ls hl => ?_)
  refine lv_aload_n hx hb dX6_puts_11 rfl (lv_at hl 1 rfl) ?_
  refine va_get (D := G.1) (ci := 6) (v := .ref ms) (C := RX6) (T := TX6) (N := 17) hx hb hts hinX6 hown hK hP 0 rfl rfl 1 (by decide) hf7 (fun _ h9 => h9) rfl dX6_puts_12 ?_
  refine lv_iload_n hx hb dX6_puts_15 rfl (lv_at hl 2 rfl) ?_
  refine lv_iload_n hx hb dX6_puts_16 rfl (lv_at hl 3 rfl) ?_
  refine g_iast (k := a) hx hb hK hP hD hS 1 rfl (by omega) (by omega) dX6_puts_17 (fun H locs hP hD hS => ?_)
  have hP : va_P G.1 vwCl [(m0, .inr (6, [.int (nI (th)), .ref ms, .ref mv, .int (nI (mSM sm)), .ref mt, .int (nI (ln)), .ref mh, .ref mb, .ref mg, .ref mq, .ref ml, .ref mf, .int nw, .int fw, .int (nI (tp)), .int (bI (wr)), .long dg])), (ms, .inl (G.2.1, 88, .inl (upd s0 a v))), (mv, .inl (G.2.1, 528, .inl (mSV sv sm s0))), (mt, .inl (G.2.1, 60, .inl tx)), (mh, .inl (G.2.1, 21, .inl ht)), (mb, .inl (G.2.1, 21, .inl bu)), (mg, .inl (G.2.1, 21, .inl hg)), (mq, .inl (G.2.1, 21, .inl pq)), (ml, .inl (G.2.1, 21, .inl ld)), (mf, .inl (G.2.1, 20, .inl fo))] H := hP
  have hD : va_D A [(m0, .inr (6, [.int (nI (th)), .ref ms, .ref mv, .int (nI (mSM sm)), .ref mt, .int (nI (ln)), .ref mh, .ref mb, .ref mg, .ref mq, .ref ml, .ref mf, .int nw, .int fw, .int (nI (tp)), .int (bI (wr)), .long dg])), (ms, .inl (G.2.1, 88, .inl (upd s0 a v))), (mv, .inl (G.2.1, 528, .inl (mSV sv sm s0))), (mt, .inl (G.2.1, 60, .inl tx)), (mh, .inl (G.2.1, 21, .inl ht)), (mb, .inl (G.2.1, 21, .inl bu)), (mg, .inl (G.2.1, 21, .inl hg)), (mq, .inl (G.2.1, 21, .inl pq)), (ml, .inl (G.2.1, 21, .inl ld)), (mf, .inl (G.2.1, 20, .inl fo))] := hD
  refine lv_iload_n hx hb dX6_puts_18 rfl (lv_at hl 0 rfl) ?_
  rw [hQ]
  exact k_iret (v := s0 a) () [0, 1, 2, 3, 4, 5, 6, 7, 8, 9] hx hb hr hlocks (rfl) hK hP hD hS rfl (by decide) dX6_puts_19
set_option maxHeartbeats 4000000 in
set_option maxRecDepth 100000 in
theorem c_X6_bend_1 (l : Launch) (G : kG) (m0 : Nat) (ms : Nat) (mv : Nat) (mt : Nat) (mh : Nat) (mb : Nat) (mg : Nat) (mq : Nat) (ml : Nat) (mf : Nat) (th : Nat) (s0 : Fn) (sv : Fn) (sm : Nat) (tx : Fn) (ln : Nat) (ht : Fn) (bu : Fn) (hg : Fn) (pq : Fn) (ld : Fn) (fo : Fn) (nw : Int32) (fw : Int32) (tp : Nat) (wr : Bool) (dg : Int64) (k : Int32) (v : Int32) (n : Nat) (sz : Nat) (hok : mOK s0 n) (h1 : isN k n = false) : kMet l yX6_bend wsX6_bend ({ frames := 2, cells := 0, slots := 0, locals := 44 } : Room) G [.ref m0, .int k, .int v] [(m0, .inr (6, [.int (nI (th)), .ref ms, .ref mv, .int (nI (sm)), .ref mt, .int (nI (ln)), .ref mh, .ref mb, .ref mg, .ref mq, .ref ml, .ref mf, .int nw, .int fw, .int (nI (tp)), .int (bI (wr)), .long dg])), (ms, .inl (G.2.1, 88, .inl s0)), (mv, .inl (G.2.1, 528, .inl sv)), (mt, .inl (G.2.1, 60, .inl tx)), (mh, .inl (G.2.1, 21, .inl ht)), (mb, .inl (G.2.1, 21, .inl bu)), (mg, .inl (G.2.1, 21, .inl hg)), (mq, .inl (G.2.1, 21, .inl pq)), (ml, .inl (G.2.1, 21, .inl ld)), (mf, .inl (G.2.1, 20, .inl fo))] sz (kQi G (fun (r : Int32) (u : Unit) => r = 0) (fun (u : Unit) => [(m0, .inr (6, [.int (nI 1), .ref ms, .ref mv, .int (nI (sm)), .ref mt, .int (nI (ln)), .ref mh, .ref mb, .ref mg, .ref mq, .ref ml, .ref mf, .int nw, .int fw, .int (nI (tp)), .int (bI (wr)), .long dg])), (ms, .inl (G.2.1, 88, .inl s0)), (mv, .inl (G.2.1, 528, .inl sv)), (mt, .inl (G.2.1, 60, .inl tx)), (mh, .inl (G.2.1, 21, .inl ht)), (mb, .inl (G.2.1, 21, .inl bu)), (mg, .inl (G.2.1, 21, .inl hg)), (mq, .inl (G.2.1, 21, .inl pq)), (ml, .inl (G.2.1, 21, .inl ld)), (mf, .inl (G.2.1, 20, .inl fo))])) 0 0 := by
  refine k_entry (cc := cX6_bend) (maxL := 3) (ret := (some .int)) (by decide) rfl (Nat.le_of_ble_eq_true rfl) ?_
  intro p e s m args below meth c A ls H locs Q hQ hx hb hml hr hts hown hlocks hin hA hP hK hD hS hl
  have hown : s.vm.findClass RX6 = some m.cls := hown
  have hl : lv_has ls 3 [(0, .ref m0), (1, .int k), (2, .int v)] := hl
  obtain ⟨hs0, hn1, hn, hv⟩ := id hok
  refine lv_aload_n hx hb dX6_bend_0 rfl (lv_at hl 0 rfl) ?_
  refine lv_aload_n hx hb dX6_bend_1 rfl (lv_at hl 0 rfl) ?_
  refine lv_iload_n hx hb dX6_bend_2 rfl (lv_at hl 1 rfl) ?_
  refine k_ci (wr := []) [] rfl (by decide) [0, 1, 2, 3, 4, 5, 6, 7, 8, 9] rfl (by decide) hP hD hS hA (k_V (n := 1) (ci := 6) (As := [.int k]) (rest := [.ref m0]) (wc := [(m0, .inr (6, [.int (nI (th)), .ref ms, .ref mv, .int (nI (sm)), .ref mt, .int (nI (ln)), .ref mh, .ref mb, .ref mg, .ref mq, .ref ml, .ref mf, .int nw, .int fw, .int (nI (tp)), .int (bI (wr)), .long dg])), (ms, .inl (G.2.1, 88, .inl s0)), (mv, .inl (G.2.1, 528, .inl sv)), (mt, .inl (G.2.1, 60, .inl tx)), (mh, .inl (G.2.1, 21, .inl ht)), (mb, .inl (G.2.1, 21, .inl bu)), (mg, .inl (G.2.1, 21, .inl hg)), (mq, .inl (G.2.1, 21, .inl pq)), (ml, .inl (G.2.1, 21, .inl ld)), (mf, .inl (G.2.1, 20, .inl fo))]) hx hb hml hown hts hK hP hD hl (c_X6_isLink l G m0 ms mv mt mh mb mg mq ml mf th s0 sv sm tx ln ht bu hg pq ld fo nw fw tp wr dg k n H.size (by first | assumption | omega)) [0, 1, 2, 3, 4, 5, 6, 7, 8, 9] rfl (by decide) gX6_bend_X6_isLink rfl rfl rfl (by decide +kernel) rfl ⟨Nat.le_of_ble_eq_true rfl, Nat.le_of_ble_eq_true rfl⟩ rfl rfl rfl (Nat.le_of_ble_eq_true rfl) dX6_bend_3 ⟨Nat.le_of_ble_eq_true rfl, Nat.le_of_ble_eq_true rfl⟩) (fun r_3 u H locs hw hP hD hS => ?_)
  have hw_3 : r_3 = bI (isN k n) := hw
  have hP : va_P G.1 vwCl [(m0, .inr (6, [.int (nI (th)), .ref ms, .ref mv, .int (nI (sm)), .ref mt, .int (nI (ln)), .ref mh, .ref mb, .ref mg, .ref mq, .ref ml, .ref mf, .int nw, .int fw, .int (nI (tp)), .int (bI (wr)), .long dg])), (ms, .inl (G.2.1, 88, .inl s0)), (mv, .inl (G.2.1, 528, .inl sv)), (mt, .inl (G.2.1, 60, .inl tx)), (mh, .inl (G.2.1, 21, .inl ht)), (mb, .inl (G.2.1, 21, .inl bu)), (mg, .inl (G.2.1, 21, .inl hg)), (mq, .inl (G.2.1, 21, .inl pq)), (ml, .inl (G.2.1, 21, .inl ld)), (mf, .inl (G.2.1, 20, .inl fo))] H := hP
  have hD : va_D A [(m0, .inr (6, [.int (nI (th)), .ref ms, .ref mv, .int (nI (sm)), .ref mt, .int (nI (ln)), .ref mh, .ref mb, .ref mg, .ref mq, .ref ml, .ref mf, .int nw, .int fw, .int (nI (tp)), .int (bI (wr)), .long dg])), (ms, .inl (G.2.1, 88, .inl s0)), (mv, .inl (G.2.1, 528, .inl sv)), (mt, .inl (G.2.1, 60, .inl tx)), (mh, .inl (G.2.1, 21, .inl ht)), (mb, .inl (G.2.1, 21, .inl bu)), (mg, .inl (G.2.1, 21, .inl hg)), (mq, .inl (G.2.1, 21, .inl pq)), (ml, .inl (G.2.1, 21, .inl ld)), (mf, .inl (G.2.1, 20, .inl fo))] := hD
  subst hw_3
  refine g_ti (y := nI 0) (by rw [h1]; rfl) ?_
  refine g_if_ne (a := 0) (tgt := 13) hx hb (by omega) dX6_bend_6 (by decide) (fun c_6 => ?_) (fun c_6 => ?_)
  · exact absurd c_6 (by decide)
  · skip
    refine lv_iconst (v := 1) hx hb dX6_bend_9 (by decide) ?_
    refine lv_goto (tgt := 28) hx hb dX6_bend_10 (by decide) ?_
    refine k_ci (wr := []) [] rfl (by decide) [0, 1, 2, 3, 4, 5, 6, 7, 8, 9] rfl (by decide) hP hD hS hA (k_V (n := 1) (ci := 6) (As := [.int 1]) (rest := []) (wc := [(m0, .inr (6, [.int (nI (th)), .ref ms, .ref mv, .int (nI (sm)), .ref mt, .int (nI (ln)), .ref mh, .ref mb, .ref mg, .ref mq, .ref ml, .ref mf, .int nw, .int fw, .int (nI (tp)), .int (bI (wr)), .long dg])), (ms, .inl (G.2.1, 88, .inl s0)), (mv, .inl (G.2.1, 528, .inl sv)), (mt, .inl (G.2.1, 60, .inl tx)), (mh, .inl (G.2.1, 21, .inl ht)), (mb, .inl (G.2.1, 21, .inl bu)), (mg, .inl (G.2.1, 21, .inl hg)), (mq, .inl (G.2.1, 21, .inl pq)), (ml, .inl (G.2.1, 21, .inl ld)), (mf, .inl (G.2.1, 20, .inl fo))]) hx hb hml hown hts hK hP hD hl (c_X6_holds l G m0 ms mv mt mh mb mg mq ml mf th s0 sv sm tx ln ht bu hg pq ld fo nw fw tp wr dg 1 H.size (by first | assumption | omega)) [0, 1, 2, 3, 4, 5, 6, 7, 8, 9] rfl (by decide) gX6_bend_X6_holds rfl rfl rfl (by decide +kernel) rfl ⟨Nat.le_of_ble_eq_true rfl, Nat.le_of_ble_eq_true rfl⟩ rfl rfl rfl (Nat.le_of_ble_eq_true rfl) dX6_bend_28 ⟨Nat.le_of_ble_eq_true rfl, Nat.le_of_ble_eq_true rfl⟩) (fun r_28 u H locs hw hP hD hS => ?_)
    have hw_28 : r_28 = bI (decide (1 = 0)) := hw
    have hP : va_P G.1 vwCl [(m0, .inr (6, [.int (nI (1)), .ref ms, .ref mv, .int (nI (sm)), .ref mt, .int (nI (ln)), .ref mh, .ref mb, .ref mg, .ref mq, .ref ml, .ref mf, .int nw, .int fw, .int (nI (tp)), .int (bI (wr)), .long dg])), (ms, .inl (G.2.1, 88, .inl s0)), (mv, .inl (G.2.1, 528, .inl sv)), (mt, .inl (G.2.1, 60, .inl tx)), (mh, .inl (G.2.1, 21, .inl ht)), (mb, .inl (G.2.1, 21, .inl bu)), (mg, .inl (G.2.1, 21, .inl hg)), (mq, .inl (G.2.1, 21, .inl pq)), (ml, .inl (G.2.1, 21, .inl ld)), (mf, .inl (G.2.1, 20, .inl fo))] H := hP
    have hD : va_D A [(m0, .inr (6, [.int (nI (1)), .ref ms, .ref mv, .int (nI (sm)), .ref mt, .int (nI (ln)), .ref mh, .ref mb, .ref mg, .ref mq, .ref ml, .ref mf, .int nw, .int fw, .int (nI (tp)), .int (bI (wr)), .long dg])), (ms, .inl (G.2.1, 88, .inl s0)), (mv, .inl (G.2.1, 528, .inl sv)), (mt, .inl (G.2.1, 60, .inl tx)), (mh, .inl (G.2.1, 21, .inl ht)), (mb, .inl (G.2.1, 21, .inl bu)), (mg, .inl (G.2.1, 21, .inl hg)), (mq, .inl (G.2.1, 21, .inl pq)), (ml, .inl (G.2.1, 21, .inl ld)), (mf, .inl (G.2.1, 20, .inl fo))] := hD
    subst hw_28
    refine g_ti (y := nI 0) (by rw [decide_eq_false (by decide)]; rfl) ?_
    refine g_if_eq (a := 0) (tgt := 47) hx hb (by omega) dX6_bend_31 (by decide) (fun c_31 => ?_) (fun c_31 => ?_)
    · skip
      refine lv_iconst (v := 0) hx hb dX6_bend_47 (by decide) ?_
      rw [hQ]
      exact k_iret (v := 0) () [0, 1, 2, 3, 4, 5, 6, 7, 8, 9] hx hb hr hlocks (rfl) hK hP hD hS rfl (by decide) dX6_bend_48
    · exact absurd c_31 (by decide)
set_option maxHeartbeats 4000000 in
set_option maxRecDepth 100000 in
theorem c_X6_bend_2 (l : Launch) (G : kG) (m0 : Nat) (ms : Nat) (mv : Nat) (mt : Nat) (mh : Nat) (mb : Nat) (mg : Nat) (mq : Nat) (ml : Nat) (mf : Nat) (th : Nat) (s0 : Fn) (sv : Fn) (sm : Nat) (tx : Fn) (ln : Nat) (ht : Fn) (bu : Fn) (hg : Fn) (pq : Fn) (ld : Fn) (fo : Fn) (nw : Int32) (fw : Int32) (tp : Nat) (wr : Bool) (dg : Int64) (k : Int32) (v : Int32) (n : Nat) (sz : Nat) (hok : mOK s0 n) (h1 : isN k n = true) (h2 : ¬ (-2 ≤ v ∧ v ≤ 2)) : kMet l yX6_bend wsX6_bend ({ frames := 2, cells := 0, slots := 0, locals := 44 } : Room) G [.ref m0, .int k, .int v] [(m0, .inr (6, [.int (nI (th)), .ref ms, .ref mv, .int (nI (sm)), .ref mt, .int (nI (ln)), .ref mh, .ref mb, .ref mg, .ref mq, .ref ml, .ref mf, .int nw, .int fw, .int (nI (tp)), .int (bI (wr)), .long dg])), (ms, .inl (G.2.1, 88, .inl s0)), (mv, .inl (G.2.1, 528, .inl sv)), (mt, .inl (G.2.1, 60, .inl tx)), (mh, .inl (G.2.1, 21, .inl ht)), (mb, .inl (G.2.1, 21, .inl bu)), (mg, .inl (G.2.1, 21, .inl hg)), (mq, .inl (G.2.1, 21, .inl pq)), (ml, .inl (G.2.1, 21, .inl ld)), (mf, .inl (G.2.1, 20, .inl fo))] sz (kQi G (fun (r : Int32) (u : Unit) => r = 0) (fun (u : Unit) => [(m0, .inr (6, [.int (nI 2), .ref ms, .ref mv, .int (nI (sm)), .ref mt, .int (nI (ln)), .ref mh, .ref mb, .ref mg, .ref mq, .ref ml, .ref mf, .int nw, .int fw, .int (nI (tp)), .int (bI (wr)), .long dg])), (ms, .inl (G.2.1, 88, .inl s0)), (mv, .inl (G.2.1, 528, .inl sv)), (mt, .inl (G.2.1, 60, .inl tx)), (mh, .inl (G.2.1, 21, .inl ht)), (mb, .inl (G.2.1, 21, .inl bu)), (mg, .inl (G.2.1, 21, .inl hg)), (mq, .inl (G.2.1, 21, .inl pq)), (ml, .inl (G.2.1, 21, .inl ld)), (mf, .inl (G.2.1, 20, .inl fo))])) 0 0 := by
  refine k_entry (cc := cX6_bend) (maxL := 3) (ret := (some .int)) (by decide) rfl (Nat.le_of_ble_eq_true rfl) ?_
  intro p e s m args below meth c A ls H locs Q hQ hx hb hml hr hts hown hlocks hin hA hP hK hD hS hl
  have hown : s.vm.findClass RX6 = some m.cls := hown
  have hl : lv_has ls 3 [(0, .ref m0), (1, .int k), (2, .int v)] := hl
  obtain ⟨hs0, hn1, hn, hv⟩ := id hok
  refine lv_aload_n hx hb dX6_bend_0 rfl (lv_at hl 0 rfl) ?_
  refine lv_aload_n hx hb dX6_bend_1 rfl (lv_at hl 0 rfl) ?_
  refine lv_iload_n hx hb dX6_bend_2 rfl (lv_at hl 1 rfl) ?_
  refine k_ci (wr := []) [] rfl (by decide) [0, 1, 2, 3, 4, 5, 6, 7, 8, 9] rfl (by decide) hP hD hS hA (k_V (n := 1) (ci := 6) (As := [.int k]) (rest := [.ref m0]) (wc := [(m0, .inr (6, [.int (nI (th)), .ref ms, .ref mv, .int (nI (sm)), .ref mt, .int (nI (ln)), .ref mh, .ref mb, .ref mg, .ref mq, .ref ml, .ref mf, .int nw, .int fw, .int (nI (tp)), .int (bI (wr)), .long dg])), (ms, .inl (G.2.1, 88, .inl s0)), (mv, .inl (G.2.1, 528, .inl sv)), (mt, .inl (G.2.1, 60, .inl tx)), (mh, .inl (G.2.1, 21, .inl ht)), (mb, .inl (G.2.1, 21, .inl bu)), (mg, .inl (G.2.1, 21, .inl hg)), (mq, .inl (G.2.1, 21, .inl pq)), (ml, .inl (G.2.1, 21, .inl ld)), (mf, .inl (G.2.1, 20, .inl fo))]) hx hb hml hown hts hK hP hD hl (c_X6_isLink l G m0 ms mv mt mh mb mg mq ml mf th s0 sv sm tx ln ht bu hg pq ld fo nw fw tp wr dg k n H.size (by first | assumption | omega)) [0, 1, 2, 3, 4, 5, 6, 7, 8, 9] rfl (by decide) gX6_bend_X6_isLink rfl rfl rfl (by decide +kernel) rfl ⟨Nat.le_of_ble_eq_true rfl, Nat.le_of_ble_eq_true rfl⟩ rfl rfl rfl (Nat.le_of_ble_eq_true rfl) dX6_bend_3 ⟨Nat.le_of_ble_eq_true rfl, Nat.le_of_ble_eq_true rfl⟩) (fun r_3 u H locs hw hP hD hS => ?_)
  have hw_3 : r_3 = bI (isN k n) := hw
  have hP : va_P G.1 vwCl [(m0, .inr (6, [.int (nI (th)), .ref ms, .ref mv, .int (nI (sm)), .ref mt, .int (nI (ln)), .ref mh, .ref mb, .ref mg, .ref mq, .ref ml, .ref mf, .int nw, .int fw, .int (nI (tp)), .int (bI (wr)), .long dg])), (ms, .inl (G.2.1, 88, .inl s0)), (mv, .inl (G.2.1, 528, .inl sv)), (mt, .inl (G.2.1, 60, .inl tx)), (mh, .inl (G.2.1, 21, .inl ht)), (mb, .inl (G.2.1, 21, .inl bu)), (mg, .inl (G.2.1, 21, .inl hg)), (mq, .inl (G.2.1, 21, .inl pq)), (ml, .inl (G.2.1, 21, .inl ld)), (mf, .inl (G.2.1, 20, .inl fo))] H := hP
  have hD : va_D A [(m0, .inr (6, [.int (nI (th)), .ref ms, .ref mv, .int (nI (sm)), .ref mt, .int (nI (ln)), .ref mh, .ref mb, .ref mg, .ref mq, .ref ml, .ref mf, .int nw, .int fw, .int (nI (tp)), .int (bI (wr)), .long dg])), (ms, .inl (G.2.1, 88, .inl s0)), (mv, .inl (G.2.1, 528, .inl sv)), (mt, .inl (G.2.1, 60, .inl tx)), (mh, .inl (G.2.1, 21, .inl ht)), (mb, .inl (G.2.1, 21, .inl bu)), (mg, .inl (G.2.1, 21, .inl hg)), (mq, .inl (G.2.1, 21, .inl pq)), (ml, .inl (G.2.1, 21, .inl ld)), (mf, .inl (G.2.1, 20, .inl fo))] := hD
  subst hw_3
  refine g_ti (y := nI 1) (by rw [h1]; rfl) ?_
  refine g_if_ne (a := 1) (tgt := 13) hx hb (by omega) dX6_bend_6 (by decide) (fun c_6 => ?_) (fun c_6 => ?_)
  · skip
    refine lv_iload_n hx hb dX6_bend_13 rfl (lv_at hl 2 rfl) ?_
    refine lv_bipush (v := (-2)) hx hb dX6_bend_14 (by decide) ?_
    refine lv_iconst (v := 2) hx hb dX6_bend_16 (by decide) ?_
    refine k_ci (wr := [(m0, .inr (6, [.int (nI (th)), .ref ms, .ref mv, .int (nI (sm)), .ref mt, .int (nI (ln)), .ref mh, .ref mb, .ref mg, .ref mq, .ref ml, .ref mf, .int nw, .int fw, .int (nI (tp)), .int (bI (wr)), .long dg])), (ms, .inl (G.2.1, 88, .inl s0)), (mv, .inl (G.2.1, 528, .inl sv)), (mt, .inl (G.2.1, 60, .inl tx)), (mh, .inl (G.2.1, 21, .inl ht)), (mb, .inl (G.2.1, 21, .inl bu)), (mg, .inl (G.2.1, 21, .inl hg)), (mq, .inl (G.2.1, 21, .inl pq)), (ml, .inl (G.2.1, 21, .inl ld)), (mf, .inl (G.2.1, 20, .inl fo))]) [0, 1, 2, 3, 4, 5, 6, 7, 8, 9] rfl (by decide) [] rfl (by decide) hP hD hS hA (k_S (n := 3) (As := [.int v, .int (-2), .int 2]) (rest := [.ref m0]) (wc := []) hx hb hml hown hts hK hP hD hl (c_X6_in l G v (-2) 2 H.size) [] rfl (by decide) gX6_bend_X6_in rfl rfl rfl (by decide +kernel) rfl ⟨Nat.le_of_ble_eq_true rfl, Nat.le_of_ble_eq_true rfl⟩ rfl (Nat.le_of_ble_eq_true rfl) dX6_bend_17 ⟨Nat.le_of_ble_eq_true rfl, Nat.le_of_ble_eq_true rfl⟩) (fun r_17 u H locs hw hP hD hS => ?_)
    have hw_17 : r_17 = bI (decide ((-2) ≤ v ∧ v ≤ 2)) := hw
    have hP : va_P G.1 vwCl [(m0, .inr (6, [.int (nI (th)), .ref ms, .ref mv, .int (nI (sm)), .ref mt, .int (nI (ln)), .ref mh, .ref mb, .ref mg, .ref mq, .ref ml, .ref mf, .int nw, .int fw, .int (nI (tp)), .int (bI (wr)), .long dg])), (ms, .inl (G.2.1, 88, .inl s0)), (mv, .inl (G.2.1, 528, .inl sv)), (mt, .inl (G.2.1, 60, .inl tx)), (mh, .inl (G.2.1, 21, .inl ht)), (mb, .inl (G.2.1, 21, .inl bu)), (mg, .inl (G.2.1, 21, .inl hg)), (mq, .inl (G.2.1, 21, .inl pq)), (ml, .inl (G.2.1, 21, .inl ld)), (mf, .inl (G.2.1, 20, .inl fo))] H := hP
    have hD : va_D A [(m0, .inr (6, [.int (nI (th)), .ref ms, .ref mv, .int (nI (sm)), .ref mt, .int (nI (ln)), .ref mh, .ref mb, .ref mg, .ref mq, .ref ml, .ref mf, .int nw, .int fw, .int (nI (tp)), .int (bI (wr)), .long dg])), (ms, .inl (G.2.1, 88, .inl s0)), (mv, .inl (G.2.1, 528, .inl sv)), (mt, .inl (G.2.1, 60, .inl tx)), (mh, .inl (G.2.1, 21, .inl ht)), (mb, .inl (G.2.1, 21, .inl bu)), (mg, .inl (G.2.1, 21, .inl hg)), (mq, .inl (G.2.1, 21, .inl pq)), (ml, .inl (G.2.1, 21, .inl ld)), (mf, .inl (G.2.1, 20, .inl fo))] := hD
    subst hw_17
    refine g_ti (y := nI 0) (by rw [decide_eq_false h2]; rfl) ?_
    refine g_if_ne (a := 0) (tgt := 27) hx hb (by omega) dX6_bend_20 (by decide) (fun c_20 => ?_) (fun c_20 => ?_)
    · exact absurd c_20 (by decide)
    · skip
      refine lv_iconst (v := 2) hx hb dX6_bend_23 (by decide) ?_
      refine lv_goto (tgt := 28) hx hb dX6_bend_24 (by decide) ?_
      refine k_ci (wr := []) [] rfl (by decide) [0, 1, 2, 3, 4, 5, 6, 7, 8, 9] rfl (by decide) hP hD hS hA (k_V (n := 1) (ci := 6) (As := [.int 2]) (rest := []) (wc := [(m0, .inr (6, [.int (nI (th)), .ref ms, .ref mv, .int (nI (sm)), .ref mt, .int (nI (ln)), .ref mh, .ref mb, .ref mg, .ref mq, .ref ml, .ref mf, .int nw, .int fw, .int (nI (tp)), .int (bI (wr)), .long dg])), (ms, .inl (G.2.1, 88, .inl s0)), (mv, .inl (G.2.1, 528, .inl sv)), (mt, .inl (G.2.1, 60, .inl tx)), (mh, .inl (G.2.1, 21, .inl ht)), (mb, .inl (G.2.1, 21, .inl bu)), (mg, .inl (G.2.1, 21, .inl hg)), (mq, .inl (G.2.1, 21, .inl pq)), (ml, .inl (G.2.1, 21, .inl ld)), (mf, .inl (G.2.1, 20, .inl fo))]) hx hb hml hown hts hK hP hD hl (c_X6_holds l G m0 ms mv mt mh mb mg mq ml mf th s0 sv sm tx ln ht bu hg pq ld fo nw fw tp wr dg 2 H.size (by first | assumption | omega)) [0, 1, 2, 3, 4, 5, 6, 7, 8, 9] rfl (by decide) gX6_bend_X6_holds rfl rfl rfl (by decide +kernel) rfl ⟨Nat.le_of_ble_eq_true rfl, Nat.le_of_ble_eq_true rfl⟩ rfl rfl rfl (Nat.le_of_ble_eq_true rfl) dX6_bend_28 ⟨Nat.le_of_ble_eq_true rfl, Nat.le_of_ble_eq_true rfl⟩) (fun r_28 u H locs hw hP hD hS => ?_)
      have hw_28 : r_28 = bI (decide (2 = 0)) := hw
      have hP : va_P G.1 vwCl [(m0, .inr (6, [.int (nI (2)), .ref ms, .ref mv, .int (nI (sm)), .ref mt, .int (nI (ln)), .ref mh, .ref mb, .ref mg, .ref mq, .ref ml, .ref mf, .int nw, .int fw, .int (nI (tp)), .int (bI (wr)), .long dg])), (ms, .inl (G.2.1, 88, .inl s0)), (mv, .inl (G.2.1, 528, .inl sv)), (mt, .inl (G.2.1, 60, .inl tx)), (mh, .inl (G.2.1, 21, .inl ht)), (mb, .inl (G.2.1, 21, .inl bu)), (mg, .inl (G.2.1, 21, .inl hg)), (mq, .inl (G.2.1, 21, .inl pq)), (ml, .inl (G.2.1, 21, .inl ld)), (mf, .inl (G.2.1, 20, .inl fo))] H := hP
      have hD : va_D A [(m0, .inr (6, [.int (nI (2)), .ref ms, .ref mv, .int (nI (sm)), .ref mt, .int (nI (ln)), .ref mh, .ref mb, .ref mg, .ref mq, .ref ml, .ref mf, .int nw, .int fw, .int (nI (tp)), .int (bI (wr)), .long dg])), (ms, .inl (G.2.1, 88, .inl s0)), (mv, .inl (G.2.1, 528, .inl sv)), (mt, .inl (G.2.1, 60, .inl tx)), (mh, .inl (G.2.1, 21, .inl ht)), (mb, .inl (G.2.1, 21, .inl bu)), (mg, .inl (G.2.1, 21, .inl hg)), (mq, .inl (G.2.1, 21, .inl pq)), (ml, .inl (G.2.1, 21, .inl ld)), (mf, .inl (G.2.1, 20, .inl fo))] := hD
      subst hw_28
      refine g_ti (y := nI 0) (by rw [decide_eq_false (by decide)]; rfl) ?_
      refine g_if_eq (a := 0) (tgt := 47) hx hb (by omega) dX6_bend_31 (by decide) (fun c_31 => ?_) (fun c_31 => ?_)
      · skip
        refine lv_iconst (v := 0) hx hb dX6_bend_47 (by decide) ?_
        rw [hQ]
        exact k_iret (v := 0) () [0, 1, 2, 3, 4, 5, 6, 7, 8, 9] hx hb hr hlocks (rfl) hK hP hD hS rfl (by decide) dX6_bend_48
      · exact absurd c_31 (by decide)
  · exact absurd c_6 (by decide)
set_option maxHeartbeats 4000000 in
set_option maxRecDepth 100000 in
theorem c_X6_bend_0 (l : Launch) (G : kG) (m0 : Nat) (ms : Nat) (mv : Nat) (mt : Nat) (mh : Nat) (mb : Nat) (mg : Nat) (mq : Nat) (ml : Nat) (mf : Nat) (th : Nat) (s0 : Fn) (sv : Fn) (sm : Nat) (tx : Fn) (ln : Nat) (ht : Fn) (bu : Fn) (hg : Fn) (pq : Fn) (ld : Fn) (fo : Fn) (nw : Int32) (fw : Int32) (tp : Nat) (wr : Bool) (dg : Int64) (j : Nat) (v : Int32) (n : Nat) (sz : Nat) (hok : mOK s0 n) (hsm : sm ≤ 6) (hj : j < n) (h2 : -2 ≤ v ∧ v ≤ 2) : kMet l yX6_bend wsX6_bend ({ frames := 2, cells := 0, slots := 0, locals := 44 } : Room) G [.ref m0, .int (nI (j)), .int v] [(m0, .inr (6, [.int (nI (th)), .ref ms, .ref mv, .int (nI (sm)), .ref mt, .int (nI (ln)), .ref mh, .ref mb, .ref mg, .ref mq, .ref ml, .ref mf, .int nw, .int fw, .int (nI (tp)), .int (bI (wr)), .long dg])), (ms, .inl (G.2.1, 88, .inl s0)), (mv, .inl (G.2.1, 528, .inl sv)), (mt, .inl (G.2.1, 60, .inl tx)), (mh, .inl (G.2.1, 21, .inl ht)), (mb, .inl (G.2.1, 21, .inl bu)), (mg, .inl (G.2.1, 21, .inl hg)), (mq, .inl (G.2.1, 21, .inl pq)), (ml, .inl (G.2.1, 21, .inl ld)), (mf, .inl (G.2.1, 20, .inl fo))] sz (kQi G (fun (r : Int32) (u : Unit) => r = s0 (5 + j) + 2) (fun (u : Unit) => [(m0, .inr (6, [.int (nI 0), .ref ms, .ref mv, .int (nI (mSM sm)), .ref mt, .int (nI (ln)), .ref mh, .ref mb, .ref mg, .ref mq, .ref ml, .ref mf, .int nw, .int fw, .int (nI (tp)), .int (bI (wr)), .long dg])), (ms, .inl (G.2.1, 88, .inl (upd s0 (5 + j) v))), (mv, .inl (G.2.1, 528, .inl (mSV sv sm s0))), (mt, .inl (G.2.1, 60, .inl tx)), (mh, .inl (G.2.1, 21, .inl ht)), (mb, .inl (G.2.1, 21, .inl bu)), (mg, .inl (G.2.1, 21, .inl hg)), (mq, .inl (G.2.1, 21, .inl pq)), (ml, .inl (G.2.1, 21, .inl ld)), (mf, .inl (G.2.1, 20, .inl fo))])) 0 0 := by
  refine k_entry (cc := cX6_bend) (maxL := 3) (ret := (some .int)) (by decide) rfl (Nat.le_of_ble_eq_true rfl) ?_
  intro p e s m args below meth c A ls H locs Q hQ hx hb hml hr hts hown hlocks hin hA hP hK hD hS hl
  have hown : s.vm.findClass RX6 = some m.cls := hown
  have hl : lv_has ls 3 [(0, .ref m0), (1, .int (nI (j))), (2, .int v)] := hl
  obtain ⟨hs0, hn1, hn, hv⟩ := id hok
  refine lv_aload_n hx hb dX6_bend_0 rfl (lv_at hl 0 rfl) ?_
  refine lv_aload_n hx hb dX6_bend_1 rfl (lv_at hl 0 rfl) ?_
  refine lv_iload_n hx hb dX6_bend_2 rfl (lv_at hl 1 rfl) ?_
  refine k_ci (wr := []) [] rfl (by decide) [0, 1, 2, 3, 4, 5, 6, 7, 8, 9] rfl (by decide) hP hD hS hA (k_V (n := 1) (ci := 6) (As := [.int (nI (j))]) (rest := [.ref m0]) (wc := [(m0, .inr (6, [.int (nI (th)), .ref ms, .ref mv, .int (nI (sm)), .ref mt, .int (nI (ln)), .ref mh, .ref mb, .ref mg, .ref mq, .ref ml, .ref mf, .int nw, .int fw, .int (nI (tp)), .int (bI (wr)), .long dg])), (ms, .inl (G.2.1, 88, .inl s0)), (mv, .inl (G.2.1, 528, .inl sv)), (mt, .inl (G.2.1, 60, .inl tx)), (mh, .inl (G.2.1, 21, .inl ht)), (mb, .inl (G.2.1, 21, .inl bu)), (mg, .inl (G.2.1, 21, .inl hg)), (mq, .inl (G.2.1, 21, .inl pq)), (ml, .inl (G.2.1, 21, .inl ld)), (mf, .inl (G.2.1, 20, .inl fo))]) hx hb hml hown hts hK hP hD hl (c_X6_isLink l G m0 ms mv mt mh mb mg mq ml mf th s0 sv sm tx ln ht bu hg pq ld fo nw fw tp wr dg (nI (j)) n H.size (by first | assumption | omega)) [0, 1, 2, 3, 4, 5, 6, 7, 8, 9] rfl (by decide) gX6_bend_X6_isLink rfl rfl rfl (by decide +kernel) rfl ⟨Nat.le_of_ble_eq_true rfl, Nat.le_of_ble_eq_true rfl⟩ rfl rfl rfl (Nat.le_of_ble_eq_true rfl) dX6_bend_3 ⟨Nat.le_of_ble_eq_true rfl, Nat.le_of_ble_eq_true rfl⟩) (fun r_3 u H locs hw hP hD hS => ?_)
  have hw_3 : r_3 = bI (isN (nI (j)) n) := hw
  have hP : va_P G.1 vwCl [(m0, .inr (6, [.int (nI (th)), .ref ms, .ref mv, .int (nI (sm)), .ref mt, .int (nI (ln)), .ref mh, .ref mb, .ref mg, .ref mq, .ref ml, .ref mf, .int nw, .int fw, .int (nI (tp)), .int (bI (wr)), .long dg])), (ms, .inl (G.2.1, 88, .inl s0)), (mv, .inl (G.2.1, 528, .inl sv)), (mt, .inl (G.2.1, 60, .inl tx)), (mh, .inl (G.2.1, 21, .inl ht)), (mb, .inl (G.2.1, 21, .inl bu)), (mg, .inl (G.2.1, 21, .inl hg)), (mq, .inl (G.2.1, 21, .inl pq)), (ml, .inl (G.2.1, 21, .inl ld)), (mf, .inl (G.2.1, 20, .inl fo))] H := hP
  have hD : va_D A [(m0, .inr (6, [.int (nI (th)), .ref ms, .ref mv, .int (nI (sm)), .ref mt, .int (nI (ln)), .ref mh, .ref mb, .ref mg, .ref mq, .ref ml, .ref mf, .int nw, .int fw, .int (nI (tp)), .int (bI (wr)), .long dg])), (ms, .inl (G.2.1, 88, .inl s0)), (mv, .inl (G.2.1, 528, .inl sv)), (mt, .inl (G.2.1, 60, .inl tx)), (mh, .inl (G.2.1, 21, .inl ht)), (mb, .inl (G.2.1, 21, .inl bu)), (mg, .inl (G.2.1, 21, .inl hg)), (mq, .inl (G.2.1, 21, .inl pq)), (ml, .inl (G.2.1, 21, .inl ld)), (mf, .inl (G.2.1, 20, .inl fo))] := hD
  subst hw_3
  refine g_ti (y := nI 1) (by rw [isN_nI (by omega), decide_eq_true (by omega)]; rfl) ?_
  refine g_if_ne (a := 1) (tgt := 13) hx hb (by omega) dX6_bend_6 (by decide) (fun c_6 => ?_) (fun c_6 => ?_)
  · skip
    refine lv_iload_n hx hb dX6_bend_13 rfl (lv_at hl 2 rfl) ?_
    refine lv_bipush (v := (-2)) hx hb dX6_bend_14 (by decide) ?_
    refine lv_iconst (v := 2) hx hb dX6_bend_16 (by decide) ?_
    refine k_ci (wr := [(m0, .inr (6, [.int (nI (th)), .ref ms, .ref mv, .int (nI (sm)), .ref mt, .int (nI (ln)), .ref mh, .ref mb, .ref mg, .ref mq, .ref ml, .ref mf, .int nw, .int fw, .int (nI (tp)), .int (bI (wr)), .long dg])), (ms, .inl (G.2.1, 88, .inl s0)), (mv, .inl (G.2.1, 528, .inl sv)), (mt, .inl (G.2.1, 60, .inl tx)), (mh, .inl (G.2.1, 21, .inl ht)), (mb, .inl (G.2.1, 21, .inl bu)), (mg, .inl (G.2.1, 21, .inl hg)), (mq, .inl (G.2.1, 21, .inl pq)), (ml, .inl (G.2.1, 21, .inl ld)), (mf, .inl (G.2.1, 20, .inl fo))]) [0, 1, 2, 3, 4, 5, 6, 7, 8, 9] rfl (by decide) [] rfl (by decide) hP hD hS hA (k_S (n := 3) (As := [.int v, .int (-2), .int 2]) (rest := [.ref m0]) (wc := []) hx hb hml hown hts hK hP hD hl (c_X6_in l G v (-2) 2 H.size) [] rfl (by decide) gX6_bend_X6_in rfl rfl rfl (by decide +kernel) rfl ⟨Nat.le_of_ble_eq_true rfl, Nat.le_of_ble_eq_true rfl⟩ rfl (Nat.le_of_ble_eq_true rfl) dX6_bend_17 ⟨Nat.le_of_ble_eq_true rfl, Nat.le_of_ble_eq_true rfl⟩) (fun r_17 u H locs hw hP hD hS => ?_)
    have hw_17 : r_17 = bI (decide ((-2) ≤ v ∧ v ≤ 2)) := hw
    have hP : va_P G.1 vwCl [(m0, .inr (6, [.int (nI (th)), .ref ms, .ref mv, .int (nI (sm)), .ref mt, .int (nI (ln)), .ref mh, .ref mb, .ref mg, .ref mq, .ref ml, .ref mf, .int nw, .int fw, .int (nI (tp)), .int (bI (wr)), .long dg])), (ms, .inl (G.2.1, 88, .inl s0)), (mv, .inl (G.2.1, 528, .inl sv)), (mt, .inl (G.2.1, 60, .inl tx)), (mh, .inl (G.2.1, 21, .inl ht)), (mb, .inl (G.2.1, 21, .inl bu)), (mg, .inl (G.2.1, 21, .inl hg)), (mq, .inl (G.2.1, 21, .inl pq)), (ml, .inl (G.2.1, 21, .inl ld)), (mf, .inl (G.2.1, 20, .inl fo))] H := hP
    have hD : va_D A [(m0, .inr (6, [.int (nI (th)), .ref ms, .ref mv, .int (nI (sm)), .ref mt, .int (nI (ln)), .ref mh, .ref mb, .ref mg, .ref mq, .ref ml, .ref mf, .int nw, .int fw, .int (nI (tp)), .int (bI (wr)), .long dg])), (ms, .inl (G.2.1, 88, .inl s0)), (mv, .inl (G.2.1, 528, .inl sv)), (mt, .inl (G.2.1, 60, .inl tx)), (mh, .inl (G.2.1, 21, .inl ht)), (mb, .inl (G.2.1, 21, .inl bu)), (mg, .inl (G.2.1, 21, .inl hg)), (mq, .inl (G.2.1, 21, .inl pq)), (ml, .inl (G.2.1, 21, .inl ld)), (mf, .inl (G.2.1, 20, .inl fo))] := hD
    subst hw_17
    refine g_ti (y := nI 1) (by rw [decide_eq_true h2]; rfl) ?_
    refine g_if_ne (a := 1) (tgt := 27) hx hb (by omega) dX6_bend_20 (by decide) (fun c_20 => ?_) (fun c_20 => ?_)
    · skip
      refine lv_iconst (v := 0) hx hb dX6_bend_27 (by decide) ?_
      refine k_ci (wr := []) [] rfl (by decide) [0, 1, 2, 3, 4, 5, 6, 7, 8, 9] rfl (by decide) hP hD hS hA (k_V (n := 1) (ci := 6) (As := [.int 0]) (rest := []) (wc := [(m0, .inr (6, [.int (nI (th)), .ref ms, .ref mv, .int (nI (sm)), .ref mt, .int (nI (ln)), .ref mh, .ref mb, .ref mg, .ref mq, .ref ml, .ref mf, .int nw, .int fw, .int (nI (tp)), .int (bI (wr)), .long dg])), (ms, .inl (G.2.1, 88, .inl s0)), (mv, .inl (G.2.1, 528, .inl sv)), (mt, .inl (G.2.1, 60, .inl tx)), (mh, .inl (G.2.1, 21, .inl ht)), (mb, .inl (G.2.1, 21, .inl bu)), (mg, .inl (G.2.1, 21, .inl hg)), (mq, .inl (G.2.1, 21, .inl pq)), (ml, .inl (G.2.1, 21, .inl ld)), (mf, .inl (G.2.1, 20, .inl fo))]) hx hb hml hown hts hK hP hD hl (c_X6_holds l G m0 ms mv mt mh mb mg mq ml mf th s0 sv sm tx ln ht bu hg pq ld fo nw fw tp wr dg 0 H.size (by first | assumption | omega)) [0, 1, 2, 3, 4, 5, 6, 7, 8, 9] rfl (by decide) gX6_bend_X6_holds rfl rfl rfl (by decide +kernel) rfl ⟨Nat.le_of_ble_eq_true rfl, Nat.le_of_ble_eq_true rfl⟩ rfl rfl rfl (Nat.le_of_ble_eq_true rfl) dX6_bend_28 ⟨Nat.le_of_ble_eq_true rfl, Nat.le_of_ble_eq_true rfl⟩) (fun r_28 u H locs hw hP hD hS => ?_)
      have hw_28 : r_28 = bI (decide (0 = 0)) := hw
      have hP : va_P G.1 vwCl [(m0, .inr (6, [.int (nI (0)), .ref ms, .ref mv, .int (nI (sm)), .ref mt, .int (nI (ln)), .ref mh, .ref mb, .ref mg, .ref mq, .ref ml, .ref mf, .int nw, .int fw, .int (nI (tp)), .int (bI (wr)), .long dg])), (ms, .inl (G.2.1, 88, .inl s0)), (mv, .inl (G.2.1, 528, .inl sv)), (mt, .inl (G.2.1, 60, .inl tx)), (mh, .inl (G.2.1, 21, .inl ht)), (mb, .inl (G.2.1, 21, .inl bu)), (mg, .inl (G.2.1, 21, .inl hg)), (mq, .inl (G.2.1, 21, .inl pq)), (ml, .inl (G.2.1, 21, .inl ld)), (mf, .inl (G.2.1, 20, .inl fo))] H := hP
      have hD : va_D A [(m0, .inr (6, [.int (nI (0)), .ref ms, .ref mv, .int (nI (sm)), .ref mt, .int (nI (ln)), .ref mh, .ref mb, .ref mg, .ref mq, .ref ml, .ref mf, .int nw, .int fw, .int (nI (tp)), .int (bI (wr)), .long dg])), (ms, .inl (G.2.1, 88, .inl s0)), (mv, .inl (G.2.1, 528, .inl sv)), (mt, .inl (G.2.1, 60, .inl tx)), (mh, .inl (G.2.1, 21, .inl ht)), (mb, .inl (G.2.1, 21, .inl bu)), (mg, .inl (G.2.1, 21, .inl hg)), (mq, .inl (G.2.1, 21, .inl pq)), (ml, .inl (G.2.1, 21, .inl ld)), (mf, .inl (G.2.1, 20, .inl fo))] := hD
      subst hw_28
      refine g_ti (y := nI 1) (by rw [decide_eq_true (show (0 : Nat) = 0 from rfl)]; rfl) ?_
      refine g_if_eq (a := 1) (tgt := 47) hx hb (by omega) dX6_bend_31 (by decide) (fun c_31 => ?_) (fun c_31 => ?_)
      · exact absurd c_31 (by decide)
      · skip
        refine lv_aload_n hx hb dX6_bend_34 rfl (lv_at hl 0 rfl) ?_
        refine lv_iconst (v := 5) hx hb dX6_bend_35 (by decide) ?_
        refine lv_iload_n hx hb dX6_bend_36 rfl (lv_at hl 1 rfl) ?_
        refine lv_iadd hx hb dX6_bend_37 ?_
        refine g_ti (y := nI (5 + j)) (nI_add (5) (j)) ?_
        refine lv_iload_n hx hb dX6_bend_38 rfl (lv_at hl 2 rfl) ?_
        refine k_ci (wr := []) [] rfl (by decide) [0, 1, 2, 3, 4, 5, 6, 7, 8, 9] rfl (by decide) hP hD hS hA (k_V (n := 2) (ci := 6) (As := [.int (nI (5 + j)), .int v]) (rest := []) (wc := [(m0, .inr (6, [.int (nI (0)), .ref ms, .ref mv, .int (nI (sm)), .ref mt, .int (nI (ln)), .ref mh, .ref mb, .ref mg, .ref mq, .ref ml, .ref mf, .int nw, .int fw, .int (nI (tp)), .int (bI (wr)), .long dg])), (ms, .inl (G.2.1, 88, .inl s0)), (mv, .inl (G.2.1, 528, .inl sv)), (mt, .inl (G.2.1, 60, .inl tx)), (mh, .inl (G.2.1, 21, .inl ht)), (mb, .inl (G.2.1, 21, .inl bu)), (mg, .inl (G.2.1, 21, .inl hg)), (mq, .inl (G.2.1, 21, .inl pq)), (ml, .inl (G.2.1, 21, .inl ld)), (mf, .inl (G.2.1, 20, .inl fo))]) hx hb hml hown hts hK hP hD hl (c_X6_puts l G m0 ms mv mt mh mb mg mq ml mf 0 s0 sv sm tx ln ht bu hg pq ld fo nw fw tp wr dg (5 + j) v H.size (by first | assumption | omega) (by first | assumption | omega)) [0, 1, 2, 3, 4, 5, 6, 7, 8, 9] rfl (by decide) gX6_bend_X6_puts rfl rfl rfl (by decide +kernel) rfl ⟨Nat.le_of_ble_eq_true rfl, Nat.le_of_ble_eq_true rfl⟩ rfl rfl rfl (Nat.le_of_ble_eq_true rfl) dX6_bend_39 ⟨Nat.le_of_ble_eq_true rfl, Nat.le_of_ble_eq_true rfl⟩) (fun r_39 u H locs hw hP hD hS => ?_)
        have hw_39 : r_39 = s0 (5 + j) := hw
        have hP : va_P G.1 vwCl [(m0, .inr (6, [.int (nI (0)), .ref ms, .ref mv, .int (nI (mSM sm)), .ref mt, .int (nI (ln)), .ref mh, .ref mb, .ref mg, .ref mq, .ref ml, .ref mf, .int nw, .int fw, .int (nI (tp)), .int (bI (wr)), .long dg])), (ms, .inl (G.2.1, 88, .inl (upd s0 (5 + j) v))), (mv, .inl (G.2.1, 528, .inl (mSV sv sm s0))), (mt, .inl (G.2.1, 60, .inl tx)), (mh, .inl (G.2.1, 21, .inl ht)), (mb, .inl (G.2.1, 21, .inl bu)), (mg, .inl (G.2.1, 21, .inl hg)), (mq, .inl (G.2.1, 21, .inl pq)), (ml, .inl (G.2.1, 21, .inl ld)), (mf, .inl (G.2.1, 20, .inl fo))] H := hP
        have hD : va_D A [(m0, .inr (6, [.int (nI (0)), .ref ms, .ref mv, .int (nI (mSM sm)), .ref mt, .int (nI (ln)), .ref mh, .ref mb, .ref mg, .ref mq, .ref ml, .ref mf, .int nw, .int fw, .int (nI (tp)), .int (bI (wr)), .long dg])), (ms, .inl (G.2.1, 88, .inl (upd s0 (5 + j) v))), (mv, .inl (G.2.1, 528, .inl (mSV sv sm s0))), (mt, .inl (G.2.1, 60, .inl tx)), (mh, .inl (G.2.1, 21, .inl ht)), (mb, .inl (G.2.1, 21, .inl bu)), (mg, .inl (G.2.1, 21, .inl hg)), (mq, .inl (G.2.1, 21, .inl pq)), (ml, .inl (G.2.1, 21, .inl ld)), (mf, .inl (G.2.1, 20, .inl fo))] := hD
        subst hw_39
        refine lv_iconst (v := 2) hx hb dX6_bend_42 (by decide) ?_
        refine lv_iadd hx hb dX6_bend_43 ?_
        refine lv_goto (tgt := 48) hx hb dX6_bend_44 (by decide) ?_
        rw [hQ]
        exact k_iret (v := (s0 (5 + j)) + 2) () [0, 1, 2, 3, 4, 5, 6, 7, 8, 9] hx hb hr hlocks (rfl) hK hP hD hS rfl (by decide) dX6_bend_48
    · exact absurd c_20 (by decide)
  · exact absurd c_6 (by decide)
set_option maxHeartbeats 4000000 in
set_option maxRecDepth 100000 in
theorem c_X6_exchange (l : Launch) (G : kG) (m0 : Nat) (ms : Nat) (mv : Nat) (mt : Nat) (mh : Nat) (mb : Nat) (mg : Nat) (mq : Nat) (ml : Nat) (mf : Nat) (th : Nat) (s0 : Fn) (sv : Fn) (sm : Nat) (tx : Fn) (ln : Nat) (ht : Fn) (bu : Fn) (hg : Fn) (pq : Fn) (ld : Fn) (fo : Fn) (nw : Int32) (fw : Int32) (tp : Nat) (wr : Bool) (dg : Int64) (a : Nat) (b : Nat) (sz : Nat) (ha : a < 88) (hb2 : b < 88) : kMet l yX6_exchange wsX6_exchange ({ frames := 0, cells := 0, slots := 0, locals := 0 } : Room) G [.ref m0, .int (nI (a)), .int (nI (b))] [(m0, .inr (6, [.int (nI (th)), .ref ms, .ref mv, .int (nI (sm)), .ref mt, .int (nI (ln)), .ref mh, .ref mb, .ref mg, .ref mq, .ref ml, .ref mf, .int nw, .int fw, .int (nI (tp)), .int (bI (wr)), .long dg])), (ms, .inl (G.2.1, 88, .inl s0)), (mv, .inl (G.2.1, 528, .inl sv)), (mt, .inl (G.2.1, 60, .inl tx)), (mh, .inl (G.2.1, 21, .inl ht)), (mb, .inl (G.2.1, 21, .inl bu)), (mg, .inl (G.2.1, 21, .inl hg)), (mq, .inl (G.2.1, 21, .inl pq)), (ml, .inl (G.2.1, 21, .inl ld)), (mf, .inl (G.2.1, 20, .inl fo))] sz (kQv G (fun (u : Unit) => True) (fun (u : Unit) => [(m0, .inr (6, [.int (nI (th)), .ref ms, .ref mv, .int (nI (sm)), .ref mt, .int (nI (ln)), .ref mh, .ref mb, .ref mg, .ref mq, .ref ml, .ref mf, .int nw, .int fw, .int (nI (tp)), .int (bI (wr)), .long dg])), (ms, .inl (G.2.1, 88, .inl (exch s0 a b))), (mv, .inl (G.2.1, 528, .inl sv)), (mt, .inl (G.2.1, 60, .inl tx)), (mh, .inl (G.2.1, 21, .inl ht)), (mb, .inl (G.2.1, 21, .inl bu)), (mg, .inl (G.2.1, 21, .inl hg)), (mq, .inl (G.2.1, 21, .inl pq)), (ml, .inl (G.2.1, 21, .inl ld)), (mf, .inl (G.2.1, 20, .inl fo))])) 0 0 := by
  refine k_entry (cc := cX6_exchange) (maxL := 4) (ret := none) (by decide) rfl (Nat.le_of_ble_eq_true rfl) ?_
  intro p e s m args below meth c A ls H locs Q hQ hx hb hml hr hts hown hlocks hin hA hP hK hD hS hl
  have hown : s.vm.findClass RX6 = some m.cls := hown
  have hl : lv_has ls 4 [(0, .ref m0), (1, .int (nI (a))), (2, .int (nI (b)))] := hl
  have hf7 := hts (.fieldLink RX6 7 "HangingChainModel" "s" "[I") (by decide +kernel)
  have hinX6 : ∀ w ∈ wsX60, w ∈ wsX6_exchange := by decide +kernel
  refine lv_aload_n hx hb dX6_exchange_0 rfl (lv_at hl 0 rfl) ?_
  refine va_get (D := G.1) (ci := 6) (v := .ref ms) (C := RX6) (T := TX6) (N := 17) hx hb hts hinX6 hown hK hP 0 rfl rfl 1 (by decide) hf7 (fun _ h9 => h9) rfl dX6_exchange_1 ?_
  refine lv_iload_n hx hb dX6_exchange_4 rfl (lv_at hl 1 rfl) ?_
  refine g_iald (k := a) hx hb hK hP 1 rfl (by omega) (by omega) dX6_exchange_5 ?_
  refine lv_istore_n (lv' := [(3, .int (s0 a)), (0, .ref m0), (1, .int (nI (a))), (2, .int (nI (b)))]) hx hb dX6_exchange_6 rfl hl (by decide) rfl (fun ls hl => ?_)
  refine lv_aload_n hx hb dX6_exchange_7 rfl (lv_at hl 1 rfl) ?_
  refine va_get (D := G.1) (ci := 6) (v := .ref ms) (C := RX6) (T := TX6) (N := 17) hx hb hts hinX6 hown hK hP 0 rfl rfl 1 (by decide) hf7 (fun _ h9 => h9) rfl dX6_exchange_8 ?_
  refine lv_iload_n hx hb dX6_exchange_11 rfl (lv_at hl 2 rfl) ?_
  refine lv_aload_n hx hb dX6_exchange_12 rfl (lv_at hl 1 rfl) ?_
  refine va_get (D := G.1) (ci := 6) (v := .ref ms) (C := RX6) (T := TX6) (N := 17) hx hb hts hinX6 hown hK hP 0 rfl rfl 1 (by decide) hf7 (fun _ h9 => h9) rfl dX6_exchange_13 ?_
  refine lv_iload_n hx hb dX6_exchange_16 rfl (lv_at hl 3 rfl) ?_
  refine g_iald (k := b) hx hb hK hP 1 rfl (by omega) (by omega) dX6_exchange_17 ?_
  refine g_iast (k := a) hx hb hK hP hD hS 1 rfl (by omega) (by omega) dX6_exchange_18 (fun H locs hP hD hS => ?_)
  have hP : va_P G.1 vwCl [(m0, .inr (6, [.int (nI (th)), .ref ms, .ref mv, .int (nI (sm)), .ref mt, .int (nI (ln)), .ref mh, .ref mb, .ref mg, .ref mq, .ref ml, .ref mf, .int nw, .int fw, .int (nI (tp)), .int (bI (wr)), .long dg])), (ms, .inl (G.2.1, 88, .inl (upd s0 a (s0 b)))), (mv, .inl (G.2.1, 528, .inl sv)), (mt, .inl (G.2.1, 60, .inl tx)), (mh, .inl (G.2.1, 21, .inl ht)), (mb, .inl (G.2.1, 21, .inl bu)), (mg, .inl (G.2.1, 21, .inl hg)), (mq, .inl (G.2.1, 21, .inl pq)), (ml, .inl (G.2.1, 21, .inl ld)), (mf, .inl (G.2.1, 20, .inl fo))] H := hP
  have hD : va_D A [(m0, .inr (6, [.int (nI (th)), .ref ms, .ref mv, .int (nI (sm)), .ref mt, .int (nI (ln)), .ref mh, .ref mb, .ref mg, .ref mq, .ref ml, .ref mf, .int nw, .int fw, .int (nI (tp)), .int (bI (wr)), .long dg])), (ms, .inl (G.2.1, 88, .inl (upd s0 a (s0 b)))), (mv, .inl (G.2.1, 528, .inl sv)), (mt, .inl (G.2.1, 60, .inl tx)), (mh, .inl (G.2.1, 21, .inl ht)), (mb, .inl (G.2.1, 21, .inl bu)), (mg, .inl (G.2.1, 21, .inl hg)), (mq, .inl (G.2.1, 21, .inl pq)), (ml, .inl (G.2.1, 21, .inl ld)), (mf, .inl (G.2.1, 20, .inl fo))] := hD
  refine lv_aload_n hx hb dX6_exchange_19 rfl (lv_at hl 1 rfl) ?_
  refine va_get (D := G.1) (ci := 6) (v := .ref ms) (C := RX6) (T := TX6) (N := 17) hx hb hts hinX6 hown hK hP 0 rfl rfl 1 (by decide) hf7 (fun _ h9 => h9) rfl dX6_exchange_20 ?_
  refine lv_iload_n hx hb dX6_exchange_23 rfl (lv_at hl 3 rfl) ?_
  refine lv_iload_n hx hb dX6_exchange_24 rfl (lv_at hl 0 rfl) ?_
  refine g_iast (k := b) hx hb hK hP hD hS 1 rfl (by omega) (by omega) dX6_exchange_25 (fun H locs hP hD hS => ?_)
  have hP : va_P G.1 vwCl [(m0, .inr (6, [.int (nI (th)), .ref ms, .ref mv, .int (nI (sm)), .ref mt, .int (nI (ln)), .ref mh, .ref mb, .ref mg, .ref mq, .ref ml, .ref mf, .int nw, .int fw, .int (nI (tp)), .int (bI (wr)), .long dg])), (ms, .inl (G.2.1, 88, .inl (upd (upd s0 a (s0 b)) b (s0 a)))), (mv, .inl (G.2.1, 528, .inl sv)), (mt, .inl (G.2.1, 60, .inl tx)), (mh, .inl (G.2.1, 21, .inl ht)), (mb, .inl (G.2.1, 21, .inl bu)), (mg, .inl (G.2.1, 21, .inl hg)), (mq, .inl (G.2.1, 21, .inl pq)), (ml, .inl (G.2.1, 21, .inl ld)), (mf, .inl (G.2.1, 20, .inl fo))] H := hP
  have hD : va_D A [(m0, .inr (6, [.int (nI (th)), .ref ms, .ref mv, .int (nI (sm)), .ref mt, .int (nI (ln)), .ref mh, .ref mb, .ref mg, .ref mq, .ref ml, .ref mf, .int nw, .int fw, .int (nI (tp)), .int (bI (wr)), .long dg])), (ms, .inl (G.2.1, 88, .inl (upd (upd s0 a (s0 b)) b (s0 a)))), (mv, .inl (G.2.1, 528, .inl sv)), (mt, .inl (G.2.1, 60, .inl tx)), (mh, .inl (G.2.1, 21, .inl ht)), (mb, .inl (G.2.1, 21, .inl bu)), (mg, .inl (G.2.1, 21, .inl hg)), (mq, .inl (G.2.1, 21, .inl pq)), (ml, .inl (G.2.1, 21, .inl ld)), (mf, .inl (G.2.1, 20, .inl fo))] := hD
  rw [hQ]
  exact k_vret () [0, 1, 2, 3, 4, 5, 6, 7, 8, 9] hx hb hr hlocks (trivial) hK hP hD hS rfl (by decide) dX6_exchange_26
set_option maxHeartbeats 4000000 in
set_option maxRecDepth 100000 in
theorem c_X6_turn_0 (l : Launch) (G : kG) (m0 : Nat) (ms : Nat) (mv : Nat) (mt : Nat) (mh : Nat) (mb : Nat) (mg : Nat) (mq : Nat) (ml : Nat) (mf : Nat) (th : Nat) (s0 : Fn) (sv : Fn) (sm : Nat) (tx : Fn) (ln : Nat) (ht : Fn) (bu : Fn) (hg : Fn) (pq : Fn) (ld : Fn) (fo : Fn) (nw : Int32) (fw : Int32) (tp : Nat) (wr : Bool) (dg : Int64) (n : Nat) (sz : Nat) (hok : mOK s0 n) (hsm : sm ≤ 6) : kMet l yX6_turn wsX6_turn ({ frames := 2, cells := 0, slots := 0, locals := 46 } : Room) G [.ref m0] [(m0, .inr (6, [.int (nI (th)), .ref ms, .ref mv, .int (nI (sm)), .ref mt, .int (nI (ln)), .ref mh, .ref mb, .ref mg, .ref mq, .ref ml, .ref mf, .int nw, .int fw, .int (nI (tp)), .int (bI (wr)), .long dg])), (ms, .inl (G.2.1, 88, .inl s0)), (mv, .inl (G.2.1, 528, .inl sv)), (mt, .inl (G.2.1, 60, .inl tx)), (mh, .inl (G.2.1, 21, .inl ht)), (mb, .inl (G.2.1, 21, .inl bu)), (mg, .inl (G.2.1, 21, .inl hg)), (mq, .inl (G.2.1, 21, .inl pq)), (ml, .inl (G.2.1, 21, .inl ld)), (mf, .inl (G.2.1, 20, .inl fo))] sz (kQi G (fun (r : Int32) (u : Fn × Fn × Fn × Fn × Fn × Fn × Int32 × Int32) => r = sHT (mST (mTurn s0 n)) n + 100 ∧ mOK (mTurn s0 n) n) (fun (u : Fn × Fn × Fn × Fn × Fn × Fn × Int32 × Int32) => [(m0, .inr (6, [.int (nI 0), .ref ms, .ref mv, .int (nI (mSM sm)), .ref mt, .int (nI (ln)), .ref mh, .ref mb, .ref mg, .ref mq, .ref ml, .ref mf, .int u.2.2.2.2.2.2.1, .int u.2.2.2.2.2.2.2, .int (nI (tp)), .int (bI (wr)), .long dg])), (ms, .inl (G.2.1, 88, .inl (mTurn s0 n))), (mv, .inl (G.2.1, 528, .inl (mSV sv sm s0))), (mt, .inl (G.2.1, 60, .inl tx)), (mh, .inl (G.2.1, 21, .inl u.1)), (mb, .inl (G.2.1, 21, .inl u.2.1)), (mg, .inl (G.2.1, 21, .inl u.2.2.1)), (mq, .inl (G.2.1, 21, .inl u.2.2.2.1)), (ml, .inl (G.2.1, 21, .inl u.2.2.2.2.1)), (mf, .inl (G.2.1, 20, .inl u.2.2.2.2.2.1))])) 0 0 := by
  refine k_entry (cc := cX6_turn) (maxL := 3) (ret := (some .int)) (by decide) rfl (Nat.le_of_ble_eq_true rfl) ?_
  intro p e s m args below meth c A ls H locs Q hQ hx hb hml hr hts hown hlocks hin hA hP hK hD hS hl
  have hown : s.vm.findClass RX6 = some m.cls := hown
  have hl : lv_has ls 3 [(0, .ref m0)] := hl
  have hf37 := hts (.fieldLink RX6 37 "HangingChainModel" "thrown" "I") (by decide +kernel)
  have hinX6 : ∀ w ∈ wsX60, w ∈ wsX6_turn := by decide +kernel
  have hf7 := hts (.fieldLink RX6 7 "HangingChainModel" "s" "[I") (by decide +kernel)
  have hf19 := hts (.fieldLink RX6 19 "HangingChainModel" "height" "[I") (by decide +kernel)
  obtain ⟨hs0, hn1, hn, hv⟩ := id hok
  refine lv_aload_n hx hb dX6_turn_0 rfl (lv_at hl 0 rfl) ?_
  refine lv_iconst (v := 0) hx hb dX6_turn_1 (by decide) ?_
  refine va_put (D := G.1) (ci := 6) (v := .int 0) (ty := .int) (C := RX6) (T := TX6) (N := 17) hx hb hts hinX6 tyX6 tyX6_ok nmX6 hown hK hP hD hS 0 rfl rfl 0 (by decide) hf37 (fun _ h9 => h9) rfl (by decide +kernel) (rfl) (rfl) (Nat.le_of_ble_eq_true rfl) dX6_turn_2 (fun H locs hP hD hS => ?_)
  have hP : va_P G.1 vwCl [(m0, .inr (6, [.int 0, .ref ms, .ref mv, .int (nI (sm)), .ref mt, .int (nI (ln)), .ref mh, .ref mb, .ref mg, .ref mq, .ref ml, .ref mf, .int nw, .int fw, .int (nI (tp)), .int (bI (wr)), .long dg])), (ms, .inl (G.2.1, 88, .inl s0)), (mv, .inl (G.2.1, 528, .inl sv)), (mt, .inl (G.2.1, 60, .inl tx)), (mh, .inl (G.2.1, 21, .inl ht)), (mb, .inl (G.2.1, 21, .inl bu)), (mg, .inl (G.2.1, 21, .inl hg)), (mq, .inl (G.2.1, 21, .inl pq)), (ml, .inl (G.2.1, 21, .inl ld)), (mf, .inl (G.2.1, 20, .inl fo))] H := hP
  have hD : va_D A [(m0, .inr (6, [.int 0, .ref ms, .ref mv, .int (nI (sm)), .ref mt, .int (nI (ln)), .ref mh, .ref mb, .ref mg, .ref mq, .ref ml, .ref mf, .int nw, .int fw, .int (nI (tp)), .int (bI (wr)), .long dg])), (ms, .inl (G.2.1, 88, .inl s0)), (mv, .inl (G.2.1, 528, .inl sv)), (mt, .inl (G.2.1, 60, .inl tx)), (mh, .inl (G.2.1, 21, .inl ht)), (mb, .inl (G.2.1, 21, .inl bu)), (mg, .inl (G.2.1, 21, .inl hg)), (mq, .inl (G.2.1, 21, .inl pq)), (ml, .inl (G.2.1, 21, .inl ld)), (mf, .inl (G.2.1, 20, .inl fo))] := hD
  refine lv_aload_n hx hb dX6_turn_5 rfl (lv_at hl 0 rfl) ?_
  refine k_cv (wr := []) [] rfl (by decide) [0, 1, 2, 3, 4, 5, 6, 7, 8, 9] rfl (by decide) hP hD hS hA (k_V (n := 0) (ci := 6) (As := []) (rest := []) (wc := [(m0, .inr (6, [.int (nI (0)), .ref ms, .ref mv, .int (nI (sm)), .ref mt, .int (nI (ln)), .ref mh, .ref mb, .ref mg, .ref mq, .ref ml, .ref mf, .int nw, .int fw, .int (nI (tp)), .int (bI (wr)), .long dg])), (ms, .inl (G.2.1, 88, .inl s0)), (mv, .inl (G.2.1, 528, .inl sv)), (mt, .inl (G.2.1, 60, .inl tx)), (mh, .inl (G.2.1, 21, .inl ht)), (mb, .inl (G.2.1, 21, .inl bu)), (mg, .inl (G.2.1, 21, .inl hg)), (mq, .inl (G.2.1, 21, .inl pq)), (ml, .inl (G.2.1, 21, .inl ld)), (mf, .inl (G.2.1, 20, .inl fo))]) hx hb hml hown hts hK hP hD hl (c_X6_save l G m0 ms mv mt mh mb mg mq ml mf 0 s0 sv sm tx ln ht bu hg pq ld fo nw fw tp wr dg H.size (by first | assumption | omega)) [0, 1, 2, 3, 4, 5, 6, 7, 8, 9] rfl (by decide) gX6_turn_X6_save rfl rfl rfl (by decide +kernel) rfl ⟨Nat.le_of_ble_eq_true rfl, Nat.le_of_ble_eq_true rfl⟩ rfl rfl rfl (Nat.le_of_ble_eq_true rfl) dX6_turn_6 ⟨Nat.le_of_ble_eq_true rfl, Nat.le_of_ble_eq_true rfl⟩) (fun u H locs hw hP hD hS => ?_)
  have hw_6 : True := hw
  have hP : va_P G.1 vwCl [(m0, .inr (6, [.int (nI (0)), .ref ms, .ref mv, .int (nI (mSM sm)), .ref mt, .int (nI (ln)), .ref mh, .ref mb, .ref mg, .ref mq, .ref ml, .ref mf, .int nw, .int fw, .int (nI (tp)), .int (bI (wr)), .long dg])), (ms, .inl (G.2.1, 88, .inl s0)), (mv, .inl (G.2.1, 528, .inl (mSV sv sm s0))), (mt, .inl (G.2.1, 60, .inl tx)), (mh, .inl (G.2.1, 21, .inl ht)), (mb, .inl (G.2.1, 21, .inl bu)), (mg, .inl (G.2.1, 21, .inl hg)), (mq, .inl (G.2.1, 21, .inl pq)), (ml, .inl (G.2.1, 21, .inl ld)), (mf, .inl (G.2.1, 20, .inl fo))] H := hP
  have hD : va_D A [(m0, .inr (6, [.int (nI (0)), .ref ms, .ref mv, .int (nI (mSM sm)), .ref mt, .int (nI (ln)), .ref mh, .ref mb, .ref mg, .ref mq, .ref ml, .ref mf, .int nw, .int fw, .int (nI (tp)), .int (bI (wr)), .long dg])), (ms, .inl (G.2.1, 88, .inl s0)), (mv, .inl (G.2.1, 528, .inl (mSV sv sm s0))), (mt, .inl (G.2.1, 60, .inl tx)), (mh, .inl (G.2.1, 21, .inl ht)), (mb, .inl (G.2.1, 21, .inl bu)), (mg, .inl (G.2.1, 21, .inl hg)), (mq, .inl (G.2.1, 21, .inl pq)), (ml, .inl (G.2.1, 21, .inl ld)), (mf, .inl (G.2.1, 20, .inl fo))] := hD
  refine lv_aload_n hx hb dX6_turn_9 rfl (lv_at hl 0 rfl) ?_
  refine va_get (D := G.1) (ci := 6) (v := .ref ms) (C := RX6) (T := TX6) (N := 17) hx hb hts hinX6 hown hK hP 0 rfl rfl 1 (by decide) hf7 (fun _ h9 => h9) rfl dX6_turn_10 ?_
  refine lv_iconst (v := 0) hx hb dX6_turn_13 (by decide) ?_
  refine g_iald (k := 0) hx hb hK hP 1 rfl (by omega) (by omega) dX6_turn_14 ?_
  refine g_ti (y := nI n) (hs0) ?_
  refine lv_istore_n (lv' := [(1, .int (nI n)), (0, .ref m0)]) hx hb dX6_turn_15 rfl hl (by decide) rfl (fun ls hl => ?_)
  refine lv_iconst (v := 0) hx hb dX6_turn_16 (by decide) ?_
  refine lv_istore_n (lv' := [(2, .int 0), (1, .int (nI n)), (0, .ref m0)]) hx hb dX6_turn_17 rfl hl (by decide) rfl (fun ls hl => ?_)
  have L18 : ∀ (n9 : Nat) (i : Nat), (i ≤ n / 2) → (n - i < n9) → ∀ (H : Heap) (locs : List Loc) (ls : Array Slot), va_P G.1 vwCl [(m0, .inr (6, [.int (nI (0)), .ref ms, .ref mv, .int (nI (mSM sm)), .ref mt, .int (nI (ln)), .ref mh, .ref mb, .ref mg, .ref mq, .ref ml, .ref mf, .int nw, .int fw, .int (nI (tp)), .int (bI (wr)), .long dg])), (ms, .inl (G.2.1, 88, .inl (revI s0 5 n i))), (mv, .inl (G.2.1, 528, .inl (mSV sv sm s0))), (mt, .inl (G.2.1, 60, .inl tx)), (mh, .inl (G.2.1, 21, .inl ht)), (mb, .inl (G.2.1, 21, .inl bu)), (mg, .inl (G.2.1, 21, .inl hg)), (mq, .inl (G.2.1, 21, .inl pq)), (ml, .inl (G.2.1, 21, .inl ld)), (mf, .inl (G.2.1, 20, .inl fo))] H → va_D A [(m0, .inr (6, [.int (nI (0)), .ref ms, .ref mv, .int (nI (mSM sm)), .ref mt, .int (nI (ln)), .ref mh, .ref mb, .ref mg, .ref mq, .ref ml, .ref mf, .int nw, .int fw, .int (nI (tp)), .int (bI (wr)), .long dg])), (ms, .inl (G.2.1, 88, .inl (revI s0 5 n i))), (mv, .inl (G.2.1, 528, .inl (mSV sv sm s0))), (mt, .inl (G.2.1, 60, .inl tx)), (mh, .inl (G.2.1, 21, .inl ht)), (mb, .inl (G.2.1, 21, .inl bu)), (mg, .inl (G.2.1, 21, .inl hg)), (mq, .inl (G.2.1, 21, .inl pq)), (ml, .inl (G.2.1, 21, .inl ld)), (mf, .inl (G.2.1, 20, .inl fo))] → va_S A s.heap H locs → lv_has ls 3 [(2, .int (nI i)), (1, .int (nI n)), (0, .ref m0)] → W p l e ({ frames := 2, cells := 0, slots := 0, locals := 46 } : Room) s m args below meth c H locs 0 0 Q (F0 m 18 ls []) := by
    intro n9
    induction n9 with
    | zero =>
      intro i hi hm9 H locs ls hP hD hS hl
      exact absurd hm9 (Nat.not_lt_zero _)
    | succ n9 ih18 =>
      intro i hi hm9 H locs ls hP hD hS hl
      refine lv_iload_n hx hb dX6_turn_18 rfl (lv_at hl 0 rfl) ?_
      refine lv_iload_n hx hb dX6_turn_19 rfl (lv_at hl 1 rfl) ?_
      refine lv_iconst (v := 2) hx hb dX6_turn_20 (by decide) ?_
      refine lv_idiv hx hb dX6_turn_21 (by decide) ?_
      refine g_ti (y := nI (n / 2)) (pk_div (a := n) (d := 2) (by omega) (by omega) (by omega)) ?_
      refine g_icmp_ge (a := i) (b := n / 2) (tgt := 45) hx hb (by omega) (by omega) dX6_turn_22 (by decide) (fun c_22 => ?_) (fun c_22 => ?_)
      · skip
        have e9 : n / 2 = i := by omega
        subst e9
        refine lv_iconst (v := 0) hx hb dX6_turn_45 (by decide) ?_
        refine lv_istore_n (lv' := [(2, .int 0), (1, .int (nI n)), (0, .ref m0)]) hx hb dX6_turn_46 rfl hl (by decide) rfl (fun ls hl => ?_)
        have L47 : ∀ (n9 : Nat) (i : Nat), (i ≤ n) → (n - i < n9) → ∀ (H : Heap) (locs : List Loc) (ls : Array Slot), va_P G.1 vwCl [(m0, .inr (6, [.int (nI (0)), .ref ms, .ref mv, .int (nI (mSM sm)), .ref mt, .int (nI (ln)), .ref mh, .ref mb, .ref mg, .ref mq, .ref ml, .ref mf, .int nw, .int fw, .int (nI (tp)), .int (bI (wr)), .long dg])), (ms, .inl (G.2.1, 88, .inl (ngI (revI s0 5 n (n / 2)) 5 i))), (mv, .inl (G.2.1, 528, .inl (mSV sv sm s0))), (mt, .inl (G.2.1, 60, .inl tx)), (mh, .inl (G.2.1, 21, .inl ht)), (mb, .inl (G.2.1, 21, .inl bu)), (mg, .inl (G.2.1, 21, .inl hg)), (mq, .inl (G.2.1, 21, .inl pq)), (ml, .inl (G.2.1, 21, .inl ld)), (mf, .inl (G.2.1, 20, .inl fo))] H → va_D A [(m0, .inr (6, [.int (nI (0)), .ref ms, .ref mv, .int (nI (mSM sm)), .ref mt, .int (nI (ln)), .ref mh, .ref mb, .ref mg, .ref mq, .ref ml, .ref mf, .int nw, .int fw, .int (nI (tp)), .int (bI (wr)), .long dg])), (ms, .inl (G.2.1, 88, .inl (ngI (revI s0 5 n (n / 2)) 5 i))), (mv, .inl (G.2.1, 528, .inl (mSV sv sm s0))), (mt, .inl (G.2.1, 60, .inl tx)), (mh, .inl (G.2.1, 21, .inl ht)), (mb, .inl (G.2.1, 21, .inl bu)), (mg, .inl (G.2.1, 21, .inl hg)), (mq, .inl (G.2.1, 21, .inl pq)), (ml, .inl (G.2.1, 21, .inl ld)), (mf, .inl (G.2.1, 20, .inl fo))] → va_S A s.heap H locs → lv_has ls 3 [(2, .int (nI i)), (1, .int (nI n)), (0, .ref m0)] → W p l e ({ frames := 2, cells := 0, slots := 0, locals := 46 } : Room) s m args below meth c H locs 0 0 Q (F0 m 47 ls []) := by
          intro n9
          induction n9 with
          | zero =>
            intro i hi hm9 H locs ls hP hD hS hl
            exact absurd hm9 (Nat.not_lt_zero _)
          | succ n9 ih47 =>
            intro i hi hm9 H locs ls hP hD hS hl
            refine lv_iload_n hx hb dX6_turn_47 rfl (lv_at hl 0 rfl) ?_
            refine lv_iload_n hx hb dX6_turn_48 rfl (lv_at hl 1 rfl) ?_
            refine g_icmp_ge (a := i) (b := n) (tgt := 75) hx hb (by omega) (by omega) dX6_turn_49 (by decide) (fun c_49 => ?_) (fun c_49 => ?_)
            · skip
              have e9 : n = i := by omega
              subst e9
              refine lv_iconst (v := 0) hx hb dX6_turn_75 (by decide) ?_
              refine lv_istore_n (lv' := [(2, .int 0), (1, .int (nI n)), (0, .ref m0)]) hx hb dX6_turn_76 rfl hl (by decide) rfl (fun ls hl => ?_)
              have L77 : ∀ (n9 : Nat) (i : Nat), (i ≤ (n + 1) / 2) → (n - i < n9) → ∀ (H : Heap) (locs : List Loc) (ls : Array Slot), va_P G.1 vwCl [(m0, .inr (6, [.int (nI (0)), .ref ms, .ref mv, .int (nI (mSM sm)), .ref mt, .int (nI (ln)), .ref mh, .ref mb, .ref mg, .ref mq, .ref ml, .ref mf, .int nw, .int fw, .int (nI (tp)), .int (bI (wr)), .long dg])), (ms, .inl (G.2.1, 88, .inl (revI (revI (revI (ngI (revI s0 5 n (n / 2)) 5 n) 25 (n + 1) i) 46 (n + 1) i) 67 (n + 1) i))), (mv, .inl (G.2.1, 528, .inl (mSV sv sm s0))), (mt, .inl (G.2.1, 60, .inl tx)), (mh, .inl (G.2.1, 21, .inl ht)), (mb, .inl (G.2.1, 21, .inl bu)), (mg, .inl (G.2.1, 21, .inl hg)), (mq, .inl (G.2.1, 21, .inl pq)), (ml, .inl (G.2.1, 21, .inl ld)), (mf, .inl (G.2.1, 20, .inl fo))] H → va_D A [(m0, .inr (6, [.int (nI (0)), .ref ms, .ref mv, .int (nI (mSM sm)), .ref mt, .int (nI (ln)), .ref mh, .ref mb, .ref mg, .ref mq, .ref ml, .ref mf, .int nw, .int fw, .int (nI (tp)), .int (bI (wr)), .long dg])), (ms, .inl (G.2.1, 88, .inl (revI (revI (revI (ngI (revI s0 5 n (n / 2)) 5 n) 25 (n + 1) i) 46 (n + 1) i) 67 (n + 1) i))), (mv, .inl (G.2.1, 528, .inl (mSV sv sm s0))), (mt, .inl (G.2.1, 60, .inl tx)), (mh, .inl (G.2.1, 21, .inl ht)), (mb, .inl (G.2.1, 21, .inl bu)), (mg, .inl (G.2.1, 21, .inl hg)), (mq, .inl (G.2.1, 21, .inl pq)), (ml, .inl (G.2.1, 21, .inl ld)), (mf, .inl (G.2.1, 20, .inl fo))] → va_S A s.heap H locs → lv_has ls 3 [(2, .int (nI i)), (1, .int (nI n)), (0, .ref m0)] → W p l e ({ frames := 2, cells := 0, slots := 0, locals := 46 } : Room) s m args below meth c H locs 0 0 Q (F0 m 77 ls []) := by
                intro n9
                induction n9 with
                | zero =>
                  intro i hi hm9 H locs ls hP hD hS hl
                  exact absurd hm9 (Nat.not_lt_zero _)
                | succ n9 ih77 =>
                  intro i hi hm9 H locs ls hP hD hS hl
                  refine lv_iload_n hx hb dX6_turn_77 rfl (lv_at hl 0 rfl) ?_
                  refine lv_iload_n hx hb dX6_turn_78 rfl (lv_at hl 1 rfl) ?_
                  refine lv_iconst (v := 1) hx hb dX6_turn_79 (by decide) ?_
                  refine lv_iadd hx hb dX6_turn_80 ?_
                  refine g_ti (y := nI (n + 1)) (nI_add (n) (1)) ?_
                  refine lv_iconst (v := 2) hx hb dX6_turn_81 (by decide) ?_
                  refine lv_idiv hx hb dX6_turn_82 (by decide) ?_
                  refine g_ti (y := nI ((n + 1) / 2)) (pk_div (a := n + 1) (d := 2) (by omega) (by omega) (by omega)) ?_
                  refine g_icmp_ge (a := i) (b := (n + 1) / 2) (tgt := 134) hx hb (by omega) (by omega) dX6_turn_83 (by decide) (fun c_83 => ?_) (fun c_83 => ?_)
                  · skip
                    have e9 : (n + 1) / 2 = i := by omega
                    subst e9
                    have hok2 := mTurn_ok hok
                    have hfx_1 : (revI (revI (revI (ngI (revI s0 5 n (n / 2)) 5 n) 25 (n + 1) ((n + 1) / 2)) 46 (n + 1) ((n + 1) / 2)) 67 (n + 1) ((n + 1) / 2) : Nat → Int32) = mTurn s0 n := rfl
                    have hP : va_P G.1 vwCl [(m0, .inr (6, [.int (nI (0)), .ref ms, .ref mv, .int (nI (mSM sm)), .ref mt, .int (nI (ln)), .ref mh, .ref mb, .ref mg, .ref mq, .ref ml, .ref mf, .int nw, .int fw, .int (nI (tp)), .int (bI (wr)), .long dg])), (ms, .inl (G.2.1, 88, .inl (mTurn s0 n))), (mv, .inl (G.2.1, 528, .inl (mSV sv sm s0))), (mt, .inl (G.2.1, 60, .inl tx)), (mh, .inl (G.2.1, 21, .inl ht)), (mb, .inl (G.2.1, 21, .inl bu)), (mg, .inl (G.2.1, 21, .inl hg)), (mq, .inl (G.2.1, 21, .inl pq)), (ml, .inl (G.2.1, 21, .inl ld)), (mf, .inl (G.2.1, 20, .inl fo))] H := by rw [← hfx_1]; exact hP
                    have hD : va_D A [(m0, .inr (6, [.int (nI (0)), .ref ms, .ref mv, .int (nI (mSM sm)), .ref mt, .int (nI (ln)), .ref mh, .ref mb, .ref mg, .ref mq, .ref ml, .ref mf, .int nw, .int fw, .int (nI (tp)), .int (bI (wr)), .long dg])), (ms, .inl (G.2.1, 88, .inl (mTurn s0 n))), (mv, .inl (G.2.1, 528, .inl (mSV sv sm s0))), (mt, .inl (G.2.1, 60, .inl tx)), (mh, .inl (G.2.1, 21, .inl ht)), (mb, .inl (G.2.1, 21, .inl bu)), (mg, .inl (G.2.1, 21, .inl hg)), (mq, .inl (G.2.1, 21, .inl pq)), (ml, .inl (G.2.1, 21, .inl ld)), (mf, .inl (G.2.1, 20, .inl fo))] := by rw [← hfx_1]; exact hD
                    refine lv_aload_n hx hb dX6_turn_134 rfl (lv_at hl 2 rfl) ?_
                    refine k_cv (wr := []) [] rfl (by decide) [0, 1, 2, 3, 4, 5, 6, 7, 8, 9] rfl (by decide) hP hD hS hA (k_V (n := 0) (ci := 6) (As := []) (rest := []) (wc := [(m0, .inr (6, [.int (nI (0)), .ref ms, .ref mv, .int (nI ((mSM sm))), .ref mt, .int (nI (ln)), .ref mh, .ref mb, .ref mg, .ref mq, .ref ml, .ref mf, .int nw, .int fw, .int (nI (tp)), .int (bI (wr)), .long dg])), (ms, .inl (G.2.1, 88, .inl (mTurn s0 n))), (mv, .inl (G.2.1, 528, .inl (mSV sv sm s0))), (mt, .inl (G.2.1, 60, .inl tx)), (mh, .inl (G.2.1, 21, .inl ht)), (mb, .inl (G.2.1, 21, .inl bu)), (mg, .inl (G.2.1, 21, .inl hg)), (mq, .inl (G.2.1, 21, .inl pq)), (ml, .inl (G.2.1, 21, .inl ld)), (mf, .inl (G.2.1, 20, .inl fo))]) hx hb hml hown hts hK hP hD hl (c_X6_lay l G m0 ms mv mt mh mb mg mq ml mf 0 (mTurn s0 n) (mSV sv sm s0) (mSM sm) tx ln ht bu hg pq ld fo nw fw tp wr dg n H.size (hok2)) [0, 1, 2, 3, 4, 5, 6, 7, 8, 9] rfl (by decide) gX6_turn_X6_lay rfl rfl rfl (by decide +kernel) rfl ⟨Nat.le_of_ble_eq_true rfl, Nat.le_of_ble_eq_true rfl⟩ rfl rfl rfl (Nat.le_of_ble_eq_true rfl) dX6_turn_135 ⟨Nat.le_of_ble_eq_true rfl, Nat.le_of_ble_eq_true rfl⟩) (fun u H locs hw hP hD hS => ?_)
                    obtain ⟨ht2_135, bu2_135, hg2_135, pq2_135, ld2_135, fo2_135, nw2_135, fw2_135⟩ := u
                    have hw_135 : okB n (mST (mTurn s0 n)) (mWE (mTurn s0 n)) (mHA (mTurn s0 n)) (mPR (mTurn s0 n)) (mSE (mTurn s0 n)) ht2_135 bu2_135 hg2_135 pq2_135 ld2_135 fo2_135 ∧ nw2_135 = cAH n (mST (mTurn s0 n)) (mWE (mTurn s0 n)) (mHA (mTurn s0 n)) (mPR (mTurn s0 n)) (mSE (mTurn s0 n)) ∧ fw2_135 = cBE n (mST (mTurn s0 n)) (mWE (mTurn s0 n)) (mHA (mTurn s0 n)) (mPR (mTurn s0 n)) (mSE (mTurn s0 n)) := hw
                    have hP : va_P G.1 vwCl [(m0, .inr (6, [.int (nI (0)), .ref ms, .ref mv, .int (nI ((mSM sm))), .ref mt, .int (nI (ln)), .ref mh, .ref mb, .ref mg, .ref mq, .ref ml, .ref mf, .int nw2_135, .int fw2_135, .int (nI (tp)), .int (bI (wr)), .long dg])), (ms, .inl (G.2.1, 88, .inl (mTurn s0 n))), (mv, .inl (G.2.1, 528, .inl (mSV sv sm s0))), (mt, .inl (G.2.1, 60, .inl tx)), (mh, .inl (G.2.1, 21, .inl ht2_135)), (mb, .inl (G.2.1, 21, .inl bu2_135)), (mg, .inl (G.2.1, 21, .inl hg2_135)), (mq, .inl (G.2.1, 21, .inl pq2_135)), (ml, .inl (G.2.1, 21, .inl ld2_135)), (mf, .inl (G.2.1, 20, .inl fo2_135))] H := hP
                    have hD : va_D A [(m0, .inr (6, [.int (nI (0)), .ref ms, .ref mv, .int (nI ((mSM sm))), .ref mt, .int (nI (ln)), .ref mh, .ref mb, .ref mg, .ref mq, .ref ml, .ref mf, .int nw2_135, .int fw2_135, .int (nI (tp)), .int (bI (wr)), .long dg])), (ms, .inl (G.2.1, 88, .inl (mTurn s0 n))), (mv, .inl (G.2.1, 528, .inl (mSV sv sm s0))), (mt, .inl (G.2.1, 60, .inl tx)), (mh, .inl (G.2.1, 21, .inl ht2_135)), (mb, .inl (G.2.1, 21, .inl bu2_135)), (mg, .inl (G.2.1, 21, .inl hg2_135)), (mq, .inl (G.2.1, 21, .inl pq2_135)), (ml, .inl (G.2.1, 21, .inl ld2_135)), (mf, .inl (G.2.1, 20, .inl fo2_135))] := hD
                    refine lv_aload_n hx hb dX6_turn_138 rfl (lv_at hl 2 rfl) ?_
                    refine va_get (D := G.1) (ci := 6) (v := .ref mh) (C := RX6) (T := TX6) (N := 17) hx hb hts hinX6 hown hK hP 0 rfl rfl 6 (by decide) hf19 (fun _ h9 => h9) rfl dX6_turn_139 ?_
                    refine lv_iload_n hx hb dX6_turn_142 rfl (lv_at hl 1 rfl) ?_
                    refine g_iald (k := n) hx hb hK hP 4 rfl (by omega) (by omega) dX6_turn_143 ?_
                    refine g_ti (y := sHT (mST (mTurn s0 n)) n) (hw_135.1.1 n (Nat.le_refl n)) ?_
                    refine lv_bipush (v := 100) hx hb dX6_turn_144 (by decide) ?_
                    refine lv_iadd hx hb dX6_turn_146 ?_
                    rw [hQ]
                    exact k_iret (v := (sHT (mST (mTurn s0 n)) n) + 100) (ht2_135, bu2_135, hg2_135, pq2_135, ld2_135, fo2_135, nw2_135, fw2_135) [0, 1, 2, 3, 4, 5, 6, 7, 8, 9] hx hb hr hlocks (⟨rfl, hok2⟩) hK hP hD hS rfl (by decide) dX6_turn_147
                  · skip
                    refine lv_aload_n hx hb dX6_turn_86 rfl (lv_at hl 2 rfl) ?_
                    refine lv_bipush (v := 25) hx hb dX6_turn_87 (by decide) ?_
                    refine lv_iload_n hx hb dX6_turn_89 rfl (lv_at hl 0 rfl) ?_
                    refine lv_iadd hx hb dX6_turn_90 ?_
                    refine g_ti (y := nI (25 + i)) (nI_add (25) (i)) ?_
                    refine lv_bipush (v := 25) hx hb dX6_turn_91 (by decide) ?_
                    refine lv_iload_n hx hb dX6_turn_93 rfl (lv_at hl 1 rfl) ?_
                    refine lv_iadd hx hb dX6_turn_94 ?_
                    refine g_ti (y := nI (25 + n)) (nI_add (25) (n)) ?_
                    refine lv_iload_n hx hb dX6_turn_95 rfl (lv_at hl 0 rfl) ?_
                    refine lv_isub hx hb dX6_turn_96 ?_
                    refine g_ti (y := nI ((25 + n) - i)) (pk_sub (a := 25 + n) (b := i) (by omega)) ?_
                    refine k_cv (wr := []) [] rfl (by decide) [0, 1, 2, 3, 4, 5, 6, 7, 8, 9] rfl (by decide) hP hD hS hA (k_V (n := 2) (ci := 6) (As := [.int (nI (25 + i)), .int (nI ((25 + n) - i))]) (rest := []) (wc := [(m0, .inr (6, [.int (nI (0)), .ref ms, .ref mv, .int (nI ((mSM sm))), .ref mt, .int (nI (ln)), .ref mh, .ref mb, .ref mg, .ref mq, .ref ml, .ref mf, .int nw, .int fw, .int (nI (tp)), .int (bI (wr)), .long dg])), (ms, .inl (G.2.1, 88, .inl (revI (revI (revI (ngI (revI s0 5 n (n / 2)) 5 n) 25 (n + 1) i) 46 (n + 1) i) 67 (n + 1) i))), (mv, .inl (G.2.1, 528, .inl (mSV sv sm s0))), (mt, .inl (G.2.1, 60, .inl tx)), (mh, .inl (G.2.1, 21, .inl ht)), (mb, .inl (G.2.1, 21, .inl bu)), (mg, .inl (G.2.1, 21, .inl hg)), (mq, .inl (G.2.1, 21, .inl pq)), (ml, .inl (G.2.1, 21, .inl ld)), (mf, .inl (G.2.1, 20, .inl fo))]) hx hb hml hown hts hK hP hD hl (c_X6_exchange l G m0 ms mv mt mh mb mg mq ml mf 0 (revI (revI (revI (ngI (revI s0 5 n (n / 2)) 5 n) 25 (n + 1) i) 46 (n + 1) i) 67 (n + 1) i) (mSV sv sm s0) (mSM sm) tx ln ht bu hg pq ld fo nw fw tp wr dg (25 + i) ((25 + n) - i) H.size (by first | assumption | omega) (by first | assumption | omega)) [0, 1, 2, 3, 4, 5, 6, 7, 8, 9] rfl (by decide) gX6_turn_X6_exchange rfl rfl rfl (by decide +kernel) rfl ⟨Nat.le_of_ble_eq_true rfl, Nat.le_of_ble_eq_true rfl⟩ rfl rfl rfl (Nat.le_of_ble_eq_true rfl) dX6_turn_97 ⟨Nat.le_of_ble_eq_true rfl, Nat.le_of_ble_eq_true rfl⟩) (fun u H locs hw hP hD hS => ?_)
                    have hw_97 : True := hw
                    have hP : va_P G.1 vwCl [(m0, .inr (6, [.int (nI (0)), .ref ms, .ref mv, .int (nI ((mSM sm))), .ref mt, .int (nI (ln)), .ref mh, .ref mb, .ref mg, .ref mq, .ref ml, .ref mf, .int nw, .int fw, .int (nI (tp)), .int (bI (wr)), .long dg])), (ms, .inl (G.2.1, 88, .inl (exch (revI (revI (revI (ngI (revI s0 5 n (n / 2)) 5 n) 25 (n + 1) i) 46 (n + 1) i) 67 (n + 1) i) (25 + i) ((25 + n) - i)))), (mv, .inl (G.2.1, 528, .inl (mSV sv sm s0))), (mt, .inl (G.2.1, 60, .inl tx)), (mh, .inl (G.2.1, 21, .inl ht)), (mb, .inl (G.2.1, 21, .inl bu)), (mg, .inl (G.2.1, 21, .inl hg)), (mq, .inl (G.2.1, 21, .inl pq)), (ml, .inl (G.2.1, 21, .inl ld)), (mf, .inl (G.2.1, 20, .inl fo))] H := hP
                    have hD : va_D A [(m0, .inr (6, [.int (nI (0)), .ref ms, .ref mv, .int (nI ((mSM sm))), .ref mt, .int (nI (ln)), .ref mh, .ref mb, .ref mg, .ref mq, .ref ml, .ref mf, .int nw, .int fw, .int (nI (tp)), .int (bI (wr)), .long dg])), (ms, .inl (G.2.1, 88, .inl (exch (revI (revI (revI (ngI (revI s0 5 n (n / 2)) 5 n) 25 (n + 1) i) 46 (n + 1) i) 67 (n + 1) i) (25 + i) ((25 + n) - i)))), (mv, .inl (G.2.1, 528, .inl (mSV sv sm s0))), (mt, .inl (G.2.1, 60, .inl tx)), (mh, .inl (G.2.1, 21, .inl ht)), (mb, .inl (G.2.1, 21, .inl bu)), (mg, .inl (G.2.1, 21, .inl hg)), (mq, .inl (G.2.1, 21, .inl pq)), (ml, .inl (G.2.1, 21, .inl ld)), (mf, .inl (G.2.1, 20, .inl fo))] := hD
                    refine lv_aload_n hx hb dX6_turn_100 rfl (lv_at hl 2 rfl) ?_
                    refine lv_bipush (v := 46) hx hb dX6_turn_101 (by decide) ?_
                    refine lv_iload_n hx hb dX6_turn_103 rfl (lv_at hl 0 rfl) ?_
                    refine lv_iadd hx hb dX6_turn_104 ?_
                    refine g_ti (y := nI (46 + i)) (nI_add (46) (i)) ?_
                    refine lv_bipush (v := 46) hx hb dX6_turn_105 (by decide) ?_
                    refine lv_iload_n hx hb dX6_turn_107 rfl (lv_at hl 1 rfl) ?_
                    refine lv_iadd hx hb dX6_turn_108 ?_
                    refine g_ti (y := nI (46 + n)) (nI_add (46) (n)) ?_
                    refine lv_iload_n hx hb dX6_turn_109 rfl (lv_at hl 0 rfl) ?_
                    refine lv_isub hx hb dX6_turn_110 ?_
                    refine g_ti (y := nI ((46 + n) - i)) (pk_sub (a := 46 + n) (b := i) (by omega)) ?_
                    refine k_cv (wr := []) [] rfl (by decide) [0, 1, 2, 3, 4, 5, 6, 7, 8, 9] rfl (by decide) hP hD hS hA (k_V (n := 2) (ci := 6) (As := [.int (nI (46 + i)), .int (nI ((46 + n) - i))]) (rest := []) (wc := [(m0, .inr (6, [.int (nI (0)), .ref ms, .ref mv, .int (nI ((mSM sm))), .ref mt, .int (nI (ln)), .ref mh, .ref mb, .ref mg, .ref mq, .ref ml, .ref mf, .int nw, .int fw, .int (nI (tp)), .int (bI (wr)), .long dg])), (ms, .inl (G.2.1, 88, .inl (exch (revI (revI (revI (ngI (revI s0 5 n (n / 2)) 5 n) 25 (n + 1) i) 46 (n + 1) i) 67 (n + 1) i) (25 + i) ((25 + n) - i)))), (mv, .inl (G.2.1, 528, .inl (mSV sv sm s0))), (mt, .inl (G.2.1, 60, .inl tx)), (mh, .inl (G.2.1, 21, .inl ht)), (mb, .inl (G.2.1, 21, .inl bu)), (mg, .inl (G.2.1, 21, .inl hg)), (mq, .inl (G.2.1, 21, .inl pq)), (ml, .inl (G.2.1, 21, .inl ld)), (mf, .inl (G.2.1, 20, .inl fo))]) hx hb hml hown hts hK hP hD hl (c_X6_exchange l G m0 ms mv mt mh mb mg mq ml mf 0 (exch (revI (revI (revI (ngI (revI s0 5 n (n / 2)) 5 n) 25 (n + 1) i) 46 (n + 1) i) 67 (n + 1) i) (25 + i) ((25 + n) - i)) (mSV sv sm s0) (mSM sm) tx ln ht bu hg pq ld fo nw fw tp wr dg (46 + i) ((46 + n) - i) H.size (by first | assumption | omega) (by first | assumption | omega)) [0, 1, 2, 3, 4, 5, 6, 7, 8, 9] rfl (by decide) gX6_turn_X6_exchange rfl rfl rfl (by decide +kernel) rfl ⟨Nat.le_of_ble_eq_true rfl, Nat.le_of_ble_eq_true rfl⟩ rfl rfl rfl (Nat.le_of_ble_eq_true rfl) dX6_turn_111 ⟨Nat.le_of_ble_eq_true rfl, Nat.le_of_ble_eq_true rfl⟩) (fun u H locs hw hP hD hS => ?_)
                    have hw_111 : True := hw
                    have hP : va_P G.1 vwCl [(m0, .inr (6, [.int (nI (0)), .ref ms, .ref mv, .int (nI ((mSM sm))), .ref mt, .int (nI (ln)), .ref mh, .ref mb, .ref mg, .ref mq, .ref ml, .ref mf, .int nw, .int fw, .int (nI (tp)), .int (bI (wr)), .long dg])), (ms, .inl (G.2.1, 88, .inl (exch (exch (revI (revI (revI (ngI (revI s0 5 n (n / 2)) 5 n) 25 (n + 1) i) 46 (n + 1) i) 67 (n + 1) i) (25 + i) ((25 + n) - i)) (46 + i) ((46 + n) - i)))), (mv, .inl (G.2.1, 528, .inl (mSV sv sm s0))), (mt, .inl (G.2.1, 60, .inl tx)), (mh, .inl (G.2.1, 21, .inl ht)), (mb, .inl (G.2.1, 21, .inl bu)), (mg, .inl (G.2.1, 21, .inl hg)), (mq, .inl (G.2.1, 21, .inl pq)), (ml, .inl (G.2.1, 21, .inl ld)), (mf, .inl (G.2.1, 20, .inl fo))] H := hP
                    have hD : va_D A [(m0, .inr (6, [.int (nI (0)), .ref ms, .ref mv, .int (nI ((mSM sm))), .ref mt, .int (nI (ln)), .ref mh, .ref mb, .ref mg, .ref mq, .ref ml, .ref mf, .int nw, .int fw, .int (nI (tp)), .int (bI (wr)), .long dg])), (ms, .inl (G.2.1, 88, .inl (exch (exch (revI (revI (revI (ngI (revI s0 5 n (n / 2)) 5 n) 25 (n + 1) i) 46 (n + 1) i) 67 (n + 1) i) (25 + i) ((25 + n) - i)) (46 + i) ((46 + n) - i)))), (mv, .inl (G.2.1, 528, .inl (mSV sv sm s0))), (mt, .inl (G.2.1, 60, .inl tx)), (mh, .inl (G.2.1, 21, .inl ht)), (mb, .inl (G.2.1, 21, .inl bu)), (mg, .inl (G.2.1, 21, .inl hg)), (mq, .inl (G.2.1, 21, .inl pq)), (ml, .inl (G.2.1, 21, .inl ld)), (mf, .inl (G.2.1, 20, .inl fo))] := hD
                    refine lv_aload_n hx hb dX6_turn_114 rfl (lv_at hl 2 rfl) ?_
                    refine lv_bipush (v := 67) hx hb dX6_turn_115 (by decide) ?_
                    refine lv_iload_n hx hb dX6_turn_117 rfl (lv_at hl 0 rfl) ?_
                    refine lv_iadd hx hb dX6_turn_118 ?_
                    refine g_ti (y := nI (67 + i)) (nI_add (67) (i)) ?_
                    refine lv_bipush (v := 67) hx hb dX6_turn_119 (by decide) ?_
                    refine lv_iload_n hx hb dX6_turn_121 rfl (lv_at hl 1 rfl) ?_
                    refine lv_iadd hx hb dX6_turn_122 ?_
                    refine g_ti (y := nI (67 + n)) (nI_add (67) (n)) ?_
                    refine lv_iload_n hx hb dX6_turn_123 rfl (lv_at hl 0 rfl) ?_
                    refine lv_isub hx hb dX6_turn_124 ?_
                    refine g_ti (y := nI ((67 + n) - i)) (pk_sub (a := 67 + n) (b := i) (by omega)) ?_
                    refine k_cv (wr := []) [] rfl (by decide) [0, 1, 2, 3, 4, 5, 6, 7, 8, 9] rfl (by decide) hP hD hS hA (k_V (n := 2) (ci := 6) (As := [.int (nI (67 + i)), .int (nI ((67 + n) - i))]) (rest := []) (wc := [(m0, .inr (6, [.int (nI (0)), .ref ms, .ref mv, .int (nI ((mSM sm))), .ref mt, .int (nI (ln)), .ref mh, .ref mb, .ref mg, .ref mq, .ref ml, .ref mf, .int nw, .int fw, .int (nI (tp)), .int (bI (wr)), .long dg])), (ms, .inl (G.2.1, 88, .inl (exch (exch (revI (revI (revI (ngI (revI s0 5 n (n / 2)) 5 n) 25 (n + 1) i) 46 (n + 1) i) 67 (n + 1) i) (25 + i) ((25 + n) - i)) (46 + i) ((46 + n) - i)))), (mv, .inl (G.2.1, 528, .inl (mSV sv sm s0))), (mt, .inl (G.2.1, 60, .inl tx)), (mh, .inl (G.2.1, 21, .inl ht)), (mb, .inl (G.2.1, 21, .inl bu)), (mg, .inl (G.2.1, 21, .inl hg)), (mq, .inl (G.2.1, 21, .inl pq)), (ml, .inl (G.2.1, 21, .inl ld)), (mf, .inl (G.2.1, 20, .inl fo))]) hx hb hml hown hts hK hP hD hl (c_X6_exchange l G m0 ms mv mt mh mb mg mq ml mf 0 (exch (exch (revI (revI (revI (ngI (revI s0 5 n (n / 2)) 5 n) 25 (n + 1) i) 46 (n + 1) i) 67 (n + 1) i) (25 + i) ((25 + n) - i)) (46 + i) ((46 + n) - i)) (mSV sv sm s0) (mSM sm) tx ln ht bu hg pq ld fo nw fw tp wr dg (67 + i) ((67 + n) - i) H.size (by first | assumption | omega) (by first | assumption | omega)) [0, 1, 2, 3, 4, 5, 6, 7, 8, 9] rfl (by decide) gX6_turn_X6_exchange rfl rfl rfl (by decide +kernel) rfl ⟨Nat.le_of_ble_eq_true rfl, Nat.le_of_ble_eq_true rfl⟩ rfl rfl rfl (Nat.le_of_ble_eq_true rfl) dX6_turn_125 ⟨Nat.le_of_ble_eq_true rfl, Nat.le_of_ble_eq_true rfl⟩) (fun u H locs hw hP hD hS => ?_)
                    have hw_125 : True := hw
                    have hP : va_P G.1 vwCl [(m0, .inr (6, [.int (nI (0)), .ref ms, .ref mv, .int (nI ((mSM sm))), .ref mt, .int (nI (ln)), .ref mh, .ref mb, .ref mg, .ref mq, .ref ml, .ref mf, .int nw, .int fw, .int (nI (tp)), .int (bI (wr)), .long dg])), (ms, .inl (G.2.1, 88, .inl (exch (exch (exch (revI (revI (revI (ngI (revI s0 5 n (n / 2)) 5 n) 25 (n + 1) i) 46 (n + 1) i) 67 (n + 1) i) (25 + i) ((25 + n) - i)) (46 + i) ((46 + n) - i)) (67 + i) ((67 + n) - i)))), (mv, .inl (G.2.1, 528, .inl (mSV sv sm s0))), (mt, .inl (G.2.1, 60, .inl tx)), (mh, .inl (G.2.1, 21, .inl ht)), (mb, .inl (G.2.1, 21, .inl bu)), (mg, .inl (G.2.1, 21, .inl hg)), (mq, .inl (G.2.1, 21, .inl pq)), (ml, .inl (G.2.1, 21, .inl ld)), (mf, .inl (G.2.1, 20, .inl fo))] H := hP
                    have hD : va_D A [(m0, .inr (6, [.int (nI (0)), .ref ms, .ref mv, .int (nI ((mSM sm))), .ref mt, .int (nI (ln)), .ref mh, .ref mb, .ref mg, .ref mq, .ref ml, .ref mf, .int nw, .int fw, .int (nI (tp)), .int (bI (wr)), .long dg])), (ms, .inl (G.2.1, 88, .inl (exch (exch (exch (revI (revI (revI (ngI (revI s0 5 n (n / 2)) 5 n) 25 (n + 1) i) 46 (n + 1) i) 67 (n + 1) i) (25 + i) ((25 + n) - i)) (46 + i) ((46 + n) - i)) (67 + i) ((67 + n) - i)))), (mv, .inl (G.2.1, 528, .inl (mSV sv sm s0))), (mt, .inl (G.2.1, 60, .inl tx)), (mh, .inl (G.2.1, 21, .inl ht)), (mb, .inl (G.2.1, 21, .inl bu)), (mg, .inl (G.2.1, 21, .inl hg)), (mq, .inl (G.2.1, 21, .inl pq)), (ml, .inl (G.2.1, 21, .inl ld)), (mf, .inl (G.2.1, 20, .inl fo))] := hD
                    refine lv_iinc (v := nI (i + 1)) (lv' := [(2, .int (nI (i + 1))), (1, .int (nI n)), (0, .ref m0)]) hx hb dX6_turn_128 hl (k := 0) rfl (nI_add (i) 1) (by decide) rfl (fun ls hl => ?_)
                    refine lv_goto (tgt := 77) hx hb dX6_turn_131 (by decide) ?_
                    have hfx_2 : (exch (exch (exch (revI (revI (revI (ngI (revI s0 5 n (n / 2)) 5 n) 25 (n + 1) i) 46 (n + 1) i) 67 (n + 1) i) (25 + i) ((25 + n) - i)) (46 + i) ((46 + n) - i)) (67 + i) ((67 + n) - i) : Nat → Int32) = revI (revI (revI (ngI (revI s0 5 n (n / 2)) 5 n) 25 (n + 1) (i + 1)) 46 (n + 1) (i + 1)) 67 (n + 1) (i + 1) := turn3_S (by omega) (by omega)
                    have hP : va_P G.1 vwCl [(m0, .inr (6, [.int (nI (0)), .ref ms, .ref mv, .int (nI ((mSM sm))), .ref mt, .int (nI (ln)), .ref mh, .ref mb, .ref mg, .ref mq, .ref ml, .ref mf, .int nw, .int fw, .int (nI (tp)), .int (bI (wr)), .long dg])), (ms, .inl (G.2.1, 88, .inl (revI (revI (revI (ngI (revI s0 5 n (n / 2)) 5 n) 25 (n + 1) (i + 1)) 46 (n + 1) (i + 1)) 67 (n + 1) (i + 1)))), (mv, .inl (G.2.1, 528, .inl (mSV sv sm s0))), (mt, .inl (G.2.1, 60, .inl tx)), (mh, .inl (G.2.1, 21, .inl ht)), (mb, .inl (G.2.1, 21, .inl bu)), (mg, .inl (G.2.1, 21, .inl hg)), (mq, .inl (G.2.1, 21, .inl pq)), (ml, .inl (G.2.1, 21, .inl ld)), (mf, .inl (G.2.1, 20, .inl fo))] H := by rw [← hfx_2]; exact hP
                    have hD : va_D A [(m0, .inr (6, [.int (nI (0)), .ref ms, .ref mv, .int (nI ((mSM sm))), .ref mt, .int (nI (ln)), .ref mh, .ref mb, .ref mg, .ref mq, .ref ml, .ref mf, .int nw, .int fw, .int (nI (tp)), .int (bI (wr)), .long dg])), (ms, .inl (G.2.1, 88, .inl (revI (revI (revI (ngI (revI s0 5 n (n / 2)) 5 n) 25 (n + 1) (i + 1)) 46 (n + 1) (i + 1)) 67 (n + 1) (i + 1)))), (mv, .inl (G.2.1, 528, .inl (mSV sv sm s0))), (mt, .inl (G.2.1, 60, .inl tx)), (mh, .inl (G.2.1, 21, .inl ht)), (mb, .inl (G.2.1, 21, .inl bu)), (mg, .inl (G.2.1, 21, .inl hg)), (mq, .inl (G.2.1, 21, .inl pq)), (ml, .inl (G.2.1, 21, .inl ld)), (mf, .inl (G.2.1, 20, .inl fo))] := by rw [← hfx_2]; exact hD
                    exact ih77 (i + 1) (by first | assumption | omega) (by omega) _ _ _ hP hD hS (lv_sub hl [0, 1, 2] rfl)
              have hfx_3 : (ngI (revI s0 5 n (n / 2)) 5 n : Nat → Int32) = revI (revI (revI (ngI (revI s0 5 n (n / 2)) 5 n) 25 (n + 1) 0) 46 (n + 1) 0) 67 (n + 1) 0 := by rw [revI_0, revI_0, revI_0]
              have hP : va_P G.1 vwCl [(m0, .inr (6, [.int (nI (0)), .ref ms, .ref mv, .int (nI (mSM sm)), .ref mt, .int (nI (ln)), .ref mh, .ref mb, .ref mg, .ref mq, .ref ml, .ref mf, .int nw, .int fw, .int (nI (tp)), .int (bI (wr)), .long dg])), (ms, .inl (G.2.1, 88, .inl (revI (revI (revI (ngI (revI s0 5 n (n / 2)) 5 n) 25 (n + 1) 0) 46 (n + 1) 0) 67 (n + 1) 0))), (mv, .inl (G.2.1, 528, .inl (mSV sv sm s0))), (mt, .inl (G.2.1, 60, .inl tx)), (mh, .inl (G.2.1, 21, .inl ht)), (mb, .inl (G.2.1, 21, .inl bu)), (mg, .inl (G.2.1, 21, .inl hg)), (mq, .inl (G.2.1, 21, .inl pq)), (ml, .inl (G.2.1, 21, .inl ld)), (mf, .inl (G.2.1, 20, .inl fo))] H := by rw [← hfx_3]; exact hP
              have hD : va_D A [(m0, .inr (6, [.int (nI (0)), .ref ms, .ref mv, .int (nI (mSM sm)), .ref mt, .int (nI (ln)), .ref mh, .ref mb, .ref mg, .ref mq, .ref ml, .ref mf, .int nw, .int fw, .int (nI (tp)), .int (bI (wr)), .long dg])), (ms, .inl (G.2.1, 88, .inl (revI (revI (revI (ngI (revI s0 5 n (n / 2)) 5 n) 25 (n + 1) 0) 46 (n + 1) 0) 67 (n + 1) 0))), (mv, .inl (G.2.1, 528, .inl (mSV sv sm s0))), (mt, .inl (G.2.1, 60, .inl tx)), (mh, .inl (G.2.1, 21, .inl ht)), (mb, .inl (G.2.1, 21, .inl bu)), (mg, .inl (G.2.1, 21, .inl hg)), (mq, .inl (G.2.1, 21, .inl pq)), (ml, .inl (G.2.1, 21, .inl ld)), (mf, .inl (G.2.1, 20, .inl fo))] := by rw [← hfx_3]; exact hD
              exact L77 (n - 0 + 1) 0 (by first | assumption | omega) (Nat.lt_succ_self _) _ _ _ hP hD hS (lv_sub hl [0, 1, 2] rfl)
            · skip
              refine lv_aload_n hx hb dX6_turn_52 rfl (lv_at hl 2 rfl) ?_
              refine va_get (D := G.1) (ci := 6) (v := .ref ms) (C := RX6) (T := TX6) (N := 17) hx hb hts hinX6 hown hK hP 0 rfl rfl 1 (by decide) hf7 (fun _ h9 => h9) rfl dX6_turn_53 ?_
              refine lv_iconst (v := 5) hx hb dX6_turn_56 (by decide) ?_
              refine lv_iload_n hx hb dX6_turn_57 rfl (lv_at hl 0 rfl) ?_
              refine lv_iadd hx hb dX6_turn_58 ?_
              refine g_ti (y := nI (5 + i)) (nI_add (5) (i)) ?_
              refine lv_aload_n hx hb dX6_turn_59 rfl (lv_at hl 2 rfl) ?_
              refine va_get (D := G.1) (ci := 6) (v := .ref ms) (C := RX6) (T := TX6) (N := 17) hx hb hts hinX6 hown hK hP 0 rfl rfl 1 (by decide) hf7 (fun _ h9 => h9) rfl dX6_turn_60 ?_
              refine lv_iconst (v := 5) hx hb dX6_turn_63 (by decide) ?_
              refine lv_iload_n hx hb dX6_turn_64 rfl (lv_at hl 0 rfl) ?_
              refine lv_iadd hx hb dX6_turn_65 ?_
              refine g_ti (y := nI (5 + i)) (nI_add (5) (i)) ?_
              refine g_iald (k := 5 + i) hx hb hK hP 1 rfl (by omega) (by omega) dX6_turn_66 ?_
              refine lv_ineg hx hb dX6_turn_67 ?_
              refine g_iast (k := 5 + i) hx hb hK hP hD hS 1 rfl (by omega) (by omega) dX6_turn_68 (fun H locs hP hD hS => ?_)
              have hP : va_P G.1 vwCl [(m0, .inr (6, [.int (nI (0)), .ref ms, .ref mv, .int (nI (mSM sm)), .ref mt, .int (nI (ln)), .ref mh, .ref mb, .ref mg, .ref mq, .ref ml, .ref mf, .int nw, .int fw, .int (nI (tp)), .int (bI (wr)), .long dg])), (ms, .inl (G.2.1, 88, .inl (upd (ngI (revI s0 5 n (n / 2)) 5 i) (5 + i) (-((ngI (revI s0 5 n (n / 2)) 5 i) (5 + i)))))), (mv, .inl (G.2.1, 528, .inl (mSV sv sm s0))), (mt, .inl (G.2.1, 60, .inl tx)), (mh, .inl (G.2.1, 21, .inl ht)), (mb, .inl (G.2.1, 21, .inl bu)), (mg, .inl (G.2.1, 21, .inl hg)), (mq, .inl (G.2.1, 21, .inl pq)), (ml, .inl (G.2.1, 21, .inl ld)), (mf, .inl (G.2.1, 20, .inl fo))] H := hP
              have hD : va_D A [(m0, .inr (6, [.int (nI (0)), .ref ms, .ref mv, .int (nI (mSM sm)), .ref mt, .int (nI (ln)), .ref mh, .ref mb, .ref mg, .ref mq, .ref ml, .ref mf, .int nw, .int fw, .int (nI (tp)), .int (bI (wr)), .long dg])), (ms, .inl (G.2.1, 88, .inl (upd (ngI (revI s0 5 n (n / 2)) 5 i) (5 + i) (-((ngI (revI s0 5 n (n / 2)) 5 i) (5 + i)))))), (mv, .inl (G.2.1, 528, .inl (mSV sv sm s0))), (mt, .inl (G.2.1, 60, .inl tx)), (mh, .inl (G.2.1, 21, .inl ht)), (mb, .inl (G.2.1, 21, .inl bu)), (mg, .inl (G.2.1, 21, .inl hg)), (mq, .inl (G.2.1, 21, .inl pq)), (ml, .inl (G.2.1, 21, .inl ld)), (mf, .inl (G.2.1, 20, .inl fo))] := hD
              refine lv_iinc (v := nI (i + 1)) (lv' := [(2, .int (nI (i + 1))), (1, .int (nI n)), (0, .ref m0)]) hx hb dX6_turn_69 hl (k := 0) rfl (nI_add (i) 1) (by decide) rfl (fun ls hl => ?_)
              refine lv_goto (tgt := 47) hx hb dX6_turn_72 (by decide) ?_
              have hfx_4 : (upd (ngI (revI s0 5 n (n / 2)) 5 i) (5 + i) (-((ngI (revI s0 5 n (n / 2)) 5 i) (5 + i))) : Nat → Int32) = ngI (revI s0 5 n (n / 2)) 5 (i + 1) := ngI_S _ _ _
              have hP : va_P G.1 vwCl [(m0, .inr (6, [.int (nI (0)), .ref ms, .ref mv, .int (nI (mSM sm)), .ref mt, .int (nI (ln)), .ref mh, .ref mb, .ref mg, .ref mq, .ref ml, .ref mf, .int nw, .int fw, .int (nI (tp)), .int (bI (wr)), .long dg])), (ms, .inl (G.2.1, 88, .inl (ngI (revI s0 5 n (n / 2)) 5 (i + 1)))), (mv, .inl (G.2.1, 528, .inl (mSV sv sm s0))), (mt, .inl (G.2.1, 60, .inl tx)), (mh, .inl (G.2.1, 21, .inl ht)), (mb, .inl (G.2.1, 21, .inl bu)), (mg, .inl (G.2.1, 21, .inl hg)), (mq, .inl (G.2.1, 21, .inl pq)), (ml, .inl (G.2.1, 21, .inl ld)), (mf, .inl (G.2.1, 20, .inl fo))] H := by rw [← hfx_4]; exact hP
              have hD : va_D A [(m0, .inr (6, [.int (nI (0)), .ref ms, .ref mv, .int (nI (mSM sm)), .ref mt, .int (nI (ln)), .ref mh, .ref mb, .ref mg, .ref mq, .ref ml, .ref mf, .int nw, .int fw, .int (nI (tp)), .int (bI (wr)), .long dg])), (ms, .inl (G.2.1, 88, .inl (ngI (revI s0 5 n (n / 2)) 5 (i + 1)))), (mv, .inl (G.2.1, 528, .inl (mSV sv sm s0))), (mt, .inl (G.2.1, 60, .inl tx)), (mh, .inl (G.2.1, 21, .inl ht)), (mb, .inl (G.2.1, 21, .inl bu)), (mg, .inl (G.2.1, 21, .inl hg)), (mq, .inl (G.2.1, 21, .inl pq)), (ml, .inl (G.2.1, 21, .inl ld)), (mf, .inl (G.2.1, 20, .inl fo))] := by rw [← hfx_4]; exact hD
              exact ih47 (i + 1) (by first | assumption | omega) (by omega) _ _ _ hP hD hS (lv_sub hl [0, 1, 2] rfl)
        have hfx_5 : (revI s0 5 n (n / 2) : Nat → Int32) = ngI (revI s0 5 n (n / 2)) 5 0 := (ngI_0 _ _).symm
        have hP : va_P G.1 vwCl [(m0, .inr (6, [.int (nI (0)), .ref ms, .ref mv, .int (nI (mSM sm)), .ref mt, .int (nI (ln)), .ref mh, .ref mb, .ref mg, .ref mq, .ref ml, .ref mf, .int nw, .int fw, .int (nI (tp)), .int (bI (wr)), .long dg])), (ms, .inl (G.2.1, 88, .inl (ngI (revI s0 5 n (n / 2)) 5 0))), (mv, .inl (G.2.1, 528, .inl (mSV sv sm s0))), (mt, .inl (G.2.1, 60, .inl tx)), (mh, .inl (G.2.1, 21, .inl ht)), (mb, .inl (G.2.1, 21, .inl bu)), (mg, .inl (G.2.1, 21, .inl hg)), (mq, .inl (G.2.1, 21, .inl pq)), (ml, .inl (G.2.1, 21, .inl ld)), (mf, .inl (G.2.1, 20, .inl fo))] H := by rw [← hfx_5]; exact hP
        have hD : va_D A [(m0, .inr (6, [.int (nI (0)), .ref ms, .ref mv, .int (nI (mSM sm)), .ref mt, .int (nI (ln)), .ref mh, .ref mb, .ref mg, .ref mq, .ref ml, .ref mf, .int nw, .int fw, .int (nI (tp)), .int (bI (wr)), .long dg])), (ms, .inl (G.2.1, 88, .inl (ngI (revI s0 5 n (n / 2)) 5 0))), (mv, .inl (G.2.1, 528, .inl (mSV sv sm s0))), (mt, .inl (G.2.1, 60, .inl tx)), (mh, .inl (G.2.1, 21, .inl ht)), (mb, .inl (G.2.1, 21, .inl bu)), (mg, .inl (G.2.1, 21, .inl hg)), (mq, .inl (G.2.1, 21, .inl pq)), (ml, .inl (G.2.1, 21, .inl ld)), (mf, .inl (G.2.1, 20, .inl fo))] := by rw [← hfx_5]; exact hD
        exact L47 (n - 0 + 1) 0 (by first | assumption | omega) (Nat.lt_succ_self _) _ _ _ hP hD hS (lv_sub hl [0, 1, 2] rfl)
      · skip
        refine lv_aload_n hx hb dX6_turn_25 rfl (lv_at hl 2 rfl) ?_
        refine lv_iconst (v := 5) hx hb dX6_turn_26 (by decide) ?_
        refine lv_iload_n hx hb dX6_turn_27 rfl (lv_at hl 0 rfl) ?_
        refine lv_iadd hx hb dX6_turn_28 ?_
        refine g_ti (y := nI (5 + i)) (nI_add (5) (i)) ?_
        refine lv_iconst (v := 5) hx hb dX6_turn_29 (by decide) ?_
        refine lv_iload_n hx hb dX6_turn_30 rfl (lv_at hl 1 rfl) ?_
        refine lv_iadd hx hb dX6_turn_31 ?_
        refine g_ti (y := nI (5 + n)) (nI_add (5) (n)) ?_
        refine lv_iconst (v := 1) hx hb dX6_turn_32 (by decide) ?_
        refine lv_isub hx hb dX6_turn_33 ?_
        refine g_ti (y := nI ((5 + n) - 1)) (pk_sub (a := 5 + n) (b := 1) (by omega)) ?_
        refine lv_iload_n hx hb dX6_turn_34 rfl (lv_at hl 0 rfl) ?_
        refine lv_isub hx hb dX6_turn_35 ?_
        refine g_ti (y := nI (((5 + n) - 1) - i)) (pk_sub (a := (5 + n) - 1) (b := i) (by omega)) ?_
        refine k_cv (wr := []) [] rfl (by decide) [0, 1, 2, 3, 4, 5, 6, 7, 8, 9] rfl (by decide) hP hD hS hA (k_V (n := 2) (ci := 6) (As := [.int (nI (5 + i)), .int (nI (((5 + n) - 1) - i))]) (rest := []) (wc := [(m0, .inr (6, [.int (nI (0)), .ref ms, .ref mv, .int (nI ((mSM sm))), .ref mt, .int (nI (ln)), .ref mh, .ref mb, .ref mg, .ref mq, .ref ml, .ref mf, .int nw, .int fw, .int (nI (tp)), .int (bI (wr)), .long dg])), (ms, .inl (G.2.1, 88, .inl (revI s0 5 n i))), (mv, .inl (G.2.1, 528, .inl (mSV sv sm s0))), (mt, .inl (G.2.1, 60, .inl tx)), (mh, .inl (G.2.1, 21, .inl ht)), (mb, .inl (G.2.1, 21, .inl bu)), (mg, .inl (G.2.1, 21, .inl hg)), (mq, .inl (G.2.1, 21, .inl pq)), (ml, .inl (G.2.1, 21, .inl ld)), (mf, .inl (G.2.1, 20, .inl fo))]) hx hb hml hown hts hK hP hD hl (c_X6_exchange l G m0 ms mv mt mh mb mg mq ml mf 0 (revI s0 5 n i) (mSV sv sm s0) (mSM sm) tx ln ht bu hg pq ld fo nw fw tp wr dg (5 + i) (((5 + n) - 1) - i) H.size (by first | assumption | omega) (by first | assumption | omega)) [0, 1, 2, 3, 4, 5, 6, 7, 8, 9] rfl (by decide) gX6_turn_X6_exchange rfl rfl rfl (by decide +kernel) rfl ⟨Nat.le_of_ble_eq_true rfl, Nat.le_of_ble_eq_true rfl⟩ rfl rfl rfl (Nat.le_of_ble_eq_true rfl) dX6_turn_36 ⟨Nat.le_of_ble_eq_true rfl, Nat.le_of_ble_eq_true rfl⟩) (fun u H locs hw hP hD hS => ?_)
        have hw_36 : True := hw
        have hP : va_P G.1 vwCl [(m0, .inr (6, [.int (nI (0)), .ref ms, .ref mv, .int (nI ((mSM sm))), .ref mt, .int (nI (ln)), .ref mh, .ref mb, .ref mg, .ref mq, .ref ml, .ref mf, .int nw, .int fw, .int (nI (tp)), .int (bI (wr)), .long dg])), (ms, .inl (G.2.1, 88, .inl (exch (revI s0 5 n i) (5 + i) (((5 + n) - 1) - i)))), (mv, .inl (G.2.1, 528, .inl (mSV sv sm s0))), (mt, .inl (G.2.1, 60, .inl tx)), (mh, .inl (G.2.1, 21, .inl ht)), (mb, .inl (G.2.1, 21, .inl bu)), (mg, .inl (G.2.1, 21, .inl hg)), (mq, .inl (G.2.1, 21, .inl pq)), (ml, .inl (G.2.1, 21, .inl ld)), (mf, .inl (G.2.1, 20, .inl fo))] H := hP
        have hD : va_D A [(m0, .inr (6, [.int (nI (0)), .ref ms, .ref mv, .int (nI ((mSM sm))), .ref mt, .int (nI (ln)), .ref mh, .ref mb, .ref mg, .ref mq, .ref ml, .ref mf, .int nw, .int fw, .int (nI (tp)), .int (bI (wr)), .long dg])), (ms, .inl (G.2.1, 88, .inl (exch (revI s0 5 n i) (5 + i) (((5 + n) - 1) - i)))), (mv, .inl (G.2.1, 528, .inl (mSV sv sm s0))), (mt, .inl (G.2.1, 60, .inl tx)), (mh, .inl (G.2.1, 21, .inl ht)), (mb, .inl (G.2.1, 21, .inl bu)), (mg, .inl (G.2.1, 21, .inl hg)), (mq, .inl (G.2.1, 21, .inl pq)), (ml, .inl (G.2.1, 21, .inl ld)), (mf, .inl (G.2.1, 20, .inl fo))] := hD
        refine lv_iinc (v := nI (i + 1)) (lv' := [(2, .int (nI (i + 1))), (1, .int (nI n)), (0, .ref m0)]) hx hb dX6_turn_39 hl (k := 0) rfl (nI_add (i) 1) (by decide) rfl (fun ls hl => ?_)
        refine lv_goto (tgt := 18) hx hb dX6_turn_42 (by decide) ?_
        have hfx_6 : (exch (revI s0 5 n i) (5 + i) (((5 + n) - 1) - i) : Nat → Int32) = revI s0 5 n (i + 1) := revI_S' (by omega) (by omega)
        have hP : va_P G.1 vwCl [(m0, .inr (6, [.int (nI (0)), .ref ms, .ref mv, .int (nI ((mSM sm))), .ref mt, .int (nI (ln)), .ref mh, .ref mb, .ref mg, .ref mq, .ref ml, .ref mf, .int nw, .int fw, .int (nI (tp)), .int (bI (wr)), .long dg])), (ms, .inl (G.2.1, 88, .inl (revI s0 5 n (i + 1)))), (mv, .inl (G.2.1, 528, .inl (mSV sv sm s0))), (mt, .inl (G.2.1, 60, .inl tx)), (mh, .inl (G.2.1, 21, .inl ht)), (mb, .inl (G.2.1, 21, .inl bu)), (mg, .inl (G.2.1, 21, .inl hg)), (mq, .inl (G.2.1, 21, .inl pq)), (ml, .inl (G.2.1, 21, .inl ld)), (mf, .inl (G.2.1, 20, .inl fo))] H := by rw [← hfx_6]; exact hP
        have hD : va_D A [(m0, .inr (6, [.int (nI (0)), .ref ms, .ref mv, .int (nI ((mSM sm))), .ref mt, .int (nI (ln)), .ref mh, .ref mb, .ref mg, .ref mq, .ref ml, .ref mf, .int nw, .int fw, .int (nI (tp)), .int (bI (wr)), .long dg])), (ms, .inl (G.2.1, 88, .inl (revI s0 5 n (i + 1)))), (mv, .inl (G.2.1, 528, .inl (mSV sv sm s0))), (mt, .inl (G.2.1, 60, .inl tx)), (mh, .inl (G.2.1, 21, .inl ht)), (mb, .inl (G.2.1, 21, .inl bu)), (mg, .inl (G.2.1, 21, .inl hg)), (mq, .inl (G.2.1, 21, .inl pq)), (ml, .inl (G.2.1, 21, .inl ld)), (mf, .inl (G.2.1, 20, .inl fo))] := by rw [← hfx_6]; exact hD
        exact ih18 (i + 1) (by first | assumption | omega) (by omega) _ _ _ hP hD hS (lv_sub hl [0, 1, 2] rfl)
  have hfx_7 : (s0 : Nat → Int32) = revI s0 5 n 0 := (revI_0 _ _ _).symm
  have hP : va_P G.1 vwCl [(m0, .inr (6, [.int (nI (0)), .ref ms, .ref mv, .int (nI (mSM sm)), .ref mt, .int (nI (ln)), .ref mh, .ref mb, .ref mg, .ref mq, .ref ml, .ref mf, .int nw, .int fw, .int (nI (tp)), .int (bI (wr)), .long dg])), (ms, .inl (G.2.1, 88, .inl (revI s0 5 n 0))), (mv, .inl (G.2.1, 528, .inl (mSV sv sm s0))), (mt, .inl (G.2.1, 60, .inl tx)), (mh, .inl (G.2.1, 21, .inl ht)), (mb, .inl (G.2.1, 21, .inl bu)), (mg, .inl (G.2.1, 21, .inl hg)), (mq, .inl (G.2.1, 21, .inl pq)), (ml, .inl (G.2.1, 21, .inl ld)), (mf, .inl (G.2.1, 20, .inl fo))] H := by rw [← hfx_7]; exact hP
  have hD : va_D A [(m0, .inr (6, [.int (nI (0)), .ref ms, .ref mv, .int (nI (mSM sm)), .ref mt, .int (nI (ln)), .ref mh, .ref mb, .ref mg, .ref mq, .ref ml, .ref mf, .int nw, .int fw, .int (nI (tp)), .int (bI (wr)), .long dg])), (ms, .inl (G.2.1, 88, .inl (revI s0 5 n 0))), (mv, .inl (G.2.1, 528, .inl (mSV sv sm s0))), (mt, .inl (G.2.1, 60, .inl tx)), (mh, .inl (G.2.1, 21, .inl ht)), (mb, .inl (G.2.1, 21, .inl bu)), (mg, .inl (G.2.1, 21, .inl hg)), (mq, .inl (G.2.1, 21, .inl pq)), (ml, .inl (G.2.1, 21, .inl ld)), (mf, .inl (G.2.1, 20, .inl fo))] := by rw [← hfx_7]; exact hD
  exact L18 (n - 0 + 1) 0 (by first | assumption | omega) (Nat.lt_succ_self _) _ _ _ hP hD hS (lv_sub hl [0, 1, 2] rfl)
set_option maxHeartbeats 4000000 in
set_option maxRecDepth 100000 in
theorem c_X6_putsAt_1 (l : Launch) (G : kG) (m0 : Nat) (ms : Nat) (mv : Nat) (mt : Nat) (mh : Nat) (mb : Nat) (mg : Nat) (mq : Nat) (ml : Nat) (mf : Nat) (th : Nat) (s0 : Fn) (sv : Fn) (sm : Nat) (tx : Fn) (ln : Nat) (ht : Fn) (bu : Fn) (hg : Fn) (pq : Fn) (ld : Fn) (fo : Fn) (nw : Int32) (fw : Int32) (tp : Nat) (wr : Bool) (dg : Int64) (row : Nat) (k : Int32) (v : Int32) (n : Nat) (sz : Nat) (hok : mOK s0 n) (hrow : row ≤ 67) (h1 : isN k (n + 1) = false) : kMet l yX6_putsAt wsX6_putsAt ({ frames := 2, cells := 0, slots := 0, locals := 44 } : Room) G [.ref m0, .int (nI (row)), .int k, .int v] [(m0, .inr (6, [.int (nI (th)), .ref ms, .ref mv, .int (nI (sm)), .ref mt, .int (nI (ln)), .ref mh, .ref mb, .ref mg, .ref mq, .ref ml, .ref mf, .int nw, .int fw, .int (nI (tp)), .int (bI (wr)), .long dg])), (ms, .inl (G.2.1, 88, .inl s0)), (mv, .inl (G.2.1, 528, .inl sv)), (mt, .inl (G.2.1, 60, .inl tx)), (mh, .inl (G.2.1, 21, .inl ht)), (mb, .inl (G.2.1, 21, .inl bu)), (mg, .inl (G.2.1, 21, .inl hg)), (mq, .inl (G.2.1, 21, .inl pq)), (ml, .inl (G.2.1, 21, .inl ld)), (mf, .inl (G.2.1, 20, .inl fo))] sz (kQi G (fun (r : Int32) (u : Unit) => r = 0) (fun (u : Unit) => [(m0, .inr (6, [.int (nI 1), .ref ms, .ref mv, .int (nI (sm)), .ref mt, .int (nI (ln)), .ref mh, .ref mb, .ref mg, .ref mq, .ref ml, .ref mf, .int nw, .int fw, .int (nI (tp)), .int (bI (wr)), .long dg])), (ms, .inl (G.2.1, 88, .inl s0)), (mv, .inl (G.2.1, 528, .inl sv)), (mt, .inl (G.2.1, 60, .inl tx)), (mh, .inl (G.2.1, 21, .inl ht)), (mb, .inl (G.2.1, 21, .inl bu)), (mg, .inl (G.2.1, 21, .inl hg)), (mq, .inl (G.2.1, 21, .inl pq)), (ml, .inl (G.2.1, 21, .inl ld)), (mf, .inl (G.2.1, 20, .inl fo))])) 0 0 := by
  refine k_entry (cc := cX6_putsAt) (maxL := 4) (ret := (some .int)) (by decide) rfl (Nat.le_of_ble_eq_true rfl) ?_
  intro p e s m args below meth c A ls H locs Q hQ hx hb hml hr hts hown hlocks hin hA hP hK hD hS hl
  have hown : s.vm.findClass RX6 = some m.cls := hown
  have hl : lv_has ls 4 [(0, .ref m0), (1, .int (nI (row))), (2, .int k), (3, .int v)] := hl
  obtain ⟨hs0, hn1, hn, hv⟩ := id hok
  refine lv_aload_n hx hb dX6_putsAt_0 rfl (lv_at hl 0 rfl) ?_
  refine lv_aload_n hx hb dX6_putsAt_1 rfl (lv_at hl 0 rfl) ?_
  refine lv_iload_n hx hb dX6_putsAt_2 rfl (lv_at hl 2 rfl) ?_
  refine k_ci (wr := []) [] rfl (by decide) [0, 1, 2, 3, 4, 5, 6, 7, 8, 9] rfl (by decide) hP hD hS hA (k_V (n := 1) (ci := 6) (As := [.int k]) (rest := [.ref m0]) (wc := [(m0, .inr (6, [.int (nI (th)), .ref ms, .ref mv, .int (nI (sm)), .ref mt, .int (nI (ln)), .ref mh, .ref mb, .ref mg, .ref mq, .ref ml, .ref mf, .int nw, .int fw, .int (nI (tp)), .int (bI (wr)), .long dg])), (ms, .inl (G.2.1, 88, .inl s0)), (mv, .inl (G.2.1, 528, .inl sv)), (mt, .inl (G.2.1, 60, .inl tx)), (mh, .inl (G.2.1, 21, .inl ht)), (mb, .inl (G.2.1, 21, .inl bu)), (mg, .inl (G.2.1, 21, .inl hg)), (mq, .inl (G.2.1, 21, .inl pq)), (ml, .inl (G.2.1, 21, .inl ld)), (mf, .inl (G.2.1, 20, .inl fo))]) hx hb hml hown hts hK hP hD hl (c_X6_isJoint l G m0 ms mv mt mh mb mg mq ml mf th s0 sv sm tx ln ht bu hg pq ld fo nw fw tp wr dg k n H.size (by first | assumption | omega)) [0, 1, 2, 3, 4, 5, 6, 7, 8, 9] rfl (by decide) gX6_putsAt_X6_isJoint rfl rfl rfl (by decide +kernel) rfl ⟨Nat.le_of_ble_eq_true rfl, Nat.le_of_ble_eq_true rfl⟩ rfl rfl rfl (Nat.le_of_ble_eq_true rfl) dX6_putsAt_3 ⟨Nat.le_of_ble_eq_true rfl, Nat.le_of_ble_eq_true rfl⟩) (fun r_3 u H locs hw hP hD hS => ?_)
  have hw_3 : r_3 = bI (isN k (n + 1)) := hw
  have hP : va_P G.1 vwCl [(m0, .inr (6, [.int (nI (th)), .ref ms, .ref mv, .int (nI (sm)), .ref mt, .int (nI (ln)), .ref mh, .ref mb, .ref mg, .ref mq, .ref ml, .ref mf, .int nw, .int fw, .int (nI (tp)), .int (bI (wr)), .long dg])), (ms, .inl (G.2.1, 88, .inl s0)), (mv, .inl (G.2.1, 528, .inl sv)), (mt, .inl (G.2.1, 60, .inl tx)), (mh, .inl (G.2.1, 21, .inl ht)), (mb, .inl (G.2.1, 21, .inl bu)), (mg, .inl (G.2.1, 21, .inl hg)), (mq, .inl (G.2.1, 21, .inl pq)), (ml, .inl (G.2.1, 21, .inl ld)), (mf, .inl (G.2.1, 20, .inl fo))] H := hP
  have hD : va_D A [(m0, .inr (6, [.int (nI (th)), .ref ms, .ref mv, .int (nI (sm)), .ref mt, .int (nI (ln)), .ref mh, .ref mb, .ref mg, .ref mq, .ref ml, .ref mf, .int nw, .int fw, .int (nI (tp)), .int (bI (wr)), .long dg])), (ms, .inl (G.2.1, 88, .inl s0)), (mv, .inl (G.2.1, 528, .inl sv)), (mt, .inl (G.2.1, 60, .inl tx)), (mh, .inl (G.2.1, 21, .inl ht)), (mb, .inl (G.2.1, 21, .inl bu)), (mg, .inl (G.2.1, 21, .inl hg)), (mq, .inl (G.2.1, 21, .inl pq)), (ml, .inl (G.2.1, 21, .inl ld)), (mf, .inl (G.2.1, 20, .inl fo))] := hD
  subst hw_3
  refine g_ti (y := nI 0) (by rw [h1]; rfl) ?_
  refine g_if_ne (a := 0) (tgt := 13) hx hb (by omega) dX6_putsAt_6 (by decide) (fun c_6 => ?_) (fun c_6 => ?_)
  · exact absurd c_6 (by decide)
  · skip
    refine lv_iconst (v := 1) hx hb dX6_putsAt_9 (by decide) ?_
    refine lv_goto (tgt := 28) hx hb dX6_putsAt_10 (by decide) ?_
    refine k_ci (wr := []) [] rfl (by decide) [0, 1, 2, 3, 4, 5, 6, 7, 8, 9] rfl (by decide) hP hD hS hA (k_V (n := 1) (ci := 6) (As := [.int 1]) (rest := []) (wc := [(m0, .inr (6, [.int (nI (th)), .ref ms, .ref mv, .int (nI (sm)), .ref mt, .int (nI (ln)), .ref mh, .ref mb, .ref mg, .ref mq, .ref ml, .ref mf, .int nw, .int fw, .int (nI (tp)), .int (bI (wr)), .long dg])), (ms, .inl (G.2.1, 88, .inl s0)), (mv, .inl (G.2.1, 528, .inl sv)), (mt, .inl (G.2.1, 60, .inl tx)), (mh, .inl (G.2.1, 21, .inl ht)), (mb, .inl (G.2.1, 21, .inl bu)), (mg, .inl (G.2.1, 21, .inl hg)), (mq, .inl (G.2.1, 21, .inl pq)), (ml, .inl (G.2.1, 21, .inl ld)), (mf, .inl (G.2.1, 20, .inl fo))]) hx hb hml hown hts hK hP hD hl (c_X6_holds l G m0 ms mv mt mh mb mg mq ml mf th s0 sv sm tx ln ht bu hg pq ld fo nw fw tp wr dg 1 H.size (by first | assumption | omega)) [0, 1, 2, 3, 4, 5, 6, 7, 8, 9] rfl (by decide) gX6_putsAt_X6_holds rfl rfl rfl (by decide +kernel) rfl ⟨Nat.le_of_ble_eq_true rfl, Nat.le_of_ble_eq_true rfl⟩ rfl rfl rfl (Nat.le_of_ble_eq_true rfl) dX6_putsAt_28 ⟨Nat.le_of_ble_eq_true rfl, Nat.le_of_ble_eq_true rfl⟩) (fun r_28 u H locs hw hP hD hS => ?_)
    have hw_28 : r_28 = bI (decide (1 = 0)) := hw
    have hP : va_P G.1 vwCl [(m0, .inr (6, [.int (nI (1)), .ref ms, .ref mv, .int (nI (sm)), .ref mt, .int (nI (ln)), .ref mh, .ref mb, .ref mg, .ref mq, .ref ml, .ref mf, .int nw, .int fw, .int (nI (tp)), .int (bI (wr)), .long dg])), (ms, .inl (G.2.1, 88, .inl s0)), (mv, .inl (G.2.1, 528, .inl sv)), (mt, .inl (G.2.1, 60, .inl tx)), (mh, .inl (G.2.1, 21, .inl ht)), (mb, .inl (G.2.1, 21, .inl bu)), (mg, .inl (G.2.1, 21, .inl hg)), (mq, .inl (G.2.1, 21, .inl pq)), (ml, .inl (G.2.1, 21, .inl ld)), (mf, .inl (G.2.1, 20, .inl fo))] H := hP
    have hD : va_D A [(m0, .inr (6, [.int (nI (1)), .ref ms, .ref mv, .int (nI (sm)), .ref mt, .int (nI (ln)), .ref mh, .ref mb, .ref mg, .ref mq, .ref ml, .ref mf, .int nw, .int fw, .int (nI (tp)), .int (bI (wr)), .long dg])), (ms, .inl (G.2.1, 88, .inl s0)), (mv, .inl (G.2.1, 528, .inl sv)), (mt, .inl (G.2.1, 60, .inl tx)), (mh, .inl (G.2.1, 21, .inl ht)), (mb, .inl (G.2.1, 21, .inl bu)), (mg, .inl (G.2.1, 21, .inl hg)), (mq, .inl (G.2.1, 21, .inl pq)), (ml, .inl (G.2.1, 21, .inl ld)), (mf, .inl (G.2.1, 20, .inl fo))] := hD
    subst hw_28
    refine g_ti (y := nI 0) (by rw [decide_eq_false (by decide)]; rfl) ?_
    refine g_if_eq (a := 0) (tgt := 45) hx hb (by omega) dX6_putsAt_31 (by decide) (fun c_31 => ?_) (fun c_31 => ?_)
    · skip
      refine lv_iconst (v := 0) hx hb dX6_putsAt_45 (by decide) ?_
      rw [hQ]
      exact k_iret (v := 0) () [0, 1, 2, 3, 4, 5, 6, 7, 8, 9] hx hb hr hlocks (rfl) hK hP hD hS rfl (by decide) dX6_putsAt_46
    · exact absurd c_31 (by decide)
set_option maxHeartbeats 4000000 in
set_option maxRecDepth 100000 in
theorem c_X6_putsAt_2 (l : Launch) (G : kG) (m0 : Nat) (ms : Nat) (mv : Nat) (mt : Nat) (mh : Nat) (mb : Nat) (mg : Nat) (mq : Nat) (ml : Nat) (mf : Nat) (th : Nat) (s0 : Fn) (sv : Fn) (sm : Nat) (tx : Fn) (ln : Nat) (ht : Fn) (bu : Fn) (hg : Fn) (pq : Fn) (ld : Fn) (fo : Fn) (nw : Int32) (fw : Int32) (tp : Nat) (wr : Bool) (dg : Int64) (row : Nat) (k : Int32) (v : Int32) (n : Nat) (sz : Nat) (hok : mOK s0 n) (hrow : row ≤ 67) (h1 : isN k (n + 1) = true) (h2 : ¬ (0 ≤ v ∧ v ≤ 99)) : kMet l yX6_putsAt wsX6_putsAt ({ frames := 2, cells := 0, slots := 0, locals := 44 } : Room) G [.ref m0, .int (nI (row)), .int k, .int v] [(m0, .inr (6, [.int (nI (th)), .ref ms, .ref mv, .int (nI (sm)), .ref mt, .int (nI (ln)), .ref mh, .ref mb, .ref mg, .ref mq, .ref ml, .ref mf, .int nw, .int fw, .int (nI (tp)), .int (bI (wr)), .long dg])), (ms, .inl (G.2.1, 88, .inl s0)), (mv, .inl (G.2.1, 528, .inl sv)), (mt, .inl (G.2.1, 60, .inl tx)), (mh, .inl (G.2.1, 21, .inl ht)), (mb, .inl (G.2.1, 21, .inl bu)), (mg, .inl (G.2.1, 21, .inl hg)), (mq, .inl (G.2.1, 21, .inl pq)), (ml, .inl (G.2.1, 21, .inl ld)), (mf, .inl (G.2.1, 20, .inl fo))] sz (kQi G (fun (r : Int32) (u : Unit) => r = 0) (fun (u : Unit) => [(m0, .inr (6, [.int (nI 2), .ref ms, .ref mv, .int (nI (sm)), .ref mt, .int (nI (ln)), .ref mh, .ref mb, .ref mg, .ref mq, .ref ml, .ref mf, .int nw, .int fw, .int (nI (tp)), .int (bI (wr)), .long dg])), (ms, .inl (G.2.1, 88, .inl s0)), (mv, .inl (G.2.1, 528, .inl sv)), (mt, .inl (G.2.1, 60, .inl tx)), (mh, .inl (G.2.1, 21, .inl ht)), (mb, .inl (G.2.1, 21, .inl bu)), (mg, .inl (G.2.1, 21, .inl hg)), (mq, .inl (G.2.1, 21, .inl pq)), (ml, .inl (G.2.1, 21, .inl ld)), (mf, .inl (G.2.1, 20, .inl fo))])) 0 0 := by
  refine k_entry (cc := cX6_putsAt) (maxL := 4) (ret := (some .int)) (by decide) rfl (Nat.le_of_ble_eq_true rfl) ?_
  intro p e s m args below meth c A ls H locs Q hQ hx hb hml hr hts hown hlocks hin hA hP hK hD hS hl
  have hown : s.vm.findClass RX6 = some m.cls := hown
  have hl : lv_has ls 4 [(0, .ref m0), (1, .int (nI (row))), (2, .int k), (3, .int v)] := hl
  obtain ⟨hs0, hn1, hn, hv⟩ := id hok
  refine lv_aload_n hx hb dX6_putsAt_0 rfl (lv_at hl 0 rfl) ?_
  refine lv_aload_n hx hb dX6_putsAt_1 rfl (lv_at hl 0 rfl) ?_
  refine lv_iload_n hx hb dX6_putsAt_2 rfl (lv_at hl 2 rfl) ?_
  refine k_ci (wr := []) [] rfl (by decide) [0, 1, 2, 3, 4, 5, 6, 7, 8, 9] rfl (by decide) hP hD hS hA (k_V (n := 1) (ci := 6) (As := [.int k]) (rest := [.ref m0]) (wc := [(m0, .inr (6, [.int (nI (th)), .ref ms, .ref mv, .int (nI (sm)), .ref mt, .int (nI (ln)), .ref mh, .ref mb, .ref mg, .ref mq, .ref ml, .ref mf, .int nw, .int fw, .int (nI (tp)), .int (bI (wr)), .long dg])), (ms, .inl (G.2.1, 88, .inl s0)), (mv, .inl (G.2.1, 528, .inl sv)), (mt, .inl (G.2.1, 60, .inl tx)), (mh, .inl (G.2.1, 21, .inl ht)), (mb, .inl (G.2.1, 21, .inl bu)), (mg, .inl (G.2.1, 21, .inl hg)), (mq, .inl (G.2.1, 21, .inl pq)), (ml, .inl (G.2.1, 21, .inl ld)), (mf, .inl (G.2.1, 20, .inl fo))]) hx hb hml hown hts hK hP hD hl (c_X6_isJoint l G m0 ms mv mt mh mb mg mq ml mf th s0 sv sm tx ln ht bu hg pq ld fo nw fw tp wr dg k n H.size (by first | assumption | omega)) [0, 1, 2, 3, 4, 5, 6, 7, 8, 9] rfl (by decide) gX6_putsAt_X6_isJoint rfl rfl rfl (by decide +kernel) rfl ⟨Nat.le_of_ble_eq_true rfl, Nat.le_of_ble_eq_true rfl⟩ rfl rfl rfl (Nat.le_of_ble_eq_true rfl) dX6_putsAt_3 ⟨Nat.le_of_ble_eq_true rfl, Nat.le_of_ble_eq_true rfl⟩) (fun r_3 u H locs hw hP hD hS => ?_)
  have hw_3 : r_3 = bI (isN k (n + 1)) := hw
  have hP : va_P G.1 vwCl [(m0, .inr (6, [.int (nI (th)), .ref ms, .ref mv, .int (nI (sm)), .ref mt, .int (nI (ln)), .ref mh, .ref mb, .ref mg, .ref mq, .ref ml, .ref mf, .int nw, .int fw, .int (nI (tp)), .int (bI (wr)), .long dg])), (ms, .inl (G.2.1, 88, .inl s0)), (mv, .inl (G.2.1, 528, .inl sv)), (mt, .inl (G.2.1, 60, .inl tx)), (mh, .inl (G.2.1, 21, .inl ht)), (mb, .inl (G.2.1, 21, .inl bu)), (mg, .inl (G.2.1, 21, .inl hg)), (mq, .inl (G.2.1, 21, .inl pq)), (ml, .inl (G.2.1, 21, .inl ld)), (mf, .inl (G.2.1, 20, .inl fo))] H := hP
  have hD : va_D A [(m0, .inr (6, [.int (nI (th)), .ref ms, .ref mv, .int (nI (sm)), .ref mt, .int (nI (ln)), .ref mh, .ref mb, .ref mg, .ref mq, .ref ml, .ref mf, .int nw, .int fw, .int (nI (tp)), .int (bI (wr)), .long dg])), (ms, .inl (G.2.1, 88, .inl s0)), (mv, .inl (G.2.1, 528, .inl sv)), (mt, .inl (G.2.1, 60, .inl tx)), (mh, .inl (G.2.1, 21, .inl ht)), (mb, .inl (G.2.1, 21, .inl bu)), (mg, .inl (G.2.1, 21, .inl hg)), (mq, .inl (G.2.1, 21, .inl pq)), (ml, .inl (G.2.1, 21, .inl ld)), (mf, .inl (G.2.1, 20, .inl fo))] := hD
  subst hw_3
  refine g_ti (y := nI 1) (by rw [h1]; rfl) ?_
  refine g_if_ne (a := 1) (tgt := 13) hx hb (by omega) dX6_putsAt_6 (by decide) (fun c_6 => ?_) (fun c_6 => ?_)
  · skip
    refine lv_iload_n hx hb dX6_putsAt_13 rfl (lv_at hl 3 rfl) ?_
    refine lv_iconst (v := 0) hx hb dX6_putsAt_14 (by decide) ?_
    refine lv_bipush (v := 99) hx hb dX6_putsAt_15 (by decide) ?_
    refine k_ci (wr := [(m0, .inr (6, [.int (nI (th)), .ref ms, .ref mv, .int (nI (sm)), .ref mt, .int (nI (ln)), .ref mh, .ref mb, .ref mg, .ref mq, .ref ml, .ref mf, .int nw, .int fw, .int (nI (tp)), .int (bI (wr)), .long dg])), (ms, .inl (G.2.1, 88, .inl s0)), (mv, .inl (G.2.1, 528, .inl sv)), (mt, .inl (G.2.1, 60, .inl tx)), (mh, .inl (G.2.1, 21, .inl ht)), (mb, .inl (G.2.1, 21, .inl bu)), (mg, .inl (G.2.1, 21, .inl hg)), (mq, .inl (G.2.1, 21, .inl pq)), (ml, .inl (G.2.1, 21, .inl ld)), (mf, .inl (G.2.1, 20, .inl fo))]) [0, 1, 2, 3, 4, 5, 6, 7, 8, 9] rfl (by decide) [] rfl (by decide) hP hD hS hA (k_S (n := 3) (As := [.int v, .int 0, .int 99]) (rest := [.ref m0]) (wc := []) hx hb hml hown hts hK hP hD hl (c_X6_in l G v 0 99 H.size) [] rfl (by decide) gX6_putsAt_X6_in rfl rfl rfl (by decide +kernel) rfl ⟨Nat.le_of_ble_eq_true rfl, Nat.le_of_ble_eq_true rfl⟩ rfl (Nat.le_of_ble_eq_true rfl) dX6_putsAt_17 ⟨Nat.le_of_ble_eq_true rfl, Nat.le_of_ble_eq_true rfl⟩) (fun r_17 u H locs hw hP hD hS => ?_)
    have hw_17 : r_17 = bI (decide (0 ≤ v ∧ v ≤ 99)) := hw
    have hP : va_P G.1 vwCl [(m0, .inr (6, [.int (nI (th)), .ref ms, .ref mv, .int (nI (sm)), .ref mt, .int (nI (ln)), .ref mh, .ref mb, .ref mg, .ref mq, .ref ml, .ref mf, .int nw, .int fw, .int (nI (tp)), .int (bI (wr)), .long dg])), (ms, .inl (G.2.1, 88, .inl s0)), (mv, .inl (G.2.1, 528, .inl sv)), (mt, .inl (G.2.1, 60, .inl tx)), (mh, .inl (G.2.1, 21, .inl ht)), (mb, .inl (G.2.1, 21, .inl bu)), (mg, .inl (G.2.1, 21, .inl hg)), (mq, .inl (G.2.1, 21, .inl pq)), (ml, .inl (G.2.1, 21, .inl ld)), (mf, .inl (G.2.1, 20, .inl fo))] H := hP
    have hD : va_D A [(m0, .inr (6, [.int (nI (th)), .ref ms, .ref mv, .int (nI (sm)), .ref mt, .int (nI (ln)), .ref mh, .ref mb, .ref mg, .ref mq, .ref ml, .ref mf, .int nw, .int fw, .int (nI (tp)), .int (bI (wr)), .long dg])), (ms, .inl (G.2.1, 88, .inl s0)), (mv, .inl (G.2.1, 528, .inl sv)), (mt, .inl (G.2.1, 60, .inl tx)), (mh, .inl (G.2.1, 21, .inl ht)), (mb, .inl (G.2.1, 21, .inl bu)), (mg, .inl (G.2.1, 21, .inl hg)), (mq, .inl (G.2.1, 21, .inl pq)), (ml, .inl (G.2.1, 21, .inl ld)), (mf, .inl (G.2.1, 20, .inl fo))] := hD
    subst hw_17
    refine g_ti (y := nI 0) (by rw [decide_eq_false h2]; rfl) ?_
    refine g_if_ne (a := 0) (tgt := 27) hx hb (by omega) dX6_putsAt_20 (by decide) (fun c_20 => ?_) (fun c_20 => ?_)
    · exact absurd c_20 (by decide)
    · skip
      refine lv_iconst (v := 2) hx hb dX6_putsAt_23 (by decide) ?_
      refine lv_goto (tgt := 28) hx hb dX6_putsAt_24 (by decide) ?_
      refine k_ci (wr := []) [] rfl (by decide) [0, 1, 2, 3, 4, 5, 6, 7, 8, 9] rfl (by decide) hP hD hS hA (k_V (n := 1) (ci := 6) (As := [.int 2]) (rest := []) (wc := [(m0, .inr (6, [.int (nI (th)), .ref ms, .ref mv, .int (nI (sm)), .ref mt, .int (nI (ln)), .ref mh, .ref mb, .ref mg, .ref mq, .ref ml, .ref mf, .int nw, .int fw, .int (nI (tp)), .int (bI (wr)), .long dg])), (ms, .inl (G.2.1, 88, .inl s0)), (mv, .inl (G.2.1, 528, .inl sv)), (mt, .inl (G.2.1, 60, .inl tx)), (mh, .inl (G.2.1, 21, .inl ht)), (mb, .inl (G.2.1, 21, .inl bu)), (mg, .inl (G.2.1, 21, .inl hg)), (mq, .inl (G.2.1, 21, .inl pq)), (ml, .inl (G.2.1, 21, .inl ld)), (mf, .inl (G.2.1, 20, .inl fo))]) hx hb hml hown hts hK hP hD hl (c_X6_holds l G m0 ms mv mt mh mb mg mq ml mf th s0 sv sm tx ln ht bu hg pq ld fo nw fw tp wr dg 2 H.size (by first | assumption | omega)) [0, 1, 2, 3, 4, 5, 6, 7, 8, 9] rfl (by decide) gX6_putsAt_X6_holds rfl rfl rfl (by decide +kernel) rfl ⟨Nat.le_of_ble_eq_true rfl, Nat.le_of_ble_eq_true rfl⟩ rfl rfl rfl (Nat.le_of_ble_eq_true rfl) dX6_putsAt_28 ⟨Nat.le_of_ble_eq_true rfl, Nat.le_of_ble_eq_true rfl⟩) (fun r_28 u H locs hw hP hD hS => ?_)
      have hw_28 : r_28 = bI (decide (2 = 0)) := hw
      have hP : va_P G.1 vwCl [(m0, .inr (6, [.int (nI (2)), .ref ms, .ref mv, .int (nI (sm)), .ref mt, .int (nI (ln)), .ref mh, .ref mb, .ref mg, .ref mq, .ref ml, .ref mf, .int nw, .int fw, .int (nI (tp)), .int (bI (wr)), .long dg])), (ms, .inl (G.2.1, 88, .inl s0)), (mv, .inl (G.2.1, 528, .inl sv)), (mt, .inl (G.2.1, 60, .inl tx)), (mh, .inl (G.2.1, 21, .inl ht)), (mb, .inl (G.2.1, 21, .inl bu)), (mg, .inl (G.2.1, 21, .inl hg)), (mq, .inl (G.2.1, 21, .inl pq)), (ml, .inl (G.2.1, 21, .inl ld)), (mf, .inl (G.2.1, 20, .inl fo))] H := hP
      have hD : va_D A [(m0, .inr (6, [.int (nI (2)), .ref ms, .ref mv, .int (nI (sm)), .ref mt, .int (nI (ln)), .ref mh, .ref mb, .ref mg, .ref mq, .ref ml, .ref mf, .int nw, .int fw, .int (nI (tp)), .int (bI (wr)), .long dg])), (ms, .inl (G.2.1, 88, .inl s0)), (mv, .inl (G.2.1, 528, .inl sv)), (mt, .inl (G.2.1, 60, .inl tx)), (mh, .inl (G.2.1, 21, .inl ht)), (mb, .inl (G.2.1, 21, .inl bu)), (mg, .inl (G.2.1, 21, .inl hg)), (mq, .inl (G.2.1, 21, .inl pq)), (ml, .inl (G.2.1, 21, .inl ld)), (mf, .inl (G.2.1, 20, .inl fo))] := hD
      subst hw_28
      refine g_ti (y := nI 0) (by rw [decide_eq_false (by decide)]; rfl) ?_
      refine g_if_eq (a := 0) (tgt := 45) hx hb (by omega) dX6_putsAt_31 (by decide) (fun c_31 => ?_) (fun c_31 => ?_)
      · skip
        refine lv_iconst (v := 0) hx hb dX6_putsAt_45 (by decide) ?_
        rw [hQ]
        exact k_iret (v := 0) () [0, 1, 2, 3, 4, 5, 6, 7, 8, 9] hx hb hr hlocks (rfl) hK hP hD hS rfl (by decide) dX6_putsAt_46
      · exact absurd c_31 (by decide)
  · exact absurd c_6 (by decide)
set_option maxHeartbeats 4000000 in
set_option maxRecDepth 100000 in
theorem c_X6_putsAt_0 (l : Launch) (G : kG) (m0 : Nat) (ms : Nat) (mv : Nat) (mt : Nat) (mh : Nat) (mb : Nat) (mg : Nat) (mq : Nat) (ml : Nat) (mf : Nat) (th : Nat) (s0 : Fn) (sv : Fn) (sm : Nat) (tx : Fn) (ln : Nat) (ht : Fn) (bu : Fn) (hg : Fn) (pq : Fn) (ld : Fn) (fo : Fn) (nw : Int32) (fw : Int32) (tp : Nat) (wr : Bool) (dg : Int64) (row : Nat) (j : Nat) (v : Int32) (n : Nat) (sz : Nat) (hok : mOK s0 n) (hrow : row ≤ 67) (hsm : sm ≤ 6) (hj : j ≤ n) (h2 : 0 ≤ v ∧ v ≤ 99) : kMet l yX6_putsAt wsX6_putsAt ({ frames := 2, cells := 0, slots := 0, locals := 44 } : Room) G [.ref m0, .int (nI (row)), .int (nI (j)), .int v] [(m0, .inr (6, [.int (nI (th)), .ref ms, .ref mv, .int (nI (sm)), .ref mt, .int (nI (ln)), .ref mh, .ref mb, .ref mg, .ref mq, .ref ml, .ref mf, .int nw, .int fw, .int (nI (tp)), .int (bI (wr)), .long dg])), (ms, .inl (G.2.1, 88, .inl s0)), (mv, .inl (G.2.1, 528, .inl sv)), (mt, .inl (G.2.1, 60, .inl tx)), (mh, .inl (G.2.1, 21, .inl ht)), (mb, .inl (G.2.1, 21, .inl bu)), (mg, .inl (G.2.1, 21, .inl hg)), (mq, .inl (G.2.1, 21, .inl pq)), (ml, .inl (G.2.1, 21, .inl ld)), (mf, .inl (G.2.1, 20, .inl fo))] sz (kQi G (fun (r : Int32) (u : Unit) => r = s0 (row + j)) (fun (u : Unit) => [(m0, .inr (6, [.int (nI 0), .ref ms, .ref mv, .int (nI (mSM sm)), .ref mt, .int (nI (ln)), .ref mh, .ref mb, .ref mg, .ref mq, .ref ml, .ref mf, .int nw, .int fw, .int (nI (tp)), .int (bI (wr)), .long dg])), (ms, .inl (G.2.1, 88, .inl (upd s0 (row + j) v))), (mv, .inl (G.2.1, 528, .inl (mSV sv sm s0))), (mt, .inl (G.2.1, 60, .inl tx)), (mh, .inl (G.2.1, 21, .inl ht)), (mb, .inl (G.2.1, 21, .inl bu)), (mg, .inl (G.2.1, 21, .inl hg)), (mq, .inl (G.2.1, 21, .inl pq)), (ml, .inl (G.2.1, 21, .inl ld)), (mf, .inl (G.2.1, 20, .inl fo))])) 0 0 := by
  refine k_entry (cc := cX6_putsAt) (maxL := 4) (ret := (some .int)) (by decide) rfl (Nat.le_of_ble_eq_true rfl) ?_
  intro p e s m args below meth c A ls H locs Q hQ hx hb hml hr hts hown hlocks hin hA hP hK hD hS hl
  have hown : s.vm.findClass RX6 = some m.cls := hown
  have hl : lv_has ls 4 [(0, .ref m0), (1, .int (nI (row))), (2, .int (nI (j))), (3, .int v)] := hl
  obtain ⟨hs0, hn1, hn, hv⟩ := id hok
  refine lv_aload_n hx hb dX6_putsAt_0 rfl (lv_at hl 0 rfl) ?_
  refine lv_aload_n hx hb dX6_putsAt_1 rfl (lv_at hl 0 rfl) ?_
  refine lv_iload_n hx hb dX6_putsAt_2 rfl (lv_at hl 2 rfl) ?_
  refine k_ci (wr := []) [] rfl (by decide) [0, 1, 2, 3, 4, 5, 6, 7, 8, 9] rfl (by decide) hP hD hS hA (k_V (n := 1) (ci := 6) (As := [.int (nI (j))]) (rest := [.ref m0]) (wc := [(m0, .inr (6, [.int (nI (th)), .ref ms, .ref mv, .int (nI (sm)), .ref mt, .int (nI (ln)), .ref mh, .ref mb, .ref mg, .ref mq, .ref ml, .ref mf, .int nw, .int fw, .int (nI (tp)), .int (bI (wr)), .long dg])), (ms, .inl (G.2.1, 88, .inl s0)), (mv, .inl (G.2.1, 528, .inl sv)), (mt, .inl (G.2.1, 60, .inl tx)), (mh, .inl (G.2.1, 21, .inl ht)), (mb, .inl (G.2.1, 21, .inl bu)), (mg, .inl (G.2.1, 21, .inl hg)), (mq, .inl (G.2.1, 21, .inl pq)), (ml, .inl (G.2.1, 21, .inl ld)), (mf, .inl (G.2.1, 20, .inl fo))]) hx hb hml hown hts hK hP hD hl (c_X6_isJoint l G m0 ms mv mt mh mb mg mq ml mf th s0 sv sm tx ln ht bu hg pq ld fo nw fw tp wr dg (nI (j)) n H.size (by first | assumption | omega)) [0, 1, 2, 3, 4, 5, 6, 7, 8, 9] rfl (by decide) gX6_putsAt_X6_isJoint rfl rfl rfl (by decide +kernel) rfl ⟨Nat.le_of_ble_eq_true rfl, Nat.le_of_ble_eq_true rfl⟩ rfl rfl rfl (Nat.le_of_ble_eq_true rfl) dX6_putsAt_3 ⟨Nat.le_of_ble_eq_true rfl, Nat.le_of_ble_eq_true rfl⟩) (fun r_3 u H locs hw hP hD hS => ?_)
  have hw_3 : r_3 = bI (isN (nI (j)) (n + 1)) := hw
  have hP : va_P G.1 vwCl [(m0, .inr (6, [.int (nI (th)), .ref ms, .ref mv, .int (nI (sm)), .ref mt, .int (nI (ln)), .ref mh, .ref mb, .ref mg, .ref mq, .ref ml, .ref mf, .int nw, .int fw, .int (nI (tp)), .int (bI (wr)), .long dg])), (ms, .inl (G.2.1, 88, .inl s0)), (mv, .inl (G.2.1, 528, .inl sv)), (mt, .inl (G.2.1, 60, .inl tx)), (mh, .inl (G.2.1, 21, .inl ht)), (mb, .inl (G.2.1, 21, .inl bu)), (mg, .inl (G.2.1, 21, .inl hg)), (mq, .inl (G.2.1, 21, .inl pq)), (ml, .inl (G.2.1, 21, .inl ld)), (mf, .inl (G.2.1, 20, .inl fo))] H := hP
  have hD : va_D A [(m0, .inr (6, [.int (nI (th)), .ref ms, .ref mv, .int (nI (sm)), .ref mt, .int (nI (ln)), .ref mh, .ref mb, .ref mg, .ref mq, .ref ml, .ref mf, .int nw, .int fw, .int (nI (tp)), .int (bI (wr)), .long dg])), (ms, .inl (G.2.1, 88, .inl s0)), (mv, .inl (G.2.1, 528, .inl sv)), (mt, .inl (G.2.1, 60, .inl tx)), (mh, .inl (G.2.1, 21, .inl ht)), (mb, .inl (G.2.1, 21, .inl bu)), (mg, .inl (G.2.1, 21, .inl hg)), (mq, .inl (G.2.1, 21, .inl pq)), (ml, .inl (G.2.1, 21, .inl ld)), (mf, .inl (G.2.1, 20, .inl fo))] := hD
  subst hw_3
  refine g_ti (y := nI 1) (by rw [isN_nI (by omega), decide_eq_true (by omega)]; rfl) ?_
  refine g_if_ne (a := 1) (tgt := 13) hx hb (by omega) dX6_putsAt_6 (by decide) (fun c_6 => ?_) (fun c_6 => ?_)
  · skip
    refine lv_iload_n hx hb dX6_putsAt_13 rfl (lv_at hl 3 rfl) ?_
    refine lv_iconst (v := 0) hx hb dX6_putsAt_14 (by decide) ?_
    refine lv_bipush (v := 99) hx hb dX6_putsAt_15 (by decide) ?_
    refine k_ci (wr := [(m0, .inr (6, [.int (nI (th)), .ref ms, .ref mv, .int (nI (sm)), .ref mt, .int (nI (ln)), .ref mh, .ref mb, .ref mg, .ref mq, .ref ml, .ref mf, .int nw, .int fw, .int (nI (tp)), .int (bI (wr)), .long dg])), (ms, .inl (G.2.1, 88, .inl s0)), (mv, .inl (G.2.1, 528, .inl sv)), (mt, .inl (G.2.1, 60, .inl tx)), (mh, .inl (G.2.1, 21, .inl ht)), (mb, .inl (G.2.1, 21, .inl bu)), (mg, .inl (G.2.1, 21, .inl hg)), (mq, .inl (G.2.1, 21, .inl pq)), (ml, .inl (G.2.1, 21, .inl ld)), (mf, .inl (G.2.1, 20, .inl fo))]) [0, 1, 2, 3, 4, 5, 6, 7, 8, 9] rfl (by decide) [] rfl (by decide) hP hD hS hA (k_S (n := 3) (As := [.int v, .int 0, .int 99]) (rest := [.ref m0]) (wc := []) hx hb hml hown hts hK hP hD hl (c_X6_in l G v 0 99 H.size) [] rfl (by decide) gX6_putsAt_X6_in rfl rfl rfl (by decide +kernel) rfl ⟨Nat.le_of_ble_eq_true rfl, Nat.le_of_ble_eq_true rfl⟩ rfl (Nat.le_of_ble_eq_true rfl) dX6_putsAt_17 ⟨Nat.le_of_ble_eq_true rfl, Nat.le_of_ble_eq_true rfl⟩) (fun r_17 u H locs hw hP hD hS => ?_)
    have hw_17 : r_17 = bI (decide (0 ≤ v ∧ v ≤ 99)) := hw
    have hP : va_P G.1 vwCl [(m0, .inr (6, [.int (nI (th)), .ref ms, .ref mv, .int (nI (sm)), .ref mt, .int (nI (ln)), .ref mh, .ref mb, .ref mg, .ref mq, .ref ml, .ref mf, .int nw, .int fw, .int (nI (tp)), .int (bI (wr)), .long dg])), (ms, .inl (G.2.1, 88, .inl s0)), (mv, .inl (G.2.1, 528, .inl sv)), (mt, .inl (G.2.1, 60, .inl tx)), (mh, .inl (G.2.1, 21, .inl ht)), (mb, .inl (G.2.1, 21, .inl bu)), (mg, .inl (G.2.1, 21, .inl hg)), (mq, .inl (G.2.1, 21, .inl pq)), (ml, .inl (G.2.1, 21, .inl ld)), (mf, .inl (G.2.1, 20, .inl fo))] H := hP
    have hD : va_D A [(m0, .inr (6, [.int (nI (th)), .ref ms, .ref mv, .int (nI (sm)), .ref mt, .int (nI (ln)), .ref mh, .ref mb, .ref mg, .ref mq, .ref ml, .ref mf, .int nw, .int fw, .int (nI (tp)), .int (bI (wr)), .long dg])), (ms, .inl (G.2.1, 88, .inl s0)), (mv, .inl (G.2.1, 528, .inl sv)), (mt, .inl (G.2.1, 60, .inl tx)), (mh, .inl (G.2.1, 21, .inl ht)), (mb, .inl (G.2.1, 21, .inl bu)), (mg, .inl (G.2.1, 21, .inl hg)), (mq, .inl (G.2.1, 21, .inl pq)), (ml, .inl (G.2.1, 21, .inl ld)), (mf, .inl (G.2.1, 20, .inl fo))] := hD
    subst hw_17
    refine g_ti (y := nI 1) (by rw [decide_eq_true h2]; rfl) ?_
    refine g_if_ne (a := 1) (tgt := 27) hx hb (by omega) dX6_putsAt_20 (by decide) (fun c_20 => ?_) (fun c_20 => ?_)
    · skip
      refine lv_iconst (v := 0) hx hb dX6_putsAt_27 (by decide) ?_
      refine k_ci (wr := []) [] rfl (by decide) [0, 1, 2, 3, 4, 5, 6, 7, 8, 9] rfl (by decide) hP hD hS hA (k_V (n := 1) (ci := 6) (As := [.int 0]) (rest := []) (wc := [(m0, .inr (6, [.int (nI (th)), .ref ms, .ref mv, .int (nI (sm)), .ref mt, .int (nI (ln)), .ref mh, .ref mb, .ref mg, .ref mq, .ref ml, .ref mf, .int nw, .int fw, .int (nI (tp)), .int (bI (wr)), .long dg])), (ms, .inl (G.2.1, 88, .inl s0)), (mv, .inl (G.2.1, 528, .inl sv)), (mt, .inl (G.2.1, 60, .inl tx)), (mh, .inl (G.2.1, 21, .inl ht)), (mb, .inl (G.2.1, 21, .inl bu)), (mg, .inl (G.2.1, 21, .inl hg)), (mq, .inl (G.2.1, 21, .inl pq)), (ml, .inl (G.2.1, 21, .inl ld)), (mf, .inl (G.2.1, 20, .inl fo))]) hx hb hml hown hts hK hP hD hl (c_X6_holds l G m0 ms mv mt mh mb mg mq ml mf th s0 sv sm tx ln ht bu hg pq ld fo nw fw tp wr dg 0 H.size (by first | assumption | omega)) [0, 1, 2, 3, 4, 5, 6, 7, 8, 9] rfl (by decide) gX6_putsAt_X6_holds rfl rfl rfl (by decide +kernel) rfl ⟨Nat.le_of_ble_eq_true rfl, Nat.le_of_ble_eq_true rfl⟩ rfl rfl rfl (Nat.le_of_ble_eq_true rfl) dX6_putsAt_28 ⟨Nat.le_of_ble_eq_true rfl, Nat.le_of_ble_eq_true rfl⟩) (fun r_28 u H locs hw hP hD hS => ?_)
      have hw_28 : r_28 = bI (decide (0 = 0)) := hw
      have hP : va_P G.1 vwCl [(m0, .inr (6, [.int (nI (0)), .ref ms, .ref mv, .int (nI (sm)), .ref mt, .int (nI (ln)), .ref mh, .ref mb, .ref mg, .ref mq, .ref ml, .ref mf, .int nw, .int fw, .int (nI (tp)), .int (bI (wr)), .long dg])), (ms, .inl (G.2.1, 88, .inl s0)), (mv, .inl (G.2.1, 528, .inl sv)), (mt, .inl (G.2.1, 60, .inl tx)), (mh, .inl (G.2.1, 21, .inl ht)), (mb, .inl (G.2.1, 21, .inl bu)), (mg, .inl (G.2.1, 21, .inl hg)), (mq, .inl (G.2.1, 21, .inl pq)), (ml, .inl (G.2.1, 21, .inl ld)), (mf, .inl (G.2.1, 20, .inl fo))] H := hP
      have hD : va_D A [(m0, .inr (6, [.int (nI (0)), .ref ms, .ref mv, .int (nI (sm)), .ref mt, .int (nI (ln)), .ref mh, .ref mb, .ref mg, .ref mq, .ref ml, .ref mf, .int nw, .int fw, .int (nI (tp)), .int (bI (wr)), .long dg])), (ms, .inl (G.2.1, 88, .inl s0)), (mv, .inl (G.2.1, 528, .inl sv)), (mt, .inl (G.2.1, 60, .inl tx)), (mh, .inl (G.2.1, 21, .inl ht)), (mb, .inl (G.2.1, 21, .inl bu)), (mg, .inl (G.2.1, 21, .inl hg)), (mq, .inl (G.2.1, 21, .inl pq)), (ml, .inl (G.2.1, 21, .inl ld)), (mf, .inl (G.2.1, 20, .inl fo))] := hD
      subst hw_28
      refine g_ti (y := nI 1) (by rw [decide_eq_true (show (0 : Nat) = 0 from rfl)]; rfl) ?_
      refine g_if_eq (a := 1) (tgt := 45) hx hb (by omega) dX6_putsAt_31 (by decide) (fun c_31 => ?_) (fun c_31 => ?_)
      · exact absurd c_31 (by decide)
      · skip
        refine lv_aload_n hx hb dX6_putsAt_34 rfl (lv_at hl 0 rfl) ?_
        refine lv_iload_n hx hb dX6_putsAt_35 rfl (lv_at hl 1 rfl) ?_
        refine lv_iload_n hx hb dX6_putsAt_36 rfl (lv_at hl 2 rfl) ?_
        refine lv_iadd hx hb dX6_putsAt_37 ?_
        refine g_ti (y := nI (row + j)) (nI_add (row) (j)) ?_
        refine lv_iload_n hx hb dX6_putsAt_38 rfl (lv_at hl 3 rfl) ?_
        refine k_ci (wr := []) [] rfl (by decide) [0, 1, 2, 3, 4, 5, 6, 7, 8, 9] rfl (by decide) hP hD hS hA (k_V (n := 2) (ci := 6) (As := [.int (nI (row + j)), .int v]) (rest := []) (wc := [(m0, .inr (6, [.int (nI (0)), .ref ms, .ref mv, .int (nI (sm)), .ref mt, .int (nI (ln)), .ref mh, .ref mb, .ref mg, .ref mq, .ref ml, .ref mf, .int nw, .int fw, .int (nI (tp)), .int (bI (wr)), .long dg])), (ms, .inl (G.2.1, 88, .inl s0)), (mv, .inl (G.2.1, 528, .inl sv)), (mt, .inl (G.2.1, 60, .inl tx)), (mh, .inl (G.2.1, 21, .inl ht)), (mb, .inl (G.2.1, 21, .inl bu)), (mg, .inl (G.2.1, 21, .inl hg)), (mq, .inl (G.2.1, 21, .inl pq)), (ml, .inl (G.2.1, 21, .inl ld)), (mf, .inl (G.2.1, 20, .inl fo))]) hx hb hml hown hts hK hP hD hl (c_X6_puts l G m0 ms mv mt mh mb mg mq ml mf 0 s0 sv sm tx ln ht bu hg pq ld fo nw fw tp wr dg (row + j) v H.size (by first | assumption | omega) (by first | assumption | omega)) [0, 1, 2, 3, 4, 5, 6, 7, 8, 9] rfl (by decide) gX6_putsAt_X6_puts rfl rfl rfl (by decide +kernel) rfl ⟨Nat.le_of_ble_eq_true rfl, Nat.le_of_ble_eq_true rfl⟩ rfl rfl rfl (Nat.le_of_ble_eq_true rfl) dX6_putsAt_39 ⟨Nat.le_of_ble_eq_true rfl, Nat.le_of_ble_eq_true rfl⟩) (fun r_39 u H locs hw hP hD hS => ?_)
        have hw_39 : r_39 = s0 (row + j) := hw
        have hP : va_P G.1 vwCl [(m0, .inr (6, [.int (nI (0)), .ref ms, .ref mv, .int (nI (mSM sm)), .ref mt, .int (nI (ln)), .ref mh, .ref mb, .ref mg, .ref mq, .ref ml, .ref mf, .int nw, .int fw, .int (nI (tp)), .int (bI (wr)), .long dg])), (ms, .inl (G.2.1, 88, .inl (upd s0 (row + j) v))), (mv, .inl (G.2.1, 528, .inl (mSV sv sm s0))), (mt, .inl (G.2.1, 60, .inl tx)), (mh, .inl (G.2.1, 21, .inl ht)), (mb, .inl (G.2.1, 21, .inl bu)), (mg, .inl (G.2.1, 21, .inl hg)), (mq, .inl (G.2.1, 21, .inl pq)), (ml, .inl (G.2.1, 21, .inl ld)), (mf, .inl (G.2.1, 20, .inl fo))] H := hP
        have hD : va_D A [(m0, .inr (6, [.int (nI (0)), .ref ms, .ref mv, .int (nI (mSM sm)), .ref mt, .int (nI (ln)), .ref mh, .ref mb, .ref mg, .ref mq, .ref ml, .ref mf, .int nw, .int fw, .int (nI (tp)), .int (bI (wr)), .long dg])), (ms, .inl (G.2.1, 88, .inl (upd s0 (row + j) v))), (mv, .inl (G.2.1, 528, .inl (mSV sv sm s0))), (mt, .inl (G.2.1, 60, .inl tx)), (mh, .inl (G.2.1, 21, .inl ht)), (mb, .inl (G.2.1, 21, .inl bu)), (mg, .inl (G.2.1, 21, .inl hg)), (mq, .inl (G.2.1, 21, .inl pq)), (ml, .inl (G.2.1, 21, .inl ld)), (mf, .inl (G.2.1, 20, .inl fo))] := hD
        subst hw_39
        refine lv_goto (tgt := 46) hx hb dX6_putsAt_42 (by decide) ?_
        rw [hQ]
        exact k_iret (v := s0 (row + j)) () [0, 1, 2, 3, 4, 5, 6, 7, 8, 9] hx hb hr hlocks (rfl) hK hP hD hS rfl (by decide) dX6_putsAt_46
    · exact absurd c_20 (by decide)
  · exact absurd c_6 (by decide)
set_option maxHeartbeats 4000000 in
set_option maxRecDepth 100000 in
theorem c_X6_weight_1 (l : Launch) (G : kG) (m0 : Nat) (ms : Nat) (mv : Nat) (mt : Nat) (mh : Nat) (mb : Nat) (mg : Nat) (mq : Nat) (ml : Nat) (mf : Nat) (th : Nat) (s0 : Fn) (sv : Fn) (sm : Nat) (tx : Fn) (ln : Nat) (ht : Fn) (bu : Fn) (hg : Fn) (pq : Fn) (ld : Fn) (fo : Fn) (nw : Int32) (fw : Int32) (tp : Nat) (wr : Bool) (dg : Int64) (k : Int32) (v : Int32) (n : Nat) (sz : Nat) (hok : mOK s0 n) (h1 : isN k (n + 1) = false) : kMet l yX6_weight wsX6_weight ({ frames := 3, cells := 0, slots := 0, locals := 67 } : Room) G [.ref m0, .int k, .int v] [(m0, .inr (6, [.int (nI (th)), .ref ms, .ref mv, .int (nI (sm)), .ref mt, .int (nI (ln)), .ref mh, .ref mb, .ref mg, .ref mq, .ref ml, .ref mf, .int nw, .int fw, .int (nI (tp)), .int (bI (wr)), .long dg])), (ms, .inl (G.2.1, 88, .inl s0)), (mv, .inl (G.2.1, 528, .inl sv)), (mt, .inl (G.2.1, 60, .inl tx)), (mh, .inl (G.2.1, 21, .inl ht)), (mb, .inl (G.2.1, 21, .inl bu)), (mg, .inl (G.2.1, 21, .inl hg)), (mq, .inl (G.2.1, 21, .inl pq)), (ml, .inl (G.2.1, 21, .inl ld)), (mf, .inl (G.2.1, 20, .inl fo))] sz (kQi G (fun (r : Int32) (u : Unit) => r = 0) (fun (u : Unit) => [(m0, .inr (6, [.int (nI 1), .ref ms, .ref mv, .int (nI (sm)), .ref mt, .int (nI (ln)), .ref mh, .ref mb, .ref mg, .ref mq, .ref ml, .ref mf, .int nw, .int fw, .int (nI (tp)), .int (bI (wr)), .long dg])), (ms, .inl (G.2.1, 88, .inl s0)), (mv, .inl (G.2.1, 528, .inl sv)), (mt, .inl (G.2.1, 60, .inl tx)), (mh, .inl (G.2.1, 21, .inl ht)), (mb, .inl (G.2.1, 21, .inl bu)), (mg, .inl (G.2.1, 21, .inl hg)), (mq, .inl (G.2.1, 21, .inl pq)), (ml, .inl (G.2.1, 21, .inl ld)), (mf, .inl (G.2.1, 20, .inl fo))])) 0 0 := by
  refine k_entry (cc := cX6_weight) (maxL := 3) (ret := (some .int)) (by decide) rfl (Nat.le_of_ble_eq_true rfl) ?_
  intro p e s m args below meth c A ls H locs Q hQ hx hb hml hr hts hown hlocks hin hA hP hK hD hS hl
  have hown : s.vm.findClass RX6 = some m.cls := hown
  have hl : lv_has ls 3 [(0, .ref m0), (1, .int k), (2, .int v)] := hl
  obtain ⟨hs0, hn1, hn, hv⟩ := id hok
  refine lv_aload_n hx hb dX6_weight_0 rfl (lv_at hl 0 rfl) ?_
  refine lv_bipush (v := 25) hx hb dX6_weight_1 (by decide) ?_
  refine lv_iload_n hx hb dX6_weight_3 rfl (lv_at hl 1 rfl) ?_
  refine lv_iload_n hx hb dX6_weight_4 rfl (lv_at hl 2 rfl) ?_
  refine k_ci (wr := []) [] rfl (by decide) [0, 1, 2, 3, 4, 5, 6, 7, 8, 9] rfl (by decide) hP hD hS hA (k_V (n := 3) (ci := 6) (As := [.int 25, .int k, .int v]) (rest := []) (wc := [(m0, .inr (6, [.int (nI (th)), .ref ms, .ref mv, .int (nI (sm)), .ref mt, .int (nI (ln)), .ref mh, .ref mb, .ref mg, .ref mq, .ref ml, .ref mf, .int nw, .int fw, .int (nI (tp)), .int (bI (wr)), .long dg])), (ms, .inl (G.2.1, 88, .inl s0)), (mv, .inl (G.2.1, 528, .inl sv)), (mt, .inl (G.2.1, 60, .inl tx)), (mh, .inl (G.2.1, 21, .inl ht)), (mb, .inl (G.2.1, 21, .inl bu)), (mg, .inl (G.2.1, 21, .inl hg)), (mq, .inl (G.2.1, 21, .inl pq)), (ml, .inl (G.2.1, 21, .inl ld)), (mf, .inl (G.2.1, 20, .inl fo))]) hx hb hml hown hts hK hP hD hl (c_X6_putsAt_1 l G m0 ms mv mt mh mb mg mq ml mf th s0 sv sm tx ln ht bu hg pq ld fo nw fw tp wr dg 25 k v n H.size (by first | assumption | omega) (by first | assumption | omega) (by first | assumption | omega)) [0, 1, 2, 3, 4, 5, 6, 7, 8, 9] rfl (by decide) gX6_weight_X6_putsAt rfl rfl rfl (by decide +kernel) rfl ⟨Nat.le_of_ble_eq_true rfl, Nat.le_of_ble_eq_true rfl⟩ rfl rfl rfl (Nat.le_of_ble_eq_true rfl) dX6_weight_5 ⟨Nat.le_of_ble_eq_true rfl, Nat.le_of_ble_eq_true rfl⟩) (fun r_5 u H locs hw hP hD hS => ?_)
  have hw_5 : r_5 = 0 := hw
  have hP : va_P G.1 vwCl [(m0, .inr (6, [.int (nI 1), .ref ms, .ref mv, .int (nI (sm)), .ref mt, .int (nI (ln)), .ref mh, .ref mb, .ref mg, .ref mq, .ref ml, .ref mf, .int nw, .int fw, .int (nI (tp)), .int (bI (wr)), .long dg])), (ms, .inl (G.2.1, 88, .inl s0)), (mv, .inl (G.2.1, 528, .inl sv)), (mt, .inl (G.2.1, 60, .inl tx)), (mh, .inl (G.2.1, 21, .inl ht)), (mb, .inl (G.2.1, 21, .inl bu)), (mg, .inl (G.2.1, 21, .inl hg)), (mq, .inl (G.2.1, 21, .inl pq)), (ml, .inl (G.2.1, 21, .inl ld)), (mf, .inl (G.2.1, 20, .inl fo))] H := hP
  have hD : va_D A [(m0, .inr (6, [.int (nI 1), .ref ms, .ref mv, .int (nI (sm)), .ref mt, .int (nI (ln)), .ref mh, .ref mb, .ref mg, .ref mq, .ref ml, .ref mf, .int nw, .int fw, .int (nI (tp)), .int (bI (wr)), .long dg])), (ms, .inl (G.2.1, 88, .inl s0)), (mv, .inl (G.2.1, 528, .inl sv)), (mt, .inl (G.2.1, 60, .inl tx)), (mh, .inl (G.2.1, 21, .inl ht)), (mb, .inl (G.2.1, 21, .inl bu)), (mg, .inl (G.2.1, 21, .inl hg)), (mq, .inl (G.2.1, 21, .inl pq)), (ml, .inl (G.2.1, 21, .inl ld)), (mf, .inl (G.2.1, 20, .inl fo))] := hD
  subst hw_5
  rw [hQ]
  exact k_iret (v := 0) () [0, 1, 2, 3, 4, 5, 6, 7, 8, 9] hx hb hr hlocks (rfl) hK hP hD hS rfl (by decide) dX6_weight_8
set_option maxHeartbeats 4000000 in
set_option maxRecDepth 100000 in
theorem c_X6_weight_2 (l : Launch) (G : kG) (m0 : Nat) (ms : Nat) (mv : Nat) (mt : Nat) (mh : Nat) (mb : Nat) (mg : Nat) (mq : Nat) (ml : Nat) (mf : Nat) (th : Nat) (s0 : Fn) (sv : Fn) (sm : Nat) (tx : Fn) (ln : Nat) (ht : Fn) (bu : Fn) (hg : Fn) (pq : Fn) (ld : Fn) (fo : Fn) (nw : Int32) (fw : Int32) (tp : Nat) (wr : Bool) (dg : Int64) (k : Int32) (v : Int32) (n : Nat) (sz : Nat) (hok : mOK s0 n) (h1 : isN k (n + 1) = true) (h2 : ¬ (0 ≤ v ∧ v ≤ 99)) : kMet l yX6_weight wsX6_weight ({ frames := 3, cells := 0, slots := 0, locals := 67 } : Room) G [.ref m0, .int k, .int v] [(m0, .inr (6, [.int (nI (th)), .ref ms, .ref mv, .int (nI (sm)), .ref mt, .int (nI (ln)), .ref mh, .ref mb, .ref mg, .ref mq, .ref ml, .ref mf, .int nw, .int fw, .int (nI (tp)), .int (bI (wr)), .long dg])), (ms, .inl (G.2.1, 88, .inl s0)), (mv, .inl (G.2.1, 528, .inl sv)), (mt, .inl (G.2.1, 60, .inl tx)), (mh, .inl (G.2.1, 21, .inl ht)), (mb, .inl (G.2.1, 21, .inl bu)), (mg, .inl (G.2.1, 21, .inl hg)), (mq, .inl (G.2.1, 21, .inl pq)), (ml, .inl (G.2.1, 21, .inl ld)), (mf, .inl (G.2.1, 20, .inl fo))] sz (kQi G (fun (r : Int32) (u : Unit) => r = 0) (fun (u : Unit) => [(m0, .inr (6, [.int (nI 2), .ref ms, .ref mv, .int (nI (sm)), .ref mt, .int (nI (ln)), .ref mh, .ref mb, .ref mg, .ref mq, .ref ml, .ref mf, .int nw, .int fw, .int (nI (tp)), .int (bI (wr)), .long dg])), (ms, .inl (G.2.1, 88, .inl s0)), (mv, .inl (G.2.1, 528, .inl sv)), (mt, .inl (G.2.1, 60, .inl tx)), (mh, .inl (G.2.1, 21, .inl ht)), (mb, .inl (G.2.1, 21, .inl bu)), (mg, .inl (G.2.1, 21, .inl hg)), (mq, .inl (G.2.1, 21, .inl pq)), (ml, .inl (G.2.1, 21, .inl ld)), (mf, .inl (G.2.1, 20, .inl fo))])) 0 0 := by
  refine k_entry (cc := cX6_weight) (maxL := 3) (ret := (some .int)) (by decide) rfl (Nat.le_of_ble_eq_true rfl) ?_
  intro p e s m args below meth c A ls H locs Q hQ hx hb hml hr hts hown hlocks hin hA hP hK hD hS hl
  have hown : s.vm.findClass RX6 = some m.cls := hown
  have hl : lv_has ls 3 [(0, .ref m0), (1, .int k), (2, .int v)] := hl
  obtain ⟨hs0, hn1, hn, hv⟩ := id hok
  refine lv_aload_n hx hb dX6_weight_0 rfl (lv_at hl 0 rfl) ?_
  refine lv_bipush (v := 25) hx hb dX6_weight_1 (by decide) ?_
  refine lv_iload_n hx hb dX6_weight_3 rfl (lv_at hl 1 rfl) ?_
  refine lv_iload_n hx hb dX6_weight_4 rfl (lv_at hl 2 rfl) ?_
  refine k_ci (wr := []) [] rfl (by decide) [0, 1, 2, 3, 4, 5, 6, 7, 8, 9] rfl (by decide) hP hD hS hA (k_V (n := 3) (ci := 6) (As := [.int 25, .int k, .int v]) (rest := []) (wc := [(m0, .inr (6, [.int (nI (th)), .ref ms, .ref mv, .int (nI (sm)), .ref mt, .int (nI (ln)), .ref mh, .ref mb, .ref mg, .ref mq, .ref ml, .ref mf, .int nw, .int fw, .int (nI (tp)), .int (bI (wr)), .long dg])), (ms, .inl (G.2.1, 88, .inl s0)), (mv, .inl (G.2.1, 528, .inl sv)), (mt, .inl (G.2.1, 60, .inl tx)), (mh, .inl (G.2.1, 21, .inl ht)), (mb, .inl (G.2.1, 21, .inl bu)), (mg, .inl (G.2.1, 21, .inl hg)), (mq, .inl (G.2.1, 21, .inl pq)), (ml, .inl (G.2.1, 21, .inl ld)), (mf, .inl (G.2.1, 20, .inl fo))]) hx hb hml hown hts hK hP hD hl (c_X6_putsAt_2 l G m0 ms mv mt mh mb mg mq ml mf th s0 sv sm tx ln ht bu hg pq ld fo nw fw tp wr dg 25 k v n H.size (by first | assumption | omega) (by first | assumption | omega) (by first | assumption | omega) (by first | assumption | omega)) [0, 1, 2, 3, 4, 5, 6, 7, 8, 9] rfl (by decide) gX6_weight_X6_putsAt rfl rfl rfl (by decide +kernel) rfl ⟨Nat.le_of_ble_eq_true rfl, Nat.le_of_ble_eq_true rfl⟩ rfl rfl rfl (Nat.le_of_ble_eq_true rfl) dX6_weight_5 ⟨Nat.le_of_ble_eq_true rfl, Nat.le_of_ble_eq_true rfl⟩) (fun r_5 u H locs hw hP hD hS => ?_)
  have hw_5 : r_5 = 0 := hw
  have hP : va_P G.1 vwCl [(m0, .inr (6, [.int (nI 2), .ref ms, .ref mv, .int (nI (sm)), .ref mt, .int (nI (ln)), .ref mh, .ref mb, .ref mg, .ref mq, .ref ml, .ref mf, .int nw, .int fw, .int (nI (tp)), .int (bI (wr)), .long dg])), (ms, .inl (G.2.1, 88, .inl s0)), (mv, .inl (G.2.1, 528, .inl sv)), (mt, .inl (G.2.1, 60, .inl tx)), (mh, .inl (G.2.1, 21, .inl ht)), (mb, .inl (G.2.1, 21, .inl bu)), (mg, .inl (G.2.1, 21, .inl hg)), (mq, .inl (G.2.1, 21, .inl pq)), (ml, .inl (G.2.1, 21, .inl ld)), (mf, .inl (G.2.1, 20, .inl fo))] H := hP
  have hD : va_D A [(m0, .inr (6, [.int (nI 2), .ref ms, .ref mv, .int (nI (sm)), .ref mt, .int (nI (ln)), .ref mh, .ref mb, .ref mg, .ref mq, .ref ml, .ref mf, .int nw, .int fw, .int (nI (tp)), .int (bI (wr)), .long dg])), (ms, .inl (G.2.1, 88, .inl s0)), (mv, .inl (G.2.1, 528, .inl sv)), (mt, .inl (G.2.1, 60, .inl tx)), (mh, .inl (G.2.1, 21, .inl ht)), (mb, .inl (G.2.1, 21, .inl bu)), (mg, .inl (G.2.1, 21, .inl hg)), (mq, .inl (G.2.1, 21, .inl pq)), (ml, .inl (G.2.1, 21, .inl ld)), (mf, .inl (G.2.1, 20, .inl fo))] := hD
  subst hw_5
  rw [hQ]
  exact k_iret (v := 0) () [0, 1, 2, 3, 4, 5, 6, 7, 8, 9] hx hb hr hlocks (rfl) hK hP hD hS rfl (by decide) dX6_weight_8
set_option maxHeartbeats 4000000 in
set_option maxRecDepth 100000 in
theorem c_X6_weight_0 (l : Launch) (G : kG) (m0 : Nat) (ms : Nat) (mv : Nat) (mt : Nat) (mh : Nat) (mb : Nat) (mg : Nat) (mq : Nat) (ml : Nat) (mf : Nat) (th : Nat) (s0 : Fn) (sv : Fn) (sm : Nat) (tx : Fn) (ln : Nat) (ht : Fn) (bu : Fn) (hg : Fn) (pq : Fn) (ld : Fn) (fo : Fn) (nw : Int32) (fw : Int32) (tp : Nat) (wr : Bool) (dg : Int64) (j : Nat) (v : Int32) (n : Nat) (sz : Nat) (hok : mOK s0 n) (hsm : sm ≤ 6) (hj : j ≤ n) (h2 : 0 ≤ v ∧ v ≤ 99) : kMet l yX6_weight wsX6_weight ({ frames := 3, cells := 0, slots := 0, locals := 67 } : Room) G [.ref m0, .int (nI (j)), .int v] [(m0, .inr (6, [.int (nI (th)), .ref ms, .ref mv, .int (nI (sm)), .ref mt, .int (nI (ln)), .ref mh, .ref mb, .ref mg, .ref mq, .ref ml, .ref mf, .int nw, .int fw, .int (nI (tp)), .int (bI (wr)), .long dg])), (ms, .inl (G.2.1, 88, .inl s0)), (mv, .inl (G.2.1, 528, .inl sv)), (mt, .inl (G.2.1, 60, .inl tx)), (mh, .inl (G.2.1, 21, .inl ht)), (mb, .inl (G.2.1, 21, .inl bu)), (mg, .inl (G.2.1, 21, .inl hg)), (mq, .inl (G.2.1, 21, .inl pq)), (ml, .inl (G.2.1, 21, .inl ld)), (mf, .inl (G.2.1, 20, .inl fo))] sz (kQi G (fun (r : Int32) (u : Unit) => r = s0 (25 + j)) (fun (u : Unit) => [(m0, .inr (6, [.int (nI 0), .ref ms, .ref mv, .int (nI (mSM sm)), .ref mt, .int (nI (ln)), .ref mh, .ref mb, .ref mg, .ref mq, .ref ml, .ref mf, .int nw, .int fw, .int (nI (tp)), .int (bI (wr)), .long dg])), (ms, .inl (G.2.1, 88, .inl (upd s0 (25 + j) v))), (mv, .inl (G.2.1, 528, .inl (mSV sv sm s0))), (mt, .inl (G.2.1, 60, .inl tx)), (mh, .inl (G.2.1, 21, .inl ht)), (mb, .inl (G.2.1, 21, .inl bu)), (mg, .inl (G.2.1, 21, .inl hg)), (mq, .inl (G.2.1, 21, .inl pq)), (ml, .inl (G.2.1, 21, .inl ld)), (mf, .inl (G.2.1, 20, .inl fo))])) 0 0 := by
  refine k_entry (cc := cX6_weight) (maxL := 3) (ret := (some .int)) (by decide) rfl (Nat.le_of_ble_eq_true rfl) ?_
  intro p e s m args below meth c A ls H locs Q hQ hx hb hml hr hts hown hlocks hin hA hP hK hD hS hl
  have hown : s.vm.findClass RX6 = some m.cls := hown
  have hl : lv_has ls 3 [(0, .ref m0), (1, .int (nI (j))), (2, .int v)] := hl
  obtain ⟨hs0, hn1, hn, hv⟩ := id hok
  refine lv_aload_n hx hb dX6_weight_0 rfl (lv_at hl 0 rfl) ?_
  refine lv_bipush (v := 25) hx hb dX6_weight_1 (by decide) ?_
  refine lv_iload_n hx hb dX6_weight_3 rfl (lv_at hl 1 rfl) ?_
  refine lv_iload_n hx hb dX6_weight_4 rfl (lv_at hl 2 rfl) ?_
  refine k_ci (wr := []) [] rfl (by decide) [0, 1, 2, 3, 4, 5, 6, 7, 8, 9] rfl (by decide) hP hD hS hA (k_V (n := 3) (ci := 6) (As := [.int 25, .int (nI (j)), .int v]) (rest := []) (wc := [(m0, .inr (6, [.int (nI (th)), .ref ms, .ref mv, .int (nI (sm)), .ref mt, .int (nI (ln)), .ref mh, .ref mb, .ref mg, .ref mq, .ref ml, .ref mf, .int nw, .int fw, .int (nI (tp)), .int (bI (wr)), .long dg])), (ms, .inl (G.2.1, 88, .inl s0)), (mv, .inl (G.2.1, 528, .inl sv)), (mt, .inl (G.2.1, 60, .inl tx)), (mh, .inl (G.2.1, 21, .inl ht)), (mb, .inl (G.2.1, 21, .inl bu)), (mg, .inl (G.2.1, 21, .inl hg)), (mq, .inl (G.2.1, 21, .inl pq)), (ml, .inl (G.2.1, 21, .inl ld)), (mf, .inl (G.2.1, 20, .inl fo))]) hx hb hml hown hts hK hP hD hl (c_X6_putsAt_0 l G m0 ms mv mt mh mb mg mq ml mf th s0 sv sm tx ln ht bu hg pq ld fo nw fw tp wr dg 25 j v n H.size (by first | assumption | omega) (by first | assumption | omega) (by first | assumption | omega) (by first | assumption | omega) (by first | assumption | omega)) [0, 1, 2, 3, 4, 5, 6, 7, 8, 9] rfl (by decide) gX6_weight_X6_putsAt rfl rfl rfl (by decide +kernel) rfl ⟨Nat.le_of_ble_eq_true rfl, Nat.le_of_ble_eq_true rfl⟩ rfl rfl rfl (Nat.le_of_ble_eq_true rfl) dX6_weight_5 ⟨Nat.le_of_ble_eq_true rfl, Nat.le_of_ble_eq_true rfl⟩) (fun r_5 u H locs hw hP hD hS => ?_)
  have hw_5 : r_5 = s0 (25 + j) := hw
  have hP : va_P G.1 vwCl [(m0, .inr (6, [.int (nI 0), .ref ms, .ref mv, .int (nI (mSM sm)), .ref mt, .int (nI (ln)), .ref mh, .ref mb, .ref mg, .ref mq, .ref ml, .ref mf, .int nw, .int fw, .int (nI (tp)), .int (bI (wr)), .long dg])), (ms, .inl (G.2.1, 88, .inl (upd s0 (25 + j) v))), (mv, .inl (G.2.1, 528, .inl (mSV sv sm s0))), (mt, .inl (G.2.1, 60, .inl tx)), (mh, .inl (G.2.1, 21, .inl ht)), (mb, .inl (G.2.1, 21, .inl bu)), (mg, .inl (G.2.1, 21, .inl hg)), (mq, .inl (G.2.1, 21, .inl pq)), (ml, .inl (G.2.1, 21, .inl ld)), (mf, .inl (G.2.1, 20, .inl fo))] H := hP
  have hD : va_D A [(m0, .inr (6, [.int (nI 0), .ref ms, .ref mv, .int (nI (mSM sm)), .ref mt, .int (nI (ln)), .ref mh, .ref mb, .ref mg, .ref mq, .ref ml, .ref mf, .int nw, .int fw, .int (nI (tp)), .int (bI (wr)), .long dg])), (ms, .inl (G.2.1, 88, .inl (upd s0 (25 + j) v))), (mv, .inl (G.2.1, 528, .inl (mSV sv sm s0))), (mt, .inl (G.2.1, 60, .inl tx)), (mh, .inl (G.2.1, 21, .inl ht)), (mb, .inl (G.2.1, 21, .inl bu)), (mg, .inl (G.2.1, 21, .inl hg)), (mq, .inl (G.2.1, 21, .inl pq)), (ml, .inl (G.2.1, 21, .inl ld)), (mf, .inl (G.2.1, 20, .inl fo))] := hD
  subst hw_5
  rw [hQ]
  exact k_iret (v := s0 (25 + j)) () [0, 1, 2, 3, 4, 5, 6, 7, 8, 9] hx hb hr hlocks (rfl) hK hP hD hS rfl (by decide) dX6_weight_8
set_option maxHeartbeats 4000000 in
set_option maxRecDepth 100000 in
theorem c_X6_hanger_1 (l : Launch) (G : kG) (m0 : Nat) (ms : Nat) (mv : Nat) (mt : Nat) (mh : Nat) (mb : Nat) (mg : Nat) (mq : Nat) (ml : Nat) (mf : Nat) (th : Nat) (s0 : Fn) (sv : Fn) (sm : Nat) (tx : Fn) (ln : Nat) (ht : Fn) (bu : Fn) (hg : Fn) (pq : Fn) (ld : Fn) (fo : Fn) (nw : Int32) (fw : Int32) (tp : Nat) (wr : Bool) (dg : Int64) (k : Int32) (v : Int32) (n : Nat) (sz : Nat) (hok : mOK s0 n) (h1 : isN k (n + 1) = false) : kMet l yX6_hanger wsX6_hanger ({ frames := 3, cells := 0, slots := 0, locals := 67 } : Room) G [.ref m0, .int k, .int v] [(m0, .inr (6, [.int (nI (th)), .ref ms, .ref mv, .int (nI (sm)), .ref mt, .int (nI (ln)), .ref mh, .ref mb, .ref mg, .ref mq, .ref ml, .ref mf, .int nw, .int fw, .int (nI (tp)), .int (bI (wr)), .long dg])), (ms, .inl (G.2.1, 88, .inl s0)), (mv, .inl (G.2.1, 528, .inl sv)), (mt, .inl (G.2.1, 60, .inl tx)), (mh, .inl (G.2.1, 21, .inl ht)), (mb, .inl (G.2.1, 21, .inl bu)), (mg, .inl (G.2.1, 21, .inl hg)), (mq, .inl (G.2.1, 21, .inl pq)), (ml, .inl (G.2.1, 21, .inl ld)), (mf, .inl (G.2.1, 20, .inl fo))] sz (kQi G (fun (r : Int32) (u : Unit) => r = 0) (fun (u : Unit) => [(m0, .inr (6, [.int (nI 1), .ref ms, .ref mv, .int (nI (sm)), .ref mt, .int (nI (ln)), .ref mh, .ref mb, .ref mg, .ref mq, .ref ml, .ref mf, .int nw, .int fw, .int (nI (tp)), .int (bI (wr)), .long dg])), (ms, .inl (G.2.1, 88, .inl s0)), (mv, .inl (G.2.1, 528, .inl sv)), (mt, .inl (G.2.1, 60, .inl tx)), (mh, .inl (G.2.1, 21, .inl ht)), (mb, .inl (G.2.1, 21, .inl bu)), (mg, .inl (G.2.1, 21, .inl hg)), (mq, .inl (G.2.1, 21, .inl pq)), (ml, .inl (G.2.1, 21, .inl ld)), (mf, .inl (G.2.1, 20, .inl fo))])) 0 0 := by
  refine k_entry (cc := cX6_hanger) (maxL := 3) (ret := (some .int)) (by decide) rfl (Nat.le_of_ble_eq_true rfl) ?_
  intro p e s m args below meth c A ls H locs Q hQ hx hb hml hr hts hown hlocks hin hA hP hK hD hS hl
  have hown : s.vm.findClass RX6 = some m.cls := hown
  have hl : lv_has ls 3 [(0, .ref m0), (1, .int k), (2, .int v)] := hl
  obtain ⟨hs0, hn1, hn, hv⟩ := id hok
  refine lv_aload_n hx hb dX6_hanger_0 rfl (lv_at hl 0 rfl) ?_
  refine lv_bipush (v := 46) hx hb dX6_hanger_1 (by decide) ?_
  refine lv_iload_n hx hb dX6_hanger_3 rfl (lv_at hl 1 rfl) ?_
  refine lv_iload_n hx hb dX6_hanger_4 rfl (lv_at hl 2 rfl) ?_
  refine k_ci (wr := []) [] rfl (by decide) [0, 1, 2, 3, 4, 5, 6, 7, 8, 9] rfl (by decide) hP hD hS hA (k_V (n := 3) (ci := 6) (As := [.int 46, .int k, .int v]) (rest := []) (wc := [(m0, .inr (6, [.int (nI (th)), .ref ms, .ref mv, .int (nI (sm)), .ref mt, .int (nI (ln)), .ref mh, .ref mb, .ref mg, .ref mq, .ref ml, .ref mf, .int nw, .int fw, .int (nI (tp)), .int (bI (wr)), .long dg])), (ms, .inl (G.2.1, 88, .inl s0)), (mv, .inl (G.2.1, 528, .inl sv)), (mt, .inl (G.2.1, 60, .inl tx)), (mh, .inl (G.2.1, 21, .inl ht)), (mb, .inl (G.2.1, 21, .inl bu)), (mg, .inl (G.2.1, 21, .inl hg)), (mq, .inl (G.2.1, 21, .inl pq)), (ml, .inl (G.2.1, 21, .inl ld)), (mf, .inl (G.2.1, 20, .inl fo))]) hx hb hml hown hts hK hP hD hl (c_X6_putsAt_1 l G m0 ms mv mt mh mb mg mq ml mf th s0 sv sm tx ln ht bu hg pq ld fo nw fw tp wr dg 46 k v n H.size (by first | assumption | omega) (by first | assumption | omega) (by first | assumption | omega)) [0, 1, 2, 3, 4, 5, 6, 7, 8, 9] rfl (by decide) gX6_hanger_X6_putsAt rfl rfl rfl (by decide +kernel) rfl ⟨Nat.le_of_ble_eq_true rfl, Nat.le_of_ble_eq_true rfl⟩ rfl rfl rfl (Nat.le_of_ble_eq_true rfl) dX6_hanger_5 ⟨Nat.le_of_ble_eq_true rfl, Nat.le_of_ble_eq_true rfl⟩) (fun r_5 u H locs hw hP hD hS => ?_)
  have hw_5 : r_5 = 0 := hw
  have hP : va_P G.1 vwCl [(m0, .inr (6, [.int (nI 1), .ref ms, .ref mv, .int (nI (sm)), .ref mt, .int (nI (ln)), .ref mh, .ref mb, .ref mg, .ref mq, .ref ml, .ref mf, .int nw, .int fw, .int (nI (tp)), .int (bI (wr)), .long dg])), (ms, .inl (G.2.1, 88, .inl s0)), (mv, .inl (G.2.1, 528, .inl sv)), (mt, .inl (G.2.1, 60, .inl tx)), (mh, .inl (G.2.1, 21, .inl ht)), (mb, .inl (G.2.1, 21, .inl bu)), (mg, .inl (G.2.1, 21, .inl hg)), (mq, .inl (G.2.1, 21, .inl pq)), (ml, .inl (G.2.1, 21, .inl ld)), (mf, .inl (G.2.1, 20, .inl fo))] H := hP
  have hD : va_D A [(m0, .inr (6, [.int (nI 1), .ref ms, .ref mv, .int (nI (sm)), .ref mt, .int (nI (ln)), .ref mh, .ref mb, .ref mg, .ref mq, .ref ml, .ref mf, .int nw, .int fw, .int (nI (tp)), .int (bI (wr)), .long dg])), (ms, .inl (G.2.1, 88, .inl s0)), (mv, .inl (G.2.1, 528, .inl sv)), (mt, .inl (G.2.1, 60, .inl tx)), (mh, .inl (G.2.1, 21, .inl ht)), (mb, .inl (G.2.1, 21, .inl bu)), (mg, .inl (G.2.1, 21, .inl hg)), (mq, .inl (G.2.1, 21, .inl pq)), (ml, .inl (G.2.1, 21, .inl ld)), (mf, .inl (G.2.1, 20, .inl fo))] := hD
  subst hw_5
  rw [hQ]
  exact k_iret (v := 0) () [0, 1, 2, 3, 4, 5, 6, 7, 8, 9] hx hb hr hlocks (rfl) hK hP hD hS rfl (by decide) dX6_hanger_8
set_option maxHeartbeats 4000000 in
set_option maxRecDepth 100000 in
theorem c_X6_hanger_2 (l : Launch) (G : kG) (m0 : Nat) (ms : Nat) (mv : Nat) (mt : Nat) (mh : Nat) (mb : Nat) (mg : Nat) (mq : Nat) (ml : Nat) (mf : Nat) (th : Nat) (s0 : Fn) (sv : Fn) (sm : Nat) (tx : Fn) (ln : Nat) (ht : Fn) (bu : Fn) (hg : Fn) (pq : Fn) (ld : Fn) (fo : Fn) (nw : Int32) (fw : Int32) (tp : Nat) (wr : Bool) (dg : Int64) (k : Int32) (v : Int32) (n : Nat) (sz : Nat) (hok : mOK s0 n) (h1 : isN k (n + 1) = true) (h2 : ¬ (0 ≤ v ∧ v ≤ 99)) : kMet l yX6_hanger wsX6_hanger ({ frames := 3, cells := 0, slots := 0, locals := 67 } : Room) G [.ref m0, .int k, .int v] [(m0, .inr (6, [.int (nI (th)), .ref ms, .ref mv, .int (nI (sm)), .ref mt, .int (nI (ln)), .ref mh, .ref mb, .ref mg, .ref mq, .ref ml, .ref mf, .int nw, .int fw, .int (nI (tp)), .int (bI (wr)), .long dg])), (ms, .inl (G.2.1, 88, .inl s0)), (mv, .inl (G.2.1, 528, .inl sv)), (mt, .inl (G.2.1, 60, .inl tx)), (mh, .inl (G.2.1, 21, .inl ht)), (mb, .inl (G.2.1, 21, .inl bu)), (mg, .inl (G.2.1, 21, .inl hg)), (mq, .inl (G.2.1, 21, .inl pq)), (ml, .inl (G.2.1, 21, .inl ld)), (mf, .inl (G.2.1, 20, .inl fo))] sz (kQi G (fun (r : Int32) (u : Unit) => r = 0) (fun (u : Unit) => [(m0, .inr (6, [.int (nI 2), .ref ms, .ref mv, .int (nI (sm)), .ref mt, .int (nI (ln)), .ref mh, .ref mb, .ref mg, .ref mq, .ref ml, .ref mf, .int nw, .int fw, .int (nI (tp)), .int (bI (wr)), .long dg])), (ms, .inl (G.2.1, 88, .inl s0)), (mv, .inl (G.2.1, 528, .inl sv)), (mt, .inl (G.2.1, 60, .inl tx)), (mh, .inl (G.2.1, 21, .inl ht)), (mb, .inl (G.2.1, 21, .inl bu)), (mg, .inl (G.2.1, 21, .inl hg)), (mq, .inl (G.2.1, 21, .inl pq)), (ml, .inl (G.2.1, 21, .inl ld)), (mf, .inl (G.2.1, 20, .inl fo))])) 0 0 := by
  refine k_entry (cc := cX6_hanger) (maxL := 3) (ret := (some .int)) (by decide) rfl (Nat.le_of_ble_eq_true rfl) ?_
  intro p e s m args below meth c A ls H locs Q hQ hx hb hml hr hts hown hlocks hin hA hP hK hD hS hl
  have hown : s.vm.findClass RX6 = some m.cls := hown
  have hl : lv_has ls 3 [(0, .ref m0), (1, .int k), (2, .int v)] := hl
  obtain ⟨hs0, hn1, hn, hv⟩ := id hok
  refine lv_aload_n hx hb dX6_hanger_0 rfl (lv_at hl 0 rfl) ?_
  refine lv_bipush (v := 46) hx hb dX6_hanger_1 (by decide) ?_
  refine lv_iload_n hx hb dX6_hanger_3 rfl (lv_at hl 1 rfl) ?_
  refine lv_iload_n hx hb dX6_hanger_4 rfl (lv_at hl 2 rfl) ?_
  refine k_ci (wr := []) [] rfl (by decide) [0, 1, 2, 3, 4, 5, 6, 7, 8, 9] rfl (by decide) hP hD hS hA (k_V (n := 3) (ci := 6) (As := [.int 46, .int k, .int v]) (rest := []) (wc := [(m0, .inr (6, [.int (nI (th)), .ref ms, .ref mv, .int (nI (sm)), .ref mt, .int (nI (ln)), .ref mh, .ref mb, .ref mg, .ref mq, .ref ml, .ref mf, .int nw, .int fw, .int (nI (tp)), .int (bI (wr)), .long dg])), (ms, .inl (G.2.1, 88, .inl s0)), (mv, .inl (G.2.1, 528, .inl sv)), (mt, .inl (G.2.1, 60, .inl tx)), (mh, .inl (G.2.1, 21, .inl ht)), (mb, .inl (G.2.1, 21, .inl bu)), (mg, .inl (G.2.1, 21, .inl hg)), (mq, .inl (G.2.1, 21, .inl pq)), (ml, .inl (G.2.1, 21, .inl ld)), (mf, .inl (G.2.1, 20, .inl fo))]) hx hb hml hown hts hK hP hD hl (c_X6_putsAt_2 l G m0 ms mv mt mh mb mg mq ml mf th s0 sv sm tx ln ht bu hg pq ld fo nw fw tp wr dg 46 k v n H.size (by first | assumption | omega) (by first | assumption | omega) (by first | assumption | omega) (by first | assumption | omega)) [0, 1, 2, 3, 4, 5, 6, 7, 8, 9] rfl (by decide) gX6_hanger_X6_putsAt rfl rfl rfl (by decide +kernel) rfl ⟨Nat.le_of_ble_eq_true rfl, Nat.le_of_ble_eq_true rfl⟩ rfl rfl rfl (Nat.le_of_ble_eq_true rfl) dX6_hanger_5 ⟨Nat.le_of_ble_eq_true rfl, Nat.le_of_ble_eq_true rfl⟩) (fun r_5 u H locs hw hP hD hS => ?_)
  have hw_5 : r_5 = 0 := hw
  have hP : va_P G.1 vwCl [(m0, .inr (6, [.int (nI 2), .ref ms, .ref mv, .int (nI (sm)), .ref mt, .int (nI (ln)), .ref mh, .ref mb, .ref mg, .ref mq, .ref ml, .ref mf, .int nw, .int fw, .int (nI (tp)), .int (bI (wr)), .long dg])), (ms, .inl (G.2.1, 88, .inl s0)), (mv, .inl (G.2.1, 528, .inl sv)), (mt, .inl (G.2.1, 60, .inl tx)), (mh, .inl (G.2.1, 21, .inl ht)), (mb, .inl (G.2.1, 21, .inl bu)), (mg, .inl (G.2.1, 21, .inl hg)), (mq, .inl (G.2.1, 21, .inl pq)), (ml, .inl (G.2.1, 21, .inl ld)), (mf, .inl (G.2.1, 20, .inl fo))] H := hP
  have hD : va_D A [(m0, .inr (6, [.int (nI 2), .ref ms, .ref mv, .int (nI (sm)), .ref mt, .int (nI (ln)), .ref mh, .ref mb, .ref mg, .ref mq, .ref ml, .ref mf, .int nw, .int fw, .int (nI (tp)), .int (bI (wr)), .long dg])), (ms, .inl (G.2.1, 88, .inl s0)), (mv, .inl (G.2.1, 528, .inl sv)), (mt, .inl (G.2.1, 60, .inl tx)), (mh, .inl (G.2.1, 21, .inl ht)), (mb, .inl (G.2.1, 21, .inl bu)), (mg, .inl (G.2.1, 21, .inl hg)), (mq, .inl (G.2.1, 21, .inl pq)), (ml, .inl (G.2.1, 21, .inl ld)), (mf, .inl (G.2.1, 20, .inl fo))] := hD
  subst hw_5
  rw [hQ]
  exact k_iret (v := 0) () [0, 1, 2, 3, 4, 5, 6, 7, 8, 9] hx hb hr hlocks (rfl) hK hP hD hS rfl (by decide) dX6_hanger_8
set_option maxHeartbeats 4000000 in
set_option maxRecDepth 100000 in
theorem c_X6_hanger_0 (l : Launch) (G : kG) (m0 : Nat) (ms : Nat) (mv : Nat) (mt : Nat) (mh : Nat) (mb : Nat) (mg : Nat) (mq : Nat) (ml : Nat) (mf : Nat) (th : Nat) (s0 : Fn) (sv : Fn) (sm : Nat) (tx : Fn) (ln : Nat) (ht : Fn) (bu : Fn) (hg : Fn) (pq : Fn) (ld : Fn) (fo : Fn) (nw : Int32) (fw : Int32) (tp : Nat) (wr : Bool) (dg : Int64) (j : Nat) (v : Int32) (n : Nat) (sz : Nat) (hok : mOK s0 n) (hsm : sm ≤ 6) (hj : j ≤ n) (h2 : 0 ≤ v ∧ v ≤ 99) : kMet l yX6_hanger wsX6_hanger ({ frames := 3, cells := 0, slots := 0, locals := 67 } : Room) G [.ref m0, .int (nI (j)), .int v] [(m0, .inr (6, [.int (nI (th)), .ref ms, .ref mv, .int (nI (sm)), .ref mt, .int (nI (ln)), .ref mh, .ref mb, .ref mg, .ref mq, .ref ml, .ref mf, .int nw, .int fw, .int (nI (tp)), .int (bI (wr)), .long dg])), (ms, .inl (G.2.1, 88, .inl s0)), (mv, .inl (G.2.1, 528, .inl sv)), (mt, .inl (G.2.1, 60, .inl tx)), (mh, .inl (G.2.1, 21, .inl ht)), (mb, .inl (G.2.1, 21, .inl bu)), (mg, .inl (G.2.1, 21, .inl hg)), (mq, .inl (G.2.1, 21, .inl pq)), (ml, .inl (G.2.1, 21, .inl ld)), (mf, .inl (G.2.1, 20, .inl fo))] sz (kQi G (fun (r : Int32) (u : Unit) => r = s0 (46 + j)) (fun (u : Unit) => [(m0, .inr (6, [.int (nI 0), .ref ms, .ref mv, .int (nI (mSM sm)), .ref mt, .int (nI (ln)), .ref mh, .ref mb, .ref mg, .ref mq, .ref ml, .ref mf, .int nw, .int fw, .int (nI (tp)), .int (bI (wr)), .long dg])), (ms, .inl (G.2.1, 88, .inl (upd s0 (46 + j) v))), (mv, .inl (G.2.1, 528, .inl (mSV sv sm s0))), (mt, .inl (G.2.1, 60, .inl tx)), (mh, .inl (G.2.1, 21, .inl ht)), (mb, .inl (G.2.1, 21, .inl bu)), (mg, .inl (G.2.1, 21, .inl hg)), (mq, .inl (G.2.1, 21, .inl pq)), (ml, .inl (G.2.1, 21, .inl ld)), (mf, .inl (G.2.1, 20, .inl fo))])) 0 0 := by
  refine k_entry (cc := cX6_hanger) (maxL := 3) (ret := (some .int)) (by decide) rfl (Nat.le_of_ble_eq_true rfl) ?_
  intro p e s m args below meth c A ls H locs Q hQ hx hb hml hr hts hown hlocks hin hA hP hK hD hS hl
  have hown : s.vm.findClass RX6 = some m.cls := hown
  have hl : lv_has ls 3 [(0, .ref m0), (1, .int (nI (j))), (2, .int v)] := hl
  obtain ⟨hs0, hn1, hn, hv⟩ := id hok
  refine lv_aload_n hx hb dX6_hanger_0 rfl (lv_at hl 0 rfl) ?_
  refine lv_bipush (v := 46) hx hb dX6_hanger_1 (by decide) ?_
  refine lv_iload_n hx hb dX6_hanger_3 rfl (lv_at hl 1 rfl) ?_
  refine lv_iload_n hx hb dX6_hanger_4 rfl (lv_at hl 2 rfl) ?_
  refine k_ci (wr := []) [] rfl (by decide) [0, 1, 2, 3, 4, 5, 6, 7, 8, 9] rfl (by decide) hP hD hS hA (k_V (n := 3) (ci := 6) (As := [.int 46, .int (nI (j)), .int v]) (rest := []) (wc := [(m0, .inr (6, [.int (nI (th)), .ref ms, .ref mv, .int (nI (sm)), .ref mt, .int (nI (ln)), .ref mh, .ref mb, .ref mg, .ref mq, .ref ml, .ref mf, .int nw, .int fw, .int (nI (tp)), .int (bI (wr)), .long dg])), (ms, .inl (G.2.1, 88, .inl s0)), (mv, .inl (G.2.1, 528, .inl sv)), (mt, .inl (G.2.1, 60, .inl tx)), (mh, .inl (G.2.1, 21, .inl ht)), (mb, .inl (G.2.1, 21, .inl bu)), (mg, .inl (G.2.1, 21, .inl hg)), (mq, .inl (G.2.1, 21, .inl pq)), (ml, .inl (G.2.1, 21, .inl ld)), (mf, .inl (G.2.1, 20, .inl fo))]) hx hb hml hown hts hK hP hD hl (c_X6_putsAt_0 l G m0 ms mv mt mh mb mg mq ml mf th s0 sv sm tx ln ht bu hg pq ld fo nw fw tp wr dg 46 j v n H.size (by first | assumption | omega) (by first | assumption | omega) (by first | assumption | omega) (by first | assumption | omega) (by first | assumption | omega)) [0, 1, 2, 3, 4, 5, 6, 7, 8, 9] rfl (by decide) gX6_hanger_X6_putsAt rfl rfl rfl (by decide +kernel) rfl ⟨Nat.le_of_ble_eq_true rfl, Nat.le_of_ble_eq_true rfl⟩ rfl rfl rfl (Nat.le_of_ble_eq_true rfl) dX6_hanger_5 ⟨Nat.le_of_ble_eq_true rfl, Nat.le_of_ble_eq_true rfl⟩) (fun r_5 u H locs hw hP hD hS => ?_)
  have hw_5 : r_5 = s0 (46 + j) := hw
  have hP : va_P G.1 vwCl [(m0, .inr (6, [.int (nI 0), .ref ms, .ref mv, .int (nI (mSM sm)), .ref mt, .int (nI (ln)), .ref mh, .ref mb, .ref mg, .ref mq, .ref ml, .ref mf, .int nw, .int fw, .int (nI (tp)), .int (bI (wr)), .long dg])), (ms, .inl (G.2.1, 88, .inl (upd s0 (46 + j) v))), (mv, .inl (G.2.1, 528, .inl (mSV sv sm s0))), (mt, .inl (G.2.1, 60, .inl tx)), (mh, .inl (G.2.1, 21, .inl ht)), (mb, .inl (G.2.1, 21, .inl bu)), (mg, .inl (G.2.1, 21, .inl hg)), (mq, .inl (G.2.1, 21, .inl pq)), (ml, .inl (G.2.1, 21, .inl ld)), (mf, .inl (G.2.1, 20, .inl fo))] H := hP
  have hD : va_D A [(m0, .inr (6, [.int (nI 0), .ref ms, .ref mv, .int (nI (mSM sm)), .ref mt, .int (nI (ln)), .ref mh, .ref mb, .ref mg, .ref mq, .ref ml, .ref mf, .int nw, .int fw, .int (nI (tp)), .int (bI (wr)), .long dg])), (ms, .inl (G.2.1, 88, .inl (upd s0 (46 + j) v))), (mv, .inl (G.2.1, 528, .inl (mSV sv sm s0))), (mt, .inl (G.2.1, 60, .inl tx)), (mh, .inl (G.2.1, 21, .inl ht)), (mb, .inl (G.2.1, 21, .inl bu)), (mg, .inl (G.2.1, 21, .inl hg)), (mq, .inl (G.2.1, 21, .inl pq)), (ml, .inl (G.2.1, 21, .inl ld)), (mf, .inl (G.2.1, 20, .inl fo))] := hD
  subst hw_5
  rw [hQ]
  exact k_iret (v := s0 (46 + j)) () [0, 1, 2, 3, 4, 5, 6, 7, 8, 9] hx hb hr hlocks (rfl) hK hP hD hS rfl (by decide) dX6_hanger_8
set_option maxHeartbeats 4000000 in
set_option maxRecDepth 100000 in
theorem c_X6_prop_1 (l : Launch) (G : kG) (m0 : Nat) (ms : Nat) (mv : Nat) (mt : Nat) (mh : Nat) (mb : Nat) (mg : Nat) (mq : Nat) (ml : Nat) (mf : Nat) (th : Nat) (s0 : Fn) (sv : Fn) (sm : Nat) (tx : Fn) (ln : Nat) (ht : Fn) (bu : Fn) (hg : Fn) (pq : Fn) (ld : Fn) (fo : Fn) (nw : Int32) (fw : Int32) (tp : Nat) (wr : Bool) (dg : Int64) (k : Int32) (v : Int32) (n : Nat) (sz : Nat) (hok : mOK s0 n) (h1 : isN k (n + 1) = false) : kMet l yX6_prop wsX6_prop ({ frames := 3, cells := 0, slots := 0, locals := 67 } : Room) G [.ref m0, .int k, .int v] [(m0, .inr (6, [.int (nI (th)), .ref ms, .ref mv, .int (nI (sm)), .ref mt, .int (nI (ln)), .ref mh, .ref mb, .ref mg, .ref mq, .ref ml, .ref mf, .int nw, .int fw, .int (nI (tp)), .int (bI (wr)), .long dg])), (ms, .inl (G.2.1, 88, .inl s0)), (mv, .inl (G.2.1, 528, .inl sv)), (mt, .inl (G.2.1, 60, .inl tx)), (mh, .inl (G.2.1, 21, .inl ht)), (mb, .inl (G.2.1, 21, .inl bu)), (mg, .inl (G.2.1, 21, .inl hg)), (mq, .inl (G.2.1, 21, .inl pq)), (ml, .inl (G.2.1, 21, .inl ld)), (mf, .inl (G.2.1, 20, .inl fo))] sz (kQi G (fun (r : Int32) (u : Unit) => r = 0) (fun (u : Unit) => [(m0, .inr (6, [.int (nI 1), .ref ms, .ref mv, .int (nI (sm)), .ref mt, .int (nI (ln)), .ref mh, .ref mb, .ref mg, .ref mq, .ref ml, .ref mf, .int nw, .int fw, .int (nI (tp)), .int (bI (wr)), .long dg])), (ms, .inl (G.2.1, 88, .inl s0)), (mv, .inl (G.2.1, 528, .inl sv)), (mt, .inl (G.2.1, 60, .inl tx)), (mh, .inl (G.2.1, 21, .inl ht)), (mb, .inl (G.2.1, 21, .inl bu)), (mg, .inl (G.2.1, 21, .inl hg)), (mq, .inl (G.2.1, 21, .inl pq)), (ml, .inl (G.2.1, 21, .inl ld)), (mf, .inl (G.2.1, 20, .inl fo))])) 0 0 := by
  refine k_entry (cc := cX6_prop) (maxL := 3) (ret := (some .int)) (by decide) rfl (Nat.le_of_ble_eq_true rfl) ?_
  intro p e s m args below meth c A ls H locs Q hQ hx hb hml hr hts hown hlocks hin hA hP hK hD hS hl
  have hown : s.vm.findClass RX6 = some m.cls := hown
  have hl : lv_has ls 3 [(0, .ref m0), (1, .int k), (2, .int v)] := hl
  obtain ⟨hs0, hn1, hn, hv⟩ := id hok
  refine lv_aload_n hx hb dX6_prop_0 rfl (lv_at hl 0 rfl) ?_
  refine lv_bipush (v := 67) hx hb dX6_prop_1 (by decide) ?_
  refine lv_iload_n hx hb dX6_prop_3 rfl (lv_at hl 1 rfl) ?_
  refine lv_iload_n hx hb dX6_prop_4 rfl (lv_at hl 2 rfl) ?_
  refine k_ci (wr := []) [] rfl (by decide) [0, 1, 2, 3, 4, 5, 6, 7, 8, 9] rfl (by decide) hP hD hS hA (k_V (n := 3) (ci := 6) (As := [.int 67, .int k, .int v]) (rest := []) (wc := [(m0, .inr (6, [.int (nI (th)), .ref ms, .ref mv, .int (nI (sm)), .ref mt, .int (nI (ln)), .ref mh, .ref mb, .ref mg, .ref mq, .ref ml, .ref mf, .int nw, .int fw, .int (nI (tp)), .int (bI (wr)), .long dg])), (ms, .inl (G.2.1, 88, .inl s0)), (mv, .inl (G.2.1, 528, .inl sv)), (mt, .inl (G.2.1, 60, .inl tx)), (mh, .inl (G.2.1, 21, .inl ht)), (mb, .inl (G.2.1, 21, .inl bu)), (mg, .inl (G.2.1, 21, .inl hg)), (mq, .inl (G.2.1, 21, .inl pq)), (ml, .inl (G.2.1, 21, .inl ld)), (mf, .inl (G.2.1, 20, .inl fo))]) hx hb hml hown hts hK hP hD hl (c_X6_putsAt_1 l G m0 ms mv mt mh mb mg mq ml mf th s0 sv sm tx ln ht bu hg pq ld fo nw fw tp wr dg 67 k v n H.size (by first | assumption | omega) (by first | assumption | omega) (by first | assumption | omega)) [0, 1, 2, 3, 4, 5, 6, 7, 8, 9] rfl (by decide) gX6_prop_X6_putsAt rfl rfl rfl (by decide +kernel) rfl ⟨Nat.le_of_ble_eq_true rfl, Nat.le_of_ble_eq_true rfl⟩ rfl rfl rfl (Nat.le_of_ble_eq_true rfl) dX6_prop_5 ⟨Nat.le_of_ble_eq_true rfl, Nat.le_of_ble_eq_true rfl⟩) (fun r_5 u H locs hw hP hD hS => ?_)
  have hw_5 : r_5 = 0 := hw
  have hP : va_P G.1 vwCl [(m0, .inr (6, [.int (nI 1), .ref ms, .ref mv, .int (nI (sm)), .ref mt, .int (nI (ln)), .ref mh, .ref mb, .ref mg, .ref mq, .ref ml, .ref mf, .int nw, .int fw, .int (nI (tp)), .int (bI (wr)), .long dg])), (ms, .inl (G.2.1, 88, .inl s0)), (mv, .inl (G.2.1, 528, .inl sv)), (mt, .inl (G.2.1, 60, .inl tx)), (mh, .inl (G.2.1, 21, .inl ht)), (mb, .inl (G.2.1, 21, .inl bu)), (mg, .inl (G.2.1, 21, .inl hg)), (mq, .inl (G.2.1, 21, .inl pq)), (ml, .inl (G.2.1, 21, .inl ld)), (mf, .inl (G.2.1, 20, .inl fo))] H := hP
  have hD : va_D A [(m0, .inr (6, [.int (nI 1), .ref ms, .ref mv, .int (nI (sm)), .ref mt, .int (nI (ln)), .ref mh, .ref mb, .ref mg, .ref mq, .ref ml, .ref mf, .int nw, .int fw, .int (nI (tp)), .int (bI (wr)), .long dg])), (ms, .inl (G.2.1, 88, .inl s0)), (mv, .inl (G.2.1, 528, .inl sv)), (mt, .inl (G.2.1, 60, .inl tx)), (mh, .inl (G.2.1, 21, .inl ht)), (mb, .inl (G.2.1, 21, .inl bu)), (mg, .inl (G.2.1, 21, .inl hg)), (mq, .inl (G.2.1, 21, .inl pq)), (ml, .inl (G.2.1, 21, .inl ld)), (mf, .inl (G.2.1, 20, .inl fo))] := hD
  subst hw_5
  rw [hQ]
  exact k_iret (v := 0) () [0, 1, 2, 3, 4, 5, 6, 7, 8, 9] hx hb hr hlocks (rfl) hK hP hD hS rfl (by decide) dX6_prop_8
set_option maxHeartbeats 4000000 in
set_option maxRecDepth 100000 in
theorem c_X6_prop_2 (l : Launch) (G : kG) (m0 : Nat) (ms : Nat) (mv : Nat) (mt : Nat) (mh : Nat) (mb : Nat) (mg : Nat) (mq : Nat) (ml : Nat) (mf : Nat) (th : Nat) (s0 : Fn) (sv : Fn) (sm : Nat) (tx : Fn) (ln : Nat) (ht : Fn) (bu : Fn) (hg : Fn) (pq : Fn) (ld : Fn) (fo : Fn) (nw : Int32) (fw : Int32) (tp : Nat) (wr : Bool) (dg : Int64) (k : Int32) (v : Int32) (n : Nat) (sz : Nat) (hok : mOK s0 n) (h1 : isN k (n + 1) = true) (h2 : ¬ (0 ≤ v ∧ v ≤ 99)) : kMet l yX6_prop wsX6_prop ({ frames := 3, cells := 0, slots := 0, locals := 67 } : Room) G [.ref m0, .int k, .int v] [(m0, .inr (6, [.int (nI (th)), .ref ms, .ref mv, .int (nI (sm)), .ref mt, .int (nI (ln)), .ref mh, .ref mb, .ref mg, .ref mq, .ref ml, .ref mf, .int nw, .int fw, .int (nI (tp)), .int (bI (wr)), .long dg])), (ms, .inl (G.2.1, 88, .inl s0)), (mv, .inl (G.2.1, 528, .inl sv)), (mt, .inl (G.2.1, 60, .inl tx)), (mh, .inl (G.2.1, 21, .inl ht)), (mb, .inl (G.2.1, 21, .inl bu)), (mg, .inl (G.2.1, 21, .inl hg)), (mq, .inl (G.2.1, 21, .inl pq)), (ml, .inl (G.2.1, 21, .inl ld)), (mf, .inl (G.2.1, 20, .inl fo))] sz (kQi G (fun (r : Int32) (u : Unit) => r = 0) (fun (u : Unit) => [(m0, .inr (6, [.int (nI 2), .ref ms, .ref mv, .int (nI (sm)), .ref mt, .int (nI (ln)), .ref mh, .ref mb, .ref mg, .ref mq, .ref ml, .ref mf, .int nw, .int fw, .int (nI (tp)), .int (bI (wr)), .long dg])), (ms, .inl (G.2.1, 88, .inl s0)), (mv, .inl (G.2.1, 528, .inl sv)), (mt, .inl (G.2.1, 60, .inl tx)), (mh, .inl (G.2.1, 21, .inl ht)), (mb, .inl (G.2.1, 21, .inl bu)), (mg, .inl (G.2.1, 21, .inl hg)), (mq, .inl (G.2.1, 21, .inl pq)), (ml, .inl (G.2.1, 21, .inl ld)), (mf, .inl (G.2.1, 20, .inl fo))])) 0 0 := by
  refine k_entry (cc := cX6_prop) (maxL := 3) (ret := (some .int)) (by decide) rfl (Nat.le_of_ble_eq_true rfl) ?_
  intro p e s m args below meth c A ls H locs Q hQ hx hb hml hr hts hown hlocks hin hA hP hK hD hS hl
  have hown : s.vm.findClass RX6 = some m.cls := hown
  have hl : lv_has ls 3 [(0, .ref m0), (1, .int k), (2, .int v)] := hl
  obtain ⟨hs0, hn1, hn, hv⟩ := id hok
  refine lv_aload_n hx hb dX6_prop_0 rfl (lv_at hl 0 rfl) ?_
  refine lv_bipush (v := 67) hx hb dX6_prop_1 (by decide) ?_
  refine lv_iload_n hx hb dX6_prop_3 rfl (lv_at hl 1 rfl) ?_
  refine lv_iload_n hx hb dX6_prop_4 rfl (lv_at hl 2 rfl) ?_
  refine k_ci (wr := []) [] rfl (by decide) [0, 1, 2, 3, 4, 5, 6, 7, 8, 9] rfl (by decide) hP hD hS hA (k_V (n := 3) (ci := 6) (As := [.int 67, .int k, .int v]) (rest := []) (wc := [(m0, .inr (6, [.int (nI (th)), .ref ms, .ref mv, .int (nI (sm)), .ref mt, .int (nI (ln)), .ref mh, .ref mb, .ref mg, .ref mq, .ref ml, .ref mf, .int nw, .int fw, .int (nI (tp)), .int (bI (wr)), .long dg])), (ms, .inl (G.2.1, 88, .inl s0)), (mv, .inl (G.2.1, 528, .inl sv)), (mt, .inl (G.2.1, 60, .inl tx)), (mh, .inl (G.2.1, 21, .inl ht)), (mb, .inl (G.2.1, 21, .inl bu)), (mg, .inl (G.2.1, 21, .inl hg)), (mq, .inl (G.2.1, 21, .inl pq)), (ml, .inl (G.2.1, 21, .inl ld)), (mf, .inl (G.2.1, 20, .inl fo))]) hx hb hml hown hts hK hP hD hl (c_X6_putsAt_2 l G m0 ms mv mt mh mb mg mq ml mf th s0 sv sm tx ln ht bu hg pq ld fo nw fw tp wr dg 67 k v n H.size (by first | assumption | omega) (by first | assumption | omega) (by first | assumption | omega) (by first | assumption | omega)) [0, 1, 2, 3, 4, 5, 6, 7, 8, 9] rfl (by decide) gX6_prop_X6_putsAt rfl rfl rfl (by decide +kernel) rfl ⟨Nat.le_of_ble_eq_true rfl, Nat.le_of_ble_eq_true rfl⟩ rfl rfl rfl (Nat.le_of_ble_eq_true rfl) dX6_prop_5 ⟨Nat.le_of_ble_eq_true rfl, Nat.le_of_ble_eq_true rfl⟩) (fun r_5 u H locs hw hP hD hS => ?_)
  have hw_5 : r_5 = 0 := hw
  have hP : va_P G.1 vwCl [(m0, .inr (6, [.int (nI 2), .ref ms, .ref mv, .int (nI (sm)), .ref mt, .int (nI (ln)), .ref mh, .ref mb, .ref mg, .ref mq, .ref ml, .ref mf, .int nw, .int fw, .int (nI (tp)), .int (bI (wr)), .long dg])), (ms, .inl (G.2.1, 88, .inl s0)), (mv, .inl (G.2.1, 528, .inl sv)), (mt, .inl (G.2.1, 60, .inl tx)), (mh, .inl (G.2.1, 21, .inl ht)), (mb, .inl (G.2.1, 21, .inl bu)), (mg, .inl (G.2.1, 21, .inl hg)), (mq, .inl (G.2.1, 21, .inl pq)), (ml, .inl (G.2.1, 21, .inl ld)), (mf, .inl (G.2.1, 20, .inl fo))] H := hP
  have hD : va_D A [(m0, .inr (6, [.int (nI 2), .ref ms, .ref mv, .int (nI (sm)), .ref mt, .int (nI (ln)), .ref mh, .ref mb, .ref mg, .ref mq, .ref ml, .ref mf, .int nw, .int fw, .int (nI (tp)), .int (bI (wr)), .long dg])), (ms, .inl (G.2.1, 88, .inl s0)), (mv, .inl (G.2.1, 528, .inl sv)), (mt, .inl (G.2.1, 60, .inl tx)), (mh, .inl (G.2.1, 21, .inl ht)), (mb, .inl (G.2.1, 21, .inl bu)), (mg, .inl (G.2.1, 21, .inl hg)), (mq, .inl (G.2.1, 21, .inl pq)), (ml, .inl (G.2.1, 21, .inl ld)), (mf, .inl (G.2.1, 20, .inl fo))] := hD
  subst hw_5
  rw [hQ]
  exact k_iret (v := 0) () [0, 1, 2, 3, 4, 5, 6, 7, 8, 9] hx hb hr hlocks (rfl) hK hP hD hS rfl (by decide) dX6_prop_8
set_option maxHeartbeats 4000000 in
set_option maxRecDepth 100000 in
theorem c_X6_prop_0 (l : Launch) (G : kG) (m0 : Nat) (ms : Nat) (mv : Nat) (mt : Nat) (mh : Nat) (mb : Nat) (mg : Nat) (mq : Nat) (ml : Nat) (mf : Nat) (th : Nat) (s0 : Fn) (sv : Fn) (sm : Nat) (tx : Fn) (ln : Nat) (ht : Fn) (bu : Fn) (hg : Fn) (pq : Fn) (ld : Fn) (fo : Fn) (nw : Int32) (fw : Int32) (tp : Nat) (wr : Bool) (dg : Int64) (j : Nat) (v : Int32) (n : Nat) (sz : Nat) (hok : mOK s0 n) (hsm : sm ≤ 6) (hj : j ≤ n) (h2 : 0 ≤ v ∧ v ≤ 99) : kMet l yX6_prop wsX6_prop ({ frames := 3, cells := 0, slots := 0, locals := 67 } : Room) G [.ref m0, .int (nI (j)), .int v] [(m0, .inr (6, [.int (nI (th)), .ref ms, .ref mv, .int (nI (sm)), .ref mt, .int (nI (ln)), .ref mh, .ref mb, .ref mg, .ref mq, .ref ml, .ref mf, .int nw, .int fw, .int (nI (tp)), .int (bI (wr)), .long dg])), (ms, .inl (G.2.1, 88, .inl s0)), (mv, .inl (G.2.1, 528, .inl sv)), (mt, .inl (G.2.1, 60, .inl tx)), (mh, .inl (G.2.1, 21, .inl ht)), (mb, .inl (G.2.1, 21, .inl bu)), (mg, .inl (G.2.1, 21, .inl hg)), (mq, .inl (G.2.1, 21, .inl pq)), (ml, .inl (G.2.1, 21, .inl ld)), (mf, .inl (G.2.1, 20, .inl fo))] sz (kQi G (fun (r : Int32) (u : Unit) => r = s0 (67 + j)) (fun (u : Unit) => [(m0, .inr (6, [.int (nI 0), .ref ms, .ref mv, .int (nI (mSM sm)), .ref mt, .int (nI (ln)), .ref mh, .ref mb, .ref mg, .ref mq, .ref ml, .ref mf, .int nw, .int fw, .int (nI (tp)), .int (bI (wr)), .long dg])), (ms, .inl (G.2.1, 88, .inl (upd s0 (67 + j) v))), (mv, .inl (G.2.1, 528, .inl (mSV sv sm s0))), (mt, .inl (G.2.1, 60, .inl tx)), (mh, .inl (G.2.1, 21, .inl ht)), (mb, .inl (G.2.1, 21, .inl bu)), (mg, .inl (G.2.1, 21, .inl hg)), (mq, .inl (G.2.1, 21, .inl pq)), (ml, .inl (G.2.1, 21, .inl ld)), (mf, .inl (G.2.1, 20, .inl fo))])) 0 0 := by
  refine k_entry (cc := cX6_prop) (maxL := 3) (ret := (some .int)) (by decide) rfl (Nat.le_of_ble_eq_true rfl) ?_
  intro p e s m args below meth c A ls H locs Q hQ hx hb hml hr hts hown hlocks hin hA hP hK hD hS hl
  have hown : s.vm.findClass RX6 = some m.cls := hown
  have hl : lv_has ls 3 [(0, .ref m0), (1, .int (nI (j))), (2, .int v)] := hl
  obtain ⟨hs0, hn1, hn, hv⟩ := id hok
  refine lv_aload_n hx hb dX6_prop_0 rfl (lv_at hl 0 rfl) ?_
  refine lv_bipush (v := 67) hx hb dX6_prop_1 (by decide) ?_
  refine lv_iload_n hx hb dX6_prop_3 rfl (lv_at hl 1 rfl) ?_
  refine lv_iload_n hx hb dX6_prop_4 rfl (lv_at hl 2 rfl) ?_
  refine k_ci (wr := []) [] rfl (by decide) [0, 1, 2, 3, 4, 5, 6, 7, 8, 9] rfl (by decide) hP hD hS hA (k_V (n := 3) (ci := 6) (As := [.int 67, .int (nI (j)), .int v]) (rest := []) (wc := [(m0, .inr (6, [.int (nI (th)), .ref ms, .ref mv, .int (nI (sm)), .ref mt, .int (nI (ln)), .ref mh, .ref mb, .ref mg, .ref mq, .ref ml, .ref mf, .int nw, .int fw, .int (nI (tp)), .int (bI (wr)), .long dg])), (ms, .inl (G.2.1, 88, .inl s0)), (mv, .inl (G.2.1, 528, .inl sv)), (mt, .inl (G.2.1, 60, .inl tx)), (mh, .inl (G.2.1, 21, .inl ht)), (mb, .inl (G.2.1, 21, .inl bu)), (mg, .inl (G.2.1, 21, .inl hg)), (mq, .inl (G.2.1, 21, .inl pq)), (ml, .inl (G.2.1, 21, .inl ld)), (mf, .inl (G.2.1, 20, .inl fo))]) hx hb hml hown hts hK hP hD hl (c_X6_putsAt_0 l G m0 ms mv mt mh mb mg mq ml mf th s0 sv sm tx ln ht bu hg pq ld fo nw fw tp wr dg 67 j v n H.size (by first | assumption | omega) (by first | assumption | omega) (by first | assumption | omega) (by first | assumption | omega) (by first | assumption | omega)) [0, 1, 2, 3, 4, 5, 6, 7, 8, 9] rfl (by decide) gX6_prop_X6_putsAt rfl rfl rfl (by decide +kernel) rfl ⟨Nat.le_of_ble_eq_true rfl, Nat.le_of_ble_eq_true rfl⟩ rfl rfl rfl (Nat.le_of_ble_eq_true rfl) dX6_prop_5 ⟨Nat.le_of_ble_eq_true rfl, Nat.le_of_ble_eq_true rfl⟩) (fun r_5 u H locs hw hP hD hS => ?_)
  have hw_5 : r_5 = s0 (67 + j) := hw
  have hP : va_P G.1 vwCl [(m0, .inr (6, [.int (nI 0), .ref ms, .ref mv, .int (nI (mSM sm)), .ref mt, .int (nI (ln)), .ref mh, .ref mb, .ref mg, .ref mq, .ref ml, .ref mf, .int nw, .int fw, .int (nI (tp)), .int (bI (wr)), .long dg])), (ms, .inl (G.2.1, 88, .inl (upd s0 (67 + j) v))), (mv, .inl (G.2.1, 528, .inl (mSV sv sm s0))), (mt, .inl (G.2.1, 60, .inl tx)), (mh, .inl (G.2.1, 21, .inl ht)), (mb, .inl (G.2.1, 21, .inl bu)), (mg, .inl (G.2.1, 21, .inl hg)), (mq, .inl (G.2.1, 21, .inl pq)), (ml, .inl (G.2.1, 21, .inl ld)), (mf, .inl (G.2.1, 20, .inl fo))] H := hP
  have hD : va_D A [(m0, .inr (6, [.int (nI 0), .ref ms, .ref mv, .int (nI (mSM sm)), .ref mt, .int (nI (ln)), .ref mh, .ref mb, .ref mg, .ref mq, .ref ml, .ref mf, .int nw, .int fw, .int (nI (tp)), .int (bI (wr)), .long dg])), (ms, .inl (G.2.1, 88, .inl (upd s0 (67 + j) v))), (mv, .inl (G.2.1, 528, .inl (mSV sv sm s0))), (mt, .inl (G.2.1, 60, .inl tx)), (mh, .inl (G.2.1, 21, .inl ht)), (mb, .inl (G.2.1, 21, .inl bu)), (mg, .inl (G.2.1, 21, .inl hg)), (mq, .inl (G.2.1, 21, .inl pq)), (ml, .inl (G.2.1, 21, .inl ld)), (mf, .inl (G.2.1, 20, .inl fo))] := hD
  subst hw_5
  rw [hQ]
  exact k_iret (v := s0 (67 + j)) () [0, 1, 2, 3, 4, 5, 6, 7, 8, 9] hx hb hr hlocks (rfl) hK hP hD hS rfl (by decide) dX6_prop_8
set_option maxHeartbeats 4000000 in
set_option maxRecDepth 100000 in
theorem c_X6_moves (l : Launch) (G : kG) (m0 : Nat) (ms : Nat) (mv : Nat) (mt : Nat) (mh : Nat) (mb : Nat) (mg : Nat) (mq : Nat) (ml : Nat) (mf : Nat) (th : Nat) (s0 : Fn) (sv : Fn) (sm : Nat) (tx : Fn) (ln : Nat) (ht : Fn) (bu : Fn) (hg : Fn) (pq : Fn) (ld : Fn) (fo : Fn) (nw : Int32) (fw : Int32) (tp : Nat) (wr : Bool) (dg : Int64) (j : Nat) (t : Nat) (sz : Nat) (hj : j ≤ 20) (htt : t ≤ 20) : kMet l yX6_moves wsX6_moves ({ frames := 0, cells := 0, slots := 0, locals := 0 } : Room) G [.ref m0, .int (nI (j)), .int (nI (t))] [(m0, .inr (6, [.int (nI (th)), .ref ms, .ref mv, .int (nI (sm)), .ref mt, .int (nI (ln)), .ref mh, .ref mb, .ref mg, .ref mq, .ref ml, .ref mf, .int nw, .int fw, .int (nI (tp)), .int (bI (wr)), .long dg])), (ms, .inl (G.2.1, 88, .inl s0)), (mv, .inl (G.2.1, 528, .inl sv)), (mt, .inl (G.2.1, 60, .inl tx)), (mh, .inl (G.2.1, 21, .inl ht)), (mb, .inl (G.2.1, 21, .inl bu)), (mg, .inl (G.2.1, 21, .inl hg)), (mq, .inl (G.2.1, 21, .inl pq)), (ml, .inl (G.2.1, 21, .inl ld)), (mf, .inl (G.2.1, 20, .inl fo))] sz (kQi G (fun (r : Int32) (u : Unit) => r = mvBy (mWE s0) j t) (fun (u : Unit) => [(m0, .inr (6, [.int (nI (th)), .ref ms, .ref mv, .int (nI (sm)), .ref mt, .int (nI (ln)), .ref mh, .ref mb, .ref mg, .ref mq, .ref ml, .ref mf, .int nw, .int fw, .int (nI (tp)), .int (bI (wr)), .long dg])), (ms, .inl (G.2.1, 88, .inl (mMov s0 j t))), (mv, .inl (G.2.1, 528, .inl sv)), (mt, .inl (G.2.1, 60, .inl tx)), (mh, .inl (G.2.1, 21, .inl ht)), (mb, .inl (G.2.1, 21, .inl bu)), (mg, .inl (G.2.1, 21, .inl hg)), (mq, .inl (G.2.1, 21, .inl pq)), (ml, .inl (G.2.1, 21, .inl ld)), (mf, .inl (G.2.1, 20, .inl fo))])) 0 0 := by
  refine k_entry (cc := cX6_moves) (maxL := 5) (ret := (some .int)) (by decide) rfl (Nat.le_of_ble_eq_true rfl) ?_
  intro p e s m args below meth c A ls H locs Q hQ hx hb hml hr hts hown hlocks hin hA hP hK hD hS hl
  have hown : s.vm.findClass RX6 = some m.cls := hown
  have hl : lv_has ls 5 [(0, .ref m0), (1, .int (nI (j))), (2, .int (nI (t)))] := hl
  have hf7 := hts (.fieldLink RX6 7 "HangingChainModel" "s" "[I") (by decide +kernel)
  have hinX6 : ∀ w ∈ wsX60, w ∈ wsX6_moves := by decide +kernel
  refine lv_bipush (v := 99) hx hb dX6_moves_0 (by decide) ?_
  refine lv_aload_n hx hb dX6_moves_2 rfl (lv_at hl 0 rfl) ?_
  refine va_get (D := G.1) (ci := 6) (v := .ref ms) (C := RX6) (T := TX6) (N := 17) hx hb hts hinX6 hown hK hP 0 rfl rfl 1 (by decide) hf7 (fun _ h9 => h9) rfl dX6_moves_3 ?_
  refine lv_bipush (v := 25) hx hb dX6_moves_6 (by decide) ?_
  refine lv_iload_n hx hb dX6_moves_8 rfl (lv_at hl 2 rfl) ?_
  refine lv_iadd hx hb dX6_moves_9 ?_
  refine g_ti (y := nI (25 + t)) (nI_add (25) (t)) ?_
  refine g_iald (k := 25 + t) hx hb hK hP 1 rfl (by omega) (by omega) dX6_moves_10 ?_
  refine lv_isub hx hb dX6_moves_11 ?_
  refine lv_istore_n (lv' := [(3, .int (99 - (s0 (25 + t)))), (0, .ref m0), (1, .int (nI (j))), (2, .int (nI (t)))]) hx hb dX6_moves_12 rfl hl (by decide) rfl (fun ls hl => ?_)
  refine lv_aload_n hx hb dX6_moves_13 rfl (lv_at hl 1 rfl) ?_
  refine va_get (D := G.1) (ci := 6) (v := .ref ms) (C := RX6) (T := TX6) (N := 17) hx hb hts hinX6 hown hK hP 0 rfl rfl 1 (by decide) hf7 (fun _ h9 => h9) rfl dX6_moves_14 ?_
  refine lv_bipush (v := 25) hx hb dX6_moves_17 (by decide) ?_
  refine lv_iload_n hx hb dX6_moves_19 rfl (lv_at hl 2 rfl) ?_
  refine lv_iadd hx hb dX6_moves_20 ?_
  refine g_ti (y := nI (25 + j)) (nI_add (25) (j)) ?_
  refine g_iald (k := 25 + j) hx hb hK hP 1 rfl (by omega) (by omega) dX6_moves_21 ?_
  refine lv_iload_n hx hb dX6_moves_22 rfl (lv_at hl 0 rfl) ?_
  have L39 : ∀ (x : Int32), (x = mvBy (mWE s0) j t) → ∀ (H : Heap) (locs : List Loc) (ls : Array Slot), va_P G.1 vwCl [(m0, .inr (6, [.int (nI (th)), .ref ms, .ref mv, .int (nI (sm)), .ref mt, .int (nI (ln)), .ref mh, .ref mb, .ref mg, .ref mq, .ref ml, .ref mf, .int nw, .int fw, .int (nI (tp)), .int (bI (wr)), .long dg])), (ms, .inl (G.2.1, 88, .inl s0)), (mv, .inl (G.2.1, 528, .inl sv)), (mt, .inl (G.2.1, 60, .inl tx)), (mh, .inl (G.2.1, 21, .inl ht)), (mb, .inl (G.2.1, 21, .inl bu)), (mg, .inl (G.2.1, 21, .inl hg)), (mq, .inl (G.2.1, 21, .inl pq)), (ml, .inl (G.2.1, 21, .inl ld)), (mf, .inl (G.2.1, 20, .inl fo))] H → va_D A [(m0, .inr (6, [.int (nI (th)), .ref ms, .ref mv, .int (nI (sm)), .ref mt, .int (nI (ln)), .ref mh, .ref mb, .ref mg, .ref mq, .ref ml, .ref mf, .int nw, .int fw, .int (nI (tp)), .int (bI (wr)), .long dg])), (ms, .inl (G.2.1, 88, .inl s0)), (mv, .inl (G.2.1, 528, .inl sv)), (mt, .inl (G.2.1, 60, .inl tx)), (mh, .inl (G.2.1, 21, .inl ht)), (mb, .inl (G.2.1, 21, .inl bu)), (mg, .inl (G.2.1, 21, .inl hg)), (mq, .inl (G.2.1, 21, .inl pq)), (ml, .inl (G.2.1, 21, .inl ld)), (mf, .inl (G.2.1, 20, .inl fo))] → va_S A s.heap H locs → lv_has ls 5 [(3, .int (99 - (s0 (25 + t)))), (0, .ref m0), (1, .int (nI (j))), (2, .int (nI (t)))] → W p l e ({ frames := 0, cells := 0, slots := 0, locals := 0 } : Room) s m args below meth c H locs 0 0 Q (F0 m 39 ls [.int x]) := by
    intro x ex H locs ls hP hD hS hl
    subst ex
    refine lv_istore (lv' := [(4, .int (mvBy (mWE s0) j t)), (3, .int (99 - (s0 (25 + t)))), (0, .ref m0), (1, .int (nI (j))), (2, .int (nI (t)))]) hx hb dX6_moves_39 hl (by decide) rfl (fun ls hl => ?_)
    refine lv_aload_n hx hb dX6_moves_41 rfl (lv_at hl 2 rfl) ?_
    refine va_get (D := G.1) (ci := 6) (v := .ref ms) (C := RX6) (T := TX6) (N := 17) hx hb hts hinX6 hown hK hP 0 rfl rfl 1 (by decide) hf7 (fun _ h9 => h9) rfl dX6_moves_42 ?_
    refine lv_bipush (v := 25) hx hb dX6_moves_45 (by decide) ?_
    refine lv_iload_n hx hb dX6_moves_47 rfl (lv_at hl 3 rfl) ?_
    refine lv_iadd hx hb dX6_moves_48 ?_
    refine g_ti (y := nI (25 + j)) (nI_add (25) (j)) ?_
    refine lv_dup2_11 hx hb dX6_moves_49 rfl rfl ?_
    refine g_iald (k := 25 + j) hx hb hK hP 1 rfl (by omega) (by omega) dX6_moves_50 ?_
    refine lv_iload hx hb dX6_moves_51 (lv_at hl 0 rfl) ?_
    refine lv_isub hx hb dX6_moves_53 ?_
    refine g_iast (k := 25 + j) hx hb hK hP hD hS 1 rfl (by omega) (by omega) dX6_moves_54 (fun H locs hP hD hS => ?_)
    have hP : va_P G.1 vwCl [(m0, .inr (6, [.int (nI (th)), .ref ms, .ref mv, .int (nI (sm)), .ref mt, .int (nI (ln)), .ref mh, .ref mb, .ref mg, .ref mq, .ref ml, .ref mf, .int nw, .int fw, .int (nI (tp)), .int (bI (wr)), .long dg])), (ms, .inl (G.2.1, 88, .inl (upd s0 (25 + j) ((s0 (25 + j)) - (mvBy (mWE s0) j t))))), (mv, .inl (G.2.1, 528, .inl sv)), (mt, .inl (G.2.1, 60, .inl tx)), (mh, .inl (G.2.1, 21, .inl ht)), (mb, .inl (G.2.1, 21, .inl bu)), (mg, .inl (G.2.1, 21, .inl hg)), (mq, .inl (G.2.1, 21, .inl pq)), (ml, .inl (G.2.1, 21, .inl ld)), (mf, .inl (G.2.1, 20, .inl fo))] H := hP
    have hD : va_D A [(m0, .inr (6, [.int (nI (th)), .ref ms, .ref mv, .int (nI (sm)), .ref mt, .int (nI (ln)), .ref mh, .ref mb, .ref mg, .ref mq, .ref ml, .ref mf, .int nw, .int fw, .int (nI (tp)), .int (bI (wr)), .long dg])), (ms, .inl (G.2.1, 88, .inl (upd s0 (25 + j) ((s0 (25 + j)) - (mvBy (mWE s0) j t))))), (mv, .inl (G.2.1, 528, .inl sv)), (mt, .inl (G.2.1, 60, .inl tx)), (mh, .inl (G.2.1, 21, .inl ht)), (mb, .inl (G.2.1, 21, .inl bu)), (mg, .inl (G.2.1, 21, .inl hg)), (mq, .inl (G.2.1, 21, .inl pq)), (ml, .inl (G.2.1, 21, .inl ld)), (mf, .inl (G.2.1, 20, .inl fo))] := hD
    refine lv_aload_n hx hb dX6_moves_55 rfl (lv_at hl 2 rfl) ?_
    refine va_get (D := G.1) (ci := 6) (v := .ref ms) (C := RX6) (T := TX6) (N := 17) hx hb hts hinX6 hown hK hP 0 rfl rfl 1 (by decide) hf7 (fun _ h9 => h9) rfl dX6_moves_56 ?_
    refine lv_bipush (v := 25) hx hb dX6_moves_59 (by decide) ?_
    refine lv_iload_n hx hb dX6_moves_61 rfl (lv_at hl 4 rfl) ?_
    refine lv_iadd hx hb dX6_moves_62 ?_
    refine g_ti (y := nI (25 + t)) (nI_add (25) (t)) ?_
    refine lv_dup2_11 hx hb dX6_moves_63 rfl rfl ?_
    refine g_iald (k := 25 + t) hx hb hK hP 1 rfl (by omega) (by omega) dX6_moves_64 ?_
    refine lv_iload hx hb dX6_moves_65 (lv_at hl 0 rfl) ?_
    refine lv_iadd hx hb dX6_moves_67 ?_
    refine g_iast (k := 25 + t) hx hb hK hP hD hS 1 rfl (by omega) (by omega) dX6_moves_68 (fun H locs hP hD hS => ?_)
    have hP : va_P G.1 vwCl [(m0, .inr (6, [.int (nI (th)), .ref ms, .ref mv, .int (nI (sm)), .ref mt, .int (nI (ln)), .ref mh, .ref mb, .ref mg, .ref mq, .ref ml, .ref mf, .int nw, .int fw, .int (nI (tp)), .int (bI (wr)), .long dg])), (ms, .inl (G.2.1, 88, .inl (upd (upd s0 (25 + j) ((s0 (25 + j)) - (mvBy (mWE s0) j t))) (25 + t) (((upd s0 (25 + j) ((s0 (25 + j)) - (mvBy (mWE s0) j t))) (25 + t)) + (mvBy (mWE s0) j t))))), (mv, .inl (G.2.1, 528, .inl sv)), (mt, .inl (G.2.1, 60, .inl tx)), (mh, .inl (G.2.1, 21, .inl ht)), (mb, .inl (G.2.1, 21, .inl bu)), (mg, .inl (G.2.1, 21, .inl hg)), (mq, .inl (G.2.1, 21, .inl pq)), (ml, .inl (G.2.1, 21, .inl ld)), (mf, .inl (G.2.1, 20, .inl fo))] H := hP
    have hD : va_D A [(m0, .inr (6, [.int (nI (th)), .ref ms, .ref mv, .int (nI (sm)), .ref mt, .int (nI (ln)), .ref mh, .ref mb, .ref mg, .ref mq, .ref ml, .ref mf, .int nw, .int fw, .int (nI (tp)), .int (bI (wr)), .long dg])), (ms, .inl (G.2.1, 88, .inl (upd (upd s0 (25 + j) ((s0 (25 + j)) - (mvBy (mWE s0) j t))) (25 + t) (((upd s0 (25 + j) ((s0 (25 + j)) - (mvBy (mWE s0) j t))) (25 + t)) + (mvBy (mWE s0) j t))))), (mv, .inl (G.2.1, 528, .inl sv)), (mt, .inl (G.2.1, 60, .inl tx)), (mh, .inl (G.2.1, 21, .inl ht)), (mb, .inl (G.2.1, 21, .inl bu)), (mg, .inl (G.2.1, 21, .inl hg)), (mq, .inl (G.2.1, 21, .inl pq)), (ml, .inl (G.2.1, 21, .inl ld)), (mf, .inl (G.2.1, 20, .inl fo))] := hD
    refine lv_iload hx hb dX6_moves_69 (lv_at hl 0 rfl) ?_
    rw [hQ]
    exact k_iret (v := (mvBy (mWE s0) j t)) () [0, 1, 2, 3, 4, 5, 6, 7, 8, 9] hx hb hr hlocks (rfl) hK hP hD hS rfl (by decide) dX6_moves_71
  refine lv_icmp_ge (tgt := 38) hx hb dX6_moves_23 (by decide) (fun c_23 => ?_) (fun c_23 => ?_)
  · skip
    refine lv_iload_n hx hb dX6_moves_38 rfl (lv_at hl 0 rfl) ?_
    exact L39 (99 - (s0 (25 + t))) (mvBy_r c_23) _ _ _ hP hD hS (lv_sub hl [0, 1, 2, 3] rfl)
  · skip
    refine lv_aload_n hx hb dX6_moves_26 rfl (lv_at hl 1 rfl) ?_
    refine va_get (D := G.1) (ci := 6) (v := .ref ms) (C := RX6) (T := TX6) (N := 17) hx hb hts hinX6 hown hK hP 0 rfl rfl 1 (by decide) hf7 (fun _ h9 => h9) rfl dX6_moves_27 ?_
    refine lv_bipush (v := 25) hx hb dX6_moves_30 (by decide) ?_
    refine lv_iload_n hx hb dX6_moves_32 rfl (lv_at hl 2 rfl) ?_
    refine lv_iadd hx hb dX6_moves_33 ?_
    refine g_ti (y := nI (25 + j)) (nI_add (25) (j)) ?_
    refine g_iald (k := 25 + j) hx hb hK hP 1 rfl (by omega) (by omega) dX6_moves_34 ?_
    refine lv_goto (tgt := 39) hx hb dX6_moves_35 (by decide) ?_
    exact L39 (s0 (25 + j)) (mvBy_l c_23) _ _ _ hP hD hS (lv_sub hl [0, 1, 2, 3] rfl)
set_option maxHeartbeats 4000000 in
set_option maxRecDepth 100000 in
theorem c_X6_move_1 (l : Launch) (G : kG) (m0 : Nat) (ms : Nat) (mv : Nat) (mt : Nat) (mh : Nat) (mb : Nat) (mg : Nat) (mq : Nat) (ml : Nat) (mf : Nat) (th : Nat) (s0 : Fn) (sv : Fn) (sm : Nat) (tx : Fn) (ln : Nat) (ht : Fn) (bu : Fn) (hg : Fn) (pq : Fn) (ld : Fn) (fo : Fn) (nw : Int32) (fw : Int32) (tp : Nat) (wr : Bool) (dg : Int64) (k : Int32) (q : Int32) (n : Nat) (sz : Nat) (hok : mOK s0 n) (h1 : isN k (n + 1) = false) : kMet l yX6_move wsX6_move ({ frames := 2, cells := 0, slots := 0, locals := 43 } : Room) G [.ref m0, .int k, .int q] [(m0, .inr (6, [.int (nI (th)), .ref ms, .ref mv, .int (nI (sm)), .ref mt, .int (nI (ln)), .ref mh, .ref mb, .ref mg, .ref mq, .ref ml, .ref mf, .int nw, .int fw, .int (nI (tp)), .int (bI (wr)), .long dg])), (ms, .inl (G.2.1, 88, .inl s0)), (mv, .inl (G.2.1, 528, .inl sv)), (mt, .inl (G.2.1, 60, .inl tx)), (mh, .inl (G.2.1, 21, .inl ht)), (mb, .inl (G.2.1, 21, .inl bu)), (mg, .inl (G.2.1, 21, .inl hg)), (mq, .inl (G.2.1, 21, .inl pq)), (ml, .inl (G.2.1, 21, .inl ld)), (mf, .inl (G.2.1, 20, .inl fo))] sz (kQi G (fun (r : Int32) (u : Unit) => r = 0) (fun (u : Unit) => [(m0, .inr (6, [.int (nI 1), .ref ms, .ref mv, .int (nI (sm)), .ref mt, .int (nI (ln)), .ref mh, .ref mb, .ref mg, .ref mq, .ref ml, .ref mf, .int nw, .int fw, .int (nI (tp)), .int (bI (wr)), .long dg])), (ms, .inl (G.2.1, 88, .inl s0)), (mv, .inl (G.2.1, 528, .inl sv)), (mt, .inl (G.2.1, 60, .inl tx)), (mh, .inl (G.2.1, 21, .inl ht)), (mb, .inl (G.2.1, 21, .inl bu)), (mg, .inl (G.2.1, 21, .inl hg)), (mq, .inl (G.2.1, 21, .inl pq)), (ml, .inl (G.2.1, 21, .inl ld)), (mf, .inl (G.2.1, 20, .inl fo))])) 0 0 := by
  refine k_entry (cc := cX6_move) (maxL := 3) (ret := (some .int)) (by decide) rfl (Nat.le_of_ble_eq_true rfl) ?_
  intro p e s m args below meth c A ls H locs Q hQ hx hb hml hr hts hown hlocks hin hA hP hK hD hS hl
  have hown : s.vm.findClass RX6 = some m.cls := hown
  have hl : lv_has ls 3 [(0, .ref m0), (1, .int k), (2, .int q)] := hl
  obtain ⟨hs0, hn1, hn, hv⟩ := id hok
  refine lv_aload_n hx hb dX6_move_0 rfl (lv_at hl 0 rfl) ?_
  refine lv_aload_n hx hb dX6_move_1 rfl (lv_at hl 0 rfl) ?_
  refine lv_iload_n hx hb dX6_move_2 rfl (lv_at hl 1 rfl) ?_
  refine k_ci (wr := []) [] rfl (by decide) [0, 1, 2, 3, 4, 5, 6, 7, 8, 9] rfl (by decide) hP hD hS hA (k_V (n := 1) (ci := 6) (As := [.int k]) (rest := [.ref m0]) (wc := [(m0, .inr (6, [.int (nI (th)), .ref ms, .ref mv, .int (nI (sm)), .ref mt, .int (nI (ln)), .ref mh, .ref mb, .ref mg, .ref mq, .ref ml, .ref mf, .int nw, .int fw, .int (nI (tp)), .int (bI (wr)), .long dg])), (ms, .inl (G.2.1, 88, .inl s0)), (mv, .inl (G.2.1, 528, .inl sv)), (mt, .inl (G.2.1, 60, .inl tx)), (mh, .inl (G.2.1, 21, .inl ht)), (mb, .inl (G.2.1, 21, .inl bu)), (mg, .inl (G.2.1, 21, .inl hg)), (mq, .inl (G.2.1, 21, .inl pq)), (ml, .inl (G.2.1, 21, .inl ld)), (mf, .inl (G.2.1, 20, .inl fo))]) hx hb hml hown hts hK hP hD hl (c_X6_isJoint l G m0 ms mv mt mh mb mg mq ml mf th s0 sv sm tx ln ht bu hg pq ld fo nw fw tp wr dg k n H.size (by first | assumption | omega)) [0, 1, 2, 3, 4, 5, 6, 7, 8, 9] rfl (by decide) gX6_move_X6_isJoint rfl rfl rfl (by decide +kernel) rfl ⟨Nat.le_of_ble_eq_true rfl, Nat.le_of_ble_eq_true rfl⟩ rfl rfl rfl (Nat.le_of_ble_eq_true rfl) dX6_move_3 ⟨Nat.le_of_ble_eq_true rfl, Nat.le_of_ble_eq_true rfl⟩) (fun r_3 u H locs hw hP hD hS => ?_)
  have hw_3 : r_3 = bI (isN k (n + 1)) := hw
  have hP : va_P G.1 vwCl [(m0, .inr (6, [.int (nI (th)), .ref ms, .ref mv, .int (nI (sm)), .ref mt, .int (nI (ln)), .ref mh, .ref mb, .ref mg, .ref mq, .ref ml, .ref mf, .int nw, .int fw, .int (nI (tp)), .int (bI (wr)), .long dg])), (ms, .inl (G.2.1, 88, .inl s0)), (mv, .inl (G.2.1, 528, .inl sv)), (mt, .inl (G.2.1, 60, .inl tx)), (mh, .inl (G.2.1, 21, .inl ht)), (mb, .inl (G.2.1, 21, .inl bu)), (mg, .inl (G.2.1, 21, .inl hg)), (mq, .inl (G.2.1, 21, .inl pq)), (ml, .inl (G.2.1, 21, .inl ld)), (mf, .inl (G.2.1, 20, .inl fo))] H := hP
  have hD : va_D A [(m0, .inr (6, [.int (nI (th)), .ref ms, .ref mv, .int (nI (sm)), .ref mt, .int (nI (ln)), .ref mh, .ref mb, .ref mg, .ref mq, .ref ml, .ref mf, .int nw, .int fw, .int (nI (tp)), .int (bI (wr)), .long dg])), (ms, .inl (G.2.1, 88, .inl s0)), (mv, .inl (G.2.1, 528, .inl sv)), (mt, .inl (G.2.1, 60, .inl tx)), (mh, .inl (G.2.1, 21, .inl ht)), (mb, .inl (G.2.1, 21, .inl bu)), (mg, .inl (G.2.1, 21, .inl hg)), (mq, .inl (G.2.1, 21, .inl pq)), (ml, .inl (G.2.1, 21, .inl ld)), (mf, .inl (G.2.1, 20, .inl fo))] := hD
  subst hw_3
  refine g_ti (y := nI 0) (by rw [h1]; rfl) ?_
  refine g_if_eq (a := 0) (tgt := 17) hx hb (by omega) dX6_move_6 (by decide) (fun c_6 => ?_) (fun c_6 => ?_)
  · skip
    refine lv_iconst (v := 1) hx hb dX6_move_17 (by decide) ?_
    refine lv_goto (tgt := 31) hx hb dX6_move_18 (by decide) ?_
    refine k_ci (wr := []) [] rfl (by decide) [0, 1, 2, 3, 4, 5, 6, 7, 8, 9] rfl (by decide) hP hD hS hA (k_V (n := 1) (ci := 6) (As := [.int 1]) (rest := []) (wc := [(m0, .inr (6, [.int (nI (th)), .ref ms, .ref mv, .int (nI (sm)), .ref mt, .int (nI (ln)), .ref mh, .ref mb, .ref mg, .ref mq, .ref ml, .ref mf, .int nw, .int fw, .int (nI (tp)), .int (bI (wr)), .long dg])), (ms, .inl (G.2.1, 88, .inl s0)), (mv, .inl (G.2.1, 528, .inl sv)), (mt, .inl (G.2.1, 60, .inl tx)), (mh, .inl (G.2.1, 21, .inl ht)), (mb, .inl (G.2.1, 21, .inl bu)), (mg, .inl (G.2.1, 21, .inl hg)), (mq, .inl (G.2.1, 21, .inl pq)), (ml, .inl (G.2.1, 21, .inl ld)), (mf, .inl (G.2.1, 20, .inl fo))]) hx hb hml hown hts hK hP hD hl (c_X6_holds l G m0 ms mv mt mh mb mg mq ml mf th s0 sv sm tx ln ht bu hg pq ld fo nw fw tp wr dg 1 H.size (by first | assumption | omega)) [0, 1, 2, 3, 4, 5, 6, 7, 8, 9] rfl (by decide) gX6_move_X6_holds rfl rfl rfl (by decide +kernel) rfl ⟨Nat.le_of_ble_eq_true rfl, Nat.le_of_ble_eq_true rfl⟩ rfl rfl rfl (Nat.le_of_ble_eq_true rfl) dX6_move_31 ⟨Nat.le_of_ble_eq_true rfl, Nat.le_of_ble_eq_true rfl⟩) (fun r_31 u H locs hw hP hD hS => ?_)
    have hw_31 : r_31 = bI (decide (1 = 0)) := hw
    have hP : va_P G.1 vwCl [(m0, .inr (6, [.int (nI (1)), .ref ms, .ref mv, .int (nI (sm)), .ref mt, .int (nI (ln)), .ref mh, .ref mb, .ref mg, .ref mq, .ref ml, .ref mf, .int nw, .int fw, .int (nI (tp)), .int (bI (wr)), .long dg])), (ms, .inl (G.2.1, 88, .inl s0)), (mv, .inl (G.2.1, 528, .inl sv)), (mt, .inl (G.2.1, 60, .inl tx)), (mh, .inl (G.2.1, 21, .inl ht)), (mb, .inl (G.2.1, 21, .inl bu)), (mg, .inl (G.2.1, 21, .inl hg)), (mq, .inl (G.2.1, 21, .inl pq)), (ml, .inl (G.2.1, 21, .inl ld)), (mf, .inl (G.2.1, 20, .inl fo))] H := hP
    have hD : va_D A [(m0, .inr (6, [.int (nI (1)), .ref ms, .ref mv, .int (nI (sm)), .ref mt, .int (nI (ln)), .ref mh, .ref mb, .ref mg, .ref mq, .ref ml, .ref mf, .int nw, .int fw, .int (nI (tp)), .int (bI (wr)), .long dg])), (ms, .inl (G.2.1, 88, .inl s0)), (mv, .inl (G.2.1, 528, .inl sv)), (mt, .inl (G.2.1, 60, .inl tx)), (mh, .inl (G.2.1, 21, .inl ht)), (mb, .inl (G.2.1, 21, .inl bu)), (mg, .inl (G.2.1, 21, .inl hg)), (mq, .inl (G.2.1, 21, .inl pq)), (ml, .inl (G.2.1, 21, .inl ld)), (mf, .inl (G.2.1, 20, .inl fo))] := hD
    subst hw_31
    refine g_ti (y := nI 0) (by rw [decide_eq_false (by decide)]; rfl) ?_
    refine g_if_ne (a := 0) (tgt := 39) hx hb (by omega) dX6_move_34 (by decide) (fun c_34 => ?_) (fun c_34 => ?_)
    · exact absurd c_34 (by decide)
    · skip
      refine lv_iconst (v := 0) hx hb dX6_move_37 (by decide) ?_
      rw [hQ]
      exact k_iret (v := 0) () [0, 1, 2, 3, 4, 5, 6, 7, 8, 9] hx hb hr hlocks (rfl) hK hP hD hS rfl (by decide) dX6_move_38
  · exact absurd c_6 (by decide)
set_option maxHeartbeats 4000000 in
set_option maxRecDepth 100000 in
theorem c_X6_move_3 (l : Launch) (G : kG) (m0 : Nat) (ms : Nat) (mv : Nat) (mt : Nat) (mh : Nat) (mb : Nat) (mg : Nat) (mq : Nat) (ml : Nat) (mf : Nat) (th : Nat) (s0 : Fn) (sv : Fn) (sm : Nat) (tx : Fn) (ln : Nat) (ht : Fn) (bu : Fn) (hg : Fn) (pq : Fn) (ld : Fn) (fo : Fn) (nw : Int32) (fw : Int32) (tp : Nat) (wr : Bool) (dg : Int64) (k : Int32) (q : Int32) (n : Nat) (sz : Nat) (hok : mOK s0 n) (h1 : isN k (n + 1) = true) (h2 : isN q (n + 1) = false) : kMet l yX6_move wsX6_move ({ frames := 2, cells := 0, slots := 0, locals := 43 } : Room) G [.ref m0, .int k, .int q] [(m0, .inr (6, [.int (nI (th)), .ref ms, .ref mv, .int (nI (sm)), .ref mt, .int (nI (ln)), .ref mh, .ref mb, .ref mg, .ref mq, .ref ml, .ref mf, .int nw, .int fw, .int (nI (tp)), .int (bI (wr)), .long dg])), (ms, .inl (G.2.1, 88, .inl s0)), (mv, .inl (G.2.1, 528, .inl sv)), (mt, .inl (G.2.1, 60, .inl tx)), (mh, .inl (G.2.1, 21, .inl ht)), (mb, .inl (G.2.1, 21, .inl bu)), (mg, .inl (G.2.1, 21, .inl hg)), (mq, .inl (G.2.1, 21, .inl pq)), (ml, .inl (G.2.1, 21, .inl ld)), (mf, .inl (G.2.1, 20, .inl fo))] sz (kQi G (fun (r : Int32) (u : Unit) => r = 0) (fun (u : Unit) => [(m0, .inr (6, [.int (nI 1), .ref ms, .ref mv, .int (nI (sm)), .ref mt, .int (nI (ln)), .ref mh, .ref mb, .ref mg, .ref mq, .ref ml, .ref mf, .int nw, .int fw, .int (nI (tp)), .int (bI (wr)), .long dg])), (ms, .inl (G.2.1, 88, .inl s0)), (mv, .inl (G.2.1, 528, .inl sv)), (mt, .inl (G.2.1, 60, .inl tx)), (mh, .inl (G.2.1, 21, .inl ht)), (mb, .inl (G.2.1, 21, .inl bu)), (mg, .inl (G.2.1, 21, .inl hg)), (mq, .inl (G.2.1, 21, .inl pq)), (ml, .inl (G.2.1, 21, .inl ld)), (mf, .inl (G.2.1, 20, .inl fo))])) 0 0 := by
  refine k_entry (cc := cX6_move) (maxL := 3) (ret := (some .int)) (by decide) rfl (Nat.le_of_ble_eq_true rfl) ?_
  intro p e s m args below meth c A ls H locs Q hQ hx hb hml hr hts hown hlocks hin hA hP hK hD hS hl
  have hown : s.vm.findClass RX6 = some m.cls := hown
  have hl : lv_has ls 3 [(0, .ref m0), (1, .int k), (2, .int q)] := hl
  obtain ⟨hs0, hn1, hn, hv⟩ := id hok
  refine lv_aload_n hx hb dX6_move_0 rfl (lv_at hl 0 rfl) ?_
  refine lv_aload_n hx hb dX6_move_1 rfl (lv_at hl 0 rfl) ?_
  refine lv_iload_n hx hb dX6_move_2 rfl (lv_at hl 1 rfl) ?_
  refine k_ci (wr := []) [] rfl (by decide) [0, 1, 2, 3, 4, 5, 6, 7, 8, 9] rfl (by decide) hP hD hS hA (k_V (n := 1) (ci := 6) (As := [.int k]) (rest := [.ref m0]) (wc := [(m0, .inr (6, [.int (nI (th)), .ref ms, .ref mv, .int (nI (sm)), .ref mt, .int (nI (ln)), .ref mh, .ref mb, .ref mg, .ref mq, .ref ml, .ref mf, .int nw, .int fw, .int (nI (tp)), .int (bI (wr)), .long dg])), (ms, .inl (G.2.1, 88, .inl s0)), (mv, .inl (G.2.1, 528, .inl sv)), (mt, .inl (G.2.1, 60, .inl tx)), (mh, .inl (G.2.1, 21, .inl ht)), (mb, .inl (G.2.1, 21, .inl bu)), (mg, .inl (G.2.1, 21, .inl hg)), (mq, .inl (G.2.1, 21, .inl pq)), (ml, .inl (G.2.1, 21, .inl ld)), (mf, .inl (G.2.1, 20, .inl fo))]) hx hb hml hown hts hK hP hD hl (c_X6_isJoint l G m0 ms mv mt mh mb mg mq ml mf th s0 sv sm tx ln ht bu hg pq ld fo nw fw tp wr dg k n H.size (by first | assumption | omega)) [0, 1, 2, 3, 4, 5, 6, 7, 8, 9] rfl (by decide) gX6_move_X6_isJoint rfl rfl rfl (by decide +kernel) rfl ⟨Nat.le_of_ble_eq_true rfl, Nat.le_of_ble_eq_true rfl⟩ rfl rfl rfl (Nat.le_of_ble_eq_true rfl) dX6_move_3 ⟨Nat.le_of_ble_eq_true rfl, Nat.le_of_ble_eq_true rfl⟩) (fun r_3 u H locs hw hP hD hS => ?_)
  have hw_3 : r_3 = bI (isN k (n + 1)) := hw
  have hP : va_P G.1 vwCl [(m0, .inr (6, [.int (nI (th)), .ref ms, .ref mv, .int (nI (sm)), .ref mt, .int (nI (ln)), .ref mh, .ref mb, .ref mg, .ref mq, .ref ml, .ref mf, .int nw, .int fw, .int (nI (tp)), .int (bI (wr)), .long dg])), (ms, .inl (G.2.1, 88, .inl s0)), (mv, .inl (G.2.1, 528, .inl sv)), (mt, .inl (G.2.1, 60, .inl tx)), (mh, .inl (G.2.1, 21, .inl ht)), (mb, .inl (G.2.1, 21, .inl bu)), (mg, .inl (G.2.1, 21, .inl hg)), (mq, .inl (G.2.1, 21, .inl pq)), (ml, .inl (G.2.1, 21, .inl ld)), (mf, .inl (G.2.1, 20, .inl fo))] H := hP
  have hD : va_D A [(m0, .inr (6, [.int (nI (th)), .ref ms, .ref mv, .int (nI (sm)), .ref mt, .int (nI (ln)), .ref mh, .ref mb, .ref mg, .ref mq, .ref ml, .ref mf, .int nw, .int fw, .int (nI (tp)), .int (bI (wr)), .long dg])), (ms, .inl (G.2.1, 88, .inl s0)), (mv, .inl (G.2.1, 528, .inl sv)), (mt, .inl (G.2.1, 60, .inl tx)), (mh, .inl (G.2.1, 21, .inl ht)), (mb, .inl (G.2.1, 21, .inl bu)), (mg, .inl (G.2.1, 21, .inl hg)), (mq, .inl (G.2.1, 21, .inl pq)), (ml, .inl (G.2.1, 21, .inl ld)), (mf, .inl (G.2.1, 20, .inl fo))] := hD
  subst hw_3
  refine g_ti (y := nI 1) (by rw [h1]; rfl) ?_
  refine g_if_eq (a := 1) (tgt := 17) hx hb (by omega) dX6_move_6 (by decide) (fun c_6 => ?_) (fun c_6 => ?_)
  · exact absurd c_6 (by decide)
  · skip
    refine lv_aload_n hx hb dX6_move_9 rfl (lv_at hl 0 rfl) ?_
    refine lv_iload_n hx hb dX6_move_10 rfl (lv_at hl 2 rfl) ?_
    refine k_ci (wr := []) [] rfl (by decide) [0, 1, 2, 3, 4, 5, 6, 7, 8, 9] rfl (by decide) hP hD hS hA (k_V (n := 1) (ci := 6) (As := [.int q]) (rest := [.ref m0]) (wc := [(m0, .inr (6, [.int (nI (th)), .ref ms, .ref mv, .int (nI (sm)), .ref mt, .int (nI (ln)), .ref mh, .ref mb, .ref mg, .ref mq, .ref ml, .ref mf, .int nw, .int fw, .int (nI (tp)), .int (bI (wr)), .long dg])), (ms, .inl (G.2.1, 88, .inl s0)), (mv, .inl (G.2.1, 528, .inl sv)), (mt, .inl (G.2.1, 60, .inl tx)), (mh, .inl (G.2.1, 21, .inl ht)), (mb, .inl (G.2.1, 21, .inl bu)), (mg, .inl (G.2.1, 21, .inl hg)), (mq, .inl (G.2.1, 21, .inl pq)), (ml, .inl (G.2.1, 21, .inl ld)), (mf, .inl (G.2.1, 20, .inl fo))]) hx hb hml hown hts hK hP hD hl (c_X6_isJoint l G m0 ms mv mt mh mb mg mq ml mf th s0 sv sm tx ln ht bu hg pq ld fo nw fw tp wr dg q n H.size (by first | assumption | omega)) [0, 1, 2, 3, 4, 5, 6, 7, 8, 9] rfl (by decide) gX6_move_X6_isJoint rfl rfl rfl (by decide +kernel) rfl ⟨Nat.le_of_ble_eq_true rfl, Nat.le_of_ble_eq_true rfl⟩ rfl rfl rfl (Nat.le_of_ble_eq_true rfl) dX6_move_11 ⟨Nat.le_of_ble_eq_true rfl, Nat.le_of_ble_eq_true rfl⟩) (fun r_11 u H locs hw hP hD hS => ?_)
    have hw_11 : r_11 = bI (isN q (n + 1)) := hw
    have hP : va_P G.1 vwCl [(m0, .inr (6, [.int (nI (th)), .ref ms, .ref mv, .int (nI (sm)), .ref mt, .int (nI (ln)), .ref mh, .ref mb, .ref mg, .ref mq, .ref ml, .ref mf, .int nw, .int fw, .int (nI (tp)), .int (bI (wr)), .long dg])), (ms, .inl (G.2.1, 88, .inl s0)), (mv, .inl (G.2.1, 528, .inl sv)), (mt, .inl (G.2.1, 60, .inl tx)), (mh, .inl (G.2.1, 21, .inl ht)), (mb, .inl (G.2.1, 21, .inl bu)), (mg, .inl (G.2.1, 21, .inl hg)), (mq, .inl (G.2.1, 21, .inl pq)), (ml, .inl (G.2.1, 21, .inl ld)), (mf, .inl (G.2.1, 20, .inl fo))] H := hP
    have hD : va_D A [(m0, .inr (6, [.int (nI (th)), .ref ms, .ref mv, .int (nI (sm)), .ref mt, .int (nI (ln)), .ref mh, .ref mb, .ref mg, .ref mq, .ref ml, .ref mf, .int nw, .int fw, .int (nI (tp)), .int (bI (wr)), .long dg])), (ms, .inl (G.2.1, 88, .inl s0)), (mv, .inl (G.2.1, 528, .inl sv)), (mt, .inl (G.2.1, 60, .inl tx)), (mh, .inl (G.2.1, 21, .inl ht)), (mb, .inl (G.2.1, 21, .inl bu)), (mg, .inl (G.2.1, 21, .inl hg)), (mq, .inl (G.2.1, 21, .inl pq)), (ml, .inl (G.2.1, 21, .inl ld)), (mf, .inl (G.2.1, 20, .inl fo))] := hD
    subst hw_11
    refine g_ti (y := nI 0) (by rw [h2]; rfl) ?_
    refine g_if_ne (a := 0) (tgt := 21) hx hb (by omega) dX6_move_14 (by decide) (fun c_14 => ?_) (fun c_14 => ?_)
    · exact absurd c_14 (by decide)
    · skip
      refine lv_iconst (v := 1) hx hb dX6_move_17 (by decide) ?_
      refine lv_goto (tgt := 31) hx hb dX6_move_18 (by decide) ?_
      refine k_ci (wr := []) [] rfl (by decide) [0, 1, 2, 3, 4, 5, 6, 7, 8, 9] rfl (by decide) hP hD hS hA (k_V (n := 1) (ci := 6) (As := [.int 1]) (rest := []) (wc := [(m0, .inr (6, [.int (nI (th)), .ref ms, .ref mv, .int (nI (sm)), .ref mt, .int (nI (ln)), .ref mh, .ref mb, .ref mg, .ref mq, .ref ml, .ref mf, .int nw, .int fw, .int (nI (tp)), .int (bI (wr)), .long dg])), (ms, .inl (G.2.1, 88, .inl s0)), (mv, .inl (G.2.1, 528, .inl sv)), (mt, .inl (G.2.1, 60, .inl tx)), (mh, .inl (G.2.1, 21, .inl ht)), (mb, .inl (G.2.1, 21, .inl bu)), (mg, .inl (G.2.1, 21, .inl hg)), (mq, .inl (G.2.1, 21, .inl pq)), (ml, .inl (G.2.1, 21, .inl ld)), (mf, .inl (G.2.1, 20, .inl fo))]) hx hb hml hown hts hK hP hD hl (c_X6_holds l G m0 ms mv mt mh mb mg mq ml mf th s0 sv sm tx ln ht bu hg pq ld fo nw fw tp wr dg 1 H.size (by first | assumption | omega)) [0, 1, 2, 3, 4, 5, 6, 7, 8, 9] rfl (by decide) gX6_move_X6_holds rfl rfl rfl (by decide +kernel) rfl ⟨Nat.le_of_ble_eq_true rfl, Nat.le_of_ble_eq_true rfl⟩ rfl rfl rfl (Nat.le_of_ble_eq_true rfl) dX6_move_31 ⟨Nat.le_of_ble_eq_true rfl, Nat.le_of_ble_eq_true rfl⟩) (fun r_31 u H locs hw hP hD hS => ?_)
      have hw_31 : r_31 = bI (decide (1 = 0)) := hw
      have hP : va_P G.1 vwCl [(m0, .inr (6, [.int (nI (1)), .ref ms, .ref mv, .int (nI (sm)), .ref mt, .int (nI (ln)), .ref mh, .ref mb, .ref mg, .ref mq, .ref ml, .ref mf, .int nw, .int fw, .int (nI (tp)), .int (bI (wr)), .long dg])), (ms, .inl (G.2.1, 88, .inl s0)), (mv, .inl (G.2.1, 528, .inl sv)), (mt, .inl (G.2.1, 60, .inl tx)), (mh, .inl (G.2.1, 21, .inl ht)), (mb, .inl (G.2.1, 21, .inl bu)), (mg, .inl (G.2.1, 21, .inl hg)), (mq, .inl (G.2.1, 21, .inl pq)), (ml, .inl (G.2.1, 21, .inl ld)), (mf, .inl (G.2.1, 20, .inl fo))] H := hP
      have hD : va_D A [(m0, .inr (6, [.int (nI (1)), .ref ms, .ref mv, .int (nI (sm)), .ref mt, .int (nI (ln)), .ref mh, .ref mb, .ref mg, .ref mq, .ref ml, .ref mf, .int nw, .int fw, .int (nI (tp)), .int (bI (wr)), .long dg])), (ms, .inl (G.2.1, 88, .inl s0)), (mv, .inl (G.2.1, 528, .inl sv)), (mt, .inl (G.2.1, 60, .inl tx)), (mh, .inl (G.2.1, 21, .inl ht)), (mb, .inl (G.2.1, 21, .inl bu)), (mg, .inl (G.2.1, 21, .inl hg)), (mq, .inl (G.2.1, 21, .inl pq)), (ml, .inl (G.2.1, 21, .inl ld)), (mf, .inl (G.2.1, 20, .inl fo))] := hD
      subst hw_31
      refine g_ti (y := nI 0) (by rw [decide_eq_false (by decide)]; rfl) ?_
      refine g_if_ne (a := 0) (tgt := 39) hx hb (by omega) dX6_move_34 (by decide) (fun c_34 => ?_) (fun c_34 => ?_)
      · exact absurd c_34 (by decide)
      · skip
        refine lv_iconst (v := 0) hx hb dX6_move_37 (by decide) ?_
        rw [hQ]
        exact k_iret (v := 0) () [0, 1, 2, 3, 4, 5, 6, 7, 8, 9] hx hb hr hlocks (rfl) hK hP hD hS rfl (by decide) dX6_move_38
set_option maxHeartbeats 4000000 in
set_option maxRecDepth 100000 in
theorem c_X6_move_2 (l : Launch) (G : kG) (m0 : Nat) (ms : Nat) (mv : Nat) (mt : Nat) (mh : Nat) (mb : Nat) (mg : Nat) (mq : Nat) (ml : Nat) (mf : Nat) (th : Nat) (s0 : Fn) (sv : Fn) (sm : Nat) (tx : Fn) (ln : Nat) (ht : Fn) (bu : Fn) (hg : Fn) (pq : Fn) (ld : Fn) (fo : Fn) (nw : Int32) (fw : Int32) (tp : Nat) (wr : Bool) (dg : Int64) (j : Nat) (n : Nat) (sz : Nat) (hok : mOK s0 n) (hj : j ≤ n) : kMet l yX6_move wsX6_move ({ frames := 2, cells := 0, slots := 0, locals := 43 } : Room) G [.ref m0, .int (nI (j)), .int (nI (j))] [(m0, .inr (6, [.int (nI (th)), .ref ms, .ref mv, .int (nI (sm)), .ref mt, .int (nI (ln)), .ref mh, .ref mb, .ref mg, .ref mq, .ref ml, .ref mf, .int nw, .int fw, .int (nI (tp)), .int (bI (wr)), .long dg])), (ms, .inl (G.2.1, 88, .inl s0)), (mv, .inl (G.2.1, 528, .inl sv)), (mt, .inl (G.2.1, 60, .inl tx)), (mh, .inl (G.2.1, 21, .inl ht)), (mb, .inl (G.2.1, 21, .inl bu)), (mg, .inl (G.2.1, 21, .inl hg)), (mq, .inl (G.2.1, 21, .inl pq)), (ml, .inl (G.2.1, 21, .inl ld)), (mf, .inl (G.2.1, 20, .inl fo))] sz (kQi G (fun (r : Int32) (u : Unit) => r = 0) (fun (u : Unit) => [(m0, .inr (6, [.int (nI 2), .ref ms, .ref mv, .int (nI (sm)), .ref mt, .int (nI (ln)), .ref mh, .ref mb, .ref mg, .ref mq, .ref ml, .ref mf, .int nw, .int fw, .int (nI (tp)), .int (bI (wr)), .long dg])), (ms, .inl (G.2.1, 88, .inl s0)), (mv, .inl (G.2.1, 528, .inl sv)), (mt, .inl (G.2.1, 60, .inl tx)), (mh, .inl (G.2.1, 21, .inl ht)), (mb, .inl (G.2.1, 21, .inl bu)), (mg, .inl (G.2.1, 21, .inl hg)), (mq, .inl (G.2.1, 21, .inl pq)), (ml, .inl (G.2.1, 21, .inl ld)), (mf, .inl (G.2.1, 20, .inl fo))])) 0 0 := by
  refine k_entry (cc := cX6_move) (maxL := 3) (ret := (some .int)) (by decide) rfl (Nat.le_of_ble_eq_true rfl) ?_
  intro p e s m args below meth c A ls H locs Q hQ hx hb hml hr hts hown hlocks hin hA hP hK hD hS hl
  have hown : s.vm.findClass RX6 = some m.cls := hown
  have hl : lv_has ls 3 [(0, .ref m0), (1, .int (nI (j))), (2, .int (nI (j)))] := hl
  obtain ⟨hs0, hn1, hn, hv⟩ := id hok
  refine lv_aload_n hx hb dX6_move_0 rfl (lv_at hl 0 rfl) ?_
  refine lv_aload_n hx hb dX6_move_1 rfl (lv_at hl 0 rfl) ?_
  refine lv_iload_n hx hb dX6_move_2 rfl (lv_at hl 1 rfl) ?_
  refine k_ci (wr := []) [] rfl (by decide) [0, 1, 2, 3, 4, 5, 6, 7, 8, 9] rfl (by decide) hP hD hS hA (k_V (n := 1) (ci := 6) (As := [.int (nI (j))]) (rest := [.ref m0]) (wc := [(m0, .inr (6, [.int (nI (th)), .ref ms, .ref mv, .int (nI (sm)), .ref mt, .int (nI (ln)), .ref mh, .ref mb, .ref mg, .ref mq, .ref ml, .ref mf, .int nw, .int fw, .int (nI (tp)), .int (bI (wr)), .long dg])), (ms, .inl (G.2.1, 88, .inl s0)), (mv, .inl (G.2.1, 528, .inl sv)), (mt, .inl (G.2.1, 60, .inl tx)), (mh, .inl (G.2.1, 21, .inl ht)), (mb, .inl (G.2.1, 21, .inl bu)), (mg, .inl (G.2.1, 21, .inl hg)), (mq, .inl (G.2.1, 21, .inl pq)), (ml, .inl (G.2.1, 21, .inl ld)), (mf, .inl (G.2.1, 20, .inl fo))]) hx hb hml hown hts hK hP hD hl (c_X6_isJoint l G m0 ms mv mt mh mb mg mq ml mf th s0 sv sm tx ln ht bu hg pq ld fo nw fw tp wr dg (nI (j)) n H.size (by first | assumption | omega)) [0, 1, 2, 3, 4, 5, 6, 7, 8, 9] rfl (by decide) gX6_move_X6_isJoint rfl rfl rfl (by decide +kernel) rfl ⟨Nat.le_of_ble_eq_true rfl, Nat.le_of_ble_eq_true rfl⟩ rfl rfl rfl (Nat.le_of_ble_eq_true rfl) dX6_move_3 ⟨Nat.le_of_ble_eq_true rfl, Nat.le_of_ble_eq_true rfl⟩) (fun r_3 u H locs hw hP hD hS => ?_)
  have hw_3 : r_3 = bI (isN (nI (j)) (n + 1)) := hw
  have hP : va_P G.1 vwCl [(m0, .inr (6, [.int (nI (th)), .ref ms, .ref mv, .int (nI (sm)), .ref mt, .int (nI (ln)), .ref mh, .ref mb, .ref mg, .ref mq, .ref ml, .ref mf, .int nw, .int fw, .int (nI (tp)), .int (bI (wr)), .long dg])), (ms, .inl (G.2.1, 88, .inl s0)), (mv, .inl (G.2.1, 528, .inl sv)), (mt, .inl (G.2.1, 60, .inl tx)), (mh, .inl (G.2.1, 21, .inl ht)), (mb, .inl (G.2.1, 21, .inl bu)), (mg, .inl (G.2.1, 21, .inl hg)), (mq, .inl (G.2.1, 21, .inl pq)), (ml, .inl (G.2.1, 21, .inl ld)), (mf, .inl (G.2.1, 20, .inl fo))] H := hP
  have hD : va_D A [(m0, .inr (6, [.int (nI (th)), .ref ms, .ref mv, .int (nI (sm)), .ref mt, .int (nI (ln)), .ref mh, .ref mb, .ref mg, .ref mq, .ref ml, .ref mf, .int nw, .int fw, .int (nI (tp)), .int (bI (wr)), .long dg])), (ms, .inl (G.2.1, 88, .inl s0)), (mv, .inl (G.2.1, 528, .inl sv)), (mt, .inl (G.2.1, 60, .inl tx)), (mh, .inl (G.2.1, 21, .inl ht)), (mb, .inl (G.2.1, 21, .inl bu)), (mg, .inl (G.2.1, 21, .inl hg)), (mq, .inl (G.2.1, 21, .inl pq)), (ml, .inl (G.2.1, 21, .inl ld)), (mf, .inl (G.2.1, 20, .inl fo))] := hD
  subst hw_3
  refine g_ti (y := nI 1) (by rw [isN_nI (by omega), decide_eq_true (by omega)]; rfl) ?_
  refine g_if_eq (a := 1) (tgt := 17) hx hb (by omega) dX6_move_6 (by decide) (fun c_6 => ?_) (fun c_6 => ?_)
  · exact absurd c_6 (by decide)
  · skip
    refine lv_aload_n hx hb dX6_move_9 rfl (lv_at hl 0 rfl) ?_
    refine lv_iload_n hx hb dX6_move_10 rfl (lv_at hl 2 rfl) ?_
    refine k_ci (wr := []) [] rfl (by decide) [0, 1, 2, 3, 4, 5, 6, 7, 8, 9] rfl (by decide) hP hD hS hA (k_V (n := 1) (ci := 6) (As := [.int (nI (j))]) (rest := [.ref m0]) (wc := [(m0, .inr (6, [.int (nI (th)), .ref ms, .ref mv, .int (nI (sm)), .ref mt, .int (nI (ln)), .ref mh, .ref mb, .ref mg, .ref mq, .ref ml, .ref mf, .int nw, .int fw, .int (nI (tp)), .int (bI (wr)), .long dg])), (ms, .inl (G.2.1, 88, .inl s0)), (mv, .inl (G.2.1, 528, .inl sv)), (mt, .inl (G.2.1, 60, .inl tx)), (mh, .inl (G.2.1, 21, .inl ht)), (mb, .inl (G.2.1, 21, .inl bu)), (mg, .inl (G.2.1, 21, .inl hg)), (mq, .inl (G.2.1, 21, .inl pq)), (ml, .inl (G.2.1, 21, .inl ld)), (mf, .inl (G.2.1, 20, .inl fo))]) hx hb hml hown hts hK hP hD hl (c_X6_isJoint l G m0 ms mv mt mh mb mg mq ml mf th s0 sv sm tx ln ht bu hg pq ld fo nw fw tp wr dg (nI (j)) n H.size (by first | assumption | omega)) [0, 1, 2, 3, 4, 5, 6, 7, 8, 9] rfl (by decide) gX6_move_X6_isJoint rfl rfl rfl (by decide +kernel) rfl ⟨Nat.le_of_ble_eq_true rfl, Nat.le_of_ble_eq_true rfl⟩ rfl rfl rfl (Nat.le_of_ble_eq_true rfl) dX6_move_11 ⟨Nat.le_of_ble_eq_true rfl, Nat.le_of_ble_eq_true rfl⟩) (fun r_11 u H locs hw hP hD hS => ?_)
    have hw_11 : r_11 = bI (isN (nI (j)) (n + 1)) := hw
    have hP : va_P G.1 vwCl [(m0, .inr (6, [.int (nI (th)), .ref ms, .ref mv, .int (nI (sm)), .ref mt, .int (nI (ln)), .ref mh, .ref mb, .ref mg, .ref mq, .ref ml, .ref mf, .int nw, .int fw, .int (nI (tp)), .int (bI (wr)), .long dg])), (ms, .inl (G.2.1, 88, .inl s0)), (mv, .inl (G.2.1, 528, .inl sv)), (mt, .inl (G.2.1, 60, .inl tx)), (mh, .inl (G.2.1, 21, .inl ht)), (mb, .inl (G.2.1, 21, .inl bu)), (mg, .inl (G.2.1, 21, .inl hg)), (mq, .inl (G.2.1, 21, .inl pq)), (ml, .inl (G.2.1, 21, .inl ld)), (mf, .inl (G.2.1, 20, .inl fo))] H := hP
    have hD : va_D A [(m0, .inr (6, [.int (nI (th)), .ref ms, .ref mv, .int (nI (sm)), .ref mt, .int (nI (ln)), .ref mh, .ref mb, .ref mg, .ref mq, .ref ml, .ref mf, .int nw, .int fw, .int (nI (tp)), .int (bI (wr)), .long dg])), (ms, .inl (G.2.1, 88, .inl s0)), (mv, .inl (G.2.1, 528, .inl sv)), (mt, .inl (G.2.1, 60, .inl tx)), (mh, .inl (G.2.1, 21, .inl ht)), (mb, .inl (G.2.1, 21, .inl bu)), (mg, .inl (G.2.1, 21, .inl hg)), (mq, .inl (G.2.1, 21, .inl pq)), (ml, .inl (G.2.1, 21, .inl ld)), (mf, .inl (G.2.1, 20, .inl fo))] := hD
    subst hw_11
    refine g_ti (y := nI 1) (by rw [isN_nI (by omega), decide_eq_true (by omega)]; rfl) ?_
    refine g_if_ne (a := 1) (tgt := 21) hx hb (by omega) dX6_move_14 (by decide) (fun c_14 => ?_) (fun c_14 => ?_)
    · skip
      refine lv_iload_n hx hb dX6_move_21 rfl (lv_at hl 1 rfl) ?_
      refine lv_iload_n hx hb dX6_move_22 rfl (lv_at hl 2 rfl) ?_
      refine g_icmp_ne (a := j) (b := j) (tgt := 30) hx hb (by omega) (by omega) dX6_move_23 (by decide) (fun c_23 => ?_) (fun c_23 => ?_)
      · exact absurd rfl c_23
      · skip
        refine lv_iconst (v := 2) hx hb dX6_move_26 (by decide) ?_
        refine lv_goto (tgt := 31) hx hb dX6_move_27 (by decide) ?_
        refine k_ci (wr := []) [] rfl (by decide) [0, 1, 2, 3, 4, 5, 6, 7, 8, 9] rfl (by decide) hP hD hS hA (k_V (n := 1) (ci := 6) (As := [.int 2]) (rest := []) (wc := [(m0, .inr (6, [.int (nI (th)), .ref ms, .ref mv, .int (nI (sm)), .ref mt, .int (nI (ln)), .ref mh, .ref mb, .ref mg, .ref mq, .ref ml, .ref mf, .int nw, .int fw, .int (nI (tp)), .int (bI (wr)), .long dg])), (ms, .inl (G.2.1, 88, .inl s0)), (mv, .inl (G.2.1, 528, .inl sv)), (mt, .inl (G.2.1, 60, .inl tx)), (mh, .inl (G.2.1, 21, .inl ht)), (mb, .inl (G.2.1, 21, .inl bu)), (mg, .inl (G.2.1, 21, .inl hg)), (mq, .inl (G.2.1, 21, .inl pq)), (ml, .inl (G.2.1, 21, .inl ld)), (mf, .inl (G.2.1, 20, .inl fo))]) hx hb hml hown hts hK hP hD hl (c_X6_holds l G m0 ms mv mt mh mb mg mq ml mf th s0 sv sm tx ln ht bu hg pq ld fo nw fw tp wr dg 2 H.size (by first | assumption | omega)) [0, 1, 2, 3, 4, 5, 6, 7, 8, 9] rfl (by decide) gX6_move_X6_holds rfl rfl rfl (by decide +kernel) rfl ⟨Nat.le_of_ble_eq_true rfl, Nat.le_of_ble_eq_true rfl⟩ rfl rfl rfl (Nat.le_of_ble_eq_true rfl) dX6_move_31 ⟨Nat.le_of_ble_eq_true rfl, Nat.le_of_ble_eq_true rfl⟩) (fun r_31 u H locs hw hP hD hS => ?_)
        have hw_31 : r_31 = bI (decide (2 = 0)) := hw
        have hP : va_P G.1 vwCl [(m0, .inr (6, [.int (nI (2)), .ref ms, .ref mv, .int (nI (sm)), .ref mt, .int (nI (ln)), .ref mh, .ref mb, .ref mg, .ref mq, .ref ml, .ref mf, .int nw, .int fw, .int (nI (tp)), .int (bI (wr)), .long dg])), (ms, .inl (G.2.1, 88, .inl s0)), (mv, .inl (G.2.1, 528, .inl sv)), (mt, .inl (G.2.1, 60, .inl tx)), (mh, .inl (G.2.1, 21, .inl ht)), (mb, .inl (G.2.1, 21, .inl bu)), (mg, .inl (G.2.1, 21, .inl hg)), (mq, .inl (G.2.1, 21, .inl pq)), (ml, .inl (G.2.1, 21, .inl ld)), (mf, .inl (G.2.1, 20, .inl fo))] H := hP
        have hD : va_D A [(m0, .inr (6, [.int (nI (2)), .ref ms, .ref mv, .int (nI (sm)), .ref mt, .int (nI (ln)), .ref mh, .ref mb, .ref mg, .ref mq, .ref ml, .ref mf, .int nw, .int fw, .int (nI (tp)), .int (bI (wr)), .long dg])), (ms, .inl (G.2.1, 88, .inl s0)), (mv, .inl (G.2.1, 528, .inl sv)), (mt, .inl (G.2.1, 60, .inl tx)), (mh, .inl (G.2.1, 21, .inl ht)), (mb, .inl (G.2.1, 21, .inl bu)), (mg, .inl (G.2.1, 21, .inl hg)), (mq, .inl (G.2.1, 21, .inl pq)), (ml, .inl (G.2.1, 21, .inl ld)), (mf, .inl (G.2.1, 20, .inl fo))] := hD
        subst hw_31
        refine g_ti (y := nI 0) (by rw [decide_eq_false (by decide)]; rfl) ?_
        refine g_if_ne (a := 0) (tgt := 39) hx hb (by omega) dX6_move_34 (by decide) (fun c_34 => ?_) (fun c_34 => ?_)
        · exact absurd c_34 (by decide)
        · skip
          refine lv_iconst (v := 0) hx hb dX6_move_37 (by decide) ?_
          rw [hQ]
          exact k_iret (v := 0) () [0, 1, 2, 3, 4, 5, 6, 7, 8, 9] hx hb hr hlocks (rfl) hK hP hD hS rfl (by decide) dX6_move_38
    · exact absurd c_14 (by decide)
set_option maxHeartbeats 4000000 in
set_option maxRecDepth 100000 in
theorem c_X6_move_0 (l : Launch) (G : kG) (m0 : Nat) (ms : Nat) (mv : Nat) (mt : Nat) (mh : Nat) (mb : Nat) (mg : Nat) (mq : Nat) (ml : Nat) (mf : Nat) (th : Nat) (s0 : Fn) (sv : Fn) (sm : Nat) (tx : Fn) (ln : Nat) (ht : Fn) (bu : Fn) (hg : Fn) (pq : Fn) (ld : Fn) (fo : Fn) (nw : Int32) (fw : Int32) (tp : Nat) (wr : Bool) (dg : Int64) (j : Nat) (t : Nat) (n : Nat) (sz : Nat) (hok : mOK s0 n) (hsm : sm ≤ 6) (hj : j ≤ n) (htt : t ≤ n) (hjt : j ≠ t) : kMet l yX6_move wsX6_move ({ frames := 2, cells := 0, slots := 0, locals := 43 } : Room) G [.ref m0, .int (nI (j)), .int (nI (t))] [(m0, .inr (6, [.int (nI (th)), .ref ms, .ref mv, .int (nI (sm)), .ref mt, .int (nI (ln)), .ref mh, .ref mb, .ref mg, .ref mq, .ref ml, .ref mf, .int nw, .int fw, .int (nI (tp)), .int (bI (wr)), .long dg])), (ms, .inl (G.2.1, 88, .inl s0)), (mv, .inl (G.2.1, 528, .inl sv)), (mt, .inl (G.2.1, 60, .inl tx)), (mh, .inl (G.2.1, 21, .inl ht)), (mb, .inl (G.2.1, 21, .inl bu)), (mg, .inl (G.2.1, 21, .inl hg)), (mq, .inl (G.2.1, 21, .inl pq)), (ml, .inl (G.2.1, 21, .inl ld)), (mf, .inl (G.2.1, 20, .inl fo))] sz (kQi G (fun (r : Int32) (u : Unit) => r = mvBy (mWE s0) j t) (fun (u : Unit) => [(m0, .inr (6, [.int (nI 0), .ref ms, .ref mv, .int (nI (mSM sm)), .ref mt, .int (nI (ln)), .ref mh, .ref mb, .ref mg, .ref mq, .ref ml, .ref mf, .int nw, .int fw, .int (nI (tp)), .int (bI (wr)), .long dg])), (ms, .inl (G.2.1, 88, .inl (mMov s0 j t))), (mv, .inl (G.2.1, 528, .inl (mSV sv sm s0))), (mt, .inl (G.2.1, 60, .inl tx)), (mh, .inl (G.2.1, 21, .inl ht)), (mb, .inl (G.2.1, 21, .inl bu)), (mg, .inl (G.2.1, 21, .inl hg)), (mq, .inl (G.2.1, 21, .inl pq)), (ml, .inl (G.2.1, 21, .inl ld)), (mf, .inl (G.2.1, 20, .inl fo))])) 0 0 := by
  refine k_entry (cc := cX6_move) (maxL := 3) (ret := (some .int)) (by decide) rfl (Nat.le_of_ble_eq_true rfl) ?_
  intro p e s m args below meth c A ls H locs Q hQ hx hb hml hr hts hown hlocks hin hA hP hK hD hS hl
  have hown : s.vm.findClass RX6 = some m.cls := hown
  have hl : lv_has ls 3 [(0, .ref m0), (1, .int (nI (j))), (2, .int (nI (t)))] := hl
  obtain ⟨hs0, hn1, hn, hv⟩ := id hok
  refine lv_aload_n hx hb dX6_move_0 rfl (lv_at hl 0 rfl) ?_
  refine lv_aload_n hx hb dX6_move_1 rfl (lv_at hl 0 rfl) ?_
  refine lv_iload_n hx hb dX6_move_2 rfl (lv_at hl 1 rfl) ?_
  refine k_ci (wr := []) [] rfl (by decide) [0, 1, 2, 3, 4, 5, 6, 7, 8, 9] rfl (by decide) hP hD hS hA (k_V (n := 1) (ci := 6) (As := [.int (nI (j))]) (rest := [.ref m0]) (wc := [(m0, .inr (6, [.int (nI (th)), .ref ms, .ref mv, .int (nI (sm)), .ref mt, .int (nI (ln)), .ref mh, .ref mb, .ref mg, .ref mq, .ref ml, .ref mf, .int nw, .int fw, .int (nI (tp)), .int (bI (wr)), .long dg])), (ms, .inl (G.2.1, 88, .inl s0)), (mv, .inl (G.2.1, 528, .inl sv)), (mt, .inl (G.2.1, 60, .inl tx)), (mh, .inl (G.2.1, 21, .inl ht)), (mb, .inl (G.2.1, 21, .inl bu)), (mg, .inl (G.2.1, 21, .inl hg)), (mq, .inl (G.2.1, 21, .inl pq)), (ml, .inl (G.2.1, 21, .inl ld)), (mf, .inl (G.2.1, 20, .inl fo))]) hx hb hml hown hts hK hP hD hl (c_X6_isJoint l G m0 ms mv mt mh mb mg mq ml mf th s0 sv sm tx ln ht bu hg pq ld fo nw fw tp wr dg (nI (j)) n H.size (by first | assumption | omega)) [0, 1, 2, 3, 4, 5, 6, 7, 8, 9] rfl (by decide) gX6_move_X6_isJoint rfl rfl rfl (by decide +kernel) rfl ⟨Nat.le_of_ble_eq_true rfl, Nat.le_of_ble_eq_true rfl⟩ rfl rfl rfl (Nat.le_of_ble_eq_true rfl) dX6_move_3 ⟨Nat.le_of_ble_eq_true rfl, Nat.le_of_ble_eq_true rfl⟩) (fun r_3 u H locs hw hP hD hS => ?_)
  have hw_3 : r_3 = bI (isN (nI (j)) (n + 1)) := hw
  have hP : va_P G.1 vwCl [(m0, .inr (6, [.int (nI (th)), .ref ms, .ref mv, .int (nI (sm)), .ref mt, .int (nI (ln)), .ref mh, .ref mb, .ref mg, .ref mq, .ref ml, .ref mf, .int nw, .int fw, .int (nI (tp)), .int (bI (wr)), .long dg])), (ms, .inl (G.2.1, 88, .inl s0)), (mv, .inl (G.2.1, 528, .inl sv)), (mt, .inl (G.2.1, 60, .inl tx)), (mh, .inl (G.2.1, 21, .inl ht)), (mb, .inl (G.2.1, 21, .inl bu)), (mg, .inl (G.2.1, 21, .inl hg)), (mq, .inl (G.2.1, 21, .inl pq)), (ml, .inl (G.2.1, 21, .inl ld)), (mf, .inl (G.2.1, 20, .inl fo))] H := hP
  have hD : va_D A [(m0, .inr (6, [.int (nI (th)), .ref ms, .ref mv, .int (nI (sm)), .ref mt, .int (nI (ln)), .ref mh, .ref mb, .ref mg, .ref mq, .ref ml, .ref mf, .int nw, .int fw, .int (nI (tp)), .int (bI (wr)), .long dg])), (ms, .inl (G.2.1, 88, .inl s0)), (mv, .inl (G.2.1, 528, .inl sv)), (mt, .inl (G.2.1, 60, .inl tx)), (mh, .inl (G.2.1, 21, .inl ht)), (mb, .inl (G.2.1, 21, .inl bu)), (mg, .inl (G.2.1, 21, .inl hg)), (mq, .inl (G.2.1, 21, .inl pq)), (ml, .inl (G.2.1, 21, .inl ld)), (mf, .inl (G.2.1, 20, .inl fo))] := hD
  subst hw_3
  refine g_ti (y := nI 1) (by rw [isN_nI (by omega), decide_eq_true (by omega)]; rfl) ?_
  refine g_if_eq (a := 1) (tgt := 17) hx hb (by omega) dX6_move_6 (by decide) (fun c_6 => ?_) (fun c_6 => ?_)
  · exact absurd c_6 (by decide)
  · skip
    refine lv_aload_n hx hb dX6_move_9 rfl (lv_at hl 0 rfl) ?_
    refine lv_iload_n hx hb dX6_move_10 rfl (lv_at hl 2 rfl) ?_
    refine k_ci (wr := []) [] rfl (by decide) [0, 1, 2, 3, 4, 5, 6, 7, 8, 9] rfl (by decide) hP hD hS hA (k_V (n := 1) (ci := 6) (As := [.int (nI (t))]) (rest := [.ref m0]) (wc := [(m0, .inr (6, [.int (nI (th)), .ref ms, .ref mv, .int (nI (sm)), .ref mt, .int (nI (ln)), .ref mh, .ref mb, .ref mg, .ref mq, .ref ml, .ref mf, .int nw, .int fw, .int (nI (tp)), .int (bI (wr)), .long dg])), (ms, .inl (G.2.1, 88, .inl s0)), (mv, .inl (G.2.1, 528, .inl sv)), (mt, .inl (G.2.1, 60, .inl tx)), (mh, .inl (G.2.1, 21, .inl ht)), (mb, .inl (G.2.1, 21, .inl bu)), (mg, .inl (G.2.1, 21, .inl hg)), (mq, .inl (G.2.1, 21, .inl pq)), (ml, .inl (G.2.1, 21, .inl ld)), (mf, .inl (G.2.1, 20, .inl fo))]) hx hb hml hown hts hK hP hD hl (c_X6_isJoint l G m0 ms mv mt mh mb mg mq ml mf th s0 sv sm tx ln ht bu hg pq ld fo nw fw tp wr dg (nI (t)) n H.size (by first | assumption | omega)) [0, 1, 2, 3, 4, 5, 6, 7, 8, 9] rfl (by decide) gX6_move_X6_isJoint rfl rfl rfl (by decide +kernel) rfl ⟨Nat.le_of_ble_eq_true rfl, Nat.le_of_ble_eq_true rfl⟩ rfl rfl rfl (Nat.le_of_ble_eq_true rfl) dX6_move_11 ⟨Nat.le_of_ble_eq_true rfl, Nat.le_of_ble_eq_true rfl⟩) (fun r_11 u H locs hw hP hD hS => ?_)
    have hw_11 : r_11 = bI (isN (nI (t)) (n + 1)) := hw
    have hP : va_P G.1 vwCl [(m0, .inr (6, [.int (nI (th)), .ref ms, .ref mv, .int (nI (sm)), .ref mt, .int (nI (ln)), .ref mh, .ref mb, .ref mg, .ref mq, .ref ml, .ref mf, .int nw, .int fw, .int (nI (tp)), .int (bI (wr)), .long dg])), (ms, .inl (G.2.1, 88, .inl s0)), (mv, .inl (G.2.1, 528, .inl sv)), (mt, .inl (G.2.1, 60, .inl tx)), (mh, .inl (G.2.1, 21, .inl ht)), (mb, .inl (G.2.1, 21, .inl bu)), (mg, .inl (G.2.1, 21, .inl hg)), (mq, .inl (G.2.1, 21, .inl pq)), (ml, .inl (G.2.1, 21, .inl ld)), (mf, .inl (G.2.1, 20, .inl fo))] H := hP
    have hD : va_D A [(m0, .inr (6, [.int (nI (th)), .ref ms, .ref mv, .int (nI (sm)), .ref mt, .int (nI (ln)), .ref mh, .ref mb, .ref mg, .ref mq, .ref ml, .ref mf, .int nw, .int fw, .int (nI (tp)), .int (bI (wr)), .long dg])), (ms, .inl (G.2.1, 88, .inl s0)), (mv, .inl (G.2.1, 528, .inl sv)), (mt, .inl (G.2.1, 60, .inl tx)), (mh, .inl (G.2.1, 21, .inl ht)), (mb, .inl (G.2.1, 21, .inl bu)), (mg, .inl (G.2.1, 21, .inl hg)), (mq, .inl (G.2.1, 21, .inl pq)), (ml, .inl (G.2.1, 21, .inl ld)), (mf, .inl (G.2.1, 20, .inl fo))] := hD
    subst hw_11
    refine g_ti (y := nI 1) (by rw [isN_nI (by omega), decide_eq_true (by omega)]; rfl) ?_
    refine g_if_ne (a := 1) (tgt := 21) hx hb (by omega) dX6_move_14 (by decide) (fun c_14 => ?_) (fun c_14 => ?_)
    · skip
      refine lv_iload_n hx hb dX6_move_21 rfl (lv_at hl 1 rfl) ?_
      refine lv_iload_n hx hb dX6_move_22 rfl (lv_at hl 2 rfl) ?_
      refine g_icmp_ne (a := j) (b := t) (tgt := 30) hx hb (by omega) (by omega) dX6_move_23 (by decide) (fun c_23 => ?_) (fun c_23 => ?_)
      · skip
        refine lv_iconst (v := 0) hx hb dX6_move_30 (by decide) ?_
        refine k_ci (wr := []) [] rfl (by decide) [0, 1, 2, 3, 4, 5, 6, 7, 8, 9] rfl (by decide) hP hD hS hA (k_V (n := 1) (ci := 6) (As := [.int 0]) (rest := []) (wc := [(m0, .inr (6, [.int (nI (th)), .ref ms, .ref mv, .int (nI (sm)), .ref mt, .int (nI (ln)), .ref mh, .ref mb, .ref mg, .ref mq, .ref ml, .ref mf, .int nw, .int fw, .int (nI (tp)), .int (bI (wr)), .long dg])), (ms, .inl (G.2.1, 88, .inl s0)), (mv, .inl (G.2.1, 528, .inl sv)), (mt, .inl (G.2.1, 60, .inl tx)), (mh, .inl (G.2.1, 21, .inl ht)), (mb, .inl (G.2.1, 21, .inl bu)), (mg, .inl (G.2.1, 21, .inl hg)), (mq, .inl (G.2.1, 21, .inl pq)), (ml, .inl (G.2.1, 21, .inl ld)), (mf, .inl (G.2.1, 20, .inl fo))]) hx hb hml hown hts hK hP hD hl (c_X6_holds l G m0 ms mv mt mh mb mg mq ml mf th s0 sv sm tx ln ht bu hg pq ld fo nw fw tp wr dg 0 H.size (by first | assumption | omega)) [0, 1, 2, 3, 4, 5, 6, 7, 8, 9] rfl (by decide) gX6_move_X6_holds rfl rfl rfl (by decide +kernel) rfl ⟨Nat.le_of_ble_eq_true rfl, Nat.le_of_ble_eq_true rfl⟩ rfl rfl rfl (Nat.le_of_ble_eq_true rfl) dX6_move_31 ⟨Nat.le_of_ble_eq_true rfl, Nat.le_of_ble_eq_true rfl⟩) (fun r_31 u H locs hw hP hD hS => ?_)
        have hw_31 : r_31 = bI (decide (0 = 0)) := hw
        have hP : va_P G.1 vwCl [(m0, .inr (6, [.int (nI (0)), .ref ms, .ref mv, .int (nI (sm)), .ref mt, .int (nI (ln)), .ref mh, .ref mb, .ref mg, .ref mq, .ref ml, .ref mf, .int nw, .int fw, .int (nI (tp)), .int (bI (wr)), .long dg])), (ms, .inl (G.2.1, 88, .inl s0)), (mv, .inl (G.2.1, 528, .inl sv)), (mt, .inl (G.2.1, 60, .inl tx)), (mh, .inl (G.2.1, 21, .inl ht)), (mb, .inl (G.2.1, 21, .inl bu)), (mg, .inl (G.2.1, 21, .inl hg)), (mq, .inl (G.2.1, 21, .inl pq)), (ml, .inl (G.2.1, 21, .inl ld)), (mf, .inl (G.2.1, 20, .inl fo))] H := hP
        have hD : va_D A [(m0, .inr (6, [.int (nI (0)), .ref ms, .ref mv, .int (nI (sm)), .ref mt, .int (nI (ln)), .ref mh, .ref mb, .ref mg, .ref mq, .ref ml, .ref mf, .int nw, .int fw, .int (nI (tp)), .int (bI (wr)), .long dg])), (ms, .inl (G.2.1, 88, .inl s0)), (mv, .inl (G.2.1, 528, .inl sv)), (mt, .inl (G.2.1, 60, .inl tx)), (mh, .inl (G.2.1, 21, .inl ht)), (mb, .inl (G.2.1, 21, .inl bu)), (mg, .inl (G.2.1, 21, .inl hg)), (mq, .inl (G.2.1, 21, .inl pq)), (ml, .inl (G.2.1, 21, .inl ld)), (mf, .inl (G.2.1, 20, .inl fo))] := hD
        subst hw_31
        refine g_ti (y := nI 1) (by rw [decide_eq_true (show (0 : Nat) = 0 from rfl)]; rfl) ?_
        refine g_if_ne (a := 1) (tgt := 39) hx hb (by omega) dX6_move_34 (by decide) (fun c_34 => ?_) (fun c_34 => ?_)
        · skip
          refine lv_aload_n hx hb dX6_move_39 rfl (lv_at hl 0 rfl) ?_
          refine k_cv (wr := []) [] rfl (by decide) [0, 1, 2, 3, 4, 5, 6, 7, 8, 9] rfl (by decide) hP hD hS hA (k_V (n := 0) (ci := 6) (As := []) (rest := []) (wc := [(m0, .inr (6, [.int (nI (0)), .ref ms, .ref mv, .int (nI (sm)), .ref mt, .int (nI (ln)), .ref mh, .ref mb, .ref mg, .ref mq, .ref ml, .ref mf, .int nw, .int fw, .int (nI (tp)), .int (bI (wr)), .long dg])), (ms, .inl (G.2.1, 88, .inl s0)), (mv, .inl (G.2.1, 528, .inl sv)), (mt, .inl (G.2.1, 60, .inl tx)), (mh, .inl (G.2.1, 21, .inl ht)), (mb, .inl (G.2.1, 21, .inl bu)), (mg, .inl (G.2.1, 21, .inl hg)), (mq, .inl (G.2.1, 21, .inl pq)), (ml, .inl (G.2.1, 21, .inl ld)), (mf, .inl (G.2.1, 20, .inl fo))]) hx hb hml hown hts hK hP hD hl (c_X6_save l G m0 ms mv mt mh mb mg mq ml mf 0 s0 sv sm tx ln ht bu hg pq ld fo nw fw tp wr dg H.size (by first | assumption | omega)) [0, 1, 2, 3, 4, 5, 6, 7, 8, 9] rfl (by decide) gX6_move_X6_save rfl rfl rfl (by decide +kernel) rfl ⟨Nat.le_of_ble_eq_true rfl, Nat.le_of_ble_eq_true rfl⟩ rfl rfl rfl (Nat.le_of_ble_eq_true rfl) dX6_move_40 ⟨Nat.le_of_ble_eq_true rfl, Nat.le_of_ble_eq_true rfl⟩) (fun u H locs hw hP hD hS => ?_)
          have hw_40 : True := hw
          have hP : va_P G.1 vwCl [(m0, .inr (6, [.int (nI (0)), .ref ms, .ref mv, .int (nI (mSM sm)), .ref mt, .int (nI (ln)), .ref mh, .ref mb, .ref mg, .ref mq, .ref ml, .ref mf, .int nw, .int fw, .int (nI (tp)), .int (bI (wr)), .long dg])), (ms, .inl (G.2.1, 88, .inl s0)), (mv, .inl (G.2.1, 528, .inl (mSV sv sm s0))), (mt, .inl (G.2.1, 60, .inl tx)), (mh, .inl (G.2.1, 21, .inl ht)), (mb, .inl (G.2.1, 21, .inl bu)), (mg, .inl (G.2.1, 21, .inl hg)), (mq, .inl (G.2.1, 21, .inl pq)), (ml, .inl (G.2.1, 21, .inl ld)), (mf, .inl (G.2.1, 20, .inl fo))] H := hP
          have hD : va_D A [(m0, .inr (6, [.int (nI (0)), .ref ms, .ref mv, .int (nI (mSM sm)), .ref mt, .int (nI (ln)), .ref mh, .ref mb, .ref mg, .ref mq, .ref ml, .ref mf, .int nw, .int fw, .int (nI (tp)), .int (bI (wr)), .long dg])), (ms, .inl (G.2.1, 88, .inl s0)), (mv, .inl (G.2.1, 528, .inl (mSV sv sm s0))), (mt, .inl (G.2.1, 60, .inl tx)), (mh, .inl (G.2.1, 21, .inl ht)), (mb, .inl (G.2.1, 21, .inl bu)), (mg, .inl (G.2.1, 21, .inl hg)), (mq, .inl (G.2.1, 21, .inl pq)), (ml, .inl (G.2.1, 21, .inl ld)), (mf, .inl (G.2.1, 20, .inl fo))] := hD
          refine lv_aload_n hx hb dX6_move_43 rfl (lv_at hl 0 rfl) ?_
          refine lv_iload_n hx hb dX6_move_44 rfl (lv_at hl 1 rfl) ?_
          refine lv_iload_n hx hb dX6_move_45 rfl (lv_at hl 2 rfl) ?_
          refine k_ci (wr := []) [] rfl (by decide) [0, 1, 2, 3, 4, 5, 6, 7, 8, 9] rfl (by decide) hP hD hS hA (k_V (n := 2) (ci := 6) (As := [.int (nI (j)), .int (nI (t))]) (rest := []) (wc := [(m0, .inr (6, [.int (nI (0)), .ref ms, .ref mv, .int (nI ((mSM sm))), .ref mt, .int (nI (ln)), .ref mh, .ref mb, .ref mg, .ref mq, .ref ml, .ref mf, .int nw, .int fw, .int (nI (tp)), .int (bI (wr)), .long dg])), (ms, .inl (G.2.1, 88, .inl s0)), (mv, .inl (G.2.1, 528, .inl (mSV sv sm s0))), (mt, .inl (G.2.1, 60, .inl tx)), (mh, .inl (G.2.1, 21, .inl ht)), (mb, .inl (G.2.1, 21, .inl bu)), (mg, .inl (G.2.1, 21, .inl hg)), (mq, .inl (G.2.1, 21, .inl pq)), (ml, .inl (G.2.1, 21, .inl ld)), (mf, .inl (G.2.1, 20, .inl fo))]) hx hb hml hown hts hK hP hD hl (c_X6_moves l G m0 ms mv mt mh mb mg mq ml mf 0 s0 (mSV sv sm s0) (mSM sm) tx ln ht bu hg pq ld fo nw fw tp wr dg j t H.size (by first | assumption | omega) (by first | assumption | omega)) [0, 1, 2, 3, 4, 5, 6, 7, 8, 9] rfl (by decide) gX6_move_X6_moves rfl rfl rfl (by decide +kernel) rfl ⟨Nat.le_of_ble_eq_true rfl, Nat.le_of_ble_eq_true rfl⟩ rfl rfl rfl (Nat.le_of_ble_eq_true rfl) dX6_move_46 ⟨Nat.le_of_ble_eq_true rfl, Nat.le_of_ble_eq_true rfl⟩) (fun r_46 u H locs hw hP hD hS => ?_)
          have hw_46 : r_46 = mvBy (mWE s0) j t := hw
          have hP : va_P G.1 vwCl [(m0, .inr (6, [.int (nI (0)), .ref ms, .ref mv, .int (nI ((mSM sm))), .ref mt, .int (nI (ln)), .ref mh, .ref mb, .ref mg, .ref mq, .ref ml, .ref mf, .int nw, .int fw, .int (nI (tp)), .int (bI (wr)), .long dg])), (ms, .inl (G.2.1, 88, .inl (mMov s0 j t))), (mv, .inl (G.2.1, 528, .inl (mSV sv sm s0))), (mt, .inl (G.2.1, 60, .inl tx)), (mh, .inl (G.2.1, 21, .inl ht)), (mb, .inl (G.2.1, 21, .inl bu)), (mg, .inl (G.2.1, 21, .inl hg)), (mq, .inl (G.2.1, 21, .inl pq)), (ml, .inl (G.2.1, 21, .inl ld)), (mf, .inl (G.2.1, 20, .inl fo))] H := hP
          have hD : va_D A [(m0, .inr (6, [.int (nI (0)), .ref ms, .ref mv, .int (nI ((mSM sm))), .ref mt, .int (nI (ln)), .ref mh, .ref mb, .ref mg, .ref mq, .ref ml, .ref mf, .int nw, .int fw, .int (nI (tp)), .int (bI (wr)), .long dg])), (ms, .inl (G.2.1, 88, .inl (mMov s0 j t))), (mv, .inl (G.2.1, 528, .inl (mSV sv sm s0))), (mt, .inl (G.2.1, 60, .inl tx)), (mh, .inl (G.2.1, 21, .inl ht)), (mb, .inl (G.2.1, 21, .inl bu)), (mg, .inl (G.2.1, 21, .inl hg)), (mq, .inl (G.2.1, 21, .inl pq)), (ml, .inl (G.2.1, 21, .inl ld)), (mf, .inl (G.2.1, 20, .inl fo))] := hD
          subst hw_46
          rw [hQ]
          exact k_iret (v := mvBy (mWE s0) j t) () [0, 1, 2, 3, 4, 5, 6, 7, 8, 9] hx hb hr hlocks (rfl) hK hP hD hS rfl (by decide) dX6_move_49
        · exact absurd c_34 (by decide)
      · exact absurd c_23 hjt
    · exact absurd c_14 (by decide)
set_option maxHeartbeats 4000000 in
set_option maxRecDepth 100000 in
theorem c_X6_set_1 (l : Launch) (G : kG) (m0 : Nat) (ms : Nat) (mv : Nat) (mt : Nat) (mh : Nat) (mb : Nat) (mg : Nat) (mq : Nat) (ml : Nat) (mf : Nat) (th : Nat) (s0 : Fn) (sv : Fn) (sm : Nat) (tx : Fn) (ln : Nat) (ht : Fn) (bu : Fn) (hg : Fn) (pq : Fn) (ld : Fn) (fo : Fn) (nw : Int32) (fw : Int32) (tp : Nat) (wr : Bool) (dg : Int64) (k : Int32) (v : Int32) (sz : Nat) (h1 : isN k 4 = false) : kMet l yX6_set wsX6_set ({ frames := 2, cells := 0, slots := 0, locals := 44 } : Room) G [.ref m0, .int k, .int v] [(m0, .inr (6, [.int (nI (th)), .ref ms, .ref mv, .int (nI (sm)), .ref mt, .int (nI (ln)), .ref mh, .ref mb, .ref mg, .ref mq, .ref ml, .ref mf, .int nw, .int fw, .int (nI (tp)), .int (bI (wr)), .long dg])), (ms, .inl (G.2.1, 88, .inl s0)), (mv, .inl (G.2.1, 528, .inl sv)), (mt, .inl (G.2.1, 60, .inl tx)), (mh, .inl (G.2.1, 21, .inl ht)), (mb, .inl (G.2.1, 21, .inl bu)), (mg, .inl (G.2.1, 21, .inl hg)), (mq, .inl (G.2.1, 21, .inl pq)), (ml, .inl (G.2.1, 21, .inl ld)), (mf, .inl (G.2.1, 20, .inl fo))] sz (kQi G (fun (r : Int32) (u : Unit) => r = 0) (fun (u : Unit) => [(m0, .inr (6, [.int (nI 1), .ref ms, .ref mv, .int (nI (sm)), .ref mt, .int (nI (ln)), .ref mh, .ref mb, .ref mg, .ref mq, .ref ml, .ref mf, .int nw, .int fw, .int (nI (tp)), .int (bI (wr)), .long dg])), (ms, .inl (G.2.1, 88, .inl s0)), (mv, .inl (G.2.1, 528, .inl sv)), (mt, .inl (G.2.1, 60, .inl tx)), (mh, .inl (G.2.1, 21, .inl ht)), (mb, .inl (G.2.1, 21, .inl bu)), (mg, .inl (G.2.1, 21, .inl hg)), (mq, .inl (G.2.1, 21, .inl pq)), (ml, .inl (G.2.1, 21, .inl ld)), (mf, .inl (G.2.1, 20, .inl fo))])) 0 0 := by
  refine k_entry (cc := cX6_set) (maxL := 5) (ret := (some .int)) (by decide) rfl (Nat.le_of_ble_eq_true rfl) ?_
  intro p e s m args below meth c A ls H locs Q hQ hx hb hml hr hts hown hlocks hin hA hP hK hD hS hl
  have hown : s.vm.findClass RX6 = some m.cls := hown
  have hl : lv_has ls 5 [(0, .ref m0), (1, .int k), (2, .int v)] := hl
  refine lv_iload_n hx hb dX6_set_0 rfl (lv_at hl 1 rfl) ?_
  refine lv_iconst (v := 1) hx hb dX6_set_1 (by decide) ?_
  have L20 : ∀ (lo : Int32), (lo = sLow k) → ∀ (H : Heap) (locs : List Loc) (ls : Array Slot), va_P G.1 vwCl [(m0, .inr (6, [.int (nI (th)), .ref ms, .ref mv, .int (nI (sm)), .ref mt, .int (nI (ln)), .ref mh, .ref mb, .ref mg, .ref mq, .ref ml, .ref mf, .int nw, .int fw, .int (nI (tp)), .int (bI (wr)), .long dg])), (ms, .inl (G.2.1, 88, .inl s0)), (mv, .inl (G.2.1, 528, .inl sv)), (mt, .inl (G.2.1, 60, .inl tx)), (mh, .inl (G.2.1, 21, .inl ht)), (mb, .inl (G.2.1, 21, .inl bu)), (mg, .inl (G.2.1, 21, .inl hg)), (mq, .inl (G.2.1, 21, .inl pq)), (ml, .inl (G.2.1, 21, .inl ld)), (mf, .inl (G.2.1, 20, .inl fo))] H → va_D A [(m0, .inr (6, [.int (nI (th)), .ref ms, .ref mv, .int (nI (sm)), .ref mt, .int (nI (ln)), .ref mh, .ref mb, .ref mg, .ref mq, .ref ml, .ref mf, .int nw, .int fw, .int (nI (tp)), .int (bI (wr)), .long dg])), (ms, .inl (G.2.1, 88, .inl s0)), (mv, .inl (G.2.1, 528, .inl sv)), (mt, .inl (G.2.1, 60, .inl tx)), (mh, .inl (G.2.1, 21, .inl ht)), (mb, .inl (G.2.1, 21, .inl bu)), (mg, .inl (G.2.1, 21, .inl hg)), (mq, .inl (G.2.1, 21, .inl pq)), (ml, .inl (G.2.1, 21, .inl ld)), (mf, .inl (G.2.1, 20, .inl fo))] → va_S A s.heap H locs → lv_has ls 5 [(0, .ref m0), (1, .int k), (2, .int v)] → W p l e ({ frames := 2, cells := 0, slots := 0, locals := 44 } : Room) s m args below meth c H locs 0 0 Q (F0 m 20 ls [.int lo]) := by
    intro lo elo H locs ls hP hD hS hl
    subst elo
    refine lv_istore_n (lv' := [(3, .int (sLow k)), (0, .ref m0), (1, .int k), (2, .int v)]) hx hb dX6_set_20 rfl hl (by decide) rfl (fun ls hl => ?_)
    refine lv_iload_n hx hb dX6_set_21 rfl (lv_at hl 2 rfl) ?_
    refine lv_iconst (v := 1) hx hb dX6_set_22 (by decide) ?_
    have L44 : ∀ (hi : Int32), (hi = sHigh k) → ∀ (H : Heap) (locs : List Loc) (ls : Array Slot), va_P G.1 vwCl [(m0, .inr (6, [.int (nI (th)), .ref ms, .ref mv, .int (nI (sm)), .ref mt, .int (nI (ln)), .ref mh, .ref mb, .ref mg, .ref mq, .ref ml, .ref mf, .int nw, .int fw, .int (nI (tp)), .int (bI (wr)), .long dg])), (ms, .inl (G.2.1, 88, .inl s0)), (mv, .inl (G.2.1, 528, .inl sv)), (mt, .inl (G.2.1, 60, .inl tx)), (mh, .inl (G.2.1, 21, .inl ht)), (mb, .inl (G.2.1, 21, .inl bu)), (mg, .inl (G.2.1, 21, .inl hg)), (mq, .inl (G.2.1, 21, .inl pq)), (ml, .inl (G.2.1, 21, .inl ld)), (mf, .inl (G.2.1, 20, .inl fo))] H → va_D A [(m0, .inr (6, [.int (nI (th)), .ref ms, .ref mv, .int (nI (sm)), .ref mt, .int (nI (ln)), .ref mh, .ref mb, .ref mg, .ref mq, .ref ml, .ref mf, .int nw, .int fw, .int (nI (tp)), .int (bI (wr)), .long dg])), (ms, .inl (G.2.1, 88, .inl s0)), (mv, .inl (G.2.1, 528, .inl sv)), (mt, .inl (G.2.1, 60, .inl tx)), (mh, .inl (G.2.1, 21, .inl ht)), (mb, .inl (G.2.1, 21, .inl bu)), (mg, .inl (G.2.1, 21, .inl hg)), (mq, .inl (G.2.1, 21, .inl pq)), (ml, .inl (G.2.1, 21, .inl ld)), (mf, .inl (G.2.1, 20, .inl fo))] → va_S A s.heap H locs → lv_has ls 5 [(3, .int (sLow k)), (0, .ref m0), (1, .int k), (2, .int v)] → W p l e ({ frames := 2, cells := 0, slots := 0, locals := 44 } : Room) s m args below meth c H locs 0 0 Q (F0 m 44 ls [.int hi]) := by
      intro hi ehi H locs ls hP hD hS hl
      subst ehi
      refine lv_istore (lv' := [(4, .int (sHigh k)), (3, .int (sLow k)), (0, .ref m0), (1, .int k), (2, .int v)]) hx hb dX6_set_44 hl (by decide) rfl (fun ls hl => ?_)
      refine lv_aload_n hx hb dX6_set_46 rfl (lv_at hl 2 rfl) ?_
      refine lv_iload_n hx hb dX6_set_47 rfl (lv_at hl 3 rfl) ?_
      refine lv_iconst (v := 0) hx hb dX6_set_48 (by decide) ?_
      refine lv_iconst (v := 3) hx hb dX6_set_49 (by decide) ?_
      refine k_ci (wr := [(m0, .inr (6, [.int (nI (th)), .ref ms, .ref mv, .int (nI (sm)), .ref mt, .int (nI (ln)), .ref mh, .ref mb, .ref mg, .ref mq, .ref ml, .ref mf, .int nw, .int fw, .int (nI (tp)), .int (bI (wr)), .long dg])), (ms, .inl (G.2.1, 88, .inl s0)), (mv, .inl (G.2.1, 528, .inl sv)), (mt, .inl (G.2.1, 60, .inl tx)), (mh, .inl (G.2.1, 21, .inl ht)), (mb, .inl (G.2.1, 21, .inl bu)), (mg, .inl (G.2.1, 21, .inl hg)), (mq, .inl (G.2.1, 21, .inl pq)), (ml, .inl (G.2.1, 21, .inl ld)), (mf, .inl (G.2.1, 20, .inl fo))]) [0, 1, 2, 3, 4, 5, 6, 7, 8, 9] rfl (by decide) [] rfl (by decide) hP hD hS hA (k_S (n := 3) (As := [.int k, .int 0, .int 3]) (rest := [.ref m0]) (wc := []) hx hb hml hown hts hK hP hD hl (c_X6_in l G k 0 3 H.size) [] rfl (by decide) gX6_set_X6_in rfl rfl rfl (by decide +kernel) rfl ⟨Nat.le_of_ble_eq_true rfl, Nat.le_of_ble_eq_true rfl⟩ rfl (Nat.le_of_ble_eq_true rfl) dX6_set_50 ⟨Nat.le_of_ble_eq_true rfl, Nat.le_of_ble_eq_true rfl⟩) (fun r_50 u H locs hw hP hD hS => ?_)
      have hw_50 : r_50 = bI (decide (0 ≤ k ∧ k ≤ 3)) := hw
      have hP : va_P G.1 vwCl [(m0, .inr (6, [.int (nI (th)), .ref ms, .ref mv, .int (nI (sm)), .ref mt, .int (nI (ln)), .ref mh, .ref mb, .ref mg, .ref mq, .ref ml, .ref mf, .int nw, .int fw, .int (nI (tp)), .int (bI (wr)), .long dg])), (ms, .inl (G.2.1, 88, .inl s0)), (mv, .inl (G.2.1, 528, .inl sv)), (mt, .inl (G.2.1, 60, .inl tx)), (mh, .inl (G.2.1, 21, .inl ht)), (mb, .inl (G.2.1, 21, .inl bu)), (mg, .inl (G.2.1, 21, .inl hg)), (mq, .inl (G.2.1, 21, .inl pq)), (ml, .inl (G.2.1, 21, .inl ld)), (mf, .inl (G.2.1, 20, .inl fo))] H := hP
      have hD : va_D A [(m0, .inr (6, [.int (nI (th)), .ref ms, .ref mv, .int (nI (sm)), .ref mt, .int (nI (ln)), .ref mh, .ref mb, .ref mg, .ref mq, .ref ml, .ref mf, .int nw, .int fw, .int (nI (tp)), .int (bI (wr)), .long dg])), (ms, .inl (G.2.1, 88, .inl s0)), (mv, .inl (G.2.1, 528, .inl sv)), (mt, .inl (G.2.1, 60, .inl tx)), (mh, .inl (G.2.1, 21, .inl ht)), (mb, .inl (G.2.1, 21, .inl bu)), (mg, .inl (G.2.1, 21, .inl hg)), (mq, .inl (G.2.1, 21, .inl pq)), (ml, .inl (G.2.1, 21, .inl ld)), (mf, .inl (G.2.1, 20, .inl fo))] := hD
      subst hw_50
      refine g_ti (y := nI 0) (in4_f h1) ?_
      refine g_if_ne (a := 0) (tgt := 60) hx hb (by omega) dX6_set_53 (by decide) (fun c_53 => ?_) (fun c_53 => ?_)
      · exact absurd c_53 (by decide)
      · skip
        refine lv_iconst (v := 1) hx hb dX6_set_56 (by decide) ?_
        refine lv_goto (tgt := 75) hx hb dX6_set_57 (by decide) ?_
        refine k_ci (wr := []) [] rfl (by decide) [0, 1, 2, 3, 4, 5, 6, 7, 8, 9] rfl (by decide) hP hD hS hA (k_V (n := 1) (ci := 6) (As := [.int 1]) (rest := []) (wc := [(m0, .inr (6, [.int (nI (th)), .ref ms, .ref mv, .int (nI (sm)), .ref mt, .int (nI (ln)), .ref mh, .ref mb, .ref mg, .ref mq, .ref ml, .ref mf, .int nw, .int fw, .int (nI (tp)), .int (bI (wr)), .long dg])), (ms, .inl (G.2.1, 88, .inl s0)), (mv, .inl (G.2.1, 528, .inl sv)), (mt, .inl (G.2.1, 60, .inl tx)), (mh, .inl (G.2.1, 21, .inl ht)), (mb, .inl (G.2.1, 21, .inl bu)), (mg, .inl (G.2.1, 21, .inl hg)), (mq, .inl (G.2.1, 21, .inl pq)), (ml, .inl (G.2.1, 21, .inl ld)), (mf, .inl (G.2.1, 20, .inl fo))]) hx hb hml hown hts hK hP hD hl (c_X6_holds l G m0 ms mv mt mh mb mg mq ml mf th s0 sv sm tx ln ht bu hg pq ld fo nw fw tp wr dg 1 H.size (by first | assumption | omega)) [0, 1, 2, 3, 4, 5, 6, 7, 8, 9] rfl (by decide) gX6_set_X6_holds rfl rfl rfl (by decide +kernel) rfl ⟨Nat.le_of_ble_eq_true rfl, Nat.le_of_ble_eq_true rfl⟩ rfl rfl rfl (Nat.le_of_ble_eq_true rfl) dX6_set_75 ⟨Nat.le_of_ble_eq_true rfl, Nat.le_of_ble_eq_true rfl⟩) (fun r_75 u H locs hw hP hD hS => ?_)
        have hw_75 : r_75 = bI (decide (1 = 0)) := hw
        have hP : va_P G.1 vwCl [(m0, .inr (6, [.int (nI (1)), .ref ms, .ref mv, .int (nI (sm)), .ref mt, .int (nI (ln)), .ref mh, .ref mb, .ref mg, .ref mq, .ref ml, .ref mf, .int nw, .int fw, .int (nI (tp)), .int (bI (wr)), .long dg])), (ms, .inl (G.2.1, 88, .inl s0)), (mv, .inl (G.2.1, 528, .inl sv)), (mt, .inl (G.2.1, 60, .inl tx)), (mh, .inl (G.2.1, 21, .inl ht)), (mb, .inl (G.2.1, 21, .inl bu)), (mg, .inl (G.2.1, 21, .inl hg)), (mq, .inl (G.2.1, 21, .inl pq)), (ml, .inl (G.2.1, 21, .inl ld)), (mf, .inl (G.2.1, 20, .inl fo))] H := hP
        have hD : va_D A [(m0, .inr (6, [.int (nI (1)), .ref ms, .ref mv, .int (nI (sm)), .ref mt, .int (nI (ln)), .ref mh, .ref mb, .ref mg, .ref mq, .ref ml, .ref mf, .int nw, .int fw, .int (nI (tp)), .int (bI (wr)), .long dg])), (ms, .inl (G.2.1, 88, .inl s0)), (mv, .inl (G.2.1, 528, .inl sv)), (mt, .inl (G.2.1, 60, .inl tx)), (mh, .inl (G.2.1, 21, .inl ht)), (mb, .inl (G.2.1, 21, .inl bu)), (mg, .inl (G.2.1, 21, .inl hg)), (mq, .inl (G.2.1, 21, .inl pq)), (ml, .inl (G.2.1, 21, .inl ld)), (mf, .inl (G.2.1, 20, .inl fo))] := hD
        subst hw_75
        refine g_ti (y := nI 0) (by rw [decide_eq_false (by decide)]; rfl) ?_
        refine g_if_eq (a := 0) (tgt := 95) hx hb (by omega) dX6_set_78 (by decide) (fun c_78 => ?_) (fun c_78 => ?_)
        · skip
          refine lv_iconst (v := 0) hx hb dX6_set_95 (by decide) ?_
          rw [hQ]
          exact k_iret (v := 0) () [0, 1, 2, 3, 4, 5, 6, 7, 8, 9] hx hb hr hlocks (rfl) hK hP hD hS rfl (by decide) dX6_set_96
        · exact absurd c_78 (by decide)
    refine lv_icmp_ne (tgt := 31) hx hb dX6_set_23 (by decide) (fun c_23 => ?_) (fun c_23 => ?_)
    · skip
      refine lv_iload_n hx hb dX6_set_31 rfl (lv_at hl 2 rfl) ?_
      refine lv_iconst (v := 3) hx hb dX6_set_32 (by decide) ?_
      refine lv_icmp_ne (tgt := 42) hx hb dX6_set_33 (by decide) (fun c_33 => ?_) (fun c_33 => ?_)
      · skip
        refine lv_bipush (v := 20) hx hb dX6_set_42 (by decide) ?_
        exact L44 20 (by unfold sHigh; rw [if_neg c_23, if_neg c_33]) _ _ _ hP hD hS (lv_sub hl [0, 1, 2, 3] rfl)
      · skip
        refine lv_sipush (v := 999) hx hb dX6_set_36 (by decide) ?_
        refine lv_goto (tgt := 44) hx hb dX6_set_39 (by decide) ?_
        exact L44 999 (by rw [c_33]; rfl) _ _ _ hP hD hS (lv_sub hl [0, 1, 2, 3] rfl)
    · skip
      refine lv_bipush (v := 40) hx hb dX6_set_26 (by decide) ?_
      refine lv_goto (tgt := 44) hx hb dX6_set_28 (by decide) ?_
      exact L44 40 (by rw [c_23]; rfl) _ _ _ hP hD hS (lv_sub hl [0, 1, 2, 3] rfl)
  refine lv_icmp_ne (tgt := 10) hx hb dX6_set_2 (by decide) (fun c_2 => ?_) (fun c_2 => ?_)
  · skip
    refine lv_iload_n hx hb dX6_set_10 rfl (lv_at hl 1 rfl) ?_
    refine lv_iconst (v := 3) hx hb dX6_set_11 (by decide) ?_
    refine lv_icmp_ne (tgt := 19) hx hb dX6_set_12 (by decide) (fun c_12 => ?_) (fun c_12 => ?_)
    · skip
      refine lv_iconst (v := 0) hx hb dX6_set_19 (by decide) ?_
      exact L20 0 (by unfold sLow; rw [if_neg c_2, if_neg c_12]) _ _ _ hP hD hS (lv_sub hl [0, 1, 2] rfl)
    · skip
      refine lv_iconst (v := 1) hx hb dX6_set_15 (by decide) ?_
      refine lv_goto (tgt := 20) hx hb dX6_set_16 (by decide) ?_
      exact L20 1 (by rw [c_12]; rfl) _ _ _ hP hD hS (lv_sub hl [0, 1, 2] rfl)
  · skip
    refine lv_bipush (v := (-40)) hx hb dX6_set_5 (by decide) ?_
    refine lv_goto (tgt := 20) hx hb dX6_set_7 (by decide) ?_
    exact L20 (-40) (by rw [c_2]; rfl) _ _ _ hP hD hS (lv_sub hl [0, 1, 2] rfl)
set_option maxHeartbeats 4000000 in
set_option maxRecDepth 100000 in
theorem c_X6_set_2 (l : Launch) (G : kG) (m0 : Nat) (ms : Nat) (mv : Nat) (mt : Nat) (mh : Nat) (mb : Nat) (mg : Nat) (mq : Nat) (ml : Nat) (mf : Nat) (th : Nat) (s0 : Fn) (sv : Fn) (sm : Nat) (tx : Fn) (ln : Nat) (ht : Fn) (bu : Fn) (hg : Fn) (pq : Fn) (ld : Fn) (fo : Fn) (nw : Int32) (fw : Int32) (tp : Nat) (wr : Bool) (dg : Int64) (k : Int32) (v : Int32) (sz : Nat) (h1 : isN k 4 = true) (h2 : ¬ (sLow k ≤ v ∧ v ≤ sHigh k)) : kMet l yX6_set wsX6_set ({ frames := 2, cells := 0, slots := 0, locals := 44 } : Room) G [.ref m0, .int k, .int v] [(m0, .inr (6, [.int (nI (th)), .ref ms, .ref mv, .int (nI (sm)), .ref mt, .int (nI (ln)), .ref mh, .ref mb, .ref mg, .ref mq, .ref ml, .ref mf, .int nw, .int fw, .int (nI (tp)), .int (bI (wr)), .long dg])), (ms, .inl (G.2.1, 88, .inl s0)), (mv, .inl (G.2.1, 528, .inl sv)), (mt, .inl (G.2.1, 60, .inl tx)), (mh, .inl (G.2.1, 21, .inl ht)), (mb, .inl (G.2.1, 21, .inl bu)), (mg, .inl (G.2.1, 21, .inl hg)), (mq, .inl (G.2.1, 21, .inl pq)), (ml, .inl (G.2.1, 21, .inl ld)), (mf, .inl (G.2.1, 20, .inl fo))] sz (kQi G (fun (r : Int32) (u : Unit) => r = 0) (fun (u : Unit) => [(m0, .inr (6, [.int (nI 2), .ref ms, .ref mv, .int (nI (sm)), .ref mt, .int (nI (ln)), .ref mh, .ref mb, .ref mg, .ref mq, .ref ml, .ref mf, .int nw, .int fw, .int (nI (tp)), .int (bI (wr)), .long dg])), (ms, .inl (G.2.1, 88, .inl s0)), (mv, .inl (G.2.1, 528, .inl sv)), (mt, .inl (G.2.1, 60, .inl tx)), (mh, .inl (G.2.1, 21, .inl ht)), (mb, .inl (G.2.1, 21, .inl bu)), (mg, .inl (G.2.1, 21, .inl hg)), (mq, .inl (G.2.1, 21, .inl pq)), (ml, .inl (G.2.1, 21, .inl ld)), (mf, .inl (G.2.1, 20, .inl fo))])) 0 0 := by
  refine k_entry (cc := cX6_set) (maxL := 5) (ret := (some .int)) (by decide) rfl (Nat.le_of_ble_eq_true rfl) ?_
  intro p e s m args below meth c A ls H locs Q hQ hx hb hml hr hts hown hlocks hin hA hP hK hD hS hl
  have hown : s.vm.findClass RX6 = some m.cls := hown
  have hl : lv_has ls 5 [(0, .ref m0), (1, .int k), (2, .int v)] := hl
  refine lv_iload_n hx hb dX6_set_0 rfl (lv_at hl 1 rfl) ?_
  refine lv_iconst (v := 1) hx hb dX6_set_1 (by decide) ?_
  have L20 : ∀ (lo : Int32), (lo = sLow k) → ∀ (H : Heap) (locs : List Loc) (ls : Array Slot), va_P G.1 vwCl [(m0, .inr (6, [.int (nI (th)), .ref ms, .ref mv, .int (nI (sm)), .ref mt, .int (nI (ln)), .ref mh, .ref mb, .ref mg, .ref mq, .ref ml, .ref mf, .int nw, .int fw, .int (nI (tp)), .int (bI (wr)), .long dg])), (ms, .inl (G.2.1, 88, .inl s0)), (mv, .inl (G.2.1, 528, .inl sv)), (mt, .inl (G.2.1, 60, .inl tx)), (mh, .inl (G.2.1, 21, .inl ht)), (mb, .inl (G.2.1, 21, .inl bu)), (mg, .inl (G.2.1, 21, .inl hg)), (mq, .inl (G.2.1, 21, .inl pq)), (ml, .inl (G.2.1, 21, .inl ld)), (mf, .inl (G.2.1, 20, .inl fo))] H → va_D A [(m0, .inr (6, [.int (nI (th)), .ref ms, .ref mv, .int (nI (sm)), .ref mt, .int (nI (ln)), .ref mh, .ref mb, .ref mg, .ref mq, .ref ml, .ref mf, .int nw, .int fw, .int (nI (tp)), .int (bI (wr)), .long dg])), (ms, .inl (G.2.1, 88, .inl s0)), (mv, .inl (G.2.1, 528, .inl sv)), (mt, .inl (G.2.1, 60, .inl tx)), (mh, .inl (G.2.1, 21, .inl ht)), (mb, .inl (G.2.1, 21, .inl bu)), (mg, .inl (G.2.1, 21, .inl hg)), (mq, .inl (G.2.1, 21, .inl pq)), (ml, .inl (G.2.1, 21, .inl ld)), (mf, .inl (G.2.1, 20, .inl fo))] → va_S A s.heap H locs → lv_has ls 5 [(0, .ref m0), (1, .int k), (2, .int v)] → W p l e ({ frames := 2, cells := 0, slots := 0, locals := 44 } : Room) s m args below meth c H locs 0 0 Q (F0 m 20 ls [.int lo]) := by
    intro lo elo H locs ls hP hD hS hl
    subst elo
    refine lv_istore_n (lv' := [(3, .int (sLow k)), (0, .ref m0), (1, .int k), (2, .int v)]) hx hb dX6_set_20 rfl hl (by decide) rfl (fun ls hl => ?_)
    refine lv_iload_n hx hb dX6_set_21 rfl (lv_at hl 2 rfl) ?_
    refine lv_iconst (v := 1) hx hb dX6_set_22 (by decide) ?_
    have L44 : ∀ (hi : Int32), (hi = sHigh k) → ∀ (H : Heap) (locs : List Loc) (ls : Array Slot), va_P G.1 vwCl [(m0, .inr (6, [.int (nI (th)), .ref ms, .ref mv, .int (nI (sm)), .ref mt, .int (nI (ln)), .ref mh, .ref mb, .ref mg, .ref mq, .ref ml, .ref mf, .int nw, .int fw, .int (nI (tp)), .int (bI (wr)), .long dg])), (ms, .inl (G.2.1, 88, .inl s0)), (mv, .inl (G.2.1, 528, .inl sv)), (mt, .inl (G.2.1, 60, .inl tx)), (mh, .inl (G.2.1, 21, .inl ht)), (mb, .inl (G.2.1, 21, .inl bu)), (mg, .inl (G.2.1, 21, .inl hg)), (mq, .inl (G.2.1, 21, .inl pq)), (ml, .inl (G.2.1, 21, .inl ld)), (mf, .inl (G.2.1, 20, .inl fo))] H → va_D A [(m0, .inr (6, [.int (nI (th)), .ref ms, .ref mv, .int (nI (sm)), .ref mt, .int (nI (ln)), .ref mh, .ref mb, .ref mg, .ref mq, .ref ml, .ref mf, .int nw, .int fw, .int (nI (tp)), .int (bI (wr)), .long dg])), (ms, .inl (G.2.1, 88, .inl s0)), (mv, .inl (G.2.1, 528, .inl sv)), (mt, .inl (G.2.1, 60, .inl tx)), (mh, .inl (G.2.1, 21, .inl ht)), (mb, .inl (G.2.1, 21, .inl bu)), (mg, .inl (G.2.1, 21, .inl hg)), (mq, .inl (G.2.1, 21, .inl pq)), (ml, .inl (G.2.1, 21, .inl ld)), (mf, .inl (G.2.1, 20, .inl fo))] → va_S A s.heap H locs → lv_has ls 5 [(3, .int (sLow k)), (0, .ref m0), (1, .int k), (2, .int v)] → W p l e ({ frames := 2, cells := 0, slots := 0, locals := 44 } : Room) s m args below meth c H locs 0 0 Q (F0 m 44 ls [.int hi]) := by
      intro hi ehi H locs ls hP hD hS hl
      subst ehi
      refine lv_istore (lv' := [(4, .int (sHigh k)), (3, .int (sLow k)), (0, .ref m0), (1, .int k), (2, .int v)]) hx hb dX6_set_44 hl (by decide) rfl (fun ls hl => ?_)
      refine lv_aload_n hx hb dX6_set_46 rfl (lv_at hl 2 rfl) ?_
      refine lv_iload_n hx hb dX6_set_47 rfl (lv_at hl 3 rfl) ?_
      refine lv_iconst (v := 0) hx hb dX6_set_48 (by decide) ?_
      refine lv_iconst (v := 3) hx hb dX6_set_49 (by decide) ?_
      refine k_ci (wr := [(m0, .inr (6, [.int (nI (th)), .ref ms, .ref mv, .int (nI (sm)), .ref mt, .int (nI (ln)), .ref mh, .ref mb, .ref mg, .ref mq, .ref ml, .ref mf, .int nw, .int fw, .int (nI (tp)), .int (bI (wr)), .long dg])), (ms, .inl (G.2.1, 88, .inl s0)), (mv, .inl (G.2.1, 528, .inl sv)), (mt, .inl (G.2.1, 60, .inl tx)), (mh, .inl (G.2.1, 21, .inl ht)), (mb, .inl (G.2.1, 21, .inl bu)), (mg, .inl (G.2.1, 21, .inl hg)), (mq, .inl (G.2.1, 21, .inl pq)), (ml, .inl (G.2.1, 21, .inl ld)), (mf, .inl (G.2.1, 20, .inl fo))]) [0, 1, 2, 3, 4, 5, 6, 7, 8, 9] rfl (by decide) [] rfl (by decide) hP hD hS hA (k_S (n := 3) (As := [.int k, .int 0, .int 3]) (rest := [.ref m0]) (wc := []) hx hb hml hown hts hK hP hD hl (c_X6_in l G k 0 3 H.size) [] rfl (by decide) gX6_set_X6_in rfl rfl rfl (by decide +kernel) rfl ⟨Nat.le_of_ble_eq_true rfl, Nat.le_of_ble_eq_true rfl⟩ rfl (Nat.le_of_ble_eq_true rfl) dX6_set_50 ⟨Nat.le_of_ble_eq_true rfl, Nat.le_of_ble_eq_true rfl⟩) (fun r_50 u H locs hw hP hD hS => ?_)
      have hw_50 : r_50 = bI (decide (0 ≤ k ∧ k ≤ 3)) := hw
      have hP : va_P G.1 vwCl [(m0, .inr (6, [.int (nI (th)), .ref ms, .ref mv, .int (nI (sm)), .ref mt, .int (nI (ln)), .ref mh, .ref mb, .ref mg, .ref mq, .ref ml, .ref mf, .int nw, .int fw, .int (nI (tp)), .int (bI (wr)), .long dg])), (ms, .inl (G.2.1, 88, .inl s0)), (mv, .inl (G.2.1, 528, .inl sv)), (mt, .inl (G.2.1, 60, .inl tx)), (mh, .inl (G.2.1, 21, .inl ht)), (mb, .inl (G.2.1, 21, .inl bu)), (mg, .inl (G.2.1, 21, .inl hg)), (mq, .inl (G.2.1, 21, .inl pq)), (ml, .inl (G.2.1, 21, .inl ld)), (mf, .inl (G.2.1, 20, .inl fo))] H := hP
      have hD : va_D A [(m0, .inr (6, [.int (nI (th)), .ref ms, .ref mv, .int (nI (sm)), .ref mt, .int (nI (ln)), .ref mh, .ref mb, .ref mg, .ref mq, .ref ml, .ref mf, .int nw, .int fw, .int (nI (tp)), .int (bI (wr)), .long dg])), (ms, .inl (G.2.1, 88, .inl s0)), (mv, .inl (G.2.1, 528, .inl sv)), (mt, .inl (G.2.1, 60, .inl tx)), (mh, .inl (G.2.1, 21, .inl ht)), (mb, .inl (G.2.1, 21, .inl bu)), (mg, .inl (G.2.1, 21, .inl hg)), (mq, .inl (G.2.1, 21, .inl pq)), (ml, .inl (G.2.1, 21, .inl ld)), (mf, .inl (G.2.1, 20, .inl fo))] := hD
      subst hw_50
      refine g_ti (y := nI 1) (in4_t h1) ?_
      refine g_if_ne (a := 1) (tgt := 60) hx hb (by omega) dX6_set_53 (by decide) (fun c_53 => ?_) (fun c_53 => ?_)
      · skip
        refine lv_iload_n hx hb dX6_set_60 rfl (lv_at hl 4 rfl) ?_
        refine lv_iload_n hx hb dX6_set_61 rfl (lv_at hl 1 rfl) ?_
        refine lv_iload hx hb dX6_set_62 (lv_at hl 0 rfl) ?_
        refine k_ci (wr := [(m0, .inr (6, [.int (nI (th)), .ref ms, .ref mv, .int (nI (sm)), .ref mt, .int (nI (ln)), .ref mh, .ref mb, .ref mg, .ref mq, .ref ml, .ref mf, .int nw, .int fw, .int (nI (tp)), .int (bI (wr)), .long dg])), (ms, .inl (G.2.1, 88, .inl s0)), (mv, .inl (G.2.1, 528, .inl sv)), (mt, .inl (G.2.1, 60, .inl tx)), (mh, .inl (G.2.1, 21, .inl ht)), (mb, .inl (G.2.1, 21, .inl bu)), (mg, .inl (G.2.1, 21, .inl hg)), (mq, .inl (G.2.1, 21, .inl pq)), (ml, .inl (G.2.1, 21, .inl ld)), (mf, .inl (G.2.1, 20, .inl fo))]) [0, 1, 2, 3, 4, 5, 6, 7, 8, 9] rfl (by decide) [] rfl (by decide) hP hD hS hA (k_S (n := 3) (As := [.int v, .int (sLow k), .int (sHigh k)]) (rest := [.ref m0]) (wc := []) hx hb hml hown hts hK hP hD hl (c_X6_in l G v (sLow k) (sHigh k) H.size) [] rfl (by decide) gX6_set_X6_in rfl rfl rfl (by decide +kernel) rfl ⟨Nat.le_of_ble_eq_true rfl, Nat.le_of_ble_eq_true rfl⟩ rfl (Nat.le_of_ble_eq_true rfl) dX6_set_64 ⟨Nat.le_of_ble_eq_true rfl, Nat.le_of_ble_eq_true rfl⟩) (fun r_64 u H locs hw hP hD hS => ?_)
        have hw_64 : r_64 = bI (decide ((sLow k) ≤ v ∧ v ≤ (sHigh k))) := hw
        have hP : va_P G.1 vwCl [(m0, .inr (6, [.int (nI (th)), .ref ms, .ref mv, .int (nI (sm)), .ref mt, .int (nI (ln)), .ref mh, .ref mb, .ref mg, .ref mq, .ref ml, .ref mf, .int nw, .int fw, .int (nI (tp)), .int (bI (wr)), .long dg])), (ms, .inl (G.2.1, 88, .inl s0)), (mv, .inl (G.2.1, 528, .inl sv)), (mt, .inl (G.2.1, 60, .inl tx)), (mh, .inl (G.2.1, 21, .inl ht)), (mb, .inl (G.2.1, 21, .inl bu)), (mg, .inl (G.2.1, 21, .inl hg)), (mq, .inl (G.2.1, 21, .inl pq)), (ml, .inl (G.2.1, 21, .inl ld)), (mf, .inl (G.2.1, 20, .inl fo))] H := hP
        have hD : va_D A [(m0, .inr (6, [.int (nI (th)), .ref ms, .ref mv, .int (nI (sm)), .ref mt, .int (nI (ln)), .ref mh, .ref mb, .ref mg, .ref mq, .ref ml, .ref mf, .int nw, .int fw, .int (nI (tp)), .int (bI (wr)), .long dg])), (ms, .inl (G.2.1, 88, .inl s0)), (mv, .inl (G.2.1, 528, .inl sv)), (mt, .inl (G.2.1, 60, .inl tx)), (mh, .inl (G.2.1, 21, .inl ht)), (mb, .inl (G.2.1, 21, .inl bu)), (mg, .inl (G.2.1, 21, .inl hg)), (mq, .inl (G.2.1, 21, .inl pq)), (ml, .inl (G.2.1, 21, .inl ld)), (mf, .inl (G.2.1, 20, .inl fo))] := hD
        subst hw_64
        refine g_ti (y := nI 0) (by rw [decide_eq_false h2]; rfl) ?_
        refine g_if_ne (a := 0) (tgt := 74) hx hb (by omega) dX6_set_67 (by decide) (fun c_67 => ?_) (fun c_67 => ?_)
        · exact absurd c_67 (by decide)
        · skip
          refine lv_iconst (v := 2) hx hb dX6_set_70 (by decide) ?_
          refine lv_goto (tgt := 75) hx hb dX6_set_71 (by decide) ?_
          refine k_ci (wr := []) [] rfl (by decide) [0, 1, 2, 3, 4, 5, 6, 7, 8, 9] rfl (by decide) hP hD hS hA (k_V (n := 1) (ci := 6) (As := [.int 2]) (rest := []) (wc := [(m0, .inr (6, [.int (nI (th)), .ref ms, .ref mv, .int (nI (sm)), .ref mt, .int (nI (ln)), .ref mh, .ref mb, .ref mg, .ref mq, .ref ml, .ref mf, .int nw, .int fw, .int (nI (tp)), .int (bI (wr)), .long dg])), (ms, .inl (G.2.1, 88, .inl s0)), (mv, .inl (G.2.1, 528, .inl sv)), (mt, .inl (G.2.1, 60, .inl tx)), (mh, .inl (G.2.1, 21, .inl ht)), (mb, .inl (G.2.1, 21, .inl bu)), (mg, .inl (G.2.1, 21, .inl hg)), (mq, .inl (G.2.1, 21, .inl pq)), (ml, .inl (G.2.1, 21, .inl ld)), (mf, .inl (G.2.1, 20, .inl fo))]) hx hb hml hown hts hK hP hD hl (c_X6_holds l G m0 ms mv mt mh mb mg mq ml mf th s0 sv sm tx ln ht bu hg pq ld fo nw fw tp wr dg 2 H.size (by first | assumption | omega)) [0, 1, 2, 3, 4, 5, 6, 7, 8, 9] rfl (by decide) gX6_set_X6_holds rfl rfl rfl (by decide +kernel) rfl ⟨Nat.le_of_ble_eq_true rfl, Nat.le_of_ble_eq_true rfl⟩ rfl rfl rfl (Nat.le_of_ble_eq_true rfl) dX6_set_75 ⟨Nat.le_of_ble_eq_true rfl, Nat.le_of_ble_eq_true rfl⟩) (fun r_75 u H locs hw hP hD hS => ?_)
          have hw_75 : r_75 = bI (decide (2 = 0)) := hw
          have hP : va_P G.1 vwCl [(m0, .inr (6, [.int (nI (2)), .ref ms, .ref mv, .int (nI (sm)), .ref mt, .int (nI (ln)), .ref mh, .ref mb, .ref mg, .ref mq, .ref ml, .ref mf, .int nw, .int fw, .int (nI (tp)), .int (bI (wr)), .long dg])), (ms, .inl (G.2.1, 88, .inl s0)), (mv, .inl (G.2.1, 528, .inl sv)), (mt, .inl (G.2.1, 60, .inl tx)), (mh, .inl (G.2.1, 21, .inl ht)), (mb, .inl (G.2.1, 21, .inl bu)), (mg, .inl (G.2.1, 21, .inl hg)), (mq, .inl (G.2.1, 21, .inl pq)), (ml, .inl (G.2.1, 21, .inl ld)), (mf, .inl (G.2.1, 20, .inl fo))] H := hP
          have hD : va_D A [(m0, .inr (6, [.int (nI (2)), .ref ms, .ref mv, .int (nI (sm)), .ref mt, .int (nI (ln)), .ref mh, .ref mb, .ref mg, .ref mq, .ref ml, .ref mf, .int nw, .int fw, .int (nI (tp)), .int (bI (wr)), .long dg])), (ms, .inl (G.2.1, 88, .inl s0)), (mv, .inl (G.2.1, 528, .inl sv)), (mt, .inl (G.2.1, 60, .inl tx)), (mh, .inl (G.2.1, 21, .inl ht)), (mb, .inl (G.2.1, 21, .inl bu)), (mg, .inl (G.2.1, 21, .inl hg)), (mq, .inl (G.2.1, 21, .inl pq)), (ml, .inl (G.2.1, 21, .inl ld)), (mf, .inl (G.2.1, 20, .inl fo))] := hD
          subst hw_75
          refine g_ti (y := nI 0) (by rw [decide_eq_false (by decide)]; rfl) ?_
          refine g_if_eq (a := 0) (tgt := 95) hx hb (by omega) dX6_set_78 (by decide) (fun c_78 => ?_) (fun c_78 => ?_)
          · skip
            refine lv_iconst (v := 0) hx hb dX6_set_95 (by decide) ?_
            rw [hQ]
            exact k_iret (v := 0) () [0, 1, 2, 3, 4, 5, 6, 7, 8, 9] hx hb hr hlocks (rfl) hK hP hD hS rfl (by decide) dX6_set_96
          · exact absurd c_78 (by decide)
      · exact absurd c_53 (by decide)
    refine lv_icmp_ne (tgt := 31) hx hb dX6_set_23 (by decide) (fun c_23 => ?_) (fun c_23 => ?_)
    · skip
      refine lv_iload_n hx hb dX6_set_31 rfl (lv_at hl 2 rfl) ?_
      refine lv_iconst (v := 3) hx hb dX6_set_32 (by decide) ?_
      refine lv_icmp_ne (tgt := 42) hx hb dX6_set_33 (by decide) (fun c_33 => ?_) (fun c_33 => ?_)
      · skip
        refine lv_bipush (v := 20) hx hb dX6_set_42 (by decide) ?_
        exact L44 20 (by unfold sHigh; rw [if_neg c_23, if_neg c_33]) _ _ _ hP hD hS (lv_sub hl [0, 1, 2, 3] rfl)
      · skip
        refine lv_sipush (v := 999) hx hb dX6_set_36 (by decide) ?_
        refine lv_goto (tgt := 44) hx hb dX6_set_39 (by decide) ?_
        exact L44 999 (by rw [c_33]; rfl) _ _ _ hP hD hS (lv_sub hl [0, 1, 2, 3] rfl)
    · skip
      refine lv_bipush (v := 40) hx hb dX6_set_26 (by decide) ?_
      refine lv_goto (tgt := 44) hx hb dX6_set_28 (by decide) ?_
      exact L44 40 (by rw [c_23]; rfl) _ _ _ hP hD hS (lv_sub hl [0, 1, 2, 3] rfl)
  refine lv_icmp_ne (tgt := 10) hx hb dX6_set_2 (by decide) (fun c_2 => ?_) (fun c_2 => ?_)
  · skip
    refine lv_iload_n hx hb dX6_set_10 rfl (lv_at hl 1 rfl) ?_
    refine lv_iconst (v := 3) hx hb dX6_set_11 (by decide) ?_
    refine lv_icmp_ne (tgt := 19) hx hb dX6_set_12 (by decide) (fun c_12 => ?_) (fun c_12 => ?_)
    · skip
      refine lv_iconst (v := 0) hx hb dX6_set_19 (by decide) ?_
      exact L20 0 (by unfold sLow; rw [if_neg c_2, if_neg c_12]) _ _ _ hP hD hS (lv_sub hl [0, 1, 2] rfl)
    · skip
      refine lv_iconst (v := 1) hx hb dX6_set_15 (by decide) ?_
      refine lv_goto (tgt := 20) hx hb dX6_set_16 (by decide) ?_
      exact L20 1 (by rw [c_12]; rfl) _ _ _ hP hD hS (lv_sub hl [0, 1, 2] rfl)
  · skip
    refine lv_bipush (v := (-40)) hx hb dX6_set_5 (by decide) ?_
    refine lv_goto (tgt := 20) hx hb dX6_set_7 (by decide) ?_
    exact L20 (-40) (by rw [c_2]; rfl) _ _ _ hP hD hS (lv_sub hl [0, 1, 2] rfl)
set_option maxHeartbeats 4000000 in
set_option maxRecDepth 100000 in
theorem c_X6_set_0 (l : Launch) (G : kG) (m0 : Nat) (ms : Nat) (mv : Nat) (mt : Nat) (mh : Nat) (mb : Nat) (mg : Nat) (mq : Nat) (ml : Nat) (mf : Nat) (th : Nat) (s0 : Fn) (sv : Fn) (sm : Nat) (tx : Fn) (ln : Nat) (ht : Fn) (bu : Fn) (hg : Fn) (pq : Fn) (ld : Fn) (fo : Fn) (nw : Int32) (fw : Int32) (tp : Nat) (wr : Bool) (dg : Int64) (j : Nat) (v : Int32) (sz : Nat) (hsm : sm ≤ 6) (hj : j < 4) (h2 : sLow (nI j) ≤ v ∧ v ≤ sHigh (nI j)) : kMet l yX6_set wsX6_set ({ frames := 2, cells := 0, slots := 0, locals := 44 } : Room) G [.ref m0, .int (nI (j)), .int v] [(m0, .inr (6, [.int (nI (th)), .ref ms, .ref mv, .int (nI (sm)), .ref mt, .int (nI (ln)), .ref mh, .ref mb, .ref mg, .ref mq, .ref ml, .ref mf, .int nw, .int fw, .int (nI (tp)), .int (bI (wr)), .long dg])), (ms, .inl (G.2.1, 88, .inl s0)), (mv, .inl (G.2.1, 528, .inl sv)), (mt, .inl (G.2.1, 60, .inl tx)), (mh, .inl (G.2.1, 21, .inl ht)), (mb, .inl (G.2.1, 21, .inl bu)), (mg, .inl (G.2.1, 21, .inl hg)), (mq, .inl (G.2.1, 21, .inl pq)), (ml, .inl (G.2.1, 21, .inl ld)), (mf, .inl (G.2.1, 20, .inl fo))] sz (kQi G (fun (r : Int32) (u : Unit) => r = s0 (1 + j) + 100) (fun (u : Unit) => [(m0, .inr (6, [.int (nI 0), .ref ms, .ref mv, .int (nI (mSM sm)), .ref mt, .int (nI (ln)), .ref mh, .ref mb, .ref mg, .ref mq, .ref ml, .ref mf, .int nw, .int fw, .int (nI (tp)), .int (bI (wr)), .long dg])), (ms, .inl (G.2.1, 88, .inl (upd s0 (1 + j) v))), (mv, .inl (G.2.1, 528, .inl (mSV sv sm s0))), (mt, .inl (G.2.1, 60, .inl tx)), (mh, .inl (G.2.1, 21, .inl ht)), (mb, .inl (G.2.1, 21, .inl bu)), (mg, .inl (G.2.1, 21, .inl hg)), (mq, .inl (G.2.1, 21, .inl pq)), (ml, .inl (G.2.1, 21, .inl ld)), (mf, .inl (G.2.1, 20, .inl fo))])) 0 0 := by
  refine k_entry (cc := cX6_set) (maxL := 5) (ret := (some .int)) (by decide) rfl (Nat.le_of_ble_eq_true rfl) ?_
  intro p e s m args below meth c A ls H locs Q hQ hx hb hml hr hts hown hlocks hin hA hP hK hD hS hl
  have hown : s.vm.findClass RX6 = some m.cls := hown
  have hl : lv_has ls 5 [(0, .ref m0), (1, .int (nI (j))), (2, .int v)] := hl
  refine lv_iload_n hx hb dX6_set_0 rfl (lv_at hl 1 rfl) ?_
  refine lv_iconst (v := 1) hx hb dX6_set_1 (by decide) ?_
  have L20 : ∀ (lo : Int32), (lo = sLow (nI j)) → ∀ (H : Heap) (locs : List Loc) (ls : Array Slot), va_P G.1 vwCl [(m0, .inr (6, [.int (nI (th)), .ref ms, .ref mv, .int (nI (sm)), .ref mt, .int (nI (ln)), .ref mh, .ref mb, .ref mg, .ref mq, .ref ml, .ref mf, .int nw, .int fw, .int (nI (tp)), .int (bI (wr)), .long dg])), (ms, .inl (G.2.1, 88, .inl s0)), (mv, .inl (G.2.1, 528, .inl sv)), (mt, .inl (G.2.1, 60, .inl tx)), (mh, .inl (G.2.1, 21, .inl ht)), (mb, .inl (G.2.1, 21, .inl bu)), (mg, .inl (G.2.1, 21, .inl hg)), (mq, .inl (G.2.1, 21, .inl pq)), (ml, .inl (G.2.1, 21, .inl ld)), (mf, .inl (G.2.1, 20, .inl fo))] H → va_D A [(m0, .inr (6, [.int (nI (th)), .ref ms, .ref mv, .int (nI (sm)), .ref mt, .int (nI (ln)), .ref mh, .ref mb, .ref mg, .ref mq, .ref ml, .ref mf, .int nw, .int fw, .int (nI (tp)), .int (bI (wr)), .long dg])), (ms, .inl (G.2.1, 88, .inl s0)), (mv, .inl (G.2.1, 528, .inl sv)), (mt, .inl (G.2.1, 60, .inl tx)), (mh, .inl (G.2.1, 21, .inl ht)), (mb, .inl (G.2.1, 21, .inl bu)), (mg, .inl (G.2.1, 21, .inl hg)), (mq, .inl (G.2.1, 21, .inl pq)), (ml, .inl (G.2.1, 21, .inl ld)), (mf, .inl (G.2.1, 20, .inl fo))] → va_S A s.heap H locs → lv_has ls 5 [(0, .ref m0), (1, .int (nI (j))), (2, .int v)] → W p l e ({ frames := 2, cells := 0, slots := 0, locals := 44 } : Room) s m args below meth c H locs 0 0 Q (F0 m 20 ls [.int lo]) := by
    intro lo elo H locs ls hP hD hS hl
    subst elo
    refine lv_istore_n (lv' := [(3, .int (sLow (nI j))), (0, .ref m0), (1, .int (nI (j))), (2, .int v)]) hx hb dX6_set_20 rfl hl (by decide) rfl (fun ls hl => ?_)
    refine lv_iload_n hx hb dX6_set_21 rfl (lv_at hl 2 rfl) ?_
    refine lv_iconst (v := 1) hx hb dX6_set_22 (by decide) ?_
    have L44 : ∀ (hi : Int32), (hi = sHigh (nI j)) → ∀ (H : Heap) (locs : List Loc) (ls : Array Slot), va_P G.1 vwCl [(m0, .inr (6, [.int (nI (th)), .ref ms, .ref mv, .int (nI (sm)), .ref mt, .int (nI (ln)), .ref mh, .ref mb, .ref mg, .ref mq, .ref ml, .ref mf, .int nw, .int fw, .int (nI (tp)), .int (bI (wr)), .long dg])), (ms, .inl (G.2.1, 88, .inl s0)), (mv, .inl (G.2.1, 528, .inl sv)), (mt, .inl (G.2.1, 60, .inl tx)), (mh, .inl (G.2.1, 21, .inl ht)), (mb, .inl (G.2.1, 21, .inl bu)), (mg, .inl (G.2.1, 21, .inl hg)), (mq, .inl (G.2.1, 21, .inl pq)), (ml, .inl (G.2.1, 21, .inl ld)), (mf, .inl (G.2.1, 20, .inl fo))] H → va_D A [(m0, .inr (6, [.int (nI (th)), .ref ms, .ref mv, .int (nI (sm)), .ref mt, .int (nI (ln)), .ref mh, .ref mb, .ref mg, .ref mq, .ref ml, .ref mf, .int nw, .int fw, .int (nI (tp)), .int (bI (wr)), .long dg])), (ms, .inl (G.2.1, 88, .inl s0)), (mv, .inl (G.2.1, 528, .inl sv)), (mt, .inl (G.2.1, 60, .inl tx)), (mh, .inl (G.2.1, 21, .inl ht)), (mb, .inl (G.2.1, 21, .inl bu)), (mg, .inl (G.2.1, 21, .inl hg)), (mq, .inl (G.2.1, 21, .inl pq)), (ml, .inl (G.2.1, 21, .inl ld)), (mf, .inl (G.2.1, 20, .inl fo))] → va_S A s.heap H locs → lv_has ls 5 [(3, .int (sLow (nI j))), (0, .ref m0), (1, .int (nI (j))), (2, .int v)] → W p l e ({ frames := 2, cells := 0, slots := 0, locals := 44 } : Room) s m args below meth c H locs 0 0 Q (F0 m 44 ls [.int hi]) := by
      intro hi ehi H locs ls hP hD hS hl
      subst ehi
      refine lv_istore (lv' := [(4, .int (sHigh (nI j))), (3, .int (sLow (nI j))), (0, .ref m0), (1, .int (nI (j))), (2, .int v)]) hx hb dX6_set_44 hl (by decide) rfl (fun ls hl => ?_)
      refine lv_aload_n hx hb dX6_set_46 rfl (lv_at hl 2 rfl) ?_
      refine lv_iload_n hx hb dX6_set_47 rfl (lv_at hl 3 rfl) ?_
      refine lv_iconst (v := 0) hx hb dX6_set_48 (by decide) ?_
      refine lv_iconst (v := 3) hx hb dX6_set_49 (by decide) ?_
      refine k_ci (wr := [(m0, .inr (6, [.int (nI (th)), .ref ms, .ref mv, .int (nI (sm)), .ref mt, .int (nI (ln)), .ref mh, .ref mb, .ref mg, .ref mq, .ref ml, .ref mf, .int nw, .int fw, .int (nI (tp)), .int (bI (wr)), .long dg])), (ms, .inl (G.2.1, 88, .inl s0)), (mv, .inl (G.2.1, 528, .inl sv)), (mt, .inl (G.2.1, 60, .inl tx)), (mh, .inl (G.2.1, 21, .inl ht)), (mb, .inl (G.2.1, 21, .inl bu)), (mg, .inl (G.2.1, 21, .inl hg)), (mq, .inl (G.2.1, 21, .inl pq)), (ml, .inl (G.2.1, 21, .inl ld)), (mf, .inl (G.2.1, 20, .inl fo))]) [0, 1, 2, 3, 4, 5, 6, 7, 8, 9] rfl (by decide) [] rfl (by decide) hP hD hS hA (k_S (n := 3) (As := [.int (nI (j)), .int 0, .int 3]) (rest := [.ref m0]) (wc := []) hx hb hml hown hts hK hP hD hl (c_X6_in l G (nI (j)) 0 3 H.size) [] rfl (by decide) gX6_set_X6_in rfl rfl rfl (by decide +kernel) rfl ⟨Nat.le_of_ble_eq_true rfl, Nat.le_of_ble_eq_true rfl⟩ rfl (Nat.le_of_ble_eq_true rfl) dX6_set_50 ⟨Nat.le_of_ble_eq_true rfl, Nat.le_of_ble_eq_true rfl⟩) (fun r_50 u H locs hw hP hD hS => ?_)
      have hw_50 : r_50 = bI (decide (0 ≤ (nI (j)) ∧ (nI (j)) ≤ 3)) := hw
      have hP : va_P G.1 vwCl [(m0, .inr (6, [.int (nI (th)), .ref ms, .ref mv, .int (nI (sm)), .ref mt, .int (nI (ln)), .ref mh, .ref mb, .ref mg, .ref mq, .ref ml, .ref mf, .int nw, .int fw, .int (nI (tp)), .int (bI (wr)), .long dg])), (ms, .inl (G.2.1, 88, .inl s0)), (mv, .inl (G.2.1, 528, .inl sv)), (mt, .inl (G.2.1, 60, .inl tx)), (mh, .inl (G.2.1, 21, .inl ht)), (mb, .inl (G.2.1, 21, .inl bu)), (mg, .inl (G.2.1, 21, .inl hg)), (mq, .inl (G.2.1, 21, .inl pq)), (ml, .inl (G.2.1, 21, .inl ld)), (mf, .inl (G.2.1, 20, .inl fo))] H := hP
      have hD : va_D A [(m0, .inr (6, [.int (nI (th)), .ref ms, .ref mv, .int (nI (sm)), .ref mt, .int (nI (ln)), .ref mh, .ref mb, .ref mg, .ref mq, .ref ml, .ref mf, .int nw, .int fw, .int (nI (tp)), .int (bI (wr)), .long dg])), (ms, .inl (G.2.1, 88, .inl s0)), (mv, .inl (G.2.1, 528, .inl sv)), (mt, .inl (G.2.1, 60, .inl tx)), (mh, .inl (G.2.1, 21, .inl ht)), (mb, .inl (G.2.1, 21, .inl bu)), (mg, .inl (G.2.1, 21, .inl hg)), (mq, .inl (G.2.1, 21, .inl pq)), (ml, .inl (G.2.1, 21, .inl ld)), (mf, .inl (G.2.1, 20, .inl fo))] := hD
      subst hw_50
      refine g_ti (y := nI 1) (in4_t (by rw [isN_nI (by omega), decide_eq_true hj])) ?_
      refine g_if_ne (a := 1) (tgt := 60) hx hb (by omega) dX6_set_53 (by decide) (fun c_53 => ?_) (fun c_53 => ?_)
      · skip
        refine lv_iload_n hx hb dX6_set_60 rfl (lv_at hl 4 rfl) ?_
        refine lv_iload_n hx hb dX6_set_61 rfl (lv_at hl 1 rfl) ?_
        refine lv_iload hx hb dX6_set_62 (lv_at hl 0 rfl) ?_
        refine k_ci (wr := [(m0, .inr (6, [.int (nI (th)), .ref ms, .ref mv, .int (nI (sm)), .ref mt, .int (nI (ln)), .ref mh, .ref mb, .ref mg, .ref mq, .ref ml, .ref mf, .int nw, .int fw, .int (nI (tp)), .int (bI (wr)), .long dg])), (ms, .inl (G.2.1, 88, .inl s0)), (mv, .inl (G.2.1, 528, .inl sv)), (mt, .inl (G.2.1, 60, .inl tx)), (mh, .inl (G.2.1, 21, .inl ht)), (mb, .inl (G.2.1, 21, .inl bu)), (mg, .inl (G.2.1, 21, .inl hg)), (mq, .inl (G.2.1, 21, .inl pq)), (ml, .inl (G.2.1, 21, .inl ld)), (mf, .inl (G.2.1, 20, .inl fo))]) [0, 1, 2, 3, 4, 5, 6, 7, 8, 9] rfl (by decide) [] rfl (by decide) hP hD hS hA (k_S (n := 3) (As := [.int v, .int (sLow (nI j)), .int (sHigh (nI j))]) (rest := [.ref m0]) (wc := []) hx hb hml hown hts hK hP hD hl (c_X6_in l G v (sLow (nI j)) (sHigh (nI j)) H.size) [] rfl (by decide) gX6_set_X6_in rfl rfl rfl (by decide +kernel) rfl ⟨Nat.le_of_ble_eq_true rfl, Nat.le_of_ble_eq_true rfl⟩ rfl (Nat.le_of_ble_eq_true rfl) dX6_set_64 ⟨Nat.le_of_ble_eq_true rfl, Nat.le_of_ble_eq_true rfl⟩) (fun r_64 u H locs hw hP hD hS => ?_)
        have hw_64 : r_64 = bI (decide ((sLow (nI j)) ≤ v ∧ v ≤ (sHigh (nI j)))) := hw
        have hP : va_P G.1 vwCl [(m0, .inr (6, [.int (nI (th)), .ref ms, .ref mv, .int (nI (sm)), .ref mt, .int (nI (ln)), .ref mh, .ref mb, .ref mg, .ref mq, .ref ml, .ref mf, .int nw, .int fw, .int (nI (tp)), .int (bI (wr)), .long dg])), (ms, .inl (G.2.1, 88, .inl s0)), (mv, .inl (G.2.1, 528, .inl sv)), (mt, .inl (G.2.1, 60, .inl tx)), (mh, .inl (G.2.1, 21, .inl ht)), (mb, .inl (G.2.1, 21, .inl bu)), (mg, .inl (G.2.1, 21, .inl hg)), (mq, .inl (G.2.1, 21, .inl pq)), (ml, .inl (G.2.1, 21, .inl ld)), (mf, .inl (G.2.1, 20, .inl fo))] H := hP
        have hD : va_D A [(m0, .inr (6, [.int (nI (th)), .ref ms, .ref mv, .int (nI (sm)), .ref mt, .int (nI (ln)), .ref mh, .ref mb, .ref mg, .ref mq, .ref ml, .ref mf, .int nw, .int fw, .int (nI (tp)), .int (bI (wr)), .long dg])), (ms, .inl (G.2.1, 88, .inl s0)), (mv, .inl (G.2.1, 528, .inl sv)), (mt, .inl (G.2.1, 60, .inl tx)), (mh, .inl (G.2.1, 21, .inl ht)), (mb, .inl (G.2.1, 21, .inl bu)), (mg, .inl (G.2.1, 21, .inl hg)), (mq, .inl (G.2.1, 21, .inl pq)), (ml, .inl (G.2.1, 21, .inl ld)), (mf, .inl (G.2.1, 20, .inl fo))] := hD
        subst hw_64
        refine g_ti (y := nI 1) (by rw [decide_eq_true h2]; rfl) ?_
        refine g_if_ne (a := 1) (tgt := 74) hx hb (by omega) dX6_set_67 (by decide) (fun c_67 => ?_) (fun c_67 => ?_)
        · skip
          refine lv_iconst (v := 0) hx hb dX6_set_74 (by decide) ?_
          refine k_ci (wr := []) [] rfl (by decide) [0, 1, 2, 3, 4, 5, 6, 7, 8, 9] rfl (by decide) hP hD hS hA (k_V (n := 1) (ci := 6) (As := [.int 0]) (rest := []) (wc := [(m0, .inr (6, [.int (nI (th)), .ref ms, .ref mv, .int (nI (sm)), .ref mt, .int (nI (ln)), .ref mh, .ref mb, .ref mg, .ref mq, .ref ml, .ref mf, .int nw, .int fw, .int (nI (tp)), .int (bI (wr)), .long dg])), (ms, .inl (G.2.1, 88, .inl s0)), (mv, .inl (G.2.1, 528, .inl sv)), (mt, .inl (G.2.1, 60, .inl tx)), (mh, .inl (G.2.1, 21, .inl ht)), (mb, .inl (G.2.1, 21, .inl bu)), (mg, .inl (G.2.1, 21, .inl hg)), (mq, .inl (G.2.1, 21, .inl pq)), (ml, .inl (G.2.1, 21, .inl ld)), (mf, .inl (G.2.1, 20, .inl fo))]) hx hb hml hown hts hK hP hD hl (c_X6_holds l G m0 ms mv mt mh mb mg mq ml mf th s0 sv sm tx ln ht bu hg pq ld fo nw fw tp wr dg 0 H.size (by first | assumption | omega)) [0, 1, 2, 3, 4, 5, 6, 7, 8, 9] rfl (by decide) gX6_set_X6_holds rfl rfl rfl (by decide +kernel) rfl ⟨Nat.le_of_ble_eq_true rfl, Nat.le_of_ble_eq_true rfl⟩ rfl rfl rfl (Nat.le_of_ble_eq_true rfl) dX6_set_75 ⟨Nat.le_of_ble_eq_true rfl, Nat.le_of_ble_eq_true rfl⟩) (fun r_75 u H locs hw hP hD hS => ?_)
          have hw_75 : r_75 = bI (decide (0 = 0)) := hw
          have hP : va_P G.1 vwCl [(m0, .inr (6, [.int (nI (0)), .ref ms, .ref mv, .int (nI (sm)), .ref mt, .int (nI (ln)), .ref mh, .ref mb, .ref mg, .ref mq, .ref ml, .ref mf, .int nw, .int fw, .int (nI (tp)), .int (bI (wr)), .long dg])), (ms, .inl (G.2.1, 88, .inl s0)), (mv, .inl (G.2.1, 528, .inl sv)), (mt, .inl (G.2.1, 60, .inl tx)), (mh, .inl (G.2.1, 21, .inl ht)), (mb, .inl (G.2.1, 21, .inl bu)), (mg, .inl (G.2.1, 21, .inl hg)), (mq, .inl (G.2.1, 21, .inl pq)), (ml, .inl (G.2.1, 21, .inl ld)), (mf, .inl (G.2.1, 20, .inl fo))] H := hP
          have hD : va_D A [(m0, .inr (6, [.int (nI (0)), .ref ms, .ref mv, .int (nI (sm)), .ref mt, .int (nI (ln)), .ref mh, .ref mb, .ref mg, .ref mq, .ref ml, .ref mf, .int nw, .int fw, .int (nI (tp)), .int (bI (wr)), .long dg])), (ms, .inl (G.2.1, 88, .inl s0)), (mv, .inl (G.2.1, 528, .inl sv)), (mt, .inl (G.2.1, 60, .inl tx)), (mh, .inl (G.2.1, 21, .inl ht)), (mb, .inl (G.2.1, 21, .inl bu)), (mg, .inl (G.2.1, 21, .inl hg)), (mq, .inl (G.2.1, 21, .inl pq)), (ml, .inl (G.2.1, 21, .inl ld)), (mf, .inl (G.2.1, 20, .inl fo))] := hD
          subst hw_75
          refine g_ti (y := nI 1) (by rw [decide_eq_true (show (0 : Nat) = 0 from rfl)]; rfl) ?_
          refine g_if_eq (a := 1) (tgt := 95) hx hb (by omega) dX6_set_78 (by decide) (fun c_78 => ?_) (fun c_78 => ?_)
          · exact absurd c_78 (by decide)
          · skip
            refine lv_aload_n hx hb dX6_set_81 rfl (lv_at hl 2 rfl) ?_
            refine lv_iconst (v := 1) hx hb dX6_set_82 (by decide) ?_
            refine lv_iload_n hx hb dX6_set_83 rfl (lv_at hl 3 rfl) ?_
            refine lv_iadd hx hb dX6_set_84 ?_
            refine g_ti (y := nI (1 + j)) (nI_add (1) (j)) ?_
            refine lv_iload_n hx hb dX6_set_85 rfl (lv_at hl 4 rfl) ?_
            refine k_ci (wr := []) [] rfl (by decide) [0, 1, 2, 3, 4, 5, 6, 7, 8, 9] rfl (by decide) hP hD hS hA (k_V (n := 2) (ci := 6) (As := [.int (nI (1 + j)), .int v]) (rest := []) (wc := [(m0, .inr (6, [.int (nI (0)), .ref ms, .ref mv, .int (nI (sm)), .ref mt, .int (nI (ln)), .ref mh, .ref mb, .ref mg, .ref mq, .ref ml, .ref mf, .int nw, .int fw, .int (nI (tp)), .int (bI (wr)), .long dg])), (ms, .inl (G.2.1, 88, .inl s0)), (mv, .inl (G.2.1, 528, .inl sv)), (mt, .inl (G.2.1, 60, .inl tx)), (mh, .inl (G.2.1, 21, .inl ht)), (mb, .inl (G.2.1, 21, .inl bu)), (mg, .inl (G.2.1, 21, .inl hg)), (mq, .inl (G.2.1, 21, .inl pq)), (ml, .inl (G.2.1, 21, .inl ld)), (mf, .inl (G.2.1, 20, .inl fo))]) hx hb hml hown hts hK hP hD hl (c_X6_puts l G m0 ms mv mt mh mb mg mq ml mf 0 s0 sv sm tx ln ht bu hg pq ld fo nw fw tp wr dg (1 + j) v H.size (by first | assumption | omega) (by first | assumption | omega)) [0, 1, 2, 3, 4, 5, 6, 7, 8, 9] rfl (by decide) gX6_set_X6_puts rfl rfl rfl (by decide +kernel) rfl ⟨Nat.le_of_ble_eq_true rfl, Nat.le_of_ble_eq_true rfl⟩ rfl rfl rfl (Nat.le_of_ble_eq_true rfl) dX6_set_86 ⟨Nat.le_of_ble_eq_true rfl, Nat.le_of_ble_eq_true rfl⟩) (fun r_86 u H locs hw hP hD hS => ?_)
            have hw_86 : r_86 = s0 (1 + j) := hw
            have hP : va_P G.1 vwCl [(m0, .inr (6, [.int (nI (0)), .ref ms, .ref mv, .int (nI (mSM sm)), .ref mt, .int (nI (ln)), .ref mh, .ref mb, .ref mg, .ref mq, .ref ml, .ref mf, .int nw, .int fw, .int (nI (tp)), .int (bI (wr)), .long dg])), (ms, .inl (G.2.1, 88, .inl (upd s0 (1 + j) v))), (mv, .inl (G.2.1, 528, .inl (mSV sv sm s0))), (mt, .inl (G.2.1, 60, .inl tx)), (mh, .inl (G.2.1, 21, .inl ht)), (mb, .inl (G.2.1, 21, .inl bu)), (mg, .inl (G.2.1, 21, .inl hg)), (mq, .inl (G.2.1, 21, .inl pq)), (ml, .inl (G.2.1, 21, .inl ld)), (mf, .inl (G.2.1, 20, .inl fo))] H := hP
            have hD : va_D A [(m0, .inr (6, [.int (nI (0)), .ref ms, .ref mv, .int (nI (mSM sm)), .ref mt, .int (nI (ln)), .ref mh, .ref mb, .ref mg, .ref mq, .ref ml, .ref mf, .int nw, .int fw, .int (nI (tp)), .int (bI (wr)), .long dg])), (ms, .inl (G.2.1, 88, .inl (upd s0 (1 + j) v))), (mv, .inl (G.2.1, 528, .inl (mSV sv sm s0))), (mt, .inl (G.2.1, 60, .inl tx)), (mh, .inl (G.2.1, 21, .inl ht)), (mb, .inl (G.2.1, 21, .inl bu)), (mg, .inl (G.2.1, 21, .inl hg)), (mq, .inl (G.2.1, 21, .inl pq)), (ml, .inl (G.2.1, 21, .inl ld)), (mf, .inl (G.2.1, 20, .inl fo))] := hD
            subst hw_86
            refine lv_bipush (v := 100) hx hb dX6_set_89 (by decide) ?_
            refine lv_iadd hx hb dX6_set_91 ?_
            refine lv_goto (tgt := 96) hx hb dX6_set_92 (by decide) ?_
            rw [hQ]
            exact k_iret (v := (s0 (1 + j)) + 100) () [0, 1, 2, 3, 4, 5, 6, 7, 8, 9] hx hb hr hlocks (rfl) hK hP hD hS rfl (by decide) dX6_set_96
        · exact absurd c_67 (by decide)
      · exact absurd c_53 (by decide)
    refine lv_icmp_ne (tgt := 31) hx hb dX6_set_23 (by decide) (fun c_23 => ?_) (fun c_23 => ?_)
    · skip
      refine lv_iload_n hx hb dX6_set_31 rfl (lv_at hl 2 rfl) ?_
      refine lv_iconst (v := 3) hx hb dX6_set_32 (by decide) ?_
      refine lv_icmp_ne (tgt := 42) hx hb dX6_set_33 (by decide) (fun c_33 => ?_) (fun c_33 => ?_)
      · skip
        refine lv_bipush (v := 20) hx hb dX6_set_42 (by decide) ?_
        exact L44 20 (by unfold sHigh; rw [if_neg c_23, if_neg c_33]) _ _ _ hP hD hS (lv_sub hl [0, 1, 2, 3] rfl)
      · skip
        refine lv_sipush (v := 999) hx hb dX6_set_36 (by decide) ?_
        refine lv_goto (tgt := 44) hx hb dX6_set_39 (by decide) ?_
        exact L44 999 (by rw [c_33]; rfl) _ _ _ hP hD hS (lv_sub hl [0, 1, 2, 3] rfl)
    · skip
      refine lv_bipush (v := 40) hx hb dX6_set_26 (by decide) ?_
      refine lv_goto (tgt := 44) hx hb dX6_set_28 (by decide) ?_
      exact L44 40 (by rw [c_23]; rfl) _ _ _ hP hD hS (lv_sub hl [0, 1, 2, 3] rfl)
  refine lv_icmp_ne (tgt := 10) hx hb dX6_set_2 (by decide) (fun c_2 => ?_) (fun c_2 => ?_)
  · skip
    refine lv_iload_n hx hb dX6_set_10 rfl (lv_at hl 1 rfl) ?_
    refine lv_iconst (v := 3) hx hb dX6_set_11 (by decide) ?_
    refine lv_icmp_ne (tgt := 19) hx hb dX6_set_12 (by decide) (fun c_12 => ?_) (fun c_12 => ?_)
    · skip
      refine lv_iconst (v := 0) hx hb dX6_set_19 (by decide) ?_
      exact L20 0 (by unfold sLow; rw [if_neg c_2, if_neg c_12]) _ _ _ hP hD hS (lv_sub hl [0, 1, 2] rfl)
    · skip
      refine lv_iconst (v := 1) hx hb dX6_set_15 (by decide) ?_
      refine lv_goto (tgt := 20) hx hb dX6_set_16 (by decide) ?_
      exact L20 1 (by rw [c_12]; rfl) _ _ _ hP hD hS (lv_sub hl [0, 1, 2] rfl)
  · skip
    refine lv_bipush (v := (-40)) hx hb dX6_set_5 (by decide) ?_
    refine lv_goto (tgt := 20) hx hb dX6_set_7 (by decide) ?_
    exact L20 (-40) (by rw [c_2]; rfl) _ _ _ hP hD hS (lv_sub hl [0, 1, 2] rfl)
set_option maxHeartbeats 4000000 in
set_option maxRecDepth 100000 in
theorem c_X6_append_1 (l : Launch) (G : kG) (m0 : Nat) (ms : Nat) (mv : Nat) (mt : Nat) (mh : Nat) (mb : Nat) (mg : Nat) (mq : Nat) (ml : Nat) (mf : Nat) (th : Nat) (s0 : Fn) (sv : Fn) (sm : Nat) (tx : Fn) (ln : Nat) (ht : Fn) (bu : Fn) (hg : Fn) (pq : Fn) (ld : Fn) (fo : Fn) (nw : Int32) (fw : Int32) (tp : Nat) (wr : Bool) (dg : Int64) (v : Int32) (sz : Nat) (h1 : ¬ (33 ≤ v ∧ v ≤ 126)) : kMet l yX6_append wsX6_append ({ frames := 1, cells := 0, slots := 0, locals := 22 } : Room) G [.ref m0, .int v] [(m0, .inr (6, [.int (nI (th)), .ref ms, .ref mv, .int (nI (sm)), .ref mt, .int (nI (ln)), .ref mh, .ref mb, .ref mg, .ref mq, .ref ml, .ref mf, .int nw, .int fw, .int (nI (tp)), .int (bI (wr)), .long dg])), (ms, .inl (G.2.1, 88, .inl s0)), (mv, .inl (G.2.1, 528, .inl sv)), (mt, .inl (G.2.1, 60, .inl tx)), (mh, .inl (G.2.1, 21, .inl ht)), (mb, .inl (G.2.1, 21, .inl bu)), (mg, .inl (G.2.1, 21, .inl hg)), (mq, .inl (G.2.1, 21, .inl pq)), (ml, .inl (G.2.1, 21, .inl ld)), (mf, .inl (G.2.1, 20, .inl fo))] sz (kQi G (fun (r : Int32) (u : Unit) => r = 0) (fun (u : Unit) => [(m0, .inr (6, [.int (nI 1), .ref ms, .ref mv, .int (nI (sm)), .ref mt, .int (nI (ln)), .ref mh, .ref mb, .ref mg, .ref mq, .ref ml, .ref mf, .int nw, .int fw, .int (nI (tp)), .int (bI (wr)), .long dg])), (ms, .inl (G.2.1, 88, .inl s0)), (mv, .inl (G.2.1, 528, .inl sv)), (mt, .inl (G.2.1, 60, .inl tx)), (mh, .inl (G.2.1, 21, .inl ht)), (mb, .inl (G.2.1, 21, .inl bu)), (mg, .inl (G.2.1, 21, .inl hg)), (mq, .inl (G.2.1, 21, .inl pq)), (ml, .inl (G.2.1, 21, .inl ld)), (mf, .inl (G.2.1, 20, .inl fo))])) 0 0 := by
  refine k_entry (cc := cX6_append) (maxL := 2) (ret := (some .int)) (by decide) rfl (Nat.le_of_ble_eq_true rfl) ?_
  intro p e s m args below meth c A ls H locs Q hQ hx hb hml hr hts hown hlocks hin hA hP hK hD hS hl
  have hown : s.vm.findClass RX6 = some m.cls := hown
  have hl : lv_has ls 2 [(0, .ref m0), (1, .int v)] := hl
  refine lv_aload_n hx hb dX6_append_0 rfl (lv_at hl 0 rfl) ?_
  refine lv_iload_n hx hb dX6_append_1 rfl (lv_at hl 1 rfl) ?_
  refine lv_bipush (v := 33) hx hb dX6_append_2 (by decide) ?_
  refine lv_bipush (v := 126) hx hb dX6_append_4 (by decide) ?_
  refine k_ci (wr := [(m0, .inr (6, [.int (nI (th)), .ref ms, .ref mv, .int (nI (sm)), .ref mt, .int (nI (ln)), .ref mh, .ref mb, .ref mg, .ref mq, .ref ml, .ref mf, .int nw, .int fw, .int (nI (tp)), .int (bI (wr)), .long dg])), (ms, .inl (G.2.1, 88, .inl s0)), (mv, .inl (G.2.1, 528, .inl sv)), (mt, .inl (G.2.1, 60, .inl tx)), (mh, .inl (G.2.1, 21, .inl ht)), (mb, .inl (G.2.1, 21, .inl bu)), (mg, .inl (G.2.1, 21, .inl hg)), (mq, .inl (G.2.1, 21, .inl pq)), (ml, .inl (G.2.1, 21, .inl ld)), (mf, .inl (G.2.1, 20, .inl fo))]) [0, 1, 2, 3, 4, 5, 6, 7, 8, 9] rfl (by decide) [] rfl (by decide) hP hD hS hA (k_S (n := 3) (As := [.int v, .int 33, .int 126]) (rest := [.ref m0]) (wc := []) hx hb hml hown hts hK hP hD hl (c_X6_in l G v 33 126 H.size) [] rfl (by decide) gX6_append_X6_in rfl rfl rfl (by decide +kernel) rfl ⟨Nat.le_of_ble_eq_true rfl, Nat.le_of_ble_eq_true rfl⟩ rfl (Nat.le_of_ble_eq_true rfl) dX6_append_6 ⟨Nat.le_of_ble_eq_true rfl, Nat.le_of_ble_eq_true rfl⟩) (fun r_6 u H locs hw hP hD hS => ?_)
  have hw_6 : r_6 = bI (decide (33 ≤ v ∧ v ≤ 126)) := hw
  have hP : va_P G.1 vwCl [(m0, .inr (6, [.int (nI (th)), .ref ms, .ref mv, .int (nI (sm)), .ref mt, .int (nI (ln)), .ref mh, .ref mb, .ref mg, .ref mq, .ref ml, .ref mf, .int nw, .int fw, .int (nI (tp)), .int (bI (wr)), .long dg])), (ms, .inl (G.2.1, 88, .inl s0)), (mv, .inl (G.2.1, 528, .inl sv)), (mt, .inl (G.2.1, 60, .inl tx)), (mh, .inl (G.2.1, 21, .inl ht)), (mb, .inl (G.2.1, 21, .inl bu)), (mg, .inl (G.2.1, 21, .inl hg)), (mq, .inl (G.2.1, 21, .inl pq)), (ml, .inl (G.2.1, 21, .inl ld)), (mf, .inl (G.2.1, 20, .inl fo))] H := hP
  have hD : va_D A [(m0, .inr (6, [.int (nI (th)), .ref ms, .ref mv, .int (nI (sm)), .ref mt, .int (nI (ln)), .ref mh, .ref mb, .ref mg, .ref mq, .ref ml, .ref mf, .int nw, .int fw, .int (nI (tp)), .int (bI (wr)), .long dg])), (ms, .inl (G.2.1, 88, .inl s0)), (mv, .inl (G.2.1, 528, .inl sv)), (mt, .inl (G.2.1, 60, .inl tx)), (mh, .inl (G.2.1, 21, .inl ht)), (mb, .inl (G.2.1, 21, .inl bu)), (mg, .inl (G.2.1, 21, .inl hg)), (mq, .inl (G.2.1, 21, .inl pq)), (ml, .inl (G.2.1, 21, .inl ld)), (mf, .inl (G.2.1, 20, .inl fo))] := hD
  subst hw_6
  refine g_ti (y := nI 0) (by rw [decide_eq_false h1]; rfl) ?_
  refine g_if_ne (a := 0) (tgt := 16) hx hb (by omega) dX6_append_9 (by decide) (fun c_9 => ?_) (fun c_9 => ?_)
  · exact absurd c_9 (by decide)
  · skip
    refine lv_iconst (v := 1) hx hb dX6_append_12 (by decide) ?_
    refine lv_goto (tgt := 30) hx hb dX6_append_13 (by decide) ?_
    refine k_ci (wr := []) [] rfl (by decide) [0, 1, 2, 3, 4, 5, 6, 7, 8, 9] rfl (by decide) hP hD hS hA (k_V (n := 1) (ci := 6) (As := [.int 1]) (rest := []) (wc := [(m0, .inr (6, [.int (nI (th)), .ref ms, .ref mv, .int (nI (sm)), .ref mt, .int (nI (ln)), .ref mh, .ref mb, .ref mg, .ref mq, .ref ml, .ref mf, .int nw, .int fw, .int (nI (tp)), .int (bI (wr)), .long dg])), (ms, .inl (G.2.1, 88, .inl s0)), (mv, .inl (G.2.1, 528, .inl sv)), (mt, .inl (G.2.1, 60, .inl tx)), (mh, .inl (G.2.1, 21, .inl ht)), (mb, .inl (G.2.1, 21, .inl bu)), (mg, .inl (G.2.1, 21, .inl hg)), (mq, .inl (G.2.1, 21, .inl pq)), (ml, .inl (G.2.1, 21, .inl ld)), (mf, .inl (G.2.1, 20, .inl fo))]) hx hb hml hown hts hK hP hD hl (c_X6_holds l G m0 ms mv mt mh mb mg mq ml mf th s0 sv sm tx ln ht bu hg pq ld fo nw fw tp wr dg 1 H.size (by first | assumption | omega)) [0, 1, 2, 3, 4, 5, 6, 7, 8, 9] rfl (by decide) gX6_append_X6_holds rfl rfl rfl (by decide +kernel) rfl ⟨Nat.le_of_ble_eq_true rfl, Nat.le_of_ble_eq_true rfl⟩ rfl rfl rfl (Nat.le_of_ble_eq_true rfl) dX6_append_30 ⟨Nat.le_of_ble_eq_true rfl, Nat.le_of_ble_eq_true rfl⟩) (fun r_30 u H locs hw hP hD hS => ?_)
    have hw_30 : r_30 = bI (decide (1 = 0)) := hw
    have hP : va_P G.1 vwCl [(m0, .inr (6, [.int (nI (1)), .ref ms, .ref mv, .int (nI (sm)), .ref mt, .int (nI (ln)), .ref mh, .ref mb, .ref mg, .ref mq, .ref ml, .ref mf, .int nw, .int fw, .int (nI (tp)), .int (bI (wr)), .long dg])), (ms, .inl (G.2.1, 88, .inl s0)), (mv, .inl (G.2.1, 528, .inl sv)), (mt, .inl (G.2.1, 60, .inl tx)), (mh, .inl (G.2.1, 21, .inl ht)), (mb, .inl (G.2.1, 21, .inl bu)), (mg, .inl (G.2.1, 21, .inl hg)), (mq, .inl (G.2.1, 21, .inl pq)), (ml, .inl (G.2.1, 21, .inl ld)), (mf, .inl (G.2.1, 20, .inl fo))] H := hP
    have hD : va_D A [(m0, .inr (6, [.int (nI (1)), .ref ms, .ref mv, .int (nI (sm)), .ref mt, .int (nI (ln)), .ref mh, .ref mb, .ref mg, .ref mq, .ref ml, .ref mf, .int nw, .int fw, .int (nI (tp)), .int (bI (wr)), .long dg])), (ms, .inl (G.2.1, 88, .inl s0)), (mv, .inl (G.2.1, 528, .inl sv)), (mt, .inl (G.2.1, 60, .inl tx)), (mh, .inl (G.2.1, 21, .inl ht)), (mb, .inl (G.2.1, 21, .inl bu)), (mg, .inl (G.2.1, 21, .inl hg)), (mq, .inl (G.2.1, 21, .inl pq)), (ml, .inl (G.2.1, 21, .inl ld)), (mf, .inl (G.2.1, 20, .inl fo))] := hD
    subst hw_30
    refine g_ti (y := nI 0) (by rw [decide_eq_false (by decide)]; rfl) ?_
    refine g_if_ne (a := 0) (tgt := 38) hx hb (by omega) dX6_append_33 (by decide) (fun c_33 => ?_) (fun c_33 => ?_)
    · exact absurd c_33 (by decide)
    · skip
      refine lv_iconst (v := 0) hx hb dX6_append_36 (by decide) ?_
      rw [hQ]
      exact k_iret (v := 0) () [0, 1, 2, 3, 4, 5, 6, 7, 8, 9] hx hb hr hlocks (rfl) hK hP hD hS rfl (by decide) dX6_append_37
set_option maxHeartbeats 4000000 in
set_option maxRecDepth 100000 in
theorem c_X6_append_2 (l : Launch) (G : kG) (m0 : Nat) (ms : Nat) (mv : Nat) (mt : Nat) (mh : Nat) (mb : Nat) (mg : Nat) (mq : Nat) (ml : Nat) (mf : Nat) (th : Nat) (s0 : Fn) (sv : Fn) (sm : Nat) (tx : Fn) (ln : Nat) (ht : Fn) (bu : Fn) (hg : Fn) (pq : Fn) (ld : Fn) (fo : Fn) (nw : Int32) (fw : Int32) (tp : Nat) (wr : Bool) (dg : Int64) (v : Int32) (sz : Nat) (h1 : 33 ≤ v ∧ v ≤ 126) (h2 : ln = 60) : kMet l yX6_append wsX6_append ({ frames := 1, cells := 0, slots := 0, locals := 22 } : Room) G [.ref m0, .int v] [(m0, .inr (6, [.int (nI (th)), .ref ms, .ref mv, .int (nI (sm)), .ref mt, .int (nI (ln)), .ref mh, .ref mb, .ref mg, .ref mq, .ref ml, .ref mf, .int nw, .int fw, .int (nI (tp)), .int (bI (wr)), .long dg])), (ms, .inl (G.2.1, 88, .inl s0)), (mv, .inl (G.2.1, 528, .inl sv)), (mt, .inl (G.2.1, 60, .inl tx)), (mh, .inl (G.2.1, 21, .inl ht)), (mb, .inl (G.2.1, 21, .inl bu)), (mg, .inl (G.2.1, 21, .inl hg)), (mq, .inl (G.2.1, 21, .inl pq)), (ml, .inl (G.2.1, 21, .inl ld)), (mf, .inl (G.2.1, 20, .inl fo))] sz (kQi G (fun (r : Int32) (u : Unit) => r = 0) (fun (u : Unit) => [(m0, .inr (6, [.int (nI 2), .ref ms, .ref mv, .int (nI (sm)), .ref mt, .int (nI (ln)), .ref mh, .ref mb, .ref mg, .ref mq, .ref ml, .ref mf, .int nw, .int fw, .int (nI (tp)), .int (bI (wr)), .long dg])), (ms, .inl (G.2.1, 88, .inl s0)), (mv, .inl (G.2.1, 528, .inl sv)), (mt, .inl (G.2.1, 60, .inl tx)), (mh, .inl (G.2.1, 21, .inl ht)), (mb, .inl (G.2.1, 21, .inl bu)), (mg, .inl (G.2.1, 21, .inl hg)), (mq, .inl (G.2.1, 21, .inl pq)), (ml, .inl (G.2.1, 21, .inl ld)), (mf, .inl (G.2.1, 20, .inl fo))])) 0 0 := by
  refine k_entry (cc := cX6_append) (maxL := 2) (ret := (some .int)) (by decide) rfl (Nat.le_of_ble_eq_true rfl) ?_
  intro p e s m args below meth c A ls H locs Q hQ hx hb hml hr hts hown hlocks hin hA hP hK hD hS hl
  have hown : s.vm.findClass RX6 = some m.cls := hown
  have hl : lv_has ls 2 [(0, .ref m0), (1, .int v)] := hl
  have hf96 := hts (.fieldLink RX6 96 "HangingChainModel" "length" "I") (by decide +kernel)
  have hinX6 : ∀ w ∈ wsX60, w ∈ wsX6_append := by decide +kernel
  refine lv_aload_n hx hb dX6_append_0 rfl (lv_at hl 0 rfl) ?_
  refine lv_iload_n hx hb dX6_append_1 rfl (lv_at hl 1 rfl) ?_
  refine lv_bipush (v := 33) hx hb dX6_append_2 (by decide) ?_
  refine lv_bipush (v := 126) hx hb dX6_append_4 (by decide) ?_
  refine k_ci (wr := [(m0, .inr (6, [.int (nI (th)), .ref ms, .ref mv, .int (nI (sm)), .ref mt, .int (nI (ln)), .ref mh, .ref mb, .ref mg, .ref mq, .ref ml, .ref mf, .int nw, .int fw, .int (nI (tp)), .int (bI (wr)), .long dg])), (ms, .inl (G.2.1, 88, .inl s0)), (mv, .inl (G.2.1, 528, .inl sv)), (mt, .inl (G.2.1, 60, .inl tx)), (mh, .inl (G.2.1, 21, .inl ht)), (mb, .inl (G.2.1, 21, .inl bu)), (mg, .inl (G.2.1, 21, .inl hg)), (mq, .inl (G.2.1, 21, .inl pq)), (ml, .inl (G.2.1, 21, .inl ld)), (mf, .inl (G.2.1, 20, .inl fo))]) [0, 1, 2, 3, 4, 5, 6, 7, 8, 9] rfl (by decide) [] rfl (by decide) hP hD hS hA (k_S (n := 3) (As := [.int v, .int 33, .int 126]) (rest := [.ref m0]) (wc := []) hx hb hml hown hts hK hP hD hl (c_X6_in l G v 33 126 H.size) [] rfl (by decide) gX6_append_X6_in rfl rfl rfl (by decide +kernel) rfl ⟨Nat.le_of_ble_eq_true rfl, Nat.le_of_ble_eq_true rfl⟩ rfl (Nat.le_of_ble_eq_true rfl) dX6_append_6 ⟨Nat.le_of_ble_eq_true rfl, Nat.le_of_ble_eq_true rfl⟩) (fun r_6 u H locs hw hP hD hS => ?_)
  have hw_6 : r_6 = bI (decide (33 ≤ v ∧ v ≤ 126)) := hw
  have hP : va_P G.1 vwCl [(m0, .inr (6, [.int (nI (th)), .ref ms, .ref mv, .int (nI (sm)), .ref mt, .int (nI (ln)), .ref mh, .ref mb, .ref mg, .ref mq, .ref ml, .ref mf, .int nw, .int fw, .int (nI (tp)), .int (bI (wr)), .long dg])), (ms, .inl (G.2.1, 88, .inl s0)), (mv, .inl (G.2.1, 528, .inl sv)), (mt, .inl (G.2.1, 60, .inl tx)), (mh, .inl (G.2.1, 21, .inl ht)), (mb, .inl (G.2.1, 21, .inl bu)), (mg, .inl (G.2.1, 21, .inl hg)), (mq, .inl (G.2.1, 21, .inl pq)), (ml, .inl (G.2.1, 21, .inl ld)), (mf, .inl (G.2.1, 20, .inl fo))] H := hP
  have hD : va_D A [(m0, .inr (6, [.int (nI (th)), .ref ms, .ref mv, .int (nI (sm)), .ref mt, .int (nI (ln)), .ref mh, .ref mb, .ref mg, .ref mq, .ref ml, .ref mf, .int nw, .int fw, .int (nI (tp)), .int (bI (wr)), .long dg])), (ms, .inl (G.2.1, 88, .inl s0)), (mv, .inl (G.2.1, 528, .inl sv)), (mt, .inl (G.2.1, 60, .inl tx)), (mh, .inl (G.2.1, 21, .inl ht)), (mb, .inl (G.2.1, 21, .inl bu)), (mg, .inl (G.2.1, 21, .inl hg)), (mq, .inl (G.2.1, 21, .inl pq)), (ml, .inl (G.2.1, 21, .inl ld)), (mf, .inl (G.2.1, 20, .inl fo))] := hD
  subst hw_6
  refine g_ti (y := nI 1) (by rw [decide_eq_true h1]; rfl) ?_
  refine g_if_ne (a := 1) (tgt := 16) hx hb (by omega) dX6_append_9 (by decide) (fun c_9 => ?_) (fun c_9 => ?_)
  · skip
    refine lv_aload_n hx hb dX6_append_16 rfl (lv_at hl 0 rfl) ?_
    refine va_get (D := G.1) (ci := 6) (v := .int (nI (ln))) (C := RX6) (T := TX6) (N := 17) hx hb hts hinX6 hown hK hP 0 rfl rfl 5 (by decide) hf96 (fun _ h9 => h9) rfl dX6_append_17 ?_
    refine lv_bipush (v := 60) hx hb dX6_append_20 (by decide) ?_
    refine g_icmp_ne (a := ln) (b := 60) (tgt := 29) hx hb (by omega) (by omega) dX6_append_22 (by decide) (fun c_22 => ?_) (fun c_22 => ?_)
    · exact absurd h2 c_22
    · skip
      refine lv_iconst (v := 2) hx hb dX6_append_25 (by decide) ?_
      refine lv_goto (tgt := 30) hx hb dX6_append_26 (by decide) ?_
      refine k_ci (wr := []) [] rfl (by decide) [0, 1, 2, 3, 4, 5, 6, 7, 8, 9] rfl (by decide) hP hD hS hA (k_V (n := 1) (ci := 6) (As := [.int 2]) (rest := []) (wc := [(m0, .inr (6, [.int (nI (th)), .ref ms, .ref mv, .int (nI (sm)), .ref mt, .int (nI (ln)), .ref mh, .ref mb, .ref mg, .ref mq, .ref ml, .ref mf, .int nw, .int fw, .int (nI (tp)), .int (bI (wr)), .long dg])), (ms, .inl (G.2.1, 88, .inl s0)), (mv, .inl (G.2.1, 528, .inl sv)), (mt, .inl (G.2.1, 60, .inl tx)), (mh, .inl (G.2.1, 21, .inl ht)), (mb, .inl (G.2.1, 21, .inl bu)), (mg, .inl (G.2.1, 21, .inl hg)), (mq, .inl (G.2.1, 21, .inl pq)), (ml, .inl (G.2.1, 21, .inl ld)), (mf, .inl (G.2.1, 20, .inl fo))]) hx hb hml hown hts hK hP hD hl (c_X6_holds l G m0 ms mv mt mh mb mg mq ml mf th s0 sv sm tx ln ht bu hg pq ld fo nw fw tp wr dg 2 H.size (by first | assumption | omega)) [0, 1, 2, 3, 4, 5, 6, 7, 8, 9] rfl (by decide) gX6_append_X6_holds rfl rfl rfl (by decide +kernel) rfl ⟨Nat.le_of_ble_eq_true rfl, Nat.le_of_ble_eq_true rfl⟩ rfl rfl rfl (Nat.le_of_ble_eq_true rfl) dX6_append_30 ⟨Nat.le_of_ble_eq_true rfl, Nat.le_of_ble_eq_true rfl⟩) (fun r_30 u H locs hw hP hD hS => ?_)
      have hw_30 : r_30 = bI (decide (2 = 0)) := hw
      have hP : va_P G.1 vwCl [(m0, .inr (6, [.int (nI (2)), .ref ms, .ref mv, .int (nI (sm)), .ref mt, .int (nI (ln)), .ref mh, .ref mb, .ref mg, .ref mq, .ref ml, .ref mf, .int nw, .int fw, .int (nI (tp)), .int (bI (wr)), .long dg])), (ms, .inl (G.2.1, 88, .inl s0)), (mv, .inl (G.2.1, 528, .inl sv)), (mt, .inl (G.2.1, 60, .inl tx)), (mh, .inl (G.2.1, 21, .inl ht)), (mb, .inl (G.2.1, 21, .inl bu)), (mg, .inl (G.2.1, 21, .inl hg)), (mq, .inl (G.2.1, 21, .inl pq)), (ml, .inl (G.2.1, 21, .inl ld)), (mf, .inl (G.2.1, 20, .inl fo))] H := hP
      have hD : va_D A [(m0, .inr (6, [.int (nI (2)), .ref ms, .ref mv, .int (nI (sm)), .ref mt, .int (nI (ln)), .ref mh, .ref mb, .ref mg, .ref mq, .ref ml, .ref mf, .int nw, .int fw, .int (nI (tp)), .int (bI (wr)), .long dg])), (ms, .inl (G.2.1, 88, .inl s0)), (mv, .inl (G.2.1, 528, .inl sv)), (mt, .inl (G.2.1, 60, .inl tx)), (mh, .inl (G.2.1, 21, .inl ht)), (mb, .inl (G.2.1, 21, .inl bu)), (mg, .inl (G.2.1, 21, .inl hg)), (mq, .inl (G.2.1, 21, .inl pq)), (ml, .inl (G.2.1, 21, .inl ld)), (mf, .inl (G.2.1, 20, .inl fo))] := hD
      subst hw_30
      refine g_ti (y := nI 0) (by rw [decide_eq_false (by decide)]; rfl) ?_
      refine g_if_ne (a := 0) (tgt := 38) hx hb (by omega) dX6_append_33 (by decide) (fun c_33 => ?_) (fun c_33 => ?_)
      · exact absurd c_33 (by decide)
      · skip
        refine lv_iconst (v := 0) hx hb dX6_append_36 (by decide) ?_
        rw [hQ]
        exact k_iret (v := 0) () [0, 1, 2, 3, 4, 5, 6, 7, 8, 9] hx hb hr hlocks (rfl) hK hP hD hS rfl (by decide) dX6_append_37
  · exact absurd c_9 (by decide)
set_option maxHeartbeats 4000000 in
set_option maxRecDepth 100000 in
theorem c_X6_append_0 (l : Launch) (G : kG) (m0 : Nat) (ms : Nat) (mv : Nat) (mt : Nat) (mh : Nat) (mb : Nat) (mg : Nat) (mq : Nat) (ml : Nat) (mf : Nat) (th : Nat) (s0 : Fn) (sv : Fn) (sm : Nat) (tx : Fn) (ln : Nat) (ht : Fn) (bu : Fn) (hg : Fn) (pq : Fn) (ld : Fn) (fo : Fn) (nw : Int32) (fw : Int32) (tp : Nat) (wr : Bool) (dg : Int64) (v : Int32) (sz : Nat) (h1 : 33 ≤ v ∧ v ≤ 126) (h2 : ln < 60) : kMet l yX6_append wsX6_append ({ frames := 1, cells := 0, slots := 0, locals := 22 } : Room) G [.ref m0, .int v] [(m0, .inr (6, [.int (nI (th)), .ref ms, .ref mv, .int (nI (sm)), .ref mt, .int (nI (ln)), .ref mh, .ref mb, .ref mg, .ref mq, .ref ml, .ref mf, .int nw, .int fw, .int (nI (tp)), .int (bI (wr)), .long dg])), (ms, .inl (G.2.1, 88, .inl s0)), (mv, .inl (G.2.1, 528, .inl sv)), (mt, .inl (G.2.1, 60, .inl tx)), (mh, .inl (G.2.1, 21, .inl ht)), (mb, .inl (G.2.1, 21, .inl bu)), (mg, .inl (G.2.1, 21, .inl hg)), (mq, .inl (G.2.1, 21, .inl pq)), (ml, .inl (G.2.1, 21, .inl ld)), (mf, .inl (G.2.1, 20, .inl fo))] sz (kQi G (fun (r : Int32) (u : Unit) => r = nI (ln + 1)) (fun (u : Unit) => [(m0, .inr (6, [.int (nI 0), .ref ms, .ref mv, .int (nI (sm)), .ref mt, .int (nI (ln + 1)), .ref mh, .ref mb, .ref mg, .ref mq, .ref ml, .ref mf, .int nw, .int fw, .int (nI (tp)), .int (bI (wr)), .long dg])), (ms, .inl (G.2.1, 88, .inl s0)), (mv, .inl (G.2.1, 528, .inl sv)), (mt, .inl (G.2.1, 60, .inl (upd tx ln v))), (mh, .inl (G.2.1, 21, .inl ht)), (mb, .inl (G.2.1, 21, .inl bu)), (mg, .inl (G.2.1, 21, .inl hg)), (mq, .inl (G.2.1, 21, .inl pq)), (ml, .inl (G.2.1, 21, .inl ld)), (mf, .inl (G.2.1, 20, .inl fo))])) 0 0 := by
  refine k_entry (cc := cX6_append) (maxL := 2) (ret := (some .int)) (by decide) rfl (Nat.le_of_ble_eq_true rfl) ?_
  intro p e s m args below meth c A ls H locs Q hQ hx hb hml hr hts hown hlocks hin hA hP hK hD hS hl
  have hown : s.vm.findClass RX6 = some m.cls := hown
  have hl : lv_has ls 2 [(0, .ref m0), (1, .int v)] := hl
  have hf96 := hts (.fieldLink RX6 96 "HangingChainModel" "length" "I") (by decide +kernel)
  have hinX6 : ∀ w ∈ wsX60, w ∈ wsX6_append := by decide +kernel
  have hf16 := hts (.fieldLink RX6 16 "HangingChainModel" "text" "[I") (by decide +kernel)
  refine lv_aload_n hx hb dX6_append_0 rfl (lv_at hl 0 rfl) ?_
  refine lv_iload_n hx hb dX6_append_1 rfl (lv_at hl 1 rfl) ?_
  refine lv_bipush (v := 33) hx hb dX6_append_2 (by decide) ?_
  refine lv_bipush (v := 126) hx hb dX6_append_4 (by decide) ?_
  refine k_ci (wr := [(m0, .inr (6, [.int (nI (th)), .ref ms, .ref mv, .int (nI (sm)), .ref mt, .int (nI (ln)), .ref mh, .ref mb, .ref mg, .ref mq, .ref ml, .ref mf, .int nw, .int fw, .int (nI (tp)), .int (bI (wr)), .long dg])), (ms, .inl (G.2.1, 88, .inl s0)), (mv, .inl (G.2.1, 528, .inl sv)), (mt, .inl (G.2.1, 60, .inl tx)), (mh, .inl (G.2.1, 21, .inl ht)), (mb, .inl (G.2.1, 21, .inl bu)), (mg, .inl (G.2.1, 21, .inl hg)), (mq, .inl (G.2.1, 21, .inl pq)), (ml, .inl (G.2.1, 21, .inl ld)), (mf, .inl (G.2.1, 20, .inl fo))]) [0, 1, 2, 3, 4, 5, 6, 7, 8, 9] rfl (by decide) [] rfl (by decide) hP hD hS hA (k_S (n := 3) (As := [.int v, .int 33, .int 126]) (rest := [.ref m0]) (wc := []) hx hb hml hown hts hK hP hD hl (c_X6_in l G v 33 126 H.size) [] rfl (by decide) gX6_append_X6_in rfl rfl rfl (by decide +kernel) rfl ⟨Nat.le_of_ble_eq_true rfl, Nat.le_of_ble_eq_true rfl⟩ rfl (Nat.le_of_ble_eq_true rfl) dX6_append_6 ⟨Nat.le_of_ble_eq_true rfl, Nat.le_of_ble_eq_true rfl⟩) (fun r_6 u H locs hw hP hD hS => ?_)
  have hw_6 : r_6 = bI (decide (33 ≤ v ∧ v ≤ 126)) := hw
  have hP : va_P G.1 vwCl [(m0, .inr (6, [.int (nI (th)), .ref ms, .ref mv, .int (nI (sm)), .ref mt, .int (nI (ln)), .ref mh, .ref mb, .ref mg, .ref mq, .ref ml, .ref mf, .int nw, .int fw, .int (nI (tp)), .int (bI (wr)), .long dg])), (ms, .inl (G.2.1, 88, .inl s0)), (mv, .inl (G.2.1, 528, .inl sv)), (mt, .inl (G.2.1, 60, .inl tx)), (mh, .inl (G.2.1, 21, .inl ht)), (mb, .inl (G.2.1, 21, .inl bu)), (mg, .inl (G.2.1, 21, .inl hg)), (mq, .inl (G.2.1, 21, .inl pq)), (ml, .inl (G.2.1, 21, .inl ld)), (mf, .inl (G.2.1, 20, .inl fo))] H := hP
  have hD : va_D A [(m0, .inr (6, [.int (nI (th)), .ref ms, .ref mv, .int (nI (sm)), .ref mt, .int (nI (ln)), .ref mh, .ref mb, .ref mg, .ref mq, .ref ml, .ref mf, .int nw, .int fw, .int (nI (tp)), .int (bI (wr)), .long dg])), (ms, .inl (G.2.1, 88, .inl s0)), (mv, .inl (G.2.1, 528, .inl sv)), (mt, .inl (G.2.1, 60, .inl tx)), (mh, .inl (G.2.1, 21, .inl ht)), (mb, .inl (G.2.1, 21, .inl bu)), (mg, .inl (G.2.1, 21, .inl hg)), (mq, .inl (G.2.1, 21, .inl pq)), (ml, .inl (G.2.1, 21, .inl ld)), (mf, .inl (G.2.1, 20, .inl fo))] := hD
  subst hw_6
  refine g_ti (y := nI 1) (by rw [decide_eq_true h1]; rfl) ?_
  refine g_if_ne (a := 1) (tgt := 16) hx hb (by omega) dX6_append_9 (by decide) (fun c_9 => ?_) (fun c_9 => ?_)
  · skip
    refine lv_aload_n hx hb dX6_append_16 rfl (lv_at hl 0 rfl) ?_
    refine va_get (D := G.1) (ci := 6) (v := .int (nI (ln))) (C := RX6) (T := TX6) (N := 17) hx hb hts hinX6 hown hK hP 0 rfl rfl 5 (by decide) hf96 (fun _ h9 => h9) rfl dX6_append_17 ?_
    refine lv_bipush (v := 60) hx hb dX6_append_20 (by decide) ?_
    refine g_icmp_ne (a := ln) (b := 60) (tgt := 29) hx hb (by omega) (by omega) dX6_append_22 (by decide) (fun c_22 => ?_) (fun c_22 => ?_)
    · skip
      refine lv_iconst (v := 0) hx hb dX6_append_29 (by decide) ?_
      refine k_ci (wr := []) [] rfl (by decide) [0, 1, 2, 3, 4, 5, 6, 7, 8, 9] rfl (by decide) hP hD hS hA (k_V (n := 1) (ci := 6) (As := [.int 0]) (rest := []) (wc := [(m0, .inr (6, [.int (nI (th)), .ref ms, .ref mv, .int (nI (sm)), .ref mt, .int (nI (ln)), .ref mh, .ref mb, .ref mg, .ref mq, .ref ml, .ref mf, .int nw, .int fw, .int (nI (tp)), .int (bI (wr)), .long dg])), (ms, .inl (G.2.1, 88, .inl s0)), (mv, .inl (G.2.1, 528, .inl sv)), (mt, .inl (G.2.1, 60, .inl tx)), (mh, .inl (G.2.1, 21, .inl ht)), (mb, .inl (G.2.1, 21, .inl bu)), (mg, .inl (G.2.1, 21, .inl hg)), (mq, .inl (G.2.1, 21, .inl pq)), (ml, .inl (G.2.1, 21, .inl ld)), (mf, .inl (G.2.1, 20, .inl fo))]) hx hb hml hown hts hK hP hD hl (c_X6_holds l G m0 ms mv mt mh mb mg mq ml mf th s0 sv sm tx ln ht bu hg pq ld fo nw fw tp wr dg 0 H.size (by first | assumption | omega)) [0, 1, 2, 3, 4, 5, 6, 7, 8, 9] rfl (by decide) gX6_append_X6_holds rfl rfl rfl (by decide +kernel) rfl ⟨Nat.le_of_ble_eq_true rfl, Nat.le_of_ble_eq_true rfl⟩ rfl rfl rfl (Nat.le_of_ble_eq_true rfl) dX6_append_30 ⟨Nat.le_of_ble_eq_true rfl, Nat.le_of_ble_eq_true rfl⟩) (fun r_30 u H locs hw hP hD hS => ?_)
      have hw_30 : r_30 = bI (decide (0 = 0)) := hw
      have hP : va_P G.1 vwCl [(m0, .inr (6, [.int (nI (0)), .ref ms, .ref mv, .int (nI (sm)), .ref mt, .int (nI (ln)), .ref mh, .ref mb, .ref mg, .ref mq, .ref ml, .ref mf, .int nw, .int fw, .int (nI (tp)), .int (bI (wr)), .long dg])), (ms, .inl (G.2.1, 88, .inl s0)), (mv, .inl (G.2.1, 528, .inl sv)), (mt, .inl (G.2.1, 60, .inl tx)), (mh, .inl (G.2.1, 21, .inl ht)), (mb, .inl (G.2.1, 21, .inl bu)), (mg, .inl (G.2.1, 21, .inl hg)), (mq, .inl (G.2.1, 21, .inl pq)), (ml, .inl (G.2.1, 21, .inl ld)), (mf, .inl (G.2.1, 20, .inl fo))] H := hP
      have hD : va_D A [(m0, .inr (6, [.int (nI (0)), .ref ms, .ref mv, .int (nI (sm)), .ref mt, .int (nI (ln)), .ref mh, .ref mb, .ref mg, .ref mq, .ref ml, .ref mf, .int nw, .int fw, .int (nI (tp)), .int (bI (wr)), .long dg])), (ms, .inl (G.2.1, 88, .inl s0)), (mv, .inl (G.2.1, 528, .inl sv)), (mt, .inl (G.2.1, 60, .inl tx)), (mh, .inl (G.2.1, 21, .inl ht)), (mb, .inl (G.2.1, 21, .inl bu)), (mg, .inl (G.2.1, 21, .inl hg)), (mq, .inl (G.2.1, 21, .inl pq)), (ml, .inl (G.2.1, 21, .inl ld)), (mf, .inl (G.2.1, 20, .inl fo))] := hD
      subst hw_30
      refine g_ti (y := nI 1) (by rw [decide_eq_true (show (0 : Nat) = 0 from rfl)]; rfl) ?_
      refine g_if_ne (a := 1) (tgt := 38) hx hb (by omega) dX6_append_33 (by decide) (fun c_33 => ?_) (fun c_33 => ?_)
      · skip
        refine lv_aload_n hx hb dX6_append_38 rfl (lv_at hl 0 rfl) ?_
        refine va_get (D := G.1) (ci := 6) (v := .ref mt) (C := RX6) (T := TX6) (N := 17) hx hb hts hinX6 hown hK hP 0 rfl rfl 4 (by decide) hf16 (fun _ h9 => h9) rfl dX6_append_39 ?_
        refine lv_aload_n hx hb dX6_append_42 rfl (lv_at hl 0 rfl) ?_
        refine va_get (D := G.1) (ci := 6) (v := .int (nI (ln))) (C := RX6) (T := TX6) (N := 17) hx hb hts hinX6 hown hK hP 0 rfl rfl 5 (by decide) hf96 (fun _ h9 => h9) rfl dX6_append_43 ?_
        refine lv_iload_n hx hb dX6_append_46 rfl (lv_at hl 1 rfl) ?_
        refine g_iast (k := ln) hx hb hK hP hD hS 3 rfl (by omega) (by omega) dX6_append_47 (fun H locs hP hD hS => ?_)
        have hP : va_P G.1 vwCl [(m0, .inr (6, [.int (nI (0)), .ref ms, .ref mv, .int (nI (sm)), .ref mt, .int (nI (ln)), .ref mh, .ref mb, .ref mg, .ref mq, .ref ml, .ref mf, .int nw, .int fw, .int (nI (tp)), .int (bI (wr)), .long dg])), (ms, .inl (G.2.1, 88, .inl s0)), (mv, .inl (G.2.1, 528, .inl sv)), (mt, .inl (G.2.1, 60, .inl (upd tx ln v))), (mh, .inl (G.2.1, 21, .inl ht)), (mb, .inl (G.2.1, 21, .inl bu)), (mg, .inl (G.2.1, 21, .inl hg)), (mq, .inl (G.2.1, 21, .inl pq)), (ml, .inl (G.2.1, 21, .inl ld)), (mf, .inl (G.2.1, 20, .inl fo))] H := hP
        have hD : va_D A [(m0, .inr (6, [.int (nI (0)), .ref ms, .ref mv, .int (nI (sm)), .ref mt, .int (nI (ln)), .ref mh, .ref mb, .ref mg, .ref mq, .ref ml, .ref mf, .int nw, .int fw, .int (nI (tp)), .int (bI (wr)), .long dg])), (ms, .inl (G.2.1, 88, .inl s0)), (mv, .inl (G.2.1, 528, .inl sv)), (mt, .inl (G.2.1, 60, .inl (upd tx ln v))), (mh, .inl (G.2.1, 21, .inl ht)), (mb, .inl (G.2.1, 21, .inl bu)), (mg, .inl (G.2.1, 21, .inl hg)), (mq, .inl (G.2.1, 21, .inl pq)), (ml, .inl (G.2.1, 21, .inl ld)), (mf, .inl (G.2.1, 20, .inl fo))] := hD
        refine lv_aload_n hx hb dX6_append_48 rfl (lv_at hl 0 rfl) ?_
        refine lv_dup hx hb dX6_append_49 rfl ?_
        refine va_get (D := G.1) (ci := 6) (v := .int (nI (ln))) (C := RX6) (T := TX6) (N := 17) hx hb hts hinX6 hown hK hP 0 rfl rfl 5 (by decide) hf96 (fun _ h9 => h9) rfl dX6_append_50 ?_
        refine lv_iconst (v := 1) hx hb dX6_append_53 (by decide) ?_
        refine lv_iadd hx hb dX6_append_54 ?_
        refine g_ti (y := nI (ln + 1)) (nI_add (ln) (1)) ?_
        refine va_put (D := G.1) (ci := 6) (v := .int (nI (ln + 1))) (ty := .int) (C := RX6) (T := TX6) (N := 17) hx hb hts hinX6 tyX6 tyX6_ok nmX6 hown hK hP hD hS 0 rfl rfl 5 (by decide) hf96 (fun _ h9 => h9) rfl (by decide +kernel) (rfl) (rfl) (Nat.le_of_ble_eq_true rfl) dX6_append_55 (fun H locs hP hD hS => ?_)
        have hP : va_P G.1 vwCl [(m0, .inr (6, [.int (nI (0)), .ref ms, .ref mv, .int (nI (sm)), .ref mt, .int (nI (ln + 1)), .ref mh, .ref mb, .ref mg, .ref mq, .ref ml, .ref mf, .int nw, .int fw, .int (nI (tp)), .int (bI (wr)), .long dg])), (ms, .inl (G.2.1, 88, .inl s0)), (mv, .inl (G.2.1, 528, .inl sv)), (mt, .inl (G.2.1, 60, .inl (upd tx ln v))), (mh, .inl (G.2.1, 21, .inl ht)), (mb, .inl (G.2.1, 21, .inl bu)), (mg, .inl (G.2.1, 21, .inl hg)), (mq, .inl (G.2.1, 21, .inl pq)), (ml, .inl (G.2.1, 21, .inl ld)), (mf, .inl (G.2.1, 20, .inl fo))] H := hP
        have hD : va_D A [(m0, .inr (6, [.int (nI (0)), .ref ms, .ref mv, .int (nI (sm)), .ref mt, .int (nI (ln + 1)), .ref mh, .ref mb, .ref mg, .ref mq, .ref ml, .ref mf, .int nw, .int fw, .int (nI (tp)), .int (bI (wr)), .long dg])), (ms, .inl (G.2.1, 88, .inl s0)), (mv, .inl (G.2.1, 528, .inl sv)), (mt, .inl (G.2.1, 60, .inl (upd tx ln v))), (mh, .inl (G.2.1, 21, .inl ht)), (mb, .inl (G.2.1, 21, .inl bu)), (mg, .inl (G.2.1, 21, .inl hg)), (mq, .inl (G.2.1, 21, .inl pq)), (ml, .inl (G.2.1, 21, .inl ld)), (mf, .inl (G.2.1, 20, .inl fo))] := hD
        refine lv_aload_n hx hb dX6_append_58 rfl (lv_at hl 0 rfl) ?_
        refine va_get (D := G.1) (ci := 6) (v := .int (nI (ln + 1))) (C := RX6) (T := TX6) (N := 17) hx hb hts hinX6 hown hK hP 0 rfl rfl 5 (by decide) hf96 (fun _ h9 => h9) rfl dX6_append_59 ?_
        rw [hQ]
        exact k_iret (v := nI (ln + 1)) () [0, 1, 2, 3, 4, 5, 6, 7, 8, 9] hx hb hr hlocks (rfl) hK hP hD hS rfl (by decide) dX6_append_62
      · exact absurd c_33 (by decide)
    · omega
  · exact absurd c_9 (by decide)
set_option maxHeartbeats 4000000 in
set_option maxRecDepth 100000 in
theorem c_X6_clearBuffer_0 (l : Launch) (G : kG) (m0 : Nat) (ms : Nat) (mv : Nat) (mt : Nat) (mh : Nat) (mb : Nat) (mg : Nat) (mq : Nat) (ml : Nat) (mf : Nat) (th : Nat) (s0 : Fn) (sv : Fn) (sm : Nat) (tx : Fn) (ln : Nat) (ht : Fn) (bu : Fn) (hg : Fn) (pq : Fn) (ld : Fn) (fo : Fn) (nw : Int32) (fw : Int32) (tp : Nat) (wr : Bool) (dg : Int64) (sz : Nat) : kMet l yX6_clearBuffer wsX6_clearBuffer ({ frames := 0, cells := 0, slots := 0, locals := 0 } : Room) G [.ref m0] [(m0, .inr (6, [.int (nI (th)), .ref ms, .ref mv, .int (nI (sm)), .ref mt, .int (nI (ln)), .ref mh, .ref mb, .ref mg, .ref mq, .ref ml, .ref mf, .int nw, .int fw, .int (nI (tp)), .int (bI (wr)), .long dg])), (ms, .inl (G.2.1, 88, .inl s0)), (mv, .inl (G.2.1, 528, .inl sv)), (mt, .inl (G.2.1, 60, .inl tx)), (mh, .inl (G.2.1, 21, .inl ht)), (mb, .inl (G.2.1, 21, .inl bu)), (mg, .inl (G.2.1, 21, .inl hg)), (mq, .inl (G.2.1, 21, .inl pq)), (ml, .inl (G.2.1, 21, .inl ld)), (mf, .inl (G.2.1, 20, .inl fo))] sz (kQi G (fun (r : Int32) (u : Unit) => r = nI ln) (fun (u : Unit) => [(m0, .inr (6, [.int (nI 0), .ref ms, .ref mv, .int (nI (sm)), .ref mt, .int (nI 0), .ref mh, .ref mb, .ref mg, .ref mq, .ref ml, .ref mf, .int nw, .int fw, .int (nI (tp)), .int (bI (wr)), .long dg])), (ms, .inl (G.2.1, 88, .inl s0)), (mv, .inl (G.2.1, 528, .inl sv)), (mt, .inl (G.2.1, 60, .inl tx)), (mh, .inl (G.2.1, 21, .inl ht)), (mb, .inl (G.2.1, 21, .inl bu)), (mg, .inl (G.2.1, 21, .inl hg)), (mq, .inl (G.2.1, 21, .inl pq)), (ml, .inl (G.2.1, 21, .inl ld)), (mf, .inl (G.2.1, 20, .inl fo))])) 0 0 := by
  refine k_entry (cc := cX6_clearBuffer) (maxL := 2) (ret := (some .int)) (by decide) rfl (Nat.le_of_ble_eq_true rfl) ?_
  intro p e s m args below meth c A ls H locs Q hQ hx hb hml hr hts hown hlocks hin hA hP hK hD hS hl
  have hown : s.vm.findClass RX6 = some m.cls := hown
  have hl : lv_has ls 2 [(0, .ref m0)] := hl
  have hf37 := hts (.fieldLink RX6 37 "HangingChainModel" "thrown" "I") (by decide +kernel)
  have hinX6 : ∀ w ∈ wsX60, w ∈ wsX6_clearBuffer := by decide +kernel
  have hf96 := hts (.fieldLink RX6 96 "HangingChainModel" "length" "I") (by decide +kernel)
  refine lv_aload_n hx hb dX6_clearBuffer_0 rfl (lv_at hl 0 rfl) ?_
  refine lv_iconst (v := 0) hx hb dX6_clearBuffer_1 (by decide) ?_
  refine va_put (D := G.1) (ci := 6) (v := .int 0) (ty := .int) (C := RX6) (T := TX6) (N := 17) hx hb hts hinX6 tyX6 tyX6_ok nmX6 hown hK hP hD hS 0 rfl rfl 0 (by decide) hf37 (fun _ h9 => h9) rfl (by decide +kernel) (rfl) (rfl) (Nat.le_of_ble_eq_true rfl) dX6_clearBuffer_2 (fun H locs hP hD hS => ?_)
  have hP : va_P G.1 vwCl [(m0, .inr (6, [.int 0, .ref ms, .ref mv, .int (nI (sm)), .ref mt, .int (nI (ln)), .ref mh, .ref mb, .ref mg, .ref mq, .ref ml, .ref mf, .int nw, .int fw, .int (nI (tp)), .int (bI (wr)), .long dg])), (ms, .inl (G.2.1, 88, .inl s0)), (mv, .inl (G.2.1, 528, .inl sv)), (mt, .inl (G.2.1, 60, .inl tx)), (mh, .inl (G.2.1, 21, .inl ht)), (mb, .inl (G.2.1, 21, .inl bu)), (mg, .inl (G.2.1, 21, .inl hg)), (mq, .inl (G.2.1, 21, .inl pq)), (ml, .inl (G.2.1, 21, .inl ld)), (mf, .inl (G.2.1, 20, .inl fo))] H := hP
  have hD : va_D A [(m0, .inr (6, [.int 0, .ref ms, .ref mv, .int (nI (sm)), .ref mt, .int (nI (ln)), .ref mh, .ref mb, .ref mg, .ref mq, .ref ml, .ref mf, .int nw, .int fw, .int (nI (tp)), .int (bI (wr)), .long dg])), (ms, .inl (G.2.1, 88, .inl s0)), (mv, .inl (G.2.1, 528, .inl sv)), (mt, .inl (G.2.1, 60, .inl tx)), (mh, .inl (G.2.1, 21, .inl ht)), (mb, .inl (G.2.1, 21, .inl bu)), (mg, .inl (G.2.1, 21, .inl hg)), (mq, .inl (G.2.1, 21, .inl pq)), (ml, .inl (G.2.1, 21, .inl ld)), (mf, .inl (G.2.1, 20, .inl fo))] := hD
  refine lv_aload_n hx hb dX6_clearBuffer_5 rfl (lv_at hl 0 rfl) ?_
  refine va_get (D := G.1) (ci := 6) (v := .int (nI (ln))) (C := RX6) (T := TX6) (N := 17) hx hb hts hinX6 hown hK hP 0 rfl rfl 5 (by decide) hf96 (fun _ h9 => h9) rfl dX6_clearBuffer_6 ?_
  refine lv_istore_n (lv' := [(1, .int (nI (ln))), (0, .ref m0)]) hx hb dX6_clearBuffer_9 rfl hl (by decide) rfl (fun ls hl => ?_)
  refine lv_aload_n hx hb dX6_clearBuffer_10 rfl (lv_at hl 1 rfl) ?_
  refine lv_iconst (v := 0) hx hb dX6_clearBuffer_11 (by decide) ?_
  refine va_put (D := G.1) (ci := 6) (v := .int 0) (ty := .int) (C := RX6) (T := TX6) (N := 17) hx hb hts hinX6 tyX6 tyX6_ok nmX6 hown hK hP hD hS 0 rfl rfl 5 (by decide) hf96 (fun _ h9 => h9) rfl (by decide +kernel) (rfl) (rfl) (Nat.le_of_ble_eq_true rfl) dX6_clearBuffer_12 (fun H locs hP hD hS => ?_)
  have hP : va_P G.1 vwCl [(m0, .inr (6, [.int 0, .ref ms, .ref mv, .int (nI (sm)), .ref mt, .int 0, .ref mh, .ref mb, .ref mg, .ref mq, .ref ml, .ref mf, .int nw, .int fw, .int (nI (tp)), .int (bI (wr)), .long dg])), (ms, .inl (G.2.1, 88, .inl s0)), (mv, .inl (G.2.1, 528, .inl sv)), (mt, .inl (G.2.1, 60, .inl tx)), (mh, .inl (G.2.1, 21, .inl ht)), (mb, .inl (G.2.1, 21, .inl bu)), (mg, .inl (G.2.1, 21, .inl hg)), (mq, .inl (G.2.1, 21, .inl pq)), (ml, .inl (G.2.1, 21, .inl ld)), (mf, .inl (G.2.1, 20, .inl fo))] H := hP
  have hD : va_D A [(m0, .inr (6, [.int 0, .ref ms, .ref mv, .int (nI (sm)), .ref mt, .int 0, .ref mh, .ref mb, .ref mg, .ref mq, .ref ml, .ref mf, .int nw, .int fw, .int (nI (tp)), .int (bI (wr)), .long dg])), (ms, .inl (G.2.1, 88, .inl s0)), (mv, .inl (G.2.1, 528, .inl sv)), (mt, .inl (G.2.1, 60, .inl tx)), (mh, .inl (G.2.1, 21, .inl ht)), (mb, .inl (G.2.1, 21, .inl bu)), (mg, .inl (G.2.1, 21, .inl hg)), (mq, .inl (G.2.1, 21, .inl pq)), (ml, .inl (G.2.1, 21, .inl ld)), (mf, .inl (G.2.1, 20, .inl fo))] := hD
  refine lv_iload_n hx hb dX6_clearBuffer_15 rfl (lv_at hl 0 rfl) ?_
  rw [hQ]
  exact k_iret (v := nI (ln)) () [0, 1, 2, 3, 4, 5, 6, 7, 8, 9] hx hb hr hlocks (rfl) hK hP hD hS rfl (by decide) dX6_clearBuffer_16
set_option maxHeartbeats 4000000 in
set_option maxRecDepth 100000 in
theorem c_X6_setting_1 (l : Launch) (G : kG) (m0 : Nat) (ms : Nat) (mv : Nat) (mt : Nat) (mh : Nat) (mb : Nat) (mg : Nat) (mq : Nat) (ml : Nat) (mf : Nat) (th : Nat) (s0 : Fn) (sv : Fn) (sm : Nat) (tx : Fn) (ln : Nat) (ht : Fn) (bu : Fn) (hg : Fn) (pq : Fn) (ld : Fn) (fo : Fn) (nw : Int32) (fw : Int32) (tp : Nat) (wr : Bool) (dg : Int64) (k : Int32) (sz : Nat) (h1 : isN k 4 = false) : kMet l yX6_setting wsX6_setting ({ frames := 1, cells := 0, slots := 0, locals := 22 } : Room) G [.ref m0, .int k] [(m0, .inr (6, [.int (nI (th)), .ref ms, .ref mv, .int (nI (sm)), .ref mt, .int (nI (ln)), .ref mh, .ref mb, .ref mg, .ref mq, .ref ml, .ref mf, .int nw, .int fw, .int (nI (tp)), .int (bI (wr)), .long dg])), (ms, .inl (G.2.1, 88, .inl s0)), (mv, .inl (G.2.1, 528, .inl sv)), (mt, .inl (G.2.1, 60, .inl tx)), (mh, .inl (G.2.1, 21, .inl ht)), (mb, .inl (G.2.1, 21, .inl bu)), (mg, .inl (G.2.1, 21, .inl hg)), (mq, .inl (G.2.1, 21, .inl pq)), (ml, .inl (G.2.1, 21, .inl ld)), (mf, .inl (G.2.1, 20, .inl fo))] sz (kQi G (fun (r : Int32) (u : Unit) => r = 0) (fun (u : Unit) => [(m0, .inr (6, [.int (nI 1), .ref ms, .ref mv, .int (nI (sm)), .ref mt, .int (nI (ln)), .ref mh, .ref mb, .ref mg, .ref mq, .ref ml, .ref mf, .int nw, .int fw, .int (nI (tp)), .int (bI (wr)), .long dg])), (ms, .inl (G.2.1, 88, .inl s0)), (mv, .inl (G.2.1, 528, .inl sv)), (mt, .inl (G.2.1, 60, .inl tx)), (mh, .inl (G.2.1, 21, .inl ht)), (mb, .inl (G.2.1, 21, .inl bu)), (mg, .inl (G.2.1, 21, .inl hg)), (mq, .inl (G.2.1, 21, .inl pq)), (ml, .inl (G.2.1, 21, .inl ld)), (mf, .inl (G.2.1, 20, .inl fo))])) 0 0 := by
  refine k_entry (cc := cX6_setting) (maxL := 2) (ret := (some .int)) (by decide) rfl (Nat.le_of_ble_eq_true rfl) ?_
  intro p e s m args below meth c A ls H locs Q hQ hx hb hml hr hts hown hlocks hin hA hP hK hD hS hl
  have hown : s.vm.findClass RX6 = some m.cls := hown
  have hl : lv_has ls 2 [(0, .ref m0), (1, .int k)] := hl
  refine lv_aload_n hx hb dX6_setting_0 rfl (lv_at hl 0 rfl) ?_
  refine lv_iload_n hx hb dX6_setting_1 rfl (lv_at hl 1 rfl) ?_
  refine lv_iconst (v := 0) hx hb dX6_setting_2 (by decide) ?_
  refine lv_iconst (v := 3) hx hb dX6_setting_3 (by decide) ?_
  refine k_ci (wr := [(m0, .inr (6, [.int (nI (th)), .ref ms, .ref mv, .int (nI (sm)), .ref mt, .int (nI (ln)), .ref mh, .ref mb, .ref mg, .ref mq, .ref ml, .ref mf, .int nw, .int fw, .int (nI (tp)), .int (bI (wr)), .long dg])), (ms, .inl (G.2.1, 88, .inl s0)), (mv, .inl (G.2.1, 528, .inl sv)), (mt, .inl (G.2.1, 60, .inl tx)), (mh, .inl (G.2.1, 21, .inl ht)), (mb, .inl (G.2.1, 21, .inl bu)), (mg, .inl (G.2.1, 21, .inl hg)), (mq, .inl (G.2.1, 21, .inl pq)), (ml, .inl (G.2.1, 21, .inl ld)), (mf, .inl (G.2.1, 20, .inl fo))]) [0, 1, 2, 3, 4, 5, 6, 7, 8, 9] rfl (by decide) [] rfl (by decide) hP hD hS hA (k_S (n := 3) (As := [.int k, .int 0, .int 3]) (rest := [.ref m0]) (wc := []) hx hb hml hown hts hK hP hD hl (c_X6_in l G k 0 3 H.size) [] rfl (by decide) gX6_setting_X6_in rfl rfl rfl (by decide +kernel) rfl ⟨Nat.le_of_ble_eq_true rfl, Nat.le_of_ble_eq_true rfl⟩ rfl (Nat.le_of_ble_eq_true rfl) dX6_setting_4 ⟨Nat.le_of_ble_eq_true rfl, Nat.le_of_ble_eq_true rfl⟩) (fun r_4 u H locs hw hP hD hS => ?_)
  have hw_4 : r_4 = bI (decide (0 ≤ k ∧ k ≤ 3)) := hw
  have hP : va_P G.1 vwCl [(m0, .inr (6, [.int (nI (th)), .ref ms, .ref mv, .int (nI (sm)), .ref mt, .int (nI (ln)), .ref mh, .ref mb, .ref mg, .ref mq, .ref ml, .ref mf, .int nw, .int fw, .int (nI (tp)), .int (bI (wr)), .long dg])), (ms, .inl (G.2.1, 88, .inl s0)), (mv, .inl (G.2.1, 528, .inl sv)), (mt, .inl (G.2.1, 60, .inl tx)), (mh, .inl (G.2.1, 21, .inl ht)), (mb, .inl (G.2.1, 21, .inl bu)), (mg, .inl (G.2.1, 21, .inl hg)), (mq, .inl (G.2.1, 21, .inl pq)), (ml, .inl (G.2.1, 21, .inl ld)), (mf, .inl (G.2.1, 20, .inl fo))] H := hP
  have hD : va_D A [(m0, .inr (6, [.int (nI (th)), .ref ms, .ref mv, .int (nI (sm)), .ref mt, .int (nI (ln)), .ref mh, .ref mb, .ref mg, .ref mq, .ref ml, .ref mf, .int nw, .int fw, .int (nI (tp)), .int (bI (wr)), .long dg])), (ms, .inl (G.2.1, 88, .inl s0)), (mv, .inl (G.2.1, 528, .inl sv)), (mt, .inl (G.2.1, 60, .inl tx)), (mh, .inl (G.2.1, 21, .inl ht)), (mb, .inl (G.2.1, 21, .inl bu)), (mg, .inl (G.2.1, 21, .inl hg)), (mq, .inl (G.2.1, 21, .inl pq)), (ml, .inl (G.2.1, 21, .inl ld)), (mf, .inl (G.2.1, 20, .inl fo))] := hD
  subst hw_4
  refine g_ti (y := nI 0) (in4_f h1) ?_
  refine g_if_eq (a := 0) (tgt := 14) hx hb (by omega) dX6_setting_7 (by decide) (fun c_7 => ?_) (fun c_7 => ?_)
  · skip
    refine lv_iconst (v := 1) hx hb dX6_setting_14 (by decide) ?_
    refine k_ci (wr := []) [] rfl (by decide) [0, 1, 2, 3, 4, 5, 6, 7, 8, 9] rfl (by decide) hP hD hS hA (k_V (n := 1) (ci := 6) (As := [.int 1]) (rest := []) (wc := [(m0, .inr (6, [.int (nI (th)), .ref ms, .ref mv, .int (nI (sm)), .ref mt, .int (nI (ln)), .ref mh, .ref mb, .ref mg, .ref mq, .ref ml, .ref mf, .int nw, .int fw, .int (nI (tp)), .int (bI (wr)), .long dg])), (ms, .inl (G.2.1, 88, .inl s0)), (mv, .inl (G.2.1, 528, .inl sv)), (mt, .inl (G.2.1, 60, .inl tx)), (mh, .inl (G.2.1, 21, .inl ht)), (mb, .inl (G.2.1, 21, .inl bu)), (mg, .inl (G.2.1, 21, .inl hg)), (mq, .inl (G.2.1, 21, .inl pq)), (ml, .inl (G.2.1, 21, .inl ld)), (mf, .inl (G.2.1, 20, .inl fo))]) hx hb hml hown hts hK hP hD hl (c_X6_holds l G m0 ms mv mt mh mb mg mq ml mf th s0 sv sm tx ln ht bu hg pq ld fo nw fw tp wr dg 1 H.size (by first | assumption | omega)) [0, 1, 2, 3, 4, 5, 6, 7, 8, 9] rfl (by decide) gX6_setting_X6_holds rfl rfl rfl (by decide +kernel) rfl ⟨Nat.le_of_ble_eq_true rfl, Nat.le_of_ble_eq_true rfl⟩ rfl rfl rfl (Nat.le_of_ble_eq_true rfl) dX6_setting_15 ⟨Nat.le_of_ble_eq_true rfl, Nat.le_of_ble_eq_true rfl⟩) (fun r_15 u H locs hw hP hD hS => ?_)
    have hw_15 : r_15 = bI (decide (1 = 0)) := hw
    have hP : va_P G.1 vwCl [(m0, .inr (6, [.int (nI (1)), .ref ms, .ref mv, .int (nI (sm)), .ref mt, .int (nI (ln)), .ref mh, .ref mb, .ref mg, .ref mq, .ref ml, .ref mf, .int nw, .int fw, .int (nI (tp)), .int (bI (wr)), .long dg])), (ms, .inl (G.2.1, 88, .inl s0)), (mv, .inl (G.2.1, 528, .inl sv)), (mt, .inl (G.2.1, 60, .inl tx)), (mh, .inl (G.2.1, 21, .inl ht)), (mb, .inl (G.2.1, 21, .inl bu)), (mg, .inl (G.2.1, 21, .inl hg)), (mq, .inl (G.2.1, 21, .inl pq)), (ml, .inl (G.2.1, 21, .inl ld)), (mf, .inl (G.2.1, 20, .inl fo))] H := hP
    have hD : va_D A [(m0, .inr (6, [.int (nI (1)), .ref ms, .ref mv, .int (nI (sm)), .ref mt, .int (nI (ln)), .ref mh, .ref mb, .ref mg, .ref mq, .ref ml, .ref mf, .int nw, .int fw, .int (nI (tp)), .int (bI (wr)), .long dg])), (ms, .inl (G.2.1, 88, .inl s0)), (mv, .inl (G.2.1, 528, .inl sv)), (mt, .inl (G.2.1, 60, .inl tx)), (mh, .inl (G.2.1, 21, .inl ht)), (mb, .inl (G.2.1, 21, .inl bu)), (mg, .inl (G.2.1, 21, .inl hg)), (mq, .inl (G.2.1, 21, .inl pq)), (ml, .inl (G.2.1, 21, .inl ld)), (mf, .inl (G.2.1, 20, .inl fo))] := hD
    subst hw_15
    refine g_ti (y := nI 0) (by rw [decide_eq_false (by decide)]; rfl) ?_
    refine g_if_eq (a := 0) (tgt := 35) hx hb (by omega) dX6_setting_18 (by decide) (fun c_18 => ?_) (fun c_18 => ?_)
    · skip
      refine lv_iconst (v := 0) hx hb dX6_setting_35 (by decide) ?_
      rw [hQ]
      exact k_iret (v := 0) () [0, 1, 2, 3, 4, 5, 6, 7, 8, 9] hx hb hr hlocks (rfl) hK hP hD hS rfl (by decide) dX6_setting_36
    · exact absurd c_18 (by decide)
  · exact absurd c_7 (by decide)
set_option maxHeartbeats 4000000 in
set_option maxRecDepth 100000 in
theorem c_X6_setting_0 (l : Launch) (G : kG) (m0 : Nat) (ms : Nat) (mv : Nat) (mt : Nat) (mh : Nat) (mb : Nat) (mg : Nat) (mq : Nat) (ml : Nat) (mf : Nat) (th : Nat) (s0 : Fn) (sv : Fn) (sm : Nat) (tx : Fn) (ln : Nat) (ht : Fn) (bu : Fn) (hg : Fn) (pq : Fn) (ld : Fn) (fo : Fn) (nw : Int32) (fw : Int32) (tp : Nat) (wr : Bool) (dg : Int64) (j : Nat) (sz : Nat) (hj : j < 4) : kMet l yX6_setting wsX6_setting ({ frames := 1, cells := 0, slots := 0, locals := 22 } : Room) G [.ref m0, .int (nI (j))] [(m0, .inr (6, [.int (nI (th)), .ref ms, .ref mv, .int (nI (sm)), .ref mt, .int (nI (ln)), .ref mh, .ref mb, .ref mg, .ref mq, .ref ml, .ref mf, .int nw, .int fw, .int (nI (tp)), .int (bI (wr)), .long dg])), (ms, .inl (G.2.1, 88, .inl s0)), (mv, .inl (G.2.1, 528, .inl sv)), (mt, .inl (G.2.1, 60, .inl tx)), (mh, .inl (G.2.1, 21, .inl ht)), (mb, .inl (G.2.1, 21, .inl bu)), (mg, .inl (G.2.1, 21, .inl hg)), (mq, .inl (G.2.1, 21, .inl pq)), (ml, .inl (G.2.1, 21, .inl ld)), (mf, .inl (G.2.1, 20, .inl fo))] sz (kQi G (fun (r : Int32) (u : Unit) => r = s0 (1 + j) + 100) (fun (u : Unit) => [(m0, .inr (6, [.int (nI 0), .ref ms, .ref mv, .int (nI (sm)), .ref mt, .int (nI (ln)), .ref mh, .ref mb, .ref mg, .ref mq, .ref ml, .ref mf, .int nw, .int fw, .int (nI (tp)), .int (bI (wr)), .long dg])), (ms, .inl (G.2.1, 88, .inl s0)), (mv, .inl (G.2.1, 528, .inl sv)), (mt, .inl (G.2.1, 60, .inl tx)), (mh, .inl (G.2.1, 21, .inl ht)), (mb, .inl (G.2.1, 21, .inl bu)), (mg, .inl (G.2.1, 21, .inl hg)), (mq, .inl (G.2.1, 21, .inl pq)), (ml, .inl (G.2.1, 21, .inl ld)), (mf, .inl (G.2.1, 20, .inl fo))])) 0 0 := by
  refine k_entry (cc := cX6_setting) (maxL := 2) (ret := (some .int)) (by decide) rfl (Nat.le_of_ble_eq_true rfl) ?_
  intro p e s m args below meth c A ls H locs Q hQ hx hb hml hr hts hown hlocks hin hA hP hK hD hS hl
  have hown : s.vm.findClass RX6 = some m.cls := hown
  have hl : lv_has ls 2 [(0, .ref m0), (1, .int (nI (j)))] := hl
  have hf7 := hts (.fieldLink RX6 7 "HangingChainModel" "s" "[I") (by decide +kernel)
  have hinX6 : ∀ w ∈ wsX60, w ∈ wsX6_setting := by decide +kernel
  refine lv_aload_n hx hb dX6_setting_0 rfl (lv_at hl 0 rfl) ?_
  refine lv_iload_n hx hb dX6_setting_1 rfl (lv_at hl 1 rfl) ?_
  refine lv_iconst (v := 0) hx hb dX6_setting_2 (by decide) ?_
  refine lv_iconst (v := 3) hx hb dX6_setting_3 (by decide) ?_
  refine k_ci (wr := [(m0, .inr (6, [.int (nI (th)), .ref ms, .ref mv, .int (nI (sm)), .ref mt, .int (nI (ln)), .ref mh, .ref mb, .ref mg, .ref mq, .ref ml, .ref mf, .int nw, .int fw, .int (nI (tp)), .int (bI (wr)), .long dg])), (ms, .inl (G.2.1, 88, .inl s0)), (mv, .inl (G.2.1, 528, .inl sv)), (mt, .inl (G.2.1, 60, .inl tx)), (mh, .inl (G.2.1, 21, .inl ht)), (mb, .inl (G.2.1, 21, .inl bu)), (mg, .inl (G.2.1, 21, .inl hg)), (mq, .inl (G.2.1, 21, .inl pq)), (ml, .inl (G.2.1, 21, .inl ld)), (mf, .inl (G.2.1, 20, .inl fo))]) [0, 1, 2, 3, 4, 5, 6, 7, 8, 9] rfl (by decide) [] rfl (by decide) hP hD hS hA (k_S (n := 3) (As := [.int (nI (j)), .int 0, .int 3]) (rest := [.ref m0]) (wc := []) hx hb hml hown hts hK hP hD hl (c_X6_in l G (nI (j)) 0 3 H.size) [] rfl (by decide) gX6_setting_X6_in rfl rfl rfl (by decide +kernel) rfl ⟨Nat.le_of_ble_eq_true rfl, Nat.le_of_ble_eq_true rfl⟩ rfl (Nat.le_of_ble_eq_true rfl) dX6_setting_4 ⟨Nat.le_of_ble_eq_true rfl, Nat.le_of_ble_eq_true rfl⟩) (fun r_4 u H locs hw hP hD hS => ?_)
  have hw_4 : r_4 = bI (decide (0 ≤ (nI (j)) ∧ (nI (j)) ≤ 3)) := hw
  have hP : va_P G.1 vwCl [(m0, .inr (6, [.int (nI (th)), .ref ms, .ref mv, .int (nI (sm)), .ref mt, .int (nI (ln)), .ref mh, .ref mb, .ref mg, .ref mq, .ref ml, .ref mf, .int nw, .int fw, .int (nI (tp)), .int (bI (wr)), .long dg])), (ms, .inl (G.2.1, 88, .inl s0)), (mv, .inl (G.2.1, 528, .inl sv)), (mt, .inl (G.2.1, 60, .inl tx)), (mh, .inl (G.2.1, 21, .inl ht)), (mb, .inl (G.2.1, 21, .inl bu)), (mg, .inl (G.2.1, 21, .inl hg)), (mq, .inl (G.2.1, 21, .inl pq)), (ml, .inl (G.2.1, 21, .inl ld)), (mf, .inl (G.2.1, 20, .inl fo))] H := hP
  have hD : va_D A [(m0, .inr (6, [.int (nI (th)), .ref ms, .ref mv, .int (nI (sm)), .ref mt, .int (nI (ln)), .ref mh, .ref mb, .ref mg, .ref mq, .ref ml, .ref mf, .int nw, .int fw, .int (nI (tp)), .int (bI (wr)), .long dg])), (ms, .inl (G.2.1, 88, .inl s0)), (mv, .inl (G.2.1, 528, .inl sv)), (mt, .inl (G.2.1, 60, .inl tx)), (mh, .inl (G.2.1, 21, .inl ht)), (mb, .inl (G.2.1, 21, .inl bu)), (mg, .inl (G.2.1, 21, .inl hg)), (mq, .inl (G.2.1, 21, .inl pq)), (ml, .inl (G.2.1, 21, .inl ld)), (mf, .inl (G.2.1, 20, .inl fo))] := hD
  subst hw_4
  refine g_ti (y := nI 1) (in4_t (by rw [isN_nI (by omega), decide_eq_true hj])) ?_
  refine g_if_eq (a := 1) (tgt := 14) hx hb (by omega) dX6_setting_7 (by decide) (fun c_7 => ?_) (fun c_7 => ?_)
  · exact absurd c_7 (by decide)
  · skip
    refine lv_iconst (v := 0) hx hb dX6_setting_10 (by decide) ?_
    refine lv_goto (tgt := 15) hx hb dX6_setting_11 (by decide) ?_
    refine k_ci (wr := []) [] rfl (by decide) [0, 1, 2, 3, 4, 5, 6, 7, 8, 9] rfl (by decide) hP hD hS hA (k_V (n := 1) (ci := 6) (As := [.int 0]) (rest := []) (wc := [(m0, .inr (6, [.int (nI (th)), .ref ms, .ref mv, .int (nI (sm)), .ref mt, .int (nI (ln)), .ref mh, .ref mb, .ref mg, .ref mq, .ref ml, .ref mf, .int nw, .int fw, .int (nI (tp)), .int (bI (wr)), .long dg])), (ms, .inl (G.2.1, 88, .inl s0)), (mv, .inl (G.2.1, 528, .inl sv)), (mt, .inl (G.2.1, 60, .inl tx)), (mh, .inl (G.2.1, 21, .inl ht)), (mb, .inl (G.2.1, 21, .inl bu)), (mg, .inl (G.2.1, 21, .inl hg)), (mq, .inl (G.2.1, 21, .inl pq)), (ml, .inl (G.2.1, 21, .inl ld)), (mf, .inl (G.2.1, 20, .inl fo))]) hx hb hml hown hts hK hP hD hl (c_X6_holds l G m0 ms mv mt mh mb mg mq ml mf th s0 sv sm tx ln ht bu hg pq ld fo nw fw tp wr dg 0 H.size (by first | assumption | omega)) [0, 1, 2, 3, 4, 5, 6, 7, 8, 9] rfl (by decide) gX6_setting_X6_holds rfl rfl rfl (by decide +kernel) rfl ⟨Nat.le_of_ble_eq_true rfl, Nat.le_of_ble_eq_true rfl⟩ rfl rfl rfl (Nat.le_of_ble_eq_true rfl) dX6_setting_15 ⟨Nat.le_of_ble_eq_true rfl, Nat.le_of_ble_eq_true rfl⟩) (fun r_15 u H locs hw hP hD hS => ?_)
    have hw_15 : r_15 = bI (decide (0 = 0)) := hw
    have hP : va_P G.1 vwCl [(m0, .inr (6, [.int (nI (0)), .ref ms, .ref mv, .int (nI (sm)), .ref mt, .int (nI (ln)), .ref mh, .ref mb, .ref mg, .ref mq, .ref ml, .ref mf, .int nw, .int fw, .int (nI (tp)), .int (bI (wr)), .long dg])), (ms, .inl (G.2.1, 88, .inl s0)), (mv, .inl (G.2.1, 528, .inl sv)), (mt, .inl (G.2.1, 60, .inl tx)), (mh, .inl (G.2.1, 21, .inl ht)), (mb, .inl (G.2.1, 21, .inl bu)), (mg, .inl (G.2.1, 21, .inl hg)), (mq, .inl (G.2.1, 21, .inl pq)), (ml, .inl (G.2.1, 21, .inl ld)), (mf, .inl (G.2.1, 20, .inl fo))] H := hP
    have hD : va_D A [(m0, .inr (6, [.int (nI (0)), .ref ms, .ref mv, .int (nI (sm)), .ref mt, .int (nI (ln)), .ref mh, .ref mb, .ref mg, .ref mq, .ref ml, .ref mf, .int nw, .int fw, .int (nI (tp)), .int (bI (wr)), .long dg])), (ms, .inl (G.2.1, 88, .inl s0)), (mv, .inl (G.2.1, 528, .inl sv)), (mt, .inl (G.2.1, 60, .inl tx)), (mh, .inl (G.2.1, 21, .inl ht)), (mb, .inl (G.2.1, 21, .inl bu)), (mg, .inl (G.2.1, 21, .inl hg)), (mq, .inl (G.2.1, 21, .inl pq)), (ml, .inl (G.2.1, 21, .inl ld)), (mf, .inl (G.2.1, 20, .inl fo))] := hD
    subst hw_15
    refine g_ti (y := nI 1) (by rw [decide_eq_true (show (0 : Nat) = 0 from rfl)]; rfl) ?_
    refine g_if_eq (a := 1) (tgt := 35) hx hb (by omega) dX6_setting_18 (by decide) (fun c_18 => ?_) (fun c_18 => ?_)
    · exact absurd c_18 (by decide)
    · skip
      refine lv_aload_n hx hb dX6_setting_21 rfl (lv_at hl 0 rfl) ?_
      refine va_get (D := G.1) (ci := 6) (v := .ref ms) (C := RX6) (T := TX6) (N := 17) hx hb hts hinX6 hown hK hP 0 rfl rfl 1 (by decide) hf7 (fun _ h9 => h9) rfl dX6_setting_22 ?_
      refine lv_iconst (v := 1) hx hb dX6_setting_25 (by decide) ?_
      refine lv_iload_n hx hb dX6_setting_26 rfl (lv_at hl 1 rfl) ?_
      refine lv_iadd hx hb dX6_setting_27 ?_
      refine g_ti (y := nI (1 + j)) (nI_add (1) (j)) ?_
      refine g_iald (k := 1 + j) hx hb hK hP 1 rfl (by omega) (by omega) dX6_setting_28 ?_
      refine lv_bipush (v := 100) hx hb dX6_setting_29 (by decide) ?_
      refine lv_iadd hx hb dX6_setting_31 ?_
      refine lv_goto (tgt := 36) hx hb dX6_setting_32 (by decide) ?_
      rw [hQ]
      exact k_iret (v := (s0 (1 + j)) + 100) () [0, 1, 2, 3, 4, 5, 6, 7, 8, 9] hx hb hr hlocks (rfl) hK hP hD hS rfl (by decide) dX6_setting_36
set_option maxHeartbeats 4000000 in
set_option maxRecDepth 100000 in
theorem c_X6_undo_1 (l : Launch) (G : kG) (m0 : Nat) (ms : Nat) (mv : Nat) (mt : Nat) (mh : Nat) (mb : Nat) (mg : Nat) (mq : Nat) (ml : Nat) (mf : Nat) (th : Nat) (s0 : Fn) (sv : Fn) (sm : Nat) (tx : Fn) (ln : Nat) (ht : Fn) (bu : Fn) (hg : Fn) (pq : Fn) (ld : Fn) (fo : Fn) (nw : Int32) (fw : Int32) (tp : Nat) (wr : Bool) (dg : Int64) (sz : Nat) (h1 : sm = 0) : kMet l yX6_undo wsX6_undo ({ frames := 1, cells := 0, slots := 0, locals := 21 } : Room) G [.ref m0] [(m0, .inr (6, [.int (nI (th)), .ref ms, .ref mv, .int (nI (sm)), .ref mt, .int (nI (ln)), .ref mh, .ref mb, .ref mg, .ref mq, .ref ml, .ref mf, .int nw, .int fw, .int (nI (tp)), .int (bI (wr)), .long dg])), (ms, .inl (G.2.1, 88, .inl s0)), (mv, .inl (G.2.1, 528, .inl sv)), (mt, .inl (G.2.1, 60, .inl tx)), (mh, .inl (G.2.1, 21, .inl ht)), (mb, .inl (G.2.1, 21, .inl bu)), (mg, .inl (G.2.1, 21, .inl hg)), (mq, .inl (G.2.1, 21, .inl pq)), (ml, .inl (G.2.1, 21, .inl ld)), (mf, .inl (G.2.1, 20, .inl fo))] sz (kQi G (fun (r : Int32) (u : Unit) => r = 0) (fun (u : Unit) => [(m0, .inr (6, [.int (nI 1), .ref ms, .ref mv, .int (nI (sm)), .ref mt, .int (nI (ln)), .ref mh, .ref mb, .ref mg, .ref mq, .ref ml, .ref mf, .int nw, .int fw, .int (nI (tp)), .int (bI (wr)), .long dg])), (ms, .inl (G.2.1, 88, .inl s0)), (mv, .inl (G.2.1, 528, .inl sv)), (mt, .inl (G.2.1, 60, .inl tx)), (mh, .inl (G.2.1, 21, .inl ht)), (mb, .inl (G.2.1, 21, .inl bu)), (mg, .inl (G.2.1, 21, .inl hg)), (mq, .inl (G.2.1, 21, .inl pq)), (ml, .inl (G.2.1, 21, .inl ld)), (mf, .inl (G.2.1, 20, .inl fo))])) 0 0 := by
  refine k_entry (cc := cX6_undo) (maxL := 2) (ret := (some .int)) (by decide) rfl (Nat.le_of_ble_eq_true rfl) ?_
  intro p e s m args below meth c A ls H locs Q hQ hx hb hml hr hts hown hlocks hin hA hP hK hD hS hl
  have hown : s.vm.findClass RX6 = some m.cls := hown
  have hl : lv_has ls 2 [(0, .ref m0)] := hl
  have hf45 := hts (.fieldLink RX6 45 "HangingChainModel" "savedMany" "I") (by decide +kernel)
  have hinX6 : ∀ w ∈ wsX60, w ∈ wsX6_undo := by decide +kernel
  refine lv_aload_n hx hb dX6_undo_0 rfl (lv_at hl 0 rfl) ?_
  refine lv_aload_n hx hb dX6_undo_1 rfl (lv_at hl 0 rfl) ?_
  refine va_get (D := G.1) (ci := 6) (v := .int (nI (sm))) (C := RX6) (T := TX6) (N := 17) hx hb hts hinX6 hown hK hP 0 rfl rfl 3 (by decide) hf45 (fun _ h9 => h9) rfl dX6_undo_2 ?_
  refine g_if_le (a := sm) (tgt := 12) hx hb (by omega) dX6_undo_5 (by decide) (fun c_5 => ?_) (fun c_5 => ?_)
  · skip
    refine lv_iconst (v := 1) hx hb dX6_undo_12 (by decide) ?_
    refine k_ci (wr := []) [] rfl (by decide) [0, 1, 2, 3, 4, 5, 6, 7, 8, 9] rfl (by decide) hP hD hS hA (k_V (n := 1) (ci := 6) (As := [.int 1]) (rest := []) (wc := [(m0, .inr (6, [.int (nI (th)), .ref ms, .ref mv, .int (nI (sm)), .ref mt, .int (nI (ln)), .ref mh, .ref mb, .ref mg, .ref mq, .ref ml, .ref mf, .int nw, .int fw, .int (nI (tp)), .int (bI (wr)), .long dg])), (ms, .inl (G.2.1, 88, .inl s0)), (mv, .inl (G.2.1, 528, .inl sv)), (mt, .inl (G.2.1, 60, .inl tx)), (mh, .inl (G.2.1, 21, .inl ht)), (mb, .inl (G.2.1, 21, .inl bu)), (mg, .inl (G.2.1, 21, .inl hg)), (mq, .inl (G.2.1, 21, .inl pq)), (ml, .inl (G.2.1, 21, .inl ld)), (mf, .inl (G.2.1, 20, .inl fo))]) hx hb hml hown hts hK hP hD hl (c_X6_holds l G m0 ms mv mt mh mb mg mq ml mf th s0 sv sm tx ln ht bu hg pq ld fo nw fw tp wr dg 1 H.size (by first | assumption | omega)) [0, 1, 2, 3, 4, 5, 6, 7, 8, 9] rfl (by decide) gX6_undo_X6_holds rfl rfl rfl (by decide +kernel) rfl ⟨Nat.le_of_ble_eq_true rfl, Nat.le_of_ble_eq_true rfl⟩ rfl rfl rfl (Nat.le_of_ble_eq_true rfl) dX6_undo_13 ⟨Nat.le_of_ble_eq_true rfl, Nat.le_of_ble_eq_true rfl⟩) (fun r_13 u H locs hw hP hD hS => ?_)
    have hw_13 : r_13 = bI (decide (1 = 0)) := hw
    have hP : va_P G.1 vwCl [(m0, .inr (6, [.int (nI (1)), .ref ms, .ref mv, .int (nI (sm)), .ref mt, .int (nI (ln)), .ref mh, .ref mb, .ref mg, .ref mq, .ref ml, .ref mf, .int nw, .int fw, .int (nI (tp)), .int (bI (wr)), .long dg])), (ms, .inl (G.2.1, 88, .inl s0)), (mv, .inl (G.2.1, 528, .inl sv)), (mt, .inl (G.2.1, 60, .inl tx)), (mh, .inl (G.2.1, 21, .inl ht)), (mb, .inl (G.2.1, 21, .inl bu)), (mg, .inl (G.2.1, 21, .inl hg)), (mq, .inl (G.2.1, 21, .inl pq)), (ml, .inl (G.2.1, 21, .inl ld)), (mf, .inl (G.2.1, 20, .inl fo))] H := hP
    have hD : va_D A [(m0, .inr (6, [.int (nI (1)), .ref ms, .ref mv, .int (nI (sm)), .ref mt, .int (nI (ln)), .ref mh, .ref mb, .ref mg, .ref mq, .ref ml, .ref mf, .int nw, .int fw, .int (nI (tp)), .int (bI (wr)), .long dg])), (ms, .inl (G.2.1, 88, .inl s0)), (mv, .inl (G.2.1, 528, .inl sv)), (mt, .inl (G.2.1, 60, .inl tx)), (mh, .inl (G.2.1, 21, .inl ht)), (mb, .inl (G.2.1, 21, .inl bu)), (mg, .inl (G.2.1, 21, .inl hg)), (mq, .inl (G.2.1, 21, .inl pq)), (ml, .inl (G.2.1, 21, .inl ld)), (mf, .inl (G.2.1, 20, .inl fo))] := hD
    subst hw_13
    refine g_ti (y := nI 0) (by rw [decide_eq_false (by decide)]; rfl) ?_
    refine g_if_ne (a := 0) (tgt := 21) hx hb (by omega) dX6_undo_16 (by decide) (fun c_16 => ?_) (fun c_16 => ?_)
    · exact absurd c_16 (by decide)
    · skip
      refine lv_iconst (v := 0) hx hb dX6_undo_19 (by decide) ?_
      rw [hQ]
      exact k_iret (v := 0) () [0, 1, 2, 3, 4, 5, 6, 7, 8, 9] hx hb hr hlocks (rfl) hK hP hD hS rfl (by decide) dX6_undo_20
  · omega
set_option maxHeartbeats 4000000 in
set_option maxRecDepth 100000 in
theorem c_X6_undo_0 (l : Launch) (G : kG) (m0 : Nat) (ms : Nat) (mv : Nat) (mt : Nat) (mh : Nat) (mb : Nat) (mg : Nat) (mq : Nat) (ml : Nat) (mf : Nat) (th : Nat) (s0 : Fn) (sv : Fn) (sm : Nat) (tx : Fn) (ln : Nat) (ht : Fn) (bu : Fn) (hg : Fn) (pq : Fn) (ld : Fn) (fo : Fn) (nw : Int32) (fw : Int32) (tp : Nat) (wr : Bool) (dg : Int64) (sz : Nat) (hsm : sm ≤ 6) (h1 : 0 < sm) : kMet l yX6_undo wsX6_undo ({ frames := 1, cells := 0, slots := 0, locals := 21 } : Room) G [.ref m0] [(m0, .inr (6, [.int (nI (th)), .ref ms, .ref mv, .int (nI (sm)), .ref mt, .int (nI (ln)), .ref mh, .ref mb, .ref mg, .ref mq, .ref ml, .ref mf, .int nw, .int fw, .int (nI (tp)), .int (bI (wr)), .long dg])), (ms, .inl (G.2.1, 88, .inl s0)), (mv, .inl (G.2.1, 528, .inl sv)), (mt, .inl (G.2.1, 60, .inl tx)), (mh, .inl (G.2.1, 21, .inl ht)), (mb, .inl (G.2.1, 21, .inl bu)), (mg, .inl (G.2.1, 21, .inl hg)), (mq, .inl (G.2.1, 21, .inl pq)), (ml, .inl (G.2.1, 21, .inl ld)), (mf, .inl (G.2.1, 20, .inl fo))] sz (kQi G (fun (r : Int32) (u : Unit) => r = nI (sm - 1)) (fun (u : Unit) => [(m0, .inr (6, [.int (nI 0), .ref ms, .ref mv, .int (nI (sm - 1)), .ref mt, .int (nI (ln)), .ref mh, .ref mb, .ref mg, .ref mq, .ref ml, .ref mf, .int nw, .int fw, .int (nI (tp)), .int (bI (wr)), .long dg])), (ms, .inl (G.2.1, 88, .inl (tilN (mGet sv (sm - 1)) s0 88))), (mv, .inl (G.2.1, 528, .inl sv)), (mt, .inl (G.2.1, 60, .inl tx)), (mh, .inl (G.2.1, 21, .inl ht)), (mb, .inl (G.2.1, 21, .inl bu)), (mg, .inl (G.2.1, 21, .inl hg)), (mq, .inl (G.2.1, 21, .inl pq)), (ml, .inl (G.2.1, 21, .inl ld)), (mf, .inl (G.2.1, 20, .inl fo))])) 0 0 := by
  refine k_entry (cc := cX6_undo) (maxL := 2) (ret := (some .int)) (by decide) rfl (Nat.le_of_ble_eq_true rfl) ?_
  intro p e s m args below meth c A ls H locs Q hQ hx hb hml hr hts hown hlocks hin hA hP hK hD hS hl
  have hown : s.vm.findClass RX6 = some m.cls := hown
  have hl : lv_has ls 2 [(0, .ref m0)] := hl
  have hf45 := hts (.fieldLink RX6 45 "HangingChainModel" "savedMany" "I") (by decide +kernel)
  have hinX6 : ∀ w ∈ wsX60, w ∈ wsX6_undo := by decide +kernel
  have hf7 := hts (.fieldLink RX6 7 "HangingChainModel" "s" "[I") (by decide +kernel)
  have hf13 := hts (.fieldLink RX6 13 "HangingChainModel" "saved" "[I") (by decide +kernel)
  refine lv_aload_n hx hb dX6_undo_0 rfl (lv_at hl 0 rfl) ?_
  refine lv_aload_n hx hb dX6_undo_1 rfl (lv_at hl 0 rfl) ?_
  refine va_get (D := G.1) (ci := 6) (v := .int (nI (sm))) (C := RX6) (T := TX6) (N := 17) hx hb hts hinX6 hown hK hP 0 rfl rfl 3 (by decide) hf45 (fun _ h9 => h9) rfl dX6_undo_2 ?_
  refine g_if_le (a := sm) (tgt := 12) hx hb (by omega) dX6_undo_5 (by decide) (fun c_5 => ?_) (fun c_5 => ?_)
  · omega
  · skip
    refine lv_iconst (v := 0) hx hb dX6_undo_8 (by decide) ?_
    refine lv_goto (tgt := 13) hx hb dX6_undo_9 (by decide) ?_
    refine k_ci (wr := []) [] rfl (by decide) [0, 1, 2, 3, 4, 5, 6, 7, 8, 9] rfl (by decide) hP hD hS hA (k_V (n := 1) (ci := 6) (As := [.int 0]) (rest := []) (wc := [(m0, .inr (6, [.int (nI (th)), .ref ms, .ref mv, .int (nI (sm)), .ref mt, .int (nI (ln)), .ref mh, .ref mb, .ref mg, .ref mq, .ref ml, .ref mf, .int nw, .int fw, .int (nI (tp)), .int (bI (wr)), .long dg])), (ms, .inl (G.2.1, 88, .inl s0)), (mv, .inl (G.2.1, 528, .inl sv)), (mt, .inl (G.2.1, 60, .inl tx)), (mh, .inl (G.2.1, 21, .inl ht)), (mb, .inl (G.2.1, 21, .inl bu)), (mg, .inl (G.2.1, 21, .inl hg)), (mq, .inl (G.2.1, 21, .inl pq)), (ml, .inl (G.2.1, 21, .inl ld)), (mf, .inl (G.2.1, 20, .inl fo))]) hx hb hml hown hts hK hP hD hl (c_X6_holds l G m0 ms mv mt mh mb mg mq ml mf th s0 sv sm tx ln ht bu hg pq ld fo nw fw tp wr dg 0 H.size (by first | assumption | omega)) [0, 1, 2, 3, 4, 5, 6, 7, 8, 9] rfl (by decide) gX6_undo_X6_holds rfl rfl rfl (by decide +kernel) rfl ⟨Nat.le_of_ble_eq_true rfl, Nat.le_of_ble_eq_true rfl⟩ rfl rfl rfl (Nat.le_of_ble_eq_true rfl) dX6_undo_13 ⟨Nat.le_of_ble_eq_true rfl, Nat.le_of_ble_eq_true rfl⟩) (fun r_13 u H locs hw hP hD hS => ?_)
    have hw_13 : r_13 = bI (decide (0 = 0)) := hw
    have hP : va_P G.1 vwCl [(m0, .inr (6, [.int (nI (0)), .ref ms, .ref mv, .int (nI (sm)), .ref mt, .int (nI (ln)), .ref mh, .ref mb, .ref mg, .ref mq, .ref ml, .ref mf, .int nw, .int fw, .int (nI (tp)), .int (bI (wr)), .long dg])), (ms, .inl (G.2.1, 88, .inl s0)), (mv, .inl (G.2.1, 528, .inl sv)), (mt, .inl (G.2.1, 60, .inl tx)), (mh, .inl (G.2.1, 21, .inl ht)), (mb, .inl (G.2.1, 21, .inl bu)), (mg, .inl (G.2.1, 21, .inl hg)), (mq, .inl (G.2.1, 21, .inl pq)), (ml, .inl (G.2.1, 21, .inl ld)), (mf, .inl (G.2.1, 20, .inl fo))] H := hP
    have hD : va_D A [(m0, .inr (6, [.int (nI (0)), .ref ms, .ref mv, .int (nI (sm)), .ref mt, .int (nI (ln)), .ref mh, .ref mb, .ref mg, .ref mq, .ref ml, .ref mf, .int nw, .int fw, .int (nI (tp)), .int (bI (wr)), .long dg])), (ms, .inl (G.2.1, 88, .inl s0)), (mv, .inl (G.2.1, 528, .inl sv)), (mt, .inl (G.2.1, 60, .inl tx)), (mh, .inl (G.2.1, 21, .inl ht)), (mb, .inl (G.2.1, 21, .inl bu)), (mg, .inl (G.2.1, 21, .inl hg)), (mq, .inl (G.2.1, 21, .inl pq)), (ml, .inl (G.2.1, 21, .inl ld)), (mf, .inl (G.2.1, 20, .inl fo))] := hD
    subst hw_13
    refine g_ti (y := nI 1) (by rw [decide_eq_true (show (0 : Nat) = 0 from rfl)]; rfl) ?_
    refine g_if_ne (a := 1) (tgt := 21) hx hb (by omega) dX6_undo_16 (by decide) (fun c_16 => ?_) (fun c_16 => ?_)
    · skip
      refine lv_aload_n hx hb dX6_undo_21 rfl (lv_at hl 0 rfl) ?_
      refine lv_dup hx hb dX6_undo_22 rfl ?_
      refine va_get (D := G.1) (ci := 6) (v := .int (nI (sm))) (C := RX6) (T := TX6) (N := 17) hx hb hts hinX6 hown hK hP 0 rfl rfl 3 (by decide) hf45 (fun _ h9 => h9) rfl dX6_undo_23 ?_
      refine lv_iconst (v := 1) hx hb dX6_undo_26 (by decide) ?_
      refine lv_isub hx hb dX6_undo_27 ?_
      refine g_ti (y := nI (sm - 1)) (pk_sub (a := sm) (b := 1) (by omega)) ?_
      refine va_put (D := G.1) (ci := 6) (v := .int (nI (sm - 1))) (ty := .int) (C := RX6) (T := TX6) (N := 17) hx hb hts hinX6 tyX6 tyX6_ok nmX6 hown hK hP hD hS 0 rfl rfl 3 (by decide) hf45 (fun _ h9 => h9) rfl (by decide +kernel) (rfl) (rfl) (Nat.le_of_ble_eq_true rfl) dX6_undo_28 (fun H locs hP hD hS => ?_)
      have hP : va_P G.1 vwCl [(m0, .inr (6, [.int (nI (0)), .ref ms, .ref mv, .int (nI (sm - 1)), .ref mt, .int (nI (ln)), .ref mh, .ref mb, .ref mg, .ref mq, .ref ml, .ref mf, .int nw, .int fw, .int (nI (tp)), .int (bI (wr)), .long dg])), (ms, .inl (G.2.1, 88, .inl s0)), (mv, .inl (G.2.1, 528, .inl sv)), (mt, .inl (G.2.1, 60, .inl tx)), (mh, .inl (G.2.1, 21, .inl ht)), (mb, .inl (G.2.1, 21, .inl bu)), (mg, .inl (G.2.1, 21, .inl hg)), (mq, .inl (G.2.1, 21, .inl pq)), (ml, .inl (G.2.1, 21, .inl ld)), (mf, .inl (G.2.1, 20, .inl fo))] H := hP
      have hD : va_D A [(m0, .inr (6, [.int (nI (0)), .ref ms, .ref mv, .int (nI (sm - 1)), .ref mt, .int (nI (ln)), .ref mh, .ref mb, .ref mg, .ref mq, .ref ml, .ref mf, .int nw, .int fw, .int (nI (tp)), .int (bI (wr)), .long dg])), (ms, .inl (G.2.1, 88, .inl s0)), (mv, .inl (G.2.1, 528, .inl sv)), (mt, .inl (G.2.1, 60, .inl tx)), (mh, .inl (G.2.1, 21, .inl ht)), (mb, .inl (G.2.1, 21, .inl bu)), (mg, .inl (G.2.1, 21, .inl hg)), (mq, .inl (G.2.1, 21, .inl pq)), (ml, .inl (G.2.1, 21, .inl ld)), (mf, .inl (G.2.1, 20, .inl fo))] := hD
      refine lv_iconst (v := 0) hx hb dX6_undo_31 (by decide) ?_
      refine lv_istore_n (lv' := [(1, .int 0), (0, .ref m0)]) hx hb dX6_undo_32 rfl hl (by decide) rfl (fun ls hl => ?_)
      have L33 : ∀ (n9 : Nat) (i : Nat), (i ≤ 88) → (88 - i < n9) → ∀ (H : Heap) (locs : List Loc) (ls : Array Slot), va_P G.1 vwCl [(m0, .inr (6, [.int (nI (0)), .ref ms, .ref mv, .int (nI (sm - 1)), .ref mt, .int (nI (ln)), .ref mh, .ref mb, .ref mg, .ref mq, .ref ml, .ref mf, .int nw, .int fw, .int (nI (tp)), .int (bI (wr)), .long dg])), (ms, .inl (G.2.1, 88, .inl (tilN (mGet sv (sm - 1)) s0 i))), (mv, .inl (G.2.1, 528, .inl sv)), (mt, .inl (G.2.1, 60, .inl tx)), (mh, .inl (G.2.1, 21, .inl ht)), (mb, .inl (G.2.1, 21, .inl bu)), (mg, .inl (G.2.1, 21, .inl hg)), (mq, .inl (G.2.1, 21, .inl pq)), (ml, .inl (G.2.1, 21, .inl ld)), (mf, .inl (G.2.1, 20, .inl fo))] H → va_D A [(m0, .inr (6, [.int (nI (0)), .ref ms, .ref mv, .int (nI (sm - 1)), .ref mt, .int (nI (ln)), .ref mh, .ref mb, .ref mg, .ref mq, .ref ml, .ref mf, .int nw, .int fw, .int (nI (tp)), .int (bI (wr)), .long dg])), (ms, .inl (G.2.1, 88, .inl (tilN (mGet sv (sm - 1)) s0 i))), (mv, .inl (G.2.1, 528, .inl sv)), (mt, .inl (G.2.1, 60, .inl tx)), (mh, .inl (G.2.1, 21, .inl ht)), (mb, .inl (G.2.1, 21, .inl bu)), (mg, .inl (G.2.1, 21, .inl hg)), (mq, .inl (G.2.1, 21, .inl pq)), (ml, .inl (G.2.1, 21, .inl ld)), (mf, .inl (G.2.1, 20, .inl fo))] → va_S A s.heap H locs → lv_has ls 2 [(1, .int (nI i)), (0, .ref m0)] → W p l e ({ frames := 1, cells := 0, slots := 0, locals := 21 } : Room) s m args below meth c H locs 0 0 Q (F0 m 33 ls []) := by
        intro n9
        induction n9 with
        | zero =>
          intro i hi hm9 H locs ls hP hD hS hl
          exact absurd hm9 (Nat.not_lt_zero _)
        | succ n9 ih33 =>
          intro i hi hm9 H locs ls hP hD hS hl
          refine lv_iload_n hx hb dX6_undo_33 rfl (lv_at hl 0 rfl) ?_
          refine lv_bipush (v := 88) hx hb dX6_undo_34 (by decide) ?_
          refine g_icmp_ge (a := i) (b := 88) (tgt := 65) hx hb (by omega) (by omega) dX6_undo_36 (by decide) (fun c_36 => ?_) (fun c_36 => ?_)
          · skip
            have e9 : 88 = i := by omega
            subst e9
            refine lv_aload_n hx hb dX6_undo_65 rfl (lv_at hl 1 rfl) ?_
            refine va_get (D := G.1) (ci := 6) (v := .int (nI (sm - 1))) (C := RX6) (T := TX6) (N := 17) hx hb hts hinX6 hown hK hP 0 rfl rfl 3 (by decide) hf45 (fun _ h9 => h9) rfl dX6_undo_66 ?_
            rw [hQ]
            exact k_iret (v := nI (sm - 1)) () [0, 1, 2, 3, 4, 5, 6, 7, 8, 9] hx hb hr hlocks (rfl) hK hP hD hS rfl (by decide) dX6_undo_69
          · skip
            refine lv_aload_n hx hb dX6_undo_39 rfl (lv_at hl 1 rfl) ?_
            refine va_get (D := G.1) (ci := 6) (v := .ref ms) (C := RX6) (T := TX6) (N := 17) hx hb hts hinX6 hown hK hP 0 rfl rfl 1 (by decide) hf7 (fun _ h9 => h9) rfl dX6_undo_40 ?_
            refine lv_iload_n hx hb dX6_undo_43 rfl (lv_at hl 0 rfl) ?_
            refine lv_aload_n hx hb dX6_undo_44 rfl (lv_at hl 1 rfl) ?_
            refine va_get (D := G.1) (ci := 6) (v := .ref mv) (C := RX6) (T := TX6) (N := 17) hx hb hts hinX6 hown hK hP 0 rfl rfl 2 (by decide) hf13 (fun _ h9 => h9) rfl dX6_undo_45 ?_
            refine lv_bipush (v := 88) hx hb dX6_undo_48 (by decide) ?_
            refine lv_aload_n hx hb dX6_undo_50 rfl (lv_at hl 1 rfl) ?_
            refine va_get (D := G.1) (ci := 6) (v := .int (nI (sm - 1))) (C := RX6) (T := TX6) (N := 17) hx hb hts hinX6 hown hK hP 0 rfl rfl 3 (by decide) hf45 (fun _ h9 => h9) rfl dX6_undo_51 ?_
            refine lv_imul hx hb dX6_undo_54 ?_
            refine g_ti (y := nI (88 * (sm - 1))) (pk_mul (88) (sm - 1)) ?_
            refine lv_iload_n hx hb dX6_undo_55 rfl (lv_at hl 0 rfl) ?_
            refine lv_iadd hx hb dX6_undo_56 ?_
            refine g_ti (y := nI ((88 * (sm - 1)) + i)) (nI_add (88 * (sm - 1)) (i)) ?_
            refine g_iald (k := (88 * (sm - 1)) + i) hx hb hK hP 2 rfl (by omega) (by omega) dX6_undo_57 ?_
            refine g_ti (y := mGet sv (sm - 1) i) (rfl) ?_
            refine g_iast (k := i) hx hb hK hP hD hS 1 rfl (by omega) (by omega) dX6_undo_58 (fun H locs hP hD hS => ?_)
            have hP : va_P G.1 vwCl [(m0, .inr (6, [.int (nI (0)), .ref ms, .ref mv, .int (nI (sm - 1)), .ref mt, .int (nI (ln)), .ref mh, .ref mb, .ref mg, .ref mq, .ref ml, .ref mf, .int nw, .int fw, .int (nI (tp)), .int (bI (wr)), .long dg])), (ms, .inl (G.2.1, 88, .inl (upd (tilN (mGet sv (sm - 1)) s0 i) i (mGet sv (sm - 1) i)))), (mv, .inl (G.2.1, 528, .inl sv)), (mt, .inl (G.2.1, 60, .inl tx)), (mh, .inl (G.2.1, 21, .inl ht)), (mb, .inl (G.2.1, 21, .inl bu)), (mg, .inl (G.2.1, 21, .inl hg)), (mq, .inl (G.2.1, 21, .inl pq)), (ml, .inl (G.2.1, 21, .inl ld)), (mf, .inl (G.2.1, 20, .inl fo))] H := hP
            have hD : va_D A [(m0, .inr (6, [.int (nI (0)), .ref ms, .ref mv, .int (nI (sm - 1)), .ref mt, .int (nI (ln)), .ref mh, .ref mb, .ref mg, .ref mq, .ref ml, .ref mf, .int nw, .int fw, .int (nI (tp)), .int (bI (wr)), .long dg])), (ms, .inl (G.2.1, 88, .inl (upd (tilN (mGet sv (sm - 1)) s0 i) i (mGet sv (sm - 1) i)))), (mv, .inl (G.2.1, 528, .inl sv)), (mt, .inl (G.2.1, 60, .inl tx)), (mh, .inl (G.2.1, 21, .inl ht)), (mb, .inl (G.2.1, 21, .inl bu)), (mg, .inl (G.2.1, 21, .inl hg)), (mq, .inl (G.2.1, 21, .inl pq)), (ml, .inl (G.2.1, 21, .inl ld)), (mf, .inl (G.2.1, 20, .inl fo))] := hD
            refine lv_iinc (v := nI (i + 1)) (lv' := [(1, .int (nI (i + 1))), (0, .ref m0)]) hx hb dX6_undo_59 hl (k := 0) rfl (nI_add (i) 1) (by decide) rfl (fun ls hl => ?_)
            refine lv_goto (tgt := 33) hx hb dX6_undo_62 (by decide) ?_
            have hfx_1 : (upd (tilN (mGet sv (sm - 1)) s0 i) i (mGet sv (sm - 1) i) : Nat → Int32) = tilN (mGet sv (sm - 1)) s0 (i + 1) := tilN_S _ _ _
            have hP : va_P G.1 vwCl [(m0, .inr (6, [.int (nI (0)), .ref ms, .ref mv, .int (nI (sm - 1)), .ref mt, .int (nI (ln)), .ref mh, .ref mb, .ref mg, .ref mq, .ref ml, .ref mf, .int nw, .int fw, .int (nI (tp)), .int (bI (wr)), .long dg])), (ms, .inl (G.2.1, 88, .inl (tilN (mGet sv (sm - 1)) s0 (i + 1)))), (mv, .inl (G.2.1, 528, .inl sv)), (mt, .inl (G.2.1, 60, .inl tx)), (mh, .inl (G.2.1, 21, .inl ht)), (mb, .inl (G.2.1, 21, .inl bu)), (mg, .inl (G.2.1, 21, .inl hg)), (mq, .inl (G.2.1, 21, .inl pq)), (ml, .inl (G.2.1, 21, .inl ld)), (mf, .inl (G.2.1, 20, .inl fo))] H := by rw [← hfx_1]; exact hP
            have hD : va_D A [(m0, .inr (6, [.int (nI (0)), .ref ms, .ref mv, .int (nI (sm - 1)), .ref mt, .int (nI (ln)), .ref mh, .ref mb, .ref mg, .ref mq, .ref ml, .ref mf, .int nw, .int fw, .int (nI (tp)), .int (bI (wr)), .long dg])), (ms, .inl (G.2.1, 88, .inl (tilN (mGet sv (sm - 1)) s0 (i + 1)))), (mv, .inl (G.2.1, 528, .inl sv)), (mt, .inl (G.2.1, 60, .inl tx)), (mh, .inl (G.2.1, 21, .inl ht)), (mb, .inl (G.2.1, 21, .inl bu)), (mg, .inl (G.2.1, 21, .inl hg)), (mq, .inl (G.2.1, 21, .inl pq)), (ml, .inl (G.2.1, 21, .inl ld)), (mf, .inl (G.2.1, 20, .inl fo))] := by rw [← hfx_1]; exact hD
            exact ih33 (i + 1) (by first | assumption | omega) (by omega) _ _ _ hP hD hS (lv_sub hl [0, 1] rfl)
      have hfx_2 : (s0 : Nat → Int32) = tilN (mGet sv (sm - 1)) s0 0 := (tilN_0 _ _).symm
      have hP : va_P G.1 vwCl [(m0, .inr (6, [.int (nI (0)), .ref ms, .ref mv, .int (nI (sm - 1)), .ref mt, .int (nI (ln)), .ref mh, .ref mb, .ref mg, .ref mq, .ref ml, .ref mf, .int nw, .int fw, .int (nI (tp)), .int (bI (wr)), .long dg])), (ms, .inl (G.2.1, 88, .inl (tilN (mGet sv (sm - 1)) s0 0))), (mv, .inl (G.2.1, 528, .inl sv)), (mt, .inl (G.2.1, 60, .inl tx)), (mh, .inl (G.2.1, 21, .inl ht)), (mb, .inl (G.2.1, 21, .inl bu)), (mg, .inl (G.2.1, 21, .inl hg)), (mq, .inl (G.2.1, 21, .inl pq)), (ml, .inl (G.2.1, 21, .inl ld)), (mf, .inl (G.2.1, 20, .inl fo))] H := by rw [← hfx_2]; exact hP
      have hD : va_D A [(m0, .inr (6, [.int (nI (0)), .ref ms, .ref mv, .int (nI (sm - 1)), .ref mt, .int (nI (ln)), .ref mh, .ref mb, .ref mg, .ref mq, .ref ml, .ref mf, .int nw, .int fw, .int (nI (tp)), .int (bI (wr)), .long dg])), (ms, .inl (G.2.1, 88, .inl (tilN (mGet sv (sm - 1)) s0 0))), (mv, .inl (G.2.1, 528, .inl sv)), (mt, .inl (G.2.1, 60, .inl tx)), (mh, .inl (G.2.1, 21, .inl ht)), (mb, .inl (G.2.1, 21, .inl bu)), (mg, .inl (G.2.1, 21, .inl hg)), (mq, .inl (G.2.1, 21, .inl pq)), (ml, .inl (G.2.1, 21, .inl ld)), (mf, .inl (G.2.1, 20, .inl fo))] := by rw [← hfx_2]; exact hD
      exact L33 (88 - 0 + 1) 0 (by first | assumption | omega) (Nat.lt_succ_self _) _ _ _ hP hD hS (lv_sub hl [0, 1] rfl)
    · exact absurd c_16 (by decide)
