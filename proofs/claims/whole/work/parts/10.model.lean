/-! HangingChainModel (X6), the reference: its row of numbers read as a chain's; its contracts. Laid by wip/whole/gen.py, m10.py. -/
def mST (s : Fn) : Fn := fun k => s (5 + k)
def mWE (s : Fn) : Fn := fun k => s (25 + k)
def mHA (s : Fn) : Fn := fun k => s (46 + k)
def mPR (s : Fn) : Fn := fun k => s (67 + k)
def mSE (s : Fn) : Fn := fun k => s (1 + k)
/-- 0 to 99 -/
def r99 (x : Int32) : Prop := 0 ≤ x ∧ x ≤ 99
/-- a chain's numbers are in their ranges -/
def cV (n : Nat) (st we ha pr se : Fn) : Prop := (∀ k, k < n → -2 ≤ st k ∧ st k ≤ 2) ∧ (∀ k, k ≤ n → r99 (we k) ∧ r99 (ha k) ∧ r99 (pr k)) ∧ 0 ≤ se 0 ∧ se 0 ≤ 20 ∧ 0 ≤ se 2 ∧ se 2 ≤ 20 ∧ 1 ≤ se 3 ∧ se 3 ≤ 999
def mOK (s : Fn) (n : Nat) : Prop := s 0 = nI n ∧ 1 ≤ n ∧ n ≤ 20 ∧ cV n (mST s) (mWE s) (mHA s) (mPR s) (mSE s)
/-- k is a number of n things -/
def isN (k : Int32) (n : Nat) : Bool := decide (0 ≤ k.toInt ∧ k.toInt < n)
theorem isN_t {k : Int32} {n : Nat} (hn : n < 2 ^ 31) (h : isN k n = true) : ∃ j : Nat, j < n ∧ k = nI j := by
  have h1 := of_decide_eq_true h
  exact vp_in_of (vp_in_iff.mpr h1) hn
theorem isN_nI {j n : Nat} (hj : j < 2 ^ 31) : isN (nI j) n = decide (j < n) := by
  unfold isN
  rw [nI_toInt hj]
  apply decide_eq_decide.mpr
  omega
theorem in_isN (k : Int32) {n : Nat} (hn : n < 2 ^ 30) : decide (0 ≤ k ∧ k ≤ nI n) = isN k (n + 1) := by
  unfold isN
  apply decide_eq_decide.mpr
  rw [Int32.le_iff_toInt_le, Int32.le_iff_toInt_le, nI_toInt (by omega), Int32.toInt_zero]
  omega
theorem isJoint_ok {k : Int32} {n : Nat} (hn : n ≤ 20) : bI (decide (0 ≤ k ∧ k ≤ nI n)) = bI (isN k (n + 1)) := by rw [in_isN k (by omega)]
theorem isLink_ok {k : Int32} {n : Nat} (hn1 : 1 ≤ n) (hn : n ≤ 20) : bI (decide (0 ≤ k ∧ k ≤ nI (n - 1))) = bI (isN k n) := by
  rw [in_isN k (by omega), Nat.sub_add_cancel hn1]
def mS88 (sv : Fn) : Fn := fun j => sv (88 + j)
theorem mS88_rd (sv : Fn) (i : Nat) : tilN (mS88 sv) sv i (88 + i) = mS88 sv i := if_neg (by omega)
def mPutI (g : Fn) (m : Nat) (s : Fn) (i : Nat) : Fn := fun j => if 88 * m ≤ j ∧ j < 88 * m + i then s (j - 88 * m) else g j
theorem mPutI_0 (g : Fn) (m : Nat) (s : Fn) : mPutI g m s 0 = g := by
  funext j
  unfold mPutI
  rw [if_neg (by omega)]
theorem mPutI_S (g : Fn) (m : Nat) (s : Fn) (i : Nat) : upd (mPutI g m s i) (88 * m + i) (s i) = mPutI g m s (i + 1) := by
  funext j
  unfold upd mPutI
  by_cases h : j = 88 * m + i
  · subst h
    rw [if_pos rfl, if_pos (by omega)]
    congr 1
    omega
  · rw [if_neg h]
    by_cases h2 : 88 * m ≤ j ∧ j < 88 * m + i
    · rw [if_pos h2, if_pos (by omega)]
    · rw [if_neg h2, if_neg (by omega)]
def mSM (sm : Nat) : Nat := if sm = 6 then 6 else sm + 1
def mSV (sv : Fn) (sm : Nat) (s : Fn) : Fn := if sm = 6 then mPutI (tilN (mS88 sv) sv 440) 5 s 88 else mPutI sv sm s 88
theorem mSV_of {sm mm : Nat} {g sv s : Fn} (h : (sm = 6 ∧ mm = 5 ∧ g = tilN (mS88 sv) sv 440) ∨ (sm ≠ 6 ∧ mm = sm ∧ g = sv)) : mPutI g mm s 88 = mSV sv sm s := by
  unfold mSV
  rcases h with ⟨h1, rfl, rfl⟩ | ⟨h1, rfl, rfl⟩
  · rw [if_pos h1]
  · rw [if_neg h1]
theorem mSM_of {sm mm : Nat} {g sv : Fn} (h : (sm = 6 ∧ mm = 5 ∧ g = tilN (mS88 sv) sv 440) ∨ (sm ≠ 6 ∧ mm = sm ∧ g = sv)) : nI (mm + 1) = nI (mSM sm) := by
  unfold mSM
  rcases h with ⟨h1, rfl, rfl⟩ | ⟨h1, rfl, rfl⟩
  · rw [if_pos h1]
  · rw [if_neg h1]
theorem mn_l {a b : Int32} (h : b ≤ a) : mn a b = b := by
  unfold mn
  by_cases q : b < a
  · rw [if_pos q]
  · rw [if_neg q]
    exact Int32.le_antisymm (Int32.not_lt.mp q) h
theorem mn_r {a b : Int32} (h : ¬ b ≤ a) : mn a b = a := if_neg (fun q => h (Int32.le_of_lt q))
theorem mx_l {a b : Int32} (h : b ≤ a) : mx a b = a := if_neg (Int32.not_lt.mpr h)
theorem mx_r {a b : Int32} (h : ¬ b ≤ a) : mx a b = b := if_pos (Int32.not_le.mp h)
theorem lay_ht {s ht : Fn} {i : Nat} (h : i ≠ 0) : tilN (sHT (mST s)) ht i (i - 1) + s (5 + i - 1) = sHT (mST s) i := by
  obtain ⟨j, rfl⟩ : ∃ j, i = j + 1 := ⟨i - 1, by omega⟩
  show _ = sHT (mST s) j + s (5 + j)
  rw [show j + 1 - 1 = j by omega, show 5 + (j + 1) - 1 = 5 + j by omega]
  congr 1
  exact if_pos (Nat.lt_succ_self j)
/-- the walls, as the reference adds them up: the joints 0 to i - 1 -/
def mBE (ld : Fn) (n : Nat) : Nat → Int32
  | 0 => 0
  | i + 1 => mBE ld n i + ld i * nI i / nI n
def mAH (ld : Fn) (n : Nat) : Nat → Int32
  | 0 => 0
  | i + 1 => mAH ld n i + (ld i - ld i * nI i / nI n)
theorem i32_0div (x : Int32) : (0 : Int32) / x = 0 := by
  apply Int32.toInt_inj.mp
  rw [Int32.toInt_div]
  simp
theorem mBE_w {ld : Fn} {n : Nat} (h0 : ld 0 = 0) : ∀ i, mBE ld n (i + 1) = wBE ld n i := by
  intro i
  induction i with
  | zero =>
    show 0 + ld 0 * nI 0 / nI n = 0
    rw [h0, Int32.zero_mul, i32_0div]
    rfl
  | succ i ih =>
    show mBE ld n (i + 1) + _ = wBE ld n i + _
    rw [ih]
theorem mAH_w {ld : Fn} {n : Nat} (h0 : ld 0 = 0) : ∀ i, mAH ld n (i + 1) = wAH ld n i := by
  intro i
  induction i with
  | zero =>
    show 0 + (ld 0 - ld 0 * nI 0 / nI n) = 0
    rw [h0, Int32.zero_mul, i32_0div]
    rfl
  | succ i ih =>
    show mAH ld n (i + 1) + _ = wAH ld n i + _
    rw [ih]
theorem mn_0 {b : Int32} (h : 0 ≤ b) : mn 0 b = 0 := if_neg (Int32.not_lt.mpr h)
theorem jLD_wall {n : Nat} {ht we ha pr se : Fn} {k : Nat} (hk : k = 0 ∨ k = n) (h1 : 0 ≤ ha k) (h2 : 0 ≤ pr k) : jLD n ht we ha pr se k = 0 := by
  have e1 : sBU n we se k = 0 := if_pos hk
  have e2 : sHG n we ha se k = 0 := by unfold sHG; rw [e1, mn_0 h1]
  have e3 : jPP n ht we ha pr se k = 0 := by
    unfold jPP
    rw [e1, e2]
    split
    · exact mn_0 h2
    · rfl
  unfold jLD
  rw [e1, e2, e3]
  rfl
theorem cLD_0 {n : Nat} {st we ha pr se : Fn} (h : cV n st we ha pr se) : cLD n st we ha pr se 0 = 0 := jLD_wall (Or.inl rfl) (h.2.1 0 (Nat.zero_le _)).2.1.1 (h.2.1 0 (Nat.zero_le _)).2.2.1
theorem cLD_n {n : Nat} {st we ha pr se : Fn} (h : cV n st we ha pr se) : cLD n st we ha pr se n = 0 := jLD_wall (Or.inr rfl) (h.2.1 n (Nat.le_refl _)).2.1.1 (h.2.1 n (Nat.le_refl _)).2.2.1
theorem mAH_of {s : Fn} {n : Nat} (h : mOK s n) : mAH (cLD n (mST s) (mWE s) (mHA s) (mPR s) (mSE s)) n (n + 1) = cAH n (mST s) (mWE s) (mHA s) (mPR s) (mSE s) := by
  obtain ⟨h0, h1, h2, hv⟩ := h
  obtain ⟨j, rfl⟩ : ∃ j, n = j + 1 := ⟨n - 1, by omega⟩
  rw [mAH_w (cLD_0 hv)]
  show wAH _ _ j + _ = wAH _ _ (j + 1 - 1)
  rw [cLD_n hv, Int32.zero_mul, i32_0div, show j + 1 - 1 = j by omega]
  show _ + 0 = _
  rw [Int32.add_zero]
theorem mBE_of {s : Fn} {n : Nat} (h : mOK s n) : mBE (cLD n (mST s) (mWE s) (mHA s) (mPR s) (mSE s)) n (n + 1) = cBE n (mST s) (mWE s) (mHA s) (mPR s) (mSE s) := by
  obtain ⟨h0, h1, h2, hv⟩ := h
  obtain ⟨j, rfl⟩ : ∃ j, n = j + 1 := ⟨n - 1, by omega⟩
  rw [mBE_w (cLD_0 hv)]
  show wBE _ _ j + _ = wBE _ _ (j + 1 - 1)
  rw [cLD_n hv, Int32.zero_mul, i32_0div, show j + 1 - 1 = j by omega, Int32.add_zero]
theorem okB_lay {n : Nat} {st we ha pr se ht bu hg pq ld fo LD : Fn} (h : LD = tilN (cLD n st we ha pr se) ld (n + 1)) : okB n st we ha pr se (tilN (sHT st) ht (n + 1)) (tilN (sBU n we se) bu (n + 1)) (tilN (sHG n we ha se) hg (n + 1)) (tilN (jPP n (sHT st) we ha pr se) pq (n + 1)) LD (tilN (sFO (cAH n st we ha pr se) LD st se) fo n) := by
  subst h
  exact ⟨tilN_in, tilN_in, tilN_in, tilN_in, tilN_in, fun k hk => by rw [tilN_lt hk]; exact sFO_c tilN_in k hk⟩
theorem jPP_t {n : Nat} {ht we ha pr se : Fn} {k : Nat} (h : ht k ≤ se 1) : jPP n ht we ha pr se k = mn (sBU n we se k - sHG n we ha se k) (pr k) := if_pos h
theorem jPP_f {n : Nat} {ht we ha pr se : Fn} {k : Nat} (h : ¬ ht k ≤ se 1) : jPP n ht we ha pr se k = 0 := if_neg h
theorem mPP_l {s ht : Fn} {n k : Nat} (h : ht k ≤ s 2) (h2 : s (67 + k) ≤ sBU n (mWE s) (mSE s) k - sHG n (mWE s) (mHA s) (mSE s) k) : s (67 + k) = jPP n ht (mWE s) (mHA s) (mPR s) (mSE s) k := by
  have e : jPP n ht (mWE s) (mHA s) (mPR s) (mSE s) k = mn (sBU n (mWE s) (mSE s) k - sHG n (mWE s) (mHA s) (mSE s) k) (mPR s k) := jPP_t (show ht k ≤ mSE s 1 from h)
  rw [e]
  exact (mn_l (show mPR s k ≤ _ from h2)).symm
theorem mPP_r {s ht : Fn} {n k : Nat} (h : ht k ≤ s 2) (h2 : ¬ s (67 + k) ≤ sBU n (mWE s) (mSE s) k - sHG n (mWE s) (mHA s) (mSE s) k) : sBU n (mWE s) (mSE s) k - sHG n (mWE s) (mHA s) (mSE s) k = jPP n ht (mWE s) (mHA s) (mPR s) (mSE s) k := by
  have e : jPP n ht (mWE s) (mHA s) (mPR s) (mSE s) k = mn (sBU n (mWE s) (mSE s) k - sHG n (mWE s) (mHA s) (mSE s) k) (mPR s k) := jPP_t (show ht k ≤ mSE s 1 from h)
  rw [e]
  exact (mn_r (show ¬ mPR s k ≤ _ from h2)).symm
theorem mPP_f {s ht : Fn} {n k : Nat} (h : ¬ ht k ≤ s 2) : 0 = jPP n ht (mWE s) (mHA s) (mPR s) (mSE s) k := (jPP_f (show ¬ ht k ≤ mSE s 1 from h)).symm
theorem mHG_l {s : Fn} {n k : Nat} (h : s (46 + k) ≤ sBU n (mWE s) (mSE s) k) : s (46 + k) = sHG n (mWE s) (mHA s) (mSE s) k := (mn_l (show mHA s k ≤ sBU n (mWE s) (mSE s) k from h)).symm
theorem mHG_r {s : Fn} {n k : Nat} (h : ¬ s (46 + k) ≤ sBU n (mWE s) (mSE s) k) : sBU n (mWE s) (mSE s) k = sHG n (mWE s) (mHA s) (mSE s) k := (mn_r (show ¬ mHA s k ≤ sBU n (mWE s) (mSE s) k from h)).symm
theorem mBU_t {s : Fn} {n k : Nat} (h : ¬ (k = 0 ∨ k = n)) : s (25 + k) + 2 * s 1 = sBU n (mWE s) (mSE s) k := (show sBU n (mWE s) (mSE s) k = mWE s k + 2 * mSE s 0 from if_neg h).symm
theorem mBU_f {s : Fn} {n k : Nat} (h : k = 0 ∨ k = n) : 0 = sBU n (mWE s) (mSE s) k := (show sBU n (mWE s) (mSE s) k = 0 from if_pos h).symm
set_option maxHeartbeats 4000000 in
set_option maxRecDepth 100000 in
theorem c_X6_thrown (l : Launch) (G : kG) (m0 : Nat) (ms : Nat) (mv : Nat) (mt : Nat) (mh : Nat) (mb : Nat) (mg : Nat) (mq : Nat) (ml : Nat) (mf : Nat) (th : Nat) (s0 : Fn) (sv : Fn) (sm : Nat) (tx : Fn) (ln : Nat) (ht : Fn) (bu : Fn) (hg : Fn) (pq : Fn) (ld : Fn) (fo : Fn) (nw : Int32) (fw : Int32) (tp : Nat) (wr : Bool) (dg : Int64) (sz : Nat) : kMet l yX6_thrown wsX6_thrown ({ frames := 0, cells := 0, slots := 0, locals := 0 } : Room) G [.ref m0] [(m0, .inr (6, [.int (nI (th)), .ref ms, .ref mv, .int (nI (sm)), .ref mt, .int (nI (ln)), .ref mh, .ref mb, .ref mg, .ref mq, .ref ml, .ref mf, .int nw, .int fw, .int (nI (tp)), .int (bI (wr)), .long dg])), (ms, .inl (G.2.1, 88, .inl s0)), (mv, .inl (G.2.1, 528, .inl sv)), (mt, .inl (G.2.1, 60, .inl tx)), (mh, .inl (G.2.1, 21, .inl ht)), (mb, .inl (G.2.1, 21, .inl bu)), (mg, .inl (G.2.1, 21, .inl hg)), (mq, .inl (G.2.1, 21, .inl pq)), (ml, .inl (G.2.1, 21, .inl ld)), (mf, .inl (G.2.1, 20, .inl fo))] sz (kQi G (fun (r : Int32) (u : Unit) => r = nI th) (fun (u : Unit) => [(m0, .inr (6, [.int (nI (th)), .ref ms, .ref mv, .int (nI (sm)), .ref mt, .int (nI (ln)), .ref mh, .ref mb, .ref mg, .ref mq, .ref ml, .ref mf, .int nw, .int fw, .int (nI (tp)), .int (bI (wr)), .long dg])), (ms, .inl (G.2.1, 88, .inl s0)), (mv, .inl (G.2.1, 528, .inl sv)), (mt, .inl (G.2.1, 60, .inl tx)), (mh, .inl (G.2.1, 21, .inl ht)), (mb, .inl (G.2.1, 21, .inl bu)), (mg, .inl (G.2.1, 21, .inl hg)), (mq, .inl (G.2.1, 21, .inl pq)), (ml, .inl (G.2.1, 21, .inl ld)), (mf, .inl (G.2.1, 20, .inl fo))])) 0 0 := by
  refine k_entry (cc := cX6_thrown) (maxL := 1) (ret := (some .int)) (by decide) rfl (Nat.le_of_ble_eq_true rfl) ?_
  intro p e s m args below meth c A ls H locs Q hQ hx hb hml hr hts hown hlocks hin hA hP hK hD hS hl
  have hown : s.vm.findClass RX6 = some m.cls := hown
  have hl : lv_has ls 1 [(0, .ref m0)] := hl
  have hf37 := hts (.fieldLink RX6 37 "HangingChainModel" "thrown" "I") (by decide +kernel)
  have hinX6 : ∀ w ∈ wsX60, w ∈ wsX6_thrown := by decide +kernel
  refine lv_aload_n hx hb dX6_thrown_0 rfl (lv_at hl 0 rfl) ?_
  refine va_get (D := G.1) (ci := 6) (v := .int (nI (th))) (C := RX6) (T := TX6) (N := 17) hx hb hts hinX6 hown hK hP 0 rfl rfl 0 (by decide) hf37 (fun _ h9 => h9) rfl dX6_thrown_1 ?_
  rw [hQ]
  exact k_iret (v := nI (th)) () [0, 1, 2, 3, 4, 5, 6, 7, 8, 9] hx hb hr hlocks (rfl) hK hP hD hS rfl (by decide) dX6_thrown_4
set_option maxHeartbeats 4000000 in
set_option maxRecDepth 100000 in
theorem c_X6_in (l : Launch) (G : kG) (v : Int32) (lo : Int32) (hi : Int32) (sz : Nat) : kMet l yX6_in wsX6_in ({ frames := 0, cells := 0, slots := 0, locals := 0 } : Room) G [.int v, .int lo, .int hi] [] sz (kQi G (fun (r : Int32) (u : Unit) => r = bI (decide (lo ≤ v ∧ v ≤ hi))) (fun (u : Unit) => [])) 0 0 := by
  refine k_entry (cc := cX6_in) (maxL := 3) (ret := (some .boolean)) (by decide) rfl (Nat.le_of_ble_eq_true rfl) ?_
  intro p e s m args below meth c A ls H locs Q hQ hx hb hml hr hts hown hlocks hin hA hP hK hD hS hl
  have hown : s.vm.findClass RX6 = some m.cls := hown
  have hl : lv_has ls 3 [(0, .int v), (1, .int lo), (2, .int hi)] := hl
  refine lv_iload_n hx hb dX6_in_0 rfl (lv_at hl 0 rfl) ?_
  refine lv_iload_n hx hb dX6_in_1 rfl (lv_at hl 1 rfl) ?_
  refine lv_icmp_lt (tgt := 14) hx hb dX6_in_2 (by decide) (fun c_2 => ?_) (fun c_2 => ?_)
  · skip
    refine lv_iconst (v := 0) hx hb dX6_in_14 (by decide) ?_
    rw [hQ]
    exact k_zret (v := 0) () [] hx hb hr hlocks (by first | exact Or.inl rfl | exact Or.inr rfl) (by first | (rw [decide_eq_true ⟨i32_le c_2, i32_le c_7⟩]; rfl) | (rw [decide_eq_false (fun q => absurd c_2 (i32_nlt q.1))]; rfl) | (rw [decide_eq_false (fun q => absurd c_7 (i32_nlt q.2))]; rfl)) hK hP hD hS rfl (by decide) dX6_in_15
  · skip
    refine lv_iload_n hx hb dX6_in_5 rfl (lv_at hl 0 rfl) ?_
    refine lv_iload_n hx hb dX6_in_6 rfl (lv_at hl 2 rfl) ?_
    refine lv_icmp_gt (tgt := 14) hx hb dX6_in_7 (by decide) (fun c_7 => ?_) (fun c_7 => ?_)
    · skip
      refine lv_iconst (v := 0) hx hb dX6_in_14 (by decide) ?_
      rw [hQ]
      exact k_zret (v := 0) () [] hx hb hr hlocks (by first | exact Or.inl rfl | exact Or.inr rfl) (by first | (rw [decide_eq_true ⟨i32_le c_2, i32_le c_7⟩]; rfl) | (rw [decide_eq_false (fun q => absurd c_2 (i32_nlt q.1))]; rfl) | (rw [decide_eq_false (fun q => absurd c_7 (i32_nlt q.2))]; rfl)) hK hP hD hS rfl (by decide) dX6_in_15
    · skip
      refine lv_iconst (v := 1) hx hb dX6_in_10 (by decide) ?_
      refine lv_goto (tgt := 15) hx hb dX6_in_11 (by decide) ?_
      rw [hQ]
      exact k_zret (v := 1) () [] hx hb hr hlocks (by first | exact Or.inl rfl | exact Or.inr rfl) (by first | (rw [decide_eq_true ⟨i32_le c_2, i32_le c_7⟩]; rfl) | (rw [decide_eq_false (fun q => absurd c_2 (i32_nlt q.1))]; rfl) | (rw [decide_eq_false (fun q => absurd c_7 (i32_nlt q.2))]; rfl)) hK hP hD hS rfl (by decide) dX6_in_15
set_option maxHeartbeats 4000000 in
set_option maxRecDepth 100000 in
theorem c_X6_holds (l : Launch) (G : kG) (m0 : Nat) (ms : Nat) (mv : Nat) (mt : Nat) (mh : Nat) (mb : Nat) (mg : Nat) (mq : Nat) (ml : Nat) (mf : Nat) (th : Nat) (s0 : Fn) (sv : Fn) (sm : Nat) (tx : Fn) (ln : Nat) (ht : Fn) (bu : Fn) (hg : Fn) (pq : Fn) (ld : Fn) (fo : Fn) (nw : Int32) (fw : Int32) (tp : Nat) (wr : Bool) (dg : Int64) (pl : Nat) (sz : Nat) (hpl : pl < 10) : kMet l yX6_holds wsX6_holds ({ frames := 0, cells := 0, slots := 0, locals := 0 } : Room) G [.ref m0, .int (nI (pl))] [(m0, .inr (6, [.int (nI (th)), .ref ms, .ref mv, .int (nI (sm)), .ref mt, .int (nI (ln)), .ref mh, .ref mb, .ref mg, .ref mq, .ref ml, .ref mf, .int nw, .int fw, .int (nI (tp)), .int (bI (wr)), .long dg])), (ms, .inl (G.2.1, 88, .inl s0)), (mv, .inl (G.2.1, 528, .inl sv)), (mt, .inl (G.2.1, 60, .inl tx)), (mh, .inl (G.2.1, 21, .inl ht)), (mb, .inl (G.2.1, 21, .inl bu)), (mg, .inl (G.2.1, 21, .inl hg)), (mq, .inl (G.2.1, 21, .inl pq)), (ml, .inl (G.2.1, 21, .inl ld)), (mf, .inl (G.2.1, 20, .inl fo))] sz (kQi G (fun (r : Int32) (u : Unit) => r = bI (decide (pl = 0))) (fun (u : Unit) => [(m0, .inr (6, [.int (nI (pl)), .ref ms, .ref mv, .int (nI (sm)), .ref mt, .int (nI (ln)), .ref mh, .ref mb, .ref mg, .ref mq, .ref ml, .ref mf, .int nw, .int fw, .int (nI (tp)), .int (bI (wr)), .long dg])), (ms, .inl (G.2.1, 88, .inl s0)), (mv, .inl (G.2.1, 528, .inl sv)), (mt, .inl (G.2.1, 60, .inl tx)), (mh, .inl (G.2.1, 21, .inl ht)), (mb, .inl (G.2.1, 21, .inl bu)), (mg, .inl (G.2.1, 21, .inl hg)), (mq, .inl (G.2.1, 21, .inl pq)), (ml, .inl (G.2.1, 21, .inl ld)), (mf, .inl (G.2.1, 20, .inl fo))])) 0 0 := by
  refine k_entry (cc := cX6_holds) (maxL := 2) (ret := (some .boolean)) (by decide) rfl (Nat.le_of_ble_eq_true rfl) ?_
  intro p e s m args below meth c A ls H locs Q hQ hx hb hml hr hts hown hlocks hin hA hP hK hD hS hl
  have hown : s.vm.findClass RX6 = some m.cls := hown
  have hl : lv_has ls 2 [(0, .ref m0), (1, .int (nI (pl)))] := hl
  have hf37 := hts (.fieldLink RX6 37 "HangingChainModel" "thrown" "I") (by decide +kernel)
  have hinX6 : ∀ w ∈ wsX60, w ∈ wsX6_holds := by decide +kernel
  refine lv_aload_n hx hb dX6_holds_0 rfl (lv_at hl 0 rfl) ?_
  refine lv_iload_n hx hb dX6_holds_1 rfl (lv_at hl 1 rfl) ?_
  refine va_put (D := G.1) (ci := 6) (v := .int (nI (pl))) (ty := .int) (C := RX6) (T := TX6) (N := 17) hx hb hts hinX6 tyX6 tyX6_ok nmX6 hown hK hP hD hS 0 rfl rfl 0 (by decide) hf37 (fun _ h9 => h9) rfl (by decide +kernel) (rfl) (rfl) (Nat.le_of_ble_eq_true rfl) dX6_holds_2 (fun H locs hP hD hS => ?_)
  have hP : va_P G.1 vwCl [(m0, .inr (6, [.int (nI (pl)), .ref ms, .ref mv, .int (nI (sm)), .ref mt, .int (nI (ln)), .ref mh, .ref mb, .ref mg, .ref mq, .ref ml, .ref mf, .int nw, .int fw, .int (nI (tp)), .int (bI (wr)), .long dg])), (ms, .inl (G.2.1, 88, .inl s0)), (mv, .inl (G.2.1, 528, .inl sv)), (mt, .inl (G.2.1, 60, .inl tx)), (mh, .inl (G.2.1, 21, .inl ht)), (mb, .inl (G.2.1, 21, .inl bu)), (mg, .inl (G.2.1, 21, .inl hg)), (mq, .inl (G.2.1, 21, .inl pq)), (ml, .inl (G.2.1, 21, .inl ld)), (mf, .inl (G.2.1, 20, .inl fo))] H := hP
  have hD : va_D A [(m0, .inr (6, [.int (nI (pl)), .ref ms, .ref mv, .int (nI (sm)), .ref mt, .int (nI (ln)), .ref mh, .ref mb, .ref mg, .ref mq, .ref ml, .ref mf, .int nw, .int fw, .int (nI (tp)), .int (bI (wr)), .long dg])), (ms, .inl (G.2.1, 88, .inl s0)), (mv, .inl (G.2.1, 528, .inl sv)), (mt, .inl (G.2.1, 60, .inl tx)), (mh, .inl (G.2.1, 21, .inl ht)), (mb, .inl (G.2.1, 21, .inl bu)), (mg, .inl (G.2.1, 21, .inl hg)), (mq, .inl (G.2.1, 21, .inl pq)), (ml, .inl (G.2.1, 21, .inl ld)), (mf, .inl (G.2.1, 20, .inl fo))] := hD
  refine lv_iload_n hx hb dX6_holds_5 rfl (lv_at hl 1 rfl) ?_
  refine g_if_ne (a := pl) (tgt := 13) hx hb (by omega) dX6_holds_6 (by decide) (fun c_6 => ?_) (fun c_6 => ?_)
  · skip
    refine lv_iconst (v := 0) hx hb dX6_holds_13 (by decide) ?_
    rw [hQ]
    exact k_zret (v := 0) () [0, 1, 2, 3, 4, 5, 6, 7, 8, 9] hx hb hr hlocks (by first | exact Or.inl rfl | exact Or.inr rfl) (by first | (rw [decide_eq_true c_6]; rfl) | (rw [decide_eq_false c_6]; rfl)) hK hP hD hS rfl (by decide) dX6_holds_14
  · skip
    refine lv_iconst (v := 1) hx hb dX6_holds_9 (by decide) ?_
    refine lv_goto (tgt := 14) hx hb dX6_holds_10 (by decide) ?_
    rw [hQ]
    exact k_zret (v := 1) () [0, 1, 2, 3, 4, 5, 6, 7, 8, 9] hx hb hr hlocks (by first | exact Or.inl rfl | exact Or.inr rfl) (by first | (rw [decide_eq_true c_6]; rfl) | (rw [decide_eq_false c_6]; rfl)) hK hP hD hS rfl (by decide) dX6_holds_14
set_option maxHeartbeats 4000000 in
set_option maxRecDepth 100000 in
theorem c_X6_size (l : Launch) (G : kG) (v : Int32) (sz : Nat) : kMet l yX6_size wsX6_size ({ frames := 0, cells := 0, slots := 0, locals := 0 } : Room) G [.int v] [] sz (kQi G (fun (r : Int32) (u : Unit) => r = ab v) (fun (u : Unit) => [])) 0 0 := by
  refine k_entry (cc := cX6_size) (maxL := 1) (ret := (some .int)) (by decide) rfl (Nat.le_of_ble_eq_true rfl) ?_
  intro p e s m args below meth c A ls H locs Q hQ hx hb hml hr hts hown hlocks hin hA hP hK hD hS hl
  have hown : s.vm.findClass RX6 = some m.cls := hown
  have hl : lv_has ls 1 [(0, .int v)] := hl
  refine lv_iload_n hx hb dX6_size_0 rfl (lv_at hl 0 rfl) ?_
  refine lv_if_ge (tgt := 9) hx hb dX6_size_1 (by decide) (fun c_1 => ?_) (fun c_1 => ?_)
  · skip
    refine lv_iload_n hx hb dX6_size_9 rfl (lv_at hl 0 rfl) ?_
    rw [hQ]
    exact k_iret (v := v) () [] hx hb hr hlocks (by first | exact (if_pos c_1).symm | (unfold ab; rw [if_neg c_1, Int32.zero_sub])) hK hP hD hS rfl (by decide) dX6_size_10
  · skip
    refine lv_iload_n hx hb dX6_size_4 rfl (lv_at hl 0 rfl) ?_
    refine lv_ineg hx hb dX6_size_5 ?_
    refine lv_goto (tgt := 10) hx hb dX6_size_6 (by decide) ?_
    rw [hQ]
    exact k_iret (v := -v) () [] hx hb hr hlocks (by first | exact (if_pos c_1).symm | (unfold ab; rw [if_neg c_1, Int32.zero_sub])) hK hP hD hS rfl (by decide) dX6_size_10
set_option maxHeartbeats 4000000 in
set_option maxRecDepth 100000 in
theorem c_X6_isLink (l : Launch) (G : kG) (m0 : Nat) (ms : Nat) (mv : Nat) (mt : Nat) (mh : Nat) (mb : Nat) (mg : Nat) (mq : Nat) (ml : Nat) (mf : Nat) (th : Nat) (s0 : Fn) (sv : Fn) (sm : Nat) (tx : Fn) (ln : Nat) (ht : Fn) (bu : Fn) (hg : Fn) (pq : Fn) (ld : Fn) (fo : Fn) (nw : Int32) (fw : Int32) (tp : Nat) (wr : Bool) (dg : Int64) (k : Int32) (n : Nat) (sz : Nat) (hok : mOK s0 n) : kMet l yX6_isLink wsX6_isLink ({ frames := 1, cells := 0, slots := 0, locals := 22 } : Room) G [.ref m0, .int k] [(m0, .inr (6, [.int (nI (th)), .ref ms, .ref mv, .int (nI (sm)), .ref mt, .int (nI (ln)), .ref mh, .ref mb, .ref mg, .ref mq, .ref ml, .ref mf, .int nw, .int fw, .int (nI (tp)), .int (bI (wr)), .long dg])), (ms, .inl (G.2.1, 88, .inl s0)), (mv, .inl (G.2.1, 528, .inl sv)), (mt, .inl (G.2.1, 60, .inl tx)), (mh, .inl (G.2.1, 21, .inl ht)), (mb, .inl (G.2.1, 21, .inl bu)), (mg, .inl (G.2.1, 21, .inl hg)), (mq, .inl (G.2.1, 21, .inl pq)), (ml, .inl (G.2.1, 21, .inl ld)), (mf, .inl (G.2.1, 20, .inl fo))] sz (kQi G (fun (r : Int32) (u : Unit) => r = bI (isN k n)) (fun (u : Unit) => [(m0, .inr (6, [.int (nI (th)), .ref ms, .ref mv, .int (nI (sm)), .ref mt, .int (nI (ln)), .ref mh, .ref mb, .ref mg, .ref mq, .ref ml, .ref mf, .int nw, .int fw, .int (nI (tp)), .int (bI (wr)), .long dg])), (ms, .inl (G.2.1, 88, .inl s0)), (mv, .inl (G.2.1, 528, .inl sv)), (mt, .inl (G.2.1, 60, .inl tx)), (mh, .inl (G.2.1, 21, .inl ht)), (mb, .inl (G.2.1, 21, .inl bu)), (mg, .inl (G.2.1, 21, .inl hg)), (mq, .inl (G.2.1, 21, .inl pq)), (ml, .inl (G.2.1, 21, .inl ld)), (mf, .inl (G.2.1, 20, .inl fo))])) 0 0 := by
  refine k_entry (cc := cX6_isLink) (maxL := 2) (ret := (some .boolean)) (by decide) rfl (Nat.le_of_ble_eq_true rfl) ?_
  intro p e s m args below meth c A ls H locs Q hQ hx hb hml hr hts hown hlocks hin hA hP hK hD hS hl
  have hown : s.vm.findClass RX6 = some m.cls := hown
  have hl : lv_has ls 2 [(0, .ref m0), (1, .int k)] := hl
  have hf7 := hts (.fieldLink RX6 7 "HangingChainModel" "s" "[I") (by decide +kernel)
  have hinX6 : ∀ w ∈ wsX60, w ∈ wsX6_isLink := by decide +kernel
  obtain ⟨hs0, hn1, hn, hv⟩ := id hok
  refine lv_iload_n hx hb dX6_isLink_0 rfl (lv_at hl 1 rfl) ?_
  refine lv_iconst (v := 0) hx hb dX6_isLink_1 (by decide) ?_
  refine lv_aload_n hx hb dX6_isLink_2 rfl (lv_at hl 0 rfl) ?_
  refine va_get (D := G.1) (ci := 6) (v := .ref ms) (C := RX6) (T := TX6) (N := 17) hx hb hts hinX6 hown hK hP 0 rfl rfl 1 (by decide) hf7 (fun _ h9 => h9) rfl dX6_isLink_3 ?_
  refine lv_iconst (v := 0) hx hb dX6_isLink_6 (by decide) ?_
  refine g_iald (k := 0) hx hb hK hP 1 rfl (by omega) (by omega) dX6_isLink_7 ?_
  refine g_ti (y := nI n) (hs0) ?_
  refine lv_iconst (v := 1) hx hb dX6_isLink_8 (by decide) ?_
  refine lv_isub hx hb dX6_isLink_9 ?_
  refine g_ti (y := nI (n - 1)) (pk_sub (a := n) (b := 1) (by omega)) ?_
  refine k_ci (wr := [(m0, .inr (6, [.int (nI (th)), .ref ms, .ref mv, .int (nI (sm)), .ref mt, .int (nI (ln)), .ref mh, .ref mb, .ref mg, .ref mq, .ref ml, .ref mf, .int nw, .int fw, .int (nI (tp)), .int (bI (wr)), .long dg])), (ms, .inl (G.2.1, 88, .inl s0)), (mv, .inl (G.2.1, 528, .inl sv)), (mt, .inl (G.2.1, 60, .inl tx)), (mh, .inl (G.2.1, 21, .inl ht)), (mb, .inl (G.2.1, 21, .inl bu)), (mg, .inl (G.2.1, 21, .inl hg)), (mq, .inl (G.2.1, 21, .inl pq)), (ml, .inl (G.2.1, 21, .inl ld)), (mf, .inl (G.2.1, 20, .inl fo))]) [0, 1, 2, 3, 4, 5, 6, 7, 8, 9] rfl (by decide) [] rfl (by decide) hP hD hS hA (k_S (n := 3) (As := [.int k, .int 0, .int (nI (n - 1))]) (rest := []) (wc := []) hx hb hml hown hts hK hP hD hl (c_X6_in l G k 0 (nI (n - 1)) H.size) [] rfl (by decide) gX6_isLink_X6_in rfl rfl rfl (by decide +kernel) rfl ⟨Nat.le_of_ble_eq_true rfl, Nat.le_of_ble_eq_true rfl⟩ rfl (Nat.le_of_ble_eq_true rfl) dX6_isLink_10 ⟨Nat.le_of_ble_eq_true rfl, Nat.le_of_ble_eq_true rfl⟩) (fun r_10 u H locs hw hP hD hS => ?_)
  have hw_10 : r_10 = bI (decide (0 ≤ k ∧ k ≤ (nI (n - 1)))) := hw
  have hP : va_P G.1 vwCl [(m0, .inr (6, [.int (nI (th)), .ref ms, .ref mv, .int (nI (sm)), .ref mt, .int (nI (ln)), .ref mh, .ref mb, .ref mg, .ref mq, .ref ml, .ref mf, .int nw, .int fw, .int (nI (tp)), .int (bI (wr)), .long dg])), (ms, .inl (G.2.1, 88, .inl s0)), (mv, .inl (G.2.1, 528, .inl sv)), (mt, .inl (G.2.1, 60, .inl tx)), (mh, .inl (G.2.1, 21, .inl ht)), (mb, .inl (G.2.1, 21, .inl bu)), (mg, .inl (G.2.1, 21, .inl hg)), (mq, .inl (G.2.1, 21, .inl pq)), (ml, .inl (G.2.1, 21, .inl ld)), (mf, .inl (G.2.1, 20, .inl fo))] H := hP
  have hD : va_D A [(m0, .inr (6, [.int (nI (th)), .ref ms, .ref mv, .int (nI (sm)), .ref mt, .int (nI (ln)), .ref mh, .ref mb, .ref mg, .ref mq, .ref ml, .ref mf, .int nw, .int fw, .int (nI (tp)), .int (bI (wr)), .long dg])), (ms, .inl (G.2.1, 88, .inl s0)), (mv, .inl (G.2.1, 528, .inl sv)), (mt, .inl (G.2.1, 60, .inl tx)), (mh, .inl (G.2.1, 21, .inl ht)), (mb, .inl (G.2.1, 21, .inl bu)), (mg, .inl (G.2.1, 21, .inl hg)), (mq, .inl (G.2.1, 21, .inl pq)), (ml, .inl (G.2.1, 21, .inl ld)), (mf, .inl (G.2.1, 20, .inl fo))] := hD
  subst hw_10
  rw [hQ]
  exact k_zret (v := bI (decide (0 ≤ k ∧ k ≤ (nI (n - 1))))) () [0, 1, 2, 3, 4, 5, 6, 7, 8, 9] hx hb hr hlocks (bI_01 _) (isLink_ok hn1 hn) hK hP hD hS rfl (by decide) dX6_isLink_13
set_option maxHeartbeats 4000000 in
set_option maxRecDepth 100000 in
theorem c_X6_isJoint (l : Launch) (G : kG) (m0 : Nat) (ms : Nat) (mv : Nat) (mt : Nat) (mh : Nat) (mb : Nat) (mg : Nat) (mq : Nat) (ml : Nat) (mf : Nat) (th : Nat) (s0 : Fn) (sv : Fn) (sm : Nat) (tx : Fn) (ln : Nat) (ht : Fn) (bu : Fn) (hg : Fn) (pq : Fn) (ld : Fn) (fo : Fn) (nw : Int32) (fw : Int32) (tp : Nat) (wr : Bool) (dg : Int64) (k : Int32) (n : Nat) (sz : Nat) (hok : mOK s0 n) : kMet l yX6_isJoint wsX6_isJoint ({ frames := 1, cells := 0, slots := 0, locals := 22 } : Room) G [.ref m0, .int k] [(m0, .inr (6, [.int (nI (th)), .ref ms, .ref mv, .int (nI (sm)), .ref mt, .int (nI (ln)), .ref mh, .ref mb, .ref mg, .ref mq, .ref ml, .ref mf, .int nw, .int fw, .int (nI (tp)), .int (bI (wr)), .long dg])), (ms, .inl (G.2.1, 88, .inl s0)), (mv, .inl (G.2.1, 528, .inl sv)), (mt, .inl (G.2.1, 60, .inl tx)), (mh, .inl (G.2.1, 21, .inl ht)), (mb, .inl (G.2.1, 21, .inl bu)), (mg, .inl (G.2.1, 21, .inl hg)), (mq, .inl (G.2.1, 21, .inl pq)), (ml, .inl (G.2.1, 21, .inl ld)), (mf, .inl (G.2.1, 20, .inl fo))] sz (kQi G (fun (r : Int32) (u : Unit) => r = bI (isN k (n + 1))) (fun (u : Unit) => [(m0, .inr (6, [.int (nI (th)), .ref ms, .ref mv, .int (nI (sm)), .ref mt, .int (nI (ln)), .ref mh, .ref mb, .ref mg, .ref mq, .ref ml, .ref mf, .int nw, .int fw, .int (nI (tp)), .int (bI (wr)), .long dg])), (ms, .inl (G.2.1, 88, .inl s0)), (mv, .inl (G.2.1, 528, .inl sv)), (mt, .inl (G.2.1, 60, .inl tx)), (mh, .inl (G.2.1, 21, .inl ht)), (mb, .inl (G.2.1, 21, .inl bu)), (mg, .inl (G.2.1, 21, .inl hg)), (mq, .inl (G.2.1, 21, .inl pq)), (ml, .inl (G.2.1, 21, .inl ld)), (mf, .inl (G.2.1, 20, .inl fo))])) 0 0 := by
  refine k_entry (cc := cX6_isJoint) (maxL := 2) (ret := (some .boolean)) (by decide) rfl (Nat.le_of_ble_eq_true rfl) ?_
  intro p e s m args below meth c A ls H locs Q hQ hx hb hml hr hts hown hlocks hin hA hP hK hD hS hl
  have hown : s.vm.findClass RX6 = some m.cls := hown
  have hl : lv_has ls 2 [(0, .ref m0), (1, .int k)] := hl
  have hf7 := hts (.fieldLink RX6 7 "HangingChainModel" "s" "[I") (by decide +kernel)
  have hinX6 : ∀ w ∈ wsX60, w ∈ wsX6_isJoint := by decide +kernel
  obtain ⟨hs0, hn1, hn, hv⟩ := id hok
  refine lv_iload_n hx hb dX6_isJoint_0 rfl (lv_at hl 1 rfl) ?_
  refine lv_iconst (v := 0) hx hb dX6_isJoint_1 (by decide) ?_
  refine lv_aload_n hx hb dX6_isJoint_2 rfl (lv_at hl 0 rfl) ?_
  refine va_get (D := G.1) (ci := 6) (v := .ref ms) (C := RX6) (T := TX6) (N := 17) hx hb hts hinX6 hown hK hP 0 rfl rfl 1 (by decide) hf7 (fun _ h9 => h9) rfl dX6_isJoint_3 ?_
  refine lv_iconst (v := 0) hx hb dX6_isJoint_6 (by decide) ?_
  refine g_iald (k := 0) hx hb hK hP 1 rfl (by omega) (by omega) dX6_isJoint_7 ?_
  refine g_ti (y := nI n) (hs0) ?_
  refine k_ci (wr := [(m0, .inr (6, [.int (nI (th)), .ref ms, .ref mv, .int (nI (sm)), .ref mt, .int (nI (ln)), .ref mh, .ref mb, .ref mg, .ref mq, .ref ml, .ref mf, .int nw, .int fw, .int (nI (tp)), .int (bI (wr)), .long dg])), (ms, .inl (G.2.1, 88, .inl s0)), (mv, .inl (G.2.1, 528, .inl sv)), (mt, .inl (G.2.1, 60, .inl tx)), (mh, .inl (G.2.1, 21, .inl ht)), (mb, .inl (G.2.1, 21, .inl bu)), (mg, .inl (G.2.1, 21, .inl hg)), (mq, .inl (G.2.1, 21, .inl pq)), (ml, .inl (G.2.1, 21, .inl ld)), (mf, .inl (G.2.1, 20, .inl fo))]) [0, 1, 2, 3, 4, 5, 6, 7, 8, 9] rfl (by decide) [] rfl (by decide) hP hD hS hA (k_S (n := 3) (As := [.int k, .int 0, .int (nI n)]) (rest := []) (wc := []) hx hb hml hown hts hK hP hD hl (c_X6_in l G k 0 (nI n) H.size) [] rfl (by decide) gX6_isJoint_X6_in rfl rfl rfl (by decide +kernel) rfl ⟨Nat.le_of_ble_eq_true rfl, Nat.le_of_ble_eq_true rfl⟩ rfl (Nat.le_of_ble_eq_true rfl) dX6_isJoint_8 ⟨Nat.le_of_ble_eq_true rfl, Nat.le_of_ble_eq_true rfl⟩) (fun r_8 u H locs hw hP hD hS => ?_)
  have hw_8 : r_8 = bI (decide (0 ≤ k ∧ k ≤ (nI n))) := hw
  have hP : va_P G.1 vwCl [(m0, .inr (6, [.int (nI (th)), .ref ms, .ref mv, .int (nI (sm)), .ref mt, .int (nI (ln)), .ref mh, .ref mb, .ref mg, .ref mq, .ref ml, .ref mf, .int nw, .int fw, .int (nI (tp)), .int (bI (wr)), .long dg])), (ms, .inl (G.2.1, 88, .inl s0)), (mv, .inl (G.2.1, 528, .inl sv)), (mt, .inl (G.2.1, 60, .inl tx)), (mh, .inl (G.2.1, 21, .inl ht)), (mb, .inl (G.2.1, 21, .inl bu)), (mg, .inl (G.2.1, 21, .inl hg)), (mq, .inl (G.2.1, 21, .inl pq)), (ml, .inl (G.2.1, 21, .inl ld)), (mf, .inl (G.2.1, 20, .inl fo))] H := hP
  have hD : va_D A [(m0, .inr (6, [.int (nI (th)), .ref ms, .ref mv, .int (nI (sm)), .ref mt, .int (nI (ln)), .ref mh, .ref mb, .ref mg, .ref mq, .ref ml, .ref mf, .int nw, .int fw, .int (nI (tp)), .int (bI (wr)), .long dg])), (ms, .inl (G.2.1, 88, .inl s0)), (mv, .inl (G.2.1, 528, .inl sv)), (mt, .inl (G.2.1, 60, .inl tx)), (mh, .inl (G.2.1, 21, .inl ht)), (mb, .inl (G.2.1, 21, .inl bu)), (mg, .inl (G.2.1, 21, .inl hg)), (mq, .inl (G.2.1, 21, .inl pq)), (ml, .inl (G.2.1, 21, .inl ld)), (mf, .inl (G.2.1, 20, .inl fo))] := hD
  subst hw_8
  rw [hQ]
  exact k_zret (v := bI (decide (0 ≤ k ∧ k ≤ (nI n)))) () [0, 1, 2, 3, 4, 5, 6, 7, 8, 9] hx hb hr hlocks (bI_01 _) (isJoint_ok hn) hK hP hD hS rfl (by decide) dX6_isJoint_11
set_option maxHeartbeats 4000000 in
set_option maxRecDepth 100000 in
theorem c_X6_save (l : Launch) (G : kG) (m0 : Nat) (ms : Nat) (mv : Nat) (mt : Nat) (mh : Nat) (mb : Nat) (mg : Nat) (mq : Nat) (ml : Nat) (mf : Nat) (th : Nat) (s0 : Fn) (sv : Fn) (sm : Nat) (tx : Fn) (ln : Nat) (ht : Fn) (bu : Fn) (hg : Fn) (pq : Fn) (ld : Fn) (fo : Fn) (nw : Int32) (fw : Int32) (tp : Nat) (wr : Bool) (dg : Int64) (sz : Nat) (hsm : sm ≤ 6) : kMet l yX6_save wsX6_save ({ frames := 0, cells := 0, slots := 0, locals := 0 } : Room) G [.ref m0] [(m0, .inr (6, [.int (nI (th)), .ref ms, .ref mv, .int (nI (sm)), .ref mt, .int (nI (ln)), .ref mh, .ref mb, .ref mg, .ref mq, .ref ml, .ref mf, .int nw, .int fw, .int (nI (tp)), .int (bI (wr)), .long dg])), (ms, .inl (G.2.1, 88, .inl s0)), (mv, .inl (G.2.1, 528, .inl sv)), (mt, .inl (G.2.1, 60, .inl tx)), (mh, .inl (G.2.1, 21, .inl ht)), (mb, .inl (G.2.1, 21, .inl bu)), (mg, .inl (G.2.1, 21, .inl hg)), (mq, .inl (G.2.1, 21, .inl pq)), (ml, .inl (G.2.1, 21, .inl ld)), (mf, .inl (G.2.1, 20, .inl fo))] sz (kQv G (fun (u : Unit) => True) (fun (u : Unit) => [(m0, .inr (6, [.int (nI (th)), .ref ms, .ref mv, .int (nI (mSM sm)), .ref mt, .int (nI (ln)), .ref mh, .ref mb, .ref mg, .ref mq, .ref ml, .ref mf, .int nw, .int fw, .int (nI (tp)), .int (bI (wr)), .long dg])), (ms, .inl (G.2.1, 88, .inl s0)), (mv, .inl (G.2.1, 528, .inl (mSV sv sm s0))), (mt, .inl (G.2.1, 60, .inl tx)), (mh, .inl (G.2.1, 21, .inl ht)), (mb, .inl (G.2.1, 21, .inl bu)), (mg, .inl (G.2.1, 21, .inl hg)), (mq, .inl (G.2.1, 21, .inl pq)), (ml, .inl (G.2.1, 21, .inl ld)), (mf, .inl (G.2.1, 20, .inl fo))])) 0 0 := by
  refine k_entry (cc := cX6_save) (maxL := 2) (ret := none) (by decide) rfl (Nat.le_of_ble_eq_true rfl) ?_
  intro p e s m args below meth c A ls H locs Q hQ hx hb hml hr hts hown hlocks hin hA hP hK hD hS hl
  have hown : s.vm.findClass RX6 = some m.cls := hown
  have hl : lv_has ls 2 [(0, .ref m0)] := hl
  have hf45 := hts (.fieldLink RX6 45 "HangingChainModel" "savedMany" "I") (by decide +kernel)
  have hinX6 : ∀ w ∈ wsX60, w ∈ wsX6_save := by decide +kernel
  have hf13 := hts (.fieldLink RX6 13 "HangingChainModel" "saved" "[I") (by decide +kernel)
  have hf7 := hts (.fieldLink RX6 7 "HangingChainModel" "s" "[I") (by decide +kernel)
  refine lv_aload_n hx hb dX6_save_0 rfl (lv_at hl 0 rfl) ?_
  refine va_get (D := G.1) (ci := 6) (v := .int (nI (sm))) (C := RX6) (T := TX6) (N := 17) hx hb hts hinX6 hown hK hP 0 rfl rfl 3 (by decide) hf45 (fun _ h9 => h9) rfl dX6_save_1 ?_
  refine lv_bipush (v := 6) hx hb dX6_save_4 (by decide) ?_
  have L49 : ∀ (mm : Nat) (g : Fn), (mm ≤ 5) → ((sm = 6 ∧ mm = 5 ∧ g = tilN (mS88 sv) sv 440) ∨ (sm ≠ 6 ∧ mm = sm ∧ g = sv)) → ∀ (H : Heap) (locs : List Loc) (ls : Array Slot), va_P G.1 vwCl [(m0, .inr (6, [.int (nI (th)), .ref ms, .ref mv, .int (nI mm), .ref mt, .int (nI (ln)), .ref mh, .ref mb, .ref mg, .ref mq, .ref ml, .ref mf, .int nw, .int fw, .int (nI (tp)), .int (bI (wr)), .long dg])), (ms, .inl (G.2.1, 88, .inl s0)), (mv, .inl (G.2.1, 528, .inl g)), (mt, .inl (G.2.1, 60, .inl tx)), (mh, .inl (G.2.1, 21, .inl ht)), (mb, .inl (G.2.1, 21, .inl bu)), (mg, .inl (G.2.1, 21, .inl hg)), (mq, .inl (G.2.1, 21, .inl pq)), (ml, .inl (G.2.1, 21, .inl ld)), (mf, .inl (G.2.1, 20, .inl fo))] H → va_D A [(m0, .inr (6, [.int (nI (th)), .ref ms, .ref mv, .int (nI mm), .ref mt, .int (nI (ln)), .ref mh, .ref mb, .ref mg, .ref mq, .ref ml, .ref mf, .int nw, .int fw, .int (nI (tp)), .int (bI (wr)), .long dg])), (ms, .inl (G.2.1, 88, .inl s0)), (mv, .inl (G.2.1, 528, .inl g)), (mt, .inl (G.2.1, 60, .inl tx)), (mh, .inl (G.2.1, 21, .inl ht)), (mb, .inl (G.2.1, 21, .inl bu)), (mg, .inl (G.2.1, 21, .inl hg)), (mq, .inl (G.2.1, 21, .inl pq)), (ml, .inl (G.2.1, 21, .inl ld)), (mf, .inl (G.2.1, 20, .inl fo))] → va_S A s.heap H locs → lv_has ls 2 [(0, .ref m0)] → W p l e ({ frames := 0, cells := 0, slots := 0, locals := 0 } : Room) s m args below meth c H locs 0 0 Q (F0 m 49 ls []) := by
    intro mm g hm hmg H locs ls hP hD hS hl
    refine lv_iconst (v := 0) hx hb dX6_save_49 (by decide) ?_
    refine lv_istore_n (lv' := [(1, .int 0), (0, .ref m0)]) hx hb dX6_save_50 rfl hl (by decide) rfl (fun ls hl => ?_)
    have L51 : ∀ (n9 : Nat) (i : Nat), (i ≤ 88) → (88 - i < n9) → ∀ (H : Heap) (locs : List Loc) (ls : Array Slot), va_P G.1 vwCl [(m0, .inr (6, [.int (nI (th)), .ref ms, .ref mv, .int (nI mm), .ref mt, .int (nI (ln)), .ref mh, .ref mb, .ref mg, .ref mq, .ref ml, .ref mf, .int nw, .int fw, .int (nI (tp)), .int (bI (wr)), .long dg])), (ms, .inl (G.2.1, 88, .inl s0)), (mv, .inl (G.2.1, 528, .inl (mPutI g mm s0 i))), (mt, .inl (G.2.1, 60, .inl tx)), (mh, .inl (G.2.1, 21, .inl ht)), (mb, .inl (G.2.1, 21, .inl bu)), (mg, .inl (G.2.1, 21, .inl hg)), (mq, .inl (G.2.1, 21, .inl pq)), (ml, .inl (G.2.1, 21, .inl ld)), (mf, .inl (G.2.1, 20, .inl fo))] H → va_D A [(m0, .inr (6, [.int (nI (th)), .ref ms, .ref mv, .int (nI mm), .ref mt, .int (nI (ln)), .ref mh, .ref mb, .ref mg, .ref mq, .ref ml, .ref mf, .int nw, .int fw, .int (nI (tp)), .int (bI (wr)), .long dg])), (ms, .inl (G.2.1, 88, .inl s0)), (mv, .inl (G.2.1, 528, .inl (mPutI g mm s0 i))), (mt, .inl (G.2.1, 60, .inl tx)), (mh, .inl (G.2.1, 21, .inl ht)), (mb, .inl (G.2.1, 21, .inl bu)), (mg, .inl (G.2.1, 21, .inl hg)), (mq, .inl (G.2.1, 21, .inl pq)), (ml, .inl (G.2.1, 21, .inl ld)), (mf, .inl (G.2.1, 20, .inl fo))] → va_S A s.heap H locs → lv_has ls 2 [(1, .int (nI i)), (0, .ref m0)] → W p l e ({ frames := 0, cells := 0, slots := 0, locals := 0 } : Room) s m args below meth c H locs 0 0 Q (F0 m 51 ls []) := by
      intro n9
      induction n9 with
      | zero =>
        intro i hi hm9 H locs ls hP hD hS hl
        exact absurd hm9 (Nat.not_lt_zero _)
      | succ n9 ih51 =>
        intro i hi hm9 H locs ls hP hD hS hl
        refine lv_iload_n hx hb dX6_save_51 rfl (lv_at hl 0 rfl) ?_
        refine lv_bipush (v := 88) hx hb dX6_save_52 (by decide) ?_
        refine g_icmp_ge (a := i) (b := 88) (tgt := 83) hx hb (by omega) (by omega) dX6_save_54 (by decide) (fun c_54 => ?_) (fun c_54 => ?_)
        · skip
          have e9 : 88 = i := by omega
          subst e9
          refine lv_aload_n hx hb dX6_save_83 rfl (lv_at hl 1 rfl) ?_
          refine lv_dup hx hb dX6_save_84 rfl ?_
          refine va_get (D := G.1) (ci := 6) (v := .int (nI mm)) (C := RX6) (T := TX6) (N := 17) hx hb hts hinX6 hown hK hP 0 rfl rfl 3 (by decide) hf45 (fun _ h9 => h9) rfl dX6_save_85 ?_
          refine lv_iconst (v := 1) hx hb dX6_save_88 (by decide) ?_
          refine lv_iadd hx hb dX6_save_89 ?_
          refine g_ti (y := nI (mm + 1)) (nI_add (mm) (1)) ?_
          refine va_put (D := G.1) (ci := 6) (v := .int (nI (mm + 1))) (ty := .int) (C := RX6) (T := TX6) (N := 17) hx hb hts hinX6 tyX6 tyX6_ok nmX6 hown hK hP hD hS 0 rfl rfl 3 (by decide) hf45 (fun _ h9 => h9) rfl (by decide +kernel) (rfl) (rfl) (Nat.le_of_ble_eq_true rfl) dX6_save_90 (fun H locs hP hD hS => ?_)
          have hP : va_P G.1 vwCl [(m0, .inr (6, [.int (nI (th)), .ref ms, .ref mv, .int (nI (mm + 1)), .ref mt, .int (nI (ln)), .ref mh, .ref mb, .ref mg, .ref mq, .ref ml, .ref mf, .int nw, .int fw, .int (nI (tp)), .int (bI (wr)), .long dg])), (ms, .inl (G.2.1, 88, .inl s0)), (mv, .inl (G.2.1, 528, .inl (mPutI g mm s0 88))), (mt, .inl (G.2.1, 60, .inl tx)), (mh, .inl (G.2.1, 21, .inl ht)), (mb, .inl (G.2.1, 21, .inl bu)), (mg, .inl (G.2.1, 21, .inl hg)), (mq, .inl (G.2.1, 21, .inl pq)), (ml, .inl (G.2.1, 21, .inl ld)), (mf, .inl (G.2.1, 20, .inl fo))] H := hP
          have hD : va_D A [(m0, .inr (6, [.int (nI (th)), .ref ms, .ref mv, .int (nI (mm + 1)), .ref mt, .int (nI (ln)), .ref mh, .ref mb, .ref mg, .ref mq, .ref ml, .ref mf, .int nw, .int fw, .int (nI (tp)), .int (bI (wr)), .long dg])), (ms, .inl (G.2.1, 88, .inl s0)), (mv, .inl (G.2.1, 528, .inl (mPutI g mm s0 88))), (mt, .inl (G.2.1, 60, .inl tx)), (mh, .inl (G.2.1, 21, .inl ht)), (mb, .inl (G.2.1, 21, .inl bu)), (mg, .inl (G.2.1, 21, .inl hg)), (mq, .inl (G.2.1, 21, .inl pq)), (ml, .inl (G.2.1, 21, .inl ld)), (mf, .inl (G.2.1, 20, .inl fo))] := hD
          have hfx_1 : (mPutI g mm s0 88 : Nat → Int32) = mSV sv sm s0 := mSV_of hmg
          have hP : va_P G.1 vwCl [(m0, .inr (6, [.int (nI (th)), .ref ms, .ref mv, .int (nI (mm + 1)), .ref mt, .int (nI (ln)), .ref mh, .ref mb, .ref mg, .ref mq, .ref ml, .ref mf, .int nw, .int fw, .int (nI (tp)), .int (bI (wr)), .long dg])), (ms, .inl (G.2.1, 88, .inl s0)), (mv, .inl (G.2.1, 528, .inl (mSV sv sm s0))), (mt, .inl (G.2.1, 60, .inl tx)), (mh, .inl (G.2.1, 21, .inl ht)), (mb, .inl (G.2.1, 21, .inl bu)), (mg, .inl (G.2.1, 21, .inl hg)), (mq, .inl (G.2.1, 21, .inl pq)), (ml, .inl (G.2.1, 21, .inl ld)), (mf, .inl (G.2.1, 20, .inl fo))] H := by rw [← hfx_1]; exact hP
          have hD : va_D A [(m0, .inr (6, [.int (nI (th)), .ref ms, .ref mv, .int (nI (mm + 1)), .ref mt, .int (nI (ln)), .ref mh, .ref mb, .ref mg, .ref mq, .ref ml, .ref mf, .int nw, .int fw, .int (nI (tp)), .int (bI (wr)), .long dg])), (ms, .inl (G.2.1, 88, .inl s0)), (mv, .inl (G.2.1, 528, .inl (mSV sv sm s0))), (mt, .inl (G.2.1, 60, .inl tx)), (mh, .inl (G.2.1, 21, .inl ht)), (mb, .inl (G.2.1, 21, .inl bu)), (mg, .inl (G.2.1, 21, .inl hg)), (mq, .inl (G.2.1, 21, .inl pq)), (ml, .inl (G.2.1, 21, .inl ld)), (mf, .inl (G.2.1, 20, .inl fo))] := by rw [← hfx_1]; exact hD
          have hfx_2 : (nI (mm + 1) : Int32) = nI (mSM sm) := mSM_of hmg
          have hP : va_P G.1 vwCl [(m0, .inr (6, [.int (nI (th)), .ref ms, .ref mv, .int (nI (mSM sm)), .ref mt, .int (nI (ln)), .ref mh, .ref mb, .ref mg, .ref mq, .ref ml, .ref mf, .int nw, .int fw, .int (nI (tp)), .int (bI (wr)), .long dg])), (ms, .inl (G.2.1, 88, .inl s0)), (mv, .inl (G.2.1, 528, .inl (mSV sv sm s0))), (mt, .inl (G.2.1, 60, .inl tx)), (mh, .inl (G.2.1, 21, .inl ht)), (mb, .inl (G.2.1, 21, .inl bu)), (mg, .inl (G.2.1, 21, .inl hg)), (mq, .inl (G.2.1, 21, .inl pq)), (ml, .inl (G.2.1, 21, .inl ld)), (mf, .inl (G.2.1, 20, .inl fo))] H := by rw [← hfx_2]; exact hP
          have hD : va_D A [(m0, .inr (6, [.int (nI (th)), .ref ms, .ref mv, .int (nI (mSM sm)), .ref mt, .int (nI (ln)), .ref mh, .ref mb, .ref mg, .ref mq, .ref ml, .ref mf, .int nw, .int fw, .int (nI (tp)), .int (bI (wr)), .long dg])), (ms, .inl (G.2.1, 88, .inl s0)), (mv, .inl (G.2.1, 528, .inl (mSV sv sm s0))), (mt, .inl (G.2.1, 60, .inl tx)), (mh, .inl (G.2.1, 21, .inl ht)), (mb, .inl (G.2.1, 21, .inl bu)), (mg, .inl (G.2.1, 21, .inl hg)), (mq, .inl (G.2.1, 21, .inl pq)), (ml, .inl (G.2.1, 21, .inl ld)), (mf, .inl (G.2.1, 20, .inl fo))] := by rw [← hfx_2]; exact hD
          rw [hQ]
          exact k_vret () [0, 1, 2, 3, 4, 5, 6, 7, 8, 9] hx hb hr hlocks (trivial) hK hP hD hS rfl (by decide) dX6_save_93
        · skip
          refine lv_aload_n hx hb dX6_save_57 rfl (lv_at hl 1 rfl) ?_
          refine va_get (D := G.1) (ci := 6) (v := .ref mv) (C := RX6) (T := TX6) (N := 17) hx hb hts hinX6 hown hK hP 0 rfl rfl 2 (by decide) hf13 (fun _ h9 => h9) rfl dX6_save_58 ?_
          refine lv_bipush (v := 88) hx hb dX6_save_61 (by decide) ?_
          refine lv_aload_n hx hb dX6_save_63 rfl (lv_at hl 1 rfl) ?_
          refine va_get (D := G.1) (ci := 6) (v := .int (nI mm)) (C := RX6) (T := TX6) (N := 17) hx hb hts hinX6 hown hK hP 0 rfl rfl 3 (by decide) hf45 (fun _ h9 => h9) rfl dX6_save_64 ?_
          refine lv_imul hx hb dX6_save_67 ?_
          refine g_ti (y := nI (88 * mm)) (pk_mul (88) (mm)) ?_
          refine lv_iload_n hx hb dX6_save_68 rfl (lv_at hl 0 rfl) ?_
          refine lv_iadd hx hb dX6_save_69 ?_
          refine g_ti (y := nI ((88 * mm) + i)) (nI_add (88 * mm) (i)) ?_
          refine lv_aload_n hx hb dX6_save_70 rfl (lv_at hl 1 rfl) ?_
          refine va_get (D := G.1) (ci := 6) (v := .ref ms) (C := RX6) (T := TX6) (N := 17) hx hb hts hinX6 hown hK hP 0 rfl rfl 1 (by decide) hf7 (fun _ h9 => h9) rfl dX6_save_71 ?_
          refine lv_iload_n hx hb dX6_save_74 rfl (lv_at hl 0 rfl) ?_
          refine g_iald (k := i) hx hb hK hP 1 rfl (by omega) (by omega) dX6_save_75 ?_
          refine g_iast (k := (88 * mm) + i) hx hb hK hP hD hS 2 rfl (by omega) (by omega) dX6_save_76 (fun H locs hP hD hS => ?_)
          have hP : va_P G.1 vwCl [(m0, .inr (6, [.int (nI (th)), .ref ms, .ref mv, .int (nI mm), .ref mt, .int (nI (ln)), .ref mh, .ref mb, .ref mg, .ref mq, .ref ml, .ref mf, .int nw, .int fw, .int (nI (tp)), .int (bI (wr)), .long dg])), (ms, .inl (G.2.1, 88, .inl s0)), (mv, .inl (G.2.1, 528, .inl (upd (mPutI g mm s0 i) ((88 * mm) + i) (s0 i)))), (mt, .inl (G.2.1, 60, .inl tx)), (mh, .inl (G.2.1, 21, .inl ht)), (mb, .inl (G.2.1, 21, .inl bu)), (mg, .inl (G.2.1, 21, .inl hg)), (mq, .inl (G.2.1, 21, .inl pq)), (ml, .inl (G.2.1, 21, .inl ld)), (mf, .inl (G.2.1, 20, .inl fo))] H := hP
          have hD : va_D A [(m0, .inr (6, [.int (nI (th)), .ref ms, .ref mv, .int (nI mm), .ref mt, .int (nI (ln)), .ref mh, .ref mb, .ref mg, .ref mq, .ref ml, .ref mf, .int nw, .int fw, .int (nI (tp)), .int (bI (wr)), .long dg])), (ms, .inl (G.2.1, 88, .inl s0)), (mv, .inl (G.2.1, 528, .inl (upd (mPutI g mm s0 i) ((88 * mm) + i) (s0 i)))), (mt, .inl (G.2.1, 60, .inl tx)), (mh, .inl (G.2.1, 21, .inl ht)), (mb, .inl (G.2.1, 21, .inl bu)), (mg, .inl (G.2.1, 21, .inl hg)), (mq, .inl (G.2.1, 21, .inl pq)), (ml, .inl (G.2.1, 21, .inl ld)), (mf, .inl (G.2.1, 20, .inl fo))] := hD
          refine lv_iinc (v := nI (i + 1)) (lv' := [(1, .int (nI (i + 1))), (0, .ref m0)]) hx hb dX6_save_77 hl (k := 0) rfl (nI_add (i) 1) (by decide) rfl (fun ls hl => ?_)
          refine lv_goto (tgt := 51) hx hb dX6_save_80 (by decide) ?_
          have hfx_3 : (upd (mPutI g mm s0 i) ((88 * mm) + i) (s0 i) : Nat → Int32) = mPutI g mm s0 (i + 1) := mPutI_S _ _ _ _
          have hP : va_P G.1 vwCl [(m0, .inr (6, [.int (nI (th)), .ref ms, .ref mv, .int (nI mm), .ref mt, .int (nI (ln)), .ref mh, .ref mb, .ref mg, .ref mq, .ref ml, .ref mf, .int nw, .int fw, .int (nI (tp)), .int (bI (wr)), .long dg])), (ms, .inl (G.2.1, 88, .inl s0)), (mv, .inl (G.2.1, 528, .inl (mPutI g mm s0 (i + 1)))), (mt, .inl (G.2.1, 60, .inl tx)), (mh, .inl (G.2.1, 21, .inl ht)), (mb, .inl (G.2.1, 21, .inl bu)), (mg, .inl (G.2.1, 21, .inl hg)), (mq, .inl (G.2.1, 21, .inl pq)), (ml, .inl (G.2.1, 21, .inl ld)), (mf, .inl (G.2.1, 20, .inl fo))] H := by rw [← hfx_3]; exact hP
          have hD : va_D A [(m0, .inr (6, [.int (nI (th)), .ref ms, .ref mv, .int (nI mm), .ref mt, .int (nI (ln)), .ref mh, .ref mb, .ref mg, .ref mq, .ref ml, .ref mf, .int nw, .int fw, .int (nI (tp)), .int (bI (wr)), .long dg])), (ms, .inl (G.2.1, 88, .inl s0)), (mv, .inl (G.2.1, 528, .inl (mPutI g mm s0 (i + 1)))), (mt, .inl (G.2.1, 60, .inl tx)), (mh, .inl (G.2.1, 21, .inl ht)), (mb, .inl (G.2.1, 21, .inl bu)), (mg, .inl (G.2.1, 21, .inl hg)), (mq, .inl (G.2.1, 21, .inl pq)), (ml, .inl (G.2.1, 21, .inl ld)), (mf, .inl (G.2.1, 20, .inl fo))] := by rw [← hfx_3]; exact hD
          exact ih51 (i + 1) (by first | assumption | omega) (by omega) _ _ _ hP hD hS (lv_sub hl [0, 1] rfl)
    have hfx_4 : (g : Nat → Int32) = mPutI g mm s0 0 := (mPutI_0 _ _ _).symm
    have hP : va_P G.1 vwCl [(m0, .inr (6, [.int (nI (th)), .ref ms, .ref mv, .int (nI mm), .ref mt, .int (nI (ln)), .ref mh, .ref mb, .ref mg, .ref mq, .ref ml, .ref mf, .int nw, .int fw, .int (nI (tp)), .int (bI (wr)), .long dg])), (ms, .inl (G.2.1, 88, .inl s0)), (mv, .inl (G.2.1, 528, .inl (mPutI g mm s0 0))), (mt, .inl (G.2.1, 60, .inl tx)), (mh, .inl (G.2.1, 21, .inl ht)), (mb, .inl (G.2.1, 21, .inl bu)), (mg, .inl (G.2.1, 21, .inl hg)), (mq, .inl (G.2.1, 21, .inl pq)), (ml, .inl (G.2.1, 21, .inl ld)), (mf, .inl (G.2.1, 20, .inl fo))] H := by rw [← hfx_4]; exact hP
    have hD : va_D A [(m0, .inr (6, [.int (nI (th)), .ref ms, .ref mv, .int (nI mm), .ref mt, .int (nI (ln)), .ref mh, .ref mb, .ref mg, .ref mq, .ref ml, .ref mf, .int nw, .int fw, .int (nI (tp)), .int (bI (wr)), .long dg])), (ms, .inl (G.2.1, 88, .inl s0)), (mv, .inl (G.2.1, 528, .inl (mPutI g mm s0 0))), (mt, .inl (G.2.1, 60, .inl tx)), (mh, .inl (G.2.1, 21, .inl ht)), (mb, .inl (G.2.1, 21, .inl bu)), (mg, .inl (G.2.1, 21, .inl hg)), (mq, .inl (G.2.1, 21, .inl pq)), (ml, .inl (G.2.1, 21, .inl ld)), (mf, .inl (G.2.1, 20, .inl fo))] := by rw [← hfx_4]; exact hD
    exact L51 (88 - 0 + 1) 0 (by first | assumption | omega) (Nat.lt_succ_self _) _ _ _ hP hD hS (lv_sub hl [0, 1] rfl)
  refine g_icmp_ne (a := sm) (b := 6) (tgt := 49) hx hb (by omega) (by omega) dX6_save_6 (by decide) (fun c_6 => ?_) (fun c_6 => ?_)
  · skip
    exact L49 sm sv (by omega) (Or.inr ⟨c_6, rfl, rfl⟩) _ _ _ hP hD hS (lv_sub hl [0] rfl)
  · skip
    refine lv_iconst (v := 0) hx hb dX6_save_9 (by decide) ?_
    refine lv_istore_n (lv' := [(1, .int 0), (0, .ref m0)]) hx hb dX6_save_10 rfl hl (by decide) rfl (fun ls hl => ?_)
    have L11 : ∀ (n9 : Nat) (i : Nat), (i ≤ 440) → (440 - i < n9) → ∀ (H : Heap) (locs : List Loc) (ls : Array Slot), va_P G.1 vwCl [(m0, .inr (6, [.int (nI (th)), .ref ms, .ref mv, .int (nI (sm)), .ref mt, .int (nI (ln)), .ref mh, .ref mb, .ref mg, .ref mq, .ref ml, .ref mf, .int nw, .int fw, .int (nI (tp)), .int (bI (wr)), .long dg])), (ms, .inl (G.2.1, 88, .inl s0)), (mv, .inl (G.2.1, 528, .inl (tilN (mS88 sv) sv i))), (mt, .inl (G.2.1, 60, .inl tx)), (mh, .inl (G.2.1, 21, .inl ht)), (mb, .inl (G.2.1, 21, .inl bu)), (mg, .inl (G.2.1, 21, .inl hg)), (mq, .inl (G.2.1, 21, .inl pq)), (ml, .inl (G.2.1, 21, .inl ld)), (mf, .inl (G.2.1, 20, .inl fo))] H → va_D A [(m0, .inr (6, [.int (nI (th)), .ref ms, .ref mv, .int (nI (sm)), .ref mt, .int (nI (ln)), .ref mh, .ref mb, .ref mg, .ref mq, .ref ml, .ref mf, .int nw, .int fw, .int (nI (tp)), .int (bI (wr)), .long dg])), (ms, .inl (G.2.1, 88, .inl s0)), (mv, .inl (G.2.1, 528, .inl (tilN (mS88 sv) sv i))), (mt, .inl (G.2.1, 60, .inl tx)), (mh, .inl (G.2.1, 21, .inl ht)), (mb, .inl (G.2.1, 21, .inl bu)), (mg, .inl (G.2.1, 21, .inl hg)), (mq, .inl (G.2.1, 21, .inl pq)), (ml, .inl (G.2.1, 21, .inl ld)), (mf, .inl (G.2.1, 20, .inl fo))] → va_S A s.heap H locs → lv_has ls 2 [(1, .int (nI i)), (0, .ref m0)] → W p l e ({ frames := 0, cells := 0, slots := 0, locals := 0 } : Room) s m args below meth c H locs 0 0 Q (F0 m 11 ls []) := by
      intro n9
      induction n9 with
      | zero =>
        intro i hi hm9 H locs ls hP hD hS hl
        exact absurd hm9 (Nat.not_lt_zero _)
      | succ n9 ih11 =>
        intro i hi hm9 H locs ls hP hD hS hl
        refine lv_iload_n hx hb dX6_save_11 rfl (lv_at hl 0 rfl) ?_
        refine lv_sipush (v := 440) hx hb dX6_save_12 (by decide) ?_
        refine g_icmp_ge (a := i) (b := 440) (tgt := 39) hx hb (by omega) (by omega) dX6_save_15 (by decide) (fun c_15 => ?_) (fun c_15 => ?_)
        · skip
          have e9 : 440 = i := by omega
          subst e9
          refine lv_aload_n hx hb dX6_save_39 rfl (lv_at hl 1 rfl) ?_
          refine lv_dup hx hb dX6_save_40 rfl ?_
          refine va_get (D := G.1) (ci := 6) (v := .int (nI (sm))) (C := RX6) (T := TX6) (N := 17) hx hb hts hinX6 hown hK hP 0 rfl rfl 3 (by decide) hf45 (fun _ h9 => h9) rfl dX6_save_41 ?_
          refine lv_iconst (v := 1) hx hb dX6_save_44 (by decide) ?_
          refine lv_isub hx hb dX6_save_45 ?_
          refine g_ti (y := nI 5) ((pk_sub (a := sm) (b := 1) (by omega)).trans (congrArg nI (by omega))) ?_
          refine va_put (D := G.1) (ci := 6) (v := .int (nI 5)) (ty := .int) (C := RX6) (T := TX6) (N := 17) hx hb hts hinX6 tyX6 tyX6_ok nmX6 hown hK hP hD hS 0 rfl rfl 3 (by decide) hf45 (fun _ h9 => h9) rfl (by decide +kernel) (rfl) (rfl) (Nat.le_of_ble_eq_true rfl) dX6_save_46 (fun H locs hP hD hS => ?_)
          have hP : va_P G.1 vwCl [(m0, .inr (6, [.int (nI (th)), .ref ms, .ref mv, .int (nI 5), .ref mt, .int (nI (ln)), .ref mh, .ref mb, .ref mg, .ref mq, .ref ml, .ref mf, .int nw, .int fw, .int (nI (tp)), .int (bI (wr)), .long dg])), (ms, .inl (G.2.1, 88, .inl s0)), (mv, .inl (G.2.1, 528, .inl (tilN (mS88 sv) sv 440))), (mt, .inl (G.2.1, 60, .inl tx)), (mh, .inl (G.2.1, 21, .inl ht)), (mb, .inl (G.2.1, 21, .inl bu)), (mg, .inl (G.2.1, 21, .inl hg)), (mq, .inl (G.2.1, 21, .inl pq)), (ml, .inl (G.2.1, 21, .inl ld)), (mf, .inl (G.2.1, 20, .inl fo))] H := hP
          have hD : va_D A [(m0, .inr (6, [.int (nI (th)), .ref ms, .ref mv, .int (nI 5), .ref mt, .int (nI (ln)), .ref mh, .ref mb, .ref mg, .ref mq, .ref ml, .ref mf, .int nw, .int fw, .int (nI (tp)), .int (bI (wr)), .long dg])), (ms, .inl (G.2.1, 88, .inl s0)), (mv, .inl (G.2.1, 528, .inl (tilN (mS88 sv) sv 440))), (mt, .inl (G.2.1, 60, .inl tx)), (mh, .inl (G.2.1, 21, .inl ht)), (mb, .inl (G.2.1, 21, .inl bu)), (mg, .inl (G.2.1, 21, .inl hg)), (mq, .inl (G.2.1, 21, .inl pq)), (ml, .inl (G.2.1, 21, .inl ld)), (mf, .inl (G.2.1, 20, .inl fo))] := hD
          exact L49 5 (tilN (mS88 sv) sv 440) (by omega) (Or.inl ⟨c_6, rfl, rfl⟩) _ _ _ hP hD hS (lv_sub hl [1] rfl)
        · skip
          refine lv_aload_n hx hb dX6_save_18 rfl (lv_at hl 1 rfl) ?_
          refine va_get (D := G.1) (ci := 6) (v := .ref mv) (C := RX6) (T := TX6) (N := 17) hx hb hts hinX6 hown hK hP 0 rfl rfl 2 (by decide) hf13 (fun _ h9 => h9) rfl dX6_save_19 ?_
          refine lv_iload_n hx hb dX6_save_22 rfl (lv_at hl 0 rfl) ?_
          refine lv_aload_n hx hb dX6_save_23 rfl (lv_at hl 1 rfl) ?_
          refine va_get (D := G.1) (ci := 6) (v := .ref mv) (C := RX6) (T := TX6) (N := 17) hx hb hts hinX6 hown hK hP 0 rfl rfl 2 (by decide) hf13 (fun _ h9 => h9) rfl dX6_save_24 ?_
          refine lv_bipush (v := 88) hx hb dX6_save_27 (by decide) ?_
          refine lv_iload_n hx hb dX6_save_29 rfl (lv_at hl 0 rfl) ?_
          refine lv_iadd hx hb dX6_save_30 ?_
          refine g_ti (y := nI (88 + i)) (nI_add (88) (i)) ?_
          refine g_iald (k := 88 + i) hx hb hK hP 2 rfl (by omega) (by omega) dX6_save_31 ?_
          refine g_ti (y := mS88 sv i) (mS88_rd sv i) ?_
          refine g_iast (k := i) hx hb hK hP hD hS 2 rfl (by omega) (by omega) dX6_save_32 (fun H locs hP hD hS => ?_)
          have hP : va_P G.1 vwCl [(m0, .inr (6, [.int (nI (th)), .ref ms, .ref mv, .int (nI (sm)), .ref mt, .int (nI (ln)), .ref mh, .ref mb, .ref mg, .ref mq, .ref ml, .ref mf, .int nw, .int fw, .int (nI (tp)), .int (bI (wr)), .long dg])), (ms, .inl (G.2.1, 88, .inl s0)), (mv, .inl (G.2.1, 528, .inl (upd (tilN (mS88 sv) sv i) i (mS88 sv i)))), (mt, .inl (G.2.1, 60, .inl tx)), (mh, .inl (G.2.1, 21, .inl ht)), (mb, .inl (G.2.1, 21, .inl bu)), (mg, .inl (G.2.1, 21, .inl hg)), (mq, .inl (G.2.1, 21, .inl pq)), (ml, .inl (G.2.1, 21, .inl ld)), (mf, .inl (G.2.1, 20, .inl fo))] H := hP
          have hD : va_D A [(m0, .inr (6, [.int (nI (th)), .ref ms, .ref mv, .int (nI (sm)), .ref mt, .int (nI (ln)), .ref mh, .ref mb, .ref mg, .ref mq, .ref ml, .ref mf, .int nw, .int fw, .int (nI (tp)), .int (bI (wr)), .long dg])), (ms, .inl (G.2.1, 88, .inl s0)), (mv, .inl (G.2.1, 528, .inl (upd (tilN (mS88 sv) sv i) i (mS88 sv i)))), (mt, .inl (G.2.1, 60, .inl tx)), (mh, .inl (G.2.1, 21, .inl ht)), (mb, .inl (G.2.1, 21, .inl bu)), (mg, .inl (G.2.1, 21, .inl hg)), (mq, .inl (G.2.1, 21, .inl pq)), (ml, .inl (G.2.1, 21, .inl ld)), (mf, .inl (G.2.1, 20, .inl fo))] := hD
          refine lv_iinc (v := nI (i + 1)) (lv' := [(1, .int (nI (i + 1))), (0, .ref m0)]) hx hb dX6_save_33 hl (k := 0) rfl (nI_add (i) 1) (by decide) rfl (fun ls hl => ?_)
          refine lv_goto (tgt := 11) hx hb dX6_save_36 (by decide) ?_
          have hfx_5 : (upd (tilN (mS88 sv) sv i) i (mS88 sv i) : Nat → Int32) = tilN (mS88 sv) sv (i + 1) := tilN_S _ _ _
          have hP : va_P G.1 vwCl [(m0, .inr (6, [.int (nI (th)), .ref ms, .ref mv, .int (nI (sm)), .ref mt, .int (nI (ln)), .ref mh, .ref mb, .ref mg, .ref mq, .ref ml, .ref mf, .int nw, .int fw, .int (nI (tp)), .int (bI (wr)), .long dg])), (ms, .inl (G.2.1, 88, .inl s0)), (mv, .inl (G.2.1, 528, .inl (tilN (mS88 sv) sv (i + 1)))), (mt, .inl (G.2.1, 60, .inl tx)), (mh, .inl (G.2.1, 21, .inl ht)), (mb, .inl (G.2.1, 21, .inl bu)), (mg, .inl (G.2.1, 21, .inl hg)), (mq, .inl (G.2.1, 21, .inl pq)), (ml, .inl (G.2.1, 21, .inl ld)), (mf, .inl (G.2.1, 20, .inl fo))] H := by rw [← hfx_5]; exact hP
          have hD : va_D A [(m0, .inr (6, [.int (nI (th)), .ref ms, .ref mv, .int (nI (sm)), .ref mt, .int (nI (ln)), .ref mh, .ref mb, .ref mg, .ref mq, .ref ml, .ref mf, .int nw, .int fw, .int (nI (tp)), .int (bI (wr)), .long dg])), (ms, .inl (G.2.1, 88, .inl s0)), (mv, .inl (G.2.1, 528, .inl (tilN (mS88 sv) sv (i + 1)))), (mt, .inl (G.2.1, 60, .inl tx)), (mh, .inl (G.2.1, 21, .inl ht)), (mb, .inl (G.2.1, 21, .inl bu)), (mg, .inl (G.2.1, 21, .inl hg)), (mq, .inl (G.2.1, 21, .inl pq)), (ml, .inl (G.2.1, 21, .inl ld)), (mf, .inl (G.2.1, 20, .inl fo))] := by rw [← hfx_5]; exact hD
          exact ih11 (i + 1) (by first | assumption | omega) (by omega) _ _ _ hP hD hS (lv_sub hl [0, 1] rfl)
    have hfx_6 : (sv : Nat → Int32) = tilN (mS88 sv) sv 0 := (tilN_0 _ _).symm
    have hP : va_P G.1 vwCl [(m0, .inr (6, [.int (nI (th)), .ref ms, .ref mv, .int (nI (sm)), .ref mt, .int (nI (ln)), .ref mh, .ref mb, .ref mg, .ref mq, .ref ml, .ref mf, .int nw, .int fw, .int (nI (tp)), .int (bI (wr)), .long dg])), (ms, .inl (G.2.1, 88, .inl s0)), (mv, .inl (G.2.1, 528, .inl (tilN (mS88 sv) sv 0))), (mt, .inl (G.2.1, 60, .inl tx)), (mh, .inl (G.2.1, 21, .inl ht)), (mb, .inl (G.2.1, 21, .inl bu)), (mg, .inl (G.2.1, 21, .inl hg)), (mq, .inl (G.2.1, 21, .inl pq)), (ml, .inl (G.2.1, 21, .inl ld)), (mf, .inl (G.2.1, 20, .inl fo))] H := by rw [← hfx_6]; exact hP
    have hD : va_D A [(m0, .inr (6, [.int (nI (th)), .ref ms, .ref mv, .int (nI (sm)), .ref mt, .int (nI (ln)), .ref mh, .ref mb, .ref mg, .ref mq, .ref ml, .ref mf, .int nw, .int fw, .int (nI (tp)), .int (bI (wr)), .long dg])), (ms, .inl (G.2.1, 88, .inl s0)), (mv, .inl (G.2.1, 528, .inl (tilN (mS88 sv) sv 0))), (mt, .inl (G.2.1, 60, .inl tx)), (mh, .inl (G.2.1, 21, .inl ht)), (mb, .inl (G.2.1, 21, .inl bu)), (mg, .inl (G.2.1, 21, .inl hg)), (mq, .inl (G.2.1, 21, .inl pq)), (ml, .inl (G.2.1, 21, .inl ld)), (mf, .inl (G.2.1, 20, .inl fo))] := by rw [← hfx_6]; exact hD
    exact L11 (440 - 0 + 1) 0 (by first | assumption | omega) (Nat.lt_succ_self _) _ _ _ hP hD hS (lv_sub hl [0, 1] rfl)
set_option maxHeartbeats 4000000 in
set_option maxRecDepth 100000 in
theorem c_X6_layJoint (l : Launch) (G : kG) (m0 : Nat) (ms : Nat) (mv : Nat) (mt : Nat) (mh : Nat) (mb : Nat) (mg : Nat) (mq : Nat) (ml : Nat) (mf : Nat) (th : Nat) (s0 : Fn) (sv : Fn) (sm : Nat) (tx : Fn) (ln : Nat) (ht : Fn) (bu : Fn) (hg : Fn) (pq : Fn) (ld : Fn) (fo : Fn) (nw : Int32) (fw : Int32) (tp : Nat) (wr : Bool) (dg : Int64) (k : Nat) (n : Nat) (sz : Nat) (hs0 : s0 0 = nI n) (hk : k ≤ n) (hn : n ≤ 20) : kMet l yX6_layJoint wsX6_layJoint ({ frames := 0, cells := 0, slots := 0, locals := 0 } : Room) G [.ref m0, .int (nI (k))] [(m0, .inr (6, [.int (nI (th)), .ref ms, .ref mv, .int (nI (sm)), .ref mt, .int (nI (ln)), .ref mh, .ref mb, .ref mg, .ref mq, .ref ml, .ref mf, .int nw, .int fw, .int (nI (tp)), .int (bI (wr)), .long dg])), (ms, .inl (G.2.1, 88, .inl s0)), (mv, .inl (G.2.1, 528, .inl sv)), (mt, .inl (G.2.1, 60, .inl tx)), (mh, .inl (G.2.1, 21, .inl ht)), (mb, .inl (G.2.1, 21, .inl bu)), (mg, .inl (G.2.1, 21, .inl hg)), (mq, .inl (G.2.1, 21, .inl pq)), (ml, .inl (G.2.1, 21, .inl ld)), (mf, .inl (G.2.1, 20, .inl fo))] sz (kQv G (fun (u : Unit) => True) (fun (u : Unit) => [(m0, .inr (6, [.int (nI (th)), .ref ms, .ref mv, .int (nI (sm)), .ref mt, .int (nI (ln)), .ref mh, .ref mb, .ref mg, .ref mq, .ref ml, .ref mf, .int nw, .int fw, .int (nI (tp)), .int (bI (wr)), .long dg])), (ms, .inl (G.2.1, 88, .inl s0)), (mv, .inl (G.2.1, 528, .inl sv)), (mt, .inl (G.2.1, 60, .inl tx)), (mh, .inl (G.2.1, 21, .inl ht)), (mb, .inl (G.2.1, 21, .inl (upd bu k (sBU n (mWE s0) (mSE s0) k)))), (mg, .inl (G.2.1, 21, .inl (upd hg k (sHG n (mWE s0) (mHA s0) (mSE s0) k)))), (mq, .inl (G.2.1, 21, .inl (upd pq k (jPP n ht (mWE s0) (mHA s0) (mPR s0) (mSE s0) k)))), (ml, .inl (G.2.1, 21, .inl (upd ld k (jLD n ht (mWE s0) (mHA s0) (mPR s0) (mSE s0) k)))), (mf, .inl (G.2.1, 20, .inl fo))])) 0 0 := by
  refine k_entry (cc := cX6_layJoint) (maxL := 4) (ret := none) (by decide) rfl (Nat.le_of_ble_eq_true rfl) ?_
  intro p e s m args below meth c A ls H locs Q hQ hx hb hml hr hts hown hlocks hin hA hP hK hD hS hl
  have hown : s.vm.findClass RX6 = some m.cls := hown
  have hl : lv_has ls 4 [(0, .ref m0), (1, .int (nI (k)))] := hl
  have hf22 := hts (.fieldLink RX6 22 "HangingChainModel" "burden" "[I") (by decide +kernel)
  have hinX6 : ∀ w ∈ wsX60, w ∈ wsX6_layJoint := by decide +kernel
  have hf25 := hts (.fieldLink RX6 25 "HangingChainModel" "hung" "[I") (by decide +kernel)
  have hf7 := hts (.fieldLink RX6 7 "HangingChainModel" "s" "[I") (by decide +kernel)
  have hf28 := hts (.fieldLink RX6 28 "HangingChainModel" "propped" "[I") (by decide +kernel)
  have hf19 := hts (.fieldLink RX6 19 "HangingChainModel" "height" "[I") (by decide +kernel)
  have hf31 := hts (.fieldLink RX6 31 "HangingChainModel" "load" "[I") (by decide +kernel)
  refine lv_iload_n hx hb dX6_layJoint_0 rfl (lv_at hl 1 rfl) ?_
  have L46 : ∀ (x : Int32), (x = sBU n (mWE s0) (mSE s0) k) → ∀ (H : Heap) (locs : List Loc) (ls : Array Slot), va_P G.1 vwCl [(m0, .inr (6, [.int (nI (th)), .ref ms, .ref mv, .int (nI (sm)), .ref mt, .int (nI (ln)), .ref mh, .ref mb, .ref mg, .ref mq, .ref ml, .ref mf, .int nw, .int fw, .int (nI (tp)), .int (bI (wr)), .long dg])), (ms, .inl (G.2.1, 88, .inl s0)), (mv, .inl (G.2.1, 528, .inl sv)), (mt, .inl (G.2.1, 60, .inl tx)), (mh, .inl (G.2.1, 21, .inl ht)), (mb, .inl (G.2.1, 21, .inl bu)), (mg, .inl (G.2.1, 21, .inl hg)), (mq, .inl (G.2.1, 21, .inl pq)), (ml, .inl (G.2.1, 21, .inl ld)), (mf, .inl (G.2.1, 20, .inl fo))] H → va_D A [(m0, .inr (6, [.int (nI (th)), .ref ms, .ref mv, .int (nI (sm)), .ref mt, .int (nI (ln)), .ref mh, .ref mb, .ref mg, .ref mq, .ref ml, .ref mf, .int nw, .int fw, .int (nI (tp)), .int (bI (wr)), .long dg])), (ms, .inl (G.2.1, 88, .inl s0)), (mv, .inl (G.2.1, 528, .inl sv)), (mt, .inl (G.2.1, 60, .inl tx)), (mh, .inl (G.2.1, 21, .inl ht)), (mb, .inl (G.2.1, 21, .inl bu)), (mg, .inl (G.2.1, 21, .inl hg)), (mq, .inl (G.2.1, 21, .inl pq)), (ml, .inl (G.2.1, 21, .inl ld)), (mf, .inl (G.2.1, 20, .inl fo))] → va_S A s.heap H locs → lv_has ls 4 [(0, .ref m0), (1, .int (nI (k)))] → W p l e ({ frames := 0, cells := 0, slots := 0, locals := 0 } : Room) s m args below meth c H locs 0 0 Q (F0 m 46 ls [.int x]) := by
    intro x ex H locs ls hP hD hS hl
    subst ex
    refine lv_istore_n (lv' := [(3, .int (sBU n (mWE s0) (mSE s0) k)), (0, .ref m0), (1, .int (nI (k)))]) hx hb dX6_layJoint_46 rfl hl (by decide) rfl (fun ls hl => ?_)
    refine lv_aload_n hx hb dX6_layJoint_47 rfl (lv_at hl 1 rfl) ?_
    refine va_get (D := G.1) (ci := 6) (v := .ref mb) (C := RX6) (T := TX6) (N := 17) hx hb hts hinX6 hown hK hP 0 rfl rfl 7 (by decide) hf22 (fun _ h9 => h9) rfl dX6_layJoint_48 ?_
    refine lv_iload_n hx hb dX6_layJoint_51 rfl (lv_at hl 2 rfl) ?_
    refine lv_iload_n hx hb dX6_layJoint_52 rfl (lv_at hl 0 rfl) ?_
    refine g_iast (k := k) hx hb hK hP hD hS 5 rfl (by omega) (by omega) dX6_layJoint_53 (fun H locs hP hD hS => ?_)
    have hP : va_P G.1 vwCl [(m0, .inr (6, [.int (nI (th)), .ref ms, .ref mv, .int (nI (sm)), .ref mt, .int (nI (ln)), .ref mh, .ref mb, .ref mg, .ref mq, .ref ml, .ref mf, .int nw, .int fw, .int (nI (tp)), .int (bI (wr)), .long dg])), (ms, .inl (G.2.1, 88, .inl s0)), (mv, .inl (G.2.1, 528, .inl sv)), (mt, .inl (G.2.1, 60, .inl tx)), (mh, .inl (G.2.1, 21, .inl ht)), (mb, .inl (G.2.1, 21, .inl (upd bu k (sBU n (mWE s0) (mSE s0) k)))), (mg, .inl (G.2.1, 21, .inl hg)), (mq, .inl (G.2.1, 21, .inl pq)), (ml, .inl (G.2.1, 21, .inl ld)), (mf, .inl (G.2.1, 20, .inl fo))] H := hP
    have hD : va_D A [(m0, .inr (6, [.int (nI (th)), .ref ms, .ref mv, .int (nI (sm)), .ref mt, .int (nI (ln)), .ref mh, .ref mb, .ref mg, .ref mq, .ref ml, .ref mf, .int nw, .int fw, .int (nI (tp)), .int (bI (wr)), .long dg])), (ms, .inl (G.2.1, 88, .inl s0)), (mv, .inl (G.2.1, 528, .inl sv)), (mt, .inl (G.2.1, 60, .inl tx)), (mh, .inl (G.2.1, 21, .inl ht)), (mb, .inl (G.2.1, 21, .inl (upd bu k (sBU n (mWE s0) (mSE s0) k)))), (mg, .inl (G.2.1, 21, .inl hg)), (mq, .inl (G.2.1, 21, .inl pq)), (ml, .inl (G.2.1, 21, .inl ld)), (mf, .inl (G.2.1, 20, .inl fo))] := hD
    refine lv_aload_n hx hb dX6_layJoint_54 rfl (lv_at hl 1 rfl) ?_
    refine va_get (D := G.1) (ci := 6) (v := .ref mg) (C := RX6) (T := TX6) (N := 17) hx hb hts hinX6 hown hK hP 0 rfl rfl 8 (by decide) hf25 (fun _ h9 => h9) rfl dX6_layJoint_55 ?_
    refine lv_iload_n hx hb dX6_layJoint_58 rfl (lv_at hl 2 rfl) ?_
    refine lv_iload_n hx hb dX6_layJoint_59 rfl (lv_at hl 0 rfl) ?_
    refine lv_aload_n hx hb dX6_layJoint_60 rfl (lv_at hl 1 rfl) ?_
    refine va_get (D := G.1) (ci := 6) (v := .ref ms) (C := RX6) (T := TX6) (N := 17) hx hb hts hinX6 hown hK hP 0 rfl rfl 1 (by decide) hf7 (fun _ h9 => h9) rfl dX6_layJoint_61 ?_
    refine lv_bipush (v := 46) hx hb dX6_layJoint_64 (by decide) ?_
    refine lv_iload_n hx hb dX6_layJoint_66 rfl (lv_at hl 2 rfl) ?_
    refine lv_iadd hx hb dX6_layJoint_67 ?_
    refine g_ti (y := nI (46 + k)) (nI_add (46) (k)) ?_
    refine g_iald (k := 46 + k) hx hb hK hP 1 rfl (by omega) (by omega) dX6_layJoint_68 ?_
    have L85 : ∀ (x : Int32), (x = sHG n (mWE s0) (mHA s0) (mSE s0) k) → ∀ (H : Heap) (locs : List Loc) (ls : Array Slot), va_P G.1 vwCl [(m0, .inr (6, [.int (nI (th)), .ref ms, .ref mv, .int (nI (sm)), .ref mt, .int (nI (ln)), .ref mh, .ref mb, .ref mg, .ref mq, .ref ml, .ref mf, .int nw, .int fw, .int (nI (tp)), .int (bI (wr)), .long dg])), (ms, .inl (G.2.1, 88, .inl s0)), (mv, .inl (G.2.1, 528, .inl sv)), (mt, .inl (G.2.1, 60, .inl tx)), (mh, .inl (G.2.1, 21, .inl ht)), (mb, .inl (G.2.1, 21, .inl (upd bu k (sBU n (mWE s0) (mSE s0) k)))), (mg, .inl (G.2.1, 21, .inl hg)), (mq, .inl (G.2.1, 21, .inl pq)), (ml, .inl (G.2.1, 21, .inl ld)), (mf, .inl (G.2.1, 20, .inl fo))] H → va_D A [(m0, .inr (6, [.int (nI (th)), .ref ms, .ref mv, .int (nI (sm)), .ref mt, .int (nI (ln)), .ref mh, .ref mb, .ref mg, .ref mq, .ref ml, .ref mf, .int nw, .int fw, .int (nI (tp)), .int (bI (wr)), .long dg])), (ms, .inl (G.2.1, 88, .inl s0)), (mv, .inl (G.2.1, 528, .inl sv)), (mt, .inl (G.2.1, 60, .inl tx)), (mh, .inl (G.2.1, 21, .inl ht)), (mb, .inl (G.2.1, 21, .inl (upd bu k (sBU n (mWE s0) (mSE s0) k)))), (mg, .inl (G.2.1, 21, .inl hg)), (mq, .inl (G.2.1, 21, .inl pq)), (ml, .inl (G.2.1, 21, .inl ld)), (mf, .inl (G.2.1, 20, .inl fo))] → va_S A s.heap H locs → lv_has ls 4 [(3, .int (sBU n (mWE s0) (mSE s0) k)), (0, .ref m0), (1, .int (nI (k)))] → W p l e ({ frames := 0, cells := 0, slots := 0, locals := 0 } : Room) s m args below meth c H locs 0 0 Q (F0 m 85 ls [.int x, .int (nI k), .ref mg]) := by
      intro x ex H locs ls hP hD hS hl
      subst ex
      refine g_iast (k := k) hx hb hK hP hD hS 6 rfl (by omega) (by omega) dX6_layJoint_85 (fun H locs hP hD hS => ?_)
      have hP : va_P G.1 vwCl [(m0, .inr (6, [.int (nI (th)), .ref ms, .ref mv, .int (nI (sm)), .ref mt, .int (nI (ln)), .ref mh, .ref mb, .ref mg, .ref mq, .ref ml, .ref mf, .int nw, .int fw, .int (nI (tp)), .int (bI (wr)), .long dg])), (ms, .inl (G.2.1, 88, .inl s0)), (mv, .inl (G.2.1, 528, .inl sv)), (mt, .inl (G.2.1, 60, .inl tx)), (mh, .inl (G.2.1, 21, .inl ht)), (mb, .inl (G.2.1, 21, .inl (upd bu k (sBU n (mWE s0) (mSE s0) k)))), (mg, .inl (G.2.1, 21, .inl (upd hg k (sHG n (mWE s0) (mHA s0) (mSE s0) k)))), (mq, .inl (G.2.1, 21, .inl pq)), (ml, .inl (G.2.1, 21, .inl ld)), (mf, .inl (G.2.1, 20, .inl fo))] H := hP
      have hD : va_D A [(m0, .inr (6, [.int (nI (th)), .ref ms, .ref mv, .int (nI (sm)), .ref mt, .int (nI (ln)), .ref mh, .ref mb, .ref mg, .ref mq, .ref ml, .ref mf, .int nw, .int fw, .int (nI (tp)), .int (bI (wr)), .long dg])), (ms, .inl (G.2.1, 88, .inl s0)), (mv, .inl (G.2.1, 528, .inl sv)), (mt, .inl (G.2.1, 60, .inl tx)), (mh, .inl (G.2.1, 21, .inl ht)), (mb, .inl (G.2.1, 21, .inl (upd bu k (sBU n (mWE s0) (mSE s0) k)))), (mg, .inl (G.2.1, 21, .inl (upd hg k (sHG n (mWE s0) (mHA s0) (mSE s0) k)))), (mq, .inl (G.2.1, 21, .inl pq)), (ml, .inl (G.2.1, 21, .inl ld)), (mf, .inl (G.2.1, 20, .inl fo))] := hD
      refine lv_iload_n hx hb dX6_layJoint_86 rfl (lv_at hl 0 rfl) ?_
      refine lv_aload_n hx hb dX6_layJoint_87 rfl (lv_at hl 1 rfl) ?_
      refine va_get (D := G.1) (ci := 6) (v := .ref mg) (C := RX6) (T := TX6) (N := 17) hx hb hts hinX6 hown hK hP 0 rfl rfl 8 (by decide) hf25 (fun _ h9 => h9) rfl dX6_layJoint_88 ?_
      refine lv_iload_n hx hb dX6_layJoint_91 rfl (lv_at hl 2 rfl) ?_
      refine g_iald (k := k) hx hb hK hP 6 rfl (by omega) (by omega) dX6_layJoint_92 ?_
      refine g_ti (y := sHG n (mWE s0) (mHA s0) (mSE s0) k) (pk_us) ?_
      refine lv_isub hx hb dX6_layJoint_93 ?_
      refine lv_istore_n (lv' := [(3, .int ((sBU n (mWE s0) (mSE s0) k) - (sHG n (mWE s0) (mHA s0) (mSE s0) k))), (0, .ref m0), (1, .int (nI (k)))]) hx hb dX6_layJoint_94 rfl hl (by decide) rfl (fun ls hl => ?_)
      refine lv_aload_n hx hb dX6_layJoint_95 rfl (lv_at hl 1 rfl) ?_
      refine va_get (D := G.1) (ci := 6) (v := .ref mq) (C := RX6) (T := TX6) (N := 17) hx hb hts hinX6 hown hK hP 0 rfl rfl 9 (by decide) hf28 (fun _ h9 => h9) rfl dX6_layJoint_96 ?_
      refine lv_iload_n hx hb dX6_layJoint_99 rfl (lv_at hl 2 rfl) ?_
      refine lv_aload_n hx hb dX6_layJoint_100 rfl (lv_at hl 1 rfl) ?_
      refine va_get (D := G.1) (ci := 6) (v := .ref mh) (C := RX6) (T := TX6) (N := 17) hx hb hts hinX6 hown hK hP 0 rfl rfl 6 (by decide) hf19 (fun _ h9 => h9) rfl dX6_layJoint_101 ?_
      refine lv_iload_n hx hb dX6_layJoint_104 rfl (lv_at hl 2 rfl) ?_
      refine g_iald (k := k) hx hb hK hP 4 rfl (by omega) (by omega) dX6_layJoint_105 ?_
      refine lv_aload_n hx hb dX6_layJoint_106 rfl (lv_at hl 1 rfl) ?_
      refine va_get (D := G.1) (ci := 6) (v := .ref ms) (C := RX6) (T := TX6) (N := 17) hx hb hts hinX6 hown hK hP 0 rfl rfl 1 (by decide) hf7 (fun _ h9 => h9) rfl dX6_layJoint_107 ?_
      refine lv_iconst (v := 2) hx hb dX6_layJoint_110 (by decide) ?_
      refine g_iald (k := 2) hx hb hK hP 1 rfl (by omega) (by omega) dX6_layJoint_111 ?_
      have L145 : ∀ (x : Int32), (x = jPP n ht (mWE s0) (mHA s0) (mPR s0) (mSE s0) k) → ∀ (H : Heap) (locs : List Loc) (ls : Array Slot), va_P G.1 vwCl [(m0, .inr (6, [.int (nI (th)), .ref ms, .ref mv, .int (nI (sm)), .ref mt, .int (nI (ln)), .ref mh, .ref mb, .ref mg, .ref mq, .ref ml, .ref mf, .int nw, .int fw, .int (nI (tp)), .int (bI (wr)), .long dg])), (ms, .inl (G.2.1, 88, .inl s0)), (mv, .inl (G.2.1, 528, .inl sv)), (mt, .inl (G.2.1, 60, .inl tx)), (mh, .inl (G.2.1, 21, .inl ht)), (mb, .inl (G.2.1, 21, .inl (upd bu k (sBU n (mWE s0) (mSE s0) k)))), (mg, .inl (G.2.1, 21, .inl (upd hg k (sHG n (mWE s0) (mHA s0) (mSE s0) k)))), (mq, .inl (G.2.1, 21, .inl pq)), (ml, .inl (G.2.1, 21, .inl ld)), (mf, .inl (G.2.1, 20, .inl fo))] H → va_D A [(m0, .inr (6, [.int (nI (th)), .ref ms, .ref mv, .int (nI (sm)), .ref mt, .int (nI (ln)), .ref mh, .ref mb, .ref mg, .ref mq, .ref ml, .ref mf, .int nw, .int fw, .int (nI (tp)), .int (bI (wr)), .long dg])), (ms, .inl (G.2.1, 88, .inl s0)), (mv, .inl (G.2.1, 528, .inl sv)), (mt, .inl (G.2.1, 60, .inl tx)), (mh, .inl (G.2.1, 21, .inl ht)), (mb, .inl (G.2.1, 21, .inl (upd bu k (sBU n (mWE s0) (mSE s0) k)))), (mg, .inl (G.2.1, 21, .inl (upd hg k (sHG n (mWE s0) (mHA s0) (mSE s0) k)))), (mq, .inl (G.2.1, 21, .inl pq)), (ml, .inl (G.2.1, 21, .inl ld)), (mf, .inl (G.2.1, 20, .inl fo))] → va_S A s.heap H locs → lv_has ls 4 [(3, .int ((sBU n (mWE s0) (mSE s0) k) - (sHG n (mWE s0) (mHA s0) (mSE s0) k))), (0, .ref m0), (1, .int (nI (k)))] → W p l e ({ frames := 0, cells := 0, slots := 0, locals := 0 } : Room) s m args below meth c H locs 0 0 Q (F0 m 145 ls [.int x, .int (nI k), .ref mq]) := by
        intro x ex H locs ls hP hD hS hl
        subst ex
        refine g_iast (k := k) hx hb hK hP hD hS 7 rfl (by omega) (by omega) dX6_layJoint_145 (fun H locs hP hD hS => ?_)
        have hP : va_P G.1 vwCl [(m0, .inr (6, [.int (nI (th)), .ref ms, .ref mv, .int (nI (sm)), .ref mt, .int (nI (ln)), .ref mh, .ref mb, .ref mg, .ref mq, .ref ml, .ref mf, .int nw, .int fw, .int (nI (tp)), .int (bI (wr)), .long dg])), (ms, .inl (G.2.1, 88, .inl s0)), (mv, .inl (G.2.1, 528, .inl sv)), (mt, .inl (G.2.1, 60, .inl tx)), (mh, .inl (G.2.1, 21, .inl ht)), (mb, .inl (G.2.1, 21, .inl (upd bu k (sBU n (mWE s0) (mSE s0) k)))), (mg, .inl (G.2.1, 21, .inl (upd hg k (sHG n (mWE s0) (mHA s0) (mSE s0) k)))), (mq, .inl (G.2.1, 21, .inl (upd pq k (jPP n ht (mWE s0) (mHA s0) (mPR s0) (mSE s0) k)))), (ml, .inl (G.2.1, 21, .inl ld)), (mf, .inl (G.2.1, 20, .inl fo))] H := hP
        have hD : va_D A [(m0, .inr (6, [.int (nI (th)), .ref ms, .ref mv, .int (nI (sm)), .ref mt, .int (nI (ln)), .ref mh, .ref mb, .ref mg, .ref mq, .ref ml, .ref mf, .int nw, .int fw, .int (nI (tp)), .int (bI (wr)), .long dg])), (ms, .inl (G.2.1, 88, .inl s0)), (mv, .inl (G.2.1, 528, .inl sv)), (mt, .inl (G.2.1, 60, .inl tx)), (mh, .inl (G.2.1, 21, .inl ht)), (mb, .inl (G.2.1, 21, .inl (upd bu k (sBU n (mWE s0) (mSE s0) k)))), (mg, .inl (G.2.1, 21, .inl (upd hg k (sHG n (mWE s0) (mHA s0) (mSE s0) k)))), (mq, .inl (G.2.1, 21, .inl (upd pq k (jPP n ht (mWE s0) (mHA s0) (mPR s0) (mSE s0) k)))), (ml, .inl (G.2.1, 21, .inl ld)), (mf, .inl (G.2.1, 20, .inl fo))] := hD
        refine lv_aload_n hx hb dX6_layJoint_146 rfl (lv_at hl 1 rfl) ?_
        refine va_get (D := G.1) (ci := 6) (v := .ref ml) (C := RX6) (T := TX6) (N := 17) hx hb hts hinX6 hown hK hP 0 rfl rfl 10 (by decide) hf31 (fun _ h9 => h9) rfl dX6_layJoint_147 ?_
        refine lv_iload_n hx hb dX6_layJoint_150 rfl (lv_at hl 2 rfl) ?_
        refine lv_iload_n hx hb dX6_layJoint_151 rfl (lv_at hl 0 rfl) ?_
        refine lv_aload_n hx hb dX6_layJoint_152 rfl (lv_at hl 1 rfl) ?_
        refine va_get (D := G.1) (ci := 6) (v := .ref mq) (C := RX6) (T := TX6) (N := 17) hx hb hts hinX6 hown hK hP 0 rfl rfl 9 (by decide) hf28 (fun _ h9 => h9) rfl dX6_layJoint_153 ?_
        refine lv_iload_n hx hb dX6_layJoint_156 rfl (lv_at hl 2 rfl) ?_
        refine g_iald (k := k) hx hb hK hP 7 rfl (by omega) (by omega) dX6_layJoint_157 ?_
        refine g_ti (y := jPP n ht (mWE s0) (mHA s0) (mPR s0) (mSE s0) k) (pk_us) ?_
        refine lv_isub hx hb dX6_layJoint_158 ?_
        refine g_iast (k := k) hx hb hK hP hD hS 8 rfl (by omega) (by omega) dX6_layJoint_159 (fun H locs hP hD hS => ?_)
        have hP : va_P G.1 vwCl [(m0, .inr (6, [.int (nI (th)), .ref ms, .ref mv, .int (nI (sm)), .ref mt, .int (nI (ln)), .ref mh, .ref mb, .ref mg, .ref mq, .ref ml, .ref mf, .int nw, .int fw, .int (nI (tp)), .int (bI (wr)), .long dg])), (ms, .inl (G.2.1, 88, .inl s0)), (mv, .inl (G.2.1, 528, .inl sv)), (mt, .inl (G.2.1, 60, .inl tx)), (mh, .inl (G.2.1, 21, .inl ht)), (mb, .inl (G.2.1, 21, .inl (upd bu k (sBU n (mWE s0) (mSE s0) k)))), (mg, .inl (G.2.1, 21, .inl (upd hg k (sHG n (mWE s0) (mHA s0) (mSE s0) k)))), (mq, .inl (G.2.1, 21, .inl (upd pq k (jPP n ht (mWE s0) (mHA s0) (mPR s0) (mSE s0) k)))), (ml, .inl (G.2.1, 21, .inl (upd ld k (((sBU n (mWE s0) (mSE s0) k) - (sHG n (mWE s0) (mHA s0) (mSE s0) k)) - (jPP n ht (mWE s0) (mHA s0) (mPR s0) (mSE s0) k))))), (mf, .inl (G.2.1, 20, .inl fo))] H := hP
        have hD : va_D A [(m0, .inr (6, [.int (nI (th)), .ref ms, .ref mv, .int (nI (sm)), .ref mt, .int (nI (ln)), .ref mh, .ref mb, .ref mg, .ref mq, .ref ml, .ref mf, .int nw, .int fw, .int (nI (tp)), .int (bI (wr)), .long dg])), (ms, .inl (G.2.1, 88, .inl s0)), (mv, .inl (G.2.1, 528, .inl sv)), (mt, .inl (G.2.1, 60, .inl tx)), (mh, .inl (G.2.1, 21, .inl ht)), (mb, .inl (G.2.1, 21, .inl (upd bu k (sBU n (mWE s0) (mSE s0) k)))), (mg, .inl (G.2.1, 21, .inl (upd hg k (sHG n (mWE s0) (mHA s0) (mSE s0) k)))), (mq, .inl (G.2.1, 21, .inl (upd pq k (jPP n ht (mWE s0) (mHA s0) (mPR s0) (mSE s0) k)))), (ml, .inl (G.2.1, 21, .inl (upd ld k (((sBU n (mWE s0) (mSE s0) k) - (sHG n (mWE s0) (mHA s0) (mSE s0) k)) - (jPP n ht (mWE s0) (mHA s0) (mPR s0) (mSE s0) k))))), (mf, .inl (G.2.1, 20, .inl fo))] := hD
        rw [hQ]
        exact k_vret () [0, 1, 2, 3, 4, 5, 6, 7, 8, 9] hx hb hr hlocks (trivial) hK hP hD hS rfl (by decide) dX6_layJoint_160
      refine lv_icmp_le (tgt := 119) hx hb dX6_layJoint_112 (by decide) (fun c_112 => ?_) (fun c_112 => ?_)
      · skip
        refine lv_iload_n hx hb dX6_layJoint_119 rfl (lv_at hl 0 rfl) ?_
        refine lv_aload_n hx hb dX6_layJoint_120 rfl (lv_at hl 1 rfl) ?_
        refine va_get (D := G.1) (ci := 6) (v := .ref ms) (C := RX6) (T := TX6) (N := 17) hx hb hts hinX6 hown hK hP 0 rfl rfl 1 (by decide) hf7 (fun _ h9 => h9) rfl dX6_layJoint_121 ?_
        refine lv_bipush (v := 67) hx hb dX6_layJoint_124 (by decide) ?_
        refine lv_iload_n hx hb dX6_layJoint_126 rfl (lv_at hl 2 rfl) ?_
        refine lv_iadd hx hb dX6_layJoint_127 ?_
        refine g_ti (y := nI (67 + k)) (nI_add (67) (k)) ?_
        refine g_iald (k := 67 + k) hx hb hK hP 1 rfl (by omega) (by omega) dX6_layJoint_128 ?_
        refine lv_icmp_ge (tgt := 136) hx hb dX6_layJoint_129 (by decide) (fun c_129 => ?_) (fun c_129 => ?_)
        · skip
          refine lv_aload_n hx hb dX6_layJoint_136 rfl (lv_at hl 1 rfl) ?_
          refine va_get (D := G.1) (ci := 6) (v := .ref ms) (C := RX6) (T := TX6) (N := 17) hx hb hts hinX6 hown hK hP 0 rfl rfl 1 (by decide) hf7 (fun _ h9 => h9) rfl dX6_layJoint_137 ?_
          refine lv_bipush (v := 67) hx hb dX6_layJoint_140 (by decide) ?_
          refine lv_iload_n hx hb dX6_layJoint_142 rfl (lv_at hl 2 rfl) ?_
          refine lv_iadd hx hb dX6_layJoint_143 ?_
          refine g_ti (y := nI (67 + k)) (nI_add (67) (k)) ?_
          refine g_iald (k := 67 + k) hx hb hK hP 1 rfl (by omega) (by omega) dX6_layJoint_144 ?_
          exact L145 (s0 (67 + k)) (mPP_l c_112 c_129) _ _ _ hP hD hS (lv_sub hl [0, 1, 2] rfl)
        · skip
          refine lv_iload_n hx hb dX6_layJoint_132 rfl (lv_at hl 0 rfl) ?_
          refine lv_goto (tgt := 145) hx hb dX6_layJoint_133 (by decide) ?_
          exact L145 ((sBU n (mWE s0) (mSE s0) k) - (sHG n (mWE s0) (mHA s0) (mSE s0) k)) (mPP_r c_112 c_129) _ _ _ hP hD hS (lv_sub hl [0, 1, 2] rfl)
      · skip
        refine lv_iconst (v := 0) hx hb dX6_layJoint_115 (by decide) ?_
        refine lv_goto (tgt := 145) hx hb dX6_layJoint_116 (by decide) ?_
        exact L145 0 (mPP_f c_112) _ _ _ hP hD hS (lv_sub hl [0, 1, 2] rfl)
    refine lv_icmp_ge (tgt := 76) hx hb dX6_layJoint_69 (by decide) (fun c_69 => ?_) (fun c_69 => ?_)
    · skip
      refine lv_aload_n hx hb dX6_layJoint_76 rfl (lv_at hl 1 rfl) ?_
      refine va_get (D := G.1) (ci := 6) (v := .ref ms) (C := RX6) (T := TX6) (N := 17) hx hb hts hinX6 hown hK hP 0 rfl rfl 1 (by decide) hf7 (fun _ h9 => h9) rfl dX6_layJoint_77 ?_
      refine lv_bipush (v := 46) hx hb dX6_layJoint_80 (by decide) ?_
      refine lv_iload_n hx hb dX6_layJoint_82 rfl (lv_at hl 2 rfl) ?_
      refine lv_iadd hx hb dX6_layJoint_83 ?_
      refine g_ti (y := nI (46 + k)) (nI_add (46) (k)) ?_
      refine g_iald (k := 46 + k) hx hb hK hP 1 rfl (by omega) (by omega) dX6_layJoint_84 ?_
      exact L85 (s0 (46 + k)) (mHG_l c_69) _ _ _ hP hD hS (lv_sub hl [0, 1, 2] rfl)
    · skip
      refine lv_iload_n hx hb dX6_layJoint_72 rfl (lv_at hl 0 rfl) ?_
      refine lv_goto (tgt := 85) hx hb dX6_layJoint_73 (by decide) ?_
      exact L85 (sBU n (mWE s0) (mSE s0) k) (mHG_r c_69) _ _ _ hP hD hS (lv_sub hl [0, 1, 2] rfl)
  refine g_if_le (a := k) (tgt := 18) hx hb (by omega) dX6_layJoint_1 (by decide) (fun c_1 => ?_) (fun c_1 => ?_)
  · skip
    refine lv_iconst (v := 0) hx hb dX6_layJoint_18 (by decide) ?_
    refine lv_istore_n (lv' := [(2, .int 0), (0, .ref m0), (1, .int (nI (k)))]) hx hb dX6_layJoint_19 rfl hl (by decide) rfl (fun ls hl => ?_)
    refine lv_iload_n hx hb dX6_layJoint_20 rfl (lv_at hl 0 rfl) ?_
    refine g_if_eq (a := 0) (tgt := 45) hx hb (by omega) dX6_layJoint_21 (by decide) (fun c_21 => ?_) (fun c_21 => ?_)
    · skip
      refine lv_iconst (v := 0) hx hb dX6_layJoint_45 (by decide) ?_
      exact L46 0 (mBU_f (by omega)) _ _ _ hP hD hS (lv_sub hl [1, 2] rfl)
    · exact absurd c_21 (by decide)
  · skip
    refine lv_iload_n hx hb dX6_layJoint_4 rfl (lv_at hl 1 rfl) ?_
    refine lv_aload_n hx hb dX6_layJoint_5 rfl (lv_at hl 0 rfl) ?_
    refine va_get (D := G.1) (ci := 6) (v := .ref ms) (C := RX6) (T := TX6) (N := 17) hx hb hts hinX6 hown hK hP 0 rfl rfl 1 (by decide) hf7 (fun _ h9 => h9) rfl dX6_layJoint_6 ?_
    refine lv_iconst (v := 0) hx hb dX6_layJoint_9 (by decide) ?_
    refine g_iald (k := 0) hx hb hK hP 1 rfl (by omega) (by omega) dX6_layJoint_10 ?_
    refine g_ti (y := nI n) (hs0) ?_
    refine g_icmp_ge (a := k) (b := n) (tgt := 18) hx hb (by omega) (by omega) dX6_layJoint_11 (by decide) (fun c_11 => ?_) (fun c_11 => ?_)
    · skip
      refine lv_iconst (v := 0) hx hb dX6_layJoint_18 (by decide) ?_
      refine lv_istore_n (lv' := [(2, .int 0), (0, .ref m0), (1, .int (nI (k)))]) hx hb dX6_layJoint_19 rfl hl (by decide) rfl (fun ls hl => ?_)
      refine lv_iload_n hx hb dX6_layJoint_20 rfl (lv_at hl 0 rfl) ?_
      refine g_if_eq (a := 0) (tgt := 45) hx hb (by omega) dX6_layJoint_21 (by decide) (fun c_21 => ?_) (fun c_21 => ?_)
      · skip
        refine lv_iconst (v := 0) hx hb dX6_layJoint_45 (by decide) ?_
        exact L46 0 (mBU_f (by omega)) _ _ _ hP hD hS (lv_sub hl [1, 2] rfl)
      · exact absurd c_21 (by decide)
    · skip
      refine lv_iconst (v := 1) hx hb dX6_layJoint_14 (by decide) ?_
      refine lv_goto (tgt := 19) hx hb dX6_layJoint_15 (by decide) ?_
      refine lv_istore_n (lv' := [(2, .int 1), (0, .ref m0), (1, .int (nI (k)))]) hx hb dX6_layJoint_19 rfl hl (by decide) rfl (fun ls hl => ?_)
      refine lv_iload_n hx hb dX6_layJoint_20 rfl (lv_at hl 0 rfl) ?_
      refine g_if_eq (a := 1) (tgt := 45) hx hb (by omega) dX6_layJoint_21 (by decide) (fun c_21 => ?_) (fun c_21 => ?_)
      · exact absurd c_21 (by decide)
      · skip
        refine lv_aload_n hx hb dX6_layJoint_24 rfl (lv_at hl 1 rfl) ?_
        refine va_get (D := G.1) (ci := 6) (v := .ref ms) (C := RX6) (T := TX6) (N := 17) hx hb hts hinX6 hown hK hP 0 rfl rfl 1 (by decide) hf7 (fun _ h9 => h9) rfl dX6_layJoint_25 ?_
        refine lv_bipush (v := 25) hx hb dX6_layJoint_28 (by decide) ?_
        refine lv_iload_n hx hb dX6_layJoint_30 rfl (lv_at hl 2 rfl) ?_
        refine lv_iadd hx hb dX6_layJoint_31 ?_
        refine g_ti (y := nI (25 + k)) (nI_add (25) (k)) ?_
        refine g_iald (k := 25 + k) hx hb hK hP 1 rfl (by omega) (by omega) dX6_layJoint_32 ?_
        refine lv_iconst (v := 2) hx hb dX6_layJoint_33 (by decide) ?_
        refine lv_aload_n hx hb dX6_layJoint_34 rfl (lv_at hl 1 rfl) ?_
        refine va_get (D := G.1) (ci := 6) (v := .ref ms) (C := RX6) (T := TX6) (N := 17) hx hb hts hinX6 hown hK hP 0 rfl rfl 1 (by decide) hf7 (fun _ h9 => h9) rfl dX6_layJoint_35 ?_
        refine lv_iconst (v := 1) hx hb dX6_layJoint_38 (by decide) ?_
        refine g_iald (k := 1) hx hb hK hP 1 rfl (by omega) (by omega) dX6_layJoint_39 ?_
        refine lv_imul hx hb dX6_layJoint_40 ?_
        refine lv_iadd hx hb dX6_layJoint_41 ?_
        refine lv_goto (tgt := 46) hx hb dX6_layJoint_42 (by decide) ?_
        exact L46 ((s0 (25 + k)) + (2 * (s0 1))) (mBU_t (by omega)) _ _ _ hP hD hS (lv_sub hl [1, 2] rfl)
set_option maxHeartbeats 4000000 in
set_option maxRecDepth 100000 in
theorem c_X6_lay (l : Launch) (G : kG) (m0 : Nat) (ms : Nat) (mv : Nat) (mt : Nat) (mh : Nat) (mb : Nat) (mg : Nat) (mq : Nat) (ml : Nat) (mf : Nat) (th : Nat) (s0 : Fn) (sv : Fn) (sm : Nat) (tx : Fn) (ln : Nat) (ht : Fn) (bu : Fn) (hg : Fn) (pq : Fn) (ld : Fn) (fo : Fn) (nw : Int32) (fw : Int32) (tp : Nat) (wr : Bool) (dg : Int64) (n : Nat) (sz : Nat) (hok : mOK s0 n) : kMet l yX6_lay wsX6_lay ({ frames := 1, cells := 0, slots := 0, locals := 23 } : Room) G [.ref m0] [(m0, .inr (6, [.int (nI (th)), .ref ms, .ref mv, .int (nI (sm)), .ref mt, .int (nI (ln)), .ref mh, .ref mb, .ref mg, .ref mq, .ref ml, .ref mf, .int nw, .int fw, .int (nI (tp)), .int (bI (wr)), .long dg])), (ms, .inl (G.2.1, 88, .inl s0)), (mv, .inl (G.2.1, 528, .inl sv)), (mt, .inl (G.2.1, 60, .inl tx)), (mh, .inl (G.2.1, 21, .inl ht)), (mb, .inl (G.2.1, 21, .inl bu)), (mg, .inl (G.2.1, 21, .inl hg)), (mq, .inl (G.2.1, 21, .inl pq)), (ml, .inl (G.2.1, 21, .inl ld)), (mf, .inl (G.2.1, 20, .inl fo))] sz (kQv G (fun (u : Fn × Fn × Fn × Fn × Fn × Fn × Int32 × Int32) => okB n (mST s0) (mWE s0) (mHA s0) (mPR s0) (mSE s0) u.1 u.2.1 u.2.2.1 u.2.2.2.1 u.2.2.2.2.1 u.2.2.2.2.2.1 ∧ u.2.2.2.2.2.2.1 = cAH n (mST s0) (mWE s0) (mHA s0) (mPR s0) (mSE s0) ∧ u.2.2.2.2.2.2.2 = cBE n (mST s0) (mWE s0) (mHA s0) (mPR s0) (mSE s0)) (fun (u : Fn × Fn × Fn × Fn × Fn × Fn × Int32 × Int32) => [(m0, .inr (6, [.int (nI (th)), .ref ms, .ref mv, .int (nI (sm)), .ref mt, .int (nI (ln)), .ref mh, .ref mb, .ref mg, .ref mq, .ref ml, .ref mf, .int u.2.2.2.2.2.2.1, .int u.2.2.2.2.2.2.2, .int (nI (tp)), .int (bI (wr)), .long dg])), (ms, .inl (G.2.1, 88, .inl s0)), (mv, .inl (G.2.1, 528, .inl sv)), (mt, .inl (G.2.1, 60, .inl tx)), (mh, .inl (G.2.1, 21, .inl u.1)), (mb, .inl (G.2.1, 21, .inl u.2.1)), (mg, .inl (G.2.1, 21, .inl u.2.2.1)), (mq, .inl (G.2.1, 21, .inl u.2.2.2.1)), (ml, .inl (G.2.1, 21, .inl u.2.2.2.2.1)), (mf, .inl (G.2.1, 20, .inl u.2.2.2.2.2.1))])) 0 0 := by
  refine k_entry (cc := cX6_lay) (maxL := 4) (ret := none) (by decide) rfl (Nat.le_of_ble_eq_true rfl) ?_
  intro p e s m args below meth c A ls H locs Q hQ hx hb hml hr hts hown hlocks hin hA hP hK hD hS hl
  have hown : s.vm.findClass RX6 = some m.cls := hown
  have hl : lv_has ls 4 [(0, .ref m0)] := hl
  have hf7 := hts (.fieldLink RX6 7 "HangingChainModel" "s" "[I") (by decide +kernel)
  have hinX6 : ∀ w ∈ wsX60, w ∈ wsX6_lay := by decide +kernel
  have hf48 := hts (.fieldLink RX6 48 "HangingChainModel" "nearWall" "I") (by decide +kernel)
  have hf51 := hts (.fieldLink RX6 51 "HangingChainModel" "farWall" "I") (by decide +kernel)
  have hf31 := hts (.fieldLink RX6 31 "HangingChainModel" "load" "[I") (by decide +kernel)
  have hf34 := hts (.fieldLink RX6 34 "HangingChainModel" "force" "[I") (by decide +kernel)
  have hf19 := hts (.fieldLink RX6 19 "HangingChainModel" "height" "[I") (by decide +kernel)
  obtain ⟨hs0, hn1, hn, hv⟩ := id hok
  refine lv_aload_n hx hb dX6_lay_0 rfl (lv_at hl 0 rfl) ?_
  refine va_get (D := G.1) (ci := 6) (v := .ref ms) (C := RX6) (T := TX6) (N := 17) hx hb hts hinX6 hown hK hP 0 rfl rfl 1 (by decide) hf7 (fun _ h9 => h9) rfl dX6_lay_1 ?_
  refine lv_iconst (v := 0) hx hb dX6_lay_4 (by decide) ?_
  refine g_iald (k := 0) hx hb hK hP 1 rfl (by omega) (by omega) dX6_lay_5 ?_
  refine g_ti (y := nI n) (hs0) ?_
  refine lv_istore_n (lv' := [(1, .int (nI n)), (0, .ref m0)]) hx hb dX6_lay_6 rfl hl (by decide) rfl (fun ls hl => ?_)
  refine lv_aload_n hx hb dX6_lay_7 rfl (lv_at hl 1 rfl) ?_
  refine lv_iconst (v := 0) hx hb dX6_lay_8 (by decide) ?_
  refine va_put (D := G.1) (ci := 6) (v := .int 0) (ty := .int) (C := RX6) (T := TX6) (N := 17) hx hb hts hinX6 tyX6 tyX6_ok nmX6 hown hK hP hD hS 0 rfl rfl 12 (by decide) hf48 (fun _ h9 => h9) rfl (by decide +kernel) (rfl) (rfl) (Nat.le_of_ble_eq_true rfl) dX6_lay_9 (fun H locs hP hD hS => ?_)
  have hP : va_P G.1 vwCl [(m0, .inr (6, [.int (nI (th)), .ref ms, .ref mv, .int (nI (sm)), .ref mt, .int (nI (ln)), .ref mh, .ref mb, .ref mg, .ref mq, .ref ml, .ref mf, .int 0, .int fw, .int (nI (tp)), .int (bI (wr)), .long dg])), (ms, .inl (G.2.1, 88, .inl s0)), (mv, .inl (G.2.1, 528, .inl sv)), (mt, .inl (G.2.1, 60, .inl tx)), (mh, .inl (G.2.1, 21, .inl ht)), (mb, .inl (G.2.1, 21, .inl bu)), (mg, .inl (G.2.1, 21, .inl hg)), (mq, .inl (G.2.1, 21, .inl pq)), (ml, .inl (G.2.1, 21, .inl ld)), (mf, .inl (G.2.1, 20, .inl fo))] H := hP
  have hD : va_D A [(m0, .inr (6, [.int (nI (th)), .ref ms, .ref mv, .int (nI (sm)), .ref mt, .int (nI (ln)), .ref mh, .ref mb, .ref mg, .ref mq, .ref ml, .ref mf, .int 0, .int fw, .int (nI (tp)), .int (bI (wr)), .long dg])), (ms, .inl (G.2.1, 88, .inl s0)), (mv, .inl (G.2.1, 528, .inl sv)), (mt, .inl (G.2.1, 60, .inl tx)), (mh, .inl (G.2.1, 21, .inl ht)), (mb, .inl (G.2.1, 21, .inl bu)), (mg, .inl (G.2.1, 21, .inl hg)), (mq, .inl (G.2.1, 21, .inl pq)), (ml, .inl (G.2.1, 21, .inl ld)), (mf, .inl (G.2.1, 20, .inl fo))] := hD
  refine lv_aload_n hx hb dX6_lay_12 rfl (lv_at hl 1 rfl) ?_
  refine lv_iconst (v := 0) hx hb dX6_lay_13 (by decide) ?_
  refine va_put (D := G.1) (ci := 6) (v := .int 0) (ty := .int) (C := RX6) (T := TX6) (N := 17) hx hb hts hinX6 tyX6 tyX6_ok nmX6 hown hK hP hD hS 0 rfl rfl 13 (by decide) hf51 (fun _ h9 => h9) rfl (by decide +kernel) (rfl) (rfl) (Nat.le_of_ble_eq_true rfl) dX6_lay_14 (fun H locs hP hD hS => ?_)
  have hP : va_P G.1 vwCl [(m0, .inr (6, [.int (nI (th)), .ref ms, .ref mv, .int (nI (sm)), .ref mt, .int (nI (ln)), .ref mh, .ref mb, .ref mg, .ref mq, .ref ml, .ref mf, .int 0, .int 0, .int (nI (tp)), .int (bI (wr)), .long dg])), (ms, .inl (G.2.1, 88, .inl s0)), (mv, .inl (G.2.1, 528, .inl sv)), (mt, .inl (G.2.1, 60, .inl tx)), (mh, .inl (G.2.1, 21, .inl ht)), (mb, .inl (G.2.1, 21, .inl bu)), (mg, .inl (G.2.1, 21, .inl hg)), (mq, .inl (G.2.1, 21, .inl pq)), (ml, .inl (G.2.1, 21, .inl ld)), (mf, .inl (G.2.1, 20, .inl fo))] H := hP
  have hD : va_D A [(m0, .inr (6, [.int (nI (th)), .ref ms, .ref mv, .int (nI (sm)), .ref mt, .int (nI (ln)), .ref mh, .ref mb, .ref mg, .ref mq, .ref ml, .ref mf, .int 0, .int 0, .int (nI (tp)), .int (bI (wr)), .long dg])), (ms, .inl (G.2.1, 88, .inl s0)), (mv, .inl (G.2.1, 528, .inl sv)), (mt, .inl (G.2.1, 60, .inl tx)), (mh, .inl (G.2.1, 21, .inl ht)), (mb, .inl (G.2.1, 21, .inl bu)), (mg, .inl (G.2.1, 21, .inl hg)), (mq, .inl (G.2.1, 21, .inl pq)), (ml, .inl (G.2.1, 21, .inl ld)), (mf, .inl (G.2.1, 20, .inl fo))] := hD
  refine lv_iconst (v := 0) hx hb dX6_lay_17 (by decide) ?_
  refine lv_istore_n (lv' := [(2, .int 0), (1, .int (nI n)), (0, .ref m0)]) hx hb dX6_lay_18 rfl hl (by decide) rfl (fun ls hl => ?_)
  have L19 : ∀ (n9 : Nat) (i : Nat), (i ≤ n + 1) → (n + 1 - i < n9) → ∀ (H : Heap) (locs : List Loc) (ls : Array Slot), va_P G.1 vwCl [(m0, .inr (6, [.int (nI (th)), .ref ms, .ref mv, .int (nI (sm)), .ref mt, .int (nI (ln)), .ref mh, .ref mb, .ref mg, .ref mq, .ref ml, .ref mf, .int (mAH (cLD n (mST s0) (mWE s0) (mHA s0) (mPR s0) (mSE s0)) n i), .int (mBE (cLD n (mST s0) (mWE s0) (mHA s0) (mPR s0) (mSE s0)) n i), .int (nI (tp)), .int (bI (wr)), .long dg])), (ms, .inl (G.2.1, 88, .inl s0)), (mv, .inl (G.2.1, 528, .inl sv)), (mt, .inl (G.2.1, 60, .inl tx)), (mh, .inl (G.2.1, 21, .inl (tilN (sHT (mST s0)) ht i))), (mb, .inl (G.2.1, 21, .inl (tilN (sBU n (mWE s0) (mSE s0)) bu i))), (mg, .inl (G.2.1, 21, .inl (tilN (sHG n (mWE s0) (mHA s0) (mSE s0)) hg i))), (mq, .inl (G.2.1, 21, .inl (tilN (jPP n (sHT (mST s0)) (mWE s0) (mHA s0) (mPR s0) (mSE s0)) pq i))), (ml, .inl (G.2.1, 21, .inl (tilN (cLD n (mST s0) (mWE s0) (mHA s0) (mPR s0) (mSE s0)) ld i))), (mf, .inl (G.2.1, 20, .inl fo))] H → va_D A [(m0, .inr (6, [.int (nI (th)), .ref ms, .ref mv, .int (nI (sm)), .ref mt, .int (nI (ln)), .ref mh, .ref mb, .ref mg, .ref mq, .ref ml, .ref mf, .int (mAH (cLD n (mST s0) (mWE s0) (mHA s0) (mPR s0) (mSE s0)) n i), .int (mBE (cLD n (mST s0) (mWE s0) (mHA s0) (mPR s0) (mSE s0)) n i), .int (nI (tp)), .int (bI (wr)), .long dg])), (ms, .inl (G.2.1, 88, .inl s0)), (mv, .inl (G.2.1, 528, .inl sv)), (mt, .inl (G.2.1, 60, .inl tx)), (mh, .inl (G.2.1, 21, .inl (tilN (sHT (mST s0)) ht i))), (mb, .inl (G.2.1, 21, .inl (tilN (sBU n (mWE s0) (mSE s0)) bu i))), (mg, .inl (G.2.1, 21, .inl (tilN (sHG n (mWE s0) (mHA s0) (mSE s0)) hg i))), (mq, .inl (G.2.1, 21, .inl (tilN (jPP n (sHT (mST s0)) (mWE s0) (mHA s0) (mPR s0) (mSE s0)) pq i))), (ml, .inl (G.2.1, 21, .inl (tilN (cLD n (mST s0) (mWE s0) (mHA s0) (mPR s0) (mSE s0)) ld i))), (mf, .inl (G.2.1, 20, .inl fo))] → va_S A s.heap H locs → lv_has ls 4 [(2, .int (nI i)), (1, .int (nI n)), (0, .ref m0)] → W p l e ({ frames := 1, cells := 0, slots := 0, locals := 23 } : Room) s m args below meth c H locs 0 0 Q (F0 m 19 ls []) := by
    intro n9
    induction n9 with
    | zero =>
      intro i hi hm9 H locs ls hP hD hS hl
      exact absurd hm9 (Nat.not_lt_zero _)
    | succ n9 ih19 =>
      intro i hi hm9 H locs ls hP hD hS hl
      refine lv_iload_n hx hb dX6_lay_19 rfl (lv_at hl 0 rfl) ?_
      refine lv_iload_n hx hb dX6_lay_20 rfl (lv_at hl 1 rfl) ?_
      refine g_icmp_gt (a := i) (b := n) (tgt := 113) hx hb (by omega) (by omega) dX6_lay_21 (by decide) (fun c_21 => ?_) (fun c_21 => ?_)
      · skip
        have e9 : n + 1 = i := by omega
        subst e9
        obtain ⟨LD, hLD⟩ : ∃ z : Fn, z = tilN (cLD n (mST s0) (mWE s0) (mHA s0) (mPR s0) (mSE s0)) ld (n + 1) := ⟨_, rfl⟩
        have hfx_1 : (tilN (cLD n (mST s0) (mWE s0) (mHA s0) (mPR s0) (mSE s0)) ld (n + 1) : Nat → Int32) = LD := hLD.symm
        have hP : va_P G.1 vwCl [(m0, .inr (6, [.int (nI (th)), .ref ms, .ref mv, .int (nI (sm)), .ref mt, .int (nI (ln)), .ref mh, .ref mb, .ref mg, .ref mq, .ref ml, .ref mf, .int (mAH (cLD n (mST s0) (mWE s0) (mHA s0) (mPR s0) (mSE s0)) n (n + 1)), .int (mBE (cLD n (mST s0) (mWE s0) (mHA s0) (mPR s0) (mSE s0)) n (n + 1)), .int (nI (tp)), .int (bI (wr)), .long dg])), (ms, .inl (G.2.1, 88, .inl s0)), (mv, .inl (G.2.1, 528, .inl sv)), (mt, .inl (G.2.1, 60, .inl tx)), (mh, .inl (G.2.1, 21, .inl (tilN (sHT (mST s0)) ht (n + 1)))), (mb, .inl (G.2.1, 21, .inl (tilN (sBU n (mWE s0) (mSE s0)) bu (n + 1)))), (mg, .inl (G.2.1, 21, .inl (tilN (sHG n (mWE s0) (mHA s0) (mSE s0)) hg (n + 1)))), (mq, .inl (G.2.1, 21, .inl (tilN (jPP n (sHT (mST s0)) (mWE s0) (mHA s0) (mPR s0) (mSE s0)) pq (n + 1)))), (ml, .inl (G.2.1, 21, .inl LD)), (mf, .inl (G.2.1, 20, .inl fo))] H := by rw [← hfx_1]; exact hP
        have hD : va_D A [(m0, .inr (6, [.int (nI (th)), .ref ms, .ref mv, .int (nI (sm)), .ref mt, .int (nI (ln)), .ref mh, .ref mb, .ref mg, .ref mq, .ref ml, .ref mf, .int (mAH (cLD n (mST s0) (mWE s0) (mHA s0) (mPR s0) (mSE s0)) n (n + 1)), .int (mBE (cLD n (mST s0) (mWE s0) (mHA s0) (mPR s0) (mSE s0)) n (n + 1)), .int (nI (tp)), .int (bI (wr)), .long dg])), (ms, .inl (G.2.1, 88, .inl s0)), (mv, .inl (G.2.1, 528, .inl sv)), (mt, .inl (G.2.1, 60, .inl tx)), (mh, .inl (G.2.1, 21, .inl (tilN (sHT (mST s0)) ht (n + 1)))), (mb, .inl (G.2.1, 21, .inl (tilN (sBU n (mWE s0) (mSE s0)) bu (n + 1)))), (mg, .inl (G.2.1, 21, .inl (tilN (sHG n (mWE s0) (mHA s0) (mSE s0)) hg (n + 1)))), (mq, .inl (G.2.1, 21, .inl (tilN (jPP n (sHT (mST s0)) (mWE s0) (mHA s0) (mPR s0) (mSE s0)) pq (n + 1)))), (ml, .inl (G.2.1, 21, .inl LD)), (mf, .inl (G.2.1, 20, .inl fo))] := by rw [← hfx_1]; exact hD
        have hfx_2 : (mAH (cLD n (mST s0) (mWE s0) (mHA s0) (mPR s0) (mSE s0)) n (n + 1) : Int32) = cAH n (mST s0) (mWE s0) (mHA s0) (mPR s0) (mSE s0) := mAH_of hok
        have hP : va_P G.1 vwCl [(m0, .inr (6, [.int (nI (th)), .ref ms, .ref mv, .int (nI (sm)), .ref mt, .int (nI (ln)), .ref mh, .ref mb, .ref mg, .ref mq, .ref ml, .ref mf, .int (cAH n (mST s0) (mWE s0) (mHA s0) (mPR s0) (mSE s0)), .int (mBE (cLD n (mST s0) (mWE s0) (mHA s0) (mPR s0) (mSE s0)) n (n + 1)), .int (nI (tp)), .int (bI (wr)), .long dg])), (ms, .inl (G.2.1, 88, .inl s0)), (mv, .inl (G.2.1, 528, .inl sv)), (mt, .inl (G.2.1, 60, .inl tx)), (mh, .inl (G.2.1, 21, .inl (tilN (sHT (mST s0)) ht (n + 1)))), (mb, .inl (G.2.1, 21, .inl (tilN (sBU n (mWE s0) (mSE s0)) bu (n + 1)))), (mg, .inl (G.2.1, 21, .inl (tilN (sHG n (mWE s0) (mHA s0) (mSE s0)) hg (n + 1)))), (mq, .inl (G.2.1, 21, .inl (tilN (jPP n (sHT (mST s0)) (mWE s0) (mHA s0) (mPR s0) (mSE s0)) pq (n + 1)))), (ml, .inl (G.2.1, 21, .inl LD)), (mf, .inl (G.2.1, 20, .inl fo))] H := by rw [← hfx_2]; exact hP
        have hD : va_D A [(m0, .inr (6, [.int (nI (th)), .ref ms, .ref mv, .int (nI (sm)), .ref mt, .int (nI (ln)), .ref mh, .ref mb, .ref mg, .ref mq, .ref ml, .ref mf, .int (cAH n (mST s0) (mWE s0) (mHA s0) (mPR s0) (mSE s0)), .int (mBE (cLD n (mST s0) (mWE s0) (mHA s0) (mPR s0) (mSE s0)) n (n + 1)), .int (nI (tp)), .int (bI (wr)), .long dg])), (ms, .inl (G.2.1, 88, .inl s0)), (mv, .inl (G.2.1, 528, .inl sv)), (mt, .inl (G.2.1, 60, .inl tx)), (mh, .inl (G.2.1, 21, .inl (tilN (sHT (mST s0)) ht (n + 1)))), (mb, .inl (G.2.1, 21, .inl (tilN (sBU n (mWE s0) (mSE s0)) bu (n + 1)))), (mg, .inl (G.2.1, 21, .inl (tilN (sHG n (mWE s0) (mHA s0) (mSE s0)) hg (n + 1)))), (mq, .inl (G.2.1, 21, .inl (tilN (jPP n (sHT (mST s0)) (mWE s0) (mHA s0) (mPR s0) (mSE s0)) pq (n + 1)))), (ml, .inl (G.2.1, 21, .inl LD)), (mf, .inl (G.2.1, 20, .inl fo))] := by rw [← hfx_2]; exact hD
        have hfx_3 : (mBE (cLD n (mST s0) (mWE s0) (mHA s0) (mPR s0) (mSE s0)) n (n + 1) : Int32) = cBE n (mST s0) (mWE s0) (mHA s0) (mPR s0) (mSE s0) := mBE_of hok
        have hP : va_P G.1 vwCl [(m0, .inr (6, [.int (nI (th)), .ref ms, .ref mv, .int (nI (sm)), .ref mt, .int (nI (ln)), .ref mh, .ref mb, .ref mg, .ref mq, .ref ml, .ref mf, .int (cAH n (mST s0) (mWE s0) (mHA s0) (mPR s0) (mSE s0)), .int (cBE n (mST s0) (mWE s0) (mHA s0) (mPR s0) (mSE s0)), .int (nI (tp)), .int (bI (wr)), .long dg])), (ms, .inl (G.2.1, 88, .inl s0)), (mv, .inl (G.2.1, 528, .inl sv)), (mt, .inl (G.2.1, 60, .inl tx)), (mh, .inl (G.2.1, 21, .inl (tilN (sHT (mST s0)) ht (n + 1)))), (mb, .inl (G.2.1, 21, .inl (tilN (sBU n (mWE s0) (mSE s0)) bu (n + 1)))), (mg, .inl (G.2.1, 21, .inl (tilN (sHG n (mWE s0) (mHA s0) (mSE s0)) hg (n + 1)))), (mq, .inl (G.2.1, 21, .inl (tilN (jPP n (sHT (mST s0)) (mWE s0) (mHA s0) (mPR s0) (mSE s0)) pq (n + 1)))), (ml, .inl (G.2.1, 21, .inl LD)), (mf, .inl (G.2.1, 20, .inl fo))] H := by rw [← hfx_3]; exact hP
        have hD : va_D A [(m0, .inr (6, [.int (nI (th)), .ref ms, .ref mv, .int (nI (sm)), .ref mt, .int (nI (ln)), .ref mh, .ref mb, .ref mg, .ref mq, .ref ml, .ref mf, .int (cAH n (mST s0) (mWE s0) (mHA s0) (mPR s0) (mSE s0)), .int (cBE n (mST s0) (mWE s0) (mHA s0) (mPR s0) (mSE s0)), .int (nI (tp)), .int (bI (wr)), .long dg])), (ms, .inl (G.2.1, 88, .inl s0)), (mv, .inl (G.2.1, 528, .inl sv)), (mt, .inl (G.2.1, 60, .inl tx)), (mh, .inl (G.2.1, 21, .inl (tilN (sHT (mST s0)) ht (n + 1)))), (mb, .inl (G.2.1, 21, .inl (tilN (sBU n (mWE s0) (mSE s0)) bu (n + 1)))), (mg, .inl (G.2.1, 21, .inl (tilN (sHG n (mWE s0) (mHA s0) (mSE s0)) hg (n + 1)))), (mq, .inl (G.2.1, 21, .inl (tilN (jPP n (sHT (mST s0)) (mWE s0) (mHA s0) (mPR s0) (mSE s0)) pq (n + 1)))), (ml, .inl (G.2.1, 21, .inl LD)), (mf, .inl (G.2.1, 20, .inl fo))] := by rw [← hfx_3]; exact hD
        refine lv_aload_n hx hb dX6_lay_113 rfl (lv_at hl 2 rfl) ?_
        refine va_get (D := G.1) (ci := 6) (v := .int (cAH n (mST s0) (mWE s0) (mHA s0) (mPR s0) (mSE s0))) (C := RX6) (T := TX6) (N := 17) hx hb hts hinX6 hown hK hP 0 rfl rfl 12 (by decide) hf48 (fun _ h9 => h9) rfl dX6_lay_114 ?_
        refine lv_istore_n (lv' := [(2, .int (cAH n (mST s0) (mWE s0) (mHA s0) (mPR s0) (mSE s0))), (1, .int (nI n)), (0, .ref m0)]) hx hb dX6_lay_117 rfl hl (by decide) rfl (fun ls hl => ?_)
        refine lv_iconst (v := 0) hx hb dX6_lay_118 (by decide) ?_
        refine lv_istore_n (lv' := [(3, .int 0), (2, .int (cAH n (mST s0) (mWE s0) (mHA s0) (mPR s0) (mSE s0))), (1, .int (nI n)), (0, .ref m0)]) hx hb dX6_lay_119 rfl hl (by decide) rfl (fun ls hl => ?_)
        have L120 : ∀ (n9 : Nat) (i : Nat), (i ≤ n) → (n - i < n9) → ∀ (H : Heap) (locs : List Loc) (ls : Array Slot), va_P G.1 vwCl [(m0, .inr (6, [.int (nI (th)), .ref ms, .ref mv, .int (nI (sm)), .ref mt, .int (nI (ln)), .ref mh, .ref mb, .ref mg, .ref mq, .ref ml, .ref mf, .int (cAH n (mST s0) (mWE s0) (mHA s0) (mPR s0) (mSE s0)), .int (cBE n (mST s0) (mWE s0) (mHA s0) (mPR s0) (mSE s0)), .int (nI (tp)), .int (bI (wr)), .long dg])), (ms, .inl (G.2.1, 88, .inl s0)), (mv, .inl (G.2.1, 528, .inl sv)), (mt, .inl (G.2.1, 60, .inl tx)), (mh, .inl (G.2.1, 21, .inl (tilN (sHT (mST s0)) ht (n + 1)))), (mb, .inl (G.2.1, 21, .inl (tilN (sBU n (mWE s0) (mSE s0)) bu (n + 1)))), (mg, .inl (G.2.1, 21, .inl (tilN (sHG n (mWE s0) (mHA s0) (mSE s0)) hg (n + 1)))), (mq, .inl (G.2.1, 21, .inl (tilN (jPP n (sHT (mST s0)) (mWE s0) (mHA s0) (mPR s0) (mSE s0)) pq (n + 1)))), (ml, .inl (G.2.1, 21, .inl LD)), (mf, .inl (G.2.1, 20, .inl (tilN (sFO (cAH n (mST s0) (mWE s0) (mHA s0) (mPR s0) (mSE s0)) LD (mST s0) (mSE s0)) fo i)))] H → va_D A [(m0, .inr (6, [.int (nI (th)), .ref ms, .ref mv, .int (nI (sm)), .ref mt, .int (nI (ln)), .ref mh, .ref mb, .ref mg, .ref mq, .ref ml, .ref mf, .int (cAH n (mST s0) (mWE s0) (mHA s0) (mPR s0) (mSE s0)), .int (cBE n (mST s0) (mWE s0) (mHA s0) (mPR s0) (mSE s0)), .int (nI (tp)), .int (bI (wr)), .long dg])), (ms, .inl (G.2.1, 88, .inl s0)), (mv, .inl (G.2.1, 528, .inl sv)), (mt, .inl (G.2.1, 60, .inl tx)), (mh, .inl (G.2.1, 21, .inl (tilN (sHT (mST s0)) ht (n + 1)))), (mb, .inl (G.2.1, 21, .inl (tilN (sBU n (mWE s0) (mSE s0)) bu (n + 1)))), (mg, .inl (G.2.1, 21, .inl (tilN (sHG n (mWE s0) (mHA s0) (mSE s0)) hg (n + 1)))), (mq, .inl (G.2.1, 21, .inl (tilN (jPP n (sHT (mST s0)) (mWE s0) (mHA s0) (mPR s0) (mSE s0)) pq (n + 1)))), (ml, .inl (G.2.1, 21, .inl LD)), (mf, .inl (G.2.1, 20, .inl (tilN (sFO (cAH n (mST s0) (mWE s0) (mHA s0) (mPR s0) (mSE s0)) LD (mST s0) (mSE s0)) fo i)))] → va_S A s.heap H locs → lv_has ls 4 [(3, .int (nI i)), (2, .int (sLF (cAH n (mST s0) (mWE s0) (mHA s0) (mPR s0) (mSE s0)) LD i)), (1, .int (nI n)), (0, .ref m0)] → W p l e ({ frames := 1, cells := 0, slots := 0, locals := 23 } : Room) s m args below meth c H locs 0 0 Q (F0 m 120 ls []) := by
          intro n9
          induction n9 with
          | zero =>
            intro i hi hm9 H locs ls hP hD hS hl
            exact absurd hm9 (Nat.not_lt_zero _)
          | succ n9 ih120 =>
            intro i hi hm9 H locs ls hP hD hS hl
            refine lv_iload_n hx hb dX6_lay_120 rfl (lv_at hl 0 rfl) ?_
            refine lv_iload_n hx hb dX6_lay_121 rfl (lv_at hl 2 rfl) ?_
            refine g_icmp_ge (a := i) (b := n) (tgt := 169) hx hb (by omega) (by omega) dX6_lay_122 (by decide) (fun c_122 => ?_) (fun c_122 => ?_)
            · skip
              have e9 : n = i := by omega
              subst e9
              rw [hQ]
              exact k_vret ((tilN (sHT (mST s0)) ht (n + 1)), (tilN (sBU n (mWE s0) (mSE s0)) bu (n + 1)), (tilN (sHG n (mWE s0) (mHA s0) (mSE s0)) hg (n + 1)), (tilN (jPP n (sHT (mST s0)) (mWE s0) (mHA s0) (mPR s0) (mSE s0)) pq (n + 1)), LD, (tilN (sFO (cAH n (mST s0) (mWE s0) (mHA s0) (mPR s0) (mSE s0)) LD (mST s0) (mSE s0)) fo n), (cAH n (mST s0) (mWE s0) (mHA s0) (mPR s0) (mSE s0)), (cBE n (mST s0) (mWE s0) (mHA s0) (mPR s0) (mSE s0))) [0, 1, 2, 3, 4, 5, 6, 7, 8, 9] hx hb hr hlocks (⟨okB_lay hLD, rfl, rfl⟩) hK hP hD hS rfl (by decide) dX6_lay_169
            · skip
              refine lv_iload_n hx hb dX6_lay_125 rfl (lv_at hl 1 rfl) ?_
              refine lv_aload_n hx hb dX6_lay_126 rfl (lv_at hl 3 rfl) ?_
              refine va_get (D := G.1) (ci := 6) (v := .ref ml) (C := RX6) (T := TX6) (N := 17) hx hb hts hinX6 hown hK hP 0 rfl rfl 10 (by decide) hf31 (fun _ h9 => h9) rfl dX6_lay_127 ?_
              refine lv_iload_n hx hb dX6_lay_130 rfl (lv_at hl 0 rfl) ?_
              refine g_iald (k := i) hx hb hK hP 8 rfl (by omega) (by omega) dX6_lay_131 ?_
              refine lv_isub hx hb dX6_lay_132 ?_
              refine g_ti (y := sLF (cAH n (mST s0) (mWE s0) (mHA s0) (mPR s0) (mSE s0)) LD (i + 1)) (rfl) ?_
              refine lv_istore_n (lv' := [(2, .int (sLF (cAH n (mST s0) (mWE s0) (mHA s0) (mPR s0) (mSE s0)) LD (i + 1))), (3, .int (nI i)), (1, .int (nI n)), (0, .ref m0)]) hx hb dX6_lay_133 rfl hl (by decide) rfl (fun ls hl => ?_)
              refine lv_aload_n hx hb dX6_lay_134 rfl (lv_at hl 3 rfl) ?_
              refine va_get (D := G.1) (ci := 6) (v := .ref mf) (C := RX6) (T := TX6) (N := 17) hx hb hts hinX6 hown hK hP 0 rfl rfl 11 (by decide) hf34 (fun _ h9 => h9) rfl dX6_lay_135 ?_
              refine lv_iload_n hx hb dX6_lay_138 rfl (lv_at hl 1 rfl) ?_
              refine lv_iload_n hx hb dX6_lay_139 rfl (lv_at hl 0 rfl) ?_
              refine k_ci (wr := [(m0, .inr (6, [.int (nI (th)), .ref ms, .ref mv, .int (nI (sm)), .ref mt, .int (nI (ln)), .ref mh, .ref mb, .ref mg, .ref mq, .ref ml, .ref mf, .int (cAH n (mST s0) (mWE s0) (mHA s0) (mPR s0) (mSE s0)), .int (cBE n (mST s0) (mWE s0) (mHA s0) (mPR s0) (mSE s0)), .int (nI (tp)), .int (bI (wr)), .long dg])), (ms, .inl (G.2.1, 88, .inl s0)), (mv, .inl (G.2.1, 528, .inl sv)), (mt, .inl (G.2.1, 60, .inl tx)), (mh, .inl (G.2.1, 21, .inl (tilN (sHT (mST s0)) ht (n + 1)))), (mb, .inl (G.2.1, 21, .inl (tilN (sBU n (mWE s0) (mSE s0)) bu (n + 1)))), (mg, .inl (G.2.1, 21, .inl (tilN (sHG n (mWE s0) (mHA s0) (mSE s0)) hg (n + 1)))), (mq, .inl (G.2.1, 21, .inl (tilN (jPP n (sHT (mST s0)) (mWE s0) (mHA s0) (mPR s0) (mSE s0)) pq (n + 1)))), (ml, .inl (G.2.1, 21, .inl LD)), (mf, .inl (G.2.1, 20, .inl (tilN (sFO (cAH n (mST s0) (mWE s0) (mHA s0) (mPR s0) (mSE s0)) LD (mST s0) (mSE s0)) fo i)))]) [0, 1, 2, 3, 4, 5, 6, 7, 8, 9] rfl (by decide) [] rfl (by decide) hP hD hS hA (k_S (n := 1) (As := [.int (sLF (cAH n (mST s0) (mWE s0) (mHA s0) (mPR s0) (mSE s0)) LD (i + 1))]) (rest := [.int (nI i), .ref mf]) (wc := []) hx hb hml hown hts hK hP hD hl (c_X6_size l G (sLF (cAH n (mST s0) (mWE s0) (mHA s0) (mPR s0) (mSE s0)) LD (i + 1)) H.size) [] rfl (by decide) gX6_lay_X6_size rfl rfl rfl (by decide +kernel) rfl ⟨Nat.le_of_ble_eq_true rfl, Nat.le_of_ble_eq_true rfl⟩ rfl (Nat.le_of_ble_eq_true rfl) dX6_lay_140 ⟨Nat.le_of_ble_eq_true rfl, Nat.le_of_ble_eq_true rfl⟩) (fun r_140 u H locs hw hP hD hS => ?_)
              have hw_140 : r_140 = ab (sLF (cAH n (mST s0) (mWE s0) (mHA s0) (mPR s0) (mSE s0)) LD (i + 1)) := hw
              have hP : va_P G.1 vwCl [(m0, .inr (6, [.int (nI (th)), .ref ms, .ref mv, .int (nI (sm)), .ref mt, .int (nI (ln)), .ref mh, .ref mb, .ref mg, .ref mq, .ref ml, .ref mf, .int (cAH n (mST s0) (mWE s0) (mHA s0) (mPR s0) (mSE s0)), .int (cBE n (mST s0) (mWE s0) (mHA s0) (mPR s0) (mSE s0)), .int (nI (tp)), .int (bI (wr)), .long dg])), (ms, .inl (G.2.1, 88, .inl s0)), (mv, .inl (G.2.1, 528, .inl sv)), (mt, .inl (G.2.1, 60, .inl tx)), (mh, .inl (G.2.1, 21, .inl (tilN (sHT (mST s0)) ht (n + 1)))), (mb, .inl (G.2.1, 21, .inl (tilN (sBU n (mWE s0) (mSE s0)) bu (n + 1)))), (mg, .inl (G.2.1, 21, .inl (tilN (sHG n (mWE s0) (mHA s0) (mSE s0)) hg (n + 1)))), (mq, .inl (G.2.1, 21, .inl (tilN (jPP n (sHT (mST s0)) (mWE s0) (mHA s0) (mPR s0) (mSE s0)) pq (n + 1)))), (ml, .inl (G.2.1, 21, .inl LD)), (mf, .inl (G.2.1, 20, .inl (tilN (sFO (cAH n (mST s0) (mWE s0) (mHA s0) (mPR s0) (mSE s0)) LD (mST s0) (mSE s0)) fo i)))] H := hP
              have hD : va_D A [(m0, .inr (6, [.int (nI (th)), .ref ms, .ref mv, .int (nI (sm)), .ref mt, .int (nI (ln)), .ref mh, .ref mb, .ref mg, .ref mq, .ref ml, .ref mf, .int (cAH n (mST s0) (mWE s0) (mHA s0) (mPR s0) (mSE s0)), .int (cBE n (mST s0) (mWE s0) (mHA s0) (mPR s0) (mSE s0)), .int (nI (tp)), .int (bI (wr)), .long dg])), (ms, .inl (G.2.1, 88, .inl s0)), (mv, .inl (G.2.1, 528, .inl sv)), (mt, .inl (G.2.1, 60, .inl tx)), (mh, .inl (G.2.1, 21, .inl (tilN (sHT (mST s0)) ht (n + 1)))), (mb, .inl (G.2.1, 21, .inl (tilN (sBU n (mWE s0) (mSE s0)) bu (n + 1)))), (mg, .inl (G.2.1, 21, .inl (tilN (sHG n (mWE s0) (mHA s0) (mSE s0)) hg (n + 1)))), (mq, .inl (G.2.1, 21, .inl (tilN (jPP n (sHT (mST s0)) (mWE s0) (mHA s0) (mPR s0) (mSE s0)) pq (n + 1)))), (ml, .inl (G.2.1, 21, .inl LD)), (mf, .inl (G.2.1, 20, .inl (tilN (sFO (cAH n (mST s0) (mWE s0) (mHA s0) (mPR s0) (mSE s0)) LD (mST s0) (mSE s0)) fo i)))] := hD
              subst hw_140
              refine lv_aload_n hx hb dX6_lay_143 rfl (lv_at hl 3 rfl) ?_
              refine va_get (D := G.1) (ci := 6) (v := .ref ms) (C := RX6) (T := TX6) (N := 17) hx hb hts hinX6 hown hK hP 0 rfl rfl 1 (by decide) hf7 (fun _ h9 => h9) rfl dX6_lay_144 ?_
              refine lv_iconst (v := 3) hx hb dX6_lay_147 (by decide) ?_
              refine g_iald (k := 3) hx hb hK hP 1 rfl (by omega) (by omega) dX6_lay_148 ?_
              refine lv_aload_n hx hb dX6_lay_149 rfl (lv_at hl 3 rfl) ?_
              refine va_get (D := G.1) (ci := 6) (v := .ref ms) (C := RX6) (T := TX6) (N := 17) hx hb hts hinX6 hown hK hP 0 rfl rfl 1 (by decide) hf7 (fun _ h9 => h9) rfl dX6_lay_150 ?_
              refine lv_iconst (v := 5) hx hb dX6_lay_153 (by decide) ?_
              refine lv_iload_n hx hb dX6_lay_154 rfl (lv_at hl 1 rfl) ?_
              refine lv_iadd hx hb dX6_lay_155 ?_
              refine g_ti (y := nI (5 + i)) (nI_add (5) (i)) ?_
              refine g_iald (k := 5 + i) hx hb hK hP 1 rfl (by omega) (by omega) dX6_lay_156 ?_
              refine k_ci (wr := [(m0, .inr (6, [.int (nI (th)), .ref ms, .ref mv, .int (nI (sm)), .ref mt, .int (nI (ln)), .ref mh, .ref mb, .ref mg, .ref mq, .ref ml, .ref mf, .int (cAH n (mST s0) (mWE s0) (mHA s0) (mPR s0) (mSE s0)), .int (cBE n (mST s0) (mWE s0) (mHA s0) (mPR s0) (mSE s0)), .int (nI (tp)), .int (bI (wr)), .long dg])), (ms, .inl (G.2.1, 88, .inl s0)), (mv, .inl (G.2.1, 528, .inl sv)), (mt, .inl (G.2.1, 60, .inl tx)), (mh, .inl (G.2.1, 21, .inl (tilN (sHT (mST s0)) ht (n + 1)))), (mb, .inl (G.2.1, 21, .inl (tilN (sBU n (mWE s0) (mSE s0)) bu (n + 1)))), (mg, .inl (G.2.1, 21, .inl (tilN (sHG n (mWE s0) (mHA s0) (mSE s0)) hg (n + 1)))), (mq, .inl (G.2.1, 21, .inl (tilN (jPP n (sHT (mST s0)) (mWE s0) (mHA s0) (mPR s0) (mSE s0)) pq (n + 1)))), (ml, .inl (G.2.1, 21, .inl LD)), (mf, .inl (G.2.1, 20, .inl (tilN (sFO (cAH n (mST s0) (mWE s0) (mHA s0) (mPR s0) (mSE s0)) LD (mST s0) (mSE s0)) fo i)))]) [0, 1, 2, 3, 4, 5, 6, 7, 8, 9] rfl (by decide) [] rfl (by decide) hP hD hS hA (k_S (n := 1) (As := [.int (s0 (5 + i))]) (rest := [.int (s0 3), .int (ab (sLF (cAH n (mST s0) (mWE s0) (mHA s0) (mPR s0) (mSE s0)) LD (i + 1))), .int (nI i), .ref mf]) (wc := []) hx hb hml hown hts hK hP hD hl (c_X6_size l G (s0 (5 + i)) H.size) [] rfl (by decide) gX6_lay_X6_size rfl rfl rfl (by decide +kernel) rfl ⟨Nat.le_of_ble_eq_true rfl, Nat.le_of_ble_eq_true rfl⟩ rfl (Nat.le_of_ble_eq_true rfl) dX6_lay_157 ⟨Nat.le_of_ble_eq_true rfl, Nat.le_of_ble_eq_true rfl⟩) (fun r_157 u H locs hw hP hD hS => ?_)
              have hw_157 : r_157 = ab (s0 (5 + i)) := hw
              have hP : va_P G.1 vwCl [(m0, .inr (6, [.int (nI (th)), .ref ms, .ref mv, .int (nI (sm)), .ref mt, .int (nI (ln)), .ref mh, .ref mb, .ref mg, .ref mq, .ref ml, .ref mf, .int (cAH n (mST s0) (mWE s0) (mHA s0) (mPR s0) (mSE s0)), .int (cBE n (mST s0) (mWE s0) (mHA s0) (mPR s0) (mSE s0)), .int (nI (tp)), .int (bI (wr)), .long dg])), (ms, .inl (G.2.1, 88, .inl s0)), (mv, .inl (G.2.1, 528, .inl sv)), (mt, .inl (G.2.1, 60, .inl tx)), (mh, .inl (G.2.1, 21, .inl (tilN (sHT (mST s0)) ht (n + 1)))), (mb, .inl (G.2.1, 21, .inl (tilN (sBU n (mWE s0) (mSE s0)) bu (n + 1)))), (mg, .inl (G.2.1, 21, .inl (tilN (sHG n (mWE s0) (mHA s0) (mSE s0)) hg (n + 1)))), (mq, .inl (G.2.1, 21, .inl (tilN (jPP n (sHT (mST s0)) (mWE s0) (mHA s0) (mPR s0) (mSE s0)) pq (n + 1)))), (ml, .inl (G.2.1, 21, .inl LD)), (mf, .inl (G.2.1, 20, .inl (tilN (sFO (cAH n (mST s0) (mWE s0) (mHA s0) (mPR s0) (mSE s0)) LD (mST s0) (mSE s0)) fo i)))] H := hP
              have hD : va_D A [(m0, .inr (6, [.int (nI (th)), .ref ms, .ref mv, .int (nI (sm)), .ref mt, .int (nI (ln)), .ref mh, .ref mb, .ref mg, .ref mq, .ref ml, .ref mf, .int (cAH n (mST s0) (mWE s0) (mHA s0) (mPR s0) (mSE s0)), .int (cBE n (mST s0) (mWE s0) (mHA s0) (mPR s0) (mSE s0)), .int (nI (tp)), .int (bI (wr)), .long dg])), (ms, .inl (G.2.1, 88, .inl s0)), (mv, .inl (G.2.1, 528, .inl sv)), (mt, .inl (G.2.1, 60, .inl tx)), (mh, .inl (G.2.1, 21, .inl (tilN (sHT (mST s0)) ht (n + 1)))), (mb, .inl (G.2.1, 21, .inl (tilN (sBU n (mWE s0) (mSE s0)) bu (n + 1)))), (mg, .inl (G.2.1, 21, .inl (tilN (sHG n (mWE s0) (mHA s0) (mSE s0)) hg (n + 1)))), (mq, .inl (G.2.1, 21, .inl (tilN (jPP n (sHT (mST s0)) (mWE s0) (mHA s0) (mPR s0) (mSE s0)) pq (n + 1)))), (ml, .inl (G.2.1, 21, .inl LD)), (mf, .inl (G.2.1, 20, .inl (tilN (sFO (cAH n (mST s0) (mWE s0) (mHA s0) (mPR s0) (mSE s0)) LD (mST s0) (mSE s0)) fo i)))] := hD
              subst hw_157
              refine lv_imul hx hb dX6_lay_160 ?_
              refine lv_iadd hx hb dX6_lay_161 ?_
              refine g_ti (y := sFO (cAH n (mST s0) (mWE s0) (mHA s0) (mPR s0) (mSE s0)) LD (mST s0) (mSE s0) i) (by unfold sFO; rw [Int32.mul_comm]; rfl) ?_
              refine g_iast (k := i) hx hb hK hP hD hS 9 rfl (by omega) (by omega) dX6_lay_162 (fun H locs hP hD hS => ?_)
              have hP : va_P G.1 vwCl [(m0, .inr (6, [.int (nI (th)), .ref ms, .ref mv, .int (nI (sm)), .ref mt, .int (nI (ln)), .ref mh, .ref mb, .ref mg, .ref mq, .ref ml, .ref mf, .int (cAH n (mST s0) (mWE s0) (mHA s0) (mPR s0) (mSE s0)), .int (cBE n (mST s0) (mWE s0) (mHA s0) (mPR s0) (mSE s0)), .int (nI (tp)), .int (bI (wr)), .long dg])), (ms, .inl (G.2.1, 88, .inl s0)), (mv, .inl (G.2.1, 528, .inl sv)), (mt, .inl (G.2.1, 60, .inl tx)), (mh, .inl (G.2.1, 21, .inl (tilN (sHT (mST s0)) ht (n + 1)))), (mb, .inl (G.2.1, 21, .inl (tilN (sBU n (mWE s0) (mSE s0)) bu (n + 1)))), (mg, .inl (G.2.1, 21, .inl (tilN (sHG n (mWE s0) (mHA s0) (mSE s0)) hg (n + 1)))), (mq, .inl (G.2.1, 21, .inl (tilN (jPP n (sHT (mST s0)) (mWE s0) (mHA s0) (mPR s0) (mSE s0)) pq (n + 1)))), (ml, .inl (G.2.1, 21, .inl LD)), (mf, .inl (G.2.1, 20, .inl (upd (tilN (sFO (cAH n (mST s0) (mWE s0) (mHA s0) (mPR s0) (mSE s0)) LD (mST s0) (mSE s0)) fo i) i (sFO (cAH n (mST s0) (mWE s0) (mHA s0) (mPR s0) (mSE s0)) LD (mST s0) (mSE s0) i))))] H := hP
              have hD : va_D A [(m0, .inr (6, [.int (nI (th)), .ref ms, .ref mv, .int (nI (sm)), .ref mt, .int (nI (ln)), .ref mh, .ref mb, .ref mg, .ref mq, .ref ml, .ref mf, .int (cAH n (mST s0) (mWE s0) (mHA s0) (mPR s0) (mSE s0)), .int (cBE n (mST s0) (mWE s0) (mHA s0) (mPR s0) (mSE s0)), .int (nI (tp)), .int (bI (wr)), .long dg])), (ms, .inl (G.2.1, 88, .inl s0)), (mv, .inl (G.2.1, 528, .inl sv)), (mt, .inl (G.2.1, 60, .inl tx)), (mh, .inl (G.2.1, 21, .inl (tilN (sHT (mST s0)) ht (n + 1)))), (mb, .inl (G.2.1, 21, .inl (tilN (sBU n (mWE s0) (mSE s0)) bu (n + 1)))), (mg, .inl (G.2.1, 21, .inl (tilN (sHG n (mWE s0) (mHA s0) (mSE s0)) hg (n + 1)))), (mq, .inl (G.2.1, 21, .inl (tilN (jPP n (sHT (mST s0)) (mWE s0) (mHA s0) (mPR s0) (mSE s0)) pq (n + 1)))), (ml, .inl (G.2.1, 21, .inl LD)), (mf, .inl (G.2.1, 20, .inl (upd (tilN (sFO (cAH n (mST s0) (mWE s0) (mHA s0) (mPR s0) (mSE s0)) LD (mST s0) (mSE s0)) fo i) i (sFO (cAH n (mST s0) (mWE s0) (mHA s0) (mPR s0) (mSE s0)) LD (mST s0) (mSE s0) i))))] := hD
              refine lv_iinc (v := nI (i + 1)) (lv' := [(3, .int (nI (i + 1))), (2, .int (sLF (cAH n (mST s0) (mWE s0) (mHA s0) (mPR s0) (mSE s0)) LD (i + 1))), (1, .int (nI n)), (0, .ref m0)]) hx hb dX6_lay_163 hl (k := 1) rfl (nI_add (i) 1) (by decide) rfl (fun ls hl => ?_)
              refine lv_goto (tgt := 120) hx hb dX6_lay_166 (by decide) ?_
              have hfx_4 : (upd (tilN (sFO (cAH n (mST s0) (mWE s0) (mHA s0) (mPR s0) (mSE s0)) LD (mST s0) (mSE s0)) fo i) i (sFO (cAH n (mST s0) (mWE s0) (mHA s0) (mPR s0) (mSE s0)) LD (mST s0) (mSE s0) i) : Nat → Int32) = tilN (sFO (cAH n (mST s0) (mWE s0) (mHA s0) (mPR s0) (mSE s0)) LD (mST s0) (mSE s0)) fo (i + 1) := tilN_S _ _ _
              have hP : va_P G.1 vwCl [(m0, .inr (6, [.int (nI (th)), .ref ms, .ref mv, .int (nI (sm)), .ref mt, .int (nI (ln)), .ref mh, .ref mb, .ref mg, .ref mq, .ref ml, .ref mf, .int (cAH n (mST s0) (mWE s0) (mHA s0) (mPR s0) (mSE s0)), .int (cBE n (mST s0) (mWE s0) (mHA s0) (mPR s0) (mSE s0)), .int (nI (tp)), .int (bI (wr)), .long dg])), (ms, .inl (G.2.1, 88, .inl s0)), (mv, .inl (G.2.1, 528, .inl sv)), (mt, .inl (G.2.1, 60, .inl tx)), (mh, .inl (G.2.1, 21, .inl (tilN (sHT (mST s0)) ht (n + 1)))), (mb, .inl (G.2.1, 21, .inl (tilN (sBU n (mWE s0) (mSE s0)) bu (n + 1)))), (mg, .inl (G.2.1, 21, .inl (tilN (sHG n (mWE s0) (mHA s0) (mSE s0)) hg (n + 1)))), (mq, .inl (G.2.1, 21, .inl (tilN (jPP n (sHT (mST s0)) (mWE s0) (mHA s0) (mPR s0) (mSE s0)) pq (n + 1)))), (ml, .inl (G.2.1, 21, .inl LD)), (mf, .inl (G.2.1, 20, .inl (tilN (sFO (cAH n (mST s0) (mWE s0) (mHA s0) (mPR s0) (mSE s0)) LD (mST s0) (mSE s0)) fo (i + 1))))] H := by rw [← hfx_4]; exact hP
              have hD : va_D A [(m0, .inr (6, [.int (nI (th)), .ref ms, .ref mv, .int (nI (sm)), .ref mt, .int (nI (ln)), .ref mh, .ref mb, .ref mg, .ref mq, .ref ml, .ref mf, .int (cAH n (mST s0) (mWE s0) (mHA s0) (mPR s0) (mSE s0)), .int (cBE n (mST s0) (mWE s0) (mHA s0) (mPR s0) (mSE s0)), .int (nI (tp)), .int (bI (wr)), .long dg])), (ms, .inl (G.2.1, 88, .inl s0)), (mv, .inl (G.2.1, 528, .inl sv)), (mt, .inl (G.2.1, 60, .inl tx)), (mh, .inl (G.2.1, 21, .inl (tilN (sHT (mST s0)) ht (n + 1)))), (mb, .inl (G.2.1, 21, .inl (tilN (sBU n (mWE s0) (mSE s0)) bu (n + 1)))), (mg, .inl (G.2.1, 21, .inl (tilN (sHG n (mWE s0) (mHA s0) (mSE s0)) hg (n + 1)))), (mq, .inl (G.2.1, 21, .inl (tilN (jPP n (sHT (mST s0)) (mWE s0) (mHA s0) (mPR s0) (mSE s0)) pq (n + 1)))), (ml, .inl (G.2.1, 21, .inl LD)), (mf, .inl (G.2.1, 20, .inl (tilN (sFO (cAH n (mST s0) (mWE s0) (mHA s0) (mPR s0) (mSE s0)) LD (mST s0) (mSE s0)) fo (i + 1))))] := by rw [← hfx_4]; exact hD
              exact ih120 (i + 1) (by first | assumption | omega) (by omega) _ _ _ hP hD hS (lv_sub hl [0, 1, 2, 3] rfl)
        have hfx_5 : (fo : Nat → Int32) = tilN (sFO (cAH n (mST s0) (mWE s0) (mHA s0) (mPR s0) (mSE s0)) LD (mST s0) (mSE s0)) fo 0 := (tilN_0 _ _).symm
        have hP : va_P G.1 vwCl [(m0, .inr (6, [.int (nI (th)), .ref ms, .ref mv, .int (nI (sm)), .ref mt, .int (nI (ln)), .ref mh, .ref mb, .ref mg, .ref mq, .ref ml, .ref mf, .int (cAH n (mST s0) (mWE s0) (mHA s0) (mPR s0) (mSE s0)), .int (cBE n (mST s0) (mWE s0) (mHA s0) (mPR s0) (mSE s0)), .int (nI (tp)), .int (bI (wr)), .long dg])), (ms, .inl (G.2.1, 88, .inl s0)), (mv, .inl (G.2.1, 528, .inl sv)), (mt, .inl (G.2.1, 60, .inl tx)), (mh, .inl (G.2.1, 21, .inl (tilN (sHT (mST s0)) ht (n + 1)))), (mb, .inl (G.2.1, 21, .inl (tilN (sBU n (mWE s0) (mSE s0)) bu (n + 1)))), (mg, .inl (G.2.1, 21, .inl (tilN (sHG n (mWE s0) (mHA s0) (mSE s0)) hg (n + 1)))), (mq, .inl (G.2.1, 21, .inl (tilN (jPP n (sHT (mST s0)) (mWE s0) (mHA s0) (mPR s0) (mSE s0)) pq (n + 1)))), (ml, .inl (G.2.1, 21, .inl LD)), (mf, .inl (G.2.1, 20, .inl (tilN (sFO (cAH n (mST s0) (mWE s0) (mHA s0) (mPR s0) (mSE s0)) LD (mST s0) (mSE s0)) fo 0)))] H := by rw [← hfx_5]; exact hP
        have hD : va_D A [(m0, .inr (6, [.int (nI (th)), .ref ms, .ref mv, .int (nI (sm)), .ref mt, .int (nI (ln)), .ref mh, .ref mb, .ref mg, .ref mq, .ref ml, .ref mf, .int (cAH n (mST s0) (mWE s0) (mHA s0) (mPR s0) (mSE s0)), .int (cBE n (mST s0) (mWE s0) (mHA s0) (mPR s0) (mSE s0)), .int (nI (tp)), .int (bI (wr)), .long dg])), (ms, .inl (G.2.1, 88, .inl s0)), (mv, .inl (G.2.1, 528, .inl sv)), (mt, .inl (G.2.1, 60, .inl tx)), (mh, .inl (G.2.1, 21, .inl (tilN (sHT (mST s0)) ht (n + 1)))), (mb, .inl (G.2.1, 21, .inl (tilN (sBU n (mWE s0) (mSE s0)) bu (n + 1)))), (mg, .inl (G.2.1, 21, .inl (tilN (sHG n (mWE s0) (mHA s0) (mSE s0)) hg (n + 1)))), (mq, .inl (G.2.1, 21, .inl (tilN (jPP n (sHT (mST s0)) (mWE s0) (mHA s0) (mPR s0) (mSE s0)) pq (n + 1)))), (ml, .inl (G.2.1, 21, .inl LD)), (mf, .inl (G.2.1, 20, .inl (tilN (sFO (cAH n (mST s0) (mWE s0) (mHA s0) (mPR s0) (mSE s0)) LD (mST s0) (mSE s0)) fo 0)))] := by rw [← hfx_5]; exact hD
        exact L120 (n - 0 + 1) 0 (by first | assumption | omega) (Nat.lt_succ_self _) _ _ _ hP hD hS (lv_sub hl [0, 1, 2, 3] rfl)
      · skip
        refine lv_aload_n hx hb dX6_lay_24 rfl (lv_at hl 2 rfl) ?_
        refine va_get (D := G.1) (ci := 6) (v := .ref mh) (C := RX6) (T := TX6) (N := 17) hx hb hts hinX6 hown hK hP 0 rfl rfl 6 (by decide) hf19 (fun _ h9 => h9) rfl dX6_lay_25 ?_
        refine lv_iload_n hx hb dX6_lay_28 rfl (lv_at hl 0 rfl) ?_
        refine lv_iload_n hx hb dX6_lay_29 rfl (lv_at hl 0 rfl) ?_
        have L56 : ∀ (x : Int32), (x = sHT (mST s0) i) → ∀ (H : Heap) (locs : List Loc) (ls : Array Slot), va_P G.1 vwCl [(m0, .inr (6, [.int (nI (th)), .ref ms, .ref mv, .int (nI (sm)), .ref mt, .int (nI (ln)), .ref mh, .ref mb, .ref mg, .ref mq, .ref ml, .ref mf, .int (mAH (cLD n (mST s0) (mWE s0) (mHA s0) (mPR s0) (mSE s0)) n i), .int (mBE (cLD n (mST s0) (mWE s0) (mHA s0) (mPR s0) (mSE s0)) n i), .int (nI (tp)), .int (bI (wr)), .long dg])), (ms, .inl (G.2.1, 88, .inl s0)), (mv, .inl (G.2.1, 528, .inl sv)), (mt, .inl (G.2.1, 60, .inl tx)), (mh, .inl (G.2.1, 21, .inl (tilN (sHT (mST s0)) ht i))), (mb, .inl (G.2.1, 21, .inl (tilN (sBU n (mWE s0) (mSE s0)) bu i))), (mg, .inl (G.2.1, 21, .inl (tilN (sHG n (mWE s0) (mHA s0) (mSE s0)) hg i))), (mq, .inl (G.2.1, 21, .inl (tilN (jPP n (sHT (mST s0)) (mWE s0) (mHA s0) (mPR s0) (mSE s0)) pq i))), (ml, .inl (G.2.1, 21, .inl (tilN (cLD n (mST s0) (mWE s0) (mHA s0) (mPR s0) (mSE s0)) ld i))), (mf, .inl (G.2.1, 20, .inl fo))] H → va_D A [(m0, .inr (6, [.int (nI (th)), .ref ms, .ref mv, .int (nI (sm)), .ref mt, .int (nI (ln)), .ref mh, .ref mb, .ref mg, .ref mq, .ref ml, .ref mf, .int (mAH (cLD n (mST s0) (mWE s0) (mHA s0) (mPR s0) (mSE s0)) n i), .int (mBE (cLD n (mST s0) (mWE s0) (mHA s0) (mPR s0) (mSE s0)) n i), .int (nI (tp)), .int (bI (wr)), .long dg])), (ms, .inl (G.2.1, 88, .inl s0)), (mv, .inl (G.2.1, 528, .inl sv)), (mt, .inl (G.2.1, 60, .inl tx)), (mh, .inl (G.2.1, 21, .inl (tilN (sHT (mST s0)) ht i))), (mb, .inl (G.2.1, 21, .inl (tilN (sBU n (mWE s0) (mSE s0)) bu i))), (mg, .inl (G.2.1, 21, .inl (tilN (sHG n (mWE s0) (mHA s0) (mSE s0)) hg i))), (mq, .inl (G.2.1, 21, .inl (tilN (jPP n (sHT (mST s0)) (mWE s0) (mHA s0) (mPR s0) (mSE s0)) pq i))), (ml, .inl (G.2.1, 21, .inl (tilN (cLD n (mST s0) (mWE s0) (mHA s0) (mPR s0) (mSE s0)) ld i))), (mf, .inl (G.2.1, 20, .inl fo))] → va_S A s.heap H locs → lv_has ls 4 [(2, .int (nI i)), (1, .int (nI n)), (0, .ref m0)] → W p l e ({ frames := 1, cells := 0, slots := 0, locals := 23 } : Room) s m args below meth c H locs 0 0 Q (F0 m 56 ls [.int x, .int (nI i), .ref mh]) := by
          intro x ex H locs ls hP hD hS hl
          subst ex
          refine g_iast (k := i) hx hb hK hP hD hS 4 rfl (by omega) (by omega) dX6_lay_56 (fun H locs hP hD hS => ?_)
          have hP : va_P G.1 vwCl [(m0, .inr (6, [.int (nI (th)), .ref ms, .ref mv, .int (nI (sm)), .ref mt, .int (nI (ln)), .ref mh, .ref mb, .ref mg, .ref mq, .ref ml, .ref mf, .int (mAH (cLD n (mST s0) (mWE s0) (mHA s0) (mPR s0) (mSE s0)) n i), .int (mBE (cLD n (mST s0) (mWE s0) (mHA s0) (mPR s0) (mSE s0)) n i), .int (nI (tp)), .int (bI (wr)), .long dg])), (ms, .inl (G.2.1, 88, .inl s0)), (mv, .inl (G.2.1, 528, .inl sv)), (mt, .inl (G.2.1, 60, .inl tx)), (mh, .inl (G.2.1, 21, .inl (upd (tilN (sHT (mST s0)) ht i) i (sHT (mST s0) i)))), (mb, .inl (G.2.1, 21, .inl (tilN (sBU n (mWE s0) (mSE s0)) bu i))), (mg, .inl (G.2.1, 21, .inl (tilN (sHG n (mWE s0) (mHA s0) (mSE s0)) hg i))), (mq, .inl (G.2.1, 21, .inl (tilN (jPP n (sHT (mST s0)) (mWE s0) (mHA s0) (mPR s0) (mSE s0)) pq i))), (ml, .inl (G.2.1, 21, .inl (tilN (cLD n (mST s0) (mWE s0) (mHA s0) (mPR s0) (mSE s0)) ld i))), (mf, .inl (G.2.1, 20, .inl fo))] H := hP
          have hD : va_D A [(m0, .inr (6, [.int (nI (th)), .ref ms, .ref mv, .int (nI (sm)), .ref mt, .int (nI (ln)), .ref mh, .ref mb, .ref mg, .ref mq, .ref ml, .ref mf, .int (mAH (cLD n (mST s0) (mWE s0) (mHA s0) (mPR s0) (mSE s0)) n i), .int (mBE (cLD n (mST s0) (mWE s0) (mHA s0) (mPR s0) (mSE s0)) n i), .int (nI (tp)), .int (bI (wr)), .long dg])), (ms, .inl (G.2.1, 88, .inl s0)), (mv, .inl (G.2.1, 528, .inl sv)), (mt, .inl (G.2.1, 60, .inl tx)), (mh, .inl (G.2.1, 21, .inl (upd (tilN (sHT (mST s0)) ht i) i (sHT (mST s0) i)))), (mb, .inl (G.2.1, 21, .inl (tilN (sBU n (mWE s0) (mSE s0)) bu i))), (mg, .inl (G.2.1, 21, .inl (tilN (sHG n (mWE s0) (mHA s0) (mSE s0)) hg i))), (mq, .inl (G.2.1, 21, .inl (tilN (jPP n (sHT (mST s0)) (mWE s0) (mHA s0) (mPR s0) (mSE s0)) pq i))), (ml, .inl (G.2.1, 21, .inl (tilN (cLD n (mST s0) (mWE s0) (mHA s0) (mPR s0) (mSE s0)) ld i))), (mf, .inl (G.2.1, 20, .inl fo))] := hD
          have hfn_6 : (upd (tilN (sHT (mST s0)) ht i) i (sHT (mST s0) i) : Nat → Int32) = tilN (sHT (mST s0)) ht (i + 1) := tilN_S _ _ _
          have hP : va_P G.1 vwCl [(m0, .inr (6, [.int (nI (th)), .ref ms, .ref mv, .int (nI (sm)), .ref mt, .int (nI (ln)), .ref mh, .ref mb, .ref mg, .ref mq, .ref ml, .ref mf, .int (mAH (cLD n (mST s0) (mWE s0) (mHA s0) (mPR s0) (mSE s0)) n i), .int (mBE (cLD n (mST s0) (mWE s0) (mHA s0) (mPR s0) (mSE s0)) n i), .int (nI (tp)), .int (bI (wr)), .long dg])), (ms, .inl (G.2.1, 88, .inl s0)), (mv, .inl (G.2.1, 528, .inl sv)), (mt, .inl (G.2.1, 60, .inl tx)), (mh, .inl (G.2.1, 21, .inl (tilN (sHT (mST s0)) ht (i + 1)))), (mb, .inl (G.2.1, 21, .inl (tilN (sBU n (mWE s0) (mSE s0)) bu i))), (mg, .inl (G.2.1, 21, .inl (tilN (sHG n (mWE s0) (mHA s0) (mSE s0)) hg i))), (mq, .inl (G.2.1, 21, .inl (tilN (jPP n (sHT (mST s0)) (mWE s0) (mHA s0) (mPR s0) (mSE s0)) pq i))), (ml, .inl (G.2.1, 21, .inl (tilN (cLD n (mST s0) (mWE s0) (mHA s0) (mPR s0) (mSE s0)) ld i))), (mf, .inl (G.2.1, 20, .inl fo))] H := by rw [← hfn_6]; exact hP
          have hD : va_D A [(m0, .inr (6, [.int (nI (th)), .ref ms, .ref mv, .int (nI (sm)), .ref mt, .int (nI (ln)), .ref mh, .ref mb, .ref mg, .ref mq, .ref ml, .ref mf, .int (mAH (cLD n (mST s0) (mWE s0) (mHA s0) (mPR s0) (mSE s0)) n i), .int (mBE (cLD n (mST s0) (mWE s0) (mHA s0) (mPR s0) (mSE s0)) n i), .int (nI (tp)), .int (bI (wr)), .long dg])), (ms, .inl (G.2.1, 88, .inl s0)), (mv, .inl (G.2.1, 528, .inl sv)), (mt, .inl (G.2.1, 60, .inl tx)), (mh, .inl (G.2.1, 21, .inl (tilN (sHT (mST s0)) ht (i + 1)))), (mb, .inl (G.2.1, 21, .inl (tilN (sBU n (mWE s0) (mSE s0)) bu i))), (mg, .inl (G.2.1, 21, .inl (tilN (sHG n (mWE s0) (mHA s0) (mSE s0)) hg i))), (mq, .inl (G.2.1, 21, .inl (tilN (jPP n (sHT (mST s0)) (mWE s0) (mHA s0) (mPR s0) (mSE s0)) pq i))), (ml, .inl (G.2.1, 21, .inl (tilN (cLD n (mST s0) (mWE s0) (mHA s0) (mPR s0) (mSE s0)) ld i))), (mf, .inl (G.2.1, 20, .inl fo))] := by rw [← hfn_6]; exact hD
          refine lv_aload_n hx hb dX6_lay_57 rfl (lv_at hl 2 rfl) ?_
          refine lv_iload_n hx hb dX6_lay_58 rfl (lv_at hl 0 rfl) ?_
          refine k_cv (wr := []) [] rfl (by decide) [0, 1, 2, 3, 4, 5, 6, 7, 8, 9] rfl (by decide) hP hD hS hA (k_V (n := 1) (ci := 6) (As := [.int (nI i)]) (rest := []) (wc := [(m0, .inr (6, [.int (nI (th)), .ref ms, .ref mv, .int (nI (sm)), .ref mt, .int (nI (ln)), .ref mh, .ref mb, .ref mg, .ref mq, .ref ml, .ref mf, .int (mAH (cLD n (mST s0) (mWE s0) (mHA s0) (mPR s0) (mSE s0)) n i), .int (mBE (cLD n (mST s0) (mWE s0) (mHA s0) (mPR s0) (mSE s0)) n i), .int (nI (tp)), .int (bI (wr)), .long dg])), (ms, .inl (G.2.1, 88, .inl s0)), (mv, .inl (G.2.1, 528, .inl sv)), (mt, .inl (G.2.1, 60, .inl tx)), (mh, .inl (G.2.1, 21, .inl (tilN (sHT (mST s0)) ht (i + 1)))), (mb, .inl (G.2.1, 21, .inl (tilN (sBU n (mWE s0) (mSE s0)) bu i))), (mg, .inl (G.2.1, 21, .inl (tilN (sHG n (mWE s0) (mHA s0) (mSE s0)) hg i))), (mq, .inl (G.2.1, 21, .inl (tilN (jPP n (sHT (mST s0)) (mWE s0) (mHA s0) (mPR s0) (mSE s0)) pq i))), (ml, .inl (G.2.1, 21, .inl (tilN (cLD n (mST s0) (mWE s0) (mHA s0) (mPR s0) (mSE s0)) ld i))), (mf, .inl (G.2.1, 20, .inl fo))]) hx hb hml hown hts hK hP hD hl (c_X6_layJoint l G m0 ms mv mt mh mb mg mq ml mf th s0 sv sm tx ln (tilN (sHT (mST s0)) ht (i + 1)) (tilN (sBU n (mWE s0) (mSE s0)) bu i) (tilN (sHG n (mWE s0) (mHA s0) (mSE s0)) hg i) (tilN (jPP n (sHT (mST s0)) (mWE s0) (mHA s0) (mPR s0) (mSE s0)) pq i) (tilN (cLD n (mST s0) (mWE s0) (mHA s0) (mPR s0) (mSE s0)) ld i) fo (mAH (cLD n (mST s0) (mWE s0) (mHA s0) (mPR s0) (mSE s0)) n i) (mBE (cLD n (mST s0) (mWE s0) (mHA s0) (mPR s0) (mSE s0)) n i) tp wr dg i n H.size (by first | assumption | omega) (by first | assumption | omega) (by first | assumption | omega)) [0, 1, 2, 3, 4, 5, 6, 7, 8, 9] rfl (by decide) gX6_lay_X6_layJoint rfl rfl rfl (by decide +kernel) rfl ⟨Nat.le_of_ble_eq_true rfl, Nat.le_of_ble_eq_true rfl⟩ rfl rfl rfl (Nat.le_of_ble_eq_true rfl) dX6_lay_59 ⟨Nat.le_of_ble_eq_true rfl, Nat.le_of_ble_eq_true rfl⟩) (fun u H locs hw hP hD hS => ?_)
          have hw_59 : True := hw
          have hP : va_P G.1 vwCl [(m0, .inr (6, [.int (nI (th)), .ref ms, .ref mv, .int (nI (sm)), .ref mt, .int (nI (ln)), .ref mh, .ref mb, .ref mg, .ref mq, .ref ml, .ref mf, .int (mAH (cLD n (mST s0) (mWE s0) (mHA s0) (mPR s0) (mSE s0)) n i), .int (mBE (cLD n (mST s0) (mWE s0) (mHA s0) (mPR s0) (mSE s0)) n i), .int (nI (tp)), .int (bI (wr)), .long dg])), (ms, .inl (G.2.1, 88, .inl s0)), (mv, .inl (G.2.1, 528, .inl sv)), (mt, .inl (G.2.1, 60, .inl tx)), (mh, .inl (G.2.1, 21, .inl (tilN (sHT (mST s0)) ht (i + 1)))), (mb, .inl (G.2.1, 21, .inl (upd (tilN (sBU n (mWE s0) (mSE s0)) bu i) i (sBU n (mWE s0) (mSE s0) i)))), (mg, .inl (G.2.1, 21, .inl (upd (tilN (sHG n (mWE s0) (mHA s0) (mSE s0)) hg i) i (sHG n (mWE s0) (mHA s0) (mSE s0) i)))), (mq, .inl (G.2.1, 21, .inl (upd (tilN (jPP n (sHT (mST s0)) (mWE s0) (mHA s0) (mPR s0) (mSE s0)) pq i) i (jPP n (tilN (sHT (mST s0)) ht (i + 1)) (mWE s0) (mHA s0) (mPR s0) (mSE s0) i)))), (ml, .inl (G.2.1, 21, .inl (upd (tilN (cLD n (mST s0) (mWE s0) (mHA s0) (mPR s0) (mSE s0)) ld i) i (jLD n (tilN (sHT (mST s0)) ht (i + 1)) (mWE s0) (mHA s0) (mPR s0) (mSE s0) i)))), (mf, .inl (G.2.1, 20, .inl fo))] H := hP
          have hD : va_D A [(m0, .inr (6, [.int (nI (th)), .ref ms, .ref mv, .int (nI (sm)), .ref mt, .int (nI (ln)), .ref mh, .ref mb, .ref mg, .ref mq, .ref ml, .ref mf, .int (mAH (cLD n (mST s0) (mWE s0) (mHA s0) (mPR s0) (mSE s0)) n i), .int (mBE (cLD n (mST s0) (mWE s0) (mHA s0) (mPR s0) (mSE s0)) n i), .int (nI (tp)), .int (bI (wr)), .long dg])), (ms, .inl (G.2.1, 88, .inl s0)), (mv, .inl (G.2.1, 528, .inl sv)), (mt, .inl (G.2.1, 60, .inl tx)), (mh, .inl (G.2.1, 21, .inl (tilN (sHT (mST s0)) ht (i + 1)))), (mb, .inl (G.2.1, 21, .inl (upd (tilN (sBU n (mWE s0) (mSE s0)) bu i) i (sBU n (mWE s0) (mSE s0) i)))), (mg, .inl (G.2.1, 21, .inl (upd (tilN (sHG n (mWE s0) (mHA s0) (mSE s0)) hg i) i (sHG n (mWE s0) (mHA s0) (mSE s0) i)))), (mq, .inl (G.2.1, 21, .inl (upd (tilN (jPP n (sHT (mST s0)) (mWE s0) (mHA s0) (mPR s0) (mSE s0)) pq i) i (jPP n (tilN (sHT (mST s0)) ht (i + 1)) (mWE s0) (mHA s0) (mPR s0) (mSE s0) i)))), (ml, .inl (G.2.1, 21, .inl (upd (tilN (cLD n (mST s0) (mWE s0) (mHA s0) (mPR s0) (mSE s0)) ld i) i (jLD n (tilN (sHT (mST s0)) ht (i + 1)) (mWE s0) (mHA s0) (mPR s0) (mSE s0) i)))), (mf, .inl (G.2.1, 20, .inl fo))] := hD
          have hfx_7 : (upd (tilN (sBU n (mWE s0) (mSE s0)) bu i) i (sBU n (mWE s0) (mSE s0) i) : Nat → Int32) = tilN (sBU n (mWE s0) (mSE s0)) bu (i + 1) := tilN_S _ _ _
          have hP : va_P G.1 vwCl [(m0, .inr (6, [.int (nI (th)), .ref ms, .ref mv, .int (nI (sm)), .ref mt, .int (nI (ln)), .ref mh, .ref mb, .ref mg, .ref mq, .ref ml, .ref mf, .int (mAH (cLD n (mST s0) (mWE s0) (mHA s0) (mPR s0) (mSE s0)) n i), .int (mBE (cLD n (mST s0) (mWE s0) (mHA s0) (mPR s0) (mSE s0)) n i), .int (nI (tp)), .int (bI (wr)), .long dg])), (ms, .inl (G.2.1, 88, .inl s0)), (mv, .inl (G.2.1, 528, .inl sv)), (mt, .inl (G.2.1, 60, .inl tx)), (mh, .inl (G.2.1, 21, .inl (tilN (sHT (mST s0)) ht (i + 1)))), (mb, .inl (G.2.1, 21, .inl (tilN (sBU n (mWE s0) (mSE s0)) bu (i + 1)))), (mg, .inl (G.2.1, 21, .inl (upd (tilN (sHG n (mWE s0) (mHA s0) (mSE s0)) hg i) i (sHG n (mWE s0) (mHA s0) (mSE s0) i)))), (mq, .inl (G.2.1, 21, .inl (upd (tilN (jPP n (sHT (mST s0)) (mWE s0) (mHA s0) (mPR s0) (mSE s0)) pq i) i (jPP n (tilN (sHT (mST s0)) ht (i + 1)) (mWE s0) (mHA s0) (mPR s0) (mSE s0) i)))), (ml, .inl (G.2.1, 21, .inl (upd (tilN (cLD n (mST s0) (mWE s0) (mHA s0) (mPR s0) (mSE s0)) ld i) i (jLD n (tilN (sHT (mST s0)) ht (i + 1)) (mWE s0) (mHA s0) (mPR s0) (mSE s0) i)))), (mf, .inl (G.2.1, 20, .inl fo))] H := by rw [← hfx_7]; exact hP
          have hD : va_D A [(m0, .inr (6, [.int (nI (th)), .ref ms, .ref mv, .int (nI (sm)), .ref mt, .int (nI (ln)), .ref mh, .ref mb, .ref mg, .ref mq, .ref ml, .ref mf, .int (mAH (cLD n (mST s0) (mWE s0) (mHA s0) (mPR s0) (mSE s0)) n i), .int (mBE (cLD n (mST s0) (mWE s0) (mHA s0) (mPR s0) (mSE s0)) n i), .int (nI (tp)), .int (bI (wr)), .long dg])), (ms, .inl (G.2.1, 88, .inl s0)), (mv, .inl (G.2.1, 528, .inl sv)), (mt, .inl (G.2.1, 60, .inl tx)), (mh, .inl (G.2.1, 21, .inl (tilN (sHT (mST s0)) ht (i + 1)))), (mb, .inl (G.2.1, 21, .inl (tilN (sBU n (mWE s0) (mSE s0)) bu (i + 1)))), (mg, .inl (G.2.1, 21, .inl (upd (tilN (sHG n (mWE s0) (mHA s0) (mSE s0)) hg i) i (sHG n (mWE s0) (mHA s0) (mSE s0) i)))), (mq, .inl (G.2.1, 21, .inl (upd (tilN (jPP n (sHT (mST s0)) (mWE s0) (mHA s0) (mPR s0) (mSE s0)) pq i) i (jPP n (tilN (sHT (mST s0)) ht (i + 1)) (mWE s0) (mHA s0) (mPR s0) (mSE s0) i)))), (ml, .inl (G.2.1, 21, .inl (upd (tilN (cLD n (mST s0) (mWE s0) (mHA s0) (mPR s0) (mSE s0)) ld i) i (jLD n (tilN (sHT (mST s0)) ht (i + 1)) (mWE s0) (mHA s0) (mPR s0) (mSE s0) i)))), (mf, .inl (G.2.1, 20, .inl fo))] := by rw [← hfx_7]; exact hD
          have hfx_8 : (upd (tilN (sHG n (mWE s0) (mHA s0) (mSE s0)) hg i) i (sHG n (mWE s0) (mHA s0) (mSE s0) i) : Nat → Int32) = tilN (sHG n (mWE s0) (mHA s0) (mSE s0)) hg (i + 1) := tilN_S _ _ _
          have hP : va_P G.1 vwCl [(m0, .inr (6, [.int (nI (th)), .ref ms, .ref mv, .int (nI (sm)), .ref mt, .int (nI (ln)), .ref mh, .ref mb, .ref mg, .ref mq, .ref ml, .ref mf, .int (mAH (cLD n (mST s0) (mWE s0) (mHA s0) (mPR s0) (mSE s0)) n i), .int (mBE (cLD n (mST s0) (mWE s0) (mHA s0) (mPR s0) (mSE s0)) n i), .int (nI (tp)), .int (bI (wr)), .long dg])), (ms, .inl (G.2.1, 88, .inl s0)), (mv, .inl (G.2.1, 528, .inl sv)), (mt, .inl (G.2.1, 60, .inl tx)), (mh, .inl (G.2.1, 21, .inl (tilN (sHT (mST s0)) ht (i + 1)))), (mb, .inl (G.2.1, 21, .inl (tilN (sBU n (mWE s0) (mSE s0)) bu (i + 1)))), (mg, .inl (G.2.1, 21, .inl (tilN (sHG n (mWE s0) (mHA s0) (mSE s0)) hg (i + 1)))), (mq, .inl (G.2.1, 21, .inl (upd (tilN (jPP n (sHT (mST s0)) (mWE s0) (mHA s0) (mPR s0) (mSE s0)) pq i) i (jPP n (tilN (sHT (mST s0)) ht (i + 1)) (mWE s0) (mHA s0) (mPR s0) (mSE s0) i)))), (ml, .inl (G.2.1, 21, .inl (upd (tilN (cLD n (mST s0) (mWE s0) (mHA s0) (mPR s0) (mSE s0)) ld i) i (jLD n (tilN (sHT (mST s0)) ht (i + 1)) (mWE s0) (mHA s0) (mPR s0) (mSE s0) i)))), (mf, .inl (G.2.1, 20, .inl fo))] H := by rw [← hfx_8]; exact hP
          have hD : va_D A [(m0, .inr (6, [.int (nI (th)), .ref ms, .ref mv, .int (nI (sm)), .ref mt, .int (nI (ln)), .ref mh, .ref mb, .ref mg, .ref mq, .ref ml, .ref mf, .int (mAH (cLD n (mST s0) (mWE s0) (mHA s0) (mPR s0) (mSE s0)) n i), .int (mBE (cLD n (mST s0) (mWE s0) (mHA s0) (mPR s0) (mSE s0)) n i), .int (nI (tp)), .int (bI (wr)), .long dg])), (ms, .inl (G.2.1, 88, .inl s0)), (mv, .inl (G.2.1, 528, .inl sv)), (mt, .inl (G.2.1, 60, .inl tx)), (mh, .inl (G.2.1, 21, .inl (tilN (sHT (mST s0)) ht (i + 1)))), (mb, .inl (G.2.1, 21, .inl (tilN (sBU n (mWE s0) (mSE s0)) bu (i + 1)))), (mg, .inl (G.2.1, 21, .inl (tilN (sHG n (mWE s0) (mHA s0) (mSE s0)) hg (i + 1)))), (mq, .inl (G.2.1, 21, .inl (upd (tilN (jPP n (sHT (mST s0)) (mWE s0) (mHA s0) (mPR s0) (mSE s0)) pq i) i (jPP n (tilN (sHT (mST s0)) ht (i + 1)) (mWE s0) (mHA s0) (mPR s0) (mSE s0) i)))), (ml, .inl (G.2.1, 21, .inl (upd (tilN (cLD n (mST s0) (mWE s0) (mHA s0) (mPR s0) (mSE s0)) ld i) i (jLD n (tilN (sHT (mST s0)) ht (i + 1)) (mWE s0) (mHA s0) (mPR s0) (mSE s0) i)))), (mf, .inl (G.2.1, 20, .inl fo))] := by rw [← hfx_8]; exact hD
          have hfx_9 : (upd (tilN (jPP n (sHT (mST s0)) (mWE s0) (mHA s0) (mPR s0) (mSE s0)) pq i) i (jPP n (tilN (sHT (mST s0)) ht (i + 1)) (mWE s0) (mHA s0) (mPR s0) (mSE s0) i) : Nat → Int32) = tilN (jPP n (sHT (mST s0)) (mWE s0) (mHA s0) (mPR s0) (mSE s0)) pq (i + 1) := by rw [jPP_c (tilN_in i (Nat.le_refl i))]; exact tilN_S _ _ _
          have hP : va_P G.1 vwCl [(m0, .inr (6, [.int (nI (th)), .ref ms, .ref mv, .int (nI (sm)), .ref mt, .int (nI (ln)), .ref mh, .ref mb, .ref mg, .ref mq, .ref ml, .ref mf, .int (mAH (cLD n (mST s0) (mWE s0) (mHA s0) (mPR s0) (mSE s0)) n i), .int (mBE (cLD n (mST s0) (mWE s0) (mHA s0) (mPR s0) (mSE s0)) n i), .int (nI (tp)), .int (bI (wr)), .long dg])), (ms, .inl (G.2.1, 88, .inl s0)), (mv, .inl (G.2.1, 528, .inl sv)), (mt, .inl (G.2.1, 60, .inl tx)), (mh, .inl (G.2.1, 21, .inl (tilN (sHT (mST s0)) ht (i + 1)))), (mb, .inl (G.2.1, 21, .inl (tilN (sBU n (mWE s0) (mSE s0)) bu (i + 1)))), (mg, .inl (G.2.1, 21, .inl (tilN (sHG n (mWE s0) (mHA s0) (mSE s0)) hg (i + 1)))), (mq, .inl (G.2.1, 21, .inl (tilN (jPP n (sHT (mST s0)) (mWE s0) (mHA s0) (mPR s0) (mSE s0)) pq (i + 1)))), (ml, .inl (G.2.1, 21, .inl (upd (tilN (cLD n (mST s0) (mWE s0) (mHA s0) (mPR s0) (mSE s0)) ld i) i (jLD n (tilN (sHT (mST s0)) ht (i + 1)) (mWE s0) (mHA s0) (mPR s0) (mSE s0) i)))), (mf, .inl (G.2.1, 20, .inl fo))] H := by rw [← hfx_9]; exact hP
          have hD : va_D A [(m0, .inr (6, [.int (nI (th)), .ref ms, .ref mv, .int (nI (sm)), .ref mt, .int (nI (ln)), .ref mh, .ref mb, .ref mg, .ref mq, .ref ml, .ref mf, .int (mAH (cLD n (mST s0) (mWE s0) (mHA s0) (mPR s0) (mSE s0)) n i), .int (mBE (cLD n (mST s0) (mWE s0) (mHA s0) (mPR s0) (mSE s0)) n i), .int (nI (tp)), .int (bI (wr)), .long dg])), (ms, .inl (G.2.1, 88, .inl s0)), (mv, .inl (G.2.1, 528, .inl sv)), (mt, .inl (G.2.1, 60, .inl tx)), (mh, .inl (G.2.1, 21, .inl (tilN (sHT (mST s0)) ht (i + 1)))), (mb, .inl (G.2.1, 21, .inl (tilN (sBU n (mWE s0) (mSE s0)) bu (i + 1)))), (mg, .inl (G.2.1, 21, .inl (tilN (sHG n (mWE s0) (mHA s0) (mSE s0)) hg (i + 1)))), (mq, .inl (G.2.1, 21, .inl (tilN (jPP n (sHT (mST s0)) (mWE s0) (mHA s0) (mPR s0) (mSE s0)) pq (i + 1)))), (ml, .inl (G.2.1, 21, .inl (upd (tilN (cLD n (mST s0) (mWE s0) (mHA s0) (mPR s0) (mSE s0)) ld i) i (jLD n (tilN (sHT (mST s0)) ht (i + 1)) (mWE s0) (mHA s0) (mPR s0) (mSE s0) i)))), (mf, .inl (G.2.1, 20, .inl fo))] := by rw [← hfx_9]; exact hD
          have hfx_10 : (upd (tilN (cLD n (mST s0) (mWE s0) (mHA s0) (mPR s0) (mSE s0)) ld i) i (jLD n (tilN (sHT (mST s0)) ht (i + 1)) (mWE s0) (mHA s0) (mPR s0) (mSE s0) i) : Nat → Int32) = tilN (cLD n (mST s0) (mWE s0) (mHA s0) (mPR s0) (mSE s0)) ld (i + 1) := by rw [jLD_c (tilN_in i (Nat.le_refl i))]; exact tilN_S _ _ _
          have hP : va_P G.1 vwCl [(m0, .inr (6, [.int (nI (th)), .ref ms, .ref mv, .int (nI (sm)), .ref mt, .int (nI (ln)), .ref mh, .ref mb, .ref mg, .ref mq, .ref ml, .ref mf, .int (mAH (cLD n (mST s0) (mWE s0) (mHA s0) (mPR s0) (mSE s0)) n i), .int (mBE (cLD n (mST s0) (mWE s0) (mHA s0) (mPR s0) (mSE s0)) n i), .int (nI (tp)), .int (bI (wr)), .long dg])), (ms, .inl (G.2.1, 88, .inl s0)), (mv, .inl (G.2.1, 528, .inl sv)), (mt, .inl (G.2.1, 60, .inl tx)), (mh, .inl (G.2.1, 21, .inl (tilN (sHT (mST s0)) ht (i + 1)))), (mb, .inl (G.2.1, 21, .inl (tilN (sBU n (mWE s0) (mSE s0)) bu (i + 1)))), (mg, .inl (G.2.1, 21, .inl (tilN (sHG n (mWE s0) (mHA s0) (mSE s0)) hg (i + 1)))), (mq, .inl (G.2.1, 21, .inl (tilN (jPP n (sHT (mST s0)) (mWE s0) (mHA s0) (mPR s0) (mSE s0)) pq (i + 1)))), (ml, .inl (G.2.1, 21, .inl (tilN (cLD n (mST s0) (mWE s0) (mHA s0) (mPR s0) (mSE s0)) ld (i + 1)))), (mf, .inl (G.2.1, 20, .inl fo))] H := by rw [← hfx_10]; exact hP
          have hD : va_D A [(m0, .inr (6, [.int (nI (th)), .ref ms, .ref mv, .int (nI (sm)), .ref mt, .int (nI (ln)), .ref mh, .ref mb, .ref mg, .ref mq, .ref ml, .ref mf, .int (mAH (cLD n (mST s0) (mWE s0) (mHA s0) (mPR s0) (mSE s0)) n i), .int (mBE (cLD n (mST s0) (mWE s0) (mHA s0) (mPR s0) (mSE s0)) n i), .int (nI (tp)), .int (bI (wr)), .long dg])), (ms, .inl (G.2.1, 88, .inl s0)), (mv, .inl (G.2.1, 528, .inl sv)), (mt, .inl (G.2.1, 60, .inl tx)), (mh, .inl (G.2.1, 21, .inl (tilN (sHT (mST s0)) ht (i + 1)))), (mb, .inl (G.2.1, 21, .inl (tilN (sBU n (mWE s0) (mSE s0)) bu (i + 1)))), (mg, .inl (G.2.1, 21, .inl (tilN (sHG n (mWE s0) (mHA s0) (mSE s0)) hg (i + 1)))), (mq, .inl (G.2.1, 21, .inl (tilN (jPP n (sHT (mST s0)) (mWE s0) (mHA s0) (mPR s0) (mSE s0)) pq (i + 1)))), (ml, .inl (G.2.1, 21, .inl (tilN (cLD n (mST s0) (mWE s0) (mHA s0) (mPR s0) (mSE s0)) ld (i + 1)))), (mf, .inl (G.2.1, 20, .inl fo))] := by rw [← hfx_10]; exact hD
          refine lv_aload_n hx hb dX6_lay_62 rfl (lv_at hl 2 rfl) ?_
          refine lv_dup hx hb dX6_lay_63 rfl ?_
          refine va_get (D := G.1) (ci := 6) (v := .int (mBE (cLD n (mST s0) (mWE s0) (mHA s0) (mPR s0) (mSE s0)) n i)) (C := RX6) (T := TX6) (N := 17) hx hb hts hinX6 hown hK hP 0 rfl rfl 13 (by decide) hf51 (fun _ h9 => h9) rfl dX6_lay_64 ?_
          refine lv_aload_n hx hb dX6_lay_67 rfl (lv_at hl 2 rfl) ?_
          refine va_get (D := G.1) (ci := 6) (v := .ref ml) (C := RX6) (T := TX6) (N := 17) hx hb hts hinX6 hown hK hP 0 rfl rfl 10 (by decide) hf31 (fun _ h9 => h9) rfl dX6_lay_68 ?_
          refine lv_iload_n hx hb dX6_lay_71 rfl (lv_at hl 0 rfl) ?_
          refine g_iald (k := i) hx hb hK hP 8 rfl (by omega) (by omega) dX6_lay_72 ?_
          refine g_ti (y := cLD n (mST s0) (mWE s0) (mHA s0) (mPR s0) (mSE s0) i) (tilN_in i (Nat.le_refl i)) ?_
          refine lv_iload_n hx hb dX6_lay_73 rfl (lv_at hl 0 rfl) ?_
          refine lv_imul hx hb dX6_lay_74 ?_
          refine lv_iload_n hx hb dX6_lay_75 rfl (lv_at hl 1 rfl) ?_
          refine lv_idiv hx hb dX6_lay_76 (nI_ne0 (by omega) (by omega)) ?_
          refine lv_iadd hx hb dX6_lay_77 ?_
          refine va_put (D := G.1) (ci := 6) (v := .int ((mBE (cLD n (mST s0) (mWE s0) (mHA s0) (mPR s0) (mSE s0)) n i) + (((cLD n (mST s0) (mWE s0) (mHA s0) (mPR s0) (mSE s0) i) * (nI i)) / (nI n)))) (ty := .int) (C := RX6) (T := TX6) (N := 17) hx hb hts hinX6 tyX6 tyX6_ok nmX6 hown hK hP hD hS 0 rfl rfl 13 (by decide) hf51 (fun _ h9 => h9) rfl (by decide +kernel) (rfl) (rfl) (Nat.le_of_ble_eq_true rfl) dX6_lay_78 (fun H locs hP hD hS => ?_)
          have hP : va_P G.1 vwCl [(m0, .inr (6, [.int (nI (th)), .ref ms, .ref mv, .int (nI (sm)), .ref mt, .int (nI (ln)), .ref mh, .ref mb, .ref mg, .ref mq, .ref ml, .ref mf, .int (mAH (cLD n (mST s0) (mWE s0) (mHA s0) (mPR s0) (mSE s0)) n i), .int ((mBE (cLD n (mST s0) (mWE s0) (mHA s0) (mPR s0) (mSE s0)) n i) + (((cLD n (mST s0) (mWE s0) (mHA s0) (mPR s0) (mSE s0) i) * (nI i)) / (nI n))), .int (nI (tp)), .int (bI (wr)), .long dg])), (ms, .inl (G.2.1, 88, .inl s0)), (mv, .inl (G.2.1, 528, .inl sv)), (mt, .inl (G.2.1, 60, .inl tx)), (mh, .inl (G.2.1, 21, .inl (tilN (sHT (mST s0)) ht (i + 1)))), (mb, .inl (G.2.1, 21, .inl (tilN (sBU n (mWE s0) (mSE s0)) bu (i + 1)))), (mg, .inl (G.2.1, 21, .inl (tilN (sHG n (mWE s0) (mHA s0) (mSE s0)) hg (i + 1)))), (mq, .inl (G.2.1, 21, .inl (tilN (jPP n (sHT (mST s0)) (mWE s0) (mHA s0) (mPR s0) (mSE s0)) pq (i + 1)))), (ml, .inl (G.2.1, 21, .inl (tilN (cLD n (mST s0) (mWE s0) (mHA s0) (mPR s0) (mSE s0)) ld (i + 1)))), (mf, .inl (G.2.1, 20, .inl fo))] H := hP
          have hD : va_D A [(m0, .inr (6, [.int (nI (th)), .ref ms, .ref mv, .int (nI (sm)), .ref mt, .int (nI (ln)), .ref mh, .ref mb, .ref mg, .ref mq, .ref ml, .ref mf, .int (mAH (cLD n (mST s0) (mWE s0) (mHA s0) (mPR s0) (mSE s0)) n i), .int ((mBE (cLD n (mST s0) (mWE s0) (mHA s0) (mPR s0) (mSE s0)) n i) + (((cLD n (mST s0) (mWE s0) (mHA s0) (mPR s0) (mSE s0) i) * (nI i)) / (nI n))), .int (nI (tp)), .int (bI (wr)), .long dg])), (ms, .inl (G.2.1, 88, .inl s0)), (mv, .inl (G.2.1, 528, .inl sv)), (mt, .inl (G.2.1, 60, .inl tx)), (mh, .inl (G.2.1, 21, .inl (tilN (sHT (mST s0)) ht (i + 1)))), (mb, .inl (G.2.1, 21, .inl (tilN (sBU n (mWE s0) (mSE s0)) bu (i + 1)))), (mg, .inl (G.2.1, 21, .inl (tilN (sHG n (mWE s0) (mHA s0) (mSE s0)) hg (i + 1)))), (mq, .inl (G.2.1, 21, .inl (tilN (jPP n (sHT (mST s0)) (mWE s0) (mHA s0) (mPR s0) (mSE s0)) pq (i + 1)))), (ml, .inl (G.2.1, 21, .inl (tilN (cLD n (mST s0) (mWE s0) (mHA s0) (mPR s0) (mSE s0)) ld (i + 1)))), (mf, .inl (G.2.1, 20, .inl fo))] := hD
          refine lv_aload_n hx hb dX6_lay_81 rfl (lv_at hl 2 rfl) ?_
          refine lv_dup hx hb dX6_lay_82 rfl ?_
          refine va_get (D := G.1) (ci := 6) (v := .int (mAH (cLD n (mST s0) (mWE s0) (mHA s0) (mPR s0) (mSE s0)) n i)) (C := RX6) (T := TX6) (N := 17) hx hb hts hinX6 hown hK hP 0 rfl rfl 12 (by decide) hf48 (fun _ h9 => h9) rfl dX6_lay_83 ?_
          refine lv_aload_n hx hb dX6_lay_86 rfl (lv_at hl 2 rfl) ?_
          refine va_get (D := G.1) (ci := 6) (v := .ref ml) (C := RX6) (T := TX6) (N := 17) hx hb hts hinX6 hown hK hP 0 rfl rfl 10 (by decide) hf31 (fun _ h9 => h9) rfl dX6_lay_87 ?_
          refine lv_iload_n hx hb dX6_lay_90 rfl (lv_at hl 0 rfl) ?_
          refine g_iald (k := i) hx hb hK hP 8 rfl (by omega) (by omega) dX6_lay_91 ?_
          refine g_ti (y := cLD n (mST s0) (mWE s0) (mHA s0) (mPR s0) (mSE s0) i) (tilN_in i (Nat.le_refl i)) ?_
          refine lv_aload_n hx hb dX6_lay_92 rfl (lv_at hl 2 rfl) ?_
          refine va_get (D := G.1) (ci := 6) (v := .ref ml) (C := RX6) (T := TX6) (N := 17) hx hb hts hinX6 hown hK hP 0 rfl rfl 10 (by decide) hf31 (fun _ h9 => h9) rfl dX6_lay_93 ?_
          refine lv_iload_n hx hb dX6_lay_96 rfl (lv_at hl 0 rfl) ?_
          refine g_iald (k := i) hx hb hK hP 8 rfl (by omega) (by omega) dX6_lay_97 ?_
          refine g_ti (y := cLD n (mST s0) (mWE s0) (mHA s0) (mPR s0) (mSE s0) i) (tilN_in i (Nat.le_refl i)) ?_
          refine lv_iload_n hx hb dX6_lay_98 rfl (lv_at hl 0 rfl) ?_
          refine lv_imul hx hb dX6_lay_99 ?_
          refine lv_iload_n hx hb dX6_lay_100 rfl (lv_at hl 1 rfl) ?_
          refine lv_idiv hx hb dX6_lay_101 (nI_ne0 (by omega) (by omega)) ?_
          refine lv_isub hx hb dX6_lay_102 ?_
          refine lv_iadd hx hb dX6_lay_103 ?_
          refine va_put (D := G.1) (ci := 6) (v := .int ((mAH (cLD n (mST s0) (mWE s0) (mHA s0) (mPR s0) (mSE s0)) n i) + ((cLD n (mST s0) (mWE s0) (mHA s0) (mPR s0) (mSE s0) i) - (((cLD n (mST s0) (mWE s0) (mHA s0) (mPR s0) (mSE s0) i) * (nI i)) / (nI n))))) (ty := .int) (C := RX6) (T := TX6) (N := 17) hx hb hts hinX6 tyX6 tyX6_ok nmX6 hown hK hP hD hS 0 rfl rfl 12 (by decide) hf48 (fun _ h9 => h9) rfl (by decide +kernel) (rfl) (rfl) (Nat.le_of_ble_eq_true rfl) dX6_lay_104 (fun H locs hP hD hS => ?_)
          have hP : va_P G.1 vwCl [(m0, .inr (6, [.int (nI (th)), .ref ms, .ref mv, .int (nI (sm)), .ref mt, .int (nI (ln)), .ref mh, .ref mb, .ref mg, .ref mq, .ref ml, .ref mf, .int ((mAH (cLD n (mST s0) (mWE s0) (mHA s0) (mPR s0) (mSE s0)) n i) + ((cLD n (mST s0) (mWE s0) (mHA s0) (mPR s0) (mSE s0) i) - (((cLD n (mST s0) (mWE s0) (mHA s0) (mPR s0) (mSE s0) i) * (nI i)) / (nI n)))), .int ((mBE (cLD n (mST s0) (mWE s0) (mHA s0) (mPR s0) (mSE s0)) n i) + (((cLD n (mST s0) (mWE s0) (mHA s0) (mPR s0) (mSE s0) i) * (nI i)) / (nI n))), .int (nI (tp)), .int (bI (wr)), .long dg])), (ms, .inl (G.2.1, 88, .inl s0)), (mv, .inl (G.2.1, 528, .inl sv)), (mt, .inl (G.2.1, 60, .inl tx)), (mh, .inl (G.2.1, 21, .inl (tilN (sHT (mST s0)) ht (i + 1)))), (mb, .inl (G.2.1, 21, .inl (tilN (sBU n (mWE s0) (mSE s0)) bu (i + 1)))), (mg, .inl (G.2.1, 21, .inl (tilN (sHG n (mWE s0) (mHA s0) (mSE s0)) hg (i + 1)))), (mq, .inl (G.2.1, 21, .inl (tilN (jPP n (sHT (mST s0)) (mWE s0) (mHA s0) (mPR s0) (mSE s0)) pq (i + 1)))), (ml, .inl (G.2.1, 21, .inl (tilN (cLD n (mST s0) (mWE s0) (mHA s0) (mPR s0) (mSE s0)) ld (i + 1)))), (mf, .inl (G.2.1, 20, .inl fo))] H := hP
          have hD : va_D A [(m0, .inr (6, [.int (nI (th)), .ref ms, .ref mv, .int (nI (sm)), .ref mt, .int (nI (ln)), .ref mh, .ref mb, .ref mg, .ref mq, .ref ml, .ref mf, .int ((mAH (cLD n (mST s0) (mWE s0) (mHA s0) (mPR s0) (mSE s0)) n i) + ((cLD n (mST s0) (mWE s0) (mHA s0) (mPR s0) (mSE s0) i) - (((cLD n (mST s0) (mWE s0) (mHA s0) (mPR s0) (mSE s0) i) * (nI i)) / (nI n)))), .int ((mBE (cLD n (mST s0) (mWE s0) (mHA s0) (mPR s0) (mSE s0)) n i) + (((cLD n (mST s0) (mWE s0) (mHA s0) (mPR s0) (mSE s0) i) * (nI i)) / (nI n))), .int (nI (tp)), .int (bI (wr)), .long dg])), (ms, .inl (G.2.1, 88, .inl s0)), (mv, .inl (G.2.1, 528, .inl sv)), (mt, .inl (G.2.1, 60, .inl tx)), (mh, .inl (G.2.1, 21, .inl (tilN (sHT (mST s0)) ht (i + 1)))), (mb, .inl (G.2.1, 21, .inl (tilN (sBU n (mWE s0) (mSE s0)) bu (i + 1)))), (mg, .inl (G.2.1, 21, .inl (tilN (sHG n (mWE s0) (mHA s0) (mSE s0)) hg (i + 1)))), (mq, .inl (G.2.1, 21, .inl (tilN (jPP n (sHT (mST s0)) (mWE s0) (mHA s0) (mPR s0) (mSE s0)) pq (i + 1)))), (ml, .inl (G.2.1, 21, .inl (tilN (cLD n (mST s0) (mWE s0) (mHA s0) (mPR s0) (mSE s0)) ld (i + 1)))), (mf, .inl (G.2.1, 20, .inl fo))] := hD
          refine lv_iinc (v := nI (i + 1)) (lv' := [(2, .int (nI (i + 1))), (1, .int (nI n)), (0, .ref m0)]) hx hb dX6_lay_107 hl (k := 0) rfl (nI_add (i) 1) (by decide) rfl (fun ls hl => ?_)
          refine lv_goto (tgt := 19) hx hb dX6_lay_110 (by decide) ?_
          exact ih19 (i + 1) (by first | assumption | omega) (by omega) _ _ _ hP hD hS (lv_sub hl [0, 1, 2] rfl)
        refine g_if_ne (a := i) (tgt := 37) hx hb (by omega) dX6_lay_30 (by decide) (fun c_30 => ?_) (fun c_30 => ?_)
        · skip
          refine lv_aload_n hx hb dX6_lay_37 rfl (lv_at hl 2 rfl) ?_
          refine va_get (D := G.1) (ci := 6) (v := .ref mh) (C := RX6) (T := TX6) (N := 17) hx hb hts hinX6 hown hK hP 0 rfl rfl 6 (by decide) hf19 (fun _ h9 => h9) rfl dX6_lay_38 ?_
          refine lv_iload_n hx hb dX6_lay_41 rfl (lv_at hl 0 rfl) ?_
          refine lv_iconst (v := 1) hx hb dX6_lay_42 (by decide) ?_
          refine lv_isub hx hb dX6_lay_43 ?_
          refine g_ti (y := nI (i - 1)) (pk_sub (a := i) (b := 1) (by omega)) ?_
          refine g_iald (k := i - 1) hx hb hK hP 4 rfl (by omega) (by omega) dX6_lay_44 ?_
          refine lv_aload_n hx hb dX6_lay_45 rfl (lv_at hl 2 rfl) ?_
          refine va_get (D := G.1) (ci := 6) (v := .ref ms) (C := RX6) (T := TX6) (N := 17) hx hb hts hinX6 hown hK hP 0 rfl rfl 1 (by decide) hf7 (fun _ h9 => h9) rfl dX6_lay_46 ?_
          refine lv_iconst (v := 5) hx hb dX6_lay_49 (by decide) ?_
          refine lv_iload_n hx hb dX6_lay_50 rfl (lv_at hl 0 rfl) ?_
          refine lv_iadd hx hb dX6_lay_51 ?_
          refine g_ti (y := nI (5 + i)) (nI_add (5) (i)) ?_
          refine lv_iconst (v := 1) hx hb dX6_lay_52 (by decide) ?_
          refine lv_isub hx hb dX6_lay_53 ?_
          refine g_ti (y := nI ((5 + i) - 1)) (pk_sub (a := 5 + i) (b := 1) (by omega)) ?_
          refine g_iald (k := (5 + i) - 1) hx hb hK hP 1 rfl (by omega) (by omega) dX6_lay_54 ?_
          refine lv_iadd hx hb dX6_lay_55 ?_
          exact L56 (((tilN (sHT (mST s0)) ht i) (i - 1)) + (s0 ((5 + i) - 1))) (lay_ht c_30) _ _ _ hP hD hS (lv_sub hl [0, 1, 2] rfl)
        · skip
          refine lv_iconst (v := 0) hx hb dX6_lay_33 (by decide) ?_
          refine lv_goto (tgt := 56) hx hb dX6_lay_34 (by decide) ?_
          exact L56 0 (by rw [c_30]; rfl) _ _ _ hP hD hS (lv_sub hl [0, 1, 2] rfl)
  have hfx_11 : (ht : Nat → Int32) = tilN (sHT (mST s0)) ht 0 := (tilN_0 _ _).symm
  have hP : va_P G.1 vwCl [(m0, .inr (6, [.int (nI (th)), .ref ms, .ref mv, .int (nI (sm)), .ref mt, .int (nI (ln)), .ref mh, .ref mb, .ref mg, .ref mq, .ref ml, .ref mf, .int 0, .int 0, .int (nI (tp)), .int (bI (wr)), .long dg])), (ms, .inl (G.2.1, 88, .inl s0)), (mv, .inl (G.2.1, 528, .inl sv)), (mt, .inl (G.2.1, 60, .inl tx)), (mh, .inl (G.2.1, 21, .inl (tilN (sHT (mST s0)) ht 0))), (mb, .inl (G.2.1, 21, .inl bu)), (mg, .inl (G.2.1, 21, .inl hg)), (mq, .inl (G.2.1, 21, .inl pq)), (ml, .inl (G.2.1, 21, .inl ld)), (mf, .inl (G.2.1, 20, .inl fo))] H := by rw [← hfx_11]; exact hP
  have hD : va_D A [(m0, .inr (6, [.int (nI (th)), .ref ms, .ref mv, .int (nI (sm)), .ref mt, .int (nI (ln)), .ref mh, .ref mb, .ref mg, .ref mq, .ref ml, .ref mf, .int 0, .int 0, .int (nI (tp)), .int (bI (wr)), .long dg])), (ms, .inl (G.2.1, 88, .inl s0)), (mv, .inl (G.2.1, 528, .inl sv)), (mt, .inl (G.2.1, 60, .inl tx)), (mh, .inl (G.2.1, 21, .inl (tilN (sHT (mST s0)) ht 0))), (mb, .inl (G.2.1, 21, .inl bu)), (mg, .inl (G.2.1, 21, .inl hg)), (mq, .inl (G.2.1, 21, .inl pq)), (ml, .inl (G.2.1, 21, .inl ld)), (mf, .inl (G.2.1, 20, .inl fo))] := by rw [← hfx_11]; exact hD
  have hfx_12 : (bu : Nat → Int32) = tilN (sBU n (mWE s0) (mSE s0)) bu 0 := (tilN_0 _ _).symm
  have hP : va_P G.1 vwCl [(m0, .inr (6, [.int (nI (th)), .ref ms, .ref mv, .int (nI (sm)), .ref mt, .int (nI (ln)), .ref mh, .ref mb, .ref mg, .ref mq, .ref ml, .ref mf, .int 0, .int 0, .int (nI (tp)), .int (bI (wr)), .long dg])), (ms, .inl (G.2.1, 88, .inl s0)), (mv, .inl (G.2.1, 528, .inl sv)), (mt, .inl (G.2.1, 60, .inl tx)), (mh, .inl (G.2.1, 21, .inl (tilN (sHT (mST s0)) ht 0))), (mb, .inl (G.2.1, 21, .inl (tilN (sBU n (mWE s0) (mSE s0)) bu 0))), (mg, .inl (G.2.1, 21, .inl hg)), (mq, .inl (G.2.1, 21, .inl pq)), (ml, .inl (G.2.1, 21, .inl ld)), (mf, .inl (G.2.1, 20, .inl fo))] H := by rw [← hfx_12]; exact hP
  have hD : va_D A [(m0, .inr (6, [.int (nI (th)), .ref ms, .ref mv, .int (nI (sm)), .ref mt, .int (nI (ln)), .ref mh, .ref mb, .ref mg, .ref mq, .ref ml, .ref mf, .int 0, .int 0, .int (nI (tp)), .int (bI (wr)), .long dg])), (ms, .inl (G.2.1, 88, .inl s0)), (mv, .inl (G.2.1, 528, .inl sv)), (mt, .inl (G.2.1, 60, .inl tx)), (mh, .inl (G.2.1, 21, .inl (tilN (sHT (mST s0)) ht 0))), (mb, .inl (G.2.1, 21, .inl (tilN (sBU n (mWE s0) (mSE s0)) bu 0))), (mg, .inl (G.2.1, 21, .inl hg)), (mq, .inl (G.2.1, 21, .inl pq)), (ml, .inl (G.2.1, 21, .inl ld)), (mf, .inl (G.2.1, 20, .inl fo))] := by rw [← hfx_12]; exact hD
  have hfx_13 : (hg : Nat → Int32) = tilN (sHG n (mWE s0) (mHA s0) (mSE s0)) hg 0 := (tilN_0 _ _).symm
  have hP : va_P G.1 vwCl [(m0, .inr (6, [.int (nI (th)), .ref ms, .ref mv, .int (nI (sm)), .ref mt, .int (nI (ln)), .ref mh, .ref mb, .ref mg, .ref mq, .ref ml, .ref mf, .int 0, .int 0, .int (nI (tp)), .int (bI (wr)), .long dg])), (ms, .inl (G.2.1, 88, .inl s0)), (mv, .inl (G.2.1, 528, .inl sv)), (mt, .inl (G.2.1, 60, .inl tx)), (mh, .inl (G.2.1, 21, .inl (tilN (sHT (mST s0)) ht 0))), (mb, .inl (G.2.1, 21, .inl (tilN (sBU n (mWE s0) (mSE s0)) bu 0))), (mg, .inl (G.2.1, 21, .inl (tilN (sHG n (mWE s0) (mHA s0) (mSE s0)) hg 0))), (mq, .inl (G.2.1, 21, .inl pq)), (ml, .inl (G.2.1, 21, .inl ld)), (mf, .inl (G.2.1, 20, .inl fo))] H := by rw [← hfx_13]; exact hP
  have hD : va_D A [(m0, .inr (6, [.int (nI (th)), .ref ms, .ref mv, .int (nI (sm)), .ref mt, .int (nI (ln)), .ref mh, .ref mb, .ref mg, .ref mq, .ref ml, .ref mf, .int 0, .int 0, .int (nI (tp)), .int (bI (wr)), .long dg])), (ms, .inl (G.2.1, 88, .inl s0)), (mv, .inl (G.2.1, 528, .inl sv)), (mt, .inl (G.2.1, 60, .inl tx)), (mh, .inl (G.2.1, 21, .inl (tilN (sHT (mST s0)) ht 0))), (mb, .inl (G.2.1, 21, .inl (tilN (sBU n (mWE s0) (mSE s0)) bu 0))), (mg, .inl (G.2.1, 21, .inl (tilN (sHG n (mWE s0) (mHA s0) (mSE s0)) hg 0))), (mq, .inl (G.2.1, 21, .inl pq)), (ml, .inl (G.2.1, 21, .inl ld)), (mf, .inl (G.2.1, 20, .inl fo))] := by rw [← hfx_13]; exact hD
  have hfx_14 : (pq : Nat → Int32) = tilN (jPP n (sHT (mST s0)) (mWE s0) (mHA s0) (mPR s0) (mSE s0)) pq 0 := (tilN_0 _ _).symm
  have hP : va_P G.1 vwCl [(m0, .inr (6, [.int (nI (th)), .ref ms, .ref mv, .int (nI (sm)), .ref mt, .int (nI (ln)), .ref mh, .ref mb, .ref mg, .ref mq, .ref ml, .ref mf, .int 0, .int 0, .int (nI (tp)), .int (bI (wr)), .long dg])), (ms, .inl (G.2.1, 88, .inl s0)), (mv, .inl (G.2.1, 528, .inl sv)), (mt, .inl (G.2.1, 60, .inl tx)), (mh, .inl (G.2.1, 21, .inl (tilN (sHT (mST s0)) ht 0))), (mb, .inl (G.2.1, 21, .inl (tilN (sBU n (mWE s0) (mSE s0)) bu 0))), (mg, .inl (G.2.1, 21, .inl (tilN (sHG n (mWE s0) (mHA s0) (mSE s0)) hg 0))), (mq, .inl (G.2.1, 21, .inl (tilN (jPP n (sHT (mST s0)) (mWE s0) (mHA s0) (mPR s0) (mSE s0)) pq 0))), (ml, .inl (G.2.1, 21, .inl ld)), (mf, .inl (G.2.1, 20, .inl fo))] H := by rw [← hfx_14]; exact hP
  have hD : va_D A [(m0, .inr (6, [.int (nI (th)), .ref ms, .ref mv, .int (nI (sm)), .ref mt, .int (nI (ln)), .ref mh, .ref mb, .ref mg, .ref mq, .ref ml, .ref mf, .int 0, .int 0, .int (nI (tp)), .int (bI (wr)), .long dg])), (ms, .inl (G.2.1, 88, .inl s0)), (mv, .inl (G.2.1, 528, .inl sv)), (mt, .inl (G.2.1, 60, .inl tx)), (mh, .inl (G.2.1, 21, .inl (tilN (sHT (mST s0)) ht 0))), (mb, .inl (G.2.1, 21, .inl (tilN (sBU n (mWE s0) (mSE s0)) bu 0))), (mg, .inl (G.2.1, 21, .inl (tilN (sHG n (mWE s0) (mHA s0) (mSE s0)) hg 0))), (mq, .inl (G.2.1, 21, .inl (tilN (jPP n (sHT (mST s0)) (mWE s0) (mHA s0) (mPR s0) (mSE s0)) pq 0))), (ml, .inl (G.2.1, 21, .inl ld)), (mf, .inl (G.2.1, 20, .inl fo))] := by rw [← hfx_14]; exact hD
  have hfx_15 : (ld : Nat → Int32) = tilN (cLD n (mST s0) (mWE s0) (mHA s0) (mPR s0) (mSE s0)) ld 0 := (tilN_0 _ _).symm
  have hP : va_P G.1 vwCl [(m0, .inr (6, [.int (nI (th)), .ref ms, .ref mv, .int (nI (sm)), .ref mt, .int (nI (ln)), .ref mh, .ref mb, .ref mg, .ref mq, .ref ml, .ref mf, .int 0, .int 0, .int (nI (tp)), .int (bI (wr)), .long dg])), (ms, .inl (G.2.1, 88, .inl s0)), (mv, .inl (G.2.1, 528, .inl sv)), (mt, .inl (G.2.1, 60, .inl tx)), (mh, .inl (G.2.1, 21, .inl (tilN (sHT (mST s0)) ht 0))), (mb, .inl (G.2.1, 21, .inl (tilN (sBU n (mWE s0) (mSE s0)) bu 0))), (mg, .inl (G.2.1, 21, .inl (tilN (sHG n (mWE s0) (mHA s0) (mSE s0)) hg 0))), (mq, .inl (G.2.1, 21, .inl (tilN (jPP n (sHT (mST s0)) (mWE s0) (mHA s0) (mPR s0) (mSE s0)) pq 0))), (ml, .inl (G.2.1, 21, .inl (tilN (cLD n (mST s0) (mWE s0) (mHA s0) (mPR s0) (mSE s0)) ld 0))), (mf, .inl (G.2.1, 20, .inl fo))] H := by rw [← hfx_15]; exact hP
  have hD : va_D A [(m0, .inr (6, [.int (nI (th)), .ref ms, .ref mv, .int (nI (sm)), .ref mt, .int (nI (ln)), .ref mh, .ref mb, .ref mg, .ref mq, .ref ml, .ref mf, .int 0, .int 0, .int (nI (tp)), .int (bI (wr)), .long dg])), (ms, .inl (G.2.1, 88, .inl s0)), (mv, .inl (G.2.1, 528, .inl sv)), (mt, .inl (G.2.1, 60, .inl tx)), (mh, .inl (G.2.1, 21, .inl (tilN (sHT (mST s0)) ht 0))), (mb, .inl (G.2.1, 21, .inl (tilN (sBU n (mWE s0) (mSE s0)) bu 0))), (mg, .inl (G.2.1, 21, .inl (tilN (sHG n (mWE s0) (mHA s0) (mSE s0)) hg 0))), (mq, .inl (G.2.1, 21, .inl (tilN (jPP n (sHT (mST s0)) (mWE s0) (mHA s0) (mPR s0) (mSE s0)) pq 0))), (ml, .inl (G.2.1, 21, .inl (tilN (cLD n (mST s0) (mWE s0) (mHA s0) (mPR s0) (mSE s0)) ld 0))), (mf, .inl (G.2.1, 20, .inl fo))] := by rw [← hfx_15]; exact hD
  exact L19 (n + 1 - 0 + 1) 0 (by first | assumption | omega) (Nat.lt_succ_self _) _ _ _ hP hD hS (lv_sub hl [0, 1, 2] rfl)
set_option maxHeartbeats 4000000 in
set_option maxRecDepth 100000 in
theorem c_X6_greatest (l : Launch) (G : kG) (m0 : Nat) (ms : Nat) (mv : Nat) (mt : Nat) (mh : Nat) (mb : Nat) (mg : Nat) (mq : Nat) (ml : Nat) (mf : Nat) (th : Nat) (s0 : Fn) (sv : Fn) (sm : Nat) (tx : Fn) (ln : Nat) (ht : Fn) (bu : Fn) (hg : Fn) (pq : Fn) (ld : Fn) (fo : Fn) (nw : Int32) (fw : Int32) (tp : Nat) (wr : Bool) (dg : Int64) (n : Nat) (sz : Nat) (hok : mOK s0 n) : kMet l yX6_greatest wsX6_greatest ({ frames := 2, cells := 0, slots := 0, locals := 46 } : Room) G [.ref m0] [(m0, .inr (6, [.int (nI (th)), .ref ms, .ref mv, .int (nI (sm)), .ref mt, .int (nI (ln)), .ref mh, .ref mb, .ref mg, .ref mq, .ref ml, .ref mf, .int nw, .int fw, .int (nI (tp)), .int (bI (wr)), .long dg])), (ms, .inl (G.2.1, 88, .inl s0)), (mv, .inl (G.2.1, 528, .inl sv)), (mt, .inl (G.2.1, 60, .inl tx)), (mh, .inl (G.2.1, 21, .inl ht)), (mb, .inl (G.2.1, 21, .inl bu)), (mg, .inl (G.2.1, 21, .inl hg)), (mq, .inl (G.2.1, 21, .inl pq)), (ml, .inl (G.2.1, 21, .inl ld)), (mf, .inl (G.2.1, 20, .inl fo))] sz (kQi G (fun (r : Int32) (u : Fn × Fn × Fn × Fn × Fn × Fn × Int32 × Int32) => r = cGR n (mST s0) (mWE s0) (mHA s0) (mPR s0) (mSE s0) ∧ okB n (mST s0) (mWE s0) (mHA s0) (mPR s0) (mSE s0) u.1 u.2.1 u.2.2.1 u.2.2.2.1 u.2.2.2.2.1 u.2.2.2.2.2.1 ∧ u.2.2.2.2.2.2.1 = cAH n (mST s0) (mWE s0) (mHA s0) (mPR s0) (mSE s0) ∧ u.2.2.2.2.2.2.2 = cBE n (mST s0) (mWE s0) (mHA s0) (mPR s0) (mSE s0)) (fun (u : Fn × Fn × Fn × Fn × Fn × Fn × Int32 × Int32) => [(m0, .inr (6, [.int (nI (th)), .ref ms, .ref mv, .int (nI (sm)), .ref mt, .int (nI (ln)), .ref mh, .ref mb, .ref mg, .ref mq, .ref ml, .ref mf, .int u.2.2.2.2.2.2.1, .int u.2.2.2.2.2.2.2, .int (nI (tp)), .int (bI (wr)), .long dg])), (ms, .inl (G.2.1, 88, .inl s0)), (mv, .inl (G.2.1, 528, .inl sv)), (mt, .inl (G.2.1, 60, .inl tx)), (mh, .inl (G.2.1, 21, .inl u.1)), (mb, .inl (G.2.1, 21, .inl u.2.1)), (mg, .inl (G.2.1, 21, .inl u.2.2.1)), (mq, .inl (G.2.1, 21, .inl u.2.2.2.1)), (ml, .inl (G.2.1, 21, .inl u.2.2.2.2.1)), (mf, .inl (G.2.1, 20, .inl u.2.2.2.2.2.1))])) 0 0 := by
  refine k_entry (cc := cX6_greatest) (maxL := 3) (ret := (some .int)) (by decide) rfl (Nat.le_of_ble_eq_true rfl) ?_
  intro p e s m args below meth c A ls H locs Q hQ hx hb hml hr hts hown hlocks hin hA hP hK hD hS hl
  have hown : s.vm.findClass RX6 = some m.cls := hown
  have hl : lv_has ls 3 [(0, .ref m0)] := hl
  have hf7 := hts (.fieldLink RX6 7 "HangingChainModel" "s" "[I") (by decide +kernel)
  have hinX6 : ∀ w ∈ wsX60, w ∈ wsX6_greatest := by decide +kernel
  have hf34 := hts (.fieldLink RX6 34 "HangingChainModel" "force" "[I") (by decide +kernel)
  obtain ⟨hs0, hn1, hn, hv⟩ := id hok
  refine lv_aload_n hx hb dX6_greatest_0 rfl (lv_at hl 0 rfl) ?_
  refine k_cv (wr := []) [] rfl (by decide) [0, 1, 2, 3, 4, 5, 6, 7, 8, 9] rfl (by decide) hP hD hS hA (k_V (n := 0) (ci := 6) (As := []) (rest := []) (wc := [(m0, .inr (6, [.int (nI (th)), .ref ms, .ref mv, .int (nI (sm)), .ref mt, .int (nI (ln)), .ref mh, .ref mb, .ref mg, .ref mq, .ref ml, .ref mf, .int nw, .int fw, .int (nI (tp)), .int (bI (wr)), .long dg])), (ms, .inl (G.2.1, 88, .inl s0)), (mv, .inl (G.2.1, 528, .inl sv)), (mt, .inl (G.2.1, 60, .inl tx)), (mh, .inl (G.2.1, 21, .inl ht)), (mb, .inl (G.2.1, 21, .inl bu)), (mg, .inl (G.2.1, 21, .inl hg)), (mq, .inl (G.2.1, 21, .inl pq)), (ml, .inl (G.2.1, 21, .inl ld)), (mf, .inl (G.2.1, 20, .inl fo))]) hx hb hml hown hts hK hP hD hl (c_X6_lay l G m0 ms mv mt mh mb mg mq ml mf th s0 sv sm tx ln ht bu hg pq ld fo nw fw tp wr dg n H.size (by first | assumption | omega)) [0, 1, 2, 3, 4, 5, 6, 7, 8, 9] rfl (by decide) gX6_greatest_X6_lay rfl rfl rfl (by decide +kernel) rfl ⟨Nat.le_of_ble_eq_true rfl, Nat.le_of_ble_eq_true rfl⟩ rfl rfl rfl (Nat.le_of_ble_eq_true rfl) dX6_greatest_1 ⟨Nat.le_of_ble_eq_true rfl, Nat.le_of_ble_eq_true rfl⟩) (fun u H locs hw hP hD hS => ?_)
  obtain ⟨ht_1, bu_1, hg_1, pq_1, ld_1, fo_1, nw_1, fw_1⟩ := u
  have hw_1 : okB n (mST s0) (mWE s0) (mHA s0) (mPR s0) (mSE s0) ht_1 bu_1 hg_1 pq_1 ld_1 fo_1 ∧ nw_1 = cAH n (mST s0) (mWE s0) (mHA s0) (mPR s0) (mSE s0) ∧ fw_1 = cBE n (mST s0) (mWE s0) (mHA s0) (mPR s0) (mSE s0) := hw
  have hP : va_P G.1 vwCl [(m0, .inr (6, [.int (nI (th)), .ref ms, .ref mv, .int (nI (sm)), .ref mt, .int (nI (ln)), .ref mh, .ref mb, .ref mg, .ref mq, .ref ml, .ref mf, .int nw_1, .int fw_1, .int (nI (tp)), .int (bI (wr)), .long dg])), (ms, .inl (G.2.1, 88, .inl s0)), (mv, .inl (G.2.1, 528, .inl sv)), (mt, .inl (G.2.1, 60, .inl tx)), (mh, .inl (G.2.1, 21, .inl ht_1)), (mb, .inl (G.2.1, 21, .inl bu_1)), (mg, .inl (G.2.1, 21, .inl hg_1)), (mq, .inl (G.2.1, 21, .inl pq_1)), (ml, .inl (G.2.1, 21, .inl ld_1)), (mf, .inl (G.2.1, 20, .inl fo_1))] H := hP
  have hD : va_D A [(m0, .inr (6, [.int (nI (th)), .ref ms, .ref mv, .int (nI (sm)), .ref mt, .int (nI (ln)), .ref mh, .ref mb, .ref mg, .ref mq, .ref ml, .ref mf, .int nw_1, .int fw_1, .int (nI (tp)), .int (bI (wr)), .long dg])), (ms, .inl (G.2.1, 88, .inl s0)), (mv, .inl (G.2.1, 528, .inl sv)), (mt, .inl (G.2.1, 60, .inl tx)), (mh, .inl (G.2.1, 21, .inl ht_1)), (mb, .inl (G.2.1, 21, .inl bu_1)), (mg, .inl (G.2.1, 21, .inl hg_1)), (mq, .inl (G.2.1, 21, .inl pq_1)), (ml, .inl (G.2.1, 21, .inl ld_1)), (mf, .inl (G.2.1, 20, .inl fo_1))] := hD
  refine lv_iconst (v := 0) hx hb dX6_greatest_4 (by decide) ?_
  refine lv_istore_n (lv' := [(1, .int 0), (0, .ref m0)]) hx hb dX6_greatest_5 rfl hl (by decide) rfl (fun ls hl => ?_)
  refine lv_iconst (v := 0) hx hb dX6_greatest_6 (by decide) ?_
  refine lv_istore_n (lv' := [(2, .int 0), (1, .int 0), (0, .ref m0)]) hx hb dX6_greatest_7 rfl hl (by decide) rfl (fun ls hl => ?_)
  have L8 : ∀ (n9 : Nat) (i : Nat), (i ≤ n) → (n - i < n9) → ∀ (H : Heap) (locs : List Loc) (ls : Array Slot), va_P G.1 vwCl [(m0, .inr (6, [.int (nI (th)), .ref ms, .ref mv, .int (nI (sm)), .ref mt, .int (nI (ln)), .ref mh, .ref mb, .ref mg, .ref mq, .ref ml, .ref mf, .int nw_1, .int fw_1, .int (nI (tp)), .int (bI (wr)), .long dg])), (ms, .inl (G.2.1, 88, .inl s0)), (mv, .inl (G.2.1, 528, .inl sv)), (mt, .inl (G.2.1, 60, .inl tx)), (mh, .inl (G.2.1, 21, .inl ht_1)), (mb, .inl (G.2.1, 21, .inl bu_1)), (mg, .inl (G.2.1, 21, .inl hg_1)), (mq, .inl (G.2.1, 21, .inl pq_1)), (ml, .inl (G.2.1, 21, .inl ld_1)), (mf, .inl (G.2.1, 20, .inl fo_1))] H → va_D A [(m0, .inr (6, [.int (nI (th)), .ref ms, .ref mv, .int (nI (sm)), .ref mt, .int (nI (ln)), .ref mh, .ref mb, .ref mg, .ref mq, .ref ml, .ref mf, .int nw_1, .int fw_1, .int (nI (tp)), .int (bI (wr)), .long dg])), (ms, .inl (G.2.1, 88, .inl s0)), (mv, .inl (G.2.1, 528, .inl sv)), (mt, .inl (G.2.1, 60, .inl tx)), (mh, .inl (G.2.1, 21, .inl ht_1)), (mb, .inl (G.2.1, 21, .inl bu_1)), (mg, .inl (G.2.1, 21, .inl hg_1)), (mq, .inl (G.2.1, 21, .inl pq_1)), (ml, .inl (G.2.1, 21, .inl ld_1)), (mf, .inl (G.2.1, 20, .inl fo_1))] → va_S A s.heap H locs → lv_has ls 3 [(2, .int (nI i)), (1, .int (gM fo_1 i)), (0, .ref m0)] → W p l e ({ frames := 2, cells := 0, slots := 0, locals := 46 } : Room) s m args below meth c H locs 0 0 Q (F0 m 8 ls []) := by
    intro n9
    induction n9 with
    | zero =>
      intro i hi hm9 H locs ls hP hD hS hl
      exact absurd hm9 (Nat.not_lt_zero _)
    | succ n9 ih8 =>
      intro i hi hm9 H locs ls hP hD hS hl
      refine lv_iload_n hx hb dX6_greatest_8 rfl (lv_at hl 0 rfl) ?_
      refine lv_aload_n hx hb dX6_greatest_9 rfl (lv_at hl 2 rfl) ?_
      refine va_get (D := G.1) (ci := 6) (v := .ref ms) (C := RX6) (T := TX6) (N := 17) hx hb hts hinX6 hown hK hP 0 rfl rfl 1 (by decide) hf7 (fun _ h9 => h9) rfl dX6_greatest_10 ?_
      refine lv_iconst (v := 0) hx hb dX6_greatest_13 (by decide) ?_
      refine g_iald (k := 0) hx hb hK hP 1 rfl (by omega) (by omega) dX6_greatest_14 ?_
      refine g_ti (y := nI n) (hs0) ?_
      refine g_icmp_ge (a := i) (b := n) (tgt := 45) hx hb (by omega) (by omega) dX6_greatest_15 (by decide) (fun c_15 => ?_) (fun c_15 => ?_)
      · skip
        refine lv_iload_n hx hb dX6_greatest_45 rfl (lv_at hl 1 rfl) ?_
        have e9 : n = i := by omega
        subst e9
        rw [hQ]
        exact k_iret (v := gM fo_1 n) (ht_1, bu_1, hg_1, pq_1, ld_1, fo_1, nw_1, fw_1) [0, 1, 2, 3, 4, 5, 6, 7, 8, 9] hx hb hr hlocks (⟨gM_c n hw_1.1.2.2.2.2.2, hw_1⟩) hK hP hD hS rfl (by decide) dX6_greatest_46
      · skip
        refine lv_aload_n hx hb dX6_greatest_18 rfl (lv_at hl 2 rfl) ?_
        refine va_get (D := G.1) (ci := 6) (v := .ref mf) (C := RX6) (T := TX6) (N := 17) hx hb hts hinX6 hown hK hP 0 rfl rfl 11 (by decide) hf34 (fun _ h9 => h9) rfl dX6_greatest_19 ?_
        refine lv_iload_n hx hb dX6_greatest_22 rfl (lv_at hl 0 rfl) ?_
        refine g_iald (k := i) hx hb hK hP 9 rfl (by omega) (by omega) dX6_greatest_23 ?_
        refine lv_iload_n hx hb dX6_greatest_24 rfl (lv_at hl 1 rfl) ?_
        have L38 : ∀ (x : Int32), (x = gM fo_1 (i + 1)) → ∀ (H : Heap) (locs : List Loc) (ls : Array Slot), va_P G.1 vwCl [(m0, .inr (6, [.int (nI (th)), .ref ms, .ref mv, .int (nI (sm)), .ref mt, .int (nI (ln)), .ref mh, .ref mb, .ref mg, .ref mq, .ref ml, .ref mf, .int nw_1, .int fw_1, .int (nI (tp)), .int (bI (wr)), .long dg])), (ms, .inl (G.2.1, 88, .inl s0)), (mv, .inl (G.2.1, 528, .inl sv)), (mt, .inl (G.2.1, 60, .inl tx)), (mh, .inl (G.2.1, 21, .inl ht_1)), (mb, .inl (G.2.1, 21, .inl bu_1)), (mg, .inl (G.2.1, 21, .inl hg_1)), (mq, .inl (G.2.1, 21, .inl pq_1)), (ml, .inl (G.2.1, 21, .inl ld_1)), (mf, .inl (G.2.1, 20, .inl fo_1))] H → va_D A [(m0, .inr (6, [.int (nI (th)), .ref ms, .ref mv, .int (nI (sm)), .ref mt, .int (nI (ln)), .ref mh, .ref mb, .ref mg, .ref mq, .ref ml, .ref mf, .int nw_1, .int fw_1, .int (nI (tp)), .int (bI (wr)), .long dg])), (ms, .inl (G.2.1, 88, .inl s0)), (mv, .inl (G.2.1, 528, .inl sv)), (mt, .inl (G.2.1, 60, .inl tx)), (mh, .inl (G.2.1, 21, .inl ht_1)), (mb, .inl (G.2.1, 21, .inl bu_1)), (mg, .inl (G.2.1, 21, .inl hg_1)), (mq, .inl (G.2.1, 21, .inl pq_1)), (ml, .inl (G.2.1, 21, .inl ld_1)), (mf, .inl (G.2.1, 20, .inl fo_1))] → va_S A s.heap H locs → lv_has ls 3 [(2, .int (nI i)), (1, .int (gM fo_1 i)), (0, .ref m0)] → W p l e ({ frames := 2, cells := 0, slots := 0, locals := 46 } : Room) s m args below meth c H locs 0 0 Q (F0 m 38 ls [.int x]) := by
          intro x ex H locs ls hP hD hS hl
          subst ex
          refine lv_istore_n (lv' := [(1, .int (gM fo_1 (i + 1))), (2, .int (nI i)), (0, .ref m0)]) hx hb dX6_greatest_38 rfl hl (by decide) rfl (fun ls hl => ?_)
          refine lv_iinc (v := nI (i + 1)) (lv' := [(2, .int (nI (i + 1))), (1, .int (gM fo_1 (i + 1))), (0, .ref m0)]) hx hb dX6_greatest_39 hl (k := 1) rfl (nI_add (i) 1) (by decide) rfl (fun ls hl => ?_)
          refine lv_goto (tgt := 8) hx hb dX6_greatest_42 (by decide) ?_
          exact ih8 (i + 1) (by first | assumption | omega) (by omega) _ _ _ hP hD hS (lv_sub hl [0, 1, 2] rfl)
        refine lv_icmp_le (tgt := 37) hx hb dX6_greatest_25 (by decide) (fun c_25 => ?_) (fun c_25 => ?_)
        · skip
          refine lv_iload_n hx hb dX6_greatest_37 rfl (lv_at hl 1 rfl) ?_
          exact L38 (gM fo_1 i) ((mx_l c_25).symm) _ _ _ hP hD hS (lv_sub hl [0, 1, 2] rfl)
        · skip
          refine lv_aload_n hx hb dX6_greatest_28 rfl (lv_at hl 2 rfl) ?_
          refine va_get (D := G.1) (ci := 6) (v := .ref mf) (C := RX6) (T := TX6) (N := 17) hx hb hts hinX6 hown hK hP 0 rfl rfl 11 (by decide) hf34 (fun _ h9 => h9) rfl dX6_greatest_29 ?_
          refine lv_iload_n hx hb dX6_greatest_32 rfl (lv_at hl 0 rfl) ?_
          refine g_iald (k := i) hx hb hK hP 9 rfl (by omega) (by omega) dX6_greatest_33 ?_
          refine lv_goto (tgt := 38) hx hb dX6_greatest_34 (by decide) ?_
          exact L38 (fo_1 i) ((mx_r c_25).symm) _ _ _ hP hD hS (lv_sub hl [0, 1, 2] rfl)
  exact L8 (n - 0 + 1) 0 (by first | assumption | omega) (Nat.lt_succ_self _) _ _ _ hP hD hS (lv_sub hl [0, 1, 2] rfl)
