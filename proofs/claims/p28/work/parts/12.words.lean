/-! HangingChainModel (X6): what it tells, and what would be. Laid by wip/whole/gen.py, m12.py. -/
theorem in_isN' (k : Int32) {m : Nat} (hm : m < 2 ^ 30) {c : Int32} (hc : c = nI m) : decide (0 ≤ k ∧ k ≤ c) = isN k (m + 1) := by
  subst hc
  exact in_isN k hm
theorem inK_t {k : Int32} {m : Nat} (h : isN k (m + 1) = true) (hm : m < 2 ^ 30 := by decide) : bI (decide (0 ≤ k ∧ k ≤ nI m)) = nI 1 := by rw [in_isN k hm, h]; rfl
theorem inK_f {k : Int32} {m : Nat} (h : isN k (m + 1) = false) (hm : m < 2 ^ 30 := by decide) : bI (decide (0 ≤ k ∧ k ≤ nI m)) = nI 0 := by rw [in_isN k hm, h]; rfl
/-- chains that agree in their own range -/
def chEq (n : Nat) (st we ha pr se st2 we2 ha2 pr2 se2 : Fn) : Prop := (∀ k, k < n → st k = st2 k) ∧ (∀ k, k ≤ n → we k = we2 k ∧ ha k = ha2 k ∧ pr k = pr2 k) ∧ ∀ k, k < 4 → se k = se2 k
theorem sHT_c {st st2 : Fn} : ∀ i, (∀ k, k < i → st k = st2 k) → sHT st i = sHT st2 i := by
  intro i
  induction i with
  | zero => intro _; rfl
  | succ i ih =>
    intro h
    show sHT st i + _ = sHT st2 i + _
    rw [ih (fun k hk => h k (by omega)), h i (Nat.lt_succ_self _)]
section CHE
variable {n : Nat} {st we ha pr se st2 we2 ha2 pr2 se2 : Fn}
theorem che_bu (h : chEq n st we ha pr se st2 we2 ha2 pr2 se2) {k : Nat} (hk : k ≤ n) : sBU n we se k = sBU n we2 se2 k := by
  unfold sBU
  rw [(h.2.1 k hk).1, h.2.2 0 (by omega)]
theorem che_hg (h : chEq n st we ha pr se st2 we2 ha2 pr2 se2) {k : Nat} (hk : k ≤ n) : sHG n we ha se k = sHG n we2 ha2 se2 k := by
  unfold sHG
  rw [che_bu h hk, (h.2.1 k hk).2.1]
theorem che_ht (h : chEq n st we ha pr se st2 we2 ha2 pr2 se2) {k : Nat} (hk : k ≤ n) : sHT st k = sHT st2 k := sHT_c k (fun j hj => h.1 j (by omega))
theorem che_pp (h : chEq n st we ha pr se st2 we2 ha2 pr2 se2) {k : Nat} (hk : k ≤ n) : jPP n (sHT st) we ha pr se k = jPP n (sHT st2) we2 ha2 pr2 se2 k := by
  unfold jPP
  rw [che_ht h hk, che_bu h hk, che_hg h hk, (h.2.1 k hk).2.2, h.2.2 1 (by omega)]
theorem che_ld (h : chEq n st we ha pr se st2 we2 ha2 pr2 se2) {k : Nat} (hk : k ≤ n) : cLD n st we ha pr se k = cLD n st2 we2 ha2 pr2 se2 k := by
  show sBU n we se k - sHG n we ha se k - jPP n (sHT st) we ha pr se k = sBU n we2 se2 k - sHG n we2 ha2 se2 k - jPP n (sHT st2) we2 ha2 pr2 se2 k
  rw [che_bu h hk, che_hg h hk, che_pp h hk]
theorem che_ah (h : chEq n st we ha pr se st2 we2 ha2 pr2 se2) : cAH n st we ha pr se = cAH n st2 we2 ha2 pr2 se2 := wAH_c _ (fun _ hk => che_ld h (by omega))
theorem che_be (h : chEq n st we ha pr se st2 we2 ha2 pr2 se2) : cBE n st we ha pr se = cBE n st2 we2 ha2 pr2 se2 := wBE_c _ (fun _ hk => che_ld h (by omega))
theorem che_fo (h : chEq n st we ha pr se st2 we2 ha2 pr2 se2) {k : Nat} (hk : k < n) : cFO n st we ha pr se k = cFO n st2 we2 ha2 pr2 se2 k := by
  show sFO (cAH n st we ha pr se) (cLD n st we ha pr se) st se k = sFO (cAH n st2 we2 ha2 pr2 se2) (cLD n st2 we2 ha2 pr2 se2) st2 se2 k
  rw [che_ah h, sFO_c (fun j hj => che_ld h hj) k hk]
  unfold sFO
  rw [h.1 k hk, h.2.2 2 (by omega)]
theorem che_gr (h : chEq n st we ha pr se st2 we2 ha2 pr2 se2) : cGR n st we ha pr se = cGR n st2 we2 ha2 pr2 se2 := gM_c n (fun _ hk => che_fo h hk)
end CHE
theorem chEq_rf {n : Nat} {st we ha pr se : Fn} : chEq n st we ha pr se st we ha pr se := ⟨fun _ _ => rfl, fun _ _ => ⟨rfl, rfl, rfl⟩, fun _ _ => rfl⟩
/-- told of a link, a joint, the chain -/
def tLk (n : Nat) (st we ha pr se : Fn) (j : Nat) : Nat → Int32
  | 0 => st j + 2
  | 1 => cFO n st we ha pr se j
  | _ => if se 3 < cFO n st we ha pr se j then 1 else 0
theorem tLk2_t {n : Nat} {s : Fn} {j : Nat} {f : Int32} (h : f = cFO n (mST s) (mWE s) (mHA s) (mPR s) (mSE s) j) (c : ¬ f ≤ s 4) : 1 = tLk n (mST s) (mWE s) (mHA s) (mPR s) (mSE s) j 2 := by
  show 1 = if mSE s 3 < cFO n (mST s) (mWE s) (mHA s) (mPR s) (mSE s) j then 1 else 0
  rw [← h]
  exact (if_pos (i32_lt c)).symm
theorem tLk2_f {n : Nat} {s : Fn} {j : Nat} {f : Int32} (h : f = cFO n (mST s) (mWE s) (mHA s) (mPR s) (mSE s) j) (c : f ≤ s 4) : 0 = tLk n (mST s) (mWE s) (mHA s) (mPR s) (mSE s) j 2 := by
  show 0 = if mSE s 3 < cFO n (mST s) (mWE s) (mHA s) (mPR s) (mSE s) j then 1 else 0
  rw [← h]
  exact (if_neg (i32_nlt c)).symm
def tJt (n : Nat) (st we ha pr se : Fn) (j : Nat) : Nat → Int32
  | 0 => sHT st j + 100
  | 1 => we j
  | 2 => ha j
  | 3 => pr j
  | 4 => sBU n we se j
  | 5 => sHG n we ha se j
  | 6 => jPP n (sHT st) we ha pr se j
  | _ => cLD n st we ha pr se j
def tCt (n : Nat) (st we ha pr se : Fn) (sm : Nat) : Nat → Int32
  | 0 => nI n
  | 1 => sumN we (n + 1)
  | 2 => sumN (cLD n st we ha pr se) (n + 1)
  | 3 => cAH n st we ha pr se
  | 4 => cBE n st we ha pr se
  | 5 => cGR n st we ha pr se
  | 6 => nI (brN (cFO n st we ha pr se) (se 3) n)
  | 7 => if cGR n st we ha pr se ≤ se 3 then 1 else 0
  | 8 => nI (loN (sHT st) n)
  | 9 => sHT st (loN (sHT st) n) + 100
  | _ => nI sm
theorem sumN_c {f g : Fn} : ∀ i, (∀ k, k < i → f k = g k) → sumN f i = sumN g i := by
  intro i
  induction i with
  | zero => intro _; rfl
  | succ i ih =>
    intro h
    show sumN f i + _ = sumN g i + _
    rw [ih (fun k hk => h k (by omega)), h i (Nat.lt_succ_self _)]
theorem brN_c {f g : Fn} {m : Int32} : ∀ i, (∀ k, k < i → f k = g k) → brN f m i = brN g m i := by
  intro i
  induction i with
  | zero => intro _; rfl
  | succ i ih =>
    intro h
    show brN f m i + _ = brN g m i + _
    rw [ih (fun k hk => h k (by omega)), h i (Nat.lt_succ_self _)]
theorem loN_c {f g : Fn} : ∀ i, (∀ k, k ≤ i → f k = g k) → loN f i = loN g i := by
  intro i
  induction i with
  | zero => intro _; rfl
  | succ i ih =>
    intro h
    show (if f (i + 1) < f (loN f i) then i + 1 else loN f i) = (if g (i + 1) < g (loN g i) then i + 1 else loN g i)
    rw [ih (fun k hk => h k (by omega)), h (i + 1) (Nat.le_refl _), h (loN g i) (by have := loN_le g i; omega)]
theorem brN_1 {fo : Fn} {m : Int32} {i : Nat} (c : ¬ fo i ≤ m) : brN fo m i + 1 = brN fo m (i + 1) := by
  show _ = brN fo m i + (if m < fo i then 1 else 0)
  rw [if_pos (i32_lt c)]
theorem brN_0 {fo : Fn} {m : Int32} {i : Nat} (c : fo i ≤ m) : brN fo m i + 0 = brN fo m (i + 1) := by
  show _ = brN fo m i + (if m < fo i then 1 else 0)
  rw [if_neg (i32_nlt c)]
theorem mx_le {a b m : Int32} : mx a b ≤ m ↔ a ≤ m ∧ b ≤ m := by
  unfold mx
  by_cases q : a < b
  · rw [if_pos q]
    exact ⟨fun h => ⟨Int32.le_trans (Int32.le_of_lt q) h, h⟩, fun h => h.2⟩
  · rw [if_neg q]
    exact ⟨fun h => ⟨h, Int32.le_trans (Int32.not_lt.mp q) h⟩, fun h => h.1⟩
/-- no force is above m if and only if none breaks -/
theorem gM_brN {fo : Fn} {m : Int32} (h0 : 0 ≤ m) : ∀ i, gM fo i ≤ m ↔ brN fo m i = 0 := by
  intro i
  induction i with
  | zero => exact ⟨fun _ => rfl, fun _ => h0⟩
  | succ i ih =>
    show mx (gM fo i) (fo i) ≤ m ↔ brN fo m i + (if m < fo i then 1 else 0) = 0
    rw [mx_le, ih]
    by_cases q : m < fo i
    · rw [if_pos q]
      exact ⟨fun h => absurd q (i32_nlt h.2), fun h => absurd h (by omega)⟩
    · rw [if_neg q]
      exact ⟨fun h => by omega, fun h => ⟨by omega, Int32.not_lt.mp q⟩⟩
section CNT
variable {n : Nat} {s ht bu hg pq ld fo : Fn}
theorem cnt2 (_ : mOK s n) (h : okB n (mST s) (mWE s) (mHA s) (mPR s) (mSE s) ht bu hg pq ld fo) : sumN ld (n + 1) = sumN (cLD n (mST s) (mWE s) (mHA s) (mPR s) (mSE s)) (n + 1) := sumN_c _ (fun k hk => h.2.2.2.2.1 k (by omega))
theorem cnt6 (h : okB n (mST s) (mWE s) (mHA s) (mPR s) (mSE s) ht bu hg pq ld fo) : nI (brN fo (s 4) n) = nI (brN (cFO n (mST s) (mWE s) (mHA s) (mPR s) (mSE s)) (mSE s 3) n) := congrArg nI (brN_c n h.2.2.2.2.2)
theorem cnt7 (hok : mOK s n) (h : okB n (mST s) (mWE s) (mHA s) (mPR s) (mSE s) ht bu hg pq ld fo) : cGR n (mST s) (mWE s) (mHA s) (mPR s) (mSE s) ≤ mSE s 3 ↔ brN fo (s 4) n = 0 := by
  have h1 : (0 : Int32) ≤ mSE s 3 := Int32.le_trans (by decide) hok.2.2.2.2.2.2.2.2.2.1
  rw [show brN fo (s 4) n = brN (cFO n (mST s) (mWE s) (mHA s) (mPR s) (mSE s)) (mSE s 3) n from brN_c n h.2.2.2.2.2]
  exact gM_brN h1 n
theorem cnt7_t (hok : mOK s n) (h : okB n (mST s) (mWE s) (mHA s) (mPR s) (mSE s) ht bu hg pq ld fo) (c : brN fo (s 4) n = 0) : 1 = if cGR n (mST s) (mWE s) (mHA s) (mPR s) (mSE s) ≤ mSE s 3 then (1 : Int32) else 0 := (if_pos ((cnt7 hok h).mpr c)).symm
theorem cnt7_f (hok : mOK s n) (h : okB n (mST s) (mWE s) (mHA s) (mPR s) (mSE s) ht bu hg pq ld fo) (c : brN fo (s 4) n ≠ 0) : 0 = if cGR n (mST s) (mWE s) (mHA s) (mPR s) (mSE s) ≤ mSE s 3 then (1 : Int32) else 0 := (if_neg (fun q => c ((cnt7 hok h).mp q))).symm
theorem cnt8 (h : okB n (mST s) (mWE s) (mHA s) (mPR s) (mSE s) ht bu hg pq ld fo) : nI (loN ht n) = nI (loN (sHT (mST s)) n) := congrArg nI (loN_c n h.1)
theorem cnt9 (h : okB n (mST s) (mWE s) (mHA s) (mPR s) (mSE s) ht bu hg pq ld fo) : ht (loN ht n) + 100 = sHT (mST s) (loN (sHT (mST s)) n) + 100 := by
  rw [loN_c n h.1, h.1 _ (loN_le _ n)]
end CNT
theorem upd_back (s : Fn) (a : Nat) (v : Int32) : upd (upd s a v) a (s a) = s := by
  funext j
  by_cases h : j = a
  · subst h
    rw [pk_us]
  · rw [pk_un h, pk_un h]
/-- the greatest force if: a weight, a hanger, a step were another, or the weight of j were moved to t -/
def gWe (n : Nat) (st we ha pr se : Fn) (j : Nat) (v : Int32) : Int32 := cGR n st (upd we j v) ha pr se
def gHg (n : Nat) (st we ha pr se : Fn) (v : Int32) (k : Nat) : Int32 := cGR n st we (upd ha k (mn 99 (ha k + v))) pr se
def stI (i : Nat) : Int32 := nI i + (-2)
def gSp (n : Nat) (st we ha pr se : Fn) (j : Nat) (i : Nat) : Int32 := cGR n (upd st j (stI i)) we ha pr se
def gMv (n : Nat) (st we ha pr se : Fn) (j t : Nat) : Int32 := cGR n st (mvN we j t) ha pr se
def wI (i : Nat) : Int32 := nI i + (-1)
theorem wI_S (i : Nat) : wI (i + 1) = nI i := pk_m1 i
def pWe (n : Nat) (st we ha pr se : Fn) (j : Nat) (v : Nat) : Bool := decide (gWe n st we ha pr se j (nI v) ≤ se 3)
/-- the greatest number below i with P, -1 if there is none -/
def hvI (P : Nat → Bool) : Nat → Int32
  | 0 => -1
  | i + 1 => if P i = true then nI i else hvI P i
theorem hvI_t {P : Nat → Bool} {i : Nat} (h : P i = true) : hvI P (i + 1) = nI i := if_pos h
theorem hvI_f {P : Nat → Bool} {i : Nat} (h : P i = false) : hvI P (i + 1) = hvI P i := if_neg (by rw [h]; decide)
theorem pWe_t {n : Nat} {s : Fn} {j i : Nat} (c : ¬ s 4 < gWe n (mST s) (mWE s) (mHA s) (mPR s) (mSE s) j (nI i)) : pWe n (mST s) (mWE s) (mHA s) (mPR s) (mSE s) j i = true := decide_eq_true (i32_le c)
theorem pWe_f {n : Nat} {s : Fn} {j i : Nat} (c : s 4 < gWe n (mST s) (mWE s) (mHA s) (mPR s) (mSE s) j (nI i)) : pWe n (mST s) (mWE s) (mHA s) (mPR s) (mSE s) j i = false := decide_eq_false (i32_nle c)
theorem r99_nI {i : Nat} (h : i ≤ 99) : 0 ≤ nI i ∧ nI i ≤ 99 := ⟨nI_pos' (by omega), nI_le (b := 99) h (by omega)⟩
theorem upd_e {f : Fn} {a j : Nat} {v : Int32} (h : j = a) : upd f a v j = v := by rw [h, pk_us]
section MUP
variable {s : Fn} {n j : Nat} {v : Int32}
theorem mOK_we (hok : mOK s n) (hj : j ≤ n) (hv : 0 ≤ v ∧ v ≤ 99) : mOK (upd s (25 + j) v) n := by
  obtain ⟨h0, h1, h2, c1, c2, c3⟩ := hok
  refine ⟨by rw [pk_un (by omega)]; exact h0, h1, h2, fun k hk => ?_, fun k hk => ⟨?_, ?_, ?_⟩, ?_⟩
  · show -2 ≤ upd s (25 + j) v (5 + k) ∧ upd s (25 + j) v (5 + k) ≤ 2
    rw [pk_un (by omega)]
    exact c1 k hk
  · show r99 (upd s (25 + j) v (25 + k))
    by_cases q : k = j
    · rw [upd_e (by omega)]; exact hv
    · rw [pk_un (by omega)]; exact (c2 k hk).1
  · show r99 (upd s (25 + j) v (46 + k))
    rw [pk_un (by omega)]; exact (c2 k hk).2.1
  · show r99 (upd s (25 + j) v (67 + k))
    rw [pk_un (by omega)]; exact (c2 k hk).2.2
  · show 0 ≤ upd s (25 + j) v (1 + 0) ∧ upd s (25 + j) v (1 + 0) ≤ 20 ∧ 0 ≤ upd s (25 + j) v (1 + 2) ∧ upd s (25 + j) v (1 + 2) ≤ 20 ∧ 1 ≤ upd s (25 + j) v (1 + 3) ∧ upd s (25 + j) v (1 + 3) ≤ 999
    rw [pk_un (by omega), pk_un (by omega), pk_un (by omega)]
    exact c3
theorem mEQ_we (hok : mOK s n) (hj : j ≤ n) : chEq n (mST (upd s (25 + j) v)) (mWE (upd s (25 + j) v)) (mHA (upd s (25 + j) v)) (mPR (upd s (25 + j) v)) (mSE (upd s (25 + j) v)) (mST s) (upd (mWE s) j v) (mHA s) (mPR s) (mSE s) := by
  obtain ⟨h0, h1, h2, -⟩ := hok
  refine ⟨fun k hk => pk_un (by omega), fun k hk => ⟨?_, pk_un (by omega), pk_un (by omega)⟩, fun k hk => pk_un (by omega)⟩
  show upd s (25 + j) v (25 + k) = upd (mWE s) j v k
  by_cases q : k = j
  · rw [upd_e (by omega), upd_e q]
  · rw [pk_un (by omega), pk_un q]; rfl
theorem mGR_we (hok : mOK s n) (hj : j ≤ n) : cGR n (mST (upd s (25 + j) v)) (mWE (upd s (25 + j) v)) (mHA (upd s (25 + j) v)) (mPR (upd s (25 + j) v)) (mSE (upd s (25 + j) v)) = gWe n (mST s) (mWE s) (mHA s) (mPR s) (mSE s) j v := che_gr (mEQ_we hok hj)
theorem mOK_ha (hok : mOK s n) (hj : j ≤ n) (hv : 0 ≤ v ∧ v ≤ 99) : mOK (upd s (46 + j) v) n := by
  obtain ⟨h0, h1, h2, c1, c2, c3⟩ := hok
  refine ⟨by rw [pk_un (by omega)]; exact h0, h1, h2, fun k hk => ?_, fun k hk => ⟨?_, ?_, ?_⟩, ?_⟩
  · show -2 ≤ upd s (46 + j) v (5 + k) ∧ upd s (46 + j) v (5 + k) ≤ 2
    rw [pk_un (by omega)]
    exact c1 k hk
  · show r99 (upd s (46 + j) v (25 + k))
    rw [pk_un (by omega)]; exact (c2 k hk).1
  · show r99 (upd s (46 + j) v (46 + k))
    by_cases q : k = j
    · rw [upd_e (by omega)]; exact hv
    · rw [pk_un (by omega)]; exact (c2 k hk).2.1
  · show r99 (upd s (46 + j) v (67 + k))
    rw [pk_un (by omega)]; exact (c2 k hk).2.2
  · show 0 ≤ upd s (46 + j) v (1 + 0) ∧ upd s (46 + j) v (1 + 0) ≤ 20 ∧ 0 ≤ upd s (46 + j) v (1 + 2) ∧ upd s (46 + j) v (1 + 2) ≤ 20 ∧ 1 ≤ upd s (46 + j) v (1 + 3) ∧ upd s (46 + j) v (1 + 3) ≤ 999
    rw [pk_un (by omega), pk_un (by omega), pk_un (by omega)]
    exact c3
theorem mEQ_ha (hok : mOK s n) (hj : j ≤ n) : chEq n (mST (upd s (46 + j) v)) (mWE (upd s (46 + j) v)) (mHA (upd s (46 + j) v)) (mPR (upd s (46 + j) v)) (mSE (upd s (46 + j) v)) (mST s) (mWE s) (upd (mHA s) j v) (mPR s) (mSE s) := by
  obtain ⟨h0, h1, h2, -⟩ := hok
  refine ⟨fun k hk => pk_un (by omega), fun k hk => ⟨pk_un (by omega), ?_, pk_un (by omega)⟩, fun k hk => pk_un (by omega)⟩
  show upd s (46 + j) v (46 + k) = upd (mHA s) j v k
  by_cases q : k = j
  · rw [upd_e (by omega), upd_e q]
  · rw [pk_un (by omega), pk_un q]; rfl
theorem mGR_ha {w : Int32} (hok : mOK s n) (hj : j ≤ n) : cGR n (mST (upd s (46 + j) (mn 99 (s (46 + j) + w)))) (mWE (upd s (46 + j) (mn 99 (s (46 + j) + w)))) (mHA (upd s (46 + j) (mn 99 (s (46 + j) + w)))) (mPR (upd s (46 + j) (mn 99 (s (46 + j) + w)))) (mSE (upd s (46 + j) (mn 99 (s (46 + j) + w)))) = gHg n (mST s) (mWE s) (mHA s) (mPR s) (mSE s) w j := che_gr (mEQ_ha hok hj)
theorem mOK_st (hok : mOK s n) (hj : j < n) (hv : -2 ≤ v ∧ v ≤ 2) : mOK (upd s (5 + j) v) n := by
  obtain ⟨h0, h1, h2, c1, c2, c3⟩ := hok
  refine ⟨by rw [pk_un (by omega)]; exact h0, h1, h2, fun k hk => ?_, fun k hk => ⟨?_, ?_, ?_⟩, ?_⟩
  · show -2 ≤ upd s (5 + j) v (5 + k) ∧ upd s (5 + j) v (5 + k) ≤ 2
    by_cases q : k = j
    · rw [upd_e (by omega)]; exact hv
    · rw [pk_un (by omega)]; exact c1 k hk
  · show r99 (upd s (5 + j) v (25 + k))
    rw [pk_un (by omega)]; exact (c2 k hk).1
  · show r99 (upd s (5 + j) v (46 + k))
    rw [pk_un (by omega)]; exact (c2 k hk).2.1
  · show r99 (upd s (5 + j) v (67 + k))
    rw [pk_un (by omega)]; exact (c2 k hk).2.2
  · show 0 ≤ upd s (5 + j) v (1 + 0) ∧ upd s (5 + j) v (1 + 0) ≤ 20 ∧ 0 ≤ upd s (5 + j) v (1 + 2) ∧ upd s (5 + j) v (1 + 2) ≤ 20 ∧ 1 ≤ upd s (5 + j) v (1 + 3) ∧ upd s (5 + j) v (1 + 3) ≤ 999
    rw [pk_un (by omega), pk_un (by omega), pk_un (by omega)]
    exact c3
theorem mEQ_st (hok : mOK s n) (hj : j < n) : chEq n (mST (upd s (5 + j) v)) (mWE (upd s (5 + j) v)) (mHA (upd s (5 + j) v)) (mPR (upd s (5 + j) v)) (mSE (upd s (5 + j) v)) (upd (mST s) j v) (mWE s) (mHA s) (mPR s) (mSE s) := by
  obtain ⟨h0, h1, h2, -⟩ := hok
  refine ⟨fun k hk => ?_, fun k hk => ⟨pk_un (by omega), pk_un (by omega), pk_un (by omega)⟩, fun k hk => pk_un (by omega)⟩
  show upd s (5 + j) v (5 + k) = upd (mST s) j v k
  by_cases q : k = j
  · rw [upd_e (by omega), upd_e q]
  · rw [pk_un (by omega), pk_un q]; rfl
theorem mGR_st {i : Nat} (hok : mOK s n) (hj : j < n) : cGR n (mST (upd s (5 + j) (stI i))) (mWE (upd s (5 + j) (stI i))) (mHA (upd s (5 + j) (stI i))) (mPR (upd s (5 + j) (stI i))) (mSE (upd s (5 + j) (stI i))) = gSp n (mST s) (mWE s) (mHA s) (mPR s) (mSE s) j i := che_gr (mEQ_st hok hj)
end MUP
theorem i99 {x : Int32} (h : r99 x) : ∃ i : Nat, i ≤ 99 ∧ x = nI i := nI_of2 (M := 99) rfl (Int32.not_lt.mpr h.1) h.2
theorem mvBy_r99 {we : Fn} {j t : Nat} (h1 : r99 (we j)) (h2 : r99 (we t)) : ∃ b : Nat, mvBy we j t = nI b ∧ ∃ x y : Nat, we j = nI x ∧ we t = nI y ∧ b ≤ x ∧ y + b ≤ 99 ∧ x ≤ 99 := by
  obtain ⟨x, hx, ex⟩ := i99 h1
  obtain ⟨y, hy, ey⟩ := i99 h2
  have e : (99 : Int32) - nI y = nI (99 - y) := pk_sub (a := 99) hy
  unfold mvBy
  rw [ex, ey, e]
  by_cases q : nI (99 - y) < nI x
  · rw [if_pos q]
    have q2 := (nI_ltI (by omega) (by omega)).mp q
    exact ⟨99 - y, rfl, x, y, rfl, rfl, by omega, by omega, hx⟩
  · rw [if_neg q]
    have q2 : ¬ 99 - y < x := fun z => q ((nI_ltI (by omega) (by omega)).mpr z)
    exact ⟨x, rfl, x, y, rfl, rfl, Nat.le_refl _, by omega, hx⟩
section MMV
variable {s : Fn} {n j t : Nat}
theorem mMov_j (h : j ≠ t) : mMov s j t (25 + j) = s (25 + j) - mvBy (mWE s) j t := by
  unfold mMov
  rw [pk_un (by omega), pk_us]
theorem mMov_t (h : j ≠ t) : mMov s j t (25 + t) = s (25 + t) + mvBy (mWE s) j t := by
  unfold mMov
  rw [pk_us, pk_un (by omega)]
theorem mMov_o {k : Nat} (h1 : k ≠ 25 + j) (h2 : k ≠ 25 + t) : mMov s j t k = s k := by
  unfold mMov
  rw [pk_un h2, pk_un h1]
theorem mOK_mov (hok : mOK s n) (hj : j ≤ n) (ht : t ≤ n) (hjt : j ≠ t) : mOK (mMov s j t) n := by
  obtain ⟨h0, h1, h2, c1, c2, c3⟩ := hok
  obtain ⟨b, eb, x, y, ex, ey, hb1, hb2, hx⟩ := mvBy_r99 (we := mWE s) (c2 j hj).1 (c2 t ht).1
  have ej : mMov s j t (25 + j) = nI (x - b) := by rw [mMov_j hjt, eb, show s (25 + j) = nI x from ex, pk_sub hb1]
  have et : mMov s j t (25 + t) = nI (y + b) := by rw [mMov_t hjt, eb, show s (25 + t) = nI y from ey, nI_add]
  refine ⟨by rw [mMov_o (by omega) (by omega)]; exact h0, h1, h2, fun k hk => ?_, fun k hk => ⟨?_, ?_, ?_⟩, ?_⟩
  · show -2 ≤ mMov s j t (5 + k) ∧ mMov s j t (5 + k) ≤ 2
    rw [mMov_o (by omega) (by omega)]
    exact c1 k hk
  · show r99 (mMov s j t (25 + k))
    by_cases q : k = j
    · rw [q, ej]; exact r99_nI (by omega)
    · by_cases q2 : k = t
      · rw [q2, et]; exact r99_nI (by omega)
      · rw [mMov_o (by omega) (by omega)]; exact (c2 k hk).1
  · show r99 (mMov s j t (46 + k))
    rw [mMov_o (by omega) (by omega)]; exact (c2 k hk).2.1
  · show r99 (mMov s j t (67 + k))
    rw [mMov_o (by omega) (by omega)]; exact (c2 k hk).2.2
  · show 0 ≤ mMov s j t (1 + 0) ∧ mMov s j t (1 + 0) ≤ 20 ∧ 0 ≤ mMov s j t (1 + 2) ∧ mMov s j t (1 + 2) ≤ 20 ∧ 1 ≤ mMov s j t (1 + 3) ∧ mMov s j t (1 + 3) ≤ 999
    rw [mMov_o (by omega) (by omega), mMov_o (by omega) (by omega), mMov_o (by omega) (by omega)]
    exact c3
theorem mEQ_mov (hok : mOK s n) (hj : j ≤ n) (ht : t ≤ n) (hjt : j ≠ t) : chEq n (mST (mMov s j t)) (mWE (mMov s j t)) (mHA (mMov s j t)) (mPR (mMov s j t)) (mSE (mMov s j t)) (mST s) (mvN (mWE s) j t) (mHA s) (mPR s) (mSE s) := by
  obtain ⟨h0, h1, h2, -⟩ := hok
  refine ⟨fun k hk => mMov_o (by omega) (by omega), fun k hk => ⟨?_, mMov_o (by omega) (by omega), mMov_o (by omega) (by omega)⟩, fun k hk => mMov_o (by omega) (by omega)⟩
  show mMov s j t (25 + k) = mvN (mWE s) j t k
  unfold mvN
  by_cases q2 : k = t
  · rw [q2, mMov_t hjt, pk_us, pk_un (Ne.symm hjt)]; rfl
  · rw [pk_un q2]
    by_cases q : k = j
    · rw [q, mMov_j hjt, pk_us]; rfl
    · rw [mMov_o (by omega) (by omega), pk_un q]; rfl
theorem mGR_mov (hok : mOK s n) (hj : j ≤ n) (ht : t ≤ n) (hjt : j ≠ t) : cGR n (mST (mMov s j t)) (mWE (mMov s j t)) (mHA (mMov s j t)) (mPR (mMov s j t)) (mSE (mMov s j t)) = gMv n (mST s) (mWE s) (mHA s) (mPR s) (mSE s) j t := che_gr (mEQ_mov hok hj ht hjt)
theorem mMov_back (hjt : j ≠ t) : upd (upd (mMov s j t) (25 + j) ((mMov s j t) (25 + j) + mvBy (mWE s) j t)) (25 + t) ((upd (mMov s j t) (25 + j) ((mMov s j t) (25 + j) + mvBy (mWE s) j t)) (25 + t) - mvBy (mWE s) j t) = s := by
  rw [pk_un (show 25 + t ≠ 25 + j by omega), mMov_j hjt, mMov_t hjt, Int32.sub_add_cancel, Int32.add_sub_cancel]
  funext k
  by_cases q2 : k = 25 + t
  · rw [q2, pk_us]
  · rw [pk_un q2]
    by_cases q : k = 25 + j
    · rw [q, pk_us]
    · rw [pk_un q, mMov_o q q2]
end MMV
/-- the best of many: the first with the least -/
def bst (F : Fn) (j : Nat) : Nat → Int32 × Int32
  | 0 => (-1, 0)
  | i + 1 => if i = j then bst F j i else if (bst F j i).1 = -1 ∨ F i < (bst F j i).2 then (nI i, F i) else bst F j i
def bsh (F : Fn) : Nat → Int32 × Int32
  | 0 => (-1, 0)
  | i + 1 => if (bsh F i).1 = -1 ∨ F (i + 1) < (bsh F i).2 then (nI (i + 1), F (i + 1)) else bsh F i
def bsp (F : Fn) : Nat → Int32 × Int32
  | 0 => (-3, 0)
  | i + 1 => if (bsp F i).1 = -3 ∨ F i < (bsp F i).2 then (stI i, F i) else bsp F i
section BST
variable {F : Fn} {j i : Nat} {fd le : Int32}
theorem bst_s (h : (fd, le) = bst F j i) (e : i = j) : (fd, le) = bst F j (i + 1) := by rw [h]; exact (if_pos e).symm
theorem bst_t (h : (fd, le) = bst F j i) (e : i ≠ j) (c : fd = -1 ∨ F i < le) : (nI i, F i) = bst F j (i + 1) := by
  show _ = if i = j then bst F j i else if (bst F j i).1 = -1 ∨ F i < (bst F j i).2 then (nI i, F i) else bst F j i
  rw [if_neg e, ← h, if_pos c]
theorem bst_k (h : (fd, le) = bst F j i) (e : i ≠ j) (c1 : ¬ fd = -1) (c2 : ¬ F i < le) : (fd, le) = bst F j (i + 1) := by
  show _ = if i = j then bst F j i else if (bst F j i).1 = -1 ∨ F i < (bst F j i).2 then (nI i, F i) else bst F j i
  rw [if_neg e, ← h, if_neg (fun q => q.elim c1 c2)]
theorem bsh_t (h : (fd, le) = bsh F i) (c : fd = -1 ∨ F (i + 1) < le) : (nI (i + 1), F (i + 1)) = bsh F (i + 1) := by
  show _ = if (bsh F i).1 = -1 ∨ F (i + 1) < (bsh F i).2 then (nI (i + 1), F (i + 1)) else bsh F i
  rw [← h, if_pos c]
theorem bsh_k (h : (fd, le) = bsh F i) (c1 : ¬ fd = -1) (c2 : ¬ F (i + 1) < le) : (fd, le) = bsh F (i + 1) := by
  show _ = if (bsh F i).1 = -1 ∨ F (i + 1) < (bsh F i).2 then (nI (i + 1), F (i + 1)) else bsh F i
  rw [← h, if_neg (fun q => q.elim c1 c2)]
theorem bsp_t (h : (fd, le) = bsp F i) (c : fd = -3 ∨ F i < le) : (stI i, F i) = bsp F (i + 1) := by
  show _ = if (bsp F i).1 = -3 ∨ F i < (bsp F i).2 then (stI i, F i) else bsp F i
  rw [← h, if_pos c]
theorem bsp_k (h : (fd, le) = bsp F i) (c1 : ¬ fd = -3) (c2 : ¬ F i < le) : (fd, le) = bsp F (i + 1) := by
  show _ = if (bsp F i).1 = -3 ∨ F i < (bsp F i).2 then (stI i, F i) else bsp F i
  rw [← h, if_neg (fun q => q.elim c1 c2)]
end BST
def bTo (n : Nat) (st we ha pr se : Fn) (j : Nat) : Int32 := if we j = 0 then -1 else (bst (gMv n st we ha pr se j) j (n + 1)).1
theorem bTo_of {s : Fn} {n j i : Nat} {fd le : Int32} (hB : (fd, le) = bst (gMv n (mST s) (mWE s) (mHA s) (mPR s) (mSE s) j) j i) (hok : mOK s n) (hj : j ≤ n) (hi : i ≤ n + 1) (hz : s (25 + j) ≤ 0 → i = 0) (h : n < i ∨ s (25 + j) ≤ 0) : fd = bTo n (mST s) (mWE s) (mHA s) (mPR s) (mSE s) j := by
  have h0 : 0 ≤ s (25 + j) := (hok.2.2.2.2.1 j hj).1.1
  unfold bTo
  by_cases q : mWE s j = 0
  · rw [if_pos q]
    have e := hz (by rw [show s (25 + j) = 0 from q]; decide)
    subst e
    exact congrArg Prod.fst hB
  · rw [if_neg q]
    rcases h with h | h
    · have e : i = n + 1 := by omega
      subst e
      exact congrArg Prod.fst hB
    · exact absurd (Int32.le_antisymm h h0) q
theorem mn99_l {x : Int32} (c : ¬ x ≤ 99) : mn 99 x = 99 := if_neg (Int32.not_lt.mpr (Int32.le_of_lt (Int32.not_le.mp c)))
theorem mn99_k {x : Int32} (c : x ≤ 99) : mn 99 x = x := mn_l c
theorem mn99_r {s : Fn} {n k : Nat} {v : Int32} (hok : mOK s n) (hv : 0 ≤ v ∧ v ≤ 99) (hk : k ≤ n) : 0 ≤ mn 99 (s (46 + k) + v) ∧ mn 99 (s (46 + k) + v) ≤ 99 := by
  obtain ⟨x, hx, ex⟩ := i99 (hok.2.2.2.2.1 k hk).2.1
  obtain ⟨y, hy, ey⟩ := i99 hv
  rw [show s (46 + k) = nI x from ex, ey, nI_add]
  by_cases q : nI (x + y) ≤ 99
  · rw [mn99_k q]
    exact ⟨nI_pos' (by omega), q⟩
  · rw [mn99_l q]
    exact ⟨by decide, by decide⟩
theorem stI_S (i : Nat) : stI i + 1 = stI (i + 1) := by
  unfold stI
  rw [nI_succ, Int32.add_assoc, Int32.add_assoc, Int32.add_comm (-2) 1]
theorem stI_gt {i : Nat} (hi : i ≤ 5) (c : 2 < stI i) : 5 = i := by
  rcases (show i = 0 ∨ i = 1 ∨ i = 2 ∨ i = 3 ∨ i = 4 ∨ i = 5 by omega) with q | q | q | q | q | q <;> subst q <;> first | rfl | exact absurd c (by decide)
theorem stI_le {i : Nat} (hi : i ≤ 5) (c : ¬ 2 < stI i) : i < 5 := by
  rcases (show i = 0 ∨ i = 1 ∨ i = 2 ∨ i = 3 ∨ i = 4 ∨ i = 5 by omega) with q | q | q | q | q | q <;> subst q <;> first | omega | exact absurd (by decide) c
theorem stI_r {i : Nat} (hi : i < 5) : -2 ≤ stI i ∧ stI i ≤ 2 := by
  rcases (show i = 0 ∨ i = 1 ∨ i = 2 ∨ i = 3 ∨ i = 4 by omega) with q | q | q | q | q <;> subst q <;> exact ⟨by decide, by decide⟩
