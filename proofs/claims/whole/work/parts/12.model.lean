/-! HangingChainModel (X6): what it tells, and what would be. Laid by wip/whole/gen.py, m12.py. -/
theorem in_isN' (k : Int32) {m : Nat} (hm : m < 2 ^ 30) {c : Int32} (hc : c = nI m) : decide (0 ≤ k ∧ k ≤ c) = isN k (m + 1) := by
  subst hc
  exact in_isN k hm
theorem inK_t {k : Int32} {m : Nat} (h : isN k (m + 1) = true) (hm : m < 2 ^ 30 := by decide) : bI (decide (0 ≤ k ∧ k ≤ nI m)) = nI 1 := by rw [in_isN k hm, h]; rfl
theorem inK_f {k : Int32} {m : Nat} (h : isN k (m + 1) = false) (hm : m < 2 ^ 30 := by decide) : bI (decide (0 ≤ k ∧ k ≤ nI m)) = nI 0 := by rw [in_isN k hm, h]; rfl
/-- chains that agree in their own range -/
def chEq (n : Nat) (st we ha pr se st2 we2 ha2 pr2 se2 : Fn) : Prop := (∀ k, k < n → st k = st2 k) ∧ (∀ k, k ≤ n → we k = we2 k ∧ ha k = ha2 k ∧ pr k = pr2 k) ∧ ∀ k, k < 4 → se k = se2 k
theorem sHT_c {st st2 : Fn} : ∀ i, (∀ k, k < i → st k = st2 k) → sHT st i = sHT st2 i := by
  intro i
  induction i with
  | zero => intro _; rfl
  | succ i ih =>
    intro h
    show sHT st i + _ = sHT st2 i + _
    rw [ih (fun k hk => h k (by omega)), h i (Nat.lt_succ_self _)]
section CHE
variable {n : Nat} {st we ha pr se st2 we2 ha2 pr2 se2 : Fn}
theorem che_bu (h : chEq n st we ha pr se st2 we2 ha2 pr2 se2) {k : Nat} (hk : k ≤ n) : sBU n we se k = sBU n we2 se2 k := by
  unfold sBU
  rw [(h.2.1 k hk).1, h.2.2 0 (by omega)]
theorem che_hg (h : chEq n st we ha pr se st2 we2 ha2 pr2 se2) {k : Nat} (hk : k ≤ n) : sHG n we ha se k = sHG n we2 ha2 se2 k := by
  unfold sHG
  rw [che_bu h hk, (h.2.1 k hk).2.1]
theorem che_ht (h : chEq n st we ha pr se st2 we2 ha2 pr2 se2) {k : Nat} (hk : k ≤ n) : sHT st k = sHT st2 k := sHT_c k (fun j hj => h.1 j (by omega))
theorem che_pp (h : chEq n st we ha pr se st2 we2 ha2 pr2 se2) {k : Nat} (hk : k ≤ n) : jPP n (sHT st) we ha pr se k = jPP n (sHT st2) we2 ha2 pr2 se2 k := by
  unfold jPP
  rw [che_ht h hk, che_bu h hk, che_hg h hk, (h.2.1 k hk).2.2, h.2.2 1 (by omega)]
theorem che_ld (h : chEq n st we ha pr se st2 we2 ha2 pr2 se2) {k : Nat} (hk : k ≤ n) : cLD n st we ha pr se k = cLD n st2 we2 ha2 pr2 se2 k := by
  show sBU n we se k - sHG n we ha se k - jPP n (sHT st) we ha pr se k = sBU n we2 se2 k - sHG n we2 ha2 se2 k - jPP n (sHT st2) we2 ha2 pr2 se2 k
  rw [che_bu h hk, che_hg h hk, che_pp h hk]
theorem che_ah (h : chEq n st we ha pr se st2 we2 ha2 pr2 se2) : cAH n st we ha pr se = cAH n st2 we2 ha2 pr2 se2 := wAH_c _ (fun _ hk => che_ld h (by omega))
theorem che_be (h : chEq n st we ha pr se st2 we2 ha2 pr2 se2) : cBE n st we ha pr se = cBE n st2 we2 ha2 pr2 se2 := wBE_c _ (fun _ hk => che_ld h (by omega))
theorem che_fo (h : chEq n st we ha pr se st2 we2 ha2 pr2 se2) {k : Nat} (hk : k < n) : cFO n st we ha pr se k = cFO n st2 we2 ha2 pr2 se2 k := by
  show sFO (cAH n st we ha pr se) (cLD n st we ha pr se) st se k = sFO (cAH n st2 we2 ha2 pr2 se2) (cLD n st2 we2 ha2 pr2 se2) st2 se2 k
  rw [che_ah h, sFO_c (fun j hj => che_ld h hj) k hk]
  unfold sFO
  rw [h.1 k hk, h.2.2 2 (by omega)]
theorem che_gr (h : chEq n st we ha pr se st2 we2 ha2 pr2 se2) : cGR n st we ha pr se = cGR n st2 we2 ha2 pr2 se2 := gM_c n (fun _ hk => che_fo h hk)
end CHE
theorem chEq_rf {n : Nat} {st we ha pr se : Fn} : chEq n st we ha pr se st we ha pr se := ⟨fun _ _ => rfl, fun _ _ => ⟨rfl, rfl, rfl⟩, fun _ _ => rfl⟩
/-- told of a link, a joint, the chain -/
def tLk (n : Nat) (st we ha pr se : Fn) (j : Nat) : Nat → Int32
  | 0 => st j + 2
  | 1 => cFO n st we ha pr se j
  | _ => if se 3 < cFO n st we ha pr se j then 1 else 0
theorem tLk2_t {n : Nat} {s : Fn} {j : Nat} {f : Int32} (h : f = cFO n (mST s) (mWE s) (mHA s) (mPR s) (mSE s) j) (c : ¬ f ≤ s 4) : 1 = tLk n (mST s) (mWE s) (mHA s) (mPR s) (mSE s) j 2 := by
  show 1 = if mSE s 3 < cFO n (mST s) (mWE s) (mHA s) (mPR s) (mSE s) j then 1 else 0
  rw [← h]
  exact (if_pos (i32_lt c)).symm
theorem tLk2_f {n : Nat} {s : Fn} {j : Nat} {f : Int32} (h : f = cFO n (mST s) (mWE s) (mHA s) (mPR s) (mSE s) j) (c : f ≤ s 4) : 0 = tLk n (mST s) (mWE s) (mHA s) (mPR s) (mSE s) j 2 := by
  show 0 = if mSE s 3 < cFO n (mST s) (mWE s) (mHA s) (mPR s) (mSE s) j then 1 else 0
  rw [← h]
  exact (if_neg (i32_nlt c)).symm
def tJt (n : Nat) (st we ha pr se : Fn) (j : Nat) : Nat → Int32
  | 0 => sHT st j + 100
  | 1 => we j
  | 2 => ha j
  | 3 => pr j
  | 4 => sBU n we se j
  | 5 => sHG n we ha se j
  | 6 => jPP n (sHT st) we ha pr se j
  | _ => cLD n st we ha pr se j
def tCt (n : Nat) (st we ha pr se : Fn) (sm : Nat) : Nat → Int32
  | 0 => nI n
  | 1 => sumN we (n + 1)
  | 2 => sumN (cLD n st we ha pr se) (n + 1)
  | 3 => cAH n st we ha pr se
  | 4 => cBE n st we ha pr se
  | 5 => cGR n st we ha pr se
  | 6 => nI (brN (cFO n st we ha pr se) (se 3) n)
  | 7 => if cGR n st we ha pr se ≤ se 3 then 1 else 0
  | 8 => nI (loN (sHT st) n)
  | 9 => sHT st (loN (sHT st) n) + 100
  | _ => nI sm
theorem sumN_c {f g : Fn} : ∀ i, (∀ k, k < i → f k = g k) → sumN f i = sumN g i := by
  intro i
  induction i with
  | zero => intro _; rfl
  | succ i ih =>
    intro h
    show sumN f i + _ = sumN g i + _
    rw [ih (fun k hk => h k (by omega)), h i (Nat.lt_succ_self _)]
theorem brN_c {f g : Fn} {m : Int32} : ∀ i, (∀ k, k < i → f k = g k) → brN f m i = brN g m i := by
  intro i
  induction i with
  | zero => intro _; rfl
  | succ i ih =>
    intro h
    show brN f m i + _ = brN g m i + _
    rw [ih (fun k hk => h k (by omega)), h i (Nat.lt_succ_self _)]
theorem loN_c {f g : Fn} : ∀ i, (∀ k, k ≤ i → f k = g k) → loN f i = loN g i := by
  intro i
  induction i with
  | zero => intro _; rfl
  | succ i ih =>
    intro h
    show (if f (i + 1) < f (loN f i) then i + 1 else loN f i) = (if g (i + 1) < g (loN g i) then i + 1 else loN g i)
    rw [ih (fun k hk => h k (by omega)), h (i + 1) (Nat.le_refl _), h (loN g i) (by have := loN_le g i; omega)]
theorem brN_1 {fo : Fn} {m : Int32} {i : Nat} (c : ¬ fo i ≤ m) : brN fo m i + 1 = brN fo m (i + 1) := by
  show _ = brN fo m i + (if m < fo i then 1 else 0)
  rw [if_pos (i32_lt c)]
theorem brN_0 {fo : Fn} {m : Int32} {i : Nat} (c : fo i ≤ m) : brN fo m i + 0 = brN fo m (i + 1) := by
  show _ = brN fo m i + (if m < fo i then 1 else 0)
  rw [if_neg (i32_nlt c)]
theorem mx_le {a b m : Int32} : mx a b ≤ m ↔ a ≤ m ∧ b ≤ m := by
  unfold mx
  by_cases q : a < b
  · rw [if_pos q]
    exact ⟨fun h => ⟨Int32.le_trans (Int32.le_of_lt q) h, h⟩, fun h => h.2⟩
  · rw [if_neg q]
    exact ⟨fun h => ⟨h, Int32.le_trans (Int32.not_lt.mp q) h⟩, fun h => h.1⟩
/-- no force is above m if and only if none breaks -/
theorem gM_brN {fo : Fn} {m : Int32} (h0 : 0 ≤ m) : ∀ i, gM fo i ≤ m ↔ brN fo m i = 0 := by
  intro i
  induction i with
  | zero => exact ⟨fun _ => rfl, fun _ => h0⟩
  | succ i ih =>
    show mx (gM fo i) (fo i) ≤ m ↔ brN fo m i + (if m < fo i then 1 else 0) = 0
    rw [mx_le, ih]
    by_cases q : m < fo i
    · rw [if_pos q]
      exact ⟨fun h => absurd q (i32_nlt h.2), fun h => absurd h (by omega)⟩
    · rw [if_neg q]
      exact ⟨fun h => by omega, fun h => ⟨by omega, Int32.not_lt.mp q⟩⟩
section CNT
variable {n : Nat} {s ht bu hg pq ld fo : Fn}
theorem cnt2 (_ : mOK s n) (h : okB n (mST s) (mWE s) (mHA s) (mPR s) (mSE s) ht bu hg pq ld fo) : sumN ld (n + 1) = sumN (cLD n (mST s) (mWE s) (mHA s) (mPR s) (mSE s)) (n + 1) := sumN_c _ (fun k hk => h.2.2.2.2.1 k (by omega))
theorem cnt6 (h : okB n (mST s) (mWE s) (mHA s) (mPR s) (mSE s) ht bu hg pq ld fo) : nI (brN fo (s 4) n) = nI (brN (cFO n (mST s) (mWE s) (mHA s) (mPR s) (mSE s)) (mSE s 3) n) := congrArg nI (brN_c n h.2.2.2.2.2)
theorem cnt7 (hok : mOK s n) (h : okB n (mST s) (mWE s) (mHA s) (mPR s) (mSE s) ht bu hg pq ld fo) : cGR n (mST s) (mWE s) (mHA s) (mPR s) (mSE s) ≤ mSE s 3 ↔ brN fo (s 4) n = 0 := by
  have h1 : (0 : Int32) ≤ mSE s 3 := Int32.le_trans (by decide) hok.2.2.2.2.2.2.2.2.2.1
  rw [show brN fo (s 4) n = brN (cFO n (mST s) (mWE s) (mHA s) (mPR s) (mSE s)) (mSE s 3) n from brN_c n h.2.2.2.2.2]
  exact gM_brN h1 n
theorem cnt7_t (hok : mOK s n) (h : okB n (mST s) (mWE s) (mHA s) (mPR s) (mSE s) ht bu hg pq ld fo) (c : brN fo (s 4) n = 0) : 1 = if cGR n (mST s) (mWE s) (mHA s) (mPR s) (mSE s) ≤ mSE s 3 then (1 : Int32) else 0 := (if_pos ((cnt7 hok h).mpr c)).symm
theorem cnt7_f (hok : mOK s n) (h : okB n (mST s) (mWE s) (mHA s) (mPR s) (mSE s) ht bu hg pq ld fo) (c : brN fo (s 4) n ≠ 0) : 0 = if cGR n (mST s) (mWE s) (mHA s) (mPR s) (mSE s) ≤ mSE s 3 then (1 : Int32) else 0 := (if_neg (fun q => c ((cnt7 hok h).mp q))).symm
theorem cnt8 (h : okB n (mST s) (mWE s) (mHA s) (mPR s) (mSE s) ht bu hg pq ld fo) : nI (loN ht n) = nI (loN (sHT (mST s)) n) := congrArg nI (loN_c n h.1)
theorem cnt9 (h : okB n (mST s) (mWE s) (mHA s) (mPR s) (mSE s) ht bu hg pq ld fo) : ht (loN ht n) + 100 = sHT (mST s) (loN (sHT (mST s)) n) + 100 := by
  rw [loN_c n h.1, h.1 _ (loN_le _ n)]
end CNT
theorem upd_back (s : Fn) (a : Nat) (v : Int32) : upd (upd s a v) a (s a) = s := by
  funext j
  by_cases h : j = a
  · subst h
    rw [pk_us]
  · rw [pk_un h, pk_un h]
/-- the greatest force if: a weight, a hanger, a step were another, or the weight of j were moved to t -/
def gWe (n : Nat) (st we ha pr se : Fn) (j : Nat) (v : Int32) : Int32 := cGR n st (upd we j v) ha pr se
def gHg (n : Nat) (st we ha pr se : Fn) (v : Int32) (k : Nat) : Int32 := cGR n st we (upd ha k (mn 99 (ha k + v))) pr se
def stI (i : Nat) : Int32 := nI i + (-2)
def gSp (n : Nat) (st we ha pr se : Fn) (j : Nat) (i : Nat) : Int32 := cGR n (upd st j (stI i)) we ha pr se
def gMv (n : Nat) (st we ha pr se : Fn) (j t : Nat) : Int32 := cGR n st (mvN we j t) ha pr se
def wI (i : Nat) : Int32 := nI i + (-1)
theorem wI_S (i : Nat) : wI (i + 1) = nI i := pk_m1 i
def pWe (n : Nat) (st we ha pr se : Fn) (j : Nat) (v : Nat) : Bool := decide (gWe n st we ha pr se j (nI v) ≤ se 3)
/-- the greatest number below i with P, -1 if there is none -/
def hvI (P : Nat → Bool) : Nat → Int32
  | 0 => -1
  | i + 1 => if P i = true then nI i else hvI P i
theorem hvI_t {P : Nat → Bool} {i : Nat} (h : P i = true) : hvI P (i + 1) = nI i := if_pos h
theorem hvI_f {P : Nat → Bool} {i : Nat} (h : P i = false) : hvI P (i + 1) = hvI P i := if_neg (by rw [h]; decide)
theorem pWe_t {n : Nat} {s : Fn} {j i : Nat} (c : ¬ s 4 < gWe n (mST s) (mWE s) (mHA s) (mPR s) (mSE s) j (nI i)) : pWe n (mST s) (mWE s) (mHA s) (mPR s) (mSE s) j i = true := decide_eq_true (i32_le c)
theorem pWe_f {n : Nat} {s : Fn} {j i : Nat} (c : s 4 < gWe n (mST s) (mWE s) (mHA s) (mPR s) (mSE s) j (nI i)) : pWe n (mST s) (mWE s) (mHA s) (mPR s) (mSE s) j i = false := decide_eq_false (i32_nle c)
theorem r99_nI {i : Nat} (h : i ≤ 99) : 0 ≤ nI i ∧ nI i ≤ 99 := ⟨nI_pos' (by omega), nI_le (b := 99) h (by omega)⟩
theorem upd_e {f : Fn} {a j : Nat} {v : Int32} (h : j = a) : upd f a v j = v := by rw [h, pk_us]
section MUP
variable {s : Fn} {n j : Nat} {v : Int32}
theorem mOK_we (hok : mOK s n) (hj : j ≤ n) (hv : 0 ≤ v ∧ v ≤ 99) : mOK (upd s (25 + j) v) n := by
  obtain ⟨h0, h1, h2, c1, c2, c3⟩ := hok
  refine ⟨by rw [pk_un (by omega)]; exact h0, h1, h2, fun k hk => ?_, fun k hk => ⟨?_, ?_, ?_⟩, ?_⟩
  · show -2 ≤ upd s (25 + j) v (5 + k) ∧ upd s (25 + j) v (5 + k) ≤ 2
    rw [pk_un (by omega)]
    exact c1 k hk
  · show r99 (upd s (25 + j) v (25 + k))
    by_cases q : k = j
    · rw [upd_e (by omega)]; exact hv
    · rw [pk_un (by omega)]; exact (c2 k hk).1
  · show r99 (upd s (25 + j) v (46 + k))
    rw [pk_un (by omega)]; exact (c2 k hk).2.1
  · show r99 (upd s (25 + j) v (67 + k))
    rw [pk_un (by omega)]; exact (c2 k hk).2.2
  · show 0 ≤ upd s (25 + j) v (1 + 0) ∧ upd s (25 + j) v (1 + 0) ≤ 20 ∧ 0 ≤ upd s (25 + j) v (1 + 2) ∧ upd s (25 + j) v (1 + 2) ≤ 20 ∧ 1 ≤ upd s (25 + j) v (1 + 3) ∧ upd s (25 + j) v (1 + 3) ≤ 999
    rw [pk_un (by omega), pk_un (by omega), pk_un (by omega)]
    exact c3
theorem mEQ_we (hok : mOK s n) (hj : j ≤ n) : chEq n (mST (upd s (25 + j) v)) (mWE (upd s (25 + j) v)) (mHA (upd s (25 + j) v)) (mPR (upd s (25 + j) v)) (mSE (upd s (25 + j) v)) (mST s) (upd (mWE s) j v) (mHA s) (mPR s) (mSE s) := by
  obtain ⟨h0, h1, h2, -⟩ := hok
  refine ⟨fun k hk => pk_un (by omega), fun k hk => ⟨?_, pk_un (by omega), pk_un (by omega)⟩, fun k hk => pk_un (by omega)⟩
  show upd s (25 + j) v (25 + k) = upd (mWE s) j v k
  by_cases q : k = j
  · rw [upd_e (by omega), upd_e q]
  · rw [pk_un (by omega), pk_un q]; rfl
theorem mGR_we (hok : mOK s n) (hj : j ≤ n) : cGR n (mST (upd s (25 + j) v)) (mWE (upd s (25 + j) v)) (mHA (upd s (25 + j) v)) (mPR (upd s (25 + j) v)) (mSE (upd s (25 + j) v)) = gWe n (mST s) (mWE s) (mHA s) (mPR s) (mSE s) j v := che_gr (mEQ_we hok hj)
theorem mOK_ha (hok : mOK s n) (hj : j ≤ n) (hv : 0 ≤ v ∧ v ≤ 99) : mOK (upd s (46 + j) v) n := by
  obtain ⟨h0, h1, h2, c1, c2, c3⟩ := hok
  refine ⟨by rw [pk_un (by omega)]; exact h0, h1, h2, fun k hk => ?_, fun k hk => ⟨?_, ?_, ?_⟩, ?_⟩
  · show -2 ≤ upd s (46 + j) v (5 + k) ∧ upd s (46 + j) v (5 + k) ≤ 2
    rw [pk_un (by omega)]
    exact c1 k hk
  · show r99 (upd s (46 + j) v (25 + k))
    rw [pk_un (by omega)]; exact (c2 k hk).1
  · show r99 (upd s (46 + j) v (46 + k))
    by_cases q : k = j
    · rw [upd_e (by omega)]; exact hv
    · rw [pk_un (by omega)]; exact (c2 k hk).2.1
  · show r99 (upd s (46 + j) v (67 + k))
    rw [pk_un (by omega)]; exact (c2 k hk).2.2
  · show 0 ≤ upd s (46 + j) v (1 + 0) ∧ upd s (46 + j) v (1 + 0) ≤ 20 ∧ 0 ≤ upd s (46 + j) v (1 + 2) ∧ upd s (46 + j) v (1 + 2) ≤ 20 ∧ 1 ≤ upd s (46 + j) v (1 + 3) ∧ upd s (46 + j) v (1 + 3) ≤ 999
    rw [pk_un (by omega), pk_un (by omega), pk_un (by omega)]
    exact c3
theorem mEQ_ha (hok : mOK s n) (hj : j ≤ n) : chEq n (mST (upd s (46 + j) v)) (mWE (upd s (46 + j) v)) (mHA (upd s (46 + j) v)) (mPR (upd s (46 + j) v)) (mSE (upd s (46 + j) v)) (mST s) (mWE s) (upd (mHA s) j v) (mPR s) (mSE s) := by
  obtain ⟨h0, h1, h2, -⟩ := hok
  refine ⟨fun k hk => pk_un (by omega), fun k hk => ⟨pk_un (by omega), ?_, pk_un (by omega)⟩, fun k hk => pk_un (by omega)⟩
  show upd s (46 + j) v (46 + k) = upd (mHA s) j v k
  by_cases q : k = j
  · rw [upd_e (by omega), upd_e q]
  · rw [pk_un (by omega), pk_un q]; rfl
theorem mGR_ha {w : Int32} (hok : mOK s n) (hj : j ≤ n) : cGR n (mST (upd s (46 + j) (mn 99 (s (46 + j) + w)))) (mWE (upd s (46 + j) (mn 99 (s (46 + j) + w)))) (mHA (upd s (46 + j) (mn 99 (s (46 + j) + w)))) (mPR (upd s (46 + j) (mn 99 (s (46 + j) + w)))) (mSE (upd s (46 + j) (mn 99 (s (46 + j) + w)))) = gHg n (mST s) (mWE s) (mHA s) (mPR s) (mSE s) w j := che_gr (mEQ_ha hok hj)
theorem mOK_st (hok : mOK s n) (hj : j < n) (hv : -2 ≤ v ∧ v ≤ 2) : mOK (upd s (5 + j) v) n := by
  obtain ⟨h0, h1, h2, c1, c2, c3⟩ := hok
  refine ⟨by rw [pk_un (by omega)]; exact h0, h1, h2, fun k hk => ?_, fun k hk => ⟨?_, ?_, ?_⟩, ?_⟩
  · show -2 ≤ upd s (5 + j) v (5 + k) ∧ upd s (5 + j) v (5 + k) ≤ 2
    by_cases q : k = j
    · rw [upd_e (by omega)]; exact hv
    · rw [pk_un (by omega)]; exact c1 k hk
  · show r99 (upd s (5 + j) v (25 + k))
    rw [pk_un (by omega)]; exact (c2 k hk).1
  · show r99 (upd s (5 + j) v (46 + k))
    rw [pk_un (by omega)]; exact (c2 k hk).2.1
  · show r99 (upd s (5 + j) v (67 + k))
    rw [pk_un (by omega)]; exact (c2 k hk).2.2
  · show 0 ≤ upd s (5 + j) v (1 + 0) ∧ upd s (5 + j) v (1 + 0) ≤ 20 ∧ 0 ≤ upd s (5 + j) v (1 + 2) ∧ upd s (5 + j) v (1 + 2) ≤ 20 ∧ 1 ≤ upd s (5 + j) v (1 + 3) ∧ upd s (5 + j) v (1 + 3) ≤ 999
    rw [pk_un (by omega), pk_un (by omega), pk_un (by omega)]
    exact c3
theorem mEQ_st (hok : mOK s n) (hj : j < n) : chEq n (mST (upd s (5 + j) v)) (mWE (upd s (5 + j) v)) (mHA (upd s (5 + j) v)) (mPR (upd s (5 + j) v)) (mSE (upd s (5 + j) v)) (upd (mST s) j v) (mWE s) (mHA s) (mPR s) (mSE s) := by
  obtain ⟨h0, h1, h2, -⟩ := hok
  refine ⟨fun k hk => ?_, fun k hk => ⟨pk_un (by omega), pk_un (by omega), pk_un (by omega)⟩, fun k hk => pk_un (by omega)⟩
  show upd s (5 + j) v (5 + k) = upd (mST s) j v k
  by_cases q : k = j
  · rw [upd_e (by omega), upd_e q]
  · rw [pk_un (by omega), pk_un q]; rfl
theorem mGR_st {i : Nat} (hok : mOK s n) (hj : j < n) : cGR n (mST (upd s (5 + j) (stI i))) (mWE (upd s (5 + j) (stI i))) (mHA (upd s (5 + j) (stI i))) (mPR (upd s (5 + j) (stI i))) (mSE (upd s (5 + j) (stI i))) = gSp n (mST s) (mWE s) (mHA s) (mPR s) (mSE s) j i := che_gr (mEQ_st hok hj)
end MUP
theorem i99 {x : Int32} (h : r99 x) : ∃ i : Nat, i ≤ 99 ∧ x = nI i := nI_of2 (M := 99) rfl (Int32.not_lt.mpr h.1) h.2
theorem mvBy_r99 {we : Fn} {j t : Nat} (h1 : r99 (we j)) (h2 : r99 (we t)) : ∃ b : Nat, mvBy we j t = nI b ∧ ∃ x y : Nat, we j = nI x ∧ we t = nI y ∧ b ≤ x ∧ y + b ≤ 99 ∧ x ≤ 99 := by
  obtain ⟨x, hx, ex⟩ := i99 h1
  obtain ⟨y, hy, ey⟩ := i99 h2
  have e : (99 : Int32) - nI y = nI (99 - y) := pk_sub (a := 99) hy
  unfold mvBy
  rw [ex, ey, e]
  by_cases q : nI (99 - y) < nI x
  · rw [if_pos q]
    have q2 := (nI_ltI (by omega) (by omega)).mp q
    exact ⟨99 - y, rfl, x, y, rfl, rfl, by omega, by omega, hx⟩
  · rw [if_neg q]
    have q2 : ¬ 99 - y < x := fun z => q ((nI_ltI (by omega) (by omega)).mpr z)
    exact ⟨x, rfl, x, y, rfl, rfl, Nat.le_refl _, by omega, hx⟩
section MMV
variable {s : Fn} {n j t : Nat}
theorem mMov_j (h : j ≠ t) : mMov s j t (25 + j) = s (25 + j) - mvBy (mWE s) j t := by
  unfold mMov
  rw [pk_un (by omega), pk_us]
theorem mMov_t (h : j ≠ t) : mMov s j t (25 + t) = s (25 + t) + mvBy (mWE s) j t := by
  unfold mMov
  rw [pk_us, pk_un (by omega)]
theorem mMov_o {k : Nat} (h1 : k ≠ 25 + j) (h2 : k ≠ 25 + t) : mMov s j t k = s k := by
  unfold mMov
  rw [pk_un h2, pk_un h1]
theorem mOK_mov (hok : mOK s n) (hj : j ≤ n) (ht : t ≤ n) (hjt : j ≠ t) : mOK (mMov s j t) n := by
  obtain ⟨h0, h1, h2, c1, c2, c3⟩ := hok
  obtain ⟨b, eb, x, y, ex, ey, hb1, hb2, hx⟩ := mvBy_r99 (we := mWE s) (c2 j hj).1 (c2 t ht).1
  have ej : mMov s j t (25 + j) = nI (x - b) := by rw [mMov_j hjt, eb, show s (25 + j) = nI x from ex, pk_sub hb1]
  have et : mMov s j t (25 + t) = nI (y + b) := by rw [mMov_t hjt, eb, show s (25 + t) = nI y from ey, nI_add]
  refine ⟨by rw [mMov_o (by omega) (by omega)]; exact h0, h1, h2, fun k hk => ?_, fun k hk => ⟨?_, ?_, ?_⟩, ?_⟩
  · show -2 ≤ mMov s j t (5 + k) ∧ mMov s j t (5 + k) ≤ 2
    rw [mMov_o (by omega) (by omega)]
    exact c1 k hk
  · show r99 (mMov s j t (25 + k))
    by_cases q : k = j
    · rw [q, ej]; exact r99_nI (by omega)
    · by_cases q2 : k = t
      · rw [q2, et]; exact r99_nI (by omega)
      · rw [mMov_o (by omega) (by omega)]; exact (c2 k hk).1
  · show r99 (mMov s j t (46 + k))
    rw [mMov_o (by omega) (by omega)]; exact (c2 k hk).2.1
  · show r99 (mMov s j t (67 + k))
    rw [mMov_o (by omega) (by omega)]; exact (c2 k hk).2.2
  · show 0 ≤ mMov s j t (1 + 0) ∧ mMov s j t (1 + 0) ≤ 20 ∧ 0 ≤ mMov s j t (1 + 2) ∧ mMov s j t (1 + 2) ≤ 20 ∧ 1 ≤ mMov s j t (1 + 3) ∧ mMov s j t (1 + 3) ≤ 999
    rw [mMov_o (by omega) (by omega), mMov_o (by omega) (by omega), mMov_o (by omega) (by omega)]
    exact c3
theorem mEQ_mov (hok : mOK s n) (hj : j ≤ n) (ht : t ≤ n) (hjt : j ≠ t) : chEq n (mST (mMov s j t)) (mWE (mMov s j t)) (mHA (mMov s j t)) (mPR (mMov s j t)) (mSE (mMov s j t)) (mST s) (mvN (mWE s) j t) (mHA s) (mPR s) (mSE s) := by
  obtain ⟨h0, h1, h2, -⟩ := hok
  refine ⟨fun k hk => mMov_o (by omega) (by omega), fun k hk => ⟨?_, mMov_o (by omega) (by omega), mMov_o (by omega) (by omega)⟩, fun k hk => mMov_o (by omega) (by omega)⟩
  show mMov s j t (25 + k) = mvN (mWE s) j t k
  unfold mvN
  by_cases q2 : k = t
  · rw [q2, mMov_t hjt, pk_us, pk_un (Ne.symm hjt)]; rfl
  · rw [pk_un q2]
    by_cases q : k = j
    · rw [q, mMov_j hjt, pk_us]; rfl
    · rw [mMov_o (by omega) (by omega), pk_un q]; rfl
theorem mGR_mov (hok : mOK s n) (hj : j ≤ n) (ht : t ≤ n) (hjt : j ≠ t) : cGR n (mST (mMov s j t)) (mWE (mMov s j t)) (mHA (mMov s j t)) (mPR (mMov s j t)) (mSE (mMov s j t)) = gMv n (mST s) (mWE s) (mHA s) (mPR s) (mSE s) j t := che_gr (mEQ_mov hok hj ht hjt)
theorem mMov_back (hjt : j ≠ t) : upd (upd (mMov s j t) (25 + j) ((mMov s j t) (25 + j) + mvBy (mWE s) j t)) (25 + t) ((upd (mMov s j t) (25 + j) ((mMov s j t) (25 + j) + mvBy (mWE s) j t)) (25 + t) - mvBy (mWE s) j t) = s := by
  rw [pk_un (show 25 + t ≠ 25 + j by omega), mMov_j hjt, mMov_t hjt, Int32.sub_add_cancel, Int32.add_sub_cancel]
  funext k
  by_cases q2 : k = 25 + t
  · rw [q2, pk_us]
  · rw [pk_un q2]
    by_cases q : k = 25 + j
    · rw [q, pk_us]
    · rw [pk_un q, mMov_o q q2]
end MMV
/-- the best of many: the first with the least -/
def bst (F : Fn) (j : Nat) : Nat → Int32 × Int32
  | 0 => (-1, 0)
  | i + 1 => if i = j then bst F j i else if (bst F j i).1 = -1 ∨ F i < (bst F j i).2 then (nI i, F i) else bst F j i
def bsh (F : Fn) : Nat → Int32 × Int32
  | 0 => (-1, 0)
  | i + 1 => if (bsh F i).1 = -1 ∨ F (i + 1) < (bsh F i).2 then (nI (i + 1), F (i + 1)) else bsh F i
def bsp (F : Fn) : Nat → Int32 × Int32
  | 0 => (-3, 0)
  | i + 1 => if (bsp F i).1 = -3 ∨ F i < (bsp F i).2 then (stI i, F i) else bsp F i
section BST
variable {F : Fn} {j i : Nat} {fd le : Int32}
theorem bst_s (h : (fd, le) = bst F j i) (e : i = j) : (fd, le) = bst F j (i + 1) := by rw [h]; exact (if_pos e).symm
theorem bst_t (h : (fd, le) = bst F j i) (e : i ≠ j) (c : fd = -1 ∨ F i < le) : (nI i, F i) = bst F j (i + 1) := by
  show _ = if i = j then bst F j i else if (bst F j i).1 = -1 ∨ F i < (bst F j i).2 then (nI i, F i) else bst F j i
  rw [if_neg e, ← h, if_pos c]
theorem bst_k (h : (fd, le) = bst F j i) (e : i ≠ j) (c1 : ¬ fd = -1) (c2 : ¬ F i < le) : (fd, le) = bst F j (i + 1) := by
  show _ = if i = j then bst F j i else if (bst F j i).1 = -1 ∨ F i < (bst F j i).2 then (nI i, F i) else bst F j i
  rw [if_neg e, ← h, if_neg (fun q => q.elim c1 c2)]
theorem bsh_t (h : (fd, le) = bsh F i) (c : fd = -1 ∨ F (i + 1) < le) : (nI (i + 1), F (i + 1)) = bsh F (i + 1) := by
  show _ = if (bsh F i).1 = -1 ∨ F (i + 1) < (bsh F i).2 then (nI (i + 1), F (i + 1)) else bsh F i
  rw [← h, if_pos c]
theorem bsh_k (h : (fd, le) = bsh F i) (c1 : ¬ fd = -1) (c2 : ¬ F (i + 1) < le) : (fd, le) = bsh F (i + 1) := by
  show _ = if (bsh F i).1 = -1 ∨ F (i + 1) < (bsh F i).2 then (nI (i + 1), F (i + 1)) else bsh F i
  rw [← h, if_neg (fun q => q.elim c1 c2)]
theorem bsp_t (h : (fd, le) = bsp F i) (c : fd = -3 ∨ F i < le) : (stI i, F i) = bsp F (i + 1) := by
  show _ = if (bsp F i).1 = -3 ∨ F i < (bsp F i).2 then (stI i, F i) else bsp F i
  rw [← h, if_pos c]
theorem bsp_k (h : (fd, le) = bsp F i) (c1 : ¬ fd = -3) (c2 : ¬ F i < le) : (fd, le) = bsp F (i + 1) := by
  show _ = if (bsp F i).1 = -3 ∨ F i < (bsp F i).2 then (stI i, F i) else bsp F i
  rw [← h, if_neg (fun q => q.elim c1 c2)]
end BST
def bTo (n : Nat) (st we ha pr se : Fn) (j : Nat) : Int32 := if we j = 0 then -1 else (bst (gMv n st we ha pr se j) j (n + 1)).1
theorem bTo_of {s : Fn} {n j i : Nat} {fd le : Int32} (hB : (fd, le) = bst (gMv n (mST s) (mWE s) (mHA s) (mPR s) (mSE s) j) j i) (hok : mOK s n) (hj : j ≤ n) (hi : i ≤ n + 1) (hz : s (25 + j) ≤ 0 → i = 0) (h : n < i ∨ s (25 + j) ≤ 0) : fd = bTo n (mST s) (mWE s) (mHA s) (mPR s) (mSE s) j := by
  have h0 : 0 ≤ s (25 + j) := (hok.2.2.2.2.1 j hj).1.1
  unfold bTo
  by_cases q : mWE s j = 0
  · rw [if_pos q]
    have e := hz (by rw [show s (25 + j) = 0 from q]; decide)
    subst e
    exact congrArg Prod.fst hB
  · rw [if_neg q]
    rcases h with h | h
    · have e : i = n + 1 := by omega
      subst e
      exact congrArg Prod.fst hB
    · exact absurd (Int32.le_antisymm h h0) q
theorem mn99_l {x : Int32} (c : ¬ x ≤ 99) : mn 99 x = 99 := if_neg (Int32.not_lt.mpr (Int32.le_of_lt (Int32.not_le.mp c)))
theorem mn99_k {x : Int32} (c : x ≤ 99) : mn 99 x = x := mn_l c
theorem mn99_r {s : Fn} {n k : Nat} {v : Int32} (hok : mOK s n) (hv : 0 ≤ v ∧ v ≤ 99) (hk : k ≤ n) : 0 ≤ mn 99 (s (46 + k) + v) ∧ mn 99 (s (46 + k) + v) ≤ 99 := by
  obtain ⟨x, hx, ex⟩ := i99 (hok.2.2.2.2.1 k hk).2.1
  obtain ⟨y, hy, ey⟩ := i99 hv
  rw [show s (46 + k) = nI x from ex, ey, nI_add]
  by_cases q : nI (x + y) ≤ 99
  · rw [mn99_k q]
    exact ⟨nI_pos' (by omega), q⟩
  · rw [mn99_l q]
    exact ⟨by decide, by decide⟩
theorem stI_S (i : Nat) : stI i + 1 = stI (i + 1) := by
  unfold stI
  rw [nI_succ, Int32.add_assoc, Int32.add_assoc, Int32.add_comm (-2) 1]
theorem stI_gt {i : Nat} (hi : i ≤ 5) (c : 2 < stI i) : 5 = i := by
  rcases (show i = 0 ∨ i = 1 ∨ i = 2 ∨ i = 3 ∨ i = 4 ∨ i = 5 by omega) with q | q | q | q | q | q <;> subst q <;> first | rfl | exact absurd c (by decide)
theorem stI_le {i : Nat} (hi : i ≤ 5) (c : ¬ 2 < stI i) : i < 5 := by
  rcases (show i = 0 ∨ i = 1 ∨ i = 2 ∨ i = 3 ∨ i = 4 ∨ i = 5 by omega) with q | q | q | q | q | q <;> subst q <;> first | omega | exact absurd (by decide) c
theorem stI_r {i : Nat} (hi : i < 5) : -2 ≤ stI i ∧ stI i ≤ 2 := by
  rcases (show i = 0 ∨ i = 1 ∨ i = 2 ∨ i = 3 ∨ i = 4 by omega) with q | q | q | q | q <;> subst q <;> exact ⟨by decide, by decide⟩
set_option maxHeartbeats 4000000 in
set_option maxRecDepth 100000 in
theorem c_X6_toldOfLink (l : Launch) (G : kG) (m0 : Nat) (ms : Nat) (mv : Nat) (mt : Nat) (mh : Nat) (mb : Nat) (mg : Nat) (mq : Nat) (ml : Nat) (mf : Nat) (th : Nat) (s0 : Fn) (sv : Fn) (sm : Nat) (tx : Fn) (ln : Nat) (ht : Fn) (bu : Fn) (hg : Fn) (pq : Fn) (ld : Fn) (fo : Fn) (nw : Int32) (fw : Int32) (tp : Nat) (wr : Bool) (dg : Int64) (j : Nat) (w : Nat) (n : Nat) (sz : Nat) (hok : mOK s0 n) (hj : j < n) (hw3 : w < 3) : kMet l yX6_toldOfLink wsX6_toldOfLink ({ frames := 2, cells := 0, slots := 0, locals := 46 } : Room) G [.ref m0, .int (nI (j)), .int (nI (w))] [(m0, .inr (6, [.int (nI (th)), .ref ms, .ref mv, .int (nI (sm)), .ref mt, .int (nI (ln)), .ref mh, .ref mb, .ref mg, .ref mq, .ref ml, .ref mf, .int nw, .int fw, .int (nI (tp)), .int (bI (wr)), .long dg])), (ms, .inl (G.2.1, 88, .inl s0)), (mv, .inl (G.2.1, 528, .inl sv)), (mt, .inl (G.2.1, 60, .inl tx)), (mh, .inl (G.2.1, 21, .inl ht)), (mb, .inl (G.2.1, 21, .inl bu)), (mg, .inl (G.2.1, 21, .inl hg)), (mq, .inl (G.2.1, 21, .inl pq)), (ml, .inl (G.2.1, 21, .inl ld)), (mf, .inl (G.2.1, 20, .inl fo))] sz (kQi G (fun (r : Int32) (u : Fn × Fn × Fn × Fn × Fn × Fn × Int32 × Int32) => r = tLk n (mST s0) (mWE s0) (mHA s0) (mPR s0) (mSE s0) j w) (fun (u : Fn × Fn × Fn × Fn × Fn × Fn × Int32 × Int32) => [(m0, .inr (6, [.int (nI (th)), .ref ms, .ref mv, .int (nI (sm)), .ref mt, .int (nI (ln)), .ref mh, .ref mb, .ref mg, .ref mq, .ref ml, .ref mf, .int u.2.2.2.2.2.2.1, .int u.2.2.2.2.2.2.2, .int (nI (tp)), .int (bI (wr)), .long dg])), (ms, .inl (G.2.1, 88, .inl s0)), (mv, .inl (G.2.1, 528, .inl sv)), (mt, .inl (G.2.1, 60, .inl tx)), (mh, .inl (G.2.1, 21, .inl u.1)), (mb, .inl (G.2.1, 21, .inl u.2.1)), (mg, .inl (G.2.1, 21, .inl u.2.2.1)), (mq, .inl (G.2.1, 21, .inl u.2.2.2.1)), (ml, .inl (G.2.1, 21, .inl u.2.2.2.2.1)), (mf, .inl (G.2.1, 20, .inl u.2.2.2.2.2.1))])) 0 0 := by
  refine k_entry (cc := cX6_toldOfLink) (maxL := 3) (ret := (some .int)) (by decide) rfl (Nat.le_of_ble_eq_true rfl) ?_
  intro p e s m args below meth c A ls H locs Q hQ hx hb hml hr hts hown hlocks hin hA hP hK hD hS hl
  have hown : s.vm.findClass RX6 = some m.cls := hown
  have hl : lv_has ls 3 [(0, .ref m0), (1, .int (nI (j))), (2, .int (nI (w)))] := hl
  have hf34 := hts (.fieldLink RX6 34 "HangingChainModel" "force" "[I") (by decide +kernel)
  have hinX6 : ∀ w ∈ wsX60, w ∈ wsX6_toldOfLink := by decide +kernel
  have hf7 := hts (.fieldLink RX6 7 "HangingChainModel" "s" "[I") (by decide +kernel)
  obtain ⟨hs0, hn1, hn, hv⟩ := id hok
  refine lv_aload_n hx hb dX6_toldOfLink_0 rfl (lv_at hl 0 rfl) ?_
  refine k_cv (wr := []) [] rfl (by decide) [0, 1, 2, 3, 4, 5, 6, 7, 8, 9] rfl (by decide) hP hD hS hA (k_V (n := 0) (ci := 6) (As := []) (rest := []) (wc := [(m0, .inr (6, [.int (nI (th)), .ref ms, .ref mv, .int (nI (sm)), .ref mt, .int (nI (ln)), .ref mh, .ref mb, .ref mg, .ref mq, .ref ml, .ref mf, .int nw, .int fw, .int (nI (tp)), .int (bI (wr)), .long dg])), (ms, .inl (G.2.1, 88, .inl s0)), (mv, .inl (G.2.1, 528, .inl sv)), (mt, .inl (G.2.1, 60, .inl tx)), (mh, .inl (G.2.1, 21, .inl ht)), (mb, .inl (G.2.1, 21, .inl bu)), (mg, .inl (G.2.1, 21, .inl hg)), (mq, .inl (G.2.1, 21, .inl pq)), (ml, .inl (G.2.1, 21, .inl ld)), (mf, .inl (G.2.1, 20, .inl fo))]) hx hb hml hown hts hK hP hD hl (c_X6_lay l G m0 ms mv mt mh mb mg mq ml mf th s0 sv sm tx ln ht bu hg pq ld fo nw fw tp wr dg n H.size (by first | assumption | omega)) [0, 1, 2, 3, 4, 5, 6, 7, 8, 9] rfl (by decide) gX6_toldOfLink_X6_lay rfl rfl rfl (by decide +kernel) rfl ⟨Nat.le_of_ble_eq_true rfl, Nat.le_of_ble_eq_true rfl⟩ rfl rfl rfl (Nat.le_of_ble_eq_true rfl) dX6_toldOfLink_1 ⟨Nat.le_of_ble_eq_true rfl, Nat.le_of_ble_eq_true rfl⟩) (fun u H locs hw hP hD hS => ?_)
  obtain ⟨ht2_1, bu2_1, hg2_1, pq2_1, ld2_1, fo2_1, nw2_1, fw2_1⟩ := u
  have hw_1 : okB n (mST s0) (mWE s0) (mHA s0) (mPR s0) (mSE s0) ht2_1 bu2_1 hg2_1 pq2_1 ld2_1 fo2_1 ∧ nw2_1 = cAH n (mST s0) (mWE s0) (mHA s0) (mPR s0) (mSE s0) ∧ fw2_1 = cBE n (mST s0) (mWE s0) (mHA s0) (mPR s0) (mSE s0) := hw
  have hP : va_P G.1 vwCl [(m0, .inr (6, [.int (nI (th)), .ref ms, .ref mv, .int (nI (sm)), .ref mt, .int (nI (ln)), .ref mh, .ref mb, .ref mg, .ref mq, .ref ml, .ref mf, .int nw2_1, .int fw2_1, .int (nI (tp)), .int (bI (wr)), .long dg])), (ms, .inl (G.2.1, 88, .inl s0)), (mv, .inl (G.2.1, 528, .inl sv)), (mt, .inl (G.2.1, 60, .inl tx)), (mh, .inl (G.2.1, 21, .inl ht2_1)), (mb, .inl (G.2.1, 21, .inl bu2_1)), (mg, .inl (G.2.1, 21, .inl hg2_1)), (mq, .inl (G.2.1, 21, .inl pq2_1)), (ml, .inl (G.2.1, 21, .inl ld2_1)), (mf, .inl (G.2.1, 20, .inl fo2_1))] H := hP
  have hD : va_D A [(m0, .inr (6, [.int (nI (th)), .ref ms, .ref mv, .int (nI (sm)), .ref mt, .int (nI (ln)), .ref mh, .ref mb, .ref mg, .ref mq, .ref ml, .ref mf, .int nw2_1, .int fw2_1, .int (nI (tp)), .int (bI (wr)), .long dg])), (ms, .inl (G.2.1, 88, .inl s0)), (mv, .inl (G.2.1, 528, .inl sv)), (mt, .inl (G.2.1, 60, .inl tx)), (mh, .inl (G.2.1, 21, .inl ht2_1)), (mb, .inl (G.2.1, 21, .inl bu2_1)), (mg, .inl (G.2.1, 21, .inl hg2_1)), (mq, .inl (G.2.1, 21, .inl pq2_1)), (ml, .inl (G.2.1, 21, .inl ld2_1)), (mf, .inl (G.2.1, 20, .inl fo2_1))] := hD
  refine lv_iload_n hx hb dX6_toldOfLink_4 rfl (lv_at hl 2 rfl) ?_
  refine g_if_ne (a := w) (tgt := 21) hx hb (by omega) dX6_toldOfLink_5 (by decide) (fun c_5 => ?_) (fun c_5 => ?_)
  · skip
    refine lv_iload_n hx hb dX6_toldOfLink_21 rfl (lv_at hl 2 rfl) ?_
    refine lv_iconst (v := 1) hx hb dX6_toldOfLink_22 (by decide) ?_
    refine g_icmp_ne (a := w) (b := 1) (tgt := 35) hx hb (by omega) (by omega) dX6_toldOfLink_23 (by decide) (fun c_23 => ?_) (fun c_23 => ?_)
    · skip
      refine lv_aload_n hx hb dX6_toldOfLink_35 rfl (lv_at hl 0 rfl) ?_
      refine va_get (D := G.1) (ci := 6) (v := .ref mf) (C := RX6) (T := TX6) (N := 17) hx hb hts hinX6 hown hK hP 0 rfl rfl 11 (by decide) hf34 (fun _ h9 => h9) rfl dX6_toldOfLink_36 ?_
      refine lv_iload_n hx hb dX6_toldOfLink_39 rfl (lv_at hl 1 rfl) ?_
      refine g_iald (k := j) hx hb hK hP 9 rfl (by omega) (by omega) dX6_toldOfLink_40 ?_
      refine lv_aload_n hx hb dX6_toldOfLink_41 rfl (lv_at hl 0 rfl) ?_
      refine va_get (D := G.1) (ci := 6) (v := .ref ms) (C := RX6) (T := TX6) (N := 17) hx hb hts hinX6 hown hK hP 0 rfl rfl 1 (by decide) hf7 (fun _ h9 => h9) rfl dX6_toldOfLink_42 ?_
      refine lv_iconst (v := 4) hx hb dX6_toldOfLink_45 (by decide) ?_
      refine g_iald (k := 4) hx hb hK hP 1 rfl (by omega) (by omega) dX6_toldOfLink_46 ?_
      refine lv_icmp_le (tgt := 54) hx hb dX6_toldOfLink_47 (by decide) (fun c_47 => ?_) (fun c_47 => ?_)
      · skip
        refine lv_iconst (v := 0) hx hb dX6_toldOfLink_54 (by decide) ?_
        rw [hQ]
        exact k_iret (v := 0) (ht2_1, bu2_1, hg2_1, pq2_1, ld2_1, fo2_1, nw2_1, fw2_1) [0, 1, 2, 3, 4, 5, 6, 7, 8, 9] hx hb hr hlocks (by rw [show w = 2 by omega]; exact tLk2_f (hw_1.1.2.2.2.2.2 j hj) c_47) hK hP hD hS rfl (by decide) dX6_toldOfLink_55
      · skip
        refine lv_iconst (v := 1) hx hb dX6_toldOfLink_50 (by decide) ?_
        refine lv_goto (tgt := 55) hx hb dX6_toldOfLink_51 (by decide) ?_
        rw [hQ]
        exact k_iret (v := 1) (ht2_1, bu2_1, hg2_1, pq2_1, ld2_1, fo2_1, nw2_1, fw2_1) [0, 1, 2, 3, 4, 5, 6, 7, 8, 9] hx hb hr hlocks (by rw [show w = 2 by omega]; exact tLk2_t (hw_1.1.2.2.2.2.2 j hj) c_47) hK hP hD hS rfl (by decide) dX6_toldOfLink_55
    · skip
      refine lv_aload_n hx hb dX6_toldOfLink_26 rfl (lv_at hl 0 rfl) ?_
      refine va_get (D := G.1) (ci := 6) (v := .ref mf) (C := RX6) (T := TX6) (N := 17) hx hb hts hinX6 hown hK hP 0 rfl rfl 11 (by decide) hf34 (fun _ h9 => h9) rfl dX6_toldOfLink_27 ?_
      refine lv_iload_n hx hb dX6_toldOfLink_30 rfl (lv_at hl 1 rfl) ?_
      refine g_iald (k := j) hx hb hK hP 9 rfl (by omega) (by omega) dX6_toldOfLink_31 ?_
      refine lv_goto (tgt := 55) hx hb dX6_toldOfLink_32 (by decide) ?_
      rw [hQ]
      exact k_iret (v := fo2_1 j) (ht2_1, bu2_1, hg2_1, pq2_1, ld2_1, fo2_1, nw2_1, fw2_1) [0, 1, 2, 3, 4, 5, 6, 7, 8, 9] hx hb hr hlocks (by rw [c_23]; exact hw_1.1.2.2.2.2.2 j hj) hK hP hD hS rfl (by decide) dX6_toldOfLink_55
  · skip
    refine lv_aload_n hx hb dX6_toldOfLink_8 rfl (lv_at hl 0 rfl) ?_
    refine va_get (D := G.1) (ci := 6) (v := .ref ms) (C := RX6) (T := TX6) (N := 17) hx hb hts hinX6 hown hK hP 0 rfl rfl 1 (by decide) hf7 (fun _ h9 => h9) rfl dX6_toldOfLink_9 ?_
    refine lv_iconst (v := 5) hx hb dX6_toldOfLink_12 (by decide) ?_
    refine lv_iload_n hx hb dX6_toldOfLink_13 rfl (lv_at hl 1 rfl) ?_
    refine lv_iadd hx hb dX6_toldOfLink_14 ?_
    refine g_ti (y := nI (5 + j)) (nI_add (5) (j)) ?_
    refine g_iald (k := 5 + j) hx hb hK hP 1 rfl (by omega) (by omega) dX6_toldOfLink_15 ?_
    refine lv_iconst (v := 2) hx hb dX6_toldOfLink_16 (by decide) ?_
    refine lv_iadd hx hb dX6_toldOfLink_17 ?_
    refine lv_goto (tgt := 55) hx hb dX6_toldOfLink_18 (by decide) ?_
    rw [hQ]
    exact k_iret (v := (s0 (5 + j)) + 2) (ht2_1, bu2_1, hg2_1, pq2_1, ld2_1, fo2_1, nw2_1, fw2_1) [0, 1, 2, 3, 4, 5, 6, 7, 8, 9] hx hb hr hlocks (by rw [c_5]; rfl) hK hP hD hS rfl (by decide) dX6_toldOfLink_55
set_option maxHeartbeats 4000000 in
set_option maxRecDepth 100000 in
theorem c_X6_linkOf_1 (l : Launch) (G : kG) (m0 : Nat) (ms : Nat) (mv : Nat) (mt : Nat) (mh : Nat) (mb : Nat) (mg : Nat) (mq : Nat) (ml : Nat) (mf : Nat) (th : Nat) (s0 : Fn) (sv : Fn) (sm : Nat) (tx : Fn) (ln : Nat) (ht : Fn) (bu : Fn) (hg : Fn) (pq : Fn) (ld : Fn) (fo : Fn) (nw : Int32) (fw : Int32) (tp : Nat) (wr : Bool) (dg : Int64) (k : Int32) (w : Int32) (n : Nat) (sz : Nat) (hok : mOK s0 n) (h1 : isN k n = false) : kMet l yX6_linkOf wsX6_linkOf ({ frames := 3, cells := 0, slots := 0, locals := 68 } : Room) G [.ref m0, .int k, .int w] [(m0, .inr (6, [.int (nI (th)), .ref ms, .ref mv, .int (nI (sm)), .ref mt, .int (nI (ln)), .ref mh, .ref mb, .ref mg, .ref mq, .ref ml, .ref mf, .int nw, .int fw, .int (nI (tp)), .int (bI (wr)), .long dg])), (ms, .inl (G.2.1, 88, .inl s0)), (mv, .inl (G.2.1, 528, .inl sv)), (mt, .inl (G.2.1, 60, .inl tx)), (mh, .inl (G.2.1, 21, .inl ht)), (mb, .inl (G.2.1, 21, .inl bu)), (mg, .inl (G.2.1, 21, .inl hg)), (mq, .inl (G.2.1, 21, .inl pq)), (ml, .inl (G.2.1, 21, .inl ld)), (mf, .inl (G.2.1, 20, .inl fo))] sz (kQi G (fun (r : Int32) (u : Unit) => r = 0) (fun (u : Unit) => [(m0, .inr (6, [.int (nI 1), .ref ms, .ref mv, .int (nI (sm)), .ref mt, .int (nI (ln)), .ref mh, .ref mb, .ref mg, .ref mq, .ref ml, .ref mf, .int nw, .int fw, .int (nI (tp)), .int (bI (wr)), .long dg])), (ms, .inl (G.2.1, 88, .inl s0)), (mv, .inl (G.2.1, 528, .inl sv)), (mt, .inl (G.2.1, 60, .inl tx)), (mh, .inl (G.2.1, 21, .inl ht)), (mb, .inl (G.2.1, 21, .inl bu)), (mg, .inl (G.2.1, 21, .inl hg)), (mq, .inl (G.2.1, 21, .inl pq)), (ml, .inl (G.2.1, 21, .inl ld)), (mf, .inl (G.2.1, 20, .inl fo))])) 0 0 := by
  refine k_entry (cc := cX6_linkOf) (maxL := 3) (ret := (some .int)) (by decide) rfl (Nat.le_of_ble_eq_true rfl) ?_
  intro p e s m args below meth c A ls H locs Q hQ hx hb hml hr hts hown hlocks hin hA hP hK hD hS hl
  have hown : s.vm.findClass RX6 = some m.cls := hown
  have hl : lv_has ls 3 [(0, .ref m0), (1, .int k), (2, .int w)] := hl
  obtain ⟨hs0, hn1, hn, hv⟩ := id hok
  refine lv_aload_n hx hb dX6_linkOf_0 rfl (lv_at hl 0 rfl) ?_
  refine lv_aload_n hx hb dX6_linkOf_1 rfl (lv_at hl 0 rfl) ?_
  refine lv_iload_n hx hb dX6_linkOf_2 rfl (lv_at hl 1 rfl) ?_
  refine k_ci (wr := []) [] rfl (by decide) [0, 1, 2, 3, 4, 5, 6, 7, 8, 9] rfl (by decide) hP hD hS hA (k_V (n := 1) (ci := 6) (As := [.int k]) (rest := [.ref m0]) (wc := [(m0, .inr (6, [.int (nI (th)), .ref ms, .ref mv, .int (nI (sm)), .ref mt, .int (nI (ln)), .ref mh, .ref mb, .ref mg, .ref mq, .ref ml, .ref mf, .int nw, .int fw, .int (nI (tp)), .int (bI (wr)), .long dg])), (ms, .inl (G.2.1, 88, .inl s0)), (mv, .inl (G.2.1, 528, .inl sv)), (mt, .inl (G.2.1, 60, .inl tx)), (mh, .inl (G.2.1, 21, .inl ht)), (mb, .inl (G.2.1, 21, .inl bu)), (mg, .inl (G.2.1, 21, .inl hg)), (mq, .inl (G.2.1, 21, .inl pq)), (ml, .inl (G.2.1, 21, .inl ld)), (mf, .inl (G.2.1, 20, .inl fo))]) hx hb hml hown hts hK hP hD hl (c_X6_isLink l G m0 ms mv mt mh mb mg mq ml mf th s0 sv sm tx ln ht bu hg pq ld fo nw fw tp wr dg k n H.size (by first | assumption | omega)) [0, 1, 2, 3, 4, 5, 6, 7, 8, 9] rfl (by decide) gX6_linkOf_X6_isLink rfl rfl rfl (by decide +kernel) rfl ⟨Nat.le_of_ble_eq_true rfl, Nat.le_of_ble_eq_true rfl⟩ rfl rfl rfl (Nat.le_of_ble_eq_true rfl) dX6_linkOf_3 ⟨Nat.le_of_ble_eq_true rfl, Nat.le_of_ble_eq_true rfl⟩) (fun r_3 u H locs hw hP hD hS => ?_)
  have hw_3 : r_3 = bI (isN k n) := hw
  have hP : va_P G.1 vwCl [(m0, .inr (6, [.int (nI (th)), .ref ms, .ref mv, .int (nI (sm)), .ref mt, .int (nI (ln)), .ref mh, .ref mb, .ref mg, .ref mq, .ref ml, .ref mf, .int nw, .int fw, .int (nI (tp)), .int (bI (wr)), .long dg])), (ms, .inl (G.2.1, 88, .inl s0)), (mv, .inl (G.2.1, 528, .inl sv)), (mt, .inl (G.2.1, 60, .inl tx)), (mh, .inl (G.2.1, 21, .inl ht)), (mb, .inl (G.2.1, 21, .inl bu)), (mg, .inl (G.2.1, 21, .inl hg)), (mq, .inl (G.2.1, 21, .inl pq)), (ml, .inl (G.2.1, 21, .inl ld)), (mf, .inl (G.2.1, 20, .inl fo))] H := hP
  have hD : va_D A [(m0, .inr (6, [.int (nI (th)), .ref ms, .ref mv, .int (nI (sm)), .ref mt, .int (nI (ln)), .ref mh, .ref mb, .ref mg, .ref mq, .ref ml, .ref mf, .int nw, .int fw, .int (nI (tp)), .int (bI (wr)), .long dg])), (ms, .inl (G.2.1, 88, .inl s0)), (mv, .inl (G.2.1, 528, .inl sv)), (mt, .inl (G.2.1, 60, .inl tx)), (mh, .inl (G.2.1, 21, .inl ht)), (mb, .inl (G.2.1, 21, .inl bu)), (mg, .inl (G.2.1, 21, .inl hg)), (mq, .inl (G.2.1, 21, .inl pq)), (ml, .inl (G.2.1, 21, .inl ld)), (mf, .inl (G.2.1, 20, .inl fo))] := hD
  subst hw_3
  refine g_ti (y := nI 0) (by rw [h1]; rfl) ?_
  refine g_if_ne (a := 0) (tgt := 13) hx hb (by omega) dX6_linkOf_6 (by decide) (fun c_6 => ?_) (fun c_6 => ?_)
  · exact absurd c_6 (by decide)
  · skip
    refine lv_iconst (v := 1) hx hb dX6_linkOf_9 (by decide) ?_
    refine lv_goto (tgt := 27) hx hb dX6_linkOf_10 (by decide) ?_
    refine k_ci (wr := []) [] rfl (by decide) [0, 1, 2, 3, 4, 5, 6, 7, 8, 9] rfl (by decide) hP hD hS hA (k_V (n := 1) (ci := 6) (As := [.int 1]) (rest := []) (wc := [(m0, .inr (6, [.int (nI (th)), .ref ms, .ref mv, .int (nI (sm)), .ref mt, .int (nI (ln)), .ref mh, .ref mb, .ref mg, .ref mq, .ref ml, .ref mf, .int nw, .int fw, .int (nI (tp)), .int (bI (wr)), .long dg])), (ms, .inl (G.2.1, 88, .inl s0)), (mv, .inl (G.2.1, 528, .inl sv)), (mt, .inl (G.2.1, 60, .inl tx)), (mh, .inl (G.2.1, 21, .inl ht)), (mb, .inl (G.2.1, 21, .inl bu)), (mg, .inl (G.2.1, 21, .inl hg)), (mq, .inl (G.2.1, 21, .inl pq)), (ml, .inl (G.2.1, 21, .inl ld)), (mf, .inl (G.2.1, 20, .inl fo))]) hx hb hml hown hts hK hP hD hl (c_X6_holds l G m0 ms mv mt mh mb mg mq ml mf th s0 sv sm tx ln ht bu hg pq ld fo nw fw tp wr dg 1 H.size (by first | assumption | omega)) [0, 1, 2, 3, 4, 5, 6, 7, 8, 9] rfl (by decide) gX6_linkOf_X6_holds rfl rfl rfl (by decide +kernel) rfl ⟨Nat.le_of_ble_eq_true rfl, Nat.le_of_ble_eq_true rfl⟩ rfl rfl rfl (Nat.le_of_ble_eq_true rfl) dX6_linkOf_27 ⟨Nat.le_of_ble_eq_true rfl, Nat.le_of_ble_eq_true rfl⟩) (fun r_27 u H locs hw hP hD hS => ?_)
    have hw_27 : r_27 = bI (decide (1 = 0)) := hw
    have hP : va_P G.1 vwCl [(m0, .inr (6, [.int (nI (1)), .ref ms, .ref mv, .int (nI (sm)), .ref mt, .int (nI (ln)), .ref mh, .ref mb, .ref mg, .ref mq, .ref ml, .ref mf, .int nw, .int fw, .int (nI (tp)), .int (bI (wr)), .long dg])), (ms, .inl (G.2.1, 88, .inl s0)), (mv, .inl (G.2.1, 528, .inl sv)), (mt, .inl (G.2.1, 60, .inl tx)), (mh, .inl (G.2.1, 21, .inl ht)), (mb, .inl (G.2.1, 21, .inl bu)), (mg, .inl (G.2.1, 21, .inl hg)), (mq, .inl (G.2.1, 21, .inl pq)), (ml, .inl (G.2.1, 21, .inl ld)), (mf, .inl (G.2.1, 20, .inl fo))] H := hP
    have hD : va_D A [(m0, .inr (6, [.int (nI (1)), .ref ms, .ref mv, .int (nI (sm)), .ref mt, .int (nI (ln)), .ref mh, .ref mb, .ref mg, .ref mq, .ref ml, .ref mf, .int nw, .int fw, .int (nI (tp)), .int (bI (wr)), .long dg])), (ms, .inl (G.2.1, 88, .inl s0)), (mv, .inl (G.2.1, 528, .inl sv)), (mt, .inl (G.2.1, 60, .inl tx)), (mh, .inl (G.2.1, 21, .inl ht)), (mb, .inl (G.2.1, 21, .inl bu)), (mg, .inl (G.2.1, 21, .inl hg)), (mq, .inl (G.2.1, 21, .inl pq)), (ml, .inl (G.2.1, 21, .inl ld)), (mf, .inl (G.2.1, 20, .inl fo))] := hD
    subst hw_27
    refine g_ti (y := nI 0) (by rw [decide_eq_false (by decide)]; rfl) ?_
    refine g_if_eq (a := 0) (tgt := 42) hx hb (by omega) dX6_linkOf_30 (by decide) (fun c_30 => ?_) (fun c_30 => ?_)
    · skip
      refine lv_iconst (v := 0) hx hb dX6_linkOf_42 (by decide) ?_
      rw [hQ]
      exact k_iret (v := 0) () [0, 1, 2, 3, 4, 5, 6, 7, 8, 9] hx hb hr hlocks (rfl) hK hP hD hS rfl (by decide) dX6_linkOf_43
    · exact absurd c_30 (by decide)
set_option maxHeartbeats 4000000 in
set_option maxRecDepth 100000 in
theorem c_X6_linkOf_2 (l : Launch) (G : kG) (m0 : Nat) (ms : Nat) (mv : Nat) (mt : Nat) (mh : Nat) (mb : Nat) (mg : Nat) (mq : Nat) (ml : Nat) (mf : Nat) (th : Nat) (s0 : Fn) (sv : Fn) (sm : Nat) (tx : Fn) (ln : Nat) (ht : Fn) (bu : Fn) (hg : Fn) (pq : Fn) (ld : Fn) (fo : Fn) (nw : Int32) (fw : Int32) (tp : Nat) (wr : Bool) (dg : Int64) (k : Int32) (w : Int32) (n : Nat) (sz : Nat) (hok : mOK s0 n) (h1 : isN k n = true) (h2 : isN w 3 = false) : kMet l yX6_linkOf wsX6_linkOf ({ frames := 3, cells := 0, slots := 0, locals := 68 } : Room) G [.ref m0, .int k, .int w] [(m0, .inr (6, [.int (nI (th)), .ref ms, .ref mv, .int (nI (sm)), .ref mt, .int (nI (ln)), .ref mh, .ref mb, .ref mg, .ref mq, .ref ml, .ref mf, .int nw, .int fw, .int (nI (tp)), .int (bI (wr)), .long dg])), (ms, .inl (G.2.1, 88, .inl s0)), (mv, .inl (G.2.1, 528, .inl sv)), (mt, .inl (G.2.1, 60, .inl tx)), (mh, .inl (G.2.1, 21, .inl ht)), (mb, .inl (G.2.1, 21, .inl bu)), (mg, .inl (G.2.1, 21, .inl hg)), (mq, .inl (G.2.1, 21, .inl pq)), (ml, .inl (G.2.1, 21, .inl ld)), (mf, .inl (G.2.1, 20, .inl fo))] sz (kQi G (fun (r : Int32) (u : Unit) => r = 0) (fun (u : Unit) => [(m0, .inr (6, [.int (nI 2), .ref ms, .ref mv, .int (nI (sm)), .ref mt, .int (nI (ln)), .ref mh, .ref mb, .ref mg, .ref mq, .ref ml, .ref mf, .int nw, .int fw, .int (nI (tp)), .int (bI (wr)), .long dg])), (ms, .inl (G.2.1, 88, .inl s0)), (mv, .inl (G.2.1, 528, .inl sv)), (mt, .inl (G.2.1, 60, .inl tx)), (mh, .inl (G.2.1, 21, .inl ht)), (mb, .inl (G.2.1, 21, .inl bu)), (mg, .inl (G.2.1, 21, .inl hg)), (mq, .inl (G.2.1, 21, .inl pq)), (ml, .inl (G.2.1, 21, .inl ld)), (mf, .inl (G.2.1, 20, .inl fo))])) 0 0 := by
  refine k_entry (cc := cX6_linkOf) (maxL := 3) (ret := (some .int)) (by decide) rfl (Nat.le_of_ble_eq_true rfl) ?_
  intro p e s m args below meth c A ls H locs Q hQ hx hb hml hr hts hown hlocks hin hA hP hK hD hS hl
  have hown : s.vm.findClass RX6 = some m.cls := hown
  have hl : lv_has ls 3 [(0, .ref m0), (1, .int k), (2, .int w)] := hl
  obtain ⟨hs0, hn1, hn, hv⟩ := id hok
  refine lv_aload_n hx hb dX6_linkOf_0 rfl (lv_at hl 0 rfl) ?_
  refine lv_aload_n hx hb dX6_linkOf_1 rfl (lv_at hl 0 rfl) ?_
  refine lv_iload_n hx hb dX6_linkOf_2 rfl (lv_at hl 1 rfl) ?_
  refine k_ci (wr := []) [] rfl (by decide) [0, 1, 2, 3, 4, 5, 6, 7, 8, 9] rfl (by decide) hP hD hS hA (k_V (n := 1) (ci := 6) (As := [.int k]) (rest := [.ref m0]) (wc := [(m0, .inr (6, [.int (nI (th)), .ref ms, .ref mv, .int (nI (sm)), .ref mt, .int (nI (ln)), .ref mh, .ref mb, .ref mg, .ref mq, .ref ml, .ref mf, .int nw, .int fw, .int (nI (tp)), .int (bI (wr)), .long dg])), (ms, .inl (G.2.1, 88, .inl s0)), (mv, .inl (G.2.1, 528, .inl sv)), (mt, .inl (G.2.1, 60, .inl tx)), (mh, .inl (G.2.1, 21, .inl ht)), (mb, .inl (G.2.1, 21, .inl bu)), (mg, .inl (G.2.1, 21, .inl hg)), (mq, .inl (G.2.1, 21, .inl pq)), (ml, .inl (G.2.1, 21, .inl ld)), (mf, .inl (G.2.1, 20, .inl fo))]) hx hb hml hown hts hK hP hD hl (c_X6_isLink l G m0 ms mv mt mh mb mg mq ml mf th s0 sv sm tx ln ht bu hg pq ld fo nw fw tp wr dg k n H.size (by first | assumption | omega)) [0, 1, 2, 3, 4, 5, 6, 7, 8, 9] rfl (by decide) gX6_linkOf_X6_isLink rfl rfl rfl (by decide +kernel) rfl ⟨Nat.le_of_ble_eq_true rfl, Nat.le_of_ble_eq_true rfl⟩ rfl rfl rfl (Nat.le_of_ble_eq_true rfl) dX6_linkOf_3 ⟨Nat.le_of_ble_eq_true rfl, Nat.le_of_ble_eq_true rfl⟩) (fun r_3 u H locs hw hP hD hS => ?_)
  have hw_3 : r_3 = bI (isN k n) := hw
  have hP : va_P G.1 vwCl [(m0, .inr (6, [.int (nI (th)), .ref ms, .ref mv, .int (nI (sm)), .ref mt, .int (nI (ln)), .ref mh, .ref mb, .ref mg, .ref mq, .ref ml, .ref mf, .int nw, .int fw, .int (nI (tp)), .int (bI (wr)), .long dg])), (ms, .inl (G.2.1, 88, .inl s0)), (mv, .inl (G.2.1, 528, .inl sv)), (mt, .inl (G.2.1, 60, .inl tx)), (mh, .inl (G.2.1, 21, .inl ht)), (mb, .inl (G.2.1, 21, .inl bu)), (mg, .inl (G.2.1, 21, .inl hg)), (mq, .inl (G.2.1, 21, .inl pq)), (ml, .inl (G.2.1, 21, .inl ld)), (mf, .inl (G.2.1, 20, .inl fo))] H := hP
  have hD : va_D A [(m0, .inr (6, [.int (nI (th)), .ref ms, .ref mv, .int (nI (sm)), .ref mt, .int (nI (ln)), .ref mh, .ref mb, .ref mg, .ref mq, .ref ml, .ref mf, .int nw, .int fw, .int (nI (tp)), .int (bI (wr)), .long dg])), (ms, .inl (G.2.1, 88, .inl s0)), (mv, .inl (G.2.1, 528, .inl sv)), (mt, .inl (G.2.1, 60, .inl tx)), (mh, .inl (G.2.1, 21, .inl ht)), (mb, .inl (G.2.1, 21, .inl bu)), (mg, .inl (G.2.1, 21, .inl hg)), (mq, .inl (G.2.1, 21, .inl pq)), (ml, .inl (G.2.1, 21, .inl ld)), (mf, .inl (G.2.1, 20, .inl fo))] := hD
  subst hw_3
  refine g_ti (y := nI 1) (by rw [h1]; rfl) ?_
  refine g_if_ne (a := 1) (tgt := 13) hx hb (by omega) dX6_linkOf_6 (by decide) (fun c_6 => ?_) (fun c_6 => ?_)
  · skip
    refine lv_iload_n hx hb dX6_linkOf_13 rfl (lv_at hl 2 rfl) ?_
    refine lv_iconst (v := 0) hx hb dX6_linkOf_14 (by decide) ?_
    refine lv_iconst (v := 2) hx hb dX6_linkOf_15 (by decide) ?_
    refine k_ci (wr := [(m0, .inr (6, [.int (nI (th)), .ref ms, .ref mv, .int (nI (sm)), .ref mt, .int (nI (ln)), .ref mh, .ref mb, .ref mg, .ref mq, .ref ml, .ref mf, .int nw, .int fw, .int (nI (tp)), .int (bI (wr)), .long dg])), (ms, .inl (G.2.1, 88, .inl s0)), (mv, .inl (G.2.1, 528, .inl sv)), (mt, .inl (G.2.1, 60, .inl tx)), (mh, .inl (G.2.1, 21, .inl ht)), (mb, .inl (G.2.1, 21, .inl bu)), (mg, .inl (G.2.1, 21, .inl hg)), (mq, .inl (G.2.1, 21, .inl pq)), (ml, .inl (G.2.1, 21, .inl ld)), (mf, .inl (G.2.1, 20, .inl fo))]) [0, 1, 2, 3, 4, 5, 6, 7, 8, 9] rfl (by decide) [] rfl (by decide) hP hD hS hA (k_S (n := 3) (As := [.int w, .int 0, .int 2]) (rest := [.ref m0]) (wc := []) hx hb hml hown hts hK hP hD hl (c_X6_in l G w 0 2 H.size) [] rfl (by decide) gX6_linkOf_X6_in rfl rfl rfl (by decide +kernel) rfl ⟨Nat.le_of_ble_eq_true rfl, Nat.le_of_ble_eq_true rfl⟩ rfl (Nat.le_of_ble_eq_true rfl) dX6_linkOf_16 ⟨Nat.le_of_ble_eq_true rfl, Nat.le_of_ble_eq_true rfl⟩) (fun r_16 u H locs hw hP hD hS => ?_)
    have hw_16 : r_16 = bI (decide (0 ≤ w ∧ w ≤ 2)) := hw
    have hP : va_P G.1 vwCl [(m0, .inr (6, [.int (nI (th)), .ref ms, .ref mv, .int (nI (sm)), .ref mt, .int (nI (ln)), .ref mh, .ref mb, .ref mg, .ref mq, .ref ml, .ref mf, .int nw, .int fw, .int (nI (tp)), .int (bI (wr)), .long dg])), (ms, .inl (G.2.1, 88, .inl s0)), (mv, .inl (G.2.1, 528, .inl sv)), (mt, .inl (G.2.1, 60, .inl tx)), (mh, .inl (G.2.1, 21, .inl ht)), (mb, .inl (G.2.1, 21, .inl bu)), (mg, .inl (G.2.1, 21, .inl hg)), (mq, .inl (G.2.1, 21, .inl pq)), (ml, .inl (G.2.1, 21, .inl ld)), (mf, .inl (G.2.1, 20, .inl fo))] H := hP
    have hD : va_D A [(m0, .inr (6, [.int (nI (th)), .ref ms, .ref mv, .int (nI (sm)), .ref mt, .int (nI (ln)), .ref mh, .ref mb, .ref mg, .ref mq, .ref ml, .ref mf, .int nw, .int fw, .int (nI (tp)), .int (bI (wr)), .long dg])), (ms, .inl (G.2.1, 88, .inl s0)), (mv, .inl (G.2.1, 528, .inl sv)), (mt, .inl (G.2.1, 60, .inl tx)), (mh, .inl (G.2.1, 21, .inl ht)), (mb, .inl (G.2.1, 21, .inl bu)), (mg, .inl (G.2.1, 21, .inl hg)), (mq, .inl (G.2.1, 21, .inl pq)), (ml, .inl (G.2.1, 21, .inl ld)), (mf, .inl (G.2.1, 20, .inl fo))] := hD
    subst hw_16
    refine g_ti (y := nI 0) (inK_f (m := 2) h2) ?_
    refine g_if_ne (a := 0) (tgt := 26) hx hb (by omega) dX6_linkOf_19 (by decide) (fun c_19 => ?_) (fun c_19 => ?_)
    · exact absurd c_19 (by decide)
    · skip
      refine lv_iconst (v := 2) hx hb dX6_linkOf_22 (by decide) ?_
      refine lv_goto (tgt := 27) hx hb dX6_linkOf_23 (by decide) ?_
      refine k_ci (wr := []) [] rfl (by decide) [0, 1, 2, 3, 4, 5, 6, 7, 8, 9] rfl (by decide) hP hD hS hA (k_V (n := 1) (ci := 6) (As := [.int 2]) (rest := []) (wc := [(m0, .inr (6, [.int (nI (th)), .ref ms, .ref mv, .int (nI (sm)), .ref mt, .int (nI (ln)), .ref mh, .ref mb, .ref mg, .ref mq, .ref ml, .ref mf, .int nw, .int fw, .int (nI (tp)), .int (bI (wr)), .long dg])), (ms, .inl (G.2.1, 88, .inl s0)), (mv, .inl (G.2.1, 528, .inl sv)), (mt, .inl (G.2.1, 60, .inl tx)), (mh, .inl (G.2.1, 21, .inl ht)), (mb, .inl (G.2.1, 21, .inl bu)), (mg, .inl (G.2.1, 21, .inl hg)), (mq, .inl (G.2.1, 21, .inl pq)), (ml, .inl (G.2.1, 21, .inl ld)), (mf, .inl (G.2.1, 20, .inl fo))]) hx hb hml hown hts hK hP hD hl (c_X6_holds l G m0 ms mv mt mh mb mg mq ml mf th s0 sv sm tx ln ht bu hg pq ld fo nw fw tp wr dg 2 H.size (by first | assumption | omega)) [0, 1, 2, 3, 4, 5, 6, 7, 8, 9] rfl (by decide) gX6_linkOf_X6_holds rfl rfl rfl (by decide +kernel) rfl ⟨Nat.le_of_ble_eq_true rfl, Nat.le_of_ble_eq_true rfl⟩ rfl rfl rfl (Nat.le_of_ble_eq_true rfl) dX6_linkOf_27 ⟨Nat.le_of_ble_eq_true rfl, Nat.le_of_ble_eq_true rfl⟩) (fun r_27 u H locs hw hP hD hS => ?_)
      have hw_27 : r_27 = bI (decide (2 = 0)) := hw
      have hP : va_P G.1 vwCl [(m0, .inr (6, [.int (nI (2)), .ref ms, .ref mv, .int (nI (sm)), .ref mt, .int (nI (ln)), .ref mh, .ref mb, .ref mg, .ref mq, .ref ml, .ref mf, .int nw, .int fw, .int (nI (tp)), .int (bI (wr)), .long dg])), (ms, .inl (G.2.1, 88, .inl s0)), (mv, .inl (G.2.1, 528, .inl sv)), (mt, .inl (G.2.1, 60, .inl tx)), (mh, .inl (G.2.1, 21, .inl ht)), (mb, .inl (G.2.1, 21, .inl bu)), (mg, .inl (G.2.1, 21, .inl hg)), (mq, .inl (G.2.1, 21, .inl pq)), (ml, .inl (G.2.1, 21, .inl ld)), (mf, .inl (G.2.1, 20, .inl fo))] H := hP
      have hD : va_D A [(m0, .inr (6, [.int (nI (2)), .ref ms, .ref mv, .int (nI (sm)), .ref mt, .int (nI (ln)), .ref mh, .ref mb, .ref mg, .ref mq, .ref ml, .ref mf, .int nw, .int fw, .int (nI (tp)), .int (bI (wr)), .long dg])), (ms, .inl (G.2.1, 88, .inl s0)), (mv, .inl (G.2.1, 528, .inl sv)), (mt, .inl (G.2.1, 60, .inl tx)), (mh, .inl (G.2.1, 21, .inl ht)), (mb, .inl (G.2.1, 21, .inl bu)), (mg, .inl (G.2.1, 21, .inl hg)), (mq, .inl (G.2.1, 21, .inl pq)), (ml, .inl (G.2.1, 21, .inl ld)), (mf, .inl (G.2.1, 20, .inl fo))] := hD
      subst hw_27
      refine g_ti (y := nI 0) (by rw [decide_eq_false (by decide)]; rfl) ?_
      refine g_if_eq (a := 0) (tgt := 42) hx hb (by omega) dX6_linkOf_30 (by decide) (fun c_30 => ?_) (fun c_30 => ?_)
      · skip
        refine lv_iconst (v := 0) hx hb dX6_linkOf_42 (by decide) ?_
        rw [hQ]
        exact k_iret (v := 0) () [0, 1, 2, 3, 4, 5, 6, 7, 8, 9] hx hb hr hlocks (rfl) hK hP hD hS rfl (by decide) dX6_linkOf_43
      · exact absurd c_30 (by decide)
  · exact absurd c_6 (by decide)
set_option maxHeartbeats 4000000 in
set_option maxRecDepth 100000 in
theorem c_X6_linkOf_0 (l : Launch) (G : kG) (m0 : Nat) (ms : Nat) (mv : Nat) (mt : Nat) (mh : Nat) (mb : Nat) (mg : Nat) (mq : Nat) (ml : Nat) (mf : Nat) (th : Nat) (s0 : Fn) (sv : Fn) (sm : Nat) (tx : Fn) (ln : Nat) (ht : Fn) (bu : Fn) (hg : Fn) (pq : Fn) (ld : Fn) (fo : Fn) (nw : Int32) (fw : Int32) (tp : Nat) (wr : Bool) (dg : Int64) (j : Nat) (w : Nat) (n : Nat) (sz : Nat) (hok : mOK s0 n) (hj : j < n) (hw3 : w < 3) : kMet l yX6_linkOf wsX6_linkOf ({ frames := 3, cells := 0, slots := 0, locals := 68 } : Room) G [.ref m0, .int (nI (j)), .int (nI (w))] [(m0, .inr (6, [.int (nI (th)), .ref ms, .ref mv, .int (nI (sm)), .ref mt, .int (nI (ln)), .ref mh, .ref mb, .ref mg, .ref mq, .ref ml, .ref mf, .int nw, .int fw, .int (nI (tp)), .int (bI (wr)), .long dg])), (ms, .inl (G.2.1, 88, .inl s0)), (mv, .inl (G.2.1, 528, .inl sv)), (mt, .inl (G.2.1, 60, .inl tx)), (mh, .inl (G.2.1, 21, .inl ht)), (mb, .inl (G.2.1, 21, .inl bu)), (mg, .inl (G.2.1, 21, .inl hg)), (mq, .inl (G.2.1, 21, .inl pq)), (ml, .inl (G.2.1, 21, .inl ld)), (mf, .inl (G.2.1, 20, .inl fo))] sz (kQi G (fun (r : Int32) (u : Fn × Fn × Fn × Fn × Fn × Fn × Int32 × Int32) => r = tLk n (mST s0) (mWE s0) (mHA s0) (mPR s0) (mSE s0) j w) (fun (u : Fn × Fn × Fn × Fn × Fn × Fn × Int32 × Int32) => [(m0, .inr (6, [.int (nI 0), .ref ms, .ref mv, .int (nI (sm)), .ref mt, .int (nI (ln)), .ref mh, .ref mb, .ref mg, .ref mq, .ref ml, .ref mf, .int u.2.2.2.2.2.2.1, .int u.2.2.2.2.2.2.2, .int (nI (tp)), .int (bI (wr)), .long dg])), (ms, .inl (G.2.1, 88, .inl s0)), (mv, .inl (G.2.1, 528, .inl sv)), (mt, .inl (G.2.1, 60, .inl tx)), (mh, .inl (G.2.1, 21, .inl u.1)), (mb, .inl (G.2.1, 21, .inl u.2.1)), (mg, .inl (G.2.1, 21, .inl u.2.2.1)), (mq, .inl (G.2.1, 21, .inl u.2.2.2.1)), (ml, .inl (G.2.1, 21, .inl u.2.2.2.2.1)), (mf, .inl (G.2.1, 20, .inl u.2.2.2.2.2.1))])) 0 0 := by
  refine k_entry (cc := cX6_linkOf) (maxL := 3) (ret := (some .int)) (by decide) rfl (Nat.le_of_ble_eq_true rfl) ?_
  intro p e s m args below meth c A ls H locs Q hQ hx hb hml hr hts hown hlocks hin hA hP hK hD hS hl
  have hown : s.vm.findClass RX6 = some m.cls := hown
  have hl : lv_has ls 3 [(0, .ref m0), (1, .int (nI (j))), (2, .int (nI (w)))] := hl
  obtain ⟨hs0, hn1, hn, hv⟩ := id hok
  refine lv_aload_n hx hb dX6_linkOf_0 rfl (lv_at hl 0 rfl) ?_
  refine lv_aload_n hx hb dX6_linkOf_1 rfl (lv_at hl 0 rfl) ?_
  refine lv_iload_n hx hb dX6_linkOf_2 rfl (lv_at hl 1 rfl) ?_
  refine k_ci (wr := []) [] rfl (by decide) [0, 1, 2, 3, 4, 5, 6, 7, 8, 9] rfl (by decide) hP hD hS hA (k_V (n := 1) (ci := 6) (As := [.int (nI (j))]) (rest := [.ref m0]) (wc := [(m0, .inr (6, [.int (nI (th)), .ref ms, .ref mv, .int (nI (sm)), .ref mt, .int (nI (ln)), .ref mh, .ref mb, .ref mg, .ref mq, .ref ml, .ref mf, .int nw, .int fw, .int (nI (tp)), .int (bI (wr)), .long dg])), (ms, .inl (G.2.1, 88, .inl s0)), (mv, .inl (G.2.1, 528, .inl sv)), (mt, .inl (G.2.1, 60, .inl tx)), (mh, .inl (G.2.1, 21, .inl ht)), (mb, .inl (G.2.1, 21, .inl bu)), (mg, .inl (G.2.1, 21, .inl hg)), (mq, .inl (G.2.1, 21, .inl pq)), (ml, .inl (G.2.1, 21, .inl ld)), (mf, .inl (G.2.1, 20, .inl fo))]) hx hb hml hown hts hK hP hD hl (c_X6_isLink l G m0 ms mv mt mh mb mg mq ml mf th s0 sv sm tx ln ht bu hg pq ld fo nw fw tp wr dg (nI (j)) n H.size (by first | assumption | omega)) [0, 1, 2, 3, 4, 5, 6, 7, 8, 9] rfl (by decide) gX6_linkOf_X6_isLink rfl rfl rfl (by decide +kernel) rfl ⟨Nat.le_of_ble_eq_true rfl, Nat.le_of_ble_eq_true rfl⟩ rfl rfl rfl (Nat.le_of_ble_eq_true rfl) dX6_linkOf_3 ⟨Nat.le_of_ble_eq_true rfl, Nat.le_of_ble_eq_true rfl⟩) (fun r_3 u H locs hw hP hD hS => ?_)
  have hw_3 : r_3 = bI (isN (nI (j)) n) := hw
  have hP : va_P G.1 vwCl [(m0, .inr (6, [.int (nI (th)), .ref ms, .ref mv, .int (nI (sm)), .ref mt, .int (nI (ln)), .ref mh, .ref mb, .ref mg, .ref mq, .ref ml, .ref mf, .int nw, .int fw, .int (nI (tp)), .int (bI (wr)), .long dg])), (ms, .inl (G.2.1, 88, .inl s0)), (mv, .inl (G.2.1, 528, .inl sv)), (mt, .inl (G.2.1, 60, .inl tx)), (mh, .inl (G.2.1, 21, .inl ht)), (mb, .inl (G.2.1, 21, .inl bu)), (mg, .inl (G.2.1, 21, .inl hg)), (mq, .inl (G.2.1, 21, .inl pq)), (ml, .inl (G.2.1, 21, .inl ld)), (mf, .inl (G.2.1, 20, .inl fo))] H := hP
  have hD : va_D A [(m0, .inr (6, [.int (nI (th)), .ref ms, .ref mv, .int (nI (sm)), .ref mt, .int (nI (ln)), .ref mh, .ref mb, .ref mg, .ref mq, .ref ml, .ref mf, .int nw, .int fw, .int (nI (tp)), .int (bI (wr)), .long dg])), (ms, .inl (G.2.1, 88, .inl s0)), (mv, .inl (G.2.1, 528, .inl sv)), (mt, .inl (G.2.1, 60, .inl tx)), (mh, .inl (G.2.1, 21, .inl ht)), (mb, .inl (G.2.1, 21, .inl bu)), (mg, .inl (G.2.1, 21, .inl hg)), (mq, .inl (G.2.1, 21, .inl pq)), (ml, .inl (G.2.1, 21, .inl ld)), (mf, .inl (G.2.1, 20, .inl fo))] := hD
  subst hw_3
  refine g_ti (y := nI 1) (by rw [isN_nI (by omega), decide_eq_true (by omega)]; rfl) ?_
  refine g_if_ne (a := 1) (tgt := 13) hx hb (by omega) dX6_linkOf_6 (by decide) (fun c_6 => ?_) (fun c_6 => ?_)
  · skip
    refine lv_iload_n hx hb dX6_linkOf_13 rfl (lv_at hl 2 rfl) ?_
    refine lv_iconst (v := 0) hx hb dX6_linkOf_14 (by decide) ?_
    refine lv_iconst (v := 2) hx hb dX6_linkOf_15 (by decide) ?_
    refine k_ci (wr := [(m0, .inr (6, [.int (nI (th)), .ref ms, .ref mv, .int (nI (sm)), .ref mt, .int (nI (ln)), .ref mh, .ref mb, .ref mg, .ref mq, .ref ml, .ref mf, .int nw, .int fw, .int (nI (tp)), .int (bI (wr)), .long dg])), (ms, .inl (G.2.1, 88, .inl s0)), (mv, .inl (G.2.1, 528, .inl sv)), (mt, .inl (G.2.1, 60, .inl tx)), (mh, .inl (G.2.1, 21, .inl ht)), (mb, .inl (G.2.1, 21, .inl bu)), (mg, .inl (G.2.1, 21, .inl hg)), (mq, .inl (G.2.1, 21, .inl pq)), (ml, .inl (G.2.1, 21, .inl ld)), (mf, .inl (G.2.1, 20, .inl fo))]) [0, 1, 2, 3, 4, 5, 6, 7, 8, 9] rfl (by decide) [] rfl (by decide) hP hD hS hA (k_S (n := 3) (As := [.int (nI (w)), .int 0, .int 2]) (rest := [.ref m0]) (wc := []) hx hb hml hown hts hK hP hD hl (c_X6_in l G (nI (w)) 0 2 H.size) [] rfl (by decide) gX6_linkOf_X6_in rfl rfl rfl (by decide +kernel) rfl ⟨Nat.le_of_ble_eq_true rfl, Nat.le_of_ble_eq_true rfl⟩ rfl (Nat.le_of_ble_eq_true rfl) dX6_linkOf_16 ⟨Nat.le_of_ble_eq_true rfl, Nat.le_of_ble_eq_true rfl⟩) (fun r_16 u H locs hw hP hD hS => ?_)
    have hw_16 : r_16 = bI (decide (0 ≤ (nI (w)) ∧ (nI (w)) ≤ 2)) := hw
    have hP : va_P G.1 vwCl [(m0, .inr (6, [.int (nI (th)), .ref ms, .ref mv, .int (nI (sm)), .ref mt, .int (nI (ln)), .ref mh, .ref mb, .ref mg, .ref mq, .ref ml, .ref mf, .int nw, .int fw, .int (nI (tp)), .int (bI (wr)), .long dg])), (ms, .inl (G.2.1, 88, .inl s0)), (mv, .inl (G.2.1, 528, .inl sv)), (mt, .inl (G.2.1, 60, .inl tx)), (mh, .inl (G.2.1, 21, .inl ht)), (mb, .inl (G.2.1, 21, .inl bu)), (mg, .inl (G.2.1, 21, .inl hg)), (mq, .inl (G.2.1, 21, .inl pq)), (ml, .inl (G.2.1, 21, .inl ld)), (mf, .inl (G.2.1, 20, .inl fo))] H := hP
    have hD : va_D A [(m0, .inr (6, [.int (nI (th)), .ref ms, .ref mv, .int (nI (sm)), .ref mt, .int (nI (ln)), .ref mh, .ref mb, .ref mg, .ref mq, .ref ml, .ref mf, .int nw, .int fw, .int (nI (tp)), .int (bI (wr)), .long dg])), (ms, .inl (G.2.1, 88, .inl s0)), (mv, .inl (G.2.1, 528, .inl sv)), (mt, .inl (G.2.1, 60, .inl tx)), (mh, .inl (G.2.1, 21, .inl ht)), (mb, .inl (G.2.1, 21, .inl bu)), (mg, .inl (G.2.1, 21, .inl hg)), (mq, .inl (G.2.1, 21, .inl pq)), (ml, .inl (G.2.1, 21, .inl ld)), (mf, .inl (G.2.1, 20, .inl fo))] := hD
    subst hw_16
    refine g_ti (y := nI 1) (inK_t (m := 2) (by rw [isN_nI (by omega), decide_eq_true (by omega)])) ?_
    refine g_if_ne (a := 1) (tgt := 26) hx hb (by omega) dX6_linkOf_19 (by decide) (fun c_19 => ?_) (fun c_19 => ?_)
    · skip
      refine lv_iconst (v := 0) hx hb dX6_linkOf_26 (by decide) ?_
      refine k_ci (wr := []) [] rfl (by decide) [0, 1, 2, 3, 4, 5, 6, 7, 8, 9] rfl (by decide) hP hD hS hA (k_V (n := 1) (ci := 6) (As := [.int 0]) (rest := []) (wc := [(m0, .inr (6, [.int (nI (th)), .ref ms, .ref mv, .int (nI (sm)), .ref mt, .int (nI (ln)), .ref mh, .ref mb, .ref mg, .ref mq, .ref ml, .ref mf, .int nw, .int fw, .int (nI (tp)), .int (bI (wr)), .long dg])), (ms, .inl (G.2.1, 88, .inl s0)), (mv, .inl (G.2.1, 528, .inl sv)), (mt, .inl (G.2.1, 60, .inl tx)), (mh, .inl (G.2.1, 21, .inl ht)), (mb, .inl (G.2.1, 21, .inl bu)), (mg, .inl (G.2.1, 21, .inl hg)), (mq, .inl (G.2.1, 21, .inl pq)), (ml, .inl (G.2.1, 21, .inl ld)), (mf, .inl (G.2.1, 20, .inl fo))]) hx hb hml hown hts hK hP hD hl (c_X6_holds l G m0 ms mv mt mh mb mg mq ml mf th s0 sv sm tx ln ht bu hg pq ld fo nw fw tp wr dg 0 H.size (by first | assumption | omega)) [0, 1, 2, 3, 4, 5, 6, 7, 8, 9] rfl (by decide) gX6_linkOf_X6_holds rfl rfl rfl (by decide +kernel) rfl ⟨Nat.le_of_ble_eq_true rfl, Nat.le_of_ble_eq_true rfl⟩ rfl rfl rfl (Nat.le_of_ble_eq_true rfl) dX6_linkOf_27 ⟨Nat.le_of_ble_eq_true rfl, Nat.le_of_ble_eq_true rfl⟩) (fun r_27 u H locs hw hP hD hS => ?_)
      have hw_27 : r_27 = bI (decide (0 = 0)) := hw
      have hP : va_P G.1 vwCl [(m0, .inr (6, [.int (nI (0)), .ref ms, .ref mv, .int (nI (sm)), .ref mt, .int (nI (ln)), .ref mh, .ref mb, .ref mg, .ref mq, .ref ml, .ref mf, .int nw, .int fw, .int (nI (tp)), .int (bI (wr)), .long dg])), (ms, .inl (G.2.1, 88, .inl s0)), (mv, .inl (G.2.1, 528, .inl sv)), (mt, .inl (G.2.1, 60, .inl tx)), (mh, .inl (G.2.1, 21, .inl ht)), (mb, .inl (G.2.1, 21, .inl bu)), (mg, .inl (G.2.1, 21, .inl hg)), (mq, .inl (G.2.1, 21, .inl pq)), (ml, .inl (G.2.1, 21, .inl ld)), (mf, .inl (G.2.1, 20, .inl fo))] H := hP
      have hD : va_D A [(m0, .inr (6, [.int (nI (0)), .ref ms, .ref mv, .int (nI (sm)), .ref mt, .int (nI (ln)), .ref mh, .ref mb, .ref mg, .ref mq, .ref ml, .ref mf, .int nw, .int fw, .int (nI (tp)), .int (bI (wr)), .long dg])), (ms, .inl (G.2.1, 88, .inl s0)), (mv, .inl (G.2.1, 528, .inl sv)), (mt, .inl (G.2.1, 60, .inl tx)), (mh, .inl (G.2.1, 21, .inl ht)), (mb, .inl (G.2.1, 21, .inl bu)), (mg, .inl (G.2.1, 21, .inl hg)), (mq, .inl (G.2.1, 21, .inl pq)), (ml, .inl (G.2.1, 21, .inl ld)), (mf, .inl (G.2.1, 20, .inl fo))] := hD
      subst hw_27
      refine g_ti (y := nI 1) (by rw [decide_eq_true (show (0 : Nat) = 0 from rfl)]; rfl) ?_
      refine g_if_eq (a := 1) (tgt := 42) hx hb (by omega) dX6_linkOf_30 (by decide) (fun c_30 => ?_) (fun c_30 => ?_)
      · exact absurd c_30 (by decide)
      · skip
        refine lv_aload_n hx hb dX6_linkOf_33 rfl (lv_at hl 0 rfl) ?_
        refine lv_iload_n hx hb dX6_linkOf_34 rfl (lv_at hl 1 rfl) ?_
        refine lv_iload_n hx hb dX6_linkOf_35 rfl (lv_at hl 2 rfl) ?_
        refine k_ci (wr := []) [] rfl (by decide) [0, 1, 2, 3, 4, 5, 6, 7, 8, 9] rfl (by decide) hP hD hS hA (k_V (n := 2) (ci := 6) (As := [.int (nI (j)), .int (nI (w))]) (rest := []) (wc := [(m0, .inr (6, [.int (nI (0)), .ref ms, .ref mv, .int (nI (sm)), .ref mt, .int (nI (ln)), .ref mh, .ref mb, .ref mg, .ref mq, .ref ml, .ref mf, .int nw, .int fw, .int (nI (tp)), .int (bI (wr)), .long dg])), (ms, .inl (G.2.1, 88, .inl s0)), (mv, .inl (G.2.1, 528, .inl sv)), (mt, .inl (G.2.1, 60, .inl tx)), (mh, .inl (G.2.1, 21, .inl ht)), (mb, .inl (G.2.1, 21, .inl bu)), (mg, .inl (G.2.1, 21, .inl hg)), (mq, .inl (G.2.1, 21, .inl pq)), (ml, .inl (G.2.1, 21, .inl ld)), (mf, .inl (G.2.1, 20, .inl fo))]) hx hb hml hown hts hK hP hD hl (c_X6_toldOfLink l G m0 ms mv mt mh mb mg mq ml mf 0 s0 sv sm tx ln ht bu hg pq ld fo nw fw tp wr dg j w n H.size (by first | assumption | omega) (by first | assumption | omega) (by first | assumption | omega)) [0, 1, 2, 3, 4, 5, 6, 7, 8, 9] rfl (by decide) gX6_linkOf_X6_toldOfLink rfl rfl rfl (by decide +kernel) rfl ⟨Nat.le_of_ble_eq_true rfl, Nat.le_of_ble_eq_true rfl⟩ rfl rfl rfl (Nat.le_of_ble_eq_true rfl) dX6_linkOf_36 ⟨Nat.le_of_ble_eq_true rfl, Nat.le_of_ble_eq_true rfl⟩) (fun r_36 u H locs hw hP hD hS => ?_)
        obtain ⟨ht2_36, bu2_36, hg2_36, pq2_36, ld2_36, fo2_36, nw2_36, fw2_36⟩ := u
        have hw_36 : r_36 = tLk n (mST s0) (mWE s0) (mHA s0) (mPR s0) (mSE s0) j w := hw
        have hP : va_P G.1 vwCl [(m0, .inr (6, [.int (nI (0)), .ref ms, .ref mv, .int (nI (sm)), .ref mt, .int (nI (ln)), .ref mh, .ref mb, .ref mg, .ref mq, .ref ml, .ref mf, .int nw2_36, .int fw2_36, .int (nI (tp)), .int (bI (wr)), .long dg])), (ms, .inl (G.2.1, 88, .inl s0)), (mv, .inl (G.2.1, 528, .inl sv)), (mt, .inl (G.2.1, 60, .inl tx)), (mh, .inl (G.2.1, 21, .inl ht2_36)), (mb, .inl (G.2.1, 21, .inl bu2_36)), (mg, .inl (G.2.1, 21, .inl hg2_36)), (mq, .inl (G.2.1, 21, .inl pq2_36)), (ml, .inl (G.2.1, 21, .inl ld2_36)), (mf, .inl (G.2.1, 20, .inl fo2_36))] H := hP
        have hD : va_D A [(m0, .inr (6, [.int (nI (0)), .ref ms, .ref mv, .int (nI (sm)), .ref mt, .int (nI (ln)), .ref mh, .ref mb, .ref mg, .ref mq, .ref ml, .ref mf, .int nw2_36, .int fw2_36, .int (nI (tp)), .int (bI (wr)), .long dg])), (ms, .inl (G.2.1, 88, .inl s0)), (mv, .inl (G.2.1, 528, .inl sv)), (mt, .inl (G.2.1, 60, .inl tx)), (mh, .inl (G.2.1, 21, .inl ht2_36)), (mb, .inl (G.2.1, 21, .inl bu2_36)), (mg, .inl (G.2.1, 21, .inl hg2_36)), (mq, .inl (G.2.1, 21, .inl pq2_36)), (ml, .inl (G.2.1, 21, .inl ld2_36)), (mf, .inl (G.2.1, 20, .inl fo2_36))] := hD
        subst hw_36
        refine lv_goto (tgt := 43) hx hb dX6_linkOf_39 (by decide) ?_
        rw [hQ]
        exact k_iret (v := tLk n (mST s0) (mWE s0) (mHA s0) (mPR s0) (mSE s0) j w) (ht2_36, bu2_36, hg2_36, pq2_36, ld2_36, fo2_36, nw2_36, fw2_36) [0, 1, 2, 3, 4, 5, 6, 7, 8, 9] hx hb hr hlocks (rfl) hK hP hD hS rfl (by decide) dX6_linkOf_43
    · exact absurd c_19 (by decide)
  · exact absurd c_6 (by decide)
set_option maxHeartbeats 4000000 in
set_option maxRecDepth 100000 in
theorem c_X6_toldOfJoint (l : Launch) (G : kG) (m0 : Nat) (ms : Nat) (mv : Nat) (mt : Nat) (mh : Nat) (mb : Nat) (mg : Nat) (mq : Nat) (ml : Nat) (mf : Nat) (th : Nat) (s0 : Fn) (sv : Fn) (sm : Nat) (tx : Fn) (ln : Nat) (ht : Fn) (bu : Fn) (hg : Fn) (pq : Fn) (ld : Fn) (fo : Fn) (nw : Int32) (fw : Int32) (tp : Nat) (wr : Bool) (dg : Int64) (j : Nat) (w : Nat) (n : Nat) (sz : Nat) (hok : mOK s0 n) (hj : j ≤ n) (hw8 : w < 8) : kMet l yX6_toldOfJoint wsX6_toldOfJoint ({ frames := 2, cells := 0, slots := 0, locals := 46 } : Room) G [.ref m0, .int (nI (j)), .int (nI (w))] [(m0, .inr (6, [.int (nI (th)), .ref ms, .ref mv, .int (nI (sm)), .ref mt, .int (nI (ln)), .ref mh, .ref mb, .ref mg, .ref mq, .ref ml, .ref mf, .int nw, .int fw, .int (nI (tp)), .int (bI (wr)), .long dg])), (ms, .inl (G.2.1, 88, .inl s0)), (mv, .inl (G.2.1, 528, .inl sv)), (mt, .inl (G.2.1, 60, .inl tx)), (mh, .inl (G.2.1, 21, .inl ht)), (mb, .inl (G.2.1, 21, .inl bu)), (mg, .inl (G.2.1, 21, .inl hg)), (mq, .inl (G.2.1, 21, .inl pq)), (ml, .inl (G.2.1, 21, .inl ld)), (mf, .inl (G.2.1, 20, .inl fo))] sz (kQi G (fun (r : Int32) (u : Fn × Fn × Fn × Fn × Fn × Fn × Int32 × Int32) => r = tJt n (mST s0) (mWE s0) (mHA s0) (mPR s0) (mSE s0) j w) (fun (u : Fn × Fn × Fn × Fn × Fn × Fn × Int32 × Int32) => [(m0, .inr (6, [.int (nI (th)), .ref ms, .ref mv, .int (nI (sm)), .ref mt, .int (nI (ln)), .ref mh, .ref mb, .ref mg, .ref mq, .ref ml, .ref mf, .int u.2.2.2.2.2.2.1, .int u.2.2.2.2.2.2.2, .int (nI (tp)), .int (bI (wr)), .long dg])), (ms, .inl (G.2.1, 88, .inl s0)), (mv, .inl (G.2.1, 528, .inl sv)), (mt, .inl (G.2.1, 60, .inl tx)), (mh, .inl (G.2.1, 21, .inl u.1)), (mb, .inl (G.2.1, 21, .inl u.2.1)), (mg, .inl (G.2.1, 21, .inl u.2.2.1)), (mq, .inl (G.2.1, 21, .inl u.2.2.2.1)), (ml, .inl (G.2.1, 21, .inl u.2.2.2.2.1)), (mf, .inl (G.2.1, 20, .inl u.2.2.2.2.2.1))])) 0 0 := by
  refine k_entry (cc := cX6_toldOfJoint) (maxL := 3) (ret := (some .int)) (by decide) rfl (Nat.le_of_ble_eq_true rfl) ?_
  intro p e s m args below meth c A ls H locs Q hQ hx hb hml hr hts hown hlocks hin hA hP hK hD hS hl
  have hown : s.vm.findClass RX6 = some m.cls := hown
  have hl : lv_has ls 3 [(0, .ref m0), (1, .int (nI (j))), (2, .int (nI (w)))] := hl
  have hf19 := hts (.fieldLink RX6 19 "HangingChainModel" "height" "[I") (by decide +kernel)
  have hinX6 : ∀ w ∈ wsX60, w ∈ wsX6_toldOfJoint := by decide +kernel
  have hf7 := hts (.fieldLink RX6 7 "HangingChainModel" "s" "[I") (by decide +kernel)
  have hf22 := hts (.fieldLink RX6 22 "HangingChainModel" "burden" "[I") (by decide +kernel)
  have hf25 := hts (.fieldLink RX6 25 "HangingChainModel" "hung" "[I") (by decide +kernel)
  have hf28 := hts (.fieldLink RX6 28 "HangingChainModel" "propped" "[I") (by decide +kernel)
  have hf31 := hts (.fieldLink RX6 31 "HangingChainModel" "load" "[I") (by decide +kernel)
  obtain ⟨hs0, hn1, hn, hv⟩ := id hok
  refine lv_aload_n hx hb dX6_toldOfJoint_0 rfl (lv_at hl 0 rfl) ?_
  refine k_cv (wr := []) [] rfl (by decide) [0, 1, 2, 3, 4, 5, 6, 7, 8, 9] rfl (by decide) hP hD hS hA (k_V (n := 0) (ci := 6) (As := []) (rest := []) (wc := [(m0, .inr (6, [.int (nI (th)), .ref ms, .ref mv, .int (nI (sm)), .ref mt, .int (nI (ln)), .ref mh, .ref mb, .ref mg, .ref mq, .ref ml, .ref mf, .int nw, .int fw, .int (nI (tp)), .int (bI (wr)), .long dg])), (ms, .inl (G.2.1, 88, .inl s0)), (mv, .inl (G.2.1, 528, .inl sv)), (mt, .inl (G.2.1, 60, .inl tx)), (mh, .inl (G.2.1, 21, .inl ht)), (mb, .inl (G.2.1, 21, .inl bu)), (mg, .inl (G.2.1, 21, .inl hg)), (mq, .inl (G.2.1, 21, .inl pq)), (ml, .inl (G.2.1, 21, .inl ld)), (mf, .inl (G.2.1, 20, .inl fo))]) hx hb hml hown hts hK hP hD hl (c_X6_lay l G m0 ms mv mt mh mb mg mq ml mf th s0 sv sm tx ln ht bu hg pq ld fo nw fw tp wr dg n H.size (by first | assumption | omega)) [0, 1, 2, 3, 4, 5, 6, 7, 8, 9] rfl (by decide) gX6_toldOfJoint_X6_lay rfl rfl rfl (by decide +kernel) rfl ⟨Nat.le_of_ble_eq_true rfl, Nat.le_of_ble_eq_true rfl⟩ rfl rfl rfl (Nat.le_of_ble_eq_true rfl) dX6_toldOfJoint_1 ⟨Nat.le_of_ble_eq_true rfl, Nat.le_of_ble_eq_true rfl⟩) (fun u H locs hw hP hD hS => ?_)
  obtain ⟨ht2_1, bu2_1, hg2_1, pq2_1, ld2_1, fo2_1, nw2_1, fw2_1⟩ := u
  have hw_1 : okB n (mST s0) (mWE s0) (mHA s0) (mPR s0) (mSE s0) ht2_1 bu2_1 hg2_1 pq2_1 ld2_1 fo2_1 ∧ nw2_1 = cAH n (mST s0) (mWE s0) (mHA s0) (mPR s0) (mSE s0) ∧ fw2_1 = cBE n (mST s0) (mWE s0) (mHA s0) (mPR s0) (mSE s0) := hw
  have hP : va_P G.1 vwCl [(m0, .inr (6, [.int (nI (th)), .ref ms, .ref mv, .int (nI (sm)), .ref mt, .int (nI (ln)), .ref mh, .ref mb, .ref mg, .ref mq, .ref ml, .ref mf, .int nw2_1, .int fw2_1, .int (nI (tp)), .int (bI (wr)), .long dg])), (ms, .inl (G.2.1, 88, .inl s0)), (mv, .inl (G.2.1, 528, .inl sv)), (mt, .inl (G.2.1, 60, .inl tx)), (mh, .inl (G.2.1, 21, .inl ht2_1)), (mb, .inl (G.2.1, 21, .inl bu2_1)), (mg, .inl (G.2.1, 21, .inl hg2_1)), (mq, .inl (G.2.1, 21, .inl pq2_1)), (ml, .inl (G.2.1, 21, .inl ld2_1)), (mf, .inl (G.2.1, 20, .inl fo2_1))] H := hP
  have hD : va_D A [(m0, .inr (6, [.int (nI (th)), .ref ms, .ref mv, .int (nI (sm)), .ref mt, .int (nI (ln)), .ref mh, .ref mb, .ref mg, .ref mq, .ref ml, .ref mf, .int nw2_1, .int fw2_1, .int (nI (tp)), .int (bI (wr)), .long dg])), (ms, .inl (G.2.1, 88, .inl s0)), (mv, .inl (G.2.1, 528, .inl sv)), (mt, .inl (G.2.1, 60, .inl tx)), (mh, .inl (G.2.1, 21, .inl ht2_1)), (mb, .inl (G.2.1, 21, .inl bu2_1)), (mg, .inl (G.2.1, 21, .inl hg2_1)), (mq, .inl (G.2.1, 21, .inl pq2_1)), (ml, .inl (G.2.1, 21, .inl ld2_1)), (mf, .inl (G.2.1, 20, .inl fo2_1))] := hD
  refine lv_iload_n hx hb dX6_toldOfJoint_4 rfl (lv_at hl 2 rfl) ?_
  rcases (show w = 0 ∨ w = 1 ∨ w = 2 ∨ w = 3 ∨ w = 4 ∨ w = 5 ∨ w = 6 ∨ w = 7 by omega) with rfl | rfl | rfl | rfl | rfl | rfl | rfl | rfl
  · skip
    refine lv_tableIn (x := nI 0) (off := 43) (tgt := 48) hx hb dX6_toldOfJoint_5 (by decide) (by decide) rfl (by decide) ?_
    refine lv_aload_n hx hb dX6_toldOfJoint_48 rfl (lv_at hl 0 rfl) ?_
    refine va_get (D := G.1) (ci := 6) (v := .ref mh) (C := RX6) (T := TX6) (N := 17) hx hb hts hinX6 hown hK hP 0 rfl rfl 6 (by decide) hf19 (fun _ h9 => h9) rfl dX6_toldOfJoint_49 ?_
    refine lv_iload_n hx hb dX6_toldOfJoint_52 rfl (lv_at hl 1 rfl) ?_
    refine g_iald (k := j) hx hb hK hP 4 rfl (by omega) (by omega) dX6_toldOfJoint_53 ?_
    refine lv_bipush (v := 100) hx hb dX6_toldOfJoint_54 (by decide) ?_
    refine lv_iadd hx hb dX6_toldOfJoint_56 ?_
    rw [hQ]
    exact k_iret (v := (ht2_1 j) + 100) (ht2_1, bu2_1, hg2_1, pq2_1, ld2_1, fo2_1, nw2_1, fw2_1) [0, 1, 2, 3, 4, 5, 6, 7, 8, 9] hx hb hr hlocks (by show ht2_1 j + 100 = sHT (mST s0) j + 100; rw [hw_1.1.1 j hj]) hK hP hD hS rfl (by decide) dX6_toldOfJoint_57
  · skip
    refine lv_tableIn (x := nI 1) (off := 53) (tgt := 58) hx hb dX6_toldOfJoint_5 (by decide) (by decide) rfl (by decide) ?_
    refine lv_aload_n hx hb dX6_toldOfJoint_58 rfl (lv_at hl 0 rfl) ?_
    refine va_get (D := G.1) (ci := 6) (v := .ref ms) (C := RX6) (T := TX6) (N := 17) hx hb hts hinX6 hown hK hP 0 rfl rfl 1 (by decide) hf7 (fun _ h9 => h9) rfl dX6_toldOfJoint_59 ?_
    refine lv_bipush (v := 25) hx hb dX6_toldOfJoint_62 (by decide) ?_
    refine lv_iload_n hx hb dX6_toldOfJoint_64 rfl (lv_at hl 1 rfl) ?_
    refine lv_iadd hx hb dX6_toldOfJoint_65 ?_
    refine g_ti (y := nI (25 + j)) (nI_add (25) (j)) ?_
    refine g_iald (k := 25 + j) hx hb hK hP 1 rfl (by omega) (by omega) dX6_toldOfJoint_66 ?_
    rw [hQ]
    exact k_iret (v := s0 (25 + j)) (ht2_1, bu2_1, hg2_1, pq2_1, ld2_1, fo2_1, nw2_1, fw2_1) [0, 1, 2, 3, 4, 5, 6, 7, 8, 9] hx hb hr hlocks (rfl) hK hP hD hS rfl (by decide) dX6_toldOfJoint_67
  · skip
    refine lv_tableIn (x := nI 2) (off := 63) (tgt := 68) hx hb dX6_toldOfJoint_5 (by decide) (by decide) rfl (by decide) ?_
    refine lv_aload_n hx hb dX6_toldOfJoint_68 rfl (lv_at hl 0 rfl) ?_
    refine va_get (D := G.1) (ci := 6) (v := .ref ms) (C := RX6) (T := TX6) (N := 17) hx hb hts hinX6 hown hK hP 0 rfl rfl 1 (by decide) hf7 (fun _ h9 => h9) rfl dX6_toldOfJoint_69 ?_
    refine lv_bipush (v := 46) hx hb dX6_toldOfJoint_72 (by decide) ?_
    refine lv_iload_n hx hb dX6_toldOfJoint_74 rfl (lv_at hl 1 rfl) ?_
    refine lv_iadd hx hb dX6_toldOfJoint_75 ?_
    refine g_ti (y := nI (46 + j)) (nI_add (46) (j)) ?_
    refine g_iald (k := 46 + j) hx hb hK hP 1 rfl (by omega) (by omega) dX6_toldOfJoint_76 ?_
    rw [hQ]
    exact k_iret (v := s0 (46 + j)) (ht2_1, bu2_1, hg2_1, pq2_1, ld2_1, fo2_1, nw2_1, fw2_1) [0, 1, 2, 3, 4, 5, 6, 7, 8, 9] hx hb hr hlocks (rfl) hK hP hD hS rfl (by decide) dX6_toldOfJoint_77
  · skip
    refine lv_tableIn (x := nI 3) (off := 73) (tgt := 78) hx hb dX6_toldOfJoint_5 (by decide) (by decide) rfl (by decide) ?_
    refine lv_aload_n hx hb dX6_toldOfJoint_78 rfl (lv_at hl 0 rfl) ?_
    refine va_get (D := G.1) (ci := 6) (v := .ref ms) (C := RX6) (T := TX6) (N := 17) hx hb hts hinX6 hown hK hP 0 rfl rfl 1 (by decide) hf7 (fun _ h9 => h9) rfl dX6_toldOfJoint_79 ?_
    refine lv_bipush (v := 67) hx hb dX6_toldOfJoint_82 (by decide) ?_
    refine lv_iload_n hx hb dX6_toldOfJoint_84 rfl (lv_at hl 1 rfl) ?_
    refine lv_iadd hx hb dX6_toldOfJoint_85 ?_
    refine g_ti (y := nI (67 + j)) (nI_add (67) (j)) ?_
    refine g_iald (k := 67 + j) hx hb hK hP 1 rfl (by omega) (by omega) dX6_toldOfJoint_86 ?_
    rw [hQ]
    exact k_iret (v := s0 (67 + j)) (ht2_1, bu2_1, hg2_1, pq2_1, ld2_1, fo2_1, nw2_1, fw2_1) [0, 1, 2, 3, 4, 5, 6, 7, 8, 9] hx hb hr hlocks (rfl) hK hP hD hS rfl (by decide) dX6_toldOfJoint_87
  · skip
    refine lv_tableIn (x := nI 4) (off := 83) (tgt := 88) hx hb dX6_toldOfJoint_5 (by decide) (by decide) rfl (by decide) ?_
    refine lv_aload_n hx hb dX6_toldOfJoint_88 rfl (lv_at hl 0 rfl) ?_
    refine va_get (D := G.1) (ci := 6) (v := .ref mb) (C := RX6) (T := TX6) (N := 17) hx hb hts hinX6 hown hK hP 0 rfl rfl 7 (by decide) hf22 (fun _ h9 => h9) rfl dX6_toldOfJoint_89 ?_
    refine lv_iload_n hx hb dX6_toldOfJoint_92 rfl (lv_at hl 1 rfl) ?_
    refine g_iald (k := j) hx hb hK hP 5 rfl (by omega) (by omega) dX6_toldOfJoint_93 ?_
    rw [hQ]
    exact k_iret (v := bu2_1 j) (ht2_1, bu2_1, hg2_1, pq2_1, ld2_1, fo2_1, nw2_1, fw2_1) [0, 1, 2, 3, 4, 5, 6, 7, 8, 9] hx hb hr hlocks (hw_1.1.2.1 j hj) hK hP hD hS rfl (by decide) dX6_toldOfJoint_94
  · skip
    refine lv_tableIn (x := nI 5) (off := 90) (tgt := 95) hx hb dX6_toldOfJoint_5 (by decide) (by decide) rfl (by decide) ?_
    refine lv_aload_n hx hb dX6_toldOfJoint_95 rfl (lv_at hl 0 rfl) ?_
    refine va_get (D := G.1) (ci := 6) (v := .ref mg) (C := RX6) (T := TX6) (N := 17) hx hb hts hinX6 hown hK hP 0 rfl rfl 8 (by decide) hf25 (fun _ h9 => h9) rfl dX6_toldOfJoint_96 ?_
    refine lv_iload_n hx hb dX6_toldOfJoint_99 rfl (lv_at hl 1 rfl) ?_
    refine g_iald (k := j) hx hb hK hP 6 rfl (by omega) (by omega) dX6_toldOfJoint_100 ?_
    rw [hQ]
    exact k_iret (v := hg2_1 j) (ht2_1, bu2_1, hg2_1, pq2_1, ld2_1, fo2_1, nw2_1, fw2_1) [0, 1, 2, 3, 4, 5, 6, 7, 8, 9] hx hb hr hlocks (hw_1.1.2.2.1 j hj) hK hP hD hS rfl (by decide) dX6_toldOfJoint_101
  · skip
    refine lv_tableIn (x := nI 6) (off := 97) (tgt := 102) hx hb dX6_toldOfJoint_5 (by decide) (by decide) rfl (by decide) ?_
    refine lv_aload_n hx hb dX6_toldOfJoint_102 rfl (lv_at hl 0 rfl) ?_
    refine va_get (D := G.1) (ci := 6) (v := .ref mq) (C := RX6) (T := TX6) (N := 17) hx hb hts hinX6 hown hK hP 0 rfl rfl 9 (by decide) hf28 (fun _ h9 => h9) rfl dX6_toldOfJoint_103 ?_
    refine lv_iload_n hx hb dX6_toldOfJoint_106 rfl (lv_at hl 1 rfl) ?_
    refine g_iald (k := j) hx hb hK hP 7 rfl (by omega) (by omega) dX6_toldOfJoint_107 ?_
    rw [hQ]
    exact k_iret (v := pq2_1 j) (ht2_1, bu2_1, hg2_1, pq2_1, ld2_1, fo2_1, nw2_1, fw2_1) [0, 1, 2, 3, 4, 5, 6, 7, 8, 9] hx hb hr hlocks (hw_1.1.2.2.2.1 j hj) hK hP hD hS rfl (by decide) dX6_toldOfJoint_108
  · skip
    refine lv_tableOut (x := nI 7) (tgt := 109) hx hb dX6_toldOfJoint_5 (by decide) (by decide) ?_
    refine lv_aload_n hx hb dX6_toldOfJoint_109 rfl (lv_at hl 0 rfl) ?_
    refine va_get (D := G.1) (ci := 6) (v := .ref ml) (C := RX6) (T := TX6) (N := 17) hx hb hts hinX6 hown hK hP 0 rfl rfl 10 (by decide) hf31 (fun _ h9 => h9) rfl dX6_toldOfJoint_110 ?_
    refine lv_iload_n hx hb dX6_toldOfJoint_113 rfl (lv_at hl 1 rfl) ?_
    refine g_iald (k := j) hx hb hK hP 8 rfl (by omega) (by omega) dX6_toldOfJoint_114 ?_
    rw [hQ]
    exact k_iret (v := ld2_1 j) (ht2_1, bu2_1, hg2_1, pq2_1, ld2_1, fo2_1, nw2_1, fw2_1) [0, 1, 2, 3, 4, 5, 6, 7, 8, 9] hx hb hr hlocks (hw_1.1.2.2.2.2.1 j hj) hK hP hD hS rfl (by decide) dX6_toldOfJoint_115
set_option maxHeartbeats 4000000 in
set_option maxRecDepth 100000 in
theorem c_X6_joint_1 (l : Launch) (G : kG) (m0 : Nat) (ms : Nat) (mv : Nat) (mt : Nat) (mh : Nat) (mb : Nat) (mg : Nat) (mq : Nat) (ml : Nat) (mf : Nat) (th : Nat) (s0 : Fn) (sv : Fn) (sm : Nat) (tx : Fn) (ln : Nat) (ht : Fn) (bu : Fn) (hg : Fn) (pq : Fn) (ld : Fn) (fo : Fn) (nw : Int32) (fw : Int32) (tp : Nat) (wr : Bool) (dg : Int64) (k : Int32) (w : Int32) (n : Nat) (sz : Nat) (hok : mOK s0 n) (h1 : isN k (n + 1) = false) : kMet l yX6_joint wsX6_joint ({ frames := 3, cells := 0, slots := 0, locals := 68 } : Room) G [.ref m0, .int k, .int w] [(m0, .inr (6, [.int (nI (th)), .ref ms, .ref mv, .int (nI (sm)), .ref mt, .int (nI (ln)), .ref mh, .ref mb, .ref mg, .ref mq, .ref ml, .ref mf, .int nw, .int fw, .int (nI (tp)), .int (bI (wr)), .long dg])), (ms, .inl (G.2.1, 88, .inl s0)), (mv, .inl (G.2.1, 528, .inl sv)), (mt, .inl (G.2.1, 60, .inl tx)), (mh, .inl (G.2.1, 21, .inl ht)), (mb, .inl (G.2.1, 21, .inl bu)), (mg, .inl (G.2.1, 21, .inl hg)), (mq, .inl (G.2.1, 21, .inl pq)), (ml, .inl (G.2.1, 21, .inl ld)), (mf, .inl (G.2.1, 20, .inl fo))] sz (kQi G (fun (r : Int32) (u : Unit) => r = 0) (fun (u : Unit) => [(m0, .inr (6, [.int (nI 1), .ref ms, .ref mv, .int (nI (sm)), .ref mt, .int (nI (ln)), .ref mh, .ref mb, .ref mg, .ref mq, .ref ml, .ref mf, .int nw, .int fw, .int (nI (tp)), .int (bI (wr)), .long dg])), (ms, .inl (G.2.1, 88, .inl s0)), (mv, .inl (G.2.1, 528, .inl sv)), (mt, .inl (G.2.1, 60, .inl tx)), (mh, .inl (G.2.1, 21, .inl ht)), (mb, .inl (G.2.1, 21, .inl bu)), (mg, .inl (G.2.1, 21, .inl hg)), (mq, .inl (G.2.1, 21, .inl pq)), (ml, .inl (G.2.1, 21, .inl ld)), (mf, .inl (G.2.1, 20, .inl fo))])) 0 0 := by
  refine k_entry (cc := cX6_joint) (maxL := 3) (ret := (some .int)) (by decide) rfl (Nat.le_of_ble_eq_true rfl) ?_
  intro p e s m args below meth c A ls H locs Q hQ hx hb hml hr hts hown hlocks hin hA hP hK hD hS hl
  have hown : s.vm.findClass RX6 = some m.cls := hown
  have hl : lv_has ls 3 [(0, .ref m0), (1, .int k), (2, .int w)] := hl
  obtain ⟨hs0, hn1, hn, hv⟩ := id hok
  refine lv_aload_n hx hb dX6_joint_0 rfl (lv_at hl 0 rfl) ?_
  refine lv_aload_n hx hb dX6_joint_1 rfl (lv_at hl 0 rfl) ?_
  refine lv_iload_n hx hb dX6_joint_2 rfl (lv_at hl 1 rfl) ?_
  refine k_ci (wr := []) [] rfl (by decide) [0, 1, 2, 3, 4, 5, 6, 7, 8, 9] rfl (by decide) hP hD hS hA (k_V (n := 1) (ci := 6) (As := [.int k]) (rest := [.ref m0]) (wc := [(m0, .inr (6, [.int (nI (th)), .ref ms, .ref mv, .int (nI (sm)), .ref mt, .int (nI (ln)), .ref mh, .ref mb, .ref mg, .ref mq, .ref ml, .ref mf, .int nw, .int fw, .int (nI (tp)), .int (bI (wr)), .long dg])), (ms, .inl (G.2.1, 88, .inl s0)), (mv, .inl (G.2.1, 528, .inl sv)), (mt, .inl (G.2.1, 60, .inl tx)), (mh, .inl (G.2.1, 21, .inl ht)), (mb, .inl (G.2.1, 21, .inl bu)), (mg, .inl (G.2.1, 21, .inl hg)), (mq, .inl (G.2.1, 21, .inl pq)), (ml, .inl (G.2.1, 21, .inl ld)), (mf, .inl (G.2.1, 20, .inl fo))]) hx hb hml hown hts hK hP hD hl (c_X6_isJoint l G m0 ms mv mt mh mb mg mq ml mf th s0 sv sm tx ln ht bu hg pq ld fo nw fw tp wr dg k n H.size (by first | assumption | omega)) [0, 1, 2, 3, 4, 5, 6, 7, 8, 9] rfl (by decide) gX6_joint_X6_isJoint rfl rfl rfl (by decide +kernel) rfl ⟨Nat.le_of_ble_eq_true rfl, Nat.le_of_ble_eq_true rfl⟩ rfl rfl rfl (Nat.le_of_ble_eq_true rfl) dX6_joint_3 ⟨Nat.le_of_ble_eq_true rfl, Nat.le_of_ble_eq_true rfl⟩) (fun r_3 u H locs hw hP hD hS => ?_)
  have hw_3 : r_3 = bI (isN k (n + 1)) := hw
  have hP : va_P G.1 vwCl [(m0, .inr (6, [.int (nI (th)), .ref ms, .ref mv, .int (nI (sm)), .ref mt, .int (nI (ln)), .ref mh, .ref mb, .ref mg, .ref mq, .ref ml, .ref mf, .int nw, .int fw, .int (nI (tp)), .int (bI (wr)), .long dg])), (ms, .inl (G.2.1, 88, .inl s0)), (mv, .inl (G.2.1, 528, .inl sv)), (mt, .inl (G.2.1, 60, .inl tx)), (mh, .inl (G.2.1, 21, .inl ht)), (mb, .inl (G.2.1, 21, .inl bu)), (mg, .inl (G.2.1, 21, .inl hg)), (mq, .inl (G.2.1, 21, .inl pq)), (ml, .inl (G.2.1, 21, .inl ld)), (mf, .inl (G.2.1, 20, .inl fo))] H := hP
  have hD : va_D A [(m0, .inr (6, [.int (nI (th)), .ref ms, .ref mv, .int (nI (sm)), .ref mt, .int (nI (ln)), .ref mh, .ref mb, .ref mg, .ref mq, .ref ml, .ref mf, .int nw, .int fw, .int (nI (tp)), .int (bI (wr)), .long dg])), (ms, .inl (G.2.1, 88, .inl s0)), (mv, .inl (G.2.1, 528, .inl sv)), (mt, .inl (G.2.1, 60, .inl tx)), (mh, .inl (G.2.1, 21, .inl ht)), (mb, .inl (G.2.1, 21, .inl bu)), (mg, .inl (G.2.1, 21, .inl hg)), (mq, .inl (G.2.1, 21, .inl pq)), (ml, .inl (G.2.1, 21, .inl ld)), (mf, .inl (G.2.1, 20, .inl fo))] := hD
  subst hw_3
  refine g_ti (y := nI 0) (by rw [h1]; rfl) ?_
  refine g_if_ne (a := 0) (tgt := 13) hx hb (by omega) dX6_joint_6 (by decide) (fun c_6 => ?_) (fun c_6 => ?_)
  · exact absurd c_6 (by decide)
  · skip
    refine lv_iconst (v := 1) hx hb dX6_joint_9 (by decide) ?_
    refine lv_goto (tgt := 28) hx hb dX6_joint_10 (by decide) ?_
    refine k_ci (wr := []) [] rfl (by decide) [0, 1, 2, 3, 4, 5, 6, 7, 8, 9] rfl (by decide) hP hD hS hA (k_V (n := 1) (ci := 6) (As := [.int 1]) (rest := []) (wc := [(m0, .inr (6, [.int (nI (th)), .ref ms, .ref mv, .int (nI (sm)), .ref mt, .int (nI (ln)), .ref mh, .ref mb, .ref mg, .ref mq, .ref ml, .ref mf, .int nw, .int fw, .int (nI (tp)), .int (bI (wr)), .long dg])), (ms, .inl (G.2.1, 88, .inl s0)), (mv, .inl (G.2.1, 528, .inl sv)), (mt, .inl (G.2.1, 60, .inl tx)), (mh, .inl (G.2.1, 21, .inl ht)), (mb, .inl (G.2.1, 21, .inl bu)), (mg, .inl (G.2.1, 21, .inl hg)), (mq, .inl (G.2.1, 21, .inl pq)), (ml, .inl (G.2.1, 21, .inl ld)), (mf, .inl (G.2.1, 20, .inl fo))]) hx hb hml hown hts hK hP hD hl (c_X6_holds l G m0 ms mv mt mh mb mg mq ml mf th s0 sv sm tx ln ht bu hg pq ld fo nw fw tp wr dg 1 H.size (by first | assumption | omega)) [0, 1, 2, 3, 4, 5, 6, 7, 8, 9] rfl (by decide) gX6_joint_X6_holds rfl rfl rfl (by decide +kernel) rfl ⟨Nat.le_of_ble_eq_true rfl, Nat.le_of_ble_eq_true rfl⟩ rfl rfl rfl (Nat.le_of_ble_eq_true rfl) dX6_joint_28 ⟨Nat.le_of_ble_eq_true rfl, Nat.le_of_ble_eq_true rfl⟩) (fun r_28 u H locs hw hP hD hS => ?_)
    have hw_28 : r_28 = bI (decide (1 = 0)) := hw
    have hP : va_P G.1 vwCl [(m0, .inr (6, [.int (nI (1)), .ref ms, .ref mv, .int (nI (sm)), .ref mt, .int (nI (ln)), .ref mh, .ref mb, .ref mg, .ref mq, .ref ml, .ref mf, .int nw, .int fw, .int (nI (tp)), .int (bI (wr)), .long dg])), (ms, .inl (G.2.1, 88, .inl s0)), (mv, .inl (G.2.1, 528, .inl sv)), (mt, .inl (G.2.1, 60, .inl tx)), (mh, .inl (G.2.1, 21, .inl ht)), (mb, .inl (G.2.1, 21, .inl bu)), (mg, .inl (G.2.1, 21, .inl hg)), (mq, .inl (G.2.1, 21, .inl pq)), (ml, .inl (G.2.1, 21, .inl ld)), (mf, .inl (G.2.1, 20, .inl fo))] H := hP
    have hD : va_D A [(m0, .inr (6, [.int (nI (1)), .ref ms, .ref mv, .int (nI (sm)), .ref mt, .int (nI (ln)), .ref mh, .ref mb, .ref mg, .ref mq, .ref ml, .ref mf, .int nw, .int fw, .int (nI (tp)), .int (bI (wr)), .long dg])), (ms, .inl (G.2.1, 88, .inl s0)), (mv, .inl (G.2.1, 528, .inl sv)), (mt, .inl (G.2.1, 60, .inl tx)), (mh, .inl (G.2.1, 21, .inl ht)), (mb, .inl (G.2.1, 21, .inl bu)), (mg, .inl (G.2.1, 21, .inl hg)), (mq, .inl (G.2.1, 21, .inl pq)), (ml, .inl (G.2.1, 21, .inl ld)), (mf, .inl (G.2.1, 20, .inl fo))] := hD
    subst hw_28
    refine g_ti (y := nI 0) (by rw [decide_eq_false (by decide)]; rfl) ?_
    refine g_if_eq (a := 0) (tgt := 43) hx hb (by omega) dX6_joint_31 (by decide) (fun c_31 => ?_) (fun c_31 => ?_)
    · skip
      refine lv_iconst (v := 0) hx hb dX6_joint_43 (by decide) ?_
      rw [hQ]
      exact k_iret (v := 0) () [0, 1, 2, 3, 4, 5, 6, 7, 8, 9] hx hb hr hlocks (rfl) hK hP hD hS rfl (by decide) dX6_joint_44
    · exact absurd c_31 (by decide)
set_option maxHeartbeats 4000000 in
set_option maxRecDepth 100000 in
theorem c_X6_joint_2 (l : Launch) (G : kG) (m0 : Nat) (ms : Nat) (mv : Nat) (mt : Nat) (mh : Nat) (mb : Nat) (mg : Nat) (mq : Nat) (ml : Nat) (mf : Nat) (th : Nat) (s0 : Fn) (sv : Fn) (sm : Nat) (tx : Fn) (ln : Nat) (ht : Fn) (bu : Fn) (hg : Fn) (pq : Fn) (ld : Fn) (fo : Fn) (nw : Int32) (fw : Int32) (tp : Nat) (wr : Bool) (dg : Int64) (k : Int32) (w : Int32) (n : Nat) (sz : Nat) (hok : mOK s0 n) (h1 : isN k (n + 1) = true) (h2 : isN w 8 = false) : kMet l yX6_joint wsX6_joint ({ frames := 3, cells := 0, slots := 0, locals := 68 } : Room) G [.ref m0, .int k, .int w] [(m0, .inr (6, [.int (nI (th)), .ref ms, .ref mv, .int (nI (sm)), .ref mt, .int (nI (ln)), .ref mh, .ref mb, .ref mg, .ref mq, .ref ml, .ref mf, .int nw, .int fw, .int (nI (tp)), .int (bI (wr)), .long dg])), (ms, .inl (G.2.1, 88, .inl s0)), (mv, .inl (G.2.1, 528, .inl sv)), (mt, .inl (G.2.1, 60, .inl tx)), (mh, .inl (G.2.1, 21, .inl ht)), (mb, .inl (G.2.1, 21, .inl bu)), (mg, .inl (G.2.1, 21, .inl hg)), (mq, .inl (G.2.1, 21, .inl pq)), (ml, .inl (G.2.1, 21, .inl ld)), (mf, .inl (G.2.1, 20, .inl fo))] sz (kQi G (fun (r : Int32) (u : Unit) => r = 0) (fun (u : Unit) => [(m0, .inr (6, [.int (nI 2), .ref ms, .ref mv, .int (nI (sm)), .ref mt, .int (nI (ln)), .ref mh, .ref mb, .ref mg, .ref mq, .ref ml, .ref mf, .int nw, .int fw, .int (nI (tp)), .int (bI (wr)), .long dg])), (ms, .inl (G.2.1, 88, .inl s0)), (mv, .inl (G.2.1, 528, .inl sv)), (mt, .inl (G.2.1, 60, .inl tx)), (mh, .inl (G.2.1, 21, .inl ht)), (mb, .inl (G.2.1, 21, .inl bu)), (mg, .inl (G.2.1, 21, .inl hg)), (mq, .inl (G.2.1, 21, .inl pq)), (ml, .inl (G.2.1, 21, .inl ld)), (mf, .inl (G.2.1, 20, .inl fo))])) 0 0 := by
  refine k_entry (cc := cX6_joint) (maxL := 3) (ret := (some .int)) (by decide) rfl (Nat.le_of_ble_eq_true rfl) ?_
  intro p e s m args below meth c A ls H locs Q hQ hx hb hml hr hts hown hlocks hin hA hP hK hD hS hl
  have hown : s.vm.findClass RX6 = some m.cls := hown
  have hl : lv_has ls 3 [(0, .ref m0), (1, .int k), (2, .int w)] := hl
  obtain ⟨hs0, hn1, hn, hv⟩ := id hok
  refine lv_aload_n hx hb dX6_joint_0 rfl (lv_at hl 0 rfl) ?_
  refine lv_aload_n hx hb dX6_joint_1 rfl (lv_at hl 0 rfl) ?_
  refine lv_iload_n hx hb dX6_joint_2 rfl (lv_at hl 1 rfl) ?_
  refine k_ci (wr := []) [] rfl (by decide) [0, 1, 2, 3, 4, 5, 6, 7, 8, 9] rfl (by decide) hP hD hS hA (k_V (n := 1) (ci := 6) (As := [.int k]) (rest := [.ref m0]) (wc := [(m0, .inr (6, [.int (nI (th)), .ref ms, .ref mv, .int (nI (sm)), .ref mt, .int (nI (ln)), .ref mh, .ref mb, .ref mg, .ref mq, .ref ml, .ref mf, .int nw, .int fw, .int (nI (tp)), .int (bI (wr)), .long dg])), (ms, .inl (G.2.1, 88, .inl s0)), (mv, .inl (G.2.1, 528, .inl sv)), (mt, .inl (G.2.1, 60, .inl tx)), (mh, .inl (G.2.1, 21, .inl ht)), (mb, .inl (G.2.1, 21, .inl bu)), (mg, .inl (G.2.1, 21, .inl hg)), (mq, .inl (G.2.1, 21, .inl pq)), (ml, .inl (G.2.1, 21, .inl ld)), (mf, .inl (G.2.1, 20, .inl fo))]) hx hb hml hown hts hK hP hD hl (c_X6_isJoint l G m0 ms mv mt mh mb mg mq ml mf th s0 sv sm tx ln ht bu hg pq ld fo nw fw tp wr dg k n H.size (by first | assumption | omega)) [0, 1, 2, 3, 4, 5, 6, 7, 8, 9] rfl (by decide) gX6_joint_X6_isJoint rfl rfl rfl (by decide +kernel) rfl ⟨Nat.le_of_ble_eq_true rfl, Nat.le_of_ble_eq_true rfl⟩ rfl rfl rfl (Nat.le_of_ble_eq_true rfl) dX6_joint_3 ⟨Nat.le_of_ble_eq_true rfl, Nat.le_of_ble_eq_true rfl⟩) (fun r_3 u H locs hw hP hD hS => ?_)
  have hw_3 : r_3 = bI (isN k (n + 1)) := hw
  have hP : va_P G.1 vwCl [(m0, .inr (6, [.int (nI (th)), .ref ms, .ref mv, .int (nI (sm)), .ref mt, .int (nI (ln)), .ref mh, .ref mb, .ref mg, .ref mq, .ref ml, .ref mf, .int nw, .int fw, .int (nI (tp)), .int (bI (wr)), .long dg])), (ms, .inl (G.2.1, 88, .inl s0)), (mv, .inl (G.2.1, 528, .inl sv)), (mt, .inl (G.2.1, 60, .inl tx)), (mh, .inl (G.2.1, 21, .inl ht)), (mb, .inl (G.2.1, 21, .inl bu)), (mg, .inl (G.2.1, 21, .inl hg)), (mq, .inl (G.2.1, 21, .inl pq)), (ml, .inl (G.2.1, 21, .inl ld)), (mf, .inl (G.2.1, 20, .inl fo))] H := hP
  have hD : va_D A [(m0, .inr (6, [.int (nI (th)), .ref ms, .ref mv, .int (nI (sm)), .ref mt, .int (nI (ln)), .ref mh, .ref mb, .ref mg, .ref mq, .ref ml, .ref mf, .int nw, .int fw, .int (nI (tp)), .int (bI (wr)), .long dg])), (ms, .inl (G.2.1, 88, .inl s0)), (mv, .inl (G.2.1, 528, .inl sv)), (mt, .inl (G.2.1, 60, .inl tx)), (mh, .inl (G.2.1, 21, .inl ht)), (mb, .inl (G.2.1, 21, .inl bu)), (mg, .inl (G.2.1, 21, .inl hg)), (mq, .inl (G.2.1, 21, .inl pq)), (ml, .inl (G.2.1, 21, .inl ld)), (mf, .inl (G.2.1, 20, .inl fo))] := hD
  subst hw_3
  refine g_ti (y := nI 1) (by rw [h1]; rfl) ?_
  refine g_if_ne (a := 1) (tgt := 13) hx hb (by omega) dX6_joint_6 (by decide) (fun c_6 => ?_) (fun c_6 => ?_)
  · skip
    refine lv_iload_n hx hb dX6_joint_13 rfl (lv_at hl 2 rfl) ?_
    refine lv_iconst (v := 0) hx hb dX6_joint_14 (by decide) ?_
    refine lv_bipush (v := 7) hx hb dX6_joint_15 (by decide) ?_
    refine k_ci (wr := [(m0, .inr (6, [.int (nI (th)), .ref ms, .ref mv, .int (nI (sm)), .ref mt, .int (nI (ln)), .ref mh, .ref mb, .ref mg, .ref mq, .ref ml, .ref mf, .int nw, .int fw, .int (nI (tp)), .int (bI (wr)), .long dg])), (ms, .inl (G.2.1, 88, .inl s0)), (mv, .inl (G.2.1, 528, .inl sv)), (mt, .inl (G.2.1, 60, .inl tx)), (mh, .inl (G.2.1, 21, .inl ht)), (mb, .inl (G.2.1, 21, .inl bu)), (mg, .inl (G.2.1, 21, .inl hg)), (mq, .inl (G.2.1, 21, .inl pq)), (ml, .inl (G.2.1, 21, .inl ld)), (mf, .inl (G.2.1, 20, .inl fo))]) [0, 1, 2, 3, 4, 5, 6, 7, 8, 9] rfl (by decide) [] rfl (by decide) hP hD hS hA (k_S (n := 3) (As := [.int w, .int 0, .int 7]) (rest := [.ref m0]) (wc := []) hx hb hml hown hts hK hP hD hl (c_X6_in l G w 0 7 H.size) [] rfl (by decide) gX6_joint_X6_in rfl rfl rfl (by decide +kernel) rfl ⟨Nat.le_of_ble_eq_true rfl, Nat.le_of_ble_eq_true rfl⟩ rfl (Nat.le_of_ble_eq_true rfl) dX6_joint_17 ⟨Nat.le_of_ble_eq_true rfl, Nat.le_of_ble_eq_true rfl⟩) (fun r_17 u H locs hw hP hD hS => ?_)
    have hw_17 : r_17 = bI (decide (0 ≤ w ∧ w ≤ 7)) := hw
    have hP : va_P G.1 vwCl [(m0, .inr (6, [.int (nI (th)), .ref ms, .ref mv, .int (nI (sm)), .ref mt, .int (nI (ln)), .ref mh, .ref mb, .ref mg, .ref mq, .ref ml, .ref mf, .int nw, .int fw, .int (nI (tp)), .int (bI (wr)), .long dg])), (ms, .inl (G.2.1, 88, .inl s0)), (mv, .inl (G.2.1, 528, .inl sv)), (mt, .inl (G.2.1, 60, .inl tx)), (mh, .inl (G.2.1, 21, .inl ht)), (mb, .inl (G.2.1, 21, .inl bu)), (mg, .inl (G.2.1, 21, .inl hg)), (mq, .inl (G.2.1, 21, .inl pq)), (ml, .inl (G.2.1, 21, .inl ld)), (mf, .inl (G.2.1, 20, .inl fo))] H := hP
    have hD : va_D A [(m0, .inr (6, [.int (nI (th)), .ref ms, .ref mv, .int (nI (sm)), .ref mt, .int (nI (ln)), .ref mh, .ref mb, .ref mg, .ref mq, .ref ml, .ref mf, .int nw, .int fw, .int (nI (tp)), .int (bI (wr)), .long dg])), (ms, .inl (G.2.1, 88, .inl s0)), (mv, .inl (G.2.1, 528, .inl sv)), (mt, .inl (G.2.1, 60, .inl tx)), (mh, .inl (G.2.1, 21, .inl ht)), (mb, .inl (G.2.1, 21, .inl bu)), (mg, .inl (G.2.1, 21, .inl hg)), (mq, .inl (G.2.1, 21, .inl pq)), (ml, .inl (G.2.1, 21, .inl ld)), (mf, .inl (G.2.1, 20, .inl fo))] := hD
    subst hw_17
    refine g_ti (y := nI 0) (inK_f (m := 7) h2) ?_
    refine g_if_ne (a := 0) (tgt := 27) hx hb (by omega) dX6_joint_20 (by decide) (fun c_20 => ?_) (fun c_20 => ?_)
    · exact absurd c_20 (by decide)
    · skip
      refine lv_iconst (v := 2) hx hb dX6_joint_23 (by decide) ?_
      refine lv_goto (tgt := 28) hx hb dX6_joint_24 (by decide) ?_
      refine k_ci (wr := []) [] rfl (by decide) [0, 1, 2, 3, 4, 5, 6, 7, 8, 9] rfl (by decide) hP hD hS hA (k_V (n := 1) (ci := 6) (As := [.int 2]) (rest := []) (wc := [(m0, .inr (6, [.int (nI (th)), .ref ms, .ref mv, .int (nI (sm)), .ref mt, .int (nI (ln)), .ref mh, .ref mb, .ref mg, .ref mq, .ref ml, .ref mf, .int nw, .int fw, .int (nI (tp)), .int (bI (wr)), .long dg])), (ms, .inl (G.2.1, 88, .inl s0)), (mv, .inl (G.2.1, 528, .inl sv)), (mt, .inl (G.2.1, 60, .inl tx)), (mh, .inl (G.2.1, 21, .inl ht)), (mb, .inl (G.2.1, 21, .inl bu)), (mg, .inl (G.2.1, 21, .inl hg)), (mq, .inl (G.2.1, 21, .inl pq)), (ml, .inl (G.2.1, 21, .inl ld)), (mf, .inl (G.2.1, 20, .inl fo))]) hx hb hml hown hts hK hP hD hl (c_X6_holds l G m0 ms mv mt mh mb mg mq ml mf th s0 sv sm tx ln ht bu hg pq ld fo nw fw tp wr dg 2 H.size (by first | assumption | omega)) [0, 1, 2, 3, 4, 5, 6, 7, 8, 9] rfl (by decide) gX6_joint_X6_holds rfl rfl rfl (by decide +kernel) rfl ⟨Nat.le_of_ble_eq_true rfl, Nat.le_of_ble_eq_true rfl⟩ rfl rfl rfl (Nat.le_of_ble_eq_true rfl) dX6_joint_28 ⟨Nat.le_of_ble_eq_true rfl, Nat.le_of_ble_eq_true rfl⟩) (fun r_28 u H locs hw hP hD hS => ?_)
      have hw_28 : r_28 = bI (decide (2 = 0)) := hw
      have hP : va_P G.1 vwCl [(m0, .inr (6, [.int (nI (2)), .ref ms, .ref mv, .int (nI (sm)), .ref mt, .int (nI (ln)), .ref mh, .ref mb, .ref mg, .ref mq, .ref ml, .ref mf, .int nw, .int fw, .int (nI (tp)), .int (bI (wr)), .long dg])), (ms, .inl (G.2.1, 88, .inl s0)), (mv, .inl (G.2.1, 528, .inl sv)), (mt, .inl (G.2.1, 60, .inl tx)), (mh, .inl (G.2.1, 21, .inl ht)), (mb, .inl (G.2.1, 21, .inl bu)), (mg, .inl (G.2.1, 21, .inl hg)), (mq, .inl (G.2.1, 21, .inl pq)), (ml, .inl (G.2.1, 21, .inl ld)), (mf, .inl (G.2.1, 20, .inl fo))] H := hP
      have hD : va_D A [(m0, .inr (6, [.int (nI (2)), .ref ms, .ref mv, .int (nI (sm)), .ref mt, .int (nI (ln)), .ref mh, .ref mb, .ref mg, .ref mq, .ref ml, .ref mf, .int nw, .int fw, .int (nI (tp)), .int (bI (wr)), .long dg])), (ms, .inl (G.2.1, 88, .inl s0)), (mv, .inl (G.2.1, 528, .inl sv)), (mt, .inl (G.2.1, 60, .inl tx)), (mh, .inl (G.2.1, 21, .inl ht)), (mb, .inl (G.2.1, 21, .inl bu)), (mg, .inl (G.2.1, 21, .inl hg)), (mq, .inl (G.2.1, 21, .inl pq)), (ml, .inl (G.2.1, 21, .inl ld)), (mf, .inl (G.2.1, 20, .inl fo))] := hD
      subst hw_28
      refine g_ti (y := nI 0) (by rw [decide_eq_false (by decide)]; rfl) ?_
      refine g_if_eq (a := 0) (tgt := 43) hx hb (by omega) dX6_joint_31 (by decide) (fun c_31 => ?_) (fun c_31 => ?_)
      · skip
        refine lv_iconst (v := 0) hx hb dX6_joint_43 (by decide) ?_
        rw [hQ]
        exact k_iret (v := 0) () [0, 1, 2, 3, 4, 5, 6, 7, 8, 9] hx hb hr hlocks (rfl) hK hP hD hS rfl (by decide) dX6_joint_44
      · exact absurd c_31 (by decide)
  · exact absurd c_6 (by decide)
set_option maxHeartbeats 4000000 in
set_option maxRecDepth 100000 in
theorem c_X6_joint_0 (l : Launch) (G : kG) (m0 : Nat) (ms : Nat) (mv : Nat) (mt : Nat) (mh : Nat) (mb : Nat) (mg : Nat) (mq : Nat) (ml : Nat) (mf : Nat) (th : Nat) (s0 : Fn) (sv : Fn) (sm : Nat) (tx : Fn) (ln : Nat) (ht : Fn) (bu : Fn) (hg : Fn) (pq : Fn) (ld : Fn) (fo : Fn) (nw : Int32) (fw : Int32) (tp : Nat) (wr : Bool) (dg : Int64) (j : Nat) (w : Nat) (n : Nat) (sz : Nat) (hok : mOK s0 n) (hj : j ≤ n) (hw8 : w < 8) : kMet l yX6_joint wsX6_joint ({ frames := 3, cells := 0, slots := 0, locals := 68 } : Room) G [.ref m0, .int (nI (j)), .int (nI (w))] [(m0, .inr (6, [.int (nI (th)), .ref ms, .ref mv, .int (nI (sm)), .ref mt, .int (nI (ln)), .ref mh, .ref mb, .ref mg, .ref mq, .ref ml, .ref mf, .int nw, .int fw, .int (nI (tp)), .int (bI (wr)), .long dg])), (ms, .inl (G.2.1, 88, .inl s0)), (mv, .inl (G.2.1, 528, .inl sv)), (mt, .inl (G.2.1, 60, .inl tx)), (mh, .inl (G.2.1, 21, .inl ht)), (mb, .inl (G.2.1, 21, .inl bu)), (mg, .inl (G.2.1, 21, .inl hg)), (mq, .inl (G.2.1, 21, .inl pq)), (ml, .inl (G.2.1, 21, .inl ld)), (mf, .inl (G.2.1, 20, .inl fo))] sz (kQi G (fun (r : Int32) (u : Fn × Fn × Fn × Fn × Fn × Fn × Int32 × Int32) => r = tJt n (mST s0) (mWE s0) (mHA s0) (mPR s0) (mSE s0) j w) (fun (u : Fn × Fn × Fn × Fn × Fn × Fn × Int32 × Int32) => [(m0, .inr (6, [.int (nI 0), .ref ms, .ref mv, .int (nI (sm)), .ref mt, .int (nI (ln)), .ref mh, .ref mb, .ref mg, .ref mq, .ref ml, .ref mf, .int u.2.2.2.2.2.2.1, .int u.2.2.2.2.2.2.2, .int (nI (tp)), .int (bI (wr)), .long dg])), (ms, .inl (G.2.1, 88, .inl s0)), (mv, .inl (G.2.1, 528, .inl sv)), (mt, .inl (G.2.1, 60, .inl tx)), (mh, .inl (G.2.1, 21, .inl u.1)), (mb, .inl (G.2.1, 21, .inl u.2.1)), (mg, .inl (G.2.1, 21, .inl u.2.2.1)), (mq, .inl (G.2.1, 21, .inl u.2.2.2.1)), (ml, .inl (G.2.1, 21, .inl u.2.2.2.2.1)), (mf, .inl (G.2.1, 20, .inl u.2.2.2.2.2.1))])) 0 0 := by
  refine k_entry (cc := cX6_joint) (maxL := 3) (ret := (some .int)) (by decide) rfl (Nat.le_of_ble_eq_true rfl) ?_
  intro p e s m args below meth c A ls H locs Q hQ hx hb hml hr hts hown hlocks hin hA hP hK hD hS hl
  have hown : s.vm.findClass RX6 = some m.cls := hown
  have hl : lv_has ls 3 [(0, .ref m0), (1, .int (nI (j))), (2, .int (nI (w)))] := hl
  obtain ⟨hs0, hn1, hn, hv⟩ := id hok
  refine lv_aload_n hx hb dX6_joint_0 rfl (lv_at hl 0 rfl) ?_
  refine lv_aload_n hx hb dX6_joint_1 rfl (lv_at hl 0 rfl) ?_
  refine lv_iload_n hx hb dX6_joint_2 rfl (lv_at hl 1 rfl) ?_
  refine k_ci (wr := []) [] rfl (by decide) [0, 1, 2, 3, 4, 5, 6, 7, 8, 9] rfl (by decide) hP hD hS hA (k_V (n := 1) (ci := 6) (As := [.int (nI (j))]) (rest := [.ref m0]) (wc := [(m0, .inr (6, [.int (nI (th)), .ref ms, .ref mv, .int (nI (sm)), .ref mt, .int (nI (ln)), .ref mh, .ref mb, .ref mg, .ref mq, .ref ml, .ref mf, .int nw, .int fw, .int (nI (tp)), .int (bI (wr)), .long dg])), (ms, .inl (G.2.1, 88, .inl s0)), (mv, .inl (G.2.1, 528, .inl sv)), (mt, .inl (G.2.1, 60, .inl tx)), (mh, .inl (G.2.1, 21, .inl ht)), (mb, .inl (G.2.1, 21, .inl bu)), (mg, .inl (G.2.1, 21, .inl hg)), (mq, .inl (G.2.1, 21, .inl pq)), (ml, .inl (G.2.1, 21, .inl ld)), (mf, .inl (G.2.1, 20, .inl fo))]) hx hb hml hown hts hK hP hD hl (c_X6_isJoint l G m0 ms mv mt mh mb mg mq ml mf th s0 sv sm tx ln ht bu hg pq ld fo nw fw tp wr dg (nI (j)) n H.size (by first | assumption | omega)) [0, 1, 2, 3, 4, 5, 6, 7, 8, 9] rfl (by decide) gX6_joint_X6_isJoint rfl rfl rfl (by decide +kernel) rfl ⟨Nat.le_of_ble_eq_true rfl, Nat.le_of_ble_eq_true rfl⟩ rfl rfl rfl (Nat.le_of_ble_eq_true rfl) dX6_joint_3 ⟨Nat.le_of_ble_eq_true rfl, Nat.le_of_ble_eq_true rfl⟩) (fun r_3 u H locs hw hP hD hS => ?_)
  have hw_3 : r_3 = bI (isN (nI (j)) (n + 1)) := hw
  have hP : va_P G.1 vwCl [(m0, .inr (6, [.int (nI (th)), .ref ms, .ref mv, .int (nI (sm)), .ref mt, .int (nI (ln)), .ref mh, .ref mb, .ref mg, .ref mq, .ref ml, .ref mf, .int nw, .int fw, .int (nI (tp)), .int (bI (wr)), .long dg])), (ms, .inl (G.2.1, 88, .inl s0)), (mv, .inl (G.2.1, 528, .inl sv)), (mt, .inl (G.2.1, 60, .inl tx)), (mh, .inl (G.2.1, 21, .inl ht)), (mb, .inl (G.2.1, 21, .inl bu)), (mg, .inl (G.2.1, 21, .inl hg)), (mq, .inl (G.2.1, 21, .inl pq)), (ml, .inl (G.2.1, 21, .inl ld)), (mf, .inl (G.2.1, 20, .inl fo))] H := hP
  have hD : va_D A [(m0, .inr (6, [.int (nI (th)), .ref ms, .ref mv, .int (nI (sm)), .ref mt, .int (nI (ln)), .ref mh, .ref mb, .ref mg, .ref mq, .ref ml, .ref mf, .int nw, .int fw, .int (nI (tp)), .int (bI (wr)), .long dg])), (ms, .inl (G.2.1, 88, .inl s0)), (mv, .inl (G.2.1, 528, .inl sv)), (mt, .inl (G.2.1, 60, .inl tx)), (mh, .inl (G.2.1, 21, .inl ht)), (mb, .inl (G.2.1, 21, .inl bu)), (mg, .inl (G.2.1, 21, .inl hg)), (mq, .inl (G.2.1, 21, .inl pq)), (ml, .inl (G.2.1, 21, .inl ld)), (mf, .inl (G.2.1, 20, .inl fo))] := hD
  subst hw_3
  refine g_ti (y := nI 1) (by rw [isN_nI (by omega), decide_eq_true (by omega)]; rfl) ?_
  refine g_if_ne (a := 1) (tgt := 13) hx hb (by omega) dX6_joint_6 (by decide) (fun c_6 => ?_) (fun c_6 => ?_)
  · skip
    refine lv_iload_n hx hb dX6_joint_13 rfl (lv_at hl 2 rfl) ?_
    refine lv_iconst (v := 0) hx hb dX6_joint_14 (by decide) ?_
    refine lv_bipush (v := 7) hx hb dX6_joint_15 (by decide) ?_
    refine k_ci (wr := [(m0, .inr (6, [.int (nI (th)), .ref ms, .ref mv, .int (nI (sm)), .ref mt, .int (nI (ln)), .ref mh, .ref mb, .ref mg, .ref mq, .ref ml, .ref mf, .int nw, .int fw, .int (nI (tp)), .int (bI (wr)), .long dg])), (ms, .inl (G.2.1, 88, .inl s0)), (mv, .inl (G.2.1, 528, .inl sv)), (mt, .inl (G.2.1, 60, .inl tx)), (mh, .inl (G.2.1, 21, .inl ht)), (mb, .inl (G.2.1, 21, .inl bu)), (mg, .inl (G.2.1, 21, .inl hg)), (mq, .inl (G.2.1, 21, .inl pq)), (ml, .inl (G.2.1, 21, .inl ld)), (mf, .inl (G.2.1, 20, .inl fo))]) [0, 1, 2, 3, 4, 5, 6, 7, 8, 9] rfl (by decide) [] rfl (by decide) hP hD hS hA (k_S (n := 3) (As := [.int (nI (w)), .int 0, .int 7]) (rest := [.ref m0]) (wc := []) hx hb hml hown hts hK hP hD hl (c_X6_in l G (nI (w)) 0 7 H.size) [] rfl (by decide) gX6_joint_X6_in rfl rfl rfl (by decide +kernel) rfl ⟨Nat.le_of_ble_eq_true rfl, Nat.le_of_ble_eq_true rfl⟩ rfl (Nat.le_of_ble_eq_true rfl) dX6_joint_17 ⟨Nat.le_of_ble_eq_true rfl, Nat.le_of_ble_eq_true rfl⟩) (fun r_17 u H locs hw hP hD hS => ?_)
    have hw_17 : r_17 = bI (decide (0 ≤ (nI (w)) ∧ (nI (w)) ≤ 7)) := hw
    have hP : va_P G.1 vwCl [(m0, .inr (6, [.int (nI (th)), .ref ms, .ref mv, .int (nI (sm)), .ref mt, .int (nI (ln)), .ref mh, .ref mb, .ref mg, .ref mq, .ref ml, .ref mf, .int nw, .int fw, .int (nI (tp)), .int (bI (wr)), .long dg])), (ms, .inl (G.2.1, 88, .inl s0)), (mv, .inl (G.2.1, 528, .inl sv)), (mt, .inl (G.2.1, 60, .inl tx)), (mh, .inl (G.2.1, 21, .inl ht)), (mb, .inl (G.2.1, 21, .inl bu)), (mg, .inl (G.2.1, 21, .inl hg)), (mq, .inl (G.2.1, 21, .inl pq)), (ml, .inl (G.2.1, 21, .inl ld)), (mf, .inl (G.2.1, 20, .inl fo))] H := hP
    have hD : va_D A [(m0, .inr (6, [.int (nI (th)), .ref ms, .ref mv, .int (nI (sm)), .ref mt, .int (nI (ln)), .ref mh, .ref mb, .ref mg, .ref mq, .ref ml, .ref mf, .int nw, .int fw, .int (nI (tp)), .int (bI (wr)), .long dg])), (ms, .inl (G.2.1, 88, .inl s0)), (mv, .inl (G.2.1, 528, .inl sv)), (mt, .inl (G.2.1, 60, .inl tx)), (mh, .inl (G.2.1, 21, .inl ht)), (mb, .inl (G.2.1, 21, .inl bu)), (mg, .inl (G.2.1, 21, .inl hg)), (mq, .inl (G.2.1, 21, .inl pq)), (ml, .inl (G.2.1, 21, .inl ld)), (mf, .inl (G.2.1, 20, .inl fo))] := hD
    subst hw_17
    refine g_ti (y := nI 1) (inK_t (m := 7) (by rw [isN_nI (by omega), decide_eq_true (by omega)])) ?_
    refine g_if_ne (a := 1) (tgt := 27) hx hb (by omega) dX6_joint_20 (by decide) (fun c_20 => ?_) (fun c_20 => ?_)
    · skip
      refine lv_iconst (v := 0) hx hb dX6_joint_27 (by decide) ?_
      refine k_ci (wr := []) [] rfl (by decide) [0, 1, 2, 3, 4, 5, 6, 7, 8, 9] rfl (by decide) hP hD hS hA (k_V (n := 1) (ci := 6) (As := [.int 0]) (rest := []) (wc := [(m0, .inr (6, [.int (nI (th)), .ref ms, .ref mv, .int (nI (sm)), .ref mt, .int (nI (ln)), .ref mh, .ref mb, .ref mg, .ref mq, .ref ml, .ref mf, .int nw, .int fw, .int (nI (tp)), .int (bI (wr)), .long dg])), (ms, .inl (G.2.1, 88, .inl s0)), (mv, .inl (G.2.1, 528, .inl sv)), (mt, .inl (G.2.1, 60, .inl tx)), (mh, .inl (G.2.1, 21, .inl ht)), (mb, .inl (G.2.1, 21, .inl bu)), (mg, .inl (G.2.1, 21, .inl hg)), (mq, .inl (G.2.1, 21, .inl pq)), (ml, .inl (G.2.1, 21, .inl ld)), (mf, .inl (G.2.1, 20, .inl fo))]) hx hb hml hown hts hK hP hD hl (c_X6_holds l G m0 ms mv mt mh mb mg mq ml mf th s0 sv sm tx ln ht bu hg pq ld fo nw fw tp wr dg 0 H.size (by first | assumption | omega)) [0, 1, 2, 3, 4, 5, 6, 7, 8, 9] rfl (by decide) gX6_joint_X6_holds rfl rfl rfl (by decide +kernel) rfl ⟨Nat.le_of_ble_eq_true rfl, Nat.le_of_ble_eq_true rfl⟩ rfl rfl rfl (Nat.le_of_ble_eq_true rfl) dX6_joint_28 ⟨Nat.le_of_ble_eq_true rfl, Nat.le_of_ble_eq_true rfl⟩) (fun r_28 u H locs hw hP hD hS => ?_)
      have hw_28 : r_28 = bI (decide (0 = 0)) := hw
      have hP : va_P G.1 vwCl [(m0, .inr (6, [.int (nI (0)), .ref ms, .ref mv, .int (nI (sm)), .ref mt, .int (nI (ln)), .ref mh, .ref mb, .ref mg, .ref mq, .ref ml, .ref mf, .int nw, .int fw, .int (nI (tp)), .int (bI (wr)), .long dg])), (ms, .inl (G.2.1, 88, .inl s0)), (mv, .inl (G.2.1, 528, .inl sv)), (mt, .inl (G.2.1, 60, .inl tx)), (mh, .inl (G.2.1, 21, .inl ht)), (mb, .inl (G.2.1, 21, .inl bu)), (mg, .inl (G.2.1, 21, .inl hg)), (mq, .inl (G.2.1, 21, .inl pq)), (ml, .inl (G.2.1, 21, .inl ld)), (mf, .inl (G.2.1, 20, .inl fo))] H := hP
      have hD : va_D A [(m0, .inr (6, [.int (nI (0)), .ref ms, .ref mv, .int (nI (sm)), .ref mt, .int (nI (ln)), .ref mh, .ref mb, .ref mg, .ref mq, .ref ml, .ref mf, .int nw, .int fw, .int (nI (tp)), .int (bI (wr)), .long dg])), (ms, .inl (G.2.1, 88, .inl s0)), (mv, .inl (G.2.1, 528, .inl sv)), (mt, .inl (G.2.1, 60, .inl tx)), (mh, .inl (G.2.1, 21, .inl ht)), (mb, .inl (G.2.1, 21, .inl bu)), (mg, .inl (G.2.1, 21, .inl hg)), (mq, .inl (G.2.1, 21, .inl pq)), (ml, .inl (G.2.1, 21, .inl ld)), (mf, .inl (G.2.1, 20, .inl fo))] := hD
      subst hw_28
      refine g_ti (y := nI 1) (by rw [decide_eq_true (show (0 : Nat) = 0 from rfl)]; rfl) ?_
      refine g_if_eq (a := 1) (tgt := 43) hx hb (by omega) dX6_joint_31 (by decide) (fun c_31 => ?_) (fun c_31 => ?_)
      · exact absurd c_31 (by decide)
      · skip
        refine lv_aload_n hx hb dX6_joint_34 rfl (lv_at hl 0 rfl) ?_
        refine lv_iload_n hx hb dX6_joint_35 rfl (lv_at hl 1 rfl) ?_
        refine lv_iload_n hx hb dX6_joint_36 rfl (lv_at hl 2 rfl) ?_
        refine k_ci (wr := []) [] rfl (by decide) [0, 1, 2, 3, 4, 5, 6, 7, 8, 9] rfl (by decide) hP hD hS hA (k_V (n := 2) (ci := 6) (As := [.int (nI (j)), .int (nI (w))]) (rest := []) (wc := [(m0, .inr (6, [.int (nI (0)), .ref ms, .ref mv, .int (nI (sm)), .ref mt, .int (nI (ln)), .ref mh, .ref mb, .ref mg, .ref mq, .ref ml, .ref mf, .int nw, .int fw, .int (nI (tp)), .int (bI (wr)), .long dg])), (ms, .inl (G.2.1, 88, .inl s0)), (mv, .inl (G.2.1, 528, .inl sv)), (mt, .inl (G.2.1, 60, .inl tx)), (mh, .inl (G.2.1, 21, .inl ht)), (mb, .inl (G.2.1, 21, .inl bu)), (mg, .inl (G.2.1, 21, .inl hg)), (mq, .inl (G.2.1, 21, .inl pq)), (ml, .inl (G.2.1, 21, .inl ld)), (mf, .inl (G.2.1, 20, .inl fo))]) hx hb hml hown hts hK hP hD hl (c_X6_toldOfJoint l G m0 ms mv mt mh mb mg mq ml mf 0 s0 sv sm tx ln ht bu hg pq ld fo nw fw tp wr dg j w n H.size (by first | assumption | omega) (by first | assumption | omega) (by first | assumption | omega)) [0, 1, 2, 3, 4, 5, 6, 7, 8, 9] rfl (by decide) gX6_joint_X6_toldOfJoint rfl rfl rfl (by decide +kernel) rfl ⟨Nat.le_of_ble_eq_true rfl, Nat.le_of_ble_eq_true rfl⟩ rfl rfl rfl (Nat.le_of_ble_eq_true rfl) dX6_joint_37 ⟨Nat.le_of_ble_eq_true rfl, Nat.le_of_ble_eq_true rfl⟩) (fun r_37 u H locs hw hP hD hS => ?_)
        obtain ⟨ht2_37, bu2_37, hg2_37, pq2_37, ld2_37, fo2_37, nw2_37, fw2_37⟩ := u
        have hw_37 : r_37 = tJt n (mST s0) (mWE s0) (mHA s0) (mPR s0) (mSE s0) j w := hw
        have hP : va_P G.1 vwCl [(m0, .inr (6, [.int (nI (0)), .ref ms, .ref mv, .int (nI (sm)), .ref mt, .int (nI (ln)), .ref mh, .ref mb, .ref mg, .ref mq, .ref ml, .ref mf, .int nw2_37, .int fw2_37, .int (nI (tp)), .int (bI (wr)), .long dg])), (ms, .inl (G.2.1, 88, .inl s0)), (mv, .inl (G.2.1, 528, .inl sv)), (mt, .inl (G.2.1, 60, .inl tx)), (mh, .inl (G.2.1, 21, .inl ht2_37)), (mb, .inl (G.2.1, 21, .inl bu2_37)), (mg, .inl (G.2.1, 21, .inl hg2_37)), (mq, .inl (G.2.1, 21, .inl pq2_37)), (ml, .inl (G.2.1, 21, .inl ld2_37)), (mf, .inl (G.2.1, 20, .inl fo2_37))] H := hP
        have hD : va_D A [(m0, .inr (6, [.int (nI (0)), .ref ms, .ref mv, .int (nI (sm)), .ref mt, .int (nI (ln)), .ref mh, .ref mb, .ref mg, .ref mq, .ref ml, .ref mf, .int nw2_37, .int fw2_37, .int (nI (tp)), .int (bI (wr)), .long dg])), (ms, .inl (G.2.1, 88, .inl s0)), (mv, .inl (G.2.1, 528, .inl sv)), (mt, .inl (G.2.1, 60, .inl tx)), (mh, .inl (G.2.1, 21, .inl ht2_37)), (mb, .inl (G.2.1, 21, .inl bu2_37)), (mg, .inl (G.2.1, 21, .inl hg2_37)), (mq, .inl (G.2.1, 21, .inl pq2_37)), (ml, .inl (G.2.1, 21, .inl ld2_37)), (mf, .inl (G.2.1, 20, .inl fo2_37))] := hD
        subst hw_37
        refine lv_goto (tgt := 44) hx hb dX6_joint_40 (by decide) ?_
        rw [hQ]
        exact k_iret (v := tJt n (mST s0) (mWE s0) (mHA s0) (mPR s0) (mSE s0) j w) (ht2_37, bu2_37, hg2_37, pq2_37, ld2_37, fo2_37, nw2_37, fw2_37) [0, 1, 2, 3, 4, 5, 6, 7, 8, 9] hx hb hr hlocks (rfl) hK hP hD hS rfl (by decide) dX6_joint_44
    · exact absurd c_20 (by decide)
  · exact absurd c_6 (by decide)
set_option maxHeartbeats 4000000 in
set_option maxRecDepth 100000 in
theorem c_X6_lowest (l : Launch) (G : kG) (m0 : Nat) (ms : Nat) (mv : Nat) (mt : Nat) (mh : Nat) (mb : Nat) (mg : Nat) (mq : Nat) (ml : Nat) (mf : Nat) (th : Nat) (s0 : Fn) (sv : Fn) (sm : Nat) (tx : Fn) (ln : Nat) (ht : Fn) (bu : Fn) (hg : Fn) (pq : Fn) (ld : Fn) (fo : Fn) (nw : Int32) (fw : Int32) (tp : Nat) (wr : Bool) (dg : Int64) (n : Nat) (sz : Nat) (hok : mOK s0 n) : kMet l yX6_lowest wsX6_lowest ({ frames := 0, cells := 0, slots := 0, locals := 0 } : Room) G [.ref m0] [(m0, .inr (6, [.int (nI (th)), .ref ms, .ref mv, .int (nI (sm)), .ref mt, .int (nI (ln)), .ref mh, .ref mb, .ref mg, .ref mq, .ref ml, .ref mf, .int nw, .int fw, .int (nI (tp)), .int (bI (wr)), .long dg])), (ms, .inl (G.2.1, 88, .inl s0)), (mv, .inl (G.2.1, 528, .inl sv)), (mt, .inl (G.2.1, 60, .inl tx)), (mh, .inl (G.2.1, 21, .inl ht)), (mb, .inl (G.2.1, 21, .inl bu)), (mg, .inl (G.2.1, 21, .inl hg)), (mq, .inl (G.2.1, 21, .inl pq)), (ml, .inl (G.2.1, 21, .inl ld)), (mf, .inl (G.2.1, 20, .inl fo))] sz (kQi G (fun (r : Int32) (u : Unit) => r = nI (loN ht n)) (fun (u : Unit) => [(m0, .inr (6, [.int (nI (th)), .ref ms, .ref mv, .int (nI (sm)), .ref mt, .int (nI (ln)), .ref mh, .ref mb, .ref mg, .ref mq, .ref ml, .ref mf, .int nw, .int fw, .int (nI (tp)), .int (bI (wr)), .long dg])), (ms, .inl (G.2.1, 88, .inl s0)), (mv, .inl (G.2.1, 528, .inl sv)), (mt, .inl (G.2.1, 60, .inl tx)), (mh, .inl (G.2.1, 21, .inl ht)), (mb, .inl (G.2.1, 21, .inl bu)), (mg, .inl (G.2.1, 21, .inl hg)), (mq, .inl (G.2.1, 21, .inl pq)), (ml, .inl (G.2.1, 21, .inl ld)), (mf, .inl (G.2.1, 20, .inl fo))])) 0 0 := by
  refine k_entry (cc := cX6_lowest) (maxL := 3) (ret := (some .int)) (by decide) rfl (Nat.le_of_ble_eq_true rfl) ?_
  intro p e s m args below meth c A ls H locs Q hQ hx hb hml hr hts hown hlocks hin hA hP hK hD hS hl
  have hown : s.vm.findClass RX6 = some m.cls := hown
  have hl : lv_has ls 3 [(0, .ref m0)] := hl
  have hf7 := hts (.fieldLink RX6 7 "HangingChainModel" "s" "[I") (by decide +kernel)
  have hinX6 : ∀ w ∈ wsX60, w ∈ wsX6_lowest := by decide +kernel
  have hf19 := hts (.fieldLink RX6 19 "HangingChainModel" "height" "[I") (by decide +kernel)
  obtain ⟨hs0, hn1, hn, hv⟩ := id hok
  refine lv_iconst (v := 0) hx hb dX6_lowest_0 (by decide) ?_
  refine lv_istore_n (lv' := [(1, .int 0), (0, .ref m0)]) hx hb dX6_lowest_1 rfl hl (by decide) rfl (fun ls hl => ?_)
  refine lv_iconst (v := 1) hx hb dX6_lowest_2 (by decide) ?_
  refine lv_istore_n (lv' := [(2, .int 1), (1, .int 0), (0, .ref m0)]) hx hb dX6_lowest_3 rfl hl (by decide) rfl (fun ls hl => ?_)
  have L4 : ∀ (n9 : Nat) (i : Nat), (i ≤ n) → (n - i < n9) → ∀ (H : Heap) (locs : List Loc) (ls : Array Slot), va_P G.1 vwCl [(m0, .inr (6, [.int (nI (th)), .ref ms, .ref mv, .int (nI (sm)), .ref mt, .int (nI (ln)), .ref mh, .ref mb, .ref mg, .ref mq, .ref ml, .ref mf, .int nw, .int fw, .int (nI (tp)), .int (bI (wr)), .long dg])), (ms, .inl (G.2.1, 88, .inl s0)), (mv, .inl (G.2.1, 528, .inl sv)), (mt, .inl (G.2.1, 60, .inl tx)), (mh, .inl (G.2.1, 21, .inl ht)), (mb, .inl (G.2.1, 21, .inl bu)), (mg, .inl (G.2.1, 21, .inl hg)), (mq, .inl (G.2.1, 21, .inl pq)), (ml, .inl (G.2.1, 21, .inl ld)), (mf, .inl (G.2.1, 20, .inl fo))] H → va_D A [(m0, .inr (6, [.int (nI (th)), .ref ms, .ref mv, .int (nI (sm)), .ref mt, .int (nI (ln)), .ref mh, .ref mb, .ref mg, .ref mq, .ref ml, .ref mf, .int nw, .int fw, .int (nI (tp)), .int (bI (wr)), .long dg])), (ms, .inl (G.2.1, 88, .inl s0)), (mv, .inl (G.2.1, 528, .inl sv)), (mt, .inl (G.2.1, 60, .inl tx)), (mh, .inl (G.2.1, 21, .inl ht)), (mb, .inl (G.2.1, 21, .inl bu)), (mg, .inl (G.2.1, 21, .inl hg)), (mq, .inl (G.2.1, 21, .inl pq)), (ml, .inl (G.2.1, 21, .inl ld)), (mf, .inl (G.2.1, 20, .inl fo))] → va_S A s.heap H locs → lv_has ls 3 [(2, .int (nI (i + 1))), (1, .int (nI (loN ht i))), (0, .ref m0)] → W p l e ({ frames := 0, cells := 0, slots := 0, locals := 0 } : Room) s m args below meth c H locs 0 0 Q (F0 m 4 ls []) := by
    intro n9
    induction n9 with
    | zero =>
      intro i hi hm9 H locs ls hP hD hS hl
      exact absurd hm9 (Nat.not_lt_zero _)
    | succ n9 ih4 =>
      intro i hi hm9 H locs ls hP hD hS hl
      have hlo := loN_le ht i
      refine lv_iload_n hx hb dX6_lowest_4 rfl (lv_at hl 0 rfl) ?_
      refine lv_aload_n hx hb dX6_lowest_5 rfl (lv_at hl 2 rfl) ?_
      refine va_get (D := G.1) (ci := 6) (v := .ref ms) (C := RX6) (T := TX6) (N := 17) hx hb hts hinX6 hown hK hP 0 rfl rfl 1 (by decide) hf7 (fun _ h9 => h9) rfl dX6_lowest_6 ?_
      refine lv_iconst (v := 0) hx hb dX6_lowest_9 (by decide) ?_
      refine g_iald (k := 0) hx hb hK hP 1 rfl (by omega) (by omega) dX6_lowest_10 ?_
      refine g_ti (y := nI n) (hs0) ?_
      refine g_icmp_gt (a := i + 1) (b := n) (tgt := 41) hx hb (by omega) (by omega) dX6_lowest_11 (by decide) (fun c_11 => ?_) (fun c_11 => ?_)
      · skip
        have e9 : n = i := by omega
        subst e9
        refine lv_iload_n hx hb dX6_lowest_41 rfl (lv_at hl 1 rfl) ?_
        rw [hQ]
        exact k_iret (v := nI (loN ht n)) () [0, 1, 2, 3, 4, 5, 6, 7, 8, 9] hx hb hr hlocks (rfl) hK hP hD hS rfl (by decide) dX6_lowest_42
      · skip
        refine lv_aload_n hx hb dX6_lowest_14 rfl (lv_at hl 2 rfl) ?_
        refine va_get (D := G.1) (ci := 6) (v := .ref mh) (C := RX6) (T := TX6) (N := 17) hx hb hts hinX6 hown hK hP 0 rfl rfl 6 (by decide) hf19 (fun _ h9 => h9) rfl dX6_lowest_15 ?_
        refine lv_iload_n hx hb dX6_lowest_18 rfl (lv_at hl 0 rfl) ?_
        refine g_iald (k := i + 1) hx hb hK hP 4 rfl (by omega) (by omega) dX6_lowest_19 ?_
        refine lv_aload_n hx hb dX6_lowest_20 rfl (lv_at hl 2 rfl) ?_
        refine va_get (D := G.1) (ci := 6) (v := .ref mh) (C := RX6) (T := TX6) (N := 17) hx hb hts hinX6 hown hK hP 0 rfl rfl 6 (by decide) hf19 (fun _ h9 => h9) rfl dX6_lowest_21 ?_
        refine lv_iload_n hx hb dX6_lowest_24 rfl (lv_at hl 1 rfl) ?_
        refine g_iald (k := loN ht i) hx hb hK hP 4 rfl (by omega) (by omega) dX6_lowest_25 ?_
        have L34 : ∀ (x : Nat), (x = loN ht (i + 1)) → ∀ (H : Heap) (locs : List Loc) (ls : Array Slot), va_P G.1 vwCl [(m0, .inr (6, [.int (nI (th)), .ref ms, .ref mv, .int (nI (sm)), .ref mt, .int (nI (ln)), .ref mh, .ref mb, .ref mg, .ref mq, .ref ml, .ref mf, .int nw, .int fw, .int (nI (tp)), .int (bI (wr)), .long dg])), (ms, .inl (G.2.1, 88, .inl s0)), (mv, .inl (G.2.1, 528, .inl sv)), (mt, .inl (G.2.1, 60, .inl tx)), (mh, .inl (G.2.1, 21, .inl ht)), (mb, .inl (G.2.1, 21, .inl bu)), (mg, .inl (G.2.1, 21, .inl hg)), (mq, .inl (G.2.1, 21, .inl pq)), (ml, .inl (G.2.1, 21, .inl ld)), (mf, .inl (G.2.1, 20, .inl fo))] H → va_D A [(m0, .inr (6, [.int (nI (th)), .ref ms, .ref mv, .int (nI (sm)), .ref mt, .int (nI (ln)), .ref mh, .ref mb, .ref mg, .ref mq, .ref ml, .ref mf, .int nw, .int fw, .int (nI (tp)), .int (bI (wr)), .long dg])), (ms, .inl (G.2.1, 88, .inl s0)), (mv, .inl (G.2.1, 528, .inl sv)), (mt, .inl (G.2.1, 60, .inl tx)), (mh, .inl (G.2.1, 21, .inl ht)), (mb, .inl (G.2.1, 21, .inl bu)), (mg, .inl (G.2.1, 21, .inl hg)), (mq, .inl (G.2.1, 21, .inl pq)), (ml, .inl (G.2.1, 21, .inl ld)), (mf, .inl (G.2.1, 20, .inl fo))] → va_S A s.heap H locs → lv_has ls 3 [(2, .int (nI (i + 1))), (1, .int (nI (loN ht i))), (0, .ref m0)] → W p l e ({ frames := 0, cells := 0, slots := 0, locals := 0 } : Room) s m args below meth c H locs 0 0 Q (F0 m 34 ls [.int (nI x)]) := by
          intro x ex H locs ls hP hD hS hl
          subst ex
          refine lv_istore_n (lv' := [(1, .int (nI (loN ht (i + 1)))), (2, .int (nI (i + 1))), (0, .ref m0)]) hx hb dX6_lowest_34 rfl hl (by decide) rfl (fun ls hl => ?_)
          refine lv_iinc (v := nI ((i + 1) + 1)) (lv' := [(2, .int (nI ((i + 1) + 1))), (1, .int (nI (loN ht (i + 1)))), (0, .ref m0)]) hx hb dX6_lowest_35 hl (k := 1) rfl (nI_add (i + 1) 1) (by decide) rfl (fun ls hl => ?_)
          refine lv_goto (tgt := 4) hx hb dX6_lowest_38 (by decide) ?_
          exact ih4 (i + 1) (by first | assumption | omega) (by omega) _ _ _ hP hD hS (lv_sub hl [0, 1, 2] rfl)
        refine lv_icmp_ge (tgt := 33) hx hb dX6_lowest_26 (by decide) (fun c_26 => ?_) (fun c_26 => ?_)
        · skip
          refine lv_iload_n hx hb dX6_lowest_33 rfl (lv_at hl 1 rfl) ?_
          exact L34 (loN ht i) (loN_f c_26) _ _ _ hP hD hS (lv_sub hl [0, 1, 2] rfl)
        · skip
          refine lv_iload_n hx hb dX6_lowest_29 rfl (lv_at hl 0 rfl) ?_
          refine lv_goto (tgt := 34) hx hb dX6_lowest_30 (by decide) ?_
          exact L34 (i + 1) (loN_t c_26) _ _ _ hP hD hS (lv_sub hl [0, 1, 2] rfl)
  exact L4 (n - 0 + 1) 0 (by first | assumption | omega) (Nat.lt_succ_self _) _ _ _ hP hD hS (lv_sub hl [0, 1, 2] rfl)
set_option maxHeartbeats 4000000 in
set_option maxRecDepth 100000 in
theorem c_X6_sum0 (l : Launch) (G : kG) (m0 : Nat) (ms : Nat) (mv : Nat) (mt : Nat) (mh : Nat) (mb : Nat) (mg : Nat) (mq : Nat) (ml : Nat) (mf : Nat) (th : Nat) (s0 : Fn) (sv : Fn) (sm : Nat) (tx : Fn) (ln : Nat) (ht : Fn) (bu : Fn) (hg : Fn) (pq : Fn) (ld : Fn) (fo : Fn) (nw : Int32) (fw : Int32) (tp : Nat) (wr : Bool) (dg : Int64) (n : Nat) (sz : Nat) (hok : mOK s0 n) : kMet l yX6_sum wsX6_sum ({ frames := 0, cells := 0, slots := 0, locals := 0 } : Room) G [.ref m0, .int 0] [(m0, .inr (6, [.int (nI (th)), .ref ms, .ref mv, .int (nI (sm)), .ref mt, .int (nI (ln)), .ref mh, .ref mb, .ref mg, .ref mq, .ref ml, .ref mf, .int nw, .int fw, .int (nI (tp)), .int (bI (wr)), .long dg])), (ms, .inl (G.2.1, 88, .inl s0)), (mv, .inl (G.2.1, 528, .inl sv)), (mt, .inl (G.2.1, 60, .inl tx)), (mh, .inl (G.2.1, 21, .inl ht)), (mb, .inl (G.2.1, 21, .inl bu)), (mg, .inl (G.2.1, 21, .inl hg)), (mq, .inl (G.2.1, 21, .inl pq)), (ml, .inl (G.2.1, 21, .inl ld)), (mf, .inl (G.2.1, 20, .inl fo))] sz (kQi G (fun (r : Int32) (u : Unit) => r = sumN (mWE s0) (n + 1)) (fun (u : Unit) => [(m0, .inr (6, [.int (nI (th)), .ref ms, .ref mv, .int (nI (sm)), .ref mt, .int (nI (ln)), .ref mh, .ref mb, .ref mg, .ref mq, .ref ml, .ref mf, .int nw, .int fw, .int (nI (tp)), .int (bI (wr)), .long dg])), (ms, .inl (G.2.1, 88, .inl s0)), (mv, .inl (G.2.1, 528, .inl sv)), (mt, .inl (G.2.1, 60, .inl tx)), (mh, .inl (G.2.1, 21, .inl ht)), (mb, .inl (G.2.1, 21, .inl bu)), (mg, .inl (G.2.1, 21, .inl hg)), (mq, .inl (G.2.1, 21, .inl pq)), (ml, .inl (G.2.1, 21, .inl ld)), (mf, .inl (G.2.1, 20, .inl fo))])) 0 0 := by
  refine k_entry (cc := cX6_sum) (maxL := 4) (ret := (some .int)) (by decide) rfl (Nat.le_of_ble_eq_true rfl) ?_
  intro p e s m args below meth c A ls H locs Q hQ hx hb hml hr hts hown hlocks hin hA hP hK hD hS hl
  have hown : s.vm.findClass RX6 = some m.cls := hown
  have hl : lv_has ls 4 [(0, .ref m0), (1, .int 0)] := hl
  have hf7 := hts (.fieldLink RX6 7 "HangingChainModel" "s" "[I") (by decide +kernel)
  have hinX6 : ∀ w ∈ wsX60, w ∈ wsX6_sum := by decide +kernel
  obtain ⟨hs0, hn1, hn, hv⟩ := id hok
  refine lv_iconst (v := 0) hx hb dX6_sum_0 (by decide) ?_
  refine lv_istore_n (lv' := [(2, .int 0), (0, .ref m0), (1, .int 0)]) hx hb dX6_sum_1 rfl hl (by decide) rfl (fun ls hl => ?_)
  refine lv_iconst (v := 0) hx hb dX6_sum_2 (by decide) ?_
  refine lv_istore_n (lv' := [(3, .int 0), (2, .int 0), (0, .ref m0), (1, .int 0)]) hx hb dX6_sum_3 rfl hl (by decide) rfl (fun ls hl => ?_)
  have L4 : ∀ (n9 : Nat) (i : Nat), (i ≤ n + 1) → (n + 1 - i < n9) → ∀ (H : Heap) (locs : List Loc) (ls : Array Slot), va_P G.1 vwCl [(m0, .inr (6, [.int (nI (th)), .ref ms, .ref mv, .int (nI (sm)), .ref mt, .int (nI (ln)), .ref mh, .ref mb, .ref mg, .ref mq, .ref ml, .ref mf, .int nw, .int fw, .int (nI (tp)), .int (bI (wr)), .long dg])), (ms, .inl (G.2.1, 88, .inl s0)), (mv, .inl (G.2.1, 528, .inl sv)), (mt, .inl (G.2.1, 60, .inl tx)), (mh, .inl (G.2.1, 21, .inl ht)), (mb, .inl (G.2.1, 21, .inl bu)), (mg, .inl (G.2.1, 21, .inl hg)), (mq, .inl (G.2.1, 21, .inl pq)), (ml, .inl (G.2.1, 21, .inl ld)), (mf, .inl (G.2.1, 20, .inl fo))] H → va_D A [(m0, .inr (6, [.int (nI (th)), .ref ms, .ref mv, .int (nI (sm)), .ref mt, .int (nI (ln)), .ref mh, .ref mb, .ref mg, .ref mq, .ref ml, .ref mf, .int nw, .int fw, .int (nI (tp)), .int (bI (wr)), .long dg])), (ms, .inl (G.2.1, 88, .inl s0)), (mv, .inl (G.2.1, 528, .inl sv)), (mt, .inl (G.2.1, 60, .inl tx)), (mh, .inl (G.2.1, 21, .inl ht)), (mb, .inl (G.2.1, 21, .inl bu)), (mg, .inl (G.2.1, 21, .inl hg)), (mq, .inl (G.2.1, 21, .inl pq)), (ml, .inl (G.2.1, 21, .inl ld)), (mf, .inl (G.2.1, 20, .inl fo))] → va_S A s.heap H locs → lv_has ls 4 [(3, .int (nI i)), (2, .int (sumN (mWE s0) i)), (0, .ref m0), (1, .int 0)] → W p l e ({ frames := 0, cells := 0, slots := 0, locals := 0 } : Room) s m args below meth c H locs 0 0 Q (F0 m 4 ls []) := by
    intro n9
    induction n9 with
    | zero =>
      intro i hi hm9 H locs ls hP hD hS hl
      exact absurd hm9 (Nat.not_lt_zero _)
    | succ n9 ih4 =>
      intro i hi hm9 H locs ls hP hD hS hl
      refine lv_iload_n hx hb dX6_sum_4 rfl (lv_at hl 0 rfl) ?_
      refine lv_aload_n hx hb dX6_sum_5 rfl (lv_at hl 2 rfl) ?_
      refine va_get (D := G.1) (ci := 6) (v := .ref ms) (C := RX6) (T := TX6) (N := 17) hx hb hts hinX6 hown hK hP 0 rfl rfl 1 (by decide) hf7 (fun _ h9 => h9) rfl dX6_sum_6 ?_
      refine lv_iconst (v := 0) hx hb dX6_sum_9 (by decide) ?_
      refine g_iald (k := 0) hx hb hK hP 1 rfl (by omega) (by omega) dX6_sum_10 ?_
      refine g_ti (y := nI n) (hs0) ?_
      refine g_icmp_gt (a := i) (b := n) (tgt := 45) hx hb (by omega) (by omega) dX6_sum_11 (by decide) (fun c_11 => ?_) (fun c_11 => ?_)
      · skip
        have e9 : n + 1 = i := by omega
        subst e9
        refine lv_iload_n hx hb dX6_sum_45 rfl (lv_at hl 1 rfl) ?_
        rw [hQ]
        exact k_iret (v := sumN (mWE s0) (n + 1)) () [0, 1, 2, 3, 4, 5, 6, 7, 8, 9] hx hb hr hlocks (rfl) hK hP hD hS rfl (by decide) dX6_sum_46
      · skip
        refine lv_iload_n hx hb dX6_sum_14 rfl (lv_at hl 1 rfl) ?_
        refine lv_iload_n hx hb dX6_sum_15 rfl (lv_at hl 3 rfl) ?_
        refine g_if_ne (a := 0) (tgt := 31) hx hb (by omega) dX6_sum_16 (by decide) (fun c_16 => ?_) (fun c_16 => ?_)
        · exact absurd c_16 (by decide)
        · skip
          refine lv_aload_n hx hb dX6_sum_19 rfl (lv_at hl 2 rfl) ?_
          refine va_get (D := G.1) (ci := 6) (v := .ref ms) (C := RX6) (T := TX6) (N := 17) hx hb hts hinX6 hown hK hP 0 rfl rfl 1 (by decide) hf7 (fun _ h9 => h9) rfl dX6_sum_20 ?_
          refine lv_bipush (v := 25) hx hb dX6_sum_23 (by decide) ?_
          refine lv_iload_n hx hb dX6_sum_25 rfl (lv_at hl 0 rfl) ?_
          refine lv_iadd hx hb dX6_sum_26 ?_
          refine g_ti (y := nI (25 + i)) (nI_add (25) (i)) ?_
          refine g_iald (k := 25 + i) hx hb hK hP 1 rfl (by omega) (by omega) dX6_sum_27 ?_
          refine lv_goto (tgt := 37) hx hb dX6_sum_28 (by decide) ?_
          refine lv_iadd hx hb dX6_sum_37 ?_
          refine lv_istore_n (lv' := [(2, .int ((sumN (mWE s0) i) + (s0 (25 + i)))), (3, .int (nI i)), (0, .ref m0), (1, .int 0)]) hx hb dX6_sum_38 rfl hl (by decide) rfl (fun ls hl => ?_)
          refine lv_iinc (v := nI (i + 1)) (lv' := [(3, .int (nI (i + 1))), (2, .int ((sumN (mWE s0) i) + (s0 (25 + i)))), (0, .ref m0), (1, .int 0)]) hx hb dX6_sum_39 hl (k := 1) rfl (nI_add (i) 1) (by decide) rfl (fun ls hl => ?_)
          refine lv_goto (tgt := 4) hx hb dX6_sum_42 (by decide) ?_
          exact ih4 (i + 1) (by first | assumption | omega) (by omega) _ _ _ hP hD hS (lv_sub hl [0, 1, 2, 3] rfl)
  exact L4 (n + 1 - 0 + 1) 0 (by first | assumption | omega) (Nat.lt_succ_self _) _ _ _ hP hD hS (lv_sub hl [0, 1, 2, 3] rfl)
set_option maxHeartbeats 4000000 in
set_option maxRecDepth 100000 in
theorem c_X6_sum1 (l : Launch) (G : kG) (m0 : Nat) (ms : Nat) (mv : Nat) (mt : Nat) (mh : Nat) (mb : Nat) (mg : Nat) (mq : Nat) (ml : Nat) (mf : Nat) (th : Nat) (s0 : Fn) (sv : Fn) (sm : Nat) (tx : Fn) (ln : Nat) (ht : Fn) (bu : Fn) (hg : Fn) (pq : Fn) (ld : Fn) (fo : Fn) (nw : Int32) (fw : Int32) (tp : Nat) (wr : Bool) (dg : Int64) (n : Nat) (sz : Nat) (hok : mOK s0 n) : kMet l yX6_sum wsX6_sum ({ frames := 0, cells := 0, slots := 0, locals := 0 } : Room) G [.ref m0, .int 1] [(m0, .inr (6, [.int (nI (th)), .ref ms, .ref mv, .int (nI (sm)), .ref mt, .int (nI (ln)), .ref mh, .ref mb, .ref mg, .ref mq, .ref ml, .ref mf, .int nw, .int fw, .int (nI (tp)), .int (bI (wr)), .long dg])), (ms, .inl (G.2.1, 88, .inl s0)), (mv, .inl (G.2.1, 528, .inl sv)), (mt, .inl (G.2.1, 60, .inl tx)), (mh, .inl (G.2.1, 21, .inl ht)), (mb, .inl (G.2.1, 21, .inl bu)), (mg, .inl (G.2.1, 21, .inl hg)), (mq, .inl (G.2.1, 21, .inl pq)), (ml, .inl (G.2.1, 21, .inl ld)), (mf, .inl (G.2.1, 20, .inl fo))] sz (kQi G (fun (r : Int32) (u : Unit) => r = sumN (ld) (n + 1)) (fun (u : Unit) => [(m0, .inr (6, [.int (nI (th)), .ref ms, .ref mv, .int (nI (sm)), .ref mt, .int (nI (ln)), .ref mh, .ref mb, .ref mg, .ref mq, .ref ml, .ref mf, .int nw, .int fw, .int (nI (tp)), .int (bI (wr)), .long dg])), (ms, .inl (G.2.1, 88, .inl s0)), (mv, .inl (G.2.1, 528, .inl sv)), (mt, .inl (G.2.1, 60, .inl tx)), (mh, .inl (G.2.1, 21, .inl ht)), (mb, .inl (G.2.1, 21, .inl bu)), (mg, .inl (G.2.1, 21, .inl hg)), (mq, .inl (G.2.1, 21, .inl pq)), (ml, .inl (G.2.1, 21, .inl ld)), (mf, .inl (G.2.1, 20, .inl fo))])) 0 0 := by
  refine k_entry (cc := cX6_sum) (maxL := 4) (ret := (some .int)) (by decide) rfl (Nat.le_of_ble_eq_true rfl) ?_
  intro p e s m args below meth c A ls H locs Q hQ hx hb hml hr hts hown hlocks hin hA hP hK hD hS hl
  have hown : s.vm.findClass RX6 = some m.cls := hown
  have hl : lv_has ls 4 [(0, .ref m0), (1, .int 1)] := hl
  have hf7 := hts (.fieldLink RX6 7 "HangingChainModel" "s" "[I") (by decide +kernel)
  have hinX6 : ∀ w ∈ wsX60, w ∈ wsX6_sum := by decide +kernel
  have hf31 := hts (.fieldLink RX6 31 "HangingChainModel" "load" "[I") (by decide +kernel)
  obtain ⟨hs0, hn1, hn, hv⟩ := id hok
  refine lv_iconst (v := 0) hx hb dX6_sum_0 (by decide) ?_
  refine lv_istore_n (lv' := [(2, .int 0), (0, .ref m0), (1, .int 1)]) hx hb dX6_sum_1 rfl hl (by decide) rfl (fun ls hl => ?_)
  refine lv_iconst (v := 0) hx hb dX6_sum_2 (by decide) ?_
  refine lv_istore_n (lv' := [(3, .int 0), (2, .int 0), (0, .ref m0), (1, .int 1)]) hx hb dX6_sum_3 rfl hl (by decide) rfl (fun ls hl => ?_)
  have L4 : ∀ (n9 : Nat) (i : Nat), (i ≤ n + 1) → (n + 1 - i < n9) → ∀ (H : Heap) (locs : List Loc) (ls : Array Slot), va_P G.1 vwCl [(m0, .inr (6, [.int (nI (th)), .ref ms, .ref mv, .int (nI (sm)), .ref mt, .int (nI (ln)), .ref mh, .ref mb, .ref mg, .ref mq, .ref ml, .ref mf, .int nw, .int fw, .int (nI (tp)), .int (bI (wr)), .long dg])), (ms, .inl (G.2.1, 88, .inl s0)), (mv, .inl (G.2.1, 528, .inl sv)), (mt, .inl (G.2.1, 60, .inl tx)), (mh, .inl (G.2.1, 21, .inl ht)), (mb, .inl (G.2.1, 21, .inl bu)), (mg, .inl (G.2.1, 21, .inl hg)), (mq, .inl (G.2.1, 21, .inl pq)), (ml, .inl (G.2.1, 21, .inl ld)), (mf, .inl (G.2.1, 20, .inl fo))] H → va_D A [(m0, .inr (6, [.int (nI (th)), .ref ms, .ref mv, .int (nI (sm)), .ref mt, .int (nI (ln)), .ref mh, .ref mb, .ref mg, .ref mq, .ref ml, .ref mf, .int nw, .int fw, .int (nI (tp)), .int (bI (wr)), .long dg])), (ms, .inl (G.2.1, 88, .inl s0)), (mv, .inl (G.2.1, 528, .inl sv)), (mt, .inl (G.2.1, 60, .inl tx)), (mh, .inl (G.2.1, 21, .inl ht)), (mb, .inl (G.2.1, 21, .inl bu)), (mg, .inl (G.2.1, 21, .inl hg)), (mq, .inl (G.2.1, 21, .inl pq)), (ml, .inl (G.2.1, 21, .inl ld)), (mf, .inl (G.2.1, 20, .inl fo))] → va_S A s.heap H locs → lv_has ls 4 [(3, .int (nI i)), (2, .int (sumN (ld) i)), (0, .ref m0), (1, .int 1)] → W p l e ({ frames := 0, cells := 0, slots := 0, locals := 0 } : Room) s m args below meth c H locs 0 0 Q (F0 m 4 ls []) := by
    intro n9
    induction n9 with
    | zero =>
      intro i hi hm9 H locs ls hP hD hS hl
      exact absurd hm9 (Nat.not_lt_zero _)
    | succ n9 ih4 =>
      intro i hi hm9 H locs ls hP hD hS hl
      refine lv_iload_n hx hb dX6_sum_4 rfl (lv_at hl 0 rfl) ?_
      refine lv_aload_n hx hb dX6_sum_5 rfl (lv_at hl 2 rfl) ?_
      refine va_get (D := G.1) (ci := 6) (v := .ref ms) (C := RX6) (T := TX6) (N := 17) hx hb hts hinX6 hown hK hP 0 rfl rfl 1 (by decide) hf7 (fun _ h9 => h9) rfl dX6_sum_6 ?_
      refine lv_iconst (v := 0) hx hb dX6_sum_9 (by decide) ?_
      refine g_iald (k := 0) hx hb hK hP 1 rfl (by omega) (by omega) dX6_sum_10 ?_
      refine g_ti (y := nI n) (hs0) ?_
      refine g_icmp_gt (a := i) (b := n) (tgt := 45) hx hb (by omega) (by omega) dX6_sum_11 (by decide) (fun c_11 => ?_) (fun c_11 => ?_)
      · skip
        have e9 : n + 1 = i := by omega
        subst e9
        refine lv_iload_n hx hb dX6_sum_45 rfl (lv_at hl 1 rfl) ?_
        rw [hQ]
        exact k_iret (v := sumN (ld) (n + 1)) () [0, 1, 2, 3, 4, 5, 6, 7, 8, 9] hx hb hr hlocks (rfl) hK hP hD hS rfl (by decide) dX6_sum_46
      · skip
        refine lv_iload_n hx hb dX6_sum_14 rfl (lv_at hl 1 rfl) ?_
        refine lv_iload_n hx hb dX6_sum_15 rfl (lv_at hl 3 rfl) ?_
        refine g_if_ne (a := 1) (tgt := 31) hx hb (by omega) dX6_sum_16 (by decide) (fun c_16 => ?_) (fun c_16 => ?_)
        · skip
          refine lv_aload_n hx hb dX6_sum_31 rfl (lv_at hl 2 rfl) ?_
          refine va_get (D := G.1) (ci := 6) (v := .ref ml) (C := RX6) (T := TX6) (N := 17) hx hb hts hinX6 hown hK hP 0 rfl rfl 10 (by decide) hf31 (fun _ h9 => h9) rfl dX6_sum_32 ?_
          refine lv_iload_n hx hb dX6_sum_35 rfl (lv_at hl 0 rfl) ?_
          refine g_iald (k := i) hx hb hK hP 8 rfl (by omega) (by omega) dX6_sum_36 ?_
          refine lv_iadd hx hb dX6_sum_37 ?_
          refine lv_istore_n (lv' := [(2, .int ((sumN (ld) i) + (ld i))), (3, .int (nI i)), (0, .ref m0), (1, .int 1)]) hx hb dX6_sum_38 rfl hl (by decide) rfl (fun ls hl => ?_)
          refine lv_iinc (v := nI (i + 1)) (lv' := [(3, .int (nI (i + 1))), (2, .int ((sumN (ld) i) + (ld i))), (0, .ref m0), (1, .int 1)]) hx hb dX6_sum_39 hl (k := 1) rfl (nI_add (i) 1) (by decide) rfl (fun ls hl => ?_)
          refine lv_goto (tgt := 4) hx hb dX6_sum_42 (by decide) ?_
          exact ih4 (i + 1) (by first | assumption | omega) (by omega) _ _ _ hP hD hS (lv_sub hl [0, 1, 2, 3] rfl)
        · exact absurd c_16 (by decide)
  exact L4 (n + 1 - 0 + 1) 0 (by first | assumption | omega) (Nat.lt_succ_self _) _ _ _ hP hD hS (lv_sub hl [0, 1, 2, 3] rfl)
set_option maxHeartbeats 4000000 in
set_option maxRecDepth 100000 in
theorem c_X6_breaking (l : Launch) (G : kG) (m0 : Nat) (ms : Nat) (mv : Nat) (mt : Nat) (mh : Nat) (mb : Nat) (mg : Nat) (mq : Nat) (ml : Nat) (mf : Nat) (th : Nat) (s0 : Fn) (sv : Fn) (sm : Nat) (tx : Fn) (ln : Nat) (ht : Fn) (bu : Fn) (hg : Fn) (pq : Fn) (ld : Fn) (fo : Fn) (nw : Int32) (fw : Int32) (tp : Nat) (wr : Bool) (dg : Int64) (n : Nat) (sz : Nat) (hok : mOK s0 n) : kMet l yX6_breaking wsX6_breaking ({ frames := 0, cells := 0, slots := 0, locals := 0 } : Room) G [.ref m0] [(m0, .inr (6, [.int (nI (th)), .ref ms, .ref mv, .int (nI (sm)), .ref mt, .int (nI (ln)), .ref mh, .ref mb, .ref mg, .ref mq, .ref ml, .ref mf, .int nw, .int fw, .int (nI (tp)), .int (bI (wr)), .long dg])), (ms, .inl (G.2.1, 88, .inl s0)), (mv, .inl (G.2.1, 528, .inl sv)), (mt, .inl (G.2.1, 60, .inl tx)), (mh, .inl (G.2.1, 21, .inl ht)), (mb, .inl (G.2.1, 21, .inl bu)), (mg, .inl (G.2.1, 21, .inl hg)), (mq, .inl (G.2.1, 21, .inl pq)), (ml, .inl (G.2.1, 21, .inl ld)), (mf, .inl (G.2.1, 20, .inl fo))] sz (kQi G (fun (r : Int32) (u : Unit) => r = nI (brN fo (s0 4) n)) (fun (u : Unit) => [(m0, .inr (6, [.int (nI (th)), .ref ms, .ref mv, .int (nI (sm)), .ref mt, .int (nI (ln)), .ref mh, .ref mb, .ref mg, .ref mq, .ref ml, .ref mf, .int nw, .int fw, .int (nI (tp)), .int (bI (wr)), .long dg])), (ms, .inl (G.2.1, 88, .inl s0)), (mv, .inl (G.2.1, 528, .inl sv)), (mt, .inl (G.2.1, 60, .inl tx)), (mh, .inl (G.2.1, 21, .inl ht)), (mb, .inl (G.2.1, 21, .inl bu)), (mg, .inl (G.2.1, 21, .inl hg)), (mq, .inl (G.2.1, 21, .inl pq)), (ml, .inl (G.2.1, 21, .inl ld)), (mf, .inl (G.2.1, 20, .inl fo))])) 0 0 := by
  refine k_entry (cc := cX6_breaking) (maxL := 3) (ret := (some .int)) (by decide) rfl (Nat.le_of_ble_eq_true rfl) ?_
  intro p e s m args below meth c A ls H locs Q hQ hx hb hml hr hts hown hlocks hin hA hP hK hD hS hl
  have hown : s.vm.findClass RX6 = some m.cls := hown
  have hl : lv_has ls 3 [(0, .ref m0)] := hl
  have hf7 := hts (.fieldLink RX6 7 "HangingChainModel" "s" "[I") (by decide +kernel)
  have hinX6 : ∀ w ∈ wsX60, w ∈ wsX6_breaking := by decide +kernel
  have hf34 := hts (.fieldLink RX6 34 "HangingChainModel" "force" "[I") (by decide +kernel)
  obtain ⟨hs0, hn1, hn, hv⟩ := id hok
  refine lv_iconst (v := 0) hx hb dX6_breaking_0 (by decide) ?_
  refine lv_istore_n (lv' := [(1, .int 0), (0, .ref m0)]) hx hb dX6_breaking_1 rfl hl (by decide) rfl (fun ls hl => ?_)
  refine lv_iconst (v := 0) hx hb dX6_breaking_2 (by decide) ?_
  refine lv_istore_n (lv' := [(2, .int 0), (1, .int 0), (0, .ref m0)]) hx hb dX6_breaking_3 rfl hl (by decide) rfl (fun ls hl => ?_)
  have L4 : ∀ (n9 : Nat) (i : Nat), (i ≤ n) → (n - i < n9) → ∀ (H : Heap) (locs : List Loc) (ls : Array Slot), va_P G.1 vwCl [(m0, .inr (6, [.int (nI (th)), .ref ms, .ref mv, .int (nI (sm)), .ref mt, .int (nI (ln)), .ref mh, .ref mb, .ref mg, .ref mq, .ref ml, .ref mf, .int nw, .int fw, .int (nI (tp)), .int (bI (wr)), .long dg])), (ms, .inl (G.2.1, 88, .inl s0)), (mv, .inl (G.2.1, 528, .inl sv)), (mt, .inl (G.2.1, 60, .inl tx)), (mh, .inl (G.2.1, 21, .inl ht)), (mb, .inl (G.2.1, 21, .inl bu)), (mg, .inl (G.2.1, 21, .inl hg)), (mq, .inl (G.2.1, 21, .inl pq)), (ml, .inl (G.2.1, 21, .inl ld)), (mf, .inl (G.2.1, 20, .inl fo))] H → va_D A [(m0, .inr (6, [.int (nI (th)), .ref ms, .ref mv, .int (nI (sm)), .ref mt, .int (nI (ln)), .ref mh, .ref mb, .ref mg, .ref mq, .ref ml, .ref mf, .int nw, .int fw, .int (nI (tp)), .int (bI (wr)), .long dg])), (ms, .inl (G.2.1, 88, .inl s0)), (mv, .inl (G.2.1, 528, .inl sv)), (mt, .inl (G.2.1, 60, .inl tx)), (mh, .inl (G.2.1, 21, .inl ht)), (mb, .inl (G.2.1, 21, .inl bu)), (mg, .inl (G.2.1, 21, .inl hg)), (mq, .inl (G.2.1, 21, .inl pq)), (ml, .inl (G.2.1, 21, .inl ld)), (mf, .inl (G.2.1, 20, .inl fo))] → va_S A s.heap H locs → lv_has ls 3 [(2, .int (nI i)), (1, .int (nI (brN fo (s0 4) i))), (0, .ref m0)] → W p l e ({ frames := 0, cells := 0, slots := 0, locals := 0 } : Room) s m args below meth c H locs 0 0 Q (F0 m 4 ls []) := by
    intro n9
    induction n9 with
    | zero =>
      intro i hi hm9 H locs ls hP hD hS hl
      exact absurd hm9 (Nat.not_lt_zero _)
    | succ n9 ih4 =>
      intro i hi hm9 H locs ls hP hD hS hl
      refine lv_iload_n hx hb dX6_breaking_4 rfl (lv_at hl 0 rfl) ?_
      refine lv_aload_n hx hb dX6_breaking_5 rfl (lv_at hl 2 rfl) ?_
      refine va_get (D := G.1) (ci := 6) (v := .ref ms) (C := RX6) (T := TX6) (N := 17) hx hb hts hinX6 hown hK hP 0 rfl rfl 1 (by decide) hf7 (fun _ h9 => h9) rfl dX6_breaking_6 ?_
      refine lv_iconst (v := 0) hx hb dX6_breaking_9 (by decide) ?_
      refine g_iald (k := 0) hx hb hK hP 1 rfl (by omega) (by omega) dX6_breaking_10 ?_
      refine g_ti (y := nI n) (hs0) ?_
      refine g_icmp_ge (a := i) (b := n) (tgt := 43) hx hb (by omega) (by omega) dX6_breaking_11 (by decide) (fun c_11 => ?_) (fun c_11 => ?_)
      · skip
        have e9 : n = i := by omega
        subst e9
        refine lv_iload_n hx hb dX6_breaking_43 rfl (lv_at hl 1 rfl) ?_
        rw [hQ]
        exact k_iret (v := nI (brN fo (s0 4) n)) () [0, 1, 2, 3, 4, 5, 6, 7, 8, 9] hx hb hr hlocks (rfl) hK hP hD hS rfl (by decide) dX6_breaking_44
      · skip
        refine lv_iload_n hx hb dX6_breaking_14 rfl (lv_at hl 1 rfl) ?_
        refine lv_aload_n hx hb dX6_breaking_15 rfl (lv_at hl 2 rfl) ?_
        refine va_get (D := G.1) (ci := 6) (v := .ref mf) (C := RX6) (T := TX6) (N := 17) hx hb hts hinX6 hown hK hP 0 rfl rfl 11 (by decide) hf34 (fun _ h9 => h9) rfl dX6_breaking_16 ?_
        refine lv_iload_n hx hb dX6_breaking_19 rfl (lv_at hl 0 rfl) ?_
        refine g_iald (k := i) hx hb hK hP 9 rfl (by omega) (by omega) dX6_breaking_20 ?_
        refine lv_aload_n hx hb dX6_breaking_21 rfl (lv_at hl 2 rfl) ?_
        refine va_get (D := G.1) (ci := 6) (v := .ref ms) (C := RX6) (T := TX6) (N := 17) hx hb hts hinX6 hown hK hP 0 rfl rfl 1 (by decide) hf7 (fun _ h9 => h9) rfl dX6_breaking_22 ?_
        refine lv_iconst (v := 4) hx hb dX6_breaking_25 (by decide) ?_
        refine g_iald (k := 4) hx hb hK hP 1 rfl (by omega) (by omega) dX6_breaking_26 ?_
        have L35 : ∀ (x : Nat), (brN fo (s0 4) i + x = brN fo (s0 4) (i + 1)) → ∀ (H : Heap) (locs : List Loc) (ls : Array Slot), va_P G.1 vwCl [(m0, .inr (6, [.int (nI (th)), .ref ms, .ref mv, .int (nI (sm)), .ref mt, .int (nI (ln)), .ref mh, .ref mb, .ref mg, .ref mq, .ref ml, .ref mf, .int nw, .int fw, .int (nI (tp)), .int (bI (wr)), .long dg])), (ms, .inl (G.2.1, 88, .inl s0)), (mv, .inl (G.2.1, 528, .inl sv)), (mt, .inl (G.2.1, 60, .inl tx)), (mh, .inl (G.2.1, 21, .inl ht)), (mb, .inl (G.2.1, 21, .inl bu)), (mg, .inl (G.2.1, 21, .inl hg)), (mq, .inl (G.2.1, 21, .inl pq)), (ml, .inl (G.2.1, 21, .inl ld)), (mf, .inl (G.2.1, 20, .inl fo))] H → va_D A [(m0, .inr (6, [.int (nI (th)), .ref ms, .ref mv, .int (nI (sm)), .ref mt, .int (nI (ln)), .ref mh, .ref mb, .ref mg, .ref mq, .ref ml, .ref mf, .int nw, .int fw, .int (nI (tp)), .int (bI (wr)), .long dg])), (ms, .inl (G.2.1, 88, .inl s0)), (mv, .inl (G.2.1, 528, .inl sv)), (mt, .inl (G.2.1, 60, .inl tx)), (mh, .inl (G.2.1, 21, .inl ht)), (mb, .inl (G.2.1, 21, .inl bu)), (mg, .inl (G.2.1, 21, .inl hg)), (mq, .inl (G.2.1, 21, .inl pq)), (ml, .inl (G.2.1, 21, .inl ld)), (mf, .inl (G.2.1, 20, .inl fo))] → va_S A s.heap H locs → lv_has ls 3 [(2, .int (nI i)), (1, .int (nI (brN fo (s0 4) i))), (0, .ref m0)] → W p l e ({ frames := 0, cells := 0, slots := 0, locals := 0 } : Room) s m args below meth c H locs 0 0 Q (F0 m 35 ls [.int (nI x), .int (nI (brN fo (s0 4) i))]) := by
          intro x ex H locs ls hP hD hS hl
          refine lv_iadd hx hb dX6_breaking_35 ?_
          refine g_ti (y := nI (brN fo (s0 4) (i + 1))) ((nI_add (brN fo (s0 4) i) (x)).trans (congrArg nI (ex))) ?_
          refine lv_istore_n (lv' := [(1, .int (nI (brN fo (s0 4) (i + 1)))), (2, .int (nI i)), (0, .ref m0)]) hx hb dX6_breaking_36 rfl hl (by decide) rfl (fun ls hl => ?_)
          refine lv_iinc (v := nI (i + 1)) (lv' := [(2, .int (nI (i + 1))), (1, .int (nI (brN fo (s0 4) (i + 1)))), (0, .ref m0)]) hx hb dX6_breaking_37 hl (k := 1) rfl (nI_add (i) 1) (by decide) rfl (fun ls hl => ?_)
          refine lv_goto (tgt := 4) hx hb dX6_breaking_40 (by decide) ?_
          exact ih4 (i + 1) (by first | assumption | omega) (by omega) _ _ _ hP hD hS (lv_sub hl [0, 1, 2] rfl)
        refine lv_icmp_le (tgt := 34) hx hb dX6_breaking_27 (by decide) (fun c_27 => ?_) (fun c_27 => ?_)
        · skip
          refine lv_iconst (v := 0) hx hb dX6_breaking_34 (by decide) ?_
          exact L35 0 (brN_0 c_27) _ _ _ hP hD hS (lv_sub hl [0, 1, 2] rfl)
        · skip
          refine lv_iconst (v := 1) hx hb dX6_breaking_30 (by decide) ?_
          refine lv_goto (tgt := 35) hx hb dX6_breaking_31 (by decide) ?_
          exact L35 1 (brN_1 c_27) _ _ _ hP hD hS (lv_sub hl [0, 1, 2] rfl)
  exact L4 (n - 0 + 1) 0 (by first | assumption | omega) (Nat.lt_succ_self _) _ _ _ hP hD hS (lv_sub hl [0, 1, 2] rfl)
set_option maxHeartbeats 4000000 in
set_option maxRecDepth 100000 in
theorem c_X6_counted (l : Launch) (G : kG) (m0 : Nat) (ms : Nat) (mv : Nat) (mt : Nat) (mh : Nat) (mb : Nat) (mg : Nat) (mq : Nat) (ml : Nat) (mf : Nat) (th : Nat) (s0 : Fn) (sv : Fn) (sm : Nat) (tx : Fn) (ln : Nat) (ht : Fn) (bu : Fn) (hg : Fn) (pq : Fn) (ld : Fn) (fo : Fn) (nw : Int32) (fw : Int32) (tp : Nat) (wr : Bool) (dg : Int64) (w : Nat) (n : Nat) (sz : Nat) (hok : mOK s0 n) (hw11 : w < 11) : kMet l yX6_counted wsX6_counted ({ frames := 3, cells := 0, slots := 0, locals := 68 } : Room) G [.ref m0, .int (nI (w))] [(m0, .inr (6, [.int (nI (th)), .ref ms, .ref mv, .int (nI (sm)), .ref mt, .int (nI (ln)), .ref mh, .ref mb, .ref mg, .ref mq, .ref ml, .ref mf, .int nw, .int fw, .int (nI (tp)), .int (bI (wr)), .long dg])), (ms, .inl (G.2.1, 88, .inl s0)), (mv, .inl (G.2.1, 528, .inl sv)), (mt, .inl (G.2.1, 60, .inl tx)), (mh, .inl (G.2.1, 21, .inl ht)), (mb, .inl (G.2.1, 21, .inl bu)), (mg, .inl (G.2.1, 21, .inl hg)), (mq, .inl (G.2.1, 21, .inl pq)), (ml, .inl (G.2.1, 21, .inl ld)), (mf, .inl (G.2.1, 20, .inl fo))] sz (kQi G (fun (r : Int32) (u : Fn × Fn × Fn × Fn × Fn × Fn × Int32 × Int32) => r = tCt n (mST s0) (mWE s0) (mHA s0) (mPR s0) (mSE s0) sm w) (fun (u : Fn × Fn × Fn × Fn × Fn × Fn × Int32 × Int32) => [(m0, .inr (6, [.int (nI (th)), .ref ms, .ref mv, .int (nI (sm)), .ref mt, .int (nI (ln)), .ref mh, .ref mb, .ref mg, .ref mq, .ref ml, .ref mf, .int u.2.2.2.2.2.2.1, .int u.2.2.2.2.2.2.2, .int (nI (tp)), .int (bI (wr)), .long dg])), (ms, .inl (G.2.1, 88, .inl s0)), (mv, .inl (G.2.1, 528, .inl sv)), (mt, .inl (G.2.1, 60, .inl tx)), (mh, .inl (G.2.1, 21, .inl u.1)), (mb, .inl (G.2.1, 21, .inl u.2.1)), (mg, .inl (G.2.1, 21, .inl u.2.2.1)), (mq, .inl (G.2.1, 21, .inl u.2.2.2.1)), (ml, .inl (G.2.1, 21, .inl u.2.2.2.2.1)), (mf, .inl (G.2.1, 20, .inl u.2.2.2.2.2.1))])) 0 0 := by
  refine k_entry (cc := cX6_counted) (maxL := 2) (ret := (some .int)) (by decide) rfl (Nat.le_of_ble_eq_true rfl) ?_
  intro p e s m args below meth c A ls H locs Q hQ hx hb hml hr hts hown hlocks hin hA hP hK hD hS hl
  have hown : s.vm.findClass RX6 = some m.cls := hown
  have hl : lv_has ls 2 [(0, .ref m0), (1, .int (nI (w)))] := hl
  have hf7 := hts (.fieldLink RX6 7 "HangingChainModel" "s" "[I") (by decide +kernel)
  have hinX6 : ∀ w ∈ wsX60, w ∈ wsX6_counted := by decide +kernel
  have hf48 := hts (.fieldLink RX6 48 "HangingChainModel" "nearWall" "I") (by decide +kernel)
  have hf51 := hts (.fieldLink RX6 51 "HangingChainModel" "farWall" "I") (by decide +kernel)
  have hf19 := hts (.fieldLink RX6 19 "HangingChainModel" "height" "[I") (by decide +kernel)
  have hf45 := hts (.fieldLink RX6 45 "HangingChainModel" "savedMany" "I") (by decide +kernel)
  obtain ⟨hs0, hn1, hn, hv⟩ := id hok
  refine lv_aload_n hx hb dX6_counted_0 rfl (lv_at hl 0 rfl) ?_
  refine k_cv (wr := []) [] rfl (by decide) [0, 1, 2, 3, 4, 5, 6, 7, 8, 9] rfl (by decide) hP hD hS hA (k_V (n := 0) (ci := 6) (As := []) (rest := []) (wc := [(m0, .inr (6, [.int (nI (th)), .ref ms, .ref mv, .int (nI (sm)), .ref mt, .int (nI (ln)), .ref mh, .ref mb, .ref mg, .ref mq, .ref ml, .ref mf, .int nw, .int fw, .int (nI (tp)), .int (bI (wr)), .long dg])), (ms, .inl (G.2.1, 88, .inl s0)), (mv, .inl (G.2.1, 528, .inl sv)), (mt, .inl (G.2.1, 60, .inl tx)), (mh, .inl (G.2.1, 21, .inl ht)), (mb, .inl (G.2.1, 21, .inl bu)), (mg, .inl (G.2.1, 21, .inl hg)), (mq, .inl (G.2.1, 21, .inl pq)), (ml, .inl (G.2.1, 21, .inl ld)), (mf, .inl (G.2.1, 20, .inl fo))]) hx hb hml hown hts hK hP hD hl (c_X6_lay l G m0 ms mv mt mh mb mg mq ml mf th s0 sv sm tx ln ht bu hg pq ld fo nw fw tp wr dg n H.size (by first | assumption | omega)) [0, 1, 2, 3, 4, 5, 6, 7, 8, 9] rfl (by decide) gX6_counted_X6_lay rfl rfl rfl (by decide +kernel) rfl ⟨Nat.le_of_ble_eq_true rfl, Nat.le_of_ble_eq_true rfl⟩ rfl rfl rfl (Nat.le_of_ble_eq_true rfl) dX6_counted_1 ⟨Nat.le_of_ble_eq_true rfl, Nat.le_of_ble_eq_true rfl⟩) (fun u H locs hw hP hD hS => ?_)
  obtain ⟨ht2_1, bu2_1, hg2_1, pq2_1, ld2_1, fo2_1, nw2_1, fw2_1⟩ := u
  have hw_1 : okB n (mST s0) (mWE s0) (mHA s0) (mPR s0) (mSE s0) ht2_1 bu2_1 hg2_1 pq2_1 ld2_1 fo2_1 ∧ nw2_1 = cAH n (mST s0) (mWE s0) (mHA s0) (mPR s0) (mSE s0) ∧ fw2_1 = cBE n (mST s0) (mWE s0) (mHA s0) (mPR s0) (mSE s0) := hw
  have hP : va_P G.1 vwCl [(m0, .inr (6, [.int (nI (th)), .ref ms, .ref mv, .int (nI (sm)), .ref mt, .int (nI (ln)), .ref mh, .ref mb, .ref mg, .ref mq, .ref ml, .ref mf, .int nw2_1, .int fw2_1, .int (nI (tp)), .int (bI (wr)), .long dg])), (ms, .inl (G.2.1, 88, .inl s0)), (mv, .inl (G.2.1, 528, .inl sv)), (mt, .inl (G.2.1, 60, .inl tx)), (mh, .inl (G.2.1, 21, .inl ht2_1)), (mb, .inl (G.2.1, 21, .inl bu2_1)), (mg, .inl (G.2.1, 21, .inl hg2_1)), (mq, .inl (G.2.1, 21, .inl pq2_1)), (ml, .inl (G.2.1, 21, .inl ld2_1)), (mf, .inl (G.2.1, 20, .inl fo2_1))] H := hP
  have hD : va_D A [(m0, .inr (6, [.int (nI (th)), .ref ms, .ref mv, .int (nI (sm)), .ref mt, .int (nI (ln)), .ref mh, .ref mb, .ref mg, .ref mq, .ref ml, .ref mf, .int nw2_1, .int fw2_1, .int (nI (tp)), .int (bI (wr)), .long dg])), (ms, .inl (G.2.1, 88, .inl s0)), (mv, .inl (G.2.1, 528, .inl sv)), (mt, .inl (G.2.1, 60, .inl tx)), (mh, .inl (G.2.1, 21, .inl ht2_1)), (mb, .inl (G.2.1, 21, .inl bu2_1)), (mg, .inl (G.2.1, 21, .inl hg2_1)), (mq, .inl (G.2.1, 21, .inl pq2_1)), (ml, .inl (G.2.1, 21, .inl ld2_1)), (mf, .inl (G.2.1, 20, .inl fo2_1))] := hD
  refine lv_iload_n hx hb dX6_counted_4 rfl (lv_at hl 1 rfl) ?_
  rcases (show w = 0 ∨ w = 1 ∨ w = 2 ∨ w = 3 ∨ w = 4 ∨ w = 5 ∨ w = 6 ∨ w = 7 ∨ w = 8 ∨ w = 9 ∨ w = 10 by omega) with rfl | rfl | rfl | rfl | rfl | rfl | rfl | rfl | rfl | rfl | rfl
  · skip
    refine lv_tableIn (x := nI 0) (off := 55) (tgt := 60) hx hb dX6_counted_5 (by decide) (by decide) rfl (by decide) ?_
    refine lv_aload_n hx hb dX6_counted_60 rfl (lv_at hl 0 rfl) ?_
    refine va_get (D := G.1) (ci := 6) (v := .ref ms) (C := RX6) (T := TX6) (N := 17) hx hb hts hinX6 hown hK hP 0 rfl rfl 1 (by decide) hf7 (fun _ h9 => h9) rfl dX6_counted_61 ?_
    refine lv_iconst (v := 0) hx hb dX6_counted_64 (by decide) ?_
    refine g_iald (k := 0) hx hb hK hP 1 rfl (by omega) (by omega) dX6_counted_65 ?_
    refine g_ti (y := nI n) (hs0) ?_
    rw [hQ]
    exact k_iret (v := nI n) (ht2_1, bu2_1, hg2_1, pq2_1, ld2_1, fo2_1, nw2_1, fw2_1) [0, 1, 2, 3, 4, 5, 6, 7, 8, 9] hx hb hr hlocks (rfl) hK hP hD hS rfl (by decide) dX6_counted_66
  · skip
    refine lv_tableIn (x := nI 1) (off := 62) (tgt := 67) hx hb dX6_counted_5 (by decide) (by decide) rfl (by decide) ?_
    refine lv_aload_n hx hb dX6_counted_67 rfl (lv_at hl 0 rfl) ?_
    refine lv_iload_n hx hb dX6_counted_68 rfl (lv_at hl 1 rfl) ?_
    refine lv_iconst (v := 1) hx hb dX6_counted_69 (by decide) ?_
    refine lv_isub hx hb dX6_counted_70 ?_
    refine g_ti (y := nI 0) (pk_sub (a := 1) (b := 1) (by omega)) ?_
    refine k_ci (wr := []) [] rfl (by decide) [0, 1, 2, 3, 4, 5, 6, 7, 8, 9] rfl (by decide) hP hD hS hA (k_V (n := 1) (ci := 6) (As := [.int (nI 0)]) (rest := []) (wc := [(m0, .inr (6, [.int (nI (th)), .ref ms, .ref mv, .int (nI (sm)), .ref mt, .int (nI (ln)), .ref mh, .ref mb, .ref mg, .ref mq, .ref ml, .ref mf, .int nw2_1, .int fw2_1, .int (nI (tp)), .int (bI (wr)), .long dg])), (ms, .inl (G.2.1, 88, .inl s0)), (mv, .inl (G.2.1, 528, .inl sv)), (mt, .inl (G.2.1, 60, .inl tx)), (mh, .inl (G.2.1, 21, .inl ht2_1)), (mb, .inl (G.2.1, 21, .inl bu2_1)), (mg, .inl (G.2.1, 21, .inl hg2_1)), (mq, .inl (G.2.1, 21, .inl pq2_1)), (ml, .inl (G.2.1, 21, .inl ld2_1)), (mf, .inl (G.2.1, 20, .inl fo2_1))]) hx hb hml hown hts hK hP hD hl (c_X6_sum0 l G m0 ms mv mt mh mb mg mq ml mf th s0 sv sm tx ln ht2_1 bu2_1 hg2_1 pq2_1 ld2_1 fo2_1 nw2_1 fw2_1 tp wr dg n H.size (by first | assumption | omega)) [0, 1, 2, 3, 4, 5, 6, 7, 8, 9] rfl (by decide) gX6_counted_X6_sum rfl rfl rfl (by decide +kernel) rfl ⟨Nat.le_of_ble_eq_true rfl, Nat.le_of_ble_eq_true rfl⟩ rfl rfl rfl (Nat.le_of_ble_eq_true rfl) dX6_counted_71 ⟨Nat.le_of_ble_eq_true rfl, Nat.le_of_ble_eq_true rfl⟩) (fun r_71 u H locs hw hP hD hS => ?_)
    have hw_71 : r_71 = sumN (mWE s0) (n + 1) := hw
    have hP : va_P G.1 vwCl [(m0, .inr (6, [.int (nI (th)), .ref ms, .ref mv, .int (nI (sm)), .ref mt, .int (nI (ln)), .ref mh, .ref mb, .ref mg, .ref mq, .ref ml, .ref mf, .int nw2_1, .int fw2_1, .int (nI (tp)), .int (bI (wr)), .long dg])), (ms, .inl (G.2.1, 88, .inl s0)), (mv, .inl (G.2.1, 528, .inl sv)), (mt, .inl (G.2.1, 60, .inl tx)), (mh, .inl (G.2.1, 21, .inl ht2_1)), (mb, .inl (G.2.1, 21, .inl bu2_1)), (mg, .inl (G.2.1, 21, .inl hg2_1)), (mq, .inl (G.2.1, 21, .inl pq2_1)), (ml, .inl (G.2.1, 21, .inl ld2_1)), (mf, .inl (G.2.1, 20, .inl fo2_1))] H := hP
    have hD : va_D A [(m0, .inr (6, [.int (nI (th)), .ref ms, .ref mv, .int (nI (sm)), .ref mt, .int (nI (ln)), .ref mh, .ref mb, .ref mg, .ref mq, .ref ml, .ref mf, .int nw2_1, .int fw2_1, .int (nI (tp)), .int (bI (wr)), .long dg])), (ms, .inl (G.2.1, 88, .inl s0)), (mv, .inl (G.2.1, 528, .inl sv)), (mt, .inl (G.2.1, 60, .inl tx)), (mh, .inl (G.2.1, 21, .inl ht2_1)), (mb, .inl (G.2.1, 21, .inl bu2_1)), (mg, .inl (G.2.1, 21, .inl hg2_1)), (mq, .inl (G.2.1, 21, .inl pq2_1)), (ml, .inl (G.2.1, 21, .inl ld2_1)), (mf, .inl (G.2.1, 20, .inl fo2_1))] := hD
    subst hw_71
    rw [hQ]
    exact k_iret (v := sumN (mWE s0) (n + 1)) (ht2_1, bu2_1, hg2_1, pq2_1, ld2_1, fo2_1, nw2_1, fw2_1) [0, 1, 2, 3, 4, 5, 6, 7, 8, 9] hx hb hr hlocks (rfl) hK hP hD hS rfl (by decide) dX6_counted_74
  · skip
    refine lv_tableIn (x := nI 2) (off := 62) (tgt := 67) hx hb dX6_counted_5 (by decide) (by decide) rfl (by decide) ?_
    refine lv_aload_n hx hb dX6_counted_67 rfl (lv_at hl 0 rfl) ?_
    refine lv_iload_n hx hb dX6_counted_68 rfl (lv_at hl 1 rfl) ?_
    refine lv_iconst (v := 1) hx hb dX6_counted_69 (by decide) ?_
    refine lv_isub hx hb dX6_counted_70 ?_
    refine g_ti (y := nI 1) (pk_sub (a := 2) (b := 1) (by omega)) ?_
    refine k_ci (wr := []) [] rfl (by decide) [0, 1, 2, 3, 4, 5, 6, 7, 8, 9] rfl (by decide) hP hD hS hA (k_V (n := 1) (ci := 6) (As := [.int (nI 1)]) (rest := []) (wc := [(m0, .inr (6, [.int (nI (th)), .ref ms, .ref mv, .int (nI (sm)), .ref mt, .int (nI (ln)), .ref mh, .ref mb, .ref mg, .ref mq, .ref ml, .ref mf, .int nw2_1, .int fw2_1, .int (nI (tp)), .int (bI (wr)), .long dg])), (ms, .inl (G.2.1, 88, .inl s0)), (mv, .inl (G.2.1, 528, .inl sv)), (mt, .inl (G.2.1, 60, .inl tx)), (mh, .inl (G.2.1, 21, .inl ht2_1)), (mb, .inl (G.2.1, 21, .inl bu2_1)), (mg, .inl (G.2.1, 21, .inl hg2_1)), (mq, .inl (G.2.1, 21, .inl pq2_1)), (ml, .inl (G.2.1, 21, .inl ld2_1)), (mf, .inl (G.2.1, 20, .inl fo2_1))]) hx hb hml hown hts hK hP hD hl (c_X6_sum1 l G m0 ms mv mt mh mb mg mq ml mf th s0 sv sm tx ln ht2_1 bu2_1 hg2_1 pq2_1 ld2_1 fo2_1 nw2_1 fw2_1 tp wr dg n H.size (by first | assumption | omega)) [0, 1, 2, 3, 4, 5, 6, 7, 8, 9] rfl (by decide) gX6_counted_X6_sum rfl rfl rfl (by decide +kernel) rfl ⟨Nat.le_of_ble_eq_true rfl, Nat.le_of_ble_eq_true rfl⟩ rfl rfl rfl (Nat.le_of_ble_eq_true rfl) dX6_counted_71 ⟨Nat.le_of_ble_eq_true rfl, Nat.le_of_ble_eq_true rfl⟩) (fun r_71 u H locs hw hP hD hS => ?_)
    have hw_71 : r_71 = sumN (ld2_1) (n + 1) := hw
    have hP : va_P G.1 vwCl [(m0, .inr (6, [.int (nI (th)), .ref ms, .ref mv, .int (nI (sm)), .ref mt, .int (nI (ln)), .ref mh, .ref mb, .ref mg, .ref mq, .ref ml, .ref mf, .int nw2_1, .int fw2_1, .int (nI (tp)), .int (bI (wr)), .long dg])), (ms, .inl (G.2.1, 88, .inl s0)), (mv, .inl (G.2.1, 528, .inl sv)), (mt, .inl (G.2.1, 60, .inl tx)), (mh, .inl (G.2.1, 21, .inl ht2_1)), (mb, .inl (G.2.1, 21, .inl bu2_1)), (mg, .inl (G.2.1, 21, .inl hg2_1)), (mq, .inl (G.2.1, 21, .inl pq2_1)), (ml, .inl (G.2.1, 21, .inl ld2_1)), (mf, .inl (G.2.1, 20, .inl fo2_1))] H := hP
    have hD : va_D A [(m0, .inr (6, [.int (nI (th)), .ref ms, .ref mv, .int (nI (sm)), .ref mt, .int (nI (ln)), .ref mh, .ref mb, .ref mg, .ref mq, .ref ml, .ref mf, .int nw2_1, .int fw2_1, .int (nI (tp)), .int (bI (wr)), .long dg])), (ms, .inl (G.2.1, 88, .inl s0)), (mv, .inl (G.2.1, 528, .inl sv)), (mt, .inl (G.2.1, 60, .inl tx)), (mh, .inl (G.2.1, 21, .inl ht2_1)), (mb, .inl (G.2.1, 21, .inl bu2_1)), (mg, .inl (G.2.1, 21, .inl hg2_1)), (mq, .inl (G.2.1, 21, .inl pq2_1)), (ml, .inl (G.2.1, 21, .inl ld2_1)), (mf, .inl (G.2.1, 20, .inl fo2_1))] := hD
    subst hw_71
    rw [hQ]
    exact k_iret (v := sumN (ld2_1) (n + 1)) (ht2_1, bu2_1, hg2_1, pq2_1, ld2_1, fo2_1, nw2_1, fw2_1) [0, 1, 2, 3, 4, 5, 6, 7, 8, 9] hx hb hr hlocks (cnt2 hok hw_1.1) hK hP hD hS rfl (by decide) dX6_counted_74
  · skip
    refine lv_tableIn (x := nI 3) (off := 70) (tgt := 75) hx hb dX6_counted_5 (by decide) (by decide) rfl (by decide) ?_
    refine lv_aload_n hx hb dX6_counted_75 rfl (lv_at hl 0 rfl) ?_
    refine va_get (D := G.1) (ci := 6) (v := .int nw2_1) (C := RX6) (T := TX6) (N := 17) hx hb hts hinX6 hown hK hP 0 rfl rfl 12 (by decide) hf48 (fun _ h9 => h9) rfl dX6_counted_76 ?_
    rw [hQ]
    exact k_iret (v := nw2_1) (ht2_1, bu2_1, hg2_1, pq2_1, ld2_1, fo2_1, nw2_1, fw2_1) [0, 1, 2, 3, 4, 5, 6, 7, 8, 9] hx hb hr hlocks (hw_1.2.1) hK hP hD hS rfl (by decide) dX6_counted_79
  · skip
    refine lv_tableIn (x := nI 4) (off := 75) (tgt := 80) hx hb dX6_counted_5 (by decide) (by decide) rfl (by decide) ?_
    refine lv_aload_n hx hb dX6_counted_80 rfl (lv_at hl 0 rfl) ?_
    refine va_get (D := G.1) (ci := 6) (v := .int fw2_1) (C := RX6) (T := TX6) (N := 17) hx hb hts hinX6 hown hK hP 0 rfl rfl 13 (by decide) hf51 (fun _ h9 => h9) rfl dX6_counted_81 ?_
    rw [hQ]
    exact k_iret (v := fw2_1) (ht2_1, bu2_1, hg2_1, pq2_1, ld2_1, fo2_1, nw2_1, fw2_1) [0, 1, 2, 3, 4, 5, 6, 7, 8, 9] hx hb hr hlocks (hw_1.2.2) hK hP hD hS rfl (by decide) dX6_counted_84
  · skip
    refine lv_tableIn (x := nI 5) (off := 80) (tgt := 85) hx hb dX6_counted_5 (by decide) (by decide) rfl (by decide) ?_
    refine lv_aload_n hx hb dX6_counted_85 rfl (lv_at hl 0 rfl) ?_
    refine k_ci (wr := []) [] rfl (by decide) [0, 1, 2, 3, 4, 5, 6, 7, 8, 9] rfl (by decide) hP hD hS hA (k_V (n := 0) (ci := 6) (As := []) (rest := []) (wc := [(m0, .inr (6, [.int (nI (th)), .ref ms, .ref mv, .int (nI (sm)), .ref mt, .int (nI (ln)), .ref mh, .ref mb, .ref mg, .ref mq, .ref ml, .ref mf, .int nw2_1, .int fw2_1, .int (nI (tp)), .int (bI (wr)), .long dg])), (ms, .inl (G.2.1, 88, .inl s0)), (mv, .inl (G.2.1, 528, .inl sv)), (mt, .inl (G.2.1, 60, .inl tx)), (mh, .inl (G.2.1, 21, .inl ht2_1)), (mb, .inl (G.2.1, 21, .inl bu2_1)), (mg, .inl (G.2.1, 21, .inl hg2_1)), (mq, .inl (G.2.1, 21, .inl pq2_1)), (ml, .inl (G.2.1, 21, .inl ld2_1)), (mf, .inl (G.2.1, 20, .inl fo2_1))]) hx hb hml hown hts hK hP hD hl (c_X6_greatest l G m0 ms mv mt mh mb mg mq ml mf th s0 sv sm tx ln ht2_1 bu2_1 hg2_1 pq2_1 ld2_1 fo2_1 nw2_1 fw2_1 tp wr dg n H.size (by first | assumption | omega)) [0, 1, 2, 3, 4, 5, 6, 7, 8, 9] rfl (by decide) gX6_counted_X6_greatest rfl rfl rfl (by decide +kernel) rfl ⟨Nat.le_of_ble_eq_true rfl, Nat.le_of_ble_eq_true rfl⟩ rfl rfl rfl (Nat.le_of_ble_eq_true rfl) dX6_counted_86 ⟨Nat.le_of_ble_eq_true rfl, Nat.le_of_ble_eq_true rfl⟩) (fun r_86 u H locs hw hP hD hS => ?_)
    obtain ⟨ht2_86, bu2_86, hg2_86, pq2_86, ld2_86, fo2_86, nw2_86, fw2_86⟩ := u
    have hw_86 : r_86 = cGR n (mST s0) (mWE s0) (mHA s0) (mPR s0) (mSE s0) ∧ okB n (mST s0) (mWE s0) (mHA s0) (mPR s0) (mSE s0) ht2_86 bu2_86 hg2_86 pq2_86 ld2_86 fo2_86 ∧ nw2_86 = cAH n (mST s0) (mWE s0) (mHA s0) (mPR s0) (mSE s0) ∧ fw2_86 = cBE n (mST s0) (mWE s0) (mHA s0) (mPR s0) (mSE s0) := hw
    have hP : va_P G.1 vwCl [(m0, .inr (6, [.int (nI (th)), .ref ms, .ref mv, .int (nI (sm)), .ref mt, .int (nI (ln)), .ref mh, .ref mb, .ref mg, .ref mq, .ref ml, .ref mf, .int nw2_86, .int fw2_86, .int (nI (tp)), .int (bI (wr)), .long dg])), (ms, .inl (G.2.1, 88, .inl s0)), (mv, .inl (G.2.1, 528, .inl sv)), (mt, .inl (G.2.1, 60, .inl tx)), (mh, .inl (G.2.1, 21, .inl ht2_86)), (mb, .inl (G.2.1, 21, .inl bu2_86)), (mg, .inl (G.2.1, 21, .inl hg2_86)), (mq, .inl (G.2.1, 21, .inl pq2_86)), (ml, .inl (G.2.1, 21, .inl ld2_86)), (mf, .inl (G.2.1, 20, .inl fo2_86))] H := hP
    have hD : va_D A [(m0, .inr (6, [.int (nI (th)), .ref ms, .ref mv, .int (nI (sm)), .ref mt, .int (nI (ln)), .ref mh, .ref mb, .ref mg, .ref mq, .ref ml, .ref mf, .int nw2_86, .int fw2_86, .int (nI (tp)), .int (bI (wr)), .long dg])), (ms, .inl (G.2.1, 88, .inl s0)), (mv, .inl (G.2.1, 528, .inl sv)), (mt, .inl (G.2.1, 60, .inl tx)), (mh, .inl (G.2.1, 21, .inl ht2_86)), (mb, .inl (G.2.1, 21, .inl bu2_86)), (mg, .inl (G.2.1, 21, .inl hg2_86)), (mq, .inl (G.2.1, 21, .inl pq2_86)), (ml, .inl (G.2.1, 21, .inl ld2_86)), (mf, .inl (G.2.1, 20, .inl fo2_86))] := hD
    obtain ⟨rfl, hw_86⟩ := hw_86
    rw [hQ]
    exact k_iret (v := cGR n (mST s0) (mWE s0) (mHA s0) (mPR s0) (mSE s0)) (ht2_86, bu2_86, hg2_86, pq2_86, ld2_86, fo2_86, nw2_86, fw2_86) [0, 1, 2, 3, 4, 5, 6, 7, 8, 9] hx hb hr hlocks (rfl) hK hP hD hS rfl (by decide) dX6_counted_89
  · skip
    refine lv_tableIn (x := nI 6) (off := 85) (tgt := 90) hx hb dX6_counted_5 (by decide) (by decide) rfl (by decide) ?_
    refine lv_aload_n hx hb dX6_counted_90 rfl (lv_at hl 0 rfl) ?_
    refine k_ci (wr := []) [] rfl (by decide) [0, 1, 2, 3, 4, 5, 6, 7, 8, 9] rfl (by decide) hP hD hS hA (k_V (n := 0) (ci := 6) (As := []) (rest := []) (wc := [(m0, .inr (6, [.int (nI (th)), .ref ms, .ref mv, .int (nI (sm)), .ref mt, .int (nI (ln)), .ref mh, .ref mb, .ref mg, .ref mq, .ref ml, .ref mf, .int nw2_1, .int fw2_1, .int (nI (tp)), .int (bI (wr)), .long dg])), (ms, .inl (G.2.1, 88, .inl s0)), (mv, .inl (G.2.1, 528, .inl sv)), (mt, .inl (G.2.1, 60, .inl tx)), (mh, .inl (G.2.1, 21, .inl ht2_1)), (mb, .inl (G.2.1, 21, .inl bu2_1)), (mg, .inl (G.2.1, 21, .inl hg2_1)), (mq, .inl (G.2.1, 21, .inl pq2_1)), (ml, .inl (G.2.1, 21, .inl ld2_1)), (mf, .inl (G.2.1, 20, .inl fo2_1))]) hx hb hml hown hts hK hP hD hl (c_X6_breaking l G m0 ms mv mt mh mb mg mq ml mf th s0 sv sm tx ln ht2_1 bu2_1 hg2_1 pq2_1 ld2_1 fo2_1 nw2_1 fw2_1 tp wr dg n H.size (by first | assumption | omega)) [0, 1, 2, 3, 4, 5, 6, 7, 8, 9] rfl (by decide) gX6_counted_X6_breaking rfl rfl rfl (by decide +kernel) rfl ⟨Nat.le_of_ble_eq_true rfl, Nat.le_of_ble_eq_true rfl⟩ rfl rfl rfl (Nat.le_of_ble_eq_true rfl) dX6_counted_91 ⟨Nat.le_of_ble_eq_true rfl, Nat.le_of_ble_eq_true rfl⟩) (fun r_91 u H locs hw hP hD hS => ?_)
    have hw_91 : r_91 = nI (brN fo2_1 (s0 4) n) := hw
    have hP : va_P G.1 vwCl [(m0, .inr (6, [.int (nI (th)), .ref ms, .ref mv, .int (nI (sm)), .ref mt, .int (nI (ln)), .ref mh, .ref mb, .ref mg, .ref mq, .ref ml, .ref mf, .int nw2_1, .int fw2_1, .int (nI (tp)), .int (bI (wr)), .long dg])), (ms, .inl (G.2.1, 88, .inl s0)), (mv, .inl (G.2.1, 528, .inl sv)), (mt, .inl (G.2.1, 60, .inl tx)), (mh, .inl (G.2.1, 21, .inl ht2_1)), (mb, .inl (G.2.1, 21, .inl bu2_1)), (mg, .inl (G.2.1, 21, .inl hg2_1)), (mq, .inl (G.2.1, 21, .inl pq2_1)), (ml, .inl (G.2.1, 21, .inl ld2_1)), (mf, .inl (G.2.1, 20, .inl fo2_1))] H := hP
    have hD : va_D A [(m0, .inr (6, [.int (nI (th)), .ref ms, .ref mv, .int (nI (sm)), .ref mt, .int (nI (ln)), .ref mh, .ref mb, .ref mg, .ref mq, .ref ml, .ref mf, .int nw2_1, .int fw2_1, .int (nI (tp)), .int (bI (wr)), .long dg])), (ms, .inl (G.2.1, 88, .inl s0)), (mv, .inl (G.2.1, 528, .inl sv)), (mt, .inl (G.2.1, 60, .inl tx)), (mh, .inl (G.2.1, 21, .inl ht2_1)), (mb, .inl (G.2.1, 21, .inl bu2_1)), (mg, .inl (G.2.1, 21, .inl hg2_1)), (mq, .inl (G.2.1, 21, .inl pq2_1)), (ml, .inl (G.2.1, 21, .inl ld2_1)), (mf, .inl (G.2.1, 20, .inl fo2_1))] := hD
    subst hw_91
    rw [hQ]
    exact k_iret (v := nI (brN fo2_1 (s0 4) n)) (ht2_1, bu2_1, hg2_1, pq2_1, ld2_1, fo2_1, nw2_1, fw2_1) [0, 1, 2, 3, 4, 5, 6, 7, 8, 9] hx hb hr hlocks (cnt6 hw_1.1) hK hP hD hS rfl (by decide) dX6_counted_94
  · skip
    refine lv_tableIn (x := nI 7) (off := 90) (tgt := 95) hx hb dX6_counted_5 (by decide) (by decide) rfl (by decide) ?_
    refine lv_aload_n hx hb dX6_counted_95 rfl (lv_at hl 0 rfl) ?_
    refine k_ci (wr := []) [] rfl (by decide) [0, 1, 2, 3, 4, 5, 6, 7, 8, 9] rfl (by decide) hP hD hS hA (k_V (n := 0) (ci := 6) (As := []) (rest := []) (wc := [(m0, .inr (6, [.int (nI (th)), .ref ms, .ref mv, .int (nI (sm)), .ref mt, .int (nI (ln)), .ref mh, .ref mb, .ref mg, .ref mq, .ref ml, .ref mf, .int nw2_1, .int fw2_1, .int (nI (tp)), .int (bI (wr)), .long dg])), (ms, .inl (G.2.1, 88, .inl s0)), (mv, .inl (G.2.1, 528, .inl sv)), (mt, .inl (G.2.1, 60, .inl tx)), (mh, .inl (G.2.1, 21, .inl ht2_1)), (mb, .inl (G.2.1, 21, .inl bu2_1)), (mg, .inl (G.2.1, 21, .inl hg2_1)), (mq, .inl (G.2.1, 21, .inl pq2_1)), (ml, .inl (G.2.1, 21, .inl ld2_1)), (mf, .inl (G.2.1, 20, .inl fo2_1))]) hx hb hml hown hts hK hP hD hl (c_X6_breaking l G m0 ms mv mt mh mb mg mq ml mf th s0 sv sm tx ln ht2_1 bu2_1 hg2_1 pq2_1 ld2_1 fo2_1 nw2_1 fw2_1 tp wr dg n H.size (by first | assumption | omega)) [0, 1, 2, 3, 4, 5, 6, 7, 8, 9] rfl (by decide) gX6_counted_X6_breaking rfl rfl rfl (by decide +kernel) rfl ⟨Nat.le_of_ble_eq_true rfl, Nat.le_of_ble_eq_true rfl⟩ rfl rfl rfl (Nat.le_of_ble_eq_true rfl) dX6_counted_96 ⟨Nat.le_of_ble_eq_true rfl, Nat.le_of_ble_eq_true rfl⟩) (fun r_96 u H locs hw hP hD hS => ?_)
    have hw_96 : r_96 = nI (brN fo2_1 (s0 4) n) := hw
    have hP : va_P G.1 vwCl [(m0, .inr (6, [.int (nI (th)), .ref ms, .ref mv, .int (nI (sm)), .ref mt, .int (nI (ln)), .ref mh, .ref mb, .ref mg, .ref mq, .ref ml, .ref mf, .int nw2_1, .int fw2_1, .int (nI (tp)), .int (bI (wr)), .long dg])), (ms, .inl (G.2.1, 88, .inl s0)), (mv, .inl (G.2.1, 528, .inl sv)), (mt, .inl (G.2.1, 60, .inl tx)), (mh, .inl (G.2.1, 21, .inl ht2_1)), (mb, .inl (G.2.1, 21, .inl bu2_1)), (mg, .inl (G.2.1, 21, .inl hg2_1)), (mq, .inl (G.2.1, 21, .inl pq2_1)), (ml, .inl (G.2.1, 21, .inl ld2_1)), (mf, .inl (G.2.1, 20, .inl fo2_1))] H := hP
    have hD : va_D A [(m0, .inr (6, [.int (nI (th)), .ref ms, .ref mv, .int (nI (sm)), .ref mt, .int (nI (ln)), .ref mh, .ref mb, .ref mg, .ref mq, .ref ml, .ref mf, .int nw2_1, .int fw2_1, .int (nI (tp)), .int (bI (wr)), .long dg])), (ms, .inl (G.2.1, 88, .inl s0)), (mv, .inl (G.2.1, 528, .inl sv)), (mt, .inl (G.2.1, 60, .inl tx)), (mh, .inl (G.2.1, 21, .inl ht2_1)), (mb, .inl (G.2.1, 21, .inl bu2_1)), (mg, .inl (G.2.1, 21, .inl hg2_1)), (mq, .inl (G.2.1, 21, .inl pq2_1)), (ml, .inl (G.2.1, 21, .inl ld2_1)), (mf, .inl (G.2.1, 20, .inl fo2_1))] := hD
    subst hw_96
    have hbr := brN_le fo2_1 (s0 4) n
    refine g_if_ne (a := brN fo2_1 (s0 4) n) (tgt := 106) hx hb (by omega) dX6_counted_99 (by decide) (fun c_99 => ?_) (fun c_99 => ?_)
    · skip
      refine lv_iconst (v := 0) hx hb dX6_counted_106 (by decide) ?_
      rw [hQ]
      exact k_iret (v := 0) (ht2_1, bu2_1, hg2_1, pq2_1, ld2_1, fo2_1, nw2_1, fw2_1) [0, 1, 2, 3, 4, 5, 6, 7, 8, 9] hx hb hr hlocks (cnt7_f hok hw_1.1 c_99) hK hP hD hS rfl (by decide) dX6_counted_107
    · skip
      refine lv_iconst (v := 1) hx hb dX6_counted_102 (by decide) ?_
      refine lv_goto (tgt := 107) hx hb dX6_counted_103 (by decide) ?_
      rw [hQ]
      exact k_iret (v := 1) (ht2_1, bu2_1, hg2_1, pq2_1, ld2_1, fo2_1, nw2_1, fw2_1) [0, 1, 2, 3, 4, 5, 6, 7, 8, 9] hx hb hr hlocks (cnt7_t hok hw_1.1 c_99) hK hP hD hS rfl (by decide) dX6_counted_107
  · skip
    refine lv_tableIn (x := nI 8) (off := 103) (tgt := 108) hx hb dX6_counted_5 (by decide) (by decide) rfl (by decide) ?_
    refine lv_aload_n hx hb dX6_counted_108 rfl (lv_at hl 0 rfl) ?_
    refine k_ci (wr := []) [] rfl (by decide) [0, 1, 2, 3, 4, 5, 6, 7, 8, 9] rfl (by decide) hP hD hS hA (k_V (n := 0) (ci := 6) (As := []) (rest := []) (wc := [(m0, .inr (6, [.int (nI (th)), .ref ms, .ref mv, .int (nI (sm)), .ref mt, .int (nI (ln)), .ref mh, .ref mb, .ref mg, .ref mq, .ref ml, .ref mf, .int nw2_1, .int fw2_1, .int (nI (tp)), .int (bI (wr)), .long dg])), (ms, .inl (G.2.1, 88, .inl s0)), (mv, .inl (G.2.1, 528, .inl sv)), (mt, .inl (G.2.1, 60, .inl tx)), (mh, .inl (G.2.1, 21, .inl ht2_1)), (mb, .inl (G.2.1, 21, .inl bu2_1)), (mg, .inl (G.2.1, 21, .inl hg2_1)), (mq, .inl (G.2.1, 21, .inl pq2_1)), (ml, .inl (G.2.1, 21, .inl ld2_1)), (mf, .inl (G.2.1, 20, .inl fo2_1))]) hx hb hml hown hts hK hP hD hl (c_X6_lowest l G m0 ms mv mt mh mb mg mq ml mf th s0 sv sm tx ln ht2_1 bu2_1 hg2_1 pq2_1 ld2_1 fo2_1 nw2_1 fw2_1 tp wr dg n H.size (by first | assumption | omega)) [0, 1, 2, 3, 4, 5, 6, 7, 8, 9] rfl (by decide) gX6_counted_X6_lowest rfl rfl rfl (by decide +kernel) rfl ⟨Nat.le_of_ble_eq_true rfl, Nat.le_of_ble_eq_true rfl⟩ rfl rfl rfl (Nat.le_of_ble_eq_true rfl) dX6_counted_109 ⟨Nat.le_of_ble_eq_true rfl, Nat.le_of_ble_eq_true rfl⟩) (fun r_109 u H locs hw hP hD hS => ?_)
    have hw_109 : r_109 = nI (loN ht2_1 n) := hw
    have hP : va_P G.1 vwCl [(m0, .inr (6, [.int (nI (th)), .ref ms, .ref mv, .int (nI (sm)), .ref mt, .int (nI (ln)), .ref mh, .ref mb, .ref mg, .ref mq, .ref ml, .ref mf, .int nw2_1, .int fw2_1, .int (nI (tp)), .int (bI (wr)), .long dg])), (ms, .inl (G.2.1, 88, .inl s0)), (mv, .inl (G.2.1, 528, .inl sv)), (mt, .inl (G.2.1, 60, .inl tx)), (mh, .inl (G.2.1, 21, .inl ht2_1)), (mb, .inl (G.2.1, 21, .inl bu2_1)), (mg, .inl (G.2.1, 21, .inl hg2_1)), (mq, .inl (G.2.1, 21, .inl pq2_1)), (ml, .inl (G.2.1, 21, .inl ld2_1)), (mf, .inl (G.2.1, 20, .inl fo2_1))] H := hP
    have hD : va_D A [(m0, .inr (6, [.int (nI (th)), .ref ms, .ref mv, .int (nI (sm)), .ref mt, .int (nI (ln)), .ref mh, .ref mb, .ref mg, .ref mq, .ref ml, .ref mf, .int nw2_1, .int fw2_1, .int (nI (tp)), .int (bI (wr)), .long dg])), (ms, .inl (G.2.1, 88, .inl s0)), (mv, .inl (G.2.1, 528, .inl sv)), (mt, .inl (G.2.1, 60, .inl tx)), (mh, .inl (G.2.1, 21, .inl ht2_1)), (mb, .inl (G.2.1, 21, .inl bu2_1)), (mg, .inl (G.2.1, 21, .inl hg2_1)), (mq, .inl (G.2.1, 21, .inl pq2_1)), (ml, .inl (G.2.1, 21, .inl ld2_1)), (mf, .inl (G.2.1, 20, .inl fo2_1))] := hD
    subst hw_109
    rw [hQ]
    exact k_iret (v := nI (loN ht2_1 n)) (ht2_1, bu2_1, hg2_1, pq2_1, ld2_1, fo2_1, nw2_1, fw2_1) [0, 1, 2, 3, 4, 5, 6, 7, 8, 9] hx hb hr hlocks (cnt8 hw_1.1) hK hP hD hS rfl (by decide) dX6_counted_112
  · skip
    refine lv_tableIn (x := nI 9) (off := 108) (tgt := 113) hx hb dX6_counted_5 (by decide) (by decide) rfl (by decide) ?_
    refine lv_aload_n hx hb dX6_counted_113 rfl (lv_at hl 0 rfl) ?_
    refine va_get (D := G.1) (ci := 6) (v := .ref mh) (C := RX6) (T := TX6) (N := 17) hx hb hts hinX6 hown hK hP 0 rfl rfl 6 (by decide) hf19 (fun _ h9 => h9) rfl dX6_counted_114 ?_
    refine lv_aload_n hx hb dX6_counted_117 rfl (lv_at hl 0 rfl) ?_
    refine k_ci (wr := []) [] rfl (by decide) [0, 1, 2, 3, 4, 5, 6, 7, 8, 9] rfl (by decide) hP hD hS hA (k_V (n := 0) (ci := 6) (As := []) (rest := [.ref mh]) (wc := [(m0, .inr (6, [.int (nI (th)), .ref ms, .ref mv, .int (nI (sm)), .ref mt, .int (nI (ln)), .ref mh, .ref mb, .ref mg, .ref mq, .ref ml, .ref mf, .int nw2_1, .int fw2_1, .int (nI (tp)), .int (bI (wr)), .long dg])), (ms, .inl (G.2.1, 88, .inl s0)), (mv, .inl (G.2.1, 528, .inl sv)), (mt, .inl (G.2.1, 60, .inl tx)), (mh, .inl (G.2.1, 21, .inl ht2_1)), (mb, .inl (G.2.1, 21, .inl bu2_1)), (mg, .inl (G.2.1, 21, .inl hg2_1)), (mq, .inl (G.2.1, 21, .inl pq2_1)), (ml, .inl (G.2.1, 21, .inl ld2_1)), (mf, .inl (G.2.1, 20, .inl fo2_1))]) hx hb hml hown hts hK hP hD hl (c_X6_lowest l G m0 ms mv mt mh mb mg mq ml mf th s0 sv sm tx ln ht2_1 bu2_1 hg2_1 pq2_1 ld2_1 fo2_1 nw2_1 fw2_1 tp wr dg n H.size (by first | assumption | omega)) [0, 1, 2, 3, 4, 5, 6, 7, 8, 9] rfl (by decide) gX6_counted_X6_lowest rfl rfl rfl (by decide +kernel) rfl ⟨Nat.le_of_ble_eq_true rfl, Nat.le_of_ble_eq_true rfl⟩ rfl rfl rfl (Nat.le_of_ble_eq_true rfl) dX6_counted_118 ⟨Nat.le_of_ble_eq_true rfl, Nat.le_of_ble_eq_true rfl⟩) (fun r_118 u H locs hw hP hD hS => ?_)
    have hw_118 : r_118 = nI (loN ht2_1 n) := hw
    have hP : va_P G.1 vwCl [(m0, .inr (6, [.int (nI (th)), .ref ms, .ref mv, .int (nI (sm)), .ref mt, .int (nI (ln)), .ref mh, .ref mb, .ref mg, .ref mq, .ref ml, .ref mf, .int nw2_1, .int fw2_1, .int (nI (tp)), .int (bI (wr)), .long dg])), (ms, .inl (G.2.1, 88, .inl s0)), (mv, .inl (G.2.1, 528, .inl sv)), (mt, .inl (G.2.1, 60, .inl tx)), (mh, .inl (G.2.1, 21, .inl ht2_1)), (mb, .inl (G.2.1, 21, .inl bu2_1)), (mg, .inl (G.2.1, 21, .inl hg2_1)), (mq, .inl (G.2.1, 21, .inl pq2_1)), (ml, .inl (G.2.1, 21, .inl ld2_1)), (mf, .inl (G.2.1, 20, .inl fo2_1))] H := hP
    have hD : va_D A [(m0, .inr (6, [.int (nI (th)), .ref ms, .ref mv, .int (nI (sm)), .ref mt, .int (nI (ln)), .ref mh, .ref mb, .ref mg, .ref mq, .ref ml, .ref mf, .int nw2_1, .int fw2_1, .int (nI (tp)), .int (bI (wr)), .long dg])), (ms, .inl (G.2.1, 88, .inl s0)), (mv, .inl (G.2.1, 528, .inl sv)), (mt, .inl (G.2.1, 60, .inl tx)), (mh, .inl (G.2.1, 21, .inl ht2_1)), (mb, .inl (G.2.1, 21, .inl bu2_1)), (mg, .inl (G.2.1, 21, .inl hg2_1)), (mq, .inl (G.2.1, 21, .inl pq2_1)), (ml, .inl (G.2.1, 21, .inl ld2_1)), (mf, .inl (G.2.1, 20, .inl fo2_1))] := hD
    subst hw_118
    have hlo := loN_le ht2_1 n
    refine g_iald (k := loN ht2_1 n) hx hb hK hP 4 rfl (by omega) (by omega) dX6_counted_121 ?_
    refine lv_bipush (v := 100) hx hb dX6_counted_122 (by decide) ?_
    refine lv_iadd hx hb dX6_counted_124 ?_
    rw [hQ]
    exact k_iret (v := (ht2_1 (loN ht2_1 n)) + 100) (ht2_1, bu2_1, hg2_1, pq2_1, ld2_1, fo2_1, nw2_1, fw2_1) [0, 1, 2, 3, 4, 5, 6, 7, 8, 9] hx hb hr hlocks (cnt9 hw_1.1) hK hP hD hS rfl (by decide) dX6_counted_125
  · skip
    refine lv_tableOut (x := nI 10) (tgt := 126) hx hb dX6_counted_5 (by decide) (by decide) ?_
    refine lv_aload_n hx hb dX6_counted_126 rfl (lv_at hl 0 rfl) ?_
    refine va_get (D := G.1) (ci := 6) (v := .int (nI (sm))) (C := RX6) (T := TX6) (N := 17) hx hb hts hinX6 hown hK hP 0 rfl rfl 3 (by decide) hf45 (fun _ h9 => h9) rfl dX6_counted_127 ?_
    rw [hQ]
    exact k_iret (v := nI (sm)) (ht2_1, bu2_1, hg2_1, pq2_1, ld2_1, fo2_1, nw2_1, fw2_1) [0, 1, 2, 3, 4, 5, 6, 7, 8, 9] hx hb hr hlocks (rfl) hK hP hD hS rfl (by decide) dX6_counted_130
set_option maxHeartbeats 4000000 in
set_option maxRecDepth 100000 in
theorem c_X6_count_1 (l : Launch) (G : kG) (m0 : Nat) (ms : Nat) (mv : Nat) (mt : Nat) (mh : Nat) (mb : Nat) (mg : Nat) (mq : Nat) (ml : Nat) (mf : Nat) (th : Nat) (s0 : Fn) (sv : Fn) (sm : Nat) (tx : Fn) (ln : Nat) (ht : Fn) (bu : Fn) (hg : Fn) (pq : Fn) (ld : Fn) (fo : Fn) (nw : Int32) (fw : Int32) (tp : Nat) (wr : Bool) (dg : Int64) (w : Int32) (sz : Nat) (h1 : isN w 11 = false) : kMet l yX6_count wsX6_count ({ frames := 4, cells := 0, slots := 0, locals := 89 } : Room) G [.ref m0, .int w] [(m0, .inr (6, [.int (nI (th)), .ref ms, .ref mv, .int (nI (sm)), .ref mt, .int (nI (ln)), .ref mh, .ref mb, .ref mg, .ref mq, .ref ml, .ref mf, .int nw, .int fw, .int (nI (tp)), .int (bI (wr)), .long dg])), (ms, .inl (G.2.1, 88, .inl s0)), (mv, .inl (G.2.1, 528, .inl sv)), (mt, .inl (G.2.1, 60, .inl tx)), (mh, .inl (G.2.1, 21, .inl ht)), (mb, .inl (G.2.1, 21, .inl bu)), (mg, .inl (G.2.1, 21, .inl hg)), (mq, .inl (G.2.1, 21, .inl pq)), (ml, .inl (G.2.1, 21, .inl ld)), (mf, .inl (G.2.1, 20, .inl fo))] sz (kQi G (fun (r : Int32) (u : Unit) => r = 0) (fun (u : Unit) => [(m0, .inr (6, [.int (nI 1), .ref ms, .ref mv, .int (nI (sm)), .ref mt, .int (nI (ln)), .ref mh, .ref mb, .ref mg, .ref mq, .ref ml, .ref mf, .int nw, .int fw, .int (nI (tp)), .int (bI (wr)), .long dg])), (ms, .inl (G.2.1, 88, .inl s0)), (mv, .inl (G.2.1, 528, .inl sv)), (mt, .inl (G.2.1, 60, .inl tx)), (mh, .inl (G.2.1, 21, .inl ht)), (mb, .inl (G.2.1, 21, .inl bu)), (mg, .inl (G.2.1, 21, .inl hg)), (mq, .inl (G.2.1, 21, .inl pq)), (ml, .inl (G.2.1, 21, .inl ld)), (mf, .inl (G.2.1, 20, .inl fo))])) 0 0 := by
  refine k_entry (cc := cX6_count) (maxL := 2) (ret := (some .int)) (by decide) rfl (Nat.le_of_ble_eq_true rfl) ?_
  intro p e s m args below meth c A ls H locs Q hQ hx hb hml hr hts hown hlocks hin hA hP hK hD hS hl
  have hown : s.vm.findClass RX6 = some m.cls := hown
  have hl : lv_has ls 2 [(0, .ref m0), (1, .int w)] := hl
  refine lv_aload_n hx hb dX6_count_0 rfl (lv_at hl 0 rfl) ?_
  refine lv_iload_n hx hb dX6_count_1 rfl (lv_at hl 1 rfl) ?_
  refine lv_iconst (v := 0) hx hb dX6_count_2 (by decide) ?_
  refine lv_bipush (v := 10) hx hb dX6_count_3 (by decide) ?_
  refine k_ci (wr := [(m0, .inr (6, [.int (nI (th)), .ref ms, .ref mv, .int (nI (sm)), .ref mt, .int (nI (ln)), .ref mh, .ref mb, .ref mg, .ref mq, .ref ml, .ref mf, .int nw, .int fw, .int (nI (tp)), .int (bI (wr)), .long dg])), (ms, .inl (G.2.1, 88, .inl s0)), (mv, .inl (G.2.1, 528, .inl sv)), (mt, .inl (G.2.1, 60, .inl tx)), (mh, .inl (G.2.1, 21, .inl ht)), (mb, .inl (G.2.1, 21, .inl bu)), (mg, .inl (G.2.1, 21, .inl hg)), (mq, .inl (G.2.1, 21, .inl pq)), (ml, .inl (G.2.1, 21, .inl ld)), (mf, .inl (G.2.1, 20, .inl fo))]) [0, 1, 2, 3, 4, 5, 6, 7, 8, 9] rfl (by decide) [] rfl (by decide) hP hD hS hA (k_S (n := 3) (As := [.int w, .int 0, .int 10]) (rest := [.ref m0]) (wc := []) hx hb hml hown hts hK hP hD hl (c_X6_in l G w 0 10 H.size) [] rfl (by decide) gX6_count_X6_in rfl rfl rfl (by decide +kernel) rfl ⟨Nat.le_of_ble_eq_true rfl, Nat.le_of_ble_eq_true rfl⟩ rfl (Nat.le_of_ble_eq_true rfl) dX6_count_5 ⟨Nat.le_of_ble_eq_true rfl, Nat.le_of_ble_eq_true rfl⟩) (fun r_5 u H locs hw hP hD hS => ?_)
  have hw_5 : r_5 = bI (decide (0 ≤ w ∧ w ≤ 10)) := hw
  have hP : va_P G.1 vwCl [(m0, .inr (6, [.int (nI (th)), .ref ms, .ref mv, .int (nI (sm)), .ref mt, .int (nI (ln)), .ref mh, .ref mb, .ref mg, .ref mq, .ref ml, .ref mf, .int nw, .int fw, .int (nI (tp)), .int (bI (wr)), .long dg])), (ms, .inl (G.2.1, 88, .inl s0)), (mv, .inl (G.2.1, 528, .inl sv)), (mt, .inl (G.2.1, 60, .inl tx)), (mh, .inl (G.2.1, 21, .inl ht)), (mb, .inl (G.2.1, 21, .inl bu)), (mg, .inl (G.2.1, 21, .inl hg)), (mq, .inl (G.2.1, 21, .inl pq)), (ml, .inl (G.2.1, 21, .inl ld)), (mf, .inl (G.2.1, 20, .inl fo))] H := hP
  have hD : va_D A [(m0, .inr (6, [.int (nI (th)), .ref ms, .ref mv, .int (nI (sm)), .ref mt, .int (nI (ln)), .ref mh, .ref mb, .ref mg, .ref mq, .ref ml, .ref mf, .int nw, .int fw, .int (nI (tp)), .int (bI (wr)), .long dg])), (ms, .inl (G.2.1, 88, .inl s0)), (mv, .inl (G.2.1, 528, .inl sv)), (mt, .inl (G.2.1, 60, .inl tx)), (mh, .inl (G.2.1, 21, .inl ht)), (mb, .inl (G.2.1, 21, .inl bu)), (mg, .inl (G.2.1, 21, .inl hg)), (mq, .inl (G.2.1, 21, .inl pq)), (ml, .inl (G.2.1, 21, .inl ld)), (mf, .inl (G.2.1, 20, .inl fo))] := hD
  subst hw_5
  refine g_ti (y := nI 0) (inK_f (m := 10) h1) ?_
  refine g_if_eq (a := 0) (tgt := 15) hx hb (by omega) dX6_count_8 (by decide) (fun c_8 => ?_) (fun c_8 => ?_)
  · skip
    refine lv_iconst (v := 1) hx hb dX6_count_15 (by decide) ?_
    refine k_ci (wr := []) [] rfl (by decide) [0, 1, 2, 3, 4, 5, 6, 7, 8, 9] rfl (by decide) hP hD hS hA (k_V (n := 1) (ci := 6) (As := [.int 1]) (rest := []) (wc := [(m0, .inr (6, [.int (nI (th)), .ref ms, .ref mv, .int (nI (sm)), .ref mt, .int (nI (ln)), .ref mh, .ref mb, .ref mg, .ref mq, .ref ml, .ref mf, .int nw, .int fw, .int (nI (tp)), .int (bI (wr)), .long dg])), (ms, .inl (G.2.1, 88, .inl s0)), (mv, .inl (G.2.1, 528, .inl sv)), (mt, .inl (G.2.1, 60, .inl tx)), (mh, .inl (G.2.1, 21, .inl ht)), (mb, .inl (G.2.1, 21, .inl bu)), (mg, .inl (G.2.1, 21, .inl hg)), (mq, .inl (G.2.1, 21, .inl pq)), (ml, .inl (G.2.1, 21, .inl ld)), (mf, .inl (G.2.1, 20, .inl fo))]) hx hb hml hown hts hK hP hD hl (c_X6_holds l G m0 ms mv mt mh mb mg mq ml mf th s0 sv sm tx ln ht bu hg pq ld fo nw fw tp wr dg 1 H.size (by first | assumption | omega)) [0, 1, 2, 3, 4, 5, 6, 7, 8, 9] rfl (by decide) gX6_count_X6_holds rfl rfl rfl (by decide +kernel) rfl ⟨Nat.le_of_ble_eq_true rfl, Nat.le_of_ble_eq_true rfl⟩ rfl rfl rfl (Nat.le_of_ble_eq_true rfl) dX6_count_16 ⟨Nat.le_of_ble_eq_true rfl, Nat.le_of_ble_eq_true rfl⟩) (fun r_16 u H locs hw hP hD hS => ?_)
    have hw_16 : r_16 = bI (decide (1 = 0)) := hw
    have hP : va_P G.1 vwCl [(m0, .inr (6, [.int (nI (1)), .ref ms, .ref mv, .int (nI (sm)), .ref mt, .int (nI (ln)), .ref mh, .ref mb, .ref mg, .ref mq, .ref ml, .ref mf, .int nw, .int fw, .int (nI (tp)), .int (bI (wr)), .long dg])), (ms, .inl (G.2.1, 88, .inl s0)), (mv, .inl (G.2.1, 528, .inl sv)), (mt, .inl (G.2.1, 60, .inl tx)), (mh, .inl (G.2.1, 21, .inl ht)), (mb, .inl (G.2.1, 21, .inl bu)), (mg, .inl (G.2.1, 21, .inl hg)), (mq, .inl (G.2.1, 21, .inl pq)), (ml, .inl (G.2.1, 21, .inl ld)), (mf, .inl (G.2.1, 20, .inl fo))] H := hP
    have hD : va_D A [(m0, .inr (6, [.int (nI (1)), .ref ms, .ref mv, .int (nI (sm)), .ref mt, .int (nI (ln)), .ref mh, .ref mb, .ref mg, .ref mq, .ref ml, .ref mf, .int nw, .int fw, .int (nI (tp)), .int (bI (wr)), .long dg])), (ms, .inl (G.2.1, 88, .inl s0)), (mv, .inl (G.2.1, 528, .inl sv)), (mt, .inl (G.2.1, 60, .inl tx)), (mh, .inl (G.2.1, 21, .inl ht)), (mb, .inl (G.2.1, 21, .inl bu)), (mg, .inl (G.2.1, 21, .inl hg)), (mq, .inl (G.2.1, 21, .inl pq)), (ml, .inl (G.2.1, 21, .inl ld)), (mf, .inl (G.2.1, 20, .inl fo))] := hD
    subst hw_16
    refine g_ti (y := nI 0) (by rw [decide_eq_false (by decide)]; rfl) ?_
    refine g_if_eq (a := 0) (tgt := 30) hx hb (by omega) dX6_count_19 (by decide) (fun c_19 => ?_) (fun c_19 => ?_)
    · skip
      refine lv_iconst (v := 0) hx hb dX6_count_30 (by decide) ?_
      rw [hQ]
      exact k_iret (v := 0) () [0, 1, 2, 3, 4, 5, 6, 7, 8, 9] hx hb hr hlocks (rfl) hK hP hD hS rfl (by decide) dX6_count_31
    · exact absurd c_19 (by decide)
  · exact absurd c_8 (by decide)
set_option maxHeartbeats 4000000 in
set_option maxRecDepth 100000 in
theorem c_X6_count_0 (l : Launch) (G : kG) (m0 : Nat) (ms : Nat) (mv : Nat) (mt : Nat) (mh : Nat) (mb : Nat) (mg : Nat) (mq : Nat) (ml : Nat) (mf : Nat) (th : Nat) (s0 : Fn) (sv : Fn) (sm : Nat) (tx : Fn) (ln : Nat) (ht : Fn) (bu : Fn) (hg : Fn) (pq : Fn) (ld : Fn) (fo : Fn) (nw : Int32) (fw : Int32) (tp : Nat) (wr : Bool) (dg : Int64) (w : Nat) (n : Nat) (sz : Nat) (hok : mOK s0 n) (hw11 : w < 11) : kMet l yX6_count wsX6_count ({ frames := 4, cells := 0, slots := 0, locals := 89 } : Room) G [.ref m0, .int (nI (w))] [(m0, .inr (6, [.int (nI (th)), .ref ms, .ref mv, .int (nI (sm)), .ref mt, .int (nI (ln)), .ref mh, .ref mb, .ref mg, .ref mq, .ref ml, .ref mf, .int nw, .int fw, .int (nI (tp)), .int (bI (wr)), .long dg])), (ms, .inl (G.2.1, 88, .inl s0)), (mv, .inl (G.2.1, 528, .inl sv)), (mt, .inl (G.2.1, 60, .inl tx)), (mh, .inl (G.2.1, 21, .inl ht)), (mb, .inl (G.2.1, 21, .inl bu)), (mg, .inl (G.2.1, 21, .inl hg)), (mq, .inl (G.2.1, 21, .inl pq)), (ml, .inl (G.2.1, 21, .inl ld)), (mf, .inl (G.2.1, 20, .inl fo))] sz (kQi G (fun (r : Int32) (u : Fn × Fn × Fn × Fn × Fn × Fn × Int32 × Int32) => r = tCt n (mST s0) (mWE s0) (mHA s0) (mPR s0) (mSE s0) sm w) (fun (u : Fn × Fn × Fn × Fn × Fn × Fn × Int32 × Int32) => [(m0, .inr (6, [.int (nI 0), .ref ms, .ref mv, .int (nI (sm)), .ref mt, .int (nI (ln)), .ref mh, .ref mb, .ref mg, .ref mq, .ref ml, .ref mf, .int u.2.2.2.2.2.2.1, .int u.2.2.2.2.2.2.2, .int (nI (tp)), .int (bI (wr)), .long dg])), (ms, .inl (G.2.1, 88, .inl s0)), (mv, .inl (G.2.1, 528, .inl sv)), (mt, .inl (G.2.1, 60, .inl tx)), (mh, .inl (G.2.1, 21, .inl u.1)), (mb, .inl (G.2.1, 21, .inl u.2.1)), (mg, .inl (G.2.1, 21, .inl u.2.2.1)), (mq, .inl (G.2.1, 21, .inl u.2.2.2.1)), (ml, .inl (G.2.1, 21, .inl u.2.2.2.2.1)), (mf, .inl (G.2.1, 20, .inl u.2.2.2.2.2.1))])) 0 0 := by
  refine k_entry (cc := cX6_count) (maxL := 2) (ret := (some .int)) (by decide) rfl (Nat.le_of_ble_eq_true rfl) ?_
  intro p e s m args below meth c A ls H locs Q hQ hx hb hml hr hts hown hlocks hin hA hP hK hD hS hl
  have hown : s.vm.findClass RX6 = some m.cls := hown
  have hl : lv_has ls 2 [(0, .ref m0), (1, .int (nI (w)))] := hl
  obtain ⟨hs0, hn1, hn, hv⟩ := id hok
  refine lv_aload_n hx hb dX6_count_0 rfl (lv_at hl 0 rfl) ?_
  refine lv_iload_n hx hb dX6_count_1 rfl (lv_at hl 1 rfl) ?_
  refine lv_iconst (v := 0) hx hb dX6_count_2 (by decide) ?_
  refine lv_bipush (v := 10) hx hb dX6_count_3 (by decide) ?_
  refine k_ci (wr := [(m0, .inr (6, [.int (nI (th)), .ref ms, .ref mv, .int (nI (sm)), .ref mt, .int (nI (ln)), .ref mh, .ref mb, .ref mg, .ref mq, .ref ml, .ref mf, .int nw, .int fw, .int (nI (tp)), .int (bI (wr)), .long dg])), (ms, .inl (G.2.1, 88, .inl s0)), (mv, .inl (G.2.1, 528, .inl sv)), (mt, .inl (G.2.1, 60, .inl tx)), (mh, .inl (G.2.1, 21, .inl ht)), (mb, .inl (G.2.1, 21, .inl bu)), (mg, .inl (G.2.1, 21, .inl hg)), (mq, .inl (G.2.1, 21, .inl pq)), (ml, .inl (G.2.1, 21, .inl ld)), (mf, .inl (G.2.1, 20, .inl fo))]) [0, 1, 2, 3, 4, 5, 6, 7, 8, 9] rfl (by decide) [] rfl (by decide) hP hD hS hA (k_S (n := 3) (As := [.int (nI (w)), .int 0, .int 10]) (rest := [.ref m0]) (wc := []) hx hb hml hown hts hK hP hD hl (c_X6_in l G (nI (w)) 0 10 H.size) [] rfl (by decide) gX6_count_X6_in rfl rfl rfl (by decide +kernel) rfl ⟨Nat.le_of_ble_eq_true rfl, Nat.le_of_ble_eq_true rfl⟩ rfl (Nat.le_of_ble_eq_true rfl) dX6_count_5 ⟨Nat.le_of_ble_eq_true rfl, Nat.le_of_ble_eq_true rfl⟩) (fun r_5 u H locs hw hP hD hS => ?_)
  have hw_5 : r_5 = bI (decide (0 ≤ (nI (w)) ∧ (nI (w)) ≤ 10)) := hw
  have hP : va_P G.1 vwCl [(m0, .inr (6, [.int (nI (th)), .ref ms, .ref mv, .int (nI (sm)), .ref mt, .int (nI (ln)), .ref mh, .ref mb, .ref mg, .ref mq, .ref ml, .ref mf, .int nw, .int fw, .int (nI (tp)), .int (bI (wr)), .long dg])), (ms, .inl (G.2.1, 88, .inl s0)), (mv, .inl (G.2.1, 528, .inl sv)), (mt, .inl (G.2.1, 60, .inl tx)), (mh, .inl (G.2.1, 21, .inl ht)), (mb, .inl (G.2.1, 21, .inl bu)), (mg, .inl (G.2.1, 21, .inl hg)), (mq, .inl (G.2.1, 21, .inl pq)), (ml, .inl (G.2.1, 21, .inl ld)), (mf, .inl (G.2.1, 20, .inl fo))] H := hP
  have hD : va_D A [(m0, .inr (6, [.int (nI (th)), .ref ms, .ref mv, .int (nI (sm)), .ref mt, .int (nI (ln)), .ref mh, .ref mb, .ref mg, .ref mq, .ref ml, .ref mf, .int nw, .int fw, .int (nI (tp)), .int (bI (wr)), .long dg])), (ms, .inl (G.2.1, 88, .inl s0)), (mv, .inl (G.2.1, 528, .inl sv)), (mt, .inl (G.2.1, 60, .inl tx)), (mh, .inl (G.2.1, 21, .inl ht)), (mb, .inl (G.2.1, 21, .inl bu)), (mg, .inl (G.2.1, 21, .inl hg)), (mq, .inl (G.2.1, 21, .inl pq)), (ml, .inl (G.2.1, 21, .inl ld)), (mf, .inl (G.2.1, 20, .inl fo))] := hD
  subst hw_5
  refine g_ti (y := nI 1) (inK_t (m := 10) (by rw [isN_nI (by omega), decide_eq_true (by omega)])) ?_
  refine g_if_eq (a := 1) (tgt := 15) hx hb (by omega) dX6_count_8 (by decide) (fun c_8 => ?_) (fun c_8 => ?_)
  · exact absurd c_8 (by decide)
  · skip
    refine lv_iconst (v := 0) hx hb dX6_count_11 (by decide) ?_
    refine lv_goto (tgt := 16) hx hb dX6_count_12 (by decide) ?_
    refine k_ci (wr := []) [] rfl (by decide) [0, 1, 2, 3, 4, 5, 6, 7, 8, 9] rfl (by decide) hP hD hS hA (k_V (n := 1) (ci := 6) (As := [.int 0]) (rest := []) (wc := [(m0, .inr (6, [.int (nI (th)), .ref ms, .ref mv, .int (nI (sm)), .ref mt, .int (nI (ln)), .ref mh, .ref mb, .ref mg, .ref mq, .ref ml, .ref mf, .int nw, .int fw, .int (nI (tp)), .int (bI (wr)), .long dg])), (ms, .inl (G.2.1, 88, .inl s0)), (mv, .inl (G.2.1, 528, .inl sv)), (mt, .inl (G.2.1, 60, .inl tx)), (mh, .inl (G.2.1, 21, .inl ht)), (mb, .inl (G.2.1, 21, .inl bu)), (mg, .inl (G.2.1, 21, .inl hg)), (mq, .inl (G.2.1, 21, .inl pq)), (ml, .inl (G.2.1, 21, .inl ld)), (mf, .inl (G.2.1, 20, .inl fo))]) hx hb hml hown hts hK hP hD hl (c_X6_holds l G m0 ms mv mt mh mb mg mq ml mf th s0 sv sm tx ln ht bu hg pq ld fo nw fw tp wr dg 0 H.size (by first | assumption | omega)) [0, 1, 2, 3, 4, 5, 6, 7, 8, 9] rfl (by decide) gX6_count_X6_holds rfl rfl rfl (by decide +kernel) rfl ⟨Nat.le_of_ble_eq_true rfl, Nat.le_of_ble_eq_true rfl⟩ rfl rfl rfl (Nat.le_of_ble_eq_true rfl) dX6_count_16 ⟨Nat.le_of_ble_eq_true rfl, Nat.le_of_ble_eq_true rfl⟩) (fun r_16 u H locs hw hP hD hS => ?_)
    have hw_16 : r_16 = bI (decide (0 = 0)) := hw
    have hP : va_P G.1 vwCl [(m0, .inr (6, [.int (nI (0)), .ref ms, .ref mv, .int (nI (sm)), .ref mt, .int (nI (ln)), .ref mh, .ref mb, .ref mg, .ref mq, .ref ml, .ref mf, .int nw, .int fw, .int (nI (tp)), .int (bI (wr)), .long dg])), (ms, .inl (G.2.1, 88, .inl s0)), (mv, .inl (G.2.1, 528, .inl sv)), (mt, .inl (G.2.1, 60, .inl tx)), (mh, .inl (G.2.1, 21, .inl ht)), (mb, .inl (G.2.1, 21, .inl bu)), (mg, .inl (G.2.1, 21, .inl hg)), (mq, .inl (G.2.1, 21, .inl pq)), (ml, .inl (G.2.1, 21, .inl ld)), (mf, .inl (G.2.1, 20, .inl fo))] H := hP
    have hD : va_D A [(m0, .inr (6, [.int (nI (0)), .ref ms, .ref mv, .int (nI (sm)), .ref mt, .int (nI (ln)), .ref mh, .ref mb, .ref mg, .ref mq, .ref ml, .ref mf, .int nw, .int fw, .int (nI (tp)), .int (bI (wr)), .long dg])), (ms, .inl (G.2.1, 88, .inl s0)), (mv, .inl (G.2.1, 528, .inl sv)), (mt, .inl (G.2.1, 60, .inl tx)), (mh, .inl (G.2.1, 21, .inl ht)), (mb, .inl (G.2.1, 21, .inl bu)), (mg, .inl (G.2.1, 21, .inl hg)), (mq, .inl (G.2.1, 21, .inl pq)), (ml, .inl (G.2.1, 21, .inl ld)), (mf, .inl (G.2.1, 20, .inl fo))] := hD
    subst hw_16
    refine g_ti (y := nI 1) (by rw [decide_eq_true (show (0 : Nat) = 0 from rfl)]; rfl) ?_
    refine g_if_eq (a := 1) (tgt := 30) hx hb (by omega) dX6_count_19 (by decide) (fun c_19 => ?_) (fun c_19 => ?_)
    · exact absurd c_19 (by decide)
    · skip
      refine lv_aload_n hx hb dX6_count_22 rfl (lv_at hl 0 rfl) ?_
      refine lv_iload_n hx hb dX6_count_23 rfl (lv_at hl 1 rfl) ?_
      refine k_ci (wr := []) [] rfl (by decide) [0, 1, 2, 3, 4, 5, 6, 7, 8, 9] rfl (by decide) hP hD hS hA (k_V (n := 1) (ci := 6) (As := [.int (nI (w))]) (rest := []) (wc := [(m0, .inr (6, [.int (nI (0)), .ref ms, .ref mv, .int (nI (sm)), .ref mt, .int (nI (ln)), .ref mh, .ref mb, .ref mg, .ref mq, .ref ml, .ref mf, .int nw, .int fw, .int (nI (tp)), .int (bI (wr)), .long dg])), (ms, .inl (G.2.1, 88, .inl s0)), (mv, .inl (G.2.1, 528, .inl sv)), (mt, .inl (G.2.1, 60, .inl tx)), (mh, .inl (G.2.1, 21, .inl ht)), (mb, .inl (G.2.1, 21, .inl bu)), (mg, .inl (G.2.1, 21, .inl hg)), (mq, .inl (G.2.1, 21, .inl pq)), (ml, .inl (G.2.1, 21, .inl ld)), (mf, .inl (G.2.1, 20, .inl fo))]) hx hb hml hown hts hK hP hD hl (c_X6_counted l G m0 ms mv mt mh mb mg mq ml mf 0 s0 sv sm tx ln ht bu hg pq ld fo nw fw tp wr dg w n H.size (by first | assumption | omega) (by first | assumption | omega)) [0, 1, 2, 3, 4, 5, 6, 7, 8, 9] rfl (by decide) gX6_count_X6_counted rfl rfl rfl (by decide +kernel) rfl ⟨Nat.le_of_ble_eq_true rfl, Nat.le_of_ble_eq_true rfl⟩ rfl rfl rfl (Nat.le_of_ble_eq_true rfl) dX6_count_24 ⟨Nat.le_of_ble_eq_true rfl, Nat.le_of_ble_eq_true rfl⟩) (fun r_24 u H locs hw hP hD hS => ?_)
      obtain ⟨ht2_24, bu2_24, hg2_24, pq2_24, ld2_24, fo2_24, nw2_24, fw2_24⟩ := u
      have hw_24 : r_24 = tCt n (mST s0) (mWE s0) (mHA s0) (mPR s0) (mSE s0) sm w := hw
      have hP : va_P G.1 vwCl [(m0, .inr (6, [.int (nI (0)), .ref ms, .ref mv, .int (nI (sm)), .ref mt, .int (nI (ln)), .ref mh, .ref mb, .ref mg, .ref mq, .ref ml, .ref mf, .int nw2_24, .int fw2_24, .int (nI (tp)), .int (bI (wr)), .long dg])), (ms, .inl (G.2.1, 88, .inl s0)), (mv, .inl (G.2.1, 528, .inl sv)), (mt, .inl (G.2.1, 60, .inl tx)), (mh, .inl (G.2.1, 21, .inl ht2_24)), (mb, .inl (G.2.1, 21, .inl bu2_24)), (mg, .inl (G.2.1, 21, .inl hg2_24)), (mq, .inl (G.2.1, 21, .inl pq2_24)), (ml, .inl (G.2.1, 21, .inl ld2_24)), (mf, .inl (G.2.1, 20, .inl fo2_24))] H := hP
      have hD : va_D A [(m0, .inr (6, [.int (nI (0)), .ref ms, .ref mv, .int (nI (sm)), .ref mt, .int (nI (ln)), .ref mh, .ref mb, .ref mg, .ref mq, .ref ml, .ref mf, .int nw2_24, .int fw2_24, .int (nI (tp)), .int (bI (wr)), .long dg])), (ms, .inl (G.2.1, 88, .inl s0)), (mv, .inl (G.2.1, 528, .inl sv)), (mt, .inl (G.2.1, 60, .inl tx)), (mh, .inl (G.2.1, 21, .inl ht2_24)), (mb, .inl (G.2.1, 21, .inl bu2_24)), (mg, .inl (G.2.1, 21, .inl hg2_24)), (mq, .inl (G.2.1, 21, .inl pq2_24)), (ml, .inl (G.2.1, 21, .inl ld2_24)), (mf, .inl (G.2.1, 20, .inl fo2_24))] := hD
      subst hw_24
      refine lv_goto (tgt := 31) hx hb dX6_count_27 (by decide) ?_
      rw [hQ]
      exact k_iret (v := tCt n (mST s0) (mWE s0) (mHA s0) (mPR s0) (mSE s0) sm w) (ht2_24, bu2_24, hg2_24, pq2_24, ld2_24, fo2_24, nw2_24, fw2_24) [0, 1, 2, 3, 4, 5, 6, 7, 8, 9] hx hb hr hlocks (rfl) hK hP hD hS rfl (by decide) dX6_count_31
set_option maxHeartbeats 4000000 in
set_option maxRecDepth 100000 in
theorem c_X6_greatestWith (l : Launch) (G : kG) (m0 : Nat) (ms : Nat) (mv : Nat) (mt : Nat) (mh : Nat) (mb : Nat) (mg : Nat) (mq : Nat) (ml : Nat) (mf : Nat) (th : Nat) (s0 : Fn) (sv : Fn) (sm : Nat) (tx : Fn) (ln : Nat) (ht : Fn) (bu : Fn) (hg : Fn) (pq : Fn) (ld : Fn) (fo : Fn) (nw : Int32) (fw : Int32) (tp : Nat) (wr : Bool) (dg : Int64) (a : Nat) (v : Int32) (n : Nat) (sz : Nat) (hok : mOK (upd s0 a v) n) (ha : a < 88) : kMet l yX6_greatestWith wsX6_greatestWith ({ frames := 3, cells := 0, slots := 0, locals := 68 } : Room) G [.ref m0, .int (nI (a)), .int v] [(m0, .inr (6, [.int (nI (th)), .ref ms, .ref mv, .int (nI (sm)), .ref mt, .int (nI (ln)), .ref mh, .ref mb, .ref mg, .ref mq, .ref ml, .ref mf, .int nw, .int fw, .int (nI (tp)), .int (bI (wr)), .long dg])), (ms, .inl (G.2.1, 88, .inl s0)), (mv, .inl (G.2.1, 528, .inl sv)), (mt, .inl (G.2.1, 60, .inl tx)), (mh, .inl (G.2.1, 21, .inl ht)), (mb, .inl (G.2.1, 21, .inl bu)), (mg, .inl (G.2.1, 21, .inl hg)), (mq, .inl (G.2.1, 21, .inl pq)), (ml, .inl (G.2.1, 21, .inl ld)), (mf, .inl (G.2.1, 20, .inl fo))] sz (kQi G (fun (r : Int32) (u : Fn × Fn × Fn × Fn × Fn × Fn × Int32 × Int32) => r = cGR n (mST (upd s0 a v)) (mWE (upd s0 a v)) (mHA (upd s0 a v)) (mPR (upd s0 a v)) (mSE (upd s0 a v))) (fun (u : Fn × Fn × Fn × Fn × Fn × Fn × Int32 × Int32) => [(m0, .inr (6, [.int (nI (th)), .ref ms, .ref mv, .int (nI (sm)), .ref mt, .int (nI (ln)), .ref mh, .ref mb, .ref mg, .ref mq, .ref ml, .ref mf, .int u.2.2.2.2.2.2.1, .int u.2.2.2.2.2.2.2, .int (nI (tp)), .int (bI (wr)), .long dg])), (ms, .inl (G.2.1, 88, .inl s0)), (mv, .inl (G.2.1, 528, .inl sv)), (mt, .inl (G.2.1, 60, .inl tx)), (mh, .inl (G.2.1, 21, .inl u.1)), (mb, .inl (G.2.1, 21, .inl u.2.1)), (mg, .inl (G.2.1, 21, .inl u.2.2.1)), (mq, .inl (G.2.1, 21, .inl u.2.2.2.1)), (ml, .inl (G.2.1, 21, .inl u.2.2.2.2.1)), (mf, .inl (G.2.1, 20, .inl u.2.2.2.2.2.1))])) 0 0 := by
  refine k_entry (cc := cX6_greatestWith) (maxL := 5) (ret := (some .int)) (by decide) rfl (Nat.le_of_ble_eq_true rfl) ?_
  intro p e s m args below meth c A ls H locs Q hQ hx hb hml hr hts hown hlocks hin hA hP hK hD hS hl
  have hown : s.vm.findClass RX6 = some m.cls := hown
  have hl : lv_has ls 5 [(0, .ref m0), (1, .int (nI (a))), (2, .int v)] := hl
  have hf7 := hts (.fieldLink RX6 7 "HangingChainModel" "s" "[I") (by decide +kernel)
  have hinX6 : ∀ w ∈ wsX60, w ∈ wsX6_greatestWith := by decide +kernel
  refine lv_aload_n hx hb dX6_greatestWith_0 rfl (lv_at hl 0 rfl) ?_
  refine va_get (D := G.1) (ci := 6) (v := .ref ms) (C := RX6) (T := TX6) (N := 17) hx hb hts hinX6 hown hK hP 0 rfl rfl 1 (by decide) hf7 (fun _ h9 => h9) rfl dX6_greatestWith_1 ?_
  refine lv_iload_n hx hb dX6_greatestWith_4 rfl (lv_at hl 1 rfl) ?_
  refine g_iald (k := a) hx hb hK hP 1 rfl (by omega) (by omega) dX6_greatestWith_5 ?_
  refine lv_istore_n (lv' := [(3, .int (s0 a)), (0, .ref m0), (1, .int (nI (a))), (2, .int v)]) hx hb dX6_greatestWith_6 rfl hl (by decide) rfl (fun ls hl => ?_)
  refine lv_aload_n hx hb dX6_greatestWith_7 rfl (lv_at hl 1 rfl) ?_
  refine va_get (D := G.1) (ci := 6) (v := .ref ms) (C := RX6) (T := TX6) (N := 17) hx hb hts hinX6 hown hK hP 0 rfl rfl 1 (by decide) hf7 (fun _ h9 => h9) rfl dX6_greatestWith_8 ?_
  refine lv_iload_n hx hb dX6_greatestWith_11 rfl (lv_at hl 2 rfl) ?_
  refine lv_iload_n hx hb dX6_greatestWith_12 rfl (lv_at hl 3 rfl) ?_
  refine g_iast (k := a) hx hb hK hP hD hS 1 rfl (by omega) (by omega) dX6_greatestWith_13 (fun H locs hP hD hS => ?_)
  have hP : va_P G.1 vwCl [(m0, .inr (6, [.int (nI (th)), .ref ms, .ref mv, .int (nI (sm)), .ref mt, .int (nI (ln)), .ref mh, .ref mb, .ref mg, .ref mq, .ref ml, .ref mf, .int nw, .int fw, .int (nI (tp)), .int (bI (wr)), .long dg])), (ms, .inl (G.2.1, 88, .inl (upd s0 a v))), (mv, .inl (G.2.1, 528, .inl sv)), (mt, .inl (G.2.1, 60, .inl tx)), (mh, .inl (G.2.1, 21, .inl ht)), (mb, .inl (G.2.1, 21, .inl bu)), (mg, .inl (G.2.1, 21, .inl hg)), (mq, .inl (G.2.1, 21, .inl pq)), (ml, .inl (G.2.1, 21, .inl ld)), (mf, .inl (G.2.1, 20, .inl fo))] H := hP
  have hD : va_D A [(m0, .inr (6, [.int (nI (th)), .ref ms, .ref mv, .int (nI (sm)), .ref mt, .int (nI (ln)), .ref mh, .ref mb, .ref mg, .ref mq, .ref ml, .ref mf, .int nw, .int fw, .int (nI (tp)), .int (bI (wr)), .long dg])), (ms, .inl (G.2.1, 88, .inl (upd s0 a v))), (mv, .inl (G.2.1, 528, .inl sv)), (mt, .inl (G.2.1, 60, .inl tx)), (mh, .inl (G.2.1, 21, .inl ht)), (mb, .inl (G.2.1, 21, .inl bu)), (mg, .inl (G.2.1, 21, .inl hg)), (mq, .inl (G.2.1, 21, .inl pq)), (ml, .inl (G.2.1, 21, .inl ld)), (mf, .inl (G.2.1, 20, .inl fo))] := hD
  refine lv_aload_n hx hb dX6_greatestWith_14 rfl (lv_at hl 1 rfl) ?_
  refine k_ci (wr := []) [] rfl (by decide) [0, 1, 2, 3, 4, 5, 6, 7, 8, 9] rfl (by decide) hP hD hS hA (k_V (n := 0) (ci := 6) (As := []) (rest := []) (wc := [(m0, .inr (6, [.int (nI (th)), .ref ms, .ref mv, .int (nI (sm)), .ref mt, .int (nI (ln)), .ref mh, .ref mb, .ref mg, .ref mq, .ref ml, .ref mf, .int nw, .int fw, .int (nI (tp)), .int (bI (wr)), .long dg])), (ms, .inl (G.2.1, 88, .inl (upd s0 a v))), (mv, .inl (G.2.1, 528, .inl sv)), (mt, .inl (G.2.1, 60, .inl tx)), (mh, .inl (G.2.1, 21, .inl ht)), (mb, .inl (G.2.1, 21, .inl bu)), (mg, .inl (G.2.1, 21, .inl hg)), (mq, .inl (G.2.1, 21, .inl pq)), (ml, .inl (G.2.1, 21, .inl ld)), (mf, .inl (G.2.1, 20, .inl fo))]) hx hb hml hown hts hK hP hD hl (c_X6_greatest l G m0 ms mv mt mh mb mg mq ml mf th (upd s0 a v) sv sm tx ln ht bu hg pq ld fo nw fw tp wr dg n H.size (by first | assumption | omega)) [0, 1, 2, 3, 4, 5, 6, 7, 8, 9] rfl (by decide) gX6_greatestWith_X6_greatest rfl rfl rfl (by decide +kernel) rfl ⟨Nat.le_of_ble_eq_true rfl, Nat.le_of_ble_eq_true rfl⟩ rfl rfl rfl (Nat.le_of_ble_eq_true rfl) dX6_greatestWith_15 ⟨Nat.le_of_ble_eq_true rfl, Nat.le_of_ble_eq_true rfl⟩) (fun r_15 u H locs hw hP hD hS => ?_)
  obtain ⟨ht2_15, bu2_15, hg2_15, pq2_15, ld2_15, fo2_15, nw2_15, fw2_15⟩ := u
  have hw_15 : r_15 = cGR n (mST (upd s0 a v)) (mWE (upd s0 a v)) (mHA (upd s0 a v)) (mPR (upd s0 a v)) (mSE (upd s0 a v)) ∧ okB n (mST (upd s0 a v)) (mWE (upd s0 a v)) (mHA (upd s0 a v)) (mPR (upd s0 a v)) (mSE (upd s0 a v)) ht2_15 bu2_15 hg2_15 pq2_15 ld2_15 fo2_15 ∧ nw2_15 = cAH n (mST (upd s0 a v)) (mWE (upd s0 a v)) (mHA (upd s0 a v)) (mPR (upd s0 a v)) (mSE (upd s0 a v)) ∧ fw2_15 = cBE n (mST (upd s0 a v)) (mWE (upd s0 a v)) (mHA (upd s0 a v)) (mPR (upd s0 a v)) (mSE (upd s0 a v)) := hw
  have hP : va_P G.1 vwCl [(m0, .inr (6, [.int (nI (th)), .ref ms, .ref mv, .int (nI (sm)), .ref mt, .int (nI (ln)), .ref mh, .ref mb, .ref mg, .ref mq, .ref ml, .ref mf, .int nw2_15, .int fw2_15, .int (nI (tp)), .int (bI (wr)), .long dg])), (ms, .inl (G.2.1, 88, .inl (upd s0 a v))), (mv, .inl (G.2.1, 528, .inl sv)), (mt, .inl (G.2.1, 60, .inl tx)), (mh, .inl (G.2.1, 21, .inl ht2_15)), (mb, .inl (G.2.1, 21, .inl bu2_15)), (mg, .inl (G.2.1, 21, .inl hg2_15)), (mq, .inl (G.2.1, 21, .inl pq2_15)), (ml, .inl (G.2.1, 21, .inl ld2_15)), (mf, .inl (G.2.1, 20, .inl fo2_15))] H := hP
  have hD : va_D A [(m0, .inr (6, [.int (nI (th)), .ref ms, .ref mv, .int (nI (sm)), .ref mt, .int (nI (ln)), .ref mh, .ref mb, .ref mg, .ref mq, .ref ml, .ref mf, .int nw2_15, .int fw2_15, .int (nI (tp)), .int (bI (wr)), .long dg])), (ms, .inl (G.2.1, 88, .inl (upd s0 a v))), (mv, .inl (G.2.1, 528, .inl sv)), (mt, .inl (G.2.1, 60, .inl tx)), (mh, .inl (G.2.1, 21, .inl ht2_15)), (mb, .inl (G.2.1, 21, .inl bu2_15)), (mg, .inl (G.2.1, 21, .inl hg2_15)), (mq, .inl (G.2.1, 21, .inl pq2_15)), (ml, .inl (G.2.1, 21, .inl ld2_15)), (mf, .inl (G.2.1, 20, .inl fo2_15))] := hD
  obtain ⟨rfl, hw_15⟩ := hw_15
  refine lv_istore (lv' := [(4, .int (cGR n (mST (upd s0 a v)) (mWE (upd s0 a v)) (mHA (upd s0 a v)) (mPR (upd s0 a v)) (mSE (upd s0 a v)))), (3, .int (s0 a)), (0, .ref m0), (1, .int (nI (a))), (2, .int v)]) hx hb dX6_greatestWith_18 hl (by decide) rfl (fun ls hl => ?_)
  refine lv_aload_n hx hb dX6_greatestWith_20 rfl (lv_at hl 2 rfl) ?_
  refine va_get (D := G.1) (ci := 6) (v := .ref ms) (C := RX6) (T := TX6) (N := 17) hx hb hts hinX6 hown hK hP 0 rfl rfl 1 (by decide) hf7 (fun _ h9 => h9) rfl dX6_greatestWith_21 ?_
  refine lv_iload_n hx hb dX6_greatestWith_24 rfl (lv_at hl 3 rfl) ?_
  refine lv_iload_n hx hb dX6_greatestWith_25 rfl (lv_at hl 1 rfl) ?_
  refine g_iast (k := a) hx hb hK hP hD hS 1 rfl (by omega) (by omega) dX6_greatestWith_26 (fun H locs hP hD hS => ?_)
  have hP : va_P G.1 vwCl [(m0, .inr (6, [.int (nI (th)), .ref ms, .ref mv, .int (nI (sm)), .ref mt, .int (nI (ln)), .ref mh, .ref mb, .ref mg, .ref mq, .ref ml, .ref mf, .int nw2_15, .int fw2_15, .int (nI (tp)), .int (bI (wr)), .long dg])), (ms, .inl (G.2.1, 88, .inl (upd (upd s0 a v) a (s0 a)))), (mv, .inl (G.2.1, 528, .inl sv)), (mt, .inl (G.2.1, 60, .inl tx)), (mh, .inl (G.2.1, 21, .inl ht2_15)), (mb, .inl (G.2.1, 21, .inl bu2_15)), (mg, .inl (G.2.1, 21, .inl hg2_15)), (mq, .inl (G.2.1, 21, .inl pq2_15)), (ml, .inl (G.2.1, 21, .inl ld2_15)), (mf, .inl (G.2.1, 20, .inl fo2_15))] H := hP
  have hD : va_D A [(m0, .inr (6, [.int (nI (th)), .ref ms, .ref mv, .int (nI (sm)), .ref mt, .int (nI (ln)), .ref mh, .ref mb, .ref mg, .ref mq, .ref ml, .ref mf, .int nw2_15, .int fw2_15, .int (nI (tp)), .int (bI (wr)), .long dg])), (ms, .inl (G.2.1, 88, .inl (upd (upd s0 a v) a (s0 a)))), (mv, .inl (G.2.1, 528, .inl sv)), (mt, .inl (G.2.1, 60, .inl tx)), (mh, .inl (G.2.1, 21, .inl ht2_15)), (mb, .inl (G.2.1, 21, .inl bu2_15)), (mg, .inl (G.2.1, 21, .inl hg2_15)), (mq, .inl (G.2.1, 21, .inl pq2_15)), (ml, .inl (G.2.1, 21, .inl ld2_15)), (mf, .inl (G.2.1, 20, .inl fo2_15))] := hD
  have hfn_1 : (upd (upd s0 a v) a (s0 a) : Nat → Int32) = s0 := upd_back _ _ _
  have hP : va_P G.1 vwCl [(m0, .inr (6, [.int (nI (th)), .ref ms, .ref mv, .int (nI (sm)), .ref mt, .int (nI (ln)), .ref mh, .ref mb, .ref mg, .ref mq, .ref ml, .ref mf, .int nw2_15, .int fw2_15, .int (nI (tp)), .int (bI (wr)), .long dg])), (ms, .inl (G.2.1, 88, .inl s0)), (mv, .inl (G.2.1, 528, .inl sv)), (mt, .inl (G.2.1, 60, .inl tx)), (mh, .inl (G.2.1, 21, .inl ht2_15)), (mb, .inl (G.2.1, 21, .inl bu2_15)), (mg, .inl (G.2.1, 21, .inl hg2_15)), (mq, .inl (G.2.1, 21, .inl pq2_15)), (ml, .inl (G.2.1, 21, .inl ld2_15)), (mf, .inl (G.2.1, 20, .inl fo2_15))] H := by rw [← hfn_1]; exact hP
  have hD : va_D A [(m0, .inr (6, [.int (nI (th)), .ref ms, .ref mv, .int (nI (sm)), .ref mt, .int (nI (ln)), .ref mh, .ref mb, .ref mg, .ref mq, .ref ml, .ref mf, .int nw2_15, .int fw2_15, .int (nI (tp)), .int (bI (wr)), .long dg])), (ms, .inl (G.2.1, 88, .inl s0)), (mv, .inl (G.2.1, 528, .inl sv)), (mt, .inl (G.2.1, 60, .inl tx)), (mh, .inl (G.2.1, 21, .inl ht2_15)), (mb, .inl (G.2.1, 21, .inl bu2_15)), (mg, .inl (G.2.1, 21, .inl hg2_15)), (mq, .inl (G.2.1, 21, .inl pq2_15)), (ml, .inl (G.2.1, 21, .inl ld2_15)), (mf, .inl (G.2.1, 20, .inl fo2_15))] := by rw [← hfn_1]; exact hD
  refine lv_iload hx hb dX6_greatestWith_27 (lv_at hl 0 rfl) ?_
  rw [hQ]
  exact k_iret (v := cGR n (mST (upd s0 a v)) (mWE (upd s0 a v)) (mHA (upd s0 a v)) (mPR (upd s0 a v)) (mSE (upd s0 a v))) (ht2_15, bu2_15, hg2_15, pq2_15, ld2_15, fo2_15, nw2_15, fw2_15) [0, 1, 2, 3, 4, 5, 6, 7, 8, 9] hx hb hr hlocks (rfl) hK hP hD hS rfl (by decide) dX6_greatestWith_29
set_option maxHeartbeats 4000000 in
set_option maxRecDepth 100000 in
theorem c_X6_ifWeight_1 (l : Launch) (G : kG) (m0 : Nat) (ms : Nat) (mv : Nat) (mt : Nat) (mh : Nat) (mb : Nat) (mg : Nat) (mq : Nat) (ml : Nat) (mf : Nat) (th : Nat) (s0 : Fn) (sv : Fn) (sm : Nat) (tx : Fn) (ln : Nat) (ht : Fn) (bu : Fn) (hg : Fn) (pq : Fn) (ld : Fn) (fo : Fn) (nw : Int32) (fw : Int32) (tp : Nat) (wr : Bool) (dg : Int64) (k : Int32) (v : Int32) (n : Nat) (sz : Nat) (hok : mOK s0 n) (h1 : isN k (n + 1) = false) : kMet l yX6_ifWeight wsX6_ifWeight ({ frames := 4, cells := 0, slots := 0, locals := 92 } : Room) G [.ref m0, .int k, .int v] [(m0, .inr (6, [.int (nI (th)), .ref ms, .ref mv, .int (nI (sm)), .ref mt, .int (nI (ln)), .ref mh, .ref mb, .ref mg, .ref mq, .ref ml, .ref mf, .int nw, .int fw, .int (nI (tp)), .int (bI (wr)), .long dg])), (ms, .inl (G.2.1, 88, .inl s0)), (mv, .inl (G.2.1, 528, .inl sv)), (mt, .inl (G.2.1, 60, .inl tx)), (mh, .inl (G.2.1, 21, .inl ht)), (mb, .inl (G.2.1, 21, .inl bu)), (mg, .inl (G.2.1, 21, .inl hg)), (mq, .inl (G.2.1, 21, .inl pq)), (ml, .inl (G.2.1, 21, .inl ld)), (mf, .inl (G.2.1, 20, .inl fo))] sz (kQi G (fun (r : Int32) (u : Unit) => r = 0) (fun (u : Unit) => [(m0, .inr (6, [.int (nI 1), .ref ms, .ref mv, .int (nI (sm)), .ref mt, .int (nI (ln)), .ref mh, .ref mb, .ref mg, .ref mq, .ref ml, .ref mf, .int nw, .int fw, .int (nI (tp)), .int (bI (wr)), .long dg])), (ms, .inl (G.2.1, 88, .inl s0)), (mv, .inl (G.2.1, 528, .inl sv)), (mt, .inl (G.2.1, 60, .inl tx)), (mh, .inl (G.2.1, 21, .inl ht)), (mb, .inl (G.2.1, 21, .inl bu)), (mg, .inl (G.2.1, 21, .inl hg)), (mq, .inl (G.2.1, 21, .inl pq)), (ml, .inl (G.2.1, 21, .inl ld)), (mf, .inl (G.2.1, 20, .inl fo))])) 0 0 := by
  refine k_entry (cc := cX6_ifWeight) (maxL := 3) (ret := (some .int)) (by decide) rfl (Nat.le_of_ble_eq_true rfl) ?_
  intro p e s m args below meth c A ls H locs Q hQ hx hb hml hr hts hown hlocks hin hA hP hK hD hS hl
  have hown : s.vm.findClass RX6 = some m.cls := hown
  have hl : lv_has ls 3 [(0, .ref m0), (1, .int k), (2, .int v)] := hl
  obtain ⟨hs0, hn1, hn, hv⟩ := id hok
  refine lv_aload_n hx hb dX6_ifWeight_0 rfl (lv_at hl 0 rfl) ?_
  refine lv_aload_n hx hb dX6_ifWeight_1 rfl (lv_at hl 0 rfl) ?_
  refine lv_iload_n hx hb dX6_ifWeight_2 rfl (lv_at hl 1 rfl) ?_
  refine k_ci (wr := []) [] rfl (by decide) [0, 1, 2, 3, 4, 5, 6, 7, 8, 9] rfl (by decide) hP hD hS hA (k_V (n := 1) (ci := 6) (As := [.int k]) (rest := [.ref m0]) (wc := [(m0, .inr (6, [.int (nI (th)), .ref ms, .ref mv, .int (nI (sm)), .ref mt, .int (nI (ln)), .ref mh, .ref mb, .ref mg, .ref mq, .ref ml, .ref mf, .int nw, .int fw, .int (nI (tp)), .int (bI (wr)), .long dg])), (ms, .inl (G.2.1, 88, .inl s0)), (mv, .inl (G.2.1, 528, .inl sv)), (mt, .inl (G.2.1, 60, .inl tx)), (mh, .inl (G.2.1, 21, .inl ht)), (mb, .inl (G.2.1, 21, .inl bu)), (mg, .inl (G.2.1, 21, .inl hg)), (mq, .inl (G.2.1, 21, .inl pq)), (ml, .inl (G.2.1, 21, .inl ld)), (mf, .inl (G.2.1, 20, .inl fo))]) hx hb hml hown hts hK hP hD hl (c_X6_isJoint l G m0 ms mv mt mh mb mg mq ml mf th s0 sv sm tx ln ht bu hg pq ld fo nw fw tp wr dg k n H.size (by first | assumption | omega)) [0, 1, 2, 3, 4, 5, 6, 7, 8, 9] rfl (by decide) gX6_ifWeight_X6_isJoint rfl rfl rfl (by decide +kernel) rfl ⟨Nat.le_of_ble_eq_true rfl, Nat.le_of_ble_eq_true rfl⟩ rfl rfl rfl (Nat.le_of_ble_eq_true rfl) dX6_ifWeight_3 ⟨Nat.le_of_ble_eq_true rfl, Nat.le_of_ble_eq_true rfl⟩) (fun r_3 u H locs hw hP hD hS => ?_)
  have hw_3 : r_3 = bI (isN k (n + 1)) := hw
  have hP : va_P G.1 vwCl [(m0, .inr (6, [.int (nI (th)), .ref ms, .ref mv, .int (nI (sm)), .ref mt, .int (nI (ln)), .ref mh, .ref mb, .ref mg, .ref mq, .ref ml, .ref mf, .int nw, .int fw, .int (nI (tp)), .int (bI (wr)), .long dg])), (ms, .inl (G.2.1, 88, .inl s0)), (mv, .inl (G.2.1, 528, .inl sv)), (mt, .inl (G.2.1, 60, .inl tx)), (mh, .inl (G.2.1, 21, .inl ht)), (mb, .inl (G.2.1, 21, .inl bu)), (mg, .inl (G.2.1, 21, .inl hg)), (mq, .inl (G.2.1, 21, .inl pq)), (ml, .inl (G.2.1, 21, .inl ld)), (mf, .inl (G.2.1, 20, .inl fo))] H := hP
  have hD : va_D A [(m0, .inr (6, [.int (nI (th)), .ref ms, .ref mv, .int (nI (sm)), .ref mt, .int (nI (ln)), .ref mh, .ref mb, .ref mg, .ref mq, .ref ml, .ref mf, .int nw, .int fw, .int (nI (tp)), .int (bI (wr)), .long dg])), (ms, .inl (G.2.1, 88, .inl s0)), (mv, .inl (G.2.1, 528, .inl sv)), (mt, .inl (G.2.1, 60, .inl tx)), (mh, .inl (G.2.1, 21, .inl ht)), (mb, .inl (G.2.1, 21, .inl bu)), (mg, .inl (G.2.1, 21, .inl hg)), (mq, .inl (G.2.1, 21, .inl pq)), (ml, .inl (G.2.1, 21, .inl ld)), (mf, .inl (G.2.1, 20, .inl fo))] := hD
  subst hw_3
  refine g_ti (y := nI 0) (by rw [h1]; rfl) ?_
  refine g_if_ne (a := 0) (tgt := 13) hx hb (by omega) dX6_ifWeight_6 (by decide) (fun c_6 => ?_) (fun c_6 => ?_)
  · exact absurd c_6 (by decide)
  · skip
    refine lv_iconst (v := 1) hx hb dX6_ifWeight_9 (by decide) ?_
    refine lv_goto (tgt := 28) hx hb dX6_ifWeight_10 (by decide) ?_
    refine k_ci (wr := []) [] rfl (by decide) [0, 1, 2, 3, 4, 5, 6, 7, 8, 9] rfl (by decide) hP hD hS hA (k_V (n := 1) (ci := 6) (As := [.int 1]) (rest := []) (wc := [(m0, .inr (6, [.int (nI (th)), .ref ms, .ref mv, .int (nI (sm)), .ref mt, .int (nI (ln)), .ref mh, .ref mb, .ref mg, .ref mq, .ref ml, .ref mf, .int nw, .int fw, .int (nI (tp)), .int (bI (wr)), .long dg])), (ms, .inl (G.2.1, 88, .inl s0)), (mv, .inl (G.2.1, 528, .inl sv)), (mt, .inl (G.2.1, 60, .inl tx)), (mh, .inl (G.2.1, 21, .inl ht)), (mb, .inl (G.2.1, 21, .inl bu)), (mg, .inl (G.2.1, 21, .inl hg)), (mq, .inl (G.2.1, 21, .inl pq)), (ml, .inl (G.2.1, 21, .inl ld)), (mf, .inl (G.2.1, 20, .inl fo))]) hx hb hml hown hts hK hP hD hl (c_X6_holds l G m0 ms mv mt mh mb mg mq ml mf th s0 sv sm tx ln ht bu hg pq ld fo nw fw tp wr dg 1 H.size (by first | assumption | omega)) [0, 1, 2, 3, 4, 5, 6, 7, 8, 9] rfl (by decide) gX6_ifWeight_X6_holds rfl rfl rfl (by decide +kernel) rfl ⟨Nat.le_of_ble_eq_true rfl, Nat.le_of_ble_eq_true rfl⟩ rfl rfl rfl (Nat.le_of_ble_eq_true rfl) dX6_ifWeight_28 ⟨Nat.le_of_ble_eq_true rfl, Nat.le_of_ble_eq_true rfl⟩) (fun r_28 u H locs hw hP hD hS => ?_)
    have hw_28 : r_28 = bI (decide (1 = 0)) := hw
    have hP : va_P G.1 vwCl [(m0, .inr (6, [.int (nI (1)), .ref ms, .ref mv, .int (nI (sm)), .ref mt, .int (nI (ln)), .ref mh, .ref mb, .ref mg, .ref mq, .ref ml, .ref mf, .int nw, .int fw, .int (nI (tp)), .int (bI (wr)), .long dg])), (ms, .inl (G.2.1, 88, .inl s0)), (mv, .inl (G.2.1, 528, .inl sv)), (mt, .inl (G.2.1, 60, .inl tx)), (mh, .inl (G.2.1, 21, .inl ht)), (mb, .inl (G.2.1, 21, .inl bu)), (mg, .inl (G.2.1, 21, .inl hg)), (mq, .inl (G.2.1, 21, .inl pq)), (ml, .inl (G.2.1, 21, .inl ld)), (mf, .inl (G.2.1, 20, .inl fo))] H := hP
    have hD : va_D A [(m0, .inr (6, [.int (nI (1)), .ref ms, .ref mv, .int (nI (sm)), .ref mt, .int (nI (ln)), .ref mh, .ref mb, .ref mg, .ref mq, .ref ml, .ref mf, .int nw, .int fw, .int (nI (tp)), .int (bI (wr)), .long dg])), (ms, .inl (G.2.1, 88, .inl s0)), (mv, .inl (G.2.1, 528, .inl sv)), (mt, .inl (G.2.1, 60, .inl tx)), (mh, .inl (G.2.1, 21, .inl ht)), (mb, .inl (G.2.1, 21, .inl bu)), (mg, .inl (G.2.1, 21, .inl hg)), (mq, .inl (G.2.1, 21, .inl pq)), (ml, .inl (G.2.1, 21, .inl ld)), (mf, .inl (G.2.1, 20, .inl fo))] := hD
    subst hw_28
    refine g_ti (y := nI 0) (by rw [decide_eq_false (by decide)]; rfl) ?_
    refine g_if_eq (a := 0) (tgt := 46) hx hb (by omega) dX6_ifWeight_31 (by decide) (fun c_31 => ?_) (fun c_31 => ?_)
    · skip
      refine lv_iconst (v := 0) hx hb dX6_ifWeight_46 (by decide) ?_
      rw [hQ]
      exact k_iret (v := 0) () [0, 1, 2, 3, 4, 5, 6, 7, 8, 9] hx hb hr hlocks (rfl) hK hP hD hS rfl (by decide) dX6_ifWeight_47
    · exact absurd c_31 (by decide)
set_option maxHeartbeats 4000000 in
set_option maxRecDepth 100000 in
theorem c_X6_ifWeight_2 (l : Launch) (G : kG) (m0 : Nat) (ms : Nat) (mv : Nat) (mt : Nat) (mh : Nat) (mb : Nat) (mg : Nat) (mq : Nat) (ml : Nat) (mf : Nat) (th : Nat) (s0 : Fn) (sv : Fn) (sm : Nat) (tx : Fn) (ln : Nat) (ht : Fn) (bu : Fn) (hg : Fn) (pq : Fn) (ld : Fn) (fo : Fn) (nw : Int32) (fw : Int32) (tp : Nat) (wr : Bool) (dg : Int64) (k : Int32) (v : Int32) (n : Nat) (sz : Nat) (hok : mOK s0 n) (h1 : isN k (n + 1) = true) (h2 : ¬ (0 ≤ v ∧ v ≤ 99)) : kMet l yX6_ifWeight wsX6_ifWeight ({ frames := 4, cells := 0, slots := 0, locals := 92 } : Room) G [.ref m0, .int k, .int v] [(m0, .inr (6, [.int (nI (th)), .ref ms, .ref mv, .int (nI (sm)), .ref mt, .int (nI (ln)), .ref mh, .ref mb, .ref mg, .ref mq, .ref ml, .ref mf, .int nw, .int fw, .int (nI (tp)), .int (bI (wr)), .long dg])), (ms, .inl (G.2.1, 88, .inl s0)), (mv, .inl (G.2.1, 528, .inl sv)), (mt, .inl (G.2.1, 60, .inl tx)), (mh, .inl (G.2.1, 21, .inl ht)), (mb, .inl (G.2.1, 21, .inl bu)), (mg, .inl (G.2.1, 21, .inl hg)), (mq, .inl (G.2.1, 21, .inl pq)), (ml, .inl (G.2.1, 21, .inl ld)), (mf, .inl (G.2.1, 20, .inl fo))] sz (kQi G (fun (r : Int32) (u : Unit) => r = 0) (fun (u : Unit) => [(m0, .inr (6, [.int (nI 2), .ref ms, .ref mv, .int (nI (sm)), .ref mt, .int (nI (ln)), .ref mh, .ref mb, .ref mg, .ref mq, .ref ml, .ref mf, .int nw, .int fw, .int (nI (tp)), .int (bI (wr)), .long dg])), (ms, .inl (G.2.1, 88, .inl s0)), (mv, .inl (G.2.1, 528, .inl sv)), (mt, .inl (G.2.1, 60, .inl tx)), (mh, .inl (G.2.1, 21, .inl ht)), (mb, .inl (G.2.1, 21, .inl bu)), (mg, .inl (G.2.1, 21, .inl hg)), (mq, .inl (G.2.1, 21, .inl pq)), (ml, .inl (G.2.1, 21, .inl ld)), (mf, .inl (G.2.1, 20, .inl fo))])) 0 0 := by
  refine k_entry (cc := cX6_ifWeight) (maxL := 3) (ret := (some .int)) (by decide) rfl (Nat.le_of_ble_eq_true rfl) ?_
  intro p e s m args below meth c A ls H locs Q hQ hx hb hml hr hts hown hlocks hin hA hP hK hD hS hl
  have hown : s.vm.findClass RX6 = some m.cls := hown
  have hl : lv_has ls 3 [(0, .ref m0), (1, .int k), (2, .int v)] := hl
  obtain ⟨hs0, hn1, hn, hv⟩ := id hok
  refine lv_aload_n hx hb dX6_ifWeight_0 rfl (lv_at hl 0 rfl) ?_
  refine lv_aload_n hx hb dX6_ifWeight_1 rfl (lv_at hl 0 rfl) ?_
  refine lv_iload_n hx hb dX6_ifWeight_2 rfl (lv_at hl 1 rfl) ?_
  refine k_ci (wr := []) [] rfl (by decide) [0, 1, 2, 3, 4, 5, 6, 7, 8, 9] rfl (by decide) hP hD hS hA (k_V (n := 1) (ci := 6) (As := [.int k]) (rest := [.ref m0]) (wc := [(m0, .inr (6, [.int (nI (th)), .ref ms, .ref mv, .int (nI (sm)), .ref mt, .int (nI (ln)), .ref mh, .ref mb, .ref mg, .ref mq, .ref ml, .ref mf, .int nw, .int fw, .int (nI (tp)), .int (bI (wr)), .long dg])), (ms, .inl (G.2.1, 88, .inl s0)), (mv, .inl (G.2.1, 528, .inl sv)), (mt, .inl (G.2.1, 60, .inl tx)), (mh, .inl (G.2.1, 21, .inl ht)), (mb, .inl (G.2.1, 21, .inl bu)), (mg, .inl (G.2.1, 21, .inl hg)), (mq, .inl (G.2.1, 21, .inl pq)), (ml, .inl (G.2.1, 21, .inl ld)), (mf, .inl (G.2.1, 20, .inl fo))]) hx hb hml hown hts hK hP hD hl (c_X6_isJoint l G m0 ms mv mt mh mb mg mq ml mf th s0 sv sm tx ln ht bu hg pq ld fo nw fw tp wr dg k n H.size (by first | assumption | omega)) [0, 1, 2, 3, 4, 5, 6, 7, 8, 9] rfl (by decide) gX6_ifWeight_X6_isJoint rfl rfl rfl (by decide +kernel) rfl ⟨Nat.le_of_ble_eq_true rfl, Nat.le_of_ble_eq_true rfl⟩ rfl rfl rfl (Nat.le_of_ble_eq_true rfl) dX6_ifWeight_3 ⟨Nat.le_of_ble_eq_true rfl, Nat.le_of_ble_eq_true rfl⟩) (fun r_3 u H locs hw hP hD hS => ?_)
  have hw_3 : r_3 = bI (isN k (n + 1)) := hw
  have hP : va_P G.1 vwCl [(m0, .inr (6, [.int (nI (th)), .ref ms, .ref mv, .int (nI (sm)), .ref mt, .int (nI (ln)), .ref mh, .ref mb, .ref mg, .ref mq, .ref ml, .ref mf, .int nw, .int fw, .int (nI (tp)), .int (bI (wr)), .long dg])), (ms, .inl (G.2.1, 88, .inl s0)), (mv, .inl (G.2.1, 528, .inl sv)), (mt, .inl (G.2.1, 60, .inl tx)), (mh, .inl (G.2.1, 21, .inl ht)), (mb, .inl (G.2.1, 21, .inl bu)), (mg, .inl (G.2.1, 21, .inl hg)), (mq, .inl (G.2.1, 21, .inl pq)), (ml, .inl (G.2.1, 21, .inl ld)), (mf, .inl (G.2.1, 20, .inl fo))] H := hP
  have hD : va_D A [(m0, .inr (6, [.int (nI (th)), .ref ms, .ref mv, .int (nI (sm)), .ref mt, .int (nI (ln)), .ref mh, .ref mb, .ref mg, .ref mq, .ref ml, .ref mf, .int nw, .int fw, .int (nI (tp)), .int (bI (wr)), .long dg])), (ms, .inl (G.2.1, 88, .inl s0)), (mv, .inl (G.2.1, 528, .inl sv)), (mt, .inl (G.2.1, 60, .inl tx)), (mh, .inl (G.2.1, 21, .inl ht)), (mb, .inl (G.2.1, 21, .inl bu)), (mg, .inl (G.2.1, 21, .inl hg)), (mq, .inl (G.2.1, 21, .inl pq)), (ml, .inl (G.2.1, 21, .inl ld)), (mf, .inl (G.2.1, 20, .inl fo))] := hD
  subst hw_3
  refine g_ti (y := nI 1) (by rw [h1]; rfl) ?_
  refine g_if_ne (a := 1) (tgt := 13) hx hb (by omega) dX6_ifWeight_6 (by decide) (fun c_6 => ?_) (fun c_6 => ?_)
  · skip
    refine lv_iload_n hx hb dX6_ifWeight_13 rfl (lv_at hl 2 rfl) ?_
    refine lv_iconst (v := 0) hx hb dX6_ifWeight_14 (by decide) ?_
    refine lv_bipush (v := 99) hx hb dX6_ifWeight_15 (by decide) ?_
    refine k_ci (wr := [(m0, .inr (6, [.int (nI (th)), .ref ms, .ref mv, .int (nI (sm)), .ref mt, .int (nI (ln)), .ref mh, .ref mb, .ref mg, .ref mq, .ref ml, .ref mf, .int nw, .int fw, .int (nI (tp)), .int (bI (wr)), .long dg])), (ms, .inl (G.2.1, 88, .inl s0)), (mv, .inl (G.2.1, 528, .inl sv)), (mt, .inl (G.2.1, 60, .inl tx)), (mh, .inl (G.2.1, 21, .inl ht)), (mb, .inl (G.2.1, 21, .inl bu)), (mg, .inl (G.2.1, 21, .inl hg)), (mq, .inl (G.2.1, 21, .inl pq)), (ml, .inl (G.2.1, 21, .inl ld)), (mf, .inl (G.2.1, 20, .inl fo))]) [0, 1, 2, 3, 4, 5, 6, 7, 8, 9] rfl (by decide) [] rfl (by decide) hP hD hS hA (k_S (n := 3) (As := [.int v, .int 0, .int 99]) (rest := [.ref m0]) (wc := []) hx hb hml hown hts hK hP hD hl (c_X6_in l G v 0 99 H.size) [] rfl (by decide) gX6_ifWeight_X6_in rfl rfl rfl (by decide +kernel) rfl ⟨Nat.le_of_ble_eq_true rfl, Nat.le_of_ble_eq_true rfl⟩ rfl (Nat.le_of_ble_eq_true rfl) dX6_ifWeight_17 ⟨Nat.le_of_ble_eq_true rfl, Nat.le_of_ble_eq_true rfl⟩) (fun r_17 u H locs hw hP hD hS => ?_)
    have hw_17 : r_17 = bI (decide (0 ≤ v ∧ v ≤ 99)) := hw
    have hP : va_P G.1 vwCl [(m0, .inr (6, [.int (nI (th)), .ref ms, .ref mv, .int (nI (sm)), .ref mt, .int (nI (ln)), .ref mh, .ref mb, .ref mg, .ref mq, .ref ml, .ref mf, .int nw, .int fw, .int (nI (tp)), .int (bI (wr)), .long dg])), (ms, .inl (G.2.1, 88, .inl s0)), (mv, .inl (G.2.1, 528, .inl sv)), (mt, .inl (G.2.1, 60, .inl tx)), (mh, .inl (G.2.1, 21, .inl ht)), (mb, .inl (G.2.1, 21, .inl bu)), (mg, .inl (G.2.1, 21, .inl hg)), (mq, .inl (G.2.1, 21, .inl pq)), (ml, .inl (G.2.1, 21, .inl ld)), (mf, .inl (G.2.1, 20, .inl fo))] H := hP
    have hD : va_D A [(m0, .inr (6, [.int (nI (th)), .ref ms, .ref mv, .int (nI (sm)), .ref mt, .int (nI (ln)), .ref mh, .ref mb, .ref mg, .ref mq, .ref ml, .ref mf, .int nw, .int fw, .int (nI (tp)), .int (bI (wr)), .long dg])), (ms, .inl (G.2.1, 88, .inl s0)), (mv, .inl (G.2.1, 528, .inl sv)), (mt, .inl (G.2.1, 60, .inl tx)), (mh, .inl (G.2.1, 21, .inl ht)), (mb, .inl (G.2.1, 21, .inl bu)), (mg, .inl (G.2.1, 21, .inl hg)), (mq, .inl (G.2.1, 21, .inl pq)), (ml, .inl (G.2.1, 21, .inl ld)), (mf, .inl (G.2.1, 20, .inl fo))] := hD
    subst hw_17
    refine g_ti (y := nI 0) (by rw [decide_eq_false h2]; rfl) ?_
    refine g_if_ne (a := 0) (tgt := 27) hx hb (by omega) dX6_ifWeight_20 (by decide) (fun c_20 => ?_) (fun c_20 => ?_)
    · exact absurd c_20 (by decide)
    · skip
      refine lv_iconst (v := 2) hx hb dX6_ifWeight_23 (by decide) ?_
      refine lv_goto (tgt := 28) hx hb dX6_ifWeight_24 (by decide) ?_
      refine k_ci (wr := []) [] rfl (by decide) [0, 1, 2, 3, 4, 5, 6, 7, 8, 9] rfl (by decide) hP hD hS hA (k_V (n := 1) (ci := 6) (As := [.int 2]) (rest := []) (wc := [(m0, .inr (6, [.int (nI (th)), .ref ms, .ref mv, .int (nI (sm)), .ref mt, .int (nI (ln)), .ref mh, .ref mb, .ref mg, .ref mq, .ref ml, .ref mf, .int nw, .int fw, .int (nI (tp)), .int (bI (wr)), .long dg])), (ms, .inl (G.2.1, 88, .inl s0)), (mv, .inl (G.2.1, 528, .inl sv)), (mt, .inl (G.2.1, 60, .inl tx)), (mh, .inl (G.2.1, 21, .inl ht)), (mb, .inl (G.2.1, 21, .inl bu)), (mg, .inl (G.2.1, 21, .inl hg)), (mq, .inl (G.2.1, 21, .inl pq)), (ml, .inl (G.2.1, 21, .inl ld)), (mf, .inl (G.2.1, 20, .inl fo))]) hx hb hml hown hts hK hP hD hl (c_X6_holds l G m0 ms mv mt mh mb mg mq ml mf th s0 sv sm tx ln ht bu hg pq ld fo nw fw tp wr dg 2 H.size (by first | assumption | omega)) [0, 1, 2, 3, 4, 5, 6, 7, 8, 9] rfl (by decide) gX6_ifWeight_X6_holds rfl rfl rfl (by decide +kernel) rfl ⟨Nat.le_of_ble_eq_true rfl, Nat.le_of_ble_eq_true rfl⟩ rfl rfl rfl (Nat.le_of_ble_eq_true rfl) dX6_ifWeight_28 ⟨Nat.le_of_ble_eq_true rfl, Nat.le_of_ble_eq_true rfl⟩) (fun r_28 u H locs hw hP hD hS => ?_)
      have hw_28 : r_28 = bI (decide (2 = 0)) := hw
      have hP : va_P G.1 vwCl [(m0, .inr (6, [.int (nI (2)), .ref ms, .ref mv, .int (nI (sm)), .ref mt, .int (nI (ln)), .ref mh, .ref mb, .ref mg, .ref mq, .ref ml, .ref mf, .int nw, .int fw, .int (nI (tp)), .int (bI (wr)), .long dg])), (ms, .inl (G.2.1, 88, .inl s0)), (mv, .inl (G.2.1, 528, .inl sv)), (mt, .inl (G.2.1, 60, .inl tx)), (mh, .inl (G.2.1, 21, .inl ht)), (mb, .inl (G.2.1, 21, .inl bu)), (mg, .inl (G.2.1, 21, .inl hg)), (mq, .inl (G.2.1, 21, .inl pq)), (ml, .inl (G.2.1, 21, .inl ld)), (mf, .inl (G.2.1, 20, .inl fo))] H := hP
      have hD : va_D A [(m0, .inr (6, [.int (nI (2)), .ref ms, .ref mv, .int (nI (sm)), .ref mt, .int (nI (ln)), .ref mh, .ref mb, .ref mg, .ref mq, .ref ml, .ref mf, .int nw, .int fw, .int (nI (tp)), .int (bI (wr)), .long dg])), (ms, .inl (G.2.1, 88, .inl s0)), (mv, .inl (G.2.1, 528, .inl sv)), (mt, .inl (G.2.1, 60, .inl tx)), (mh, .inl (G.2.1, 21, .inl ht)), (mb, .inl (G.2.1, 21, .inl bu)), (mg, .inl (G.2.1, 21, .inl hg)), (mq, .inl (G.2.1, 21, .inl pq)), (ml, .inl (G.2.1, 21, .inl ld)), (mf, .inl (G.2.1, 20, .inl fo))] := hD
      subst hw_28
      refine g_ti (y := nI 0) (by rw [decide_eq_false (by decide)]; rfl) ?_
      refine g_if_eq (a := 0) (tgt := 46) hx hb (by omega) dX6_ifWeight_31 (by decide) (fun c_31 => ?_) (fun c_31 => ?_)
      · skip
        refine lv_iconst (v := 0) hx hb dX6_ifWeight_46 (by decide) ?_
        rw [hQ]
        exact k_iret (v := 0) () [0, 1, 2, 3, 4, 5, 6, 7, 8, 9] hx hb hr hlocks (rfl) hK hP hD hS rfl (by decide) dX6_ifWeight_47
      · exact absurd c_31 (by decide)
  · exact absurd c_6 (by decide)
set_option maxHeartbeats 4000000 in
set_option maxRecDepth 100000 in
theorem c_X6_ifWeight_0 (l : Launch) (G : kG) (m0 : Nat) (ms : Nat) (mv : Nat) (mt : Nat) (mh : Nat) (mb : Nat) (mg : Nat) (mq : Nat) (ml : Nat) (mf : Nat) (th : Nat) (s0 : Fn) (sv : Fn) (sm : Nat) (tx : Fn) (ln : Nat) (ht : Fn) (bu : Fn) (hg : Fn) (pq : Fn) (ld : Fn) (fo : Fn) (nw : Int32) (fw : Int32) (tp : Nat) (wr : Bool) (dg : Int64) (j : Nat) (v : Int32) (n : Nat) (sz : Nat) (hok : mOK s0 n) (hj : j ≤ n) (h2 : 0 ≤ v ∧ v ≤ 99) : kMet l yX6_ifWeight wsX6_ifWeight ({ frames := 4, cells := 0, slots := 0, locals := 92 } : Room) G [.ref m0, .int (nI (j)), .int v] [(m0, .inr (6, [.int (nI (th)), .ref ms, .ref mv, .int (nI (sm)), .ref mt, .int (nI (ln)), .ref mh, .ref mb, .ref mg, .ref mq, .ref ml, .ref mf, .int nw, .int fw, .int (nI (tp)), .int (bI (wr)), .long dg])), (ms, .inl (G.2.1, 88, .inl s0)), (mv, .inl (G.2.1, 528, .inl sv)), (mt, .inl (G.2.1, 60, .inl tx)), (mh, .inl (G.2.1, 21, .inl ht)), (mb, .inl (G.2.1, 21, .inl bu)), (mg, .inl (G.2.1, 21, .inl hg)), (mq, .inl (G.2.1, 21, .inl pq)), (ml, .inl (G.2.1, 21, .inl ld)), (mf, .inl (G.2.1, 20, .inl fo))] sz (kQi G (fun (r : Int32) (u : Fn × Fn × Fn × Fn × Fn × Fn × Int32 × Int32) => r = gWe n (mST s0) (mWE s0) (mHA s0) (mPR s0) (mSE s0) j v) (fun (u : Fn × Fn × Fn × Fn × Fn × Fn × Int32 × Int32) => [(m0, .inr (6, [.int (nI 0), .ref ms, .ref mv, .int (nI (sm)), .ref mt, .int (nI (ln)), .ref mh, .ref mb, .ref mg, .ref mq, .ref ml, .ref mf, .int u.2.2.2.2.2.2.1, .int u.2.2.2.2.2.2.2, .int (nI (tp)), .int (bI (wr)), .long dg])), (ms, .inl (G.2.1, 88, .inl s0)), (mv, .inl (G.2.1, 528, .inl sv)), (mt, .inl (G.2.1, 60, .inl tx)), (mh, .inl (G.2.1, 21, .inl u.1)), (mb, .inl (G.2.1, 21, .inl u.2.1)), (mg, .inl (G.2.1, 21, .inl u.2.2.1)), (mq, .inl (G.2.1, 21, .inl u.2.2.2.1)), (ml, .inl (G.2.1, 21, .inl u.2.2.2.2.1)), (mf, .inl (G.2.1, 20, .inl u.2.2.2.2.2.1))])) 0 0 := by
  refine k_entry (cc := cX6_ifWeight) (maxL := 3) (ret := (some .int)) (by decide) rfl (Nat.le_of_ble_eq_true rfl) ?_
  intro p e s m args below meth c A ls H locs Q hQ hx hb hml hr hts hown hlocks hin hA hP hK hD hS hl
  have hown : s.vm.findClass RX6 = some m.cls := hown
  have hl : lv_has ls 3 [(0, .ref m0), (1, .int (nI (j))), (2, .int v)] := hl
  obtain ⟨hs0, hn1, hn, hv⟩ := id hok
  refine lv_aload_n hx hb dX6_ifWeight_0 rfl (lv_at hl 0 rfl) ?_
  refine lv_aload_n hx hb dX6_ifWeight_1 rfl (lv_at hl 0 rfl) ?_
  refine lv_iload_n hx hb dX6_ifWeight_2 rfl (lv_at hl 1 rfl) ?_
  refine k_ci (wr := []) [] rfl (by decide) [0, 1, 2, 3, 4, 5, 6, 7, 8, 9] rfl (by decide) hP hD hS hA (k_V (n := 1) (ci := 6) (As := [.int (nI (j))]) (rest := [.ref m0]) (wc := [(m0, .inr (6, [.int (nI (th)), .ref ms, .ref mv, .int (nI (sm)), .ref mt, .int (nI (ln)), .ref mh, .ref mb, .ref mg, .ref mq, .ref ml, .ref mf, .int nw, .int fw, .int (nI (tp)), .int (bI (wr)), .long dg])), (ms, .inl (G.2.1, 88, .inl s0)), (mv, .inl (G.2.1, 528, .inl sv)), (mt, .inl (G.2.1, 60, .inl tx)), (mh, .inl (G.2.1, 21, .inl ht)), (mb, .inl (G.2.1, 21, .inl bu)), (mg, .inl (G.2.1, 21, .inl hg)), (mq, .inl (G.2.1, 21, .inl pq)), (ml, .inl (G.2.1, 21, .inl ld)), (mf, .inl (G.2.1, 20, .inl fo))]) hx hb hml hown hts hK hP hD hl (c_X6_isJoint l G m0 ms mv mt mh mb mg mq ml mf th s0 sv sm tx ln ht bu hg pq ld fo nw fw tp wr dg (nI (j)) n H.size (by first | assumption | omega)) [0, 1, 2, 3, 4, 5, 6, 7, 8, 9] rfl (by decide) gX6_ifWeight_X6_isJoint rfl rfl rfl (by decide +kernel) rfl ⟨Nat.le_of_ble_eq_true rfl, Nat.le_of_ble_eq_true rfl⟩ rfl rfl rfl (Nat.le_of_ble_eq_true rfl) dX6_ifWeight_3 ⟨Nat.le_of_ble_eq_true rfl, Nat.le_of_ble_eq_true rfl⟩) (fun r_3 u H locs hw hP hD hS => ?_)
  have hw_3 : r_3 = bI (isN (nI (j)) (n + 1)) := hw
  have hP : va_P G.1 vwCl [(m0, .inr (6, [.int (nI (th)), .ref ms, .ref mv, .int (nI (sm)), .ref mt, .int (nI (ln)), .ref mh, .ref mb, .ref mg, .ref mq, .ref ml, .ref mf, .int nw, .int fw, .int (nI (tp)), .int (bI (wr)), .long dg])), (ms, .inl (G.2.1, 88, .inl s0)), (mv, .inl (G.2.1, 528, .inl sv)), (mt, .inl (G.2.1, 60, .inl tx)), (mh, .inl (G.2.1, 21, .inl ht)), (mb, .inl (G.2.1, 21, .inl bu)), (mg, .inl (G.2.1, 21, .inl hg)), (mq, .inl (G.2.1, 21, .inl pq)), (ml, .inl (G.2.1, 21, .inl ld)), (mf, .inl (G.2.1, 20, .inl fo))] H := hP
  have hD : va_D A [(m0, .inr (6, [.int (nI (th)), .ref ms, .ref mv, .int (nI (sm)), .ref mt, .int (nI (ln)), .ref mh, .ref mb, .ref mg, .ref mq, .ref ml, .ref mf, .int nw, .int fw, .int (nI (tp)), .int (bI (wr)), .long dg])), (ms, .inl (G.2.1, 88, .inl s0)), (mv, .inl (G.2.1, 528, .inl sv)), (mt, .inl (G.2.1, 60, .inl tx)), (mh, .inl (G.2.1, 21, .inl ht)), (mb, .inl (G.2.1, 21, .inl bu)), (mg, .inl (G.2.1, 21, .inl hg)), (mq, .inl (G.2.1, 21, .inl pq)), (ml, .inl (G.2.1, 21, .inl ld)), (mf, .inl (G.2.1, 20, .inl fo))] := hD
  subst hw_3
  refine g_ti (y := nI 1) (by rw [isN_nI (by omega), decide_eq_true (by omega)]; rfl) ?_
  refine g_if_ne (a := 1) (tgt := 13) hx hb (by omega) dX6_ifWeight_6 (by decide) (fun c_6 => ?_) (fun c_6 => ?_)
  · skip
    refine lv_iload_n hx hb dX6_ifWeight_13 rfl (lv_at hl 2 rfl) ?_
    refine lv_iconst (v := 0) hx hb dX6_ifWeight_14 (by decide) ?_
    refine lv_bipush (v := 99) hx hb dX6_ifWeight_15 (by decide) ?_
    refine k_ci (wr := [(m0, .inr (6, [.int (nI (th)), .ref ms, .ref mv, .int (nI (sm)), .ref mt, .int (nI (ln)), .ref mh, .ref mb, .ref mg, .ref mq, .ref ml, .ref mf, .int nw, .int fw, .int (nI (tp)), .int (bI (wr)), .long dg])), (ms, .inl (G.2.1, 88, .inl s0)), (mv, .inl (G.2.1, 528, .inl sv)), (mt, .inl (G.2.1, 60, .inl tx)), (mh, .inl (G.2.1, 21, .inl ht)), (mb, .inl (G.2.1, 21, .inl bu)), (mg, .inl (G.2.1, 21, .inl hg)), (mq, .inl (G.2.1, 21, .inl pq)), (ml, .inl (G.2.1, 21, .inl ld)), (mf, .inl (G.2.1, 20, .inl fo))]) [0, 1, 2, 3, 4, 5, 6, 7, 8, 9] rfl (by decide) [] rfl (by decide) hP hD hS hA (k_S (n := 3) (As := [.int v, .int 0, .int 99]) (rest := [.ref m0]) (wc := []) hx hb hml hown hts hK hP hD hl (c_X6_in l G v 0 99 H.size) [] rfl (by decide) gX6_ifWeight_X6_in rfl rfl rfl (by decide +kernel) rfl ⟨Nat.le_of_ble_eq_true rfl, Nat.le_of_ble_eq_true rfl⟩ rfl (Nat.le_of_ble_eq_true rfl) dX6_ifWeight_17 ⟨Nat.le_of_ble_eq_true rfl, Nat.le_of_ble_eq_true rfl⟩) (fun r_17 u H locs hw hP hD hS => ?_)
    have hw_17 : r_17 = bI (decide (0 ≤ v ∧ v ≤ 99)) := hw
    have hP : va_P G.1 vwCl [(m0, .inr (6, [.int (nI (th)), .ref ms, .ref mv, .int (nI (sm)), .ref mt, .int (nI (ln)), .ref mh, .ref mb, .ref mg, .ref mq, .ref ml, .ref mf, .int nw, .int fw, .int (nI (tp)), .int (bI (wr)), .long dg])), (ms, .inl (G.2.1, 88, .inl s0)), (mv, .inl (G.2.1, 528, .inl sv)), (mt, .inl (G.2.1, 60, .inl tx)), (mh, .inl (G.2.1, 21, .inl ht)), (mb, .inl (G.2.1, 21, .inl bu)), (mg, .inl (G.2.1, 21, .inl hg)), (mq, .inl (G.2.1, 21, .inl pq)), (ml, .inl (G.2.1, 21, .inl ld)), (mf, .inl (G.2.1, 20, .inl fo))] H := hP
    have hD : va_D A [(m0, .inr (6, [.int (nI (th)), .ref ms, .ref mv, .int (nI (sm)), .ref mt, .int (nI (ln)), .ref mh, .ref mb, .ref mg, .ref mq, .ref ml, .ref mf, .int nw, .int fw, .int (nI (tp)), .int (bI (wr)), .long dg])), (ms, .inl (G.2.1, 88, .inl s0)), (mv, .inl (G.2.1, 528, .inl sv)), (mt, .inl (G.2.1, 60, .inl tx)), (mh, .inl (G.2.1, 21, .inl ht)), (mb, .inl (G.2.1, 21, .inl bu)), (mg, .inl (G.2.1, 21, .inl hg)), (mq, .inl (G.2.1, 21, .inl pq)), (ml, .inl (G.2.1, 21, .inl ld)), (mf, .inl (G.2.1, 20, .inl fo))] := hD
    subst hw_17
    refine g_ti (y := nI 1) (by rw [decide_eq_true h2]; rfl) ?_
    refine g_if_ne (a := 1) (tgt := 27) hx hb (by omega) dX6_ifWeight_20 (by decide) (fun c_20 => ?_) (fun c_20 => ?_)
    · skip
      refine lv_iconst (v := 0) hx hb dX6_ifWeight_27 (by decide) ?_
      refine k_ci (wr := []) [] rfl (by decide) [0, 1, 2, 3, 4, 5, 6, 7, 8, 9] rfl (by decide) hP hD hS hA (k_V (n := 1) (ci := 6) (As := [.int 0]) (rest := []) (wc := [(m0, .inr (6, [.int (nI (th)), .ref ms, .ref mv, .int (nI (sm)), .ref mt, .int (nI (ln)), .ref mh, .ref mb, .ref mg, .ref mq, .ref ml, .ref mf, .int nw, .int fw, .int (nI (tp)), .int (bI (wr)), .long dg])), (ms, .inl (G.2.1, 88, .inl s0)), (mv, .inl (G.2.1, 528, .inl sv)), (mt, .inl (G.2.1, 60, .inl tx)), (mh, .inl (G.2.1, 21, .inl ht)), (mb, .inl (G.2.1, 21, .inl bu)), (mg, .inl (G.2.1, 21, .inl hg)), (mq, .inl (G.2.1, 21, .inl pq)), (ml, .inl (G.2.1, 21, .inl ld)), (mf, .inl (G.2.1, 20, .inl fo))]) hx hb hml hown hts hK hP hD hl (c_X6_holds l G m0 ms mv mt mh mb mg mq ml mf th s0 sv sm tx ln ht bu hg pq ld fo nw fw tp wr dg 0 H.size (by first | assumption | omega)) [0, 1, 2, 3, 4, 5, 6, 7, 8, 9] rfl (by decide) gX6_ifWeight_X6_holds rfl rfl rfl (by decide +kernel) rfl ⟨Nat.le_of_ble_eq_true rfl, Nat.le_of_ble_eq_true rfl⟩ rfl rfl rfl (Nat.le_of_ble_eq_true rfl) dX6_ifWeight_28 ⟨Nat.le_of_ble_eq_true rfl, Nat.le_of_ble_eq_true rfl⟩) (fun r_28 u H locs hw hP hD hS => ?_)
      have hw_28 : r_28 = bI (decide (0 = 0)) := hw
      have hP : va_P G.1 vwCl [(m0, .inr (6, [.int (nI (0)), .ref ms, .ref mv, .int (nI (sm)), .ref mt, .int (nI (ln)), .ref mh, .ref mb, .ref mg, .ref mq, .ref ml, .ref mf, .int nw, .int fw, .int (nI (tp)), .int (bI (wr)), .long dg])), (ms, .inl (G.2.1, 88, .inl s0)), (mv, .inl (G.2.1, 528, .inl sv)), (mt, .inl (G.2.1, 60, .inl tx)), (mh, .inl (G.2.1, 21, .inl ht)), (mb, .inl (G.2.1, 21, .inl bu)), (mg, .inl (G.2.1, 21, .inl hg)), (mq, .inl (G.2.1, 21, .inl pq)), (ml, .inl (G.2.1, 21, .inl ld)), (mf, .inl (G.2.1, 20, .inl fo))] H := hP
      have hD : va_D A [(m0, .inr (6, [.int (nI (0)), .ref ms, .ref mv, .int (nI (sm)), .ref mt, .int (nI (ln)), .ref mh, .ref mb, .ref mg, .ref mq, .ref ml, .ref mf, .int nw, .int fw, .int (nI (tp)), .int (bI (wr)), .long dg])), (ms, .inl (G.2.1, 88, .inl s0)), (mv, .inl (G.2.1, 528, .inl sv)), (mt, .inl (G.2.1, 60, .inl tx)), (mh, .inl (G.2.1, 21, .inl ht)), (mb, .inl (G.2.1, 21, .inl bu)), (mg, .inl (G.2.1, 21, .inl hg)), (mq, .inl (G.2.1, 21, .inl pq)), (ml, .inl (G.2.1, 21, .inl ld)), (mf, .inl (G.2.1, 20, .inl fo))] := hD
      subst hw_28
      refine g_ti (y := nI 1) (by rw [decide_eq_true (show (0 : Nat) = 0 from rfl)]; rfl) ?_
      refine g_if_eq (a := 1) (tgt := 46) hx hb (by omega) dX6_ifWeight_31 (by decide) (fun c_31 => ?_) (fun c_31 => ?_)
      · exact absurd c_31 (by decide)
      · skip
        refine lv_aload_n hx hb dX6_ifWeight_34 rfl (lv_at hl 0 rfl) ?_
        refine lv_bipush (v := 25) hx hb dX6_ifWeight_35 (by decide) ?_
        refine lv_iload_n hx hb dX6_ifWeight_37 rfl (lv_at hl 1 rfl) ?_
        refine lv_iadd hx hb dX6_ifWeight_38 ?_
        refine g_ti (y := nI (25 + j)) (nI_add (25) (j)) ?_
        refine lv_iload_n hx hb dX6_ifWeight_39 rfl (lv_at hl 2 rfl) ?_
        refine k_ci (wr := []) [] rfl (by decide) [0, 1, 2, 3, 4, 5, 6, 7, 8, 9] rfl (by decide) hP hD hS hA (k_V (n := 2) (ci := 6) (As := [.int (nI (25 + j)), .int v]) (rest := []) (wc := [(m0, .inr (6, [.int (nI (0)), .ref ms, .ref mv, .int (nI (sm)), .ref mt, .int (nI (ln)), .ref mh, .ref mb, .ref mg, .ref mq, .ref ml, .ref mf, .int nw, .int fw, .int (nI (tp)), .int (bI (wr)), .long dg])), (ms, .inl (G.2.1, 88, .inl s0)), (mv, .inl (G.2.1, 528, .inl sv)), (mt, .inl (G.2.1, 60, .inl tx)), (mh, .inl (G.2.1, 21, .inl ht)), (mb, .inl (G.2.1, 21, .inl bu)), (mg, .inl (G.2.1, 21, .inl hg)), (mq, .inl (G.2.1, 21, .inl pq)), (ml, .inl (G.2.1, 21, .inl ld)), (mf, .inl (G.2.1, 20, .inl fo))]) hx hb hml hown hts hK hP hD hl (c_X6_greatestWith l G m0 ms mv mt mh mb mg mq ml mf 0 s0 sv sm tx ln ht bu hg pq ld fo nw fw tp wr dg (25 + j) v n H.size (mOK_we hok hj h2) (by first | assumption | omega)) [0, 1, 2, 3, 4, 5, 6, 7, 8, 9] rfl (by decide) gX6_ifWeight_X6_greatestWith rfl rfl rfl (by decide +kernel) rfl ⟨Nat.le_of_ble_eq_true rfl, Nat.le_of_ble_eq_true rfl⟩ rfl rfl rfl (Nat.le_of_ble_eq_true rfl) dX6_ifWeight_40 ⟨Nat.le_of_ble_eq_true rfl, Nat.le_of_ble_eq_true rfl⟩) (fun r_40 u H locs hw hP hD hS => ?_)
        obtain ⟨ht2_40, bu2_40, hg2_40, pq2_40, ld2_40, fo2_40, nw2_40, fw2_40⟩ := u
        have hw_40 : r_40 = cGR n (mST (upd s0 (25 + j) v)) (mWE (upd s0 (25 + j) v)) (mHA (upd s0 (25 + j) v)) (mPR (upd s0 (25 + j) v)) (mSE (upd s0 (25 + j) v)) := hw
        have hP : va_P G.1 vwCl [(m0, .inr (6, [.int (nI (0)), .ref ms, .ref mv, .int (nI (sm)), .ref mt, .int (nI (ln)), .ref mh, .ref mb, .ref mg, .ref mq, .ref ml, .ref mf, .int nw2_40, .int fw2_40, .int (nI (tp)), .int (bI (wr)), .long dg])), (ms, .inl (G.2.1, 88, .inl s0)), (mv, .inl (G.2.1, 528, .inl sv)), (mt, .inl (G.2.1, 60, .inl tx)), (mh, .inl (G.2.1, 21, .inl ht2_40)), (mb, .inl (G.2.1, 21, .inl bu2_40)), (mg, .inl (G.2.1, 21, .inl hg2_40)), (mq, .inl (G.2.1, 21, .inl pq2_40)), (ml, .inl (G.2.1, 21, .inl ld2_40)), (mf, .inl (G.2.1, 20, .inl fo2_40))] H := hP
        have hD : va_D A [(m0, .inr (6, [.int (nI (0)), .ref ms, .ref mv, .int (nI (sm)), .ref mt, .int (nI (ln)), .ref mh, .ref mb, .ref mg, .ref mq, .ref ml, .ref mf, .int nw2_40, .int fw2_40, .int (nI (tp)), .int (bI (wr)), .long dg])), (ms, .inl (G.2.1, 88, .inl s0)), (mv, .inl (G.2.1, 528, .inl sv)), (mt, .inl (G.2.1, 60, .inl tx)), (mh, .inl (G.2.1, 21, .inl ht2_40)), (mb, .inl (G.2.1, 21, .inl bu2_40)), (mg, .inl (G.2.1, 21, .inl hg2_40)), (mq, .inl (G.2.1, 21, .inl pq2_40)), (ml, .inl (G.2.1, 21, .inl ld2_40)), (mf, .inl (G.2.1, 20, .inl fo2_40))] := hD
        subst hw_40
        refine g_ti (y := gWe n (mST s0) (mWE s0) (mHA s0) (mPR s0) (mSE s0) j v) (mGR_we hok hj) ?_
        refine lv_goto (tgt := 47) hx hb dX6_ifWeight_43 (by decide) ?_
        rw [hQ]
        exact k_iret (v := gWe n (mST s0) (mWE s0) (mHA s0) (mPR s0) (mSE s0) j v) (ht2_40, bu2_40, hg2_40, pq2_40, ld2_40, fo2_40, nw2_40, fw2_40) [0, 1, 2, 3, 4, 5, 6, 7, 8, 9] hx hb hr hlocks (rfl) hK hP hD hS rfl (by decide) dX6_ifWeight_47
    · exact absurd c_20 (by decide)
  · exact absurd c_6 (by decide)
set_option maxHeartbeats 4000000 in
set_option maxRecDepth 100000 in
theorem c_X6_heaviest (l : Launch) (G : kG) (m0 : Nat) (ms : Nat) (mv : Nat) (mt : Nat) (mh : Nat) (mb : Nat) (mg : Nat) (mq : Nat) (ml : Nat) (mf : Nat) (th : Nat) (s0 : Fn) (sv : Fn) (sm : Nat) (tx : Fn) (ln : Nat) (ht : Fn) (bu : Fn) (hg : Fn) (pq : Fn) (ld : Fn) (fo : Fn) (nw : Int32) (fw : Int32) (tp : Nat) (wr : Bool) (dg : Int64) (j : Nat) (n : Nat) (sz : Nat) (hok : mOK s0 n) (hj : j ≤ n) : kMet l yX6_heaviest wsX6_heaviest ({ frames := 4, cells := 0, slots := 0, locals := 92 } : Room) G [.ref m0, .int (nI (j))] [(m0, .inr (6, [.int (nI (th)), .ref ms, .ref mv, .int (nI (sm)), .ref mt, .int (nI (ln)), .ref mh, .ref mb, .ref mg, .ref mq, .ref ml, .ref mf, .int nw, .int fw, .int (nI (tp)), .int (bI (wr)), .long dg])), (ms, .inl (G.2.1, 88, .inl s0)), (mv, .inl (G.2.1, 528, .inl sv)), (mt, .inl (G.2.1, 60, .inl tx)), (mh, .inl (G.2.1, 21, .inl ht)), (mb, .inl (G.2.1, 21, .inl bu)), (mg, .inl (G.2.1, 21, .inl hg)), (mq, .inl (G.2.1, 21, .inl pq)), (ml, .inl (G.2.1, 21, .inl ld)), (mf, .inl (G.2.1, 20, .inl fo))] sz (kQi G (fun (r : Int32) (u : Fn × Fn × Fn × Fn × Fn × Fn × Int32 × Int32) => r = hvI (pWe n (mST s0) (mWE s0) (mHA s0) (mPR s0) (mSE s0) j) 100) (fun (u : Fn × Fn × Fn × Fn × Fn × Fn × Int32 × Int32) => [(m0, .inr (6, [.int (nI (th)), .ref ms, .ref mv, .int (nI (sm)), .ref mt, .int (nI (ln)), .ref mh, .ref mb, .ref mg, .ref mq, .ref ml, .ref mf, .int u.2.2.2.2.2.2.1, .int u.2.2.2.2.2.2.2, .int (nI (tp)), .int (bI (wr)), .long dg])), (ms, .inl (G.2.1, 88, .inl s0)), (mv, .inl (G.2.1, 528, .inl sv)), (mt, .inl (G.2.1, 60, .inl tx)), (mh, .inl (G.2.1, 21, .inl u.1)), (mb, .inl (G.2.1, 21, .inl u.2.1)), (mg, .inl (G.2.1, 21, .inl u.2.2.1)), (mq, .inl (G.2.1, 21, .inl u.2.2.2.1)), (ml, .inl (G.2.1, 21, .inl u.2.2.2.2.1)), (mf, .inl (G.2.1, 20, .inl u.2.2.2.2.2.1))])) 0 0 := by
  refine k_entry (cc := cX6_heaviest) (maxL := 3) (ret := (some .int)) (by decide) rfl (Nat.le_of_ble_eq_true rfl) ?_
  intro p e s m args below meth c A ls H locs Q hQ hx hb hml hr hts hown hlocks hin hA hP hK hD hS hl
  have hown : s.vm.findClass RX6 = some m.cls := hown
  have hl : lv_has ls 3 [(0, .ref m0), (1, .int (nI (j)))] := hl
  have hf7 := hts (.fieldLink RX6 7 "HangingChainModel" "s" "[I") (by decide +kernel)
  have hinX6 : ∀ w ∈ wsX60, w ∈ wsX6_heaviest := by decide +kernel
  obtain ⟨hs0, hn1, hn, hv⟩ := id hok
  refine lv_bipush (v := 99) hx hb dX6_heaviest_0 (by decide) ?_
  refine lv_istore_n (lv' := [(2, .int 99), (0, .ref m0), (1, .int (nI (j)))]) hx hb dX6_heaviest_2 rfl hl (by decide) rfl (fun ls hl => ?_)
  have L3 : ∀ (n9 : Nat) (i : Nat) (ht3 : Fn) (bu3 : Fn) (hg3 : Fn) (pq3 : Fn) (ld3 : Fn) (fo3 : Fn) (nw3 : Int32) (fw3 : Int32), (i ≤ 100) → (hvI (pWe n (mST s0) (mWE s0) (mHA s0) (mPR s0) (mSE s0) j) 100 = hvI (pWe n (mST s0) (mWE s0) (mHA s0) (mPR s0) (mSE s0) j) i) → (i < n9) → ∀ (H : Heap) (locs : List Loc) (ls : Array Slot), va_P G.1 vwCl [(m0, .inr (6, [.int (nI (th)), .ref ms, .ref mv, .int (nI (sm)), .ref mt, .int (nI (ln)), .ref mh, .ref mb, .ref mg, .ref mq, .ref ml, .ref mf, .int nw3, .int fw3, .int (nI (tp)), .int (bI (wr)), .long dg])), (ms, .inl (G.2.1, 88, .inl s0)), (mv, .inl (G.2.1, 528, .inl sv)), (mt, .inl (G.2.1, 60, .inl tx)), (mh, .inl (G.2.1, 21, .inl ht3)), (mb, .inl (G.2.1, 21, .inl bu3)), (mg, .inl (G.2.1, 21, .inl hg3)), (mq, .inl (G.2.1, 21, .inl pq3)), (ml, .inl (G.2.1, 21, .inl ld3)), (mf, .inl (G.2.1, 20, .inl fo3))] H → va_D A [(m0, .inr (6, [.int (nI (th)), .ref ms, .ref mv, .int (nI (sm)), .ref mt, .int (nI (ln)), .ref mh, .ref mb, .ref mg, .ref mq, .ref ml, .ref mf, .int nw3, .int fw3, .int (nI (tp)), .int (bI (wr)), .long dg])), (ms, .inl (G.2.1, 88, .inl s0)), (mv, .inl (G.2.1, 528, .inl sv)), (mt, .inl (G.2.1, 60, .inl tx)), (mh, .inl (G.2.1, 21, .inl ht3)), (mb, .inl (G.2.1, 21, .inl bu3)), (mg, .inl (G.2.1, 21, .inl hg3)), (mq, .inl (G.2.1, 21, .inl pq3)), (ml, .inl (G.2.1, 21, .inl ld3)), (mf, .inl (G.2.1, 20, .inl fo3))] → va_S A s.heap H locs → lv_has ls 3 [(2, .int (wI i)), (0, .ref m0), (1, .int (nI (j)))] → W p l e ({ frames := 4, cells := 0, slots := 0, locals := 92 } : Room) s m args below meth c H locs 0 0 Q (F0 m 3 ls []) := by
    intro n9
    induction n9 with
    | zero =>
      intro i ht3 bu3 hg3 pq3 ld3 fo3 nw3 fw3 hi hI hm9 H locs ls hP hD hS hl
      exact absurd hm9 (Nat.not_lt_zero _)
    | succ n9 ih3 =>
      intro i ht3 bu3 hg3 pq3 ld3 fo3 nw3 fw3 hi hI hm9 H locs ls hP hD hS hl
      rcases i with _ | i
      · skip
        refine lv_iload_n hx hb dX6_heaviest_3 rfl (lv_at hl 0 rfl) ?_
        refine lv_if_lt (tgt := 33) hx hb dX6_heaviest_4 (by decide) (fun c_4 => ?_) (fun c_4 => ?_)
        · skip
          refine lv_iconst (v := (-1)) hx hb dX6_heaviest_33 (by decide) ?_
          rw [hQ]
          exact k_iret (v := (-1)) (ht3, bu3, hg3, pq3, ld3, fo3, nw3, fw3) [0, 1, 2, 3, 4, 5, 6, 7, 8, 9] hx hb hr hlocks (hI.symm) hK hP hD hS rfl (by decide) dX6_heaviest_34
        · exact absurd (show wI 0 < 0 by decide) c_4
      · skip
        have hl : lv_has ls 3 [(2, .int (nI i)), (0, .ref m0), (1, .int (nI (j)))] := by rw [← wI_S i]; exact hl
        have h99 := r99_nI (show i ≤ 99 by omega)
        refine lv_iload_n hx hb dX6_heaviest_3 rfl (lv_at hl 0 rfl) ?_
        refine g_if_lt (a := i) (tgt := 33) hx hb (by omega) dX6_heaviest_4 (by decide) ?_
        refine lv_aload_n hx hb dX6_heaviest_7 rfl (lv_at hl 1 rfl) ?_
        refine lv_bipush (v := 25) hx hb dX6_heaviest_8 (by decide) ?_
        refine lv_iload_n hx hb dX6_heaviest_10 rfl (lv_at hl 2 rfl) ?_
        refine lv_iadd hx hb dX6_heaviest_11 ?_
        refine g_ti (y := nI (25 + j)) (nI_add (25) (j)) ?_
        refine lv_iload_n hx hb dX6_heaviest_12 rfl (lv_at hl 0 rfl) ?_
        refine k_ci (wr := []) [] rfl (by decide) [0, 1, 2, 3, 4, 5, 6, 7, 8, 9] rfl (by decide) hP hD hS hA (k_V (n := 2) (ci := 6) (As := [.int (nI (25 + j)), .int (nI i)]) (rest := []) (wc := [(m0, .inr (6, [.int (nI (th)), .ref ms, .ref mv, .int (nI (sm)), .ref mt, .int (nI (ln)), .ref mh, .ref mb, .ref mg, .ref mq, .ref ml, .ref mf, .int nw3, .int fw3, .int (nI (tp)), .int (bI (wr)), .long dg])), (ms, .inl (G.2.1, 88, .inl s0)), (mv, .inl (G.2.1, 528, .inl sv)), (mt, .inl (G.2.1, 60, .inl tx)), (mh, .inl (G.2.1, 21, .inl ht3)), (mb, .inl (G.2.1, 21, .inl bu3)), (mg, .inl (G.2.1, 21, .inl hg3)), (mq, .inl (G.2.1, 21, .inl pq3)), (ml, .inl (G.2.1, 21, .inl ld3)), (mf, .inl (G.2.1, 20, .inl fo3))]) hx hb hml hown hts hK hP hD hl (c_X6_greatestWith l G m0 ms mv mt mh mb mg mq ml mf th s0 sv sm tx ln ht3 bu3 hg3 pq3 ld3 fo3 nw3 fw3 tp wr dg (25 + j) (nI i) n H.size (mOK_we hok hj h99) (by first | assumption | omega)) [0, 1, 2, 3, 4, 5, 6, 7, 8, 9] rfl (by decide) gX6_heaviest_X6_greatestWith rfl rfl rfl (by decide +kernel) rfl ⟨Nat.le_of_ble_eq_true rfl, Nat.le_of_ble_eq_true rfl⟩ rfl rfl rfl (Nat.le_of_ble_eq_true rfl) dX6_heaviest_13 ⟨Nat.le_of_ble_eq_true rfl, Nat.le_of_ble_eq_true rfl⟩) (fun r_13 u H locs hw hP hD hS => ?_)
        obtain ⟨ht2_13, bu2_13, hg2_13, pq2_13, ld2_13, fo2_13, nw2_13, fw2_13⟩ := u
        have hw_13 : r_13 = cGR n (mST (upd s0 (25 + j) (nI i))) (mWE (upd s0 (25 + j) (nI i))) (mHA (upd s0 (25 + j) (nI i))) (mPR (upd s0 (25 + j) (nI i))) (mSE (upd s0 (25 + j) (nI i))) := hw
        have hP : va_P G.1 vwCl [(m0, .inr (6, [.int (nI (th)), .ref ms, .ref mv, .int (nI (sm)), .ref mt, .int (nI (ln)), .ref mh, .ref mb, .ref mg, .ref mq, .ref ml, .ref mf, .int nw2_13, .int fw2_13, .int (nI (tp)), .int (bI (wr)), .long dg])), (ms, .inl (G.2.1, 88, .inl s0)), (mv, .inl (G.2.1, 528, .inl sv)), (mt, .inl (G.2.1, 60, .inl tx)), (mh, .inl (G.2.1, 21, .inl ht2_13)), (mb, .inl (G.2.1, 21, .inl bu2_13)), (mg, .inl (G.2.1, 21, .inl hg2_13)), (mq, .inl (G.2.1, 21, .inl pq2_13)), (ml, .inl (G.2.1, 21, .inl ld2_13)), (mf, .inl (G.2.1, 20, .inl fo2_13))] H := hP
        have hD : va_D A [(m0, .inr (6, [.int (nI (th)), .ref ms, .ref mv, .int (nI (sm)), .ref mt, .int (nI (ln)), .ref mh, .ref mb, .ref mg, .ref mq, .ref ml, .ref mf, .int nw2_13, .int fw2_13, .int (nI (tp)), .int (bI (wr)), .long dg])), (ms, .inl (G.2.1, 88, .inl s0)), (mv, .inl (G.2.1, 528, .inl sv)), (mt, .inl (G.2.1, 60, .inl tx)), (mh, .inl (G.2.1, 21, .inl ht2_13)), (mb, .inl (G.2.1, 21, .inl bu2_13)), (mg, .inl (G.2.1, 21, .inl hg2_13)), (mq, .inl (G.2.1, 21, .inl pq2_13)), (ml, .inl (G.2.1, 21, .inl ld2_13)), (mf, .inl (G.2.1, 20, .inl fo2_13))] := hD
        subst hw_13
        refine g_ti (y := gWe n (mST s0) (mWE s0) (mHA s0) (mPR s0) (mSE s0) j (nI i)) (mGR_we hok hj) ?_
        refine lv_aload_n hx hb dX6_heaviest_16 rfl (lv_at hl 1 rfl) ?_
        refine va_get (D := G.1) (ci := 6) (v := .ref ms) (C := RX6) (T := TX6) (N := 17) hx hb hts hinX6 hown hK hP 0 rfl rfl 1 (by decide) hf7 (fun _ h9 => h9) rfl dX6_heaviest_17 ?_
        refine lv_iconst (v := 4) hx hb dX6_heaviest_20 (by decide) ?_
        refine g_iald (k := 4) hx hb hK hP 1 rfl (by omega) (by omega) dX6_heaviest_21 ?_
        refine lv_icmp_gt (tgt := 27) hx hb dX6_heaviest_22 (by decide) (fun c_22 => ?_) (fun c_22 => ?_)
        · skip
          refine lv_iinc (v := (nI i) + (-1)) (lv' := [(2, .int ((nI i) + (-1))), (0, .ref m0), (1, .int (nI (j)))]) hx hb dX6_heaviest_27 hl (k := 0) rfl (rfl) (by decide) rfl (fun ls hl => ?_)
          refine lv_goto (tgt := 3) hx hb dX6_heaviest_30 (by decide) ?_
          exact ih3 i ht2_13 bu2_13 hg2_13 pq2_13 ld2_13 fo2_13 nw2_13 fw2_13 (by first | assumption | omega) (hI.trans (hvI_f (pWe_f c_22))) (by omega) _ _ _ hP hD hS (lv_sub hl [0, 1, 2] rfl)
        · skip
          refine lv_iload_n hx hb dX6_heaviest_25 rfl (lv_at hl 0 rfl) ?_
          rw [hQ]
          exact k_iret (v := nI i) (ht2_13, bu2_13, hg2_13, pq2_13, ld2_13, fo2_13, nw2_13, fw2_13) [0, 1, 2, 3, 4, 5, 6, 7, 8, 9] hx hb hr hlocks ((hI.trans (hvI_t (pWe_t c_22))).symm) hK hP hD hS rfl (by decide) dX6_heaviest_26
  exact L3 (100 + 1) 100 ht bu hg pq ld fo nw fw (by first | assumption | omega) (rfl) (Nat.lt_succ_self _) _ _ _ hP hD hS (lv_sub hl [0, 1, 2] rfl)
set_option maxHeartbeats 4000000 in
set_option maxRecDepth 100000 in
theorem c_X6_mostWeight_1 (l : Launch) (G : kG) (m0 : Nat) (ms : Nat) (mv : Nat) (mt : Nat) (mh : Nat) (mb : Nat) (mg : Nat) (mq : Nat) (ml : Nat) (mf : Nat) (th : Nat) (s0 : Fn) (sv : Fn) (sm : Nat) (tx : Fn) (ln : Nat) (ht : Fn) (bu : Fn) (hg : Fn) (pq : Fn) (ld : Fn) (fo : Fn) (nw : Int32) (fw : Int32) (tp : Nat) (wr : Bool) (dg : Int64) (k : Int32) (n : Nat) (sz : Nat) (hok : mOK s0 n) (h1 : isN k (n + 1) = false) : kMet l yX6_mostWeight wsX6_mostWeight ({ frames := 5, cells := 0, slots := 0, locals := 114 } : Room) G [.ref m0, .int k] [(m0, .inr (6, [.int (nI (th)), .ref ms, .ref mv, .int (nI (sm)), .ref mt, .int (nI (ln)), .ref mh, .ref mb, .ref mg, .ref mq, .ref ml, .ref mf, .int nw, .int fw, .int (nI (tp)), .int (bI (wr)), .long dg])), (ms, .inl (G.2.1, 88, .inl s0)), (mv, .inl (G.2.1, 528, .inl sv)), (mt, .inl (G.2.1, 60, .inl tx)), (mh, .inl (G.2.1, 21, .inl ht)), (mb, .inl (G.2.1, 21, .inl bu)), (mg, .inl (G.2.1, 21, .inl hg)), (mq, .inl (G.2.1, 21, .inl pq)), (ml, .inl (G.2.1, 21, .inl ld)), (mf, .inl (G.2.1, 20, .inl fo))] sz (kQi G (fun (r : Int32) (u : Unit) => r = 0) (fun (u : Unit) => [(m0, .inr (6, [.int (nI 1), .ref ms, .ref mv, .int (nI (sm)), .ref mt, .int (nI (ln)), .ref mh, .ref mb, .ref mg, .ref mq, .ref ml, .ref mf, .int nw, .int fw, .int (nI (tp)), .int (bI (wr)), .long dg])), (ms, .inl (G.2.1, 88, .inl s0)), (mv, .inl (G.2.1, 528, .inl sv)), (mt, .inl (G.2.1, 60, .inl tx)), (mh, .inl (G.2.1, 21, .inl ht)), (mb, .inl (G.2.1, 21, .inl bu)), (mg, .inl (G.2.1, 21, .inl hg)), (mq, .inl (G.2.1, 21, .inl pq)), (ml, .inl (G.2.1, 21, .inl ld)), (mf, .inl (G.2.1, 20, .inl fo))])) 0 0 := by
  refine k_entry (cc := cX6_mostWeight) (maxL := 2) (ret := (some .int)) (by decide) rfl (Nat.le_of_ble_eq_true rfl) ?_
  intro p e s m args below meth c A ls H locs Q hQ hx hb hml hr hts hown hlocks hin hA hP hK hD hS hl
  have hown : s.vm.findClass RX6 = some m.cls := hown
  have hl : lv_has ls 2 [(0, .ref m0), (1, .int k)] := hl
  obtain ⟨hs0, hn1, hn, hv⟩ := id hok
  refine lv_aload_n hx hb dX6_mostWeight_0 rfl (lv_at hl 0 rfl) ?_
  refine lv_aload_n hx hb dX6_mostWeight_1 rfl (lv_at hl 0 rfl) ?_
  refine lv_iload_n hx hb dX6_mostWeight_2 rfl (lv_at hl 1 rfl) ?_
  refine k_ci (wr := []) [] rfl (by decide) [0, 1, 2, 3, 4, 5, 6, 7, 8, 9] rfl (by decide) hP hD hS hA (k_V (n := 1) (ci := 6) (As := [.int k]) (rest := [.ref m0]) (wc := [(m0, .inr (6, [.int (nI (th)), .ref ms, .ref mv, .int (nI (sm)), .ref mt, .int (nI (ln)), .ref mh, .ref mb, .ref mg, .ref mq, .ref ml, .ref mf, .int nw, .int fw, .int (nI (tp)), .int (bI (wr)), .long dg])), (ms, .inl (G.2.1, 88, .inl s0)), (mv, .inl (G.2.1, 528, .inl sv)), (mt, .inl (G.2.1, 60, .inl tx)), (mh, .inl (G.2.1, 21, .inl ht)), (mb, .inl (G.2.1, 21, .inl bu)), (mg, .inl (G.2.1, 21, .inl hg)), (mq, .inl (G.2.1, 21, .inl pq)), (ml, .inl (G.2.1, 21, .inl ld)), (mf, .inl (G.2.1, 20, .inl fo))]) hx hb hml hown hts hK hP hD hl (c_X6_isJoint l G m0 ms mv mt mh mb mg mq ml mf th s0 sv sm tx ln ht bu hg pq ld fo nw fw tp wr dg k n H.size (by first | assumption | omega)) [0, 1, 2, 3, 4, 5, 6, 7, 8, 9] rfl (by decide) gX6_mostWeight_X6_isJoint rfl rfl rfl (by decide +kernel) rfl ⟨Nat.le_of_ble_eq_true rfl, Nat.le_of_ble_eq_true rfl⟩ rfl rfl rfl (Nat.le_of_ble_eq_true rfl) dX6_mostWeight_3 ⟨Nat.le_of_ble_eq_true rfl, Nat.le_of_ble_eq_true rfl⟩) (fun r_3 u H locs hw hP hD hS => ?_)
  have hw_3 : r_3 = bI (isN k (n + 1)) := hw
  have hP : va_P G.1 vwCl [(m0, .inr (6, [.int (nI (th)), .ref ms, .ref mv, .int (nI (sm)), .ref mt, .int (nI (ln)), .ref mh, .ref mb, .ref mg, .ref mq, .ref ml, .ref mf, .int nw, .int fw, .int (nI (tp)), .int (bI (wr)), .long dg])), (ms, .inl (G.2.1, 88, .inl s0)), (mv, .inl (G.2.1, 528, .inl sv)), (mt, .inl (G.2.1, 60, .inl tx)), (mh, .inl (G.2.1, 21, .inl ht)), (mb, .inl (G.2.1, 21, .inl bu)), (mg, .inl (G.2.1, 21, .inl hg)), (mq, .inl (G.2.1, 21, .inl pq)), (ml, .inl (G.2.1, 21, .inl ld)), (mf, .inl (G.2.1, 20, .inl fo))] H := hP
  have hD : va_D A [(m0, .inr (6, [.int (nI (th)), .ref ms, .ref mv, .int (nI (sm)), .ref mt, .int (nI (ln)), .ref mh, .ref mb, .ref mg, .ref mq, .ref ml, .ref mf, .int nw, .int fw, .int (nI (tp)), .int (bI (wr)), .long dg])), (ms, .inl (G.2.1, 88, .inl s0)), (mv, .inl (G.2.1, 528, .inl sv)), (mt, .inl (G.2.1, 60, .inl tx)), (mh, .inl (G.2.1, 21, .inl ht)), (mb, .inl (G.2.1, 21, .inl bu)), (mg, .inl (G.2.1, 21, .inl hg)), (mq, .inl (G.2.1, 21, .inl pq)), (ml, .inl (G.2.1, 21, .inl ld)), (mf, .inl (G.2.1, 20, .inl fo))] := hD
  subst hw_3
  refine g_ti (y := nI 0) (by rw [h1]; rfl) ?_
  refine g_if_eq (a := 0) (tgt := 13) hx hb (by omega) dX6_mostWeight_6 (by decide) (fun c_6 => ?_) (fun c_6 => ?_)
  · skip
    refine lv_iconst (v := 1) hx hb dX6_mostWeight_13 (by decide) ?_
    refine k_ci (wr := []) [] rfl (by decide) [0, 1, 2, 3, 4, 5, 6, 7, 8, 9] rfl (by decide) hP hD hS hA (k_V (n := 1) (ci := 6) (As := [.int 1]) (rest := []) (wc := [(m0, .inr (6, [.int (nI (th)), .ref ms, .ref mv, .int (nI (sm)), .ref mt, .int (nI (ln)), .ref mh, .ref mb, .ref mg, .ref mq, .ref ml, .ref mf, .int nw, .int fw, .int (nI (tp)), .int (bI (wr)), .long dg])), (ms, .inl (G.2.1, 88, .inl s0)), (mv, .inl (G.2.1, 528, .inl sv)), (mt, .inl (G.2.1, 60, .inl tx)), (mh, .inl (G.2.1, 21, .inl ht)), (mb, .inl (G.2.1, 21, .inl bu)), (mg, .inl (G.2.1, 21, .inl hg)), (mq, .inl (G.2.1, 21, .inl pq)), (ml, .inl (G.2.1, 21, .inl ld)), (mf, .inl (G.2.1, 20, .inl fo))]) hx hb hml hown hts hK hP hD hl (c_X6_holds l G m0 ms mv mt mh mb mg mq ml mf th s0 sv sm tx ln ht bu hg pq ld fo nw fw tp wr dg 1 H.size (by first | assumption | omega)) [0, 1, 2, 3, 4, 5, 6, 7, 8, 9] rfl (by decide) gX6_mostWeight_X6_holds rfl rfl rfl (by decide +kernel) rfl ⟨Nat.le_of_ble_eq_true rfl, Nat.le_of_ble_eq_true rfl⟩ rfl rfl rfl (Nat.le_of_ble_eq_true rfl) dX6_mostWeight_14 ⟨Nat.le_of_ble_eq_true rfl, Nat.le_of_ble_eq_true rfl⟩) (fun r_14 u H locs hw hP hD hS => ?_)
    have hw_14 : r_14 = bI (decide (1 = 0)) := hw
    have hP : va_P G.1 vwCl [(m0, .inr (6, [.int (nI (1)), .ref ms, .ref mv, .int (nI (sm)), .ref mt, .int (nI (ln)), .ref mh, .ref mb, .ref mg, .ref mq, .ref ml, .ref mf, .int nw, .int fw, .int (nI (tp)), .int (bI (wr)), .long dg])), (ms, .inl (G.2.1, 88, .inl s0)), (mv, .inl (G.2.1, 528, .inl sv)), (mt, .inl (G.2.1, 60, .inl tx)), (mh, .inl (G.2.1, 21, .inl ht)), (mb, .inl (G.2.1, 21, .inl bu)), (mg, .inl (G.2.1, 21, .inl hg)), (mq, .inl (G.2.1, 21, .inl pq)), (ml, .inl (G.2.1, 21, .inl ld)), (mf, .inl (G.2.1, 20, .inl fo))] H := hP
    have hD : va_D A [(m0, .inr (6, [.int (nI (1)), .ref ms, .ref mv, .int (nI (sm)), .ref mt, .int (nI (ln)), .ref mh, .ref mb, .ref mg, .ref mq, .ref ml, .ref mf, .int nw, .int fw, .int (nI (tp)), .int (bI (wr)), .long dg])), (ms, .inl (G.2.1, 88, .inl s0)), (mv, .inl (G.2.1, 528, .inl sv)), (mt, .inl (G.2.1, 60, .inl tx)), (mh, .inl (G.2.1, 21, .inl ht)), (mb, .inl (G.2.1, 21, .inl bu)), (mg, .inl (G.2.1, 21, .inl hg)), (mq, .inl (G.2.1, 21, .inl pq)), (ml, .inl (G.2.1, 21, .inl ld)), (mf, .inl (G.2.1, 20, .inl fo))] := hD
    subst hw_14
    refine g_ti (y := nI 0) (by rw [decide_eq_false (by decide)]; rfl) ?_
    refine g_if_eq (a := 0) (tgt := 28) hx hb (by omega) dX6_mostWeight_17 (by decide) (fun c_17 => ?_) (fun c_17 => ?_)
    · skip
      refine lv_iconst (v := 0) hx hb dX6_mostWeight_28 (by decide) ?_
      rw [hQ]
      exact k_iret (v := 0) () [0, 1, 2, 3, 4, 5, 6, 7, 8, 9] hx hb hr hlocks (rfl) hK hP hD hS rfl (by decide) dX6_mostWeight_29
    · exact absurd c_17 (by decide)
  · exact absurd c_6 (by decide)
set_option maxHeartbeats 4000000 in
set_option maxRecDepth 100000 in
theorem c_X6_mostWeight_0 (l : Launch) (G : kG) (m0 : Nat) (ms : Nat) (mv : Nat) (mt : Nat) (mh : Nat) (mb : Nat) (mg : Nat) (mq : Nat) (ml : Nat) (mf : Nat) (th : Nat) (s0 : Fn) (sv : Fn) (sm : Nat) (tx : Fn) (ln : Nat) (ht : Fn) (bu : Fn) (hg : Fn) (pq : Fn) (ld : Fn) (fo : Fn) (nw : Int32) (fw : Int32) (tp : Nat) (wr : Bool) (dg : Int64) (j : Nat) (n : Nat) (sz : Nat) (hok : mOK s0 n) (hj : j ≤ n) : kMet l yX6_mostWeight wsX6_mostWeight ({ frames := 5, cells := 0, slots := 0, locals := 114 } : Room) G [.ref m0, .int (nI (j))] [(m0, .inr (6, [.int (nI (th)), .ref ms, .ref mv, .int (nI (sm)), .ref mt, .int (nI (ln)), .ref mh, .ref mb, .ref mg, .ref mq, .ref ml, .ref mf, .int nw, .int fw, .int (nI (tp)), .int (bI (wr)), .long dg])), (ms, .inl (G.2.1, 88, .inl s0)), (mv, .inl (G.2.1, 528, .inl sv)), (mt, .inl (G.2.1, 60, .inl tx)), (mh, .inl (G.2.1, 21, .inl ht)), (mb, .inl (G.2.1, 21, .inl bu)), (mg, .inl (G.2.1, 21, .inl hg)), (mq, .inl (G.2.1, 21, .inl pq)), (ml, .inl (G.2.1, 21, .inl ld)), (mf, .inl (G.2.1, 20, .inl fo))] sz (kQi G (fun (r : Int32) (u : Fn × Fn × Fn × Fn × Fn × Fn × Int32 × Int32) => r = hvI (pWe n (mST s0) (mWE s0) (mHA s0) (mPR s0) (mSE s0) j) 100) (fun (u : Fn × Fn × Fn × Fn × Fn × Fn × Int32 × Int32) => [(m0, .inr (6, [.int (nI 0), .ref ms, .ref mv, .int (nI (sm)), .ref mt, .int (nI (ln)), .ref mh, .ref mb, .ref mg, .ref mq, .ref ml, .ref mf, .int u.2.2.2.2.2.2.1, .int u.2.2.2.2.2.2.2, .int (nI (tp)), .int (bI (wr)), .long dg])), (ms, .inl (G.2.1, 88, .inl s0)), (mv, .inl (G.2.1, 528, .inl sv)), (mt, .inl (G.2.1, 60, .inl tx)), (mh, .inl (G.2.1, 21, .inl u.1)), (mb, .inl (G.2.1, 21, .inl u.2.1)), (mg, .inl (G.2.1, 21, .inl u.2.2.1)), (mq, .inl (G.2.1, 21, .inl u.2.2.2.1)), (ml, .inl (G.2.1, 21, .inl u.2.2.2.2.1)), (mf, .inl (G.2.1, 20, .inl u.2.2.2.2.2.1))])) 0 0 := by
  refine k_entry (cc := cX6_mostWeight) (maxL := 2) (ret := (some .int)) (by decide) rfl (Nat.le_of_ble_eq_true rfl) ?_
  intro p e s m args below meth c A ls H locs Q hQ hx hb hml hr hts hown hlocks hin hA hP hK hD hS hl
  have hown : s.vm.findClass RX6 = some m.cls := hown
  have hl : lv_has ls 2 [(0, .ref m0), (1, .int (nI (j)))] := hl
  obtain ⟨hs0, hn1, hn, hv⟩ := id hok
  refine lv_aload_n hx hb dX6_mostWeight_0 rfl (lv_at hl 0 rfl) ?_
  refine lv_aload_n hx hb dX6_mostWeight_1 rfl (lv_at hl 0 rfl) ?_
  refine lv_iload_n hx hb dX6_mostWeight_2 rfl (lv_at hl 1 rfl) ?_
  refine k_ci (wr := []) [] rfl (by decide) [0, 1, 2, 3, 4, 5, 6, 7, 8, 9] rfl (by decide) hP hD hS hA (k_V (n := 1) (ci := 6) (As := [.int (nI (j))]) (rest := [.ref m0]) (wc := [(m0, .inr (6, [.int (nI (th)), .ref ms, .ref mv, .int (nI (sm)), .ref mt, .int (nI (ln)), .ref mh, .ref mb, .ref mg, .ref mq, .ref ml, .ref mf, .int nw, .int fw, .int (nI (tp)), .int (bI (wr)), .long dg])), (ms, .inl (G.2.1, 88, .inl s0)), (mv, .inl (G.2.1, 528, .inl sv)), (mt, .inl (G.2.1, 60, .inl tx)), (mh, .inl (G.2.1, 21, .inl ht)), (mb, .inl (G.2.1, 21, .inl bu)), (mg, .inl (G.2.1, 21, .inl hg)), (mq, .inl (G.2.1, 21, .inl pq)), (ml, .inl (G.2.1, 21, .inl ld)), (mf, .inl (G.2.1, 20, .inl fo))]) hx hb hml hown hts hK hP hD hl (c_X6_isJoint l G m0 ms mv mt mh mb mg mq ml mf th s0 sv sm tx ln ht bu hg pq ld fo nw fw tp wr dg (nI (j)) n H.size (by first | assumption | omega)) [0, 1, 2, 3, 4, 5, 6, 7, 8, 9] rfl (by decide) gX6_mostWeight_X6_isJoint rfl rfl rfl (by decide +kernel) rfl ⟨Nat.le_of_ble_eq_true rfl, Nat.le_of_ble_eq_true rfl⟩ rfl rfl rfl (Nat.le_of_ble_eq_true rfl) dX6_mostWeight_3 ⟨Nat.le_of_ble_eq_true rfl, Nat.le_of_ble_eq_true rfl⟩) (fun r_3 u H locs hw hP hD hS => ?_)
  have hw_3 : r_3 = bI (isN (nI (j)) (n + 1)) := hw
  have hP : va_P G.1 vwCl [(m0, .inr (6, [.int (nI (th)), .ref ms, .ref mv, .int (nI (sm)), .ref mt, .int (nI (ln)), .ref mh, .ref mb, .ref mg, .ref mq, .ref ml, .ref mf, .int nw, .int fw, .int (nI (tp)), .int (bI (wr)), .long dg])), (ms, .inl (G.2.1, 88, .inl s0)), (mv, .inl (G.2.1, 528, .inl sv)), (mt, .inl (G.2.1, 60, .inl tx)), (mh, .inl (G.2.1, 21, .inl ht)), (mb, .inl (G.2.1, 21, .inl bu)), (mg, .inl (G.2.1, 21, .inl hg)), (mq, .inl (G.2.1, 21, .inl pq)), (ml, .inl (G.2.1, 21, .inl ld)), (mf, .inl (G.2.1, 20, .inl fo))] H := hP
  have hD : va_D A [(m0, .inr (6, [.int (nI (th)), .ref ms, .ref mv, .int (nI (sm)), .ref mt, .int (nI (ln)), .ref mh, .ref mb, .ref mg, .ref mq, .ref ml, .ref mf, .int nw, .int fw, .int (nI (tp)), .int (bI (wr)), .long dg])), (ms, .inl (G.2.1, 88, .inl s0)), (mv, .inl (G.2.1, 528, .inl sv)), (mt, .inl (G.2.1, 60, .inl tx)), (mh, .inl (G.2.1, 21, .inl ht)), (mb, .inl (G.2.1, 21, .inl bu)), (mg, .inl (G.2.1, 21, .inl hg)), (mq, .inl (G.2.1, 21, .inl pq)), (ml, .inl (G.2.1, 21, .inl ld)), (mf, .inl (G.2.1, 20, .inl fo))] := hD
  subst hw_3
  refine g_ti (y := nI 1) (by rw [isN_nI (by omega), decide_eq_true (by omega)]; rfl) ?_
  refine g_if_eq (a := 1) (tgt := 13) hx hb (by omega) dX6_mostWeight_6 (by decide) (fun c_6 => ?_) (fun c_6 => ?_)
  · exact absurd c_6 (by decide)
  · skip
    refine lv_iconst (v := 0) hx hb dX6_mostWeight_9 (by decide) ?_
    refine lv_goto (tgt := 14) hx hb dX6_mostWeight_10 (by decide) ?_
    refine k_ci (wr := []) [] rfl (by decide) [0, 1, 2, 3, 4, 5, 6, 7, 8, 9] rfl (by decide) hP hD hS hA (k_V (n := 1) (ci := 6) (As := [.int 0]) (rest := []) (wc := [(m0, .inr (6, [.int (nI (th)), .ref ms, .ref mv, .int (nI (sm)), .ref mt, .int (nI (ln)), .ref mh, .ref mb, .ref mg, .ref mq, .ref ml, .ref mf, .int nw, .int fw, .int (nI (tp)), .int (bI (wr)), .long dg])), (ms, .inl (G.2.1, 88, .inl s0)), (mv, .inl (G.2.1, 528, .inl sv)), (mt, .inl (G.2.1, 60, .inl tx)), (mh, .inl (G.2.1, 21, .inl ht)), (mb, .inl (G.2.1, 21, .inl bu)), (mg, .inl (G.2.1, 21, .inl hg)), (mq, .inl (G.2.1, 21, .inl pq)), (ml, .inl (G.2.1, 21, .inl ld)), (mf, .inl (G.2.1, 20, .inl fo))]) hx hb hml hown hts hK hP hD hl (c_X6_holds l G m0 ms mv mt mh mb mg mq ml mf th s0 sv sm tx ln ht bu hg pq ld fo nw fw tp wr dg 0 H.size (by first | assumption | omega)) [0, 1, 2, 3, 4, 5, 6, 7, 8, 9] rfl (by decide) gX6_mostWeight_X6_holds rfl rfl rfl (by decide +kernel) rfl ⟨Nat.le_of_ble_eq_true rfl, Nat.le_of_ble_eq_true rfl⟩ rfl rfl rfl (Nat.le_of_ble_eq_true rfl) dX6_mostWeight_14 ⟨Nat.le_of_ble_eq_true rfl, Nat.le_of_ble_eq_true rfl⟩) (fun r_14 u H locs hw hP hD hS => ?_)
    have hw_14 : r_14 = bI (decide (0 = 0)) := hw
    have hP : va_P G.1 vwCl [(m0, .inr (6, [.int (nI (0)), .ref ms, .ref mv, .int (nI (sm)), .ref mt, .int (nI (ln)), .ref mh, .ref mb, .ref mg, .ref mq, .ref ml, .ref mf, .int nw, .int fw, .int (nI (tp)), .int (bI (wr)), .long dg])), (ms, .inl (G.2.1, 88, .inl s0)), (mv, .inl (G.2.1, 528, .inl sv)), (mt, .inl (G.2.1, 60, .inl tx)), (mh, .inl (G.2.1, 21, .inl ht)), (mb, .inl (G.2.1, 21, .inl bu)), (mg, .inl (G.2.1, 21, .inl hg)), (mq, .inl (G.2.1, 21, .inl pq)), (ml, .inl (G.2.1, 21, .inl ld)), (mf, .inl (G.2.1, 20, .inl fo))] H := hP
    have hD : va_D A [(m0, .inr (6, [.int (nI (0)), .ref ms, .ref mv, .int (nI (sm)), .ref mt, .int (nI (ln)), .ref mh, .ref mb, .ref mg, .ref mq, .ref ml, .ref mf, .int nw, .int fw, .int (nI (tp)), .int (bI (wr)), .long dg])), (ms, .inl (G.2.1, 88, .inl s0)), (mv, .inl (G.2.1, 528, .inl sv)), (mt, .inl (G.2.1, 60, .inl tx)), (mh, .inl (G.2.1, 21, .inl ht)), (mb, .inl (G.2.1, 21, .inl bu)), (mg, .inl (G.2.1, 21, .inl hg)), (mq, .inl (G.2.1, 21, .inl pq)), (ml, .inl (G.2.1, 21, .inl ld)), (mf, .inl (G.2.1, 20, .inl fo))] := hD
    subst hw_14
    refine g_ti (y := nI 1) (by rw [decide_eq_true (show (0 : Nat) = 0 from rfl)]; rfl) ?_
    refine g_if_eq (a := 1) (tgt := 28) hx hb (by omega) dX6_mostWeight_17 (by decide) (fun c_17 => ?_) (fun c_17 => ?_)
    · exact absurd c_17 (by decide)
    · skip
      refine lv_aload_n hx hb dX6_mostWeight_20 rfl (lv_at hl 0 rfl) ?_
      refine lv_iload_n hx hb dX6_mostWeight_21 rfl (lv_at hl 1 rfl) ?_
      refine k_ci (wr := []) [] rfl (by decide) [0, 1, 2, 3, 4, 5, 6, 7, 8, 9] rfl (by decide) hP hD hS hA (k_V (n := 1) (ci := 6) (As := [.int (nI (j))]) (rest := []) (wc := [(m0, .inr (6, [.int (nI (0)), .ref ms, .ref mv, .int (nI (sm)), .ref mt, .int (nI (ln)), .ref mh, .ref mb, .ref mg, .ref mq, .ref ml, .ref mf, .int nw, .int fw, .int (nI (tp)), .int (bI (wr)), .long dg])), (ms, .inl (G.2.1, 88, .inl s0)), (mv, .inl (G.2.1, 528, .inl sv)), (mt, .inl (G.2.1, 60, .inl tx)), (mh, .inl (G.2.1, 21, .inl ht)), (mb, .inl (G.2.1, 21, .inl bu)), (mg, .inl (G.2.1, 21, .inl hg)), (mq, .inl (G.2.1, 21, .inl pq)), (ml, .inl (G.2.1, 21, .inl ld)), (mf, .inl (G.2.1, 20, .inl fo))]) hx hb hml hown hts hK hP hD hl (c_X6_heaviest l G m0 ms mv mt mh mb mg mq ml mf 0 s0 sv sm tx ln ht bu hg pq ld fo nw fw tp wr dg j n H.size (by first | assumption | omega) (by first | assumption | omega)) [0, 1, 2, 3, 4, 5, 6, 7, 8, 9] rfl (by decide) gX6_mostWeight_X6_heaviest rfl rfl rfl (by decide +kernel) rfl ⟨Nat.le_of_ble_eq_true rfl, Nat.le_of_ble_eq_true rfl⟩ rfl rfl rfl (Nat.le_of_ble_eq_true rfl) dX6_mostWeight_22 ⟨Nat.le_of_ble_eq_true rfl, Nat.le_of_ble_eq_true rfl⟩) (fun r_22 u H locs hw hP hD hS => ?_)
      obtain ⟨ht2_22, bu2_22, hg2_22, pq2_22, ld2_22, fo2_22, nw2_22, fw2_22⟩ := u
      have hw_22 : r_22 = hvI (pWe n (mST s0) (mWE s0) (mHA s0) (mPR s0) (mSE s0) j) 100 := hw
      have hP : va_P G.1 vwCl [(m0, .inr (6, [.int (nI (0)), .ref ms, .ref mv, .int (nI (sm)), .ref mt, .int (nI (ln)), .ref mh, .ref mb, .ref mg, .ref mq, .ref ml, .ref mf, .int nw2_22, .int fw2_22, .int (nI (tp)), .int (bI (wr)), .long dg])), (ms, .inl (G.2.1, 88, .inl s0)), (mv, .inl (G.2.1, 528, .inl sv)), (mt, .inl (G.2.1, 60, .inl tx)), (mh, .inl (G.2.1, 21, .inl ht2_22)), (mb, .inl (G.2.1, 21, .inl bu2_22)), (mg, .inl (G.2.1, 21, .inl hg2_22)), (mq, .inl (G.2.1, 21, .inl pq2_22)), (ml, .inl (G.2.1, 21, .inl ld2_22)), (mf, .inl (G.2.1, 20, .inl fo2_22))] H := hP
      have hD : va_D A [(m0, .inr (6, [.int (nI (0)), .ref ms, .ref mv, .int (nI (sm)), .ref mt, .int (nI (ln)), .ref mh, .ref mb, .ref mg, .ref mq, .ref ml, .ref mf, .int nw2_22, .int fw2_22, .int (nI (tp)), .int (bI (wr)), .long dg])), (ms, .inl (G.2.1, 88, .inl s0)), (mv, .inl (G.2.1, 528, .inl sv)), (mt, .inl (G.2.1, 60, .inl tx)), (mh, .inl (G.2.1, 21, .inl ht2_22)), (mb, .inl (G.2.1, 21, .inl bu2_22)), (mg, .inl (G.2.1, 21, .inl hg2_22)), (mq, .inl (G.2.1, 21, .inl pq2_22)), (ml, .inl (G.2.1, 21, .inl ld2_22)), (mf, .inl (G.2.1, 20, .inl fo2_22))] := hD
      subst hw_22
      refine lv_goto (tgt := 29) hx hb dX6_mostWeight_25 (by decide) ?_
      rw [hQ]
      exact k_iret (v := hvI (pWe n (mST s0) (mWE s0) (mHA s0) (mPR s0) (mSE s0) j) 100) (ht2_22, bu2_22, hg2_22, pq2_22, ld2_22, fo2_22, nw2_22, fw2_22) [0, 1, 2, 3, 4, 5, 6, 7, 8, 9] hx hb hr hlocks (rfl) hK hP hD hS rfl (by decide) dX6_mostWeight_29
set_option maxHeartbeats 4000000 in
set_option maxRecDepth 100000 in
theorem c_X6_bestTo (l : Launch) (G : kG) (m0 : Nat) (ms : Nat) (mv : Nat) (mt : Nat) (mh : Nat) (mb : Nat) (mg : Nat) (mq : Nat) (ml : Nat) (mf : Nat) (th : Nat) (s0 : Fn) (sv : Fn) (sm : Nat) (tx : Fn) (ln : Nat) (ht : Fn) (bu : Fn) (hg : Fn) (pq : Fn) (ld : Fn) (fo : Fn) (nw : Int32) (fw : Int32) (tp : Nat) (wr : Bool) (dg : Int64) (j : Nat) (n : Nat) (sz : Nat) (hok : mOK s0 n) (hj : j ≤ n) : kMet l yX6_bestTo wsX6_bestTo ({ frames := 3, cells := 0, slots := 0, locals := 68 } : Room) G [.ref m0, .int (nI (j))] [(m0, .inr (6, [.int (nI (th)), .ref ms, .ref mv, .int (nI (sm)), .ref mt, .int (nI (ln)), .ref mh, .ref mb, .ref mg, .ref mq, .ref ml, .ref mf, .int nw, .int fw, .int (nI (tp)), .int (bI (wr)), .long dg])), (ms, .inl (G.2.1, 88, .inl s0)), (mv, .inl (G.2.1, 528, .inl sv)), (mt, .inl (G.2.1, 60, .inl tx)), (mh, .inl (G.2.1, 21, .inl ht)), (mb, .inl (G.2.1, 21, .inl bu)), (mg, .inl (G.2.1, 21, .inl hg)), (mq, .inl (G.2.1, 21, .inl pq)), (ml, .inl (G.2.1, 21, .inl ld)), (mf, .inl (G.2.1, 20, .inl fo))] sz (kQi G (fun (r : Int32) (u : Fn × Fn × Fn × Fn × Fn × Fn × Int32 × Int32) => r = bTo n (mST s0) (mWE s0) (mHA s0) (mPR s0) (mSE s0) j) (fun (u : Fn × Fn × Fn × Fn × Fn × Fn × Int32 × Int32) => [(m0, .inr (6, [.int (nI (th)), .ref ms, .ref mv, .int (nI (sm)), .ref mt, .int (nI (ln)), .ref mh, .ref mb, .ref mg, .ref mq, .ref ml, .ref mf, .int u.2.2.2.2.2.2.1, .int u.2.2.2.2.2.2.2, .int (nI (tp)), .int (bI (wr)), .long dg])), (ms, .inl (G.2.1, 88, .inl s0)), (mv, .inl (G.2.1, 528, .inl sv)), (mt, .inl (G.2.1, 60, .inl tx)), (mh, .inl (G.2.1, 21, .inl u.1)), (mb, .inl (G.2.1, 21, .inl u.2.1)), (mg, .inl (G.2.1, 21, .inl u.2.2.1)), (mq, .inl (G.2.1, 21, .inl u.2.2.2.1)), (ml, .inl (G.2.1, 21, .inl u.2.2.2.2.1)), (mf, .inl (G.2.1, 20, .inl u.2.2.2.2.2.1))])) 0 0 := by
  refine k_entry (cc := cX6_bestTo) (maxL := 8) (ret := (some .int)) (by decide) rfl (Nat.le_of_ble_eq_true rfl) ?_
  intro p e s m args below meth c A ls H locs Q hQ hx hb hml hr hts hown hlocks hin hA hP hK hD hS hl
  have hown : s.vm.findClass RX6 = some m.cls := hown
  have hl : lv_has ls 8 [(0, .ref m0), (1, .int (nI (j)))] := hl
  have hf7 := hts (.fieldLink RX6 7 "HangingChainModel" "s" "[I") (by decide +kernel)
  have hinX6 : ∀ w ∈ wsX60, w ∈ wsX6_bestTo := by decide +kernel
  obtain ⟨hs0, hn1, hn, hv⟩ := id hok
  refine lv_iconst (v := (-1)) hx hb dX6_bestTo_0 (by decide) ?_
  refine lv_istore_n (lv' := [(2, .int (-1)), (0, .ref m0), (1, .int (nI (j)))]) hx hb dX6_bestTo_1 rfl hl (by decide) rfl (fun ls hl => ?_)
  refine lv_iconst (v := 0) hx hb dX6_bestTo_2 (by decide) ?_
  refine lv_istore_n (lv' := [(3, .int 0), (2, .int (-1)), (0, .ref m0), (1, .int (nI (j)))]) hx hb dX6_bestTo_3 rfl hl (by decide) rfl (fun ls hl => ?_)
  refine lv_iconst (v := 0) hx hb dX6_bestTo_4 (by decide) ?_
  refine lv_istore (lv' := [(4, .int 0), (3, .int 0), (2, .int (-1)), (0, .ref m0), (1, .int (nI (j)))]) hx hb dX6_bestTo_5 hl (by decide) rfl (fun ls hl => ?_)
  have L7 : ∀ (n9 : Nat) (i : Nat) (fd : Int32) (le : Int32) (ht3 : Fn) (bu3 : Fn) (hg3 : Fn) (pq3 : Fn) (ld3 : Fn) (fo3 : Fn) (nw3 : Int32) (fw3 : Int32), (i ≤ n + 1) → ((fd, le) = bst (gMv n (mST s0) (mWE s0) (mHA s0) (mPR s0) (mSE s0) j) j i) → (s0 (25 + j) ≤ 0 → i = 0) → (n + 1 - i < n9) → ∀ (H : Heap) (locs : List Loc) (ls : Array Slot), va_P G.1 vwCl [(m0, .inr (6, [.int (nI (th)), .ref ms, .ref mv, .int (nI (sm)), .ref mt, .int (nI (ln)), .ref mh, .ref mb, .ref mg, .ref mq, .ref ml, .ref mf, .int nw3, .int fw3, .int (nI (tp)), .int (bI (wr)), .long dg])), (ms, .inl (G.2.1, 88, .inl s0)), (mv, .inl (G.2.1, 528, .inl sv)), (mt, .inl (G.2.1, 60, .inl tx)), (mh, .inl (G.2.1, 21, .inl ht3)), (mb, .inl (G.2.1, 21, .inl bu3)), (mg, .inl (G.2.1, 21, .inl hg3)), (mq, .inl (G.2.1, 21, .inl pq3)), (ml, .inl (G.2.1, 21, .inl ld3)), (mf, .inl (G.2.1, 20, .inl fo3))] H → va_D A [(m0, .inr (6, [.int (nI (th)), .ref ms, .ref mv, .int (nI (sm)), .ref mt, .int (nI (ln)), .ref mh, .ref mb, .ref mg, .ref mq, .ref ml, .ref mf, .int nw3, .int fw3, .int (nI (tp)), .int (bI (wr)), .long dg])), (ms, .inl (G.2.1, 88, .inl s0)), (mv, .inl (G.2.1, 528, .inl sv)), (mt, .inl (G.2.1, 60, .inl tx)), (mh, .inl (G.2.1, 21, .inl ht3)), (mb, .inl (G.2.1, 21, .inl bu3)), (mg, .inl (G.2.1, 21, .inl hg3)), (mq, .inl (G.2.1, 21, .inl pq3)), (ml, .inl (G.2.1, 21, .inl ld3)), (mf, .inl (G.2.1, 20, .inl fo3))] → va_S A s.heap H locs → lv_has ls 8 [(4, .int (nI i)), (3, .int le), (2, .int fd), (0, .ref m0), (1, .int (nI (j)))] → W p l e ({ frames := 3, cells := 0, slots := 0, locals := 68 } : Room) s m args below meth c H locs 0 0 Q (F0 m 7 ls []) := by
    intro n9
    induction n9 with
    | zero =>
      intro i fd le ht3 bu3 hg3 pq3 ld3 fo3 nw3 fw3 hi hB hz hm9 H locs ls hP hD hS hl
      exact absurd hm9 (Nat.not_lt_zero _)
    | succ n9 ih7 =>
      intro i fd le ht3 bu3 hg3 pq3 ld3 fo3 nw3 fw3 hi hB hz hm9 H locs ls hP hD hS hl
      refine lv_iload hx hb dX6_bestTo_7 (lv_at hl 0 rfl) ?_
      refine lv_aload_n hx hb dX6_bestTo_9 rfl (lv_at hl 3 rfl) ?_
      refine va_get (D := G.1) (ci := 6) (v := .ref ms) (C := RX6) (T := TX6) (N := 17) hx hb hts hinX6 hown hK hP 0 rfl rfl 1 (by decide) hf7 (fun _ h9 => h9) rfl dX6_bestTo_10 ?_
      refine lv_iconst (v := 0) hx hb dX6_bestTo_13 (by decide) ?_
      refine g_iald (k := 0) hx hb hK hP 1 rfl (by omega) (by omega) dX6_bestTo_14 ?_
      refine g_ti (y := nI n) (hs0) ?_
      refine g_icmp_gt (a := i) (b := n) (tgt := 128) hx hb (by omega) (by omega) dX6_bestTo_15 (by decide) (fun c_15 => ?_) (fun c_15 => ?_)
      · skip
        refine lv_iload_n hx hb dX6_bestTo_128 rfl (lv_at hl 2 rfl) ?_
        rw [hQ]
        exact k_iret (v := fd) (ht3, bu3, hg3, pq3, ld3, fo3, nw3, fw3) [0, 1, 2, 3, 4, 5, 6, 7, 8, 9] hx hb hr hlocks (bTo_of hB hok hj hi hz (Or.inl c_15)) hK hP hD hS rfl (by decide) dX6_bestTo_129
      · skip
        refine lv_aload_n hx hb dX6_bestTo_18 rfl (lv_at hl 3 rfl) ?_
        refine va_get (D := G.1) (ci := 6) (v := .ref ms) (C := RX6) (T := TX6) (N := 17) hx hb hts hinX6 hown hK hP 0 rfl rfl 1 (by decide) hf7 (fun _ h9 => h9) rfl dX6_bestTo_19 ?_
        refine lv_bipush (v := 25) hx hb dX6_bestTo_22 (by decide) ?_
        refine lv_iload_n hx hb dX6_bestTo_24 rfl (lv_at hl 4 rfl) ?_
        refine lv_iadd hx hb dX6_bestTo_25 ?_
        refine g_ti (y := nI (25 + j)) (nI_add (25) (j)) ?_
        refine g_iald (k := 25 + j) hx hb hK hP 1 rfl (by omega) (by omega) dX6_bestTo_26 ?_
        refine lv_if_le (tgt := 128) hx hb dX6_bestTo_27 (by decide) (fun c_27 => ?_) (fun c_27 => ?_)
        · skip
          refine lv_iload_n hx hb dX6_bestTo_128 rfl (lv_at hl 2 rfl) ?_
          rw [hQ]
          exact k_iret (v := fd) (ht3, bu3, hg3, pq3, ld3, fo3, nw3, fw3) [0, 1, 2, 3, 4, 5, 6, 7, 8, 9] hx hb hr hlocks (bTo_of hB hok hj hi hz (Or.inr c_27)) hK hP hD hS rfl (by decide) dX6_bestTo_129
        · skip
          refine lv_iload hx hb dX6_bestTo_30 (lv_at hl 0 rfl) ?_
          refine lv_iload_n hx hb dX6_bestTo_32 rfl (lv_at hl 4 rfl) ?_
          refine g_icmp_eq (a := i) (b := j) (tgt := 122) hx hb (by omega) (by omega) dX6_bestTo_33 (by decide) (fun c_33 => ?_) (fun c_33 => ?_)
          · skip
            refine lv_iinc (v := nI (i + 1)) (lv' := [(4, .int (nI (i + 1))), (3, .int le), (2, .int fd), (0, .ref m0), (1, .int (nI (j)))]) hx hb dX6_bestTo_122 hl (k := 0) rfl (nI_add (i) 1) (by decide) rfl (fun ls hl => ?_)
            refine lv_goto (tgt := 7) hx hb dX6_bestTo_125 (by decide) ?_
            exact ih7 (i + 1) fd le ht3 bu3 hg3 pq3 ld3 fo3 nw3 fw3 (by first | assumption | omega) (bst_s hB c_33) (fun q => absurd q c_27) (by omega) _ _ _ hP hD hS (lv_sub hl [0, 1, 2, 3, 4] rfl)
          · skip
            refine lv_aload_n hx hb dX6_bestTo_36 rfl (lv_at hl 3 rfl) ?_
            refine lv_iload_n hx hb dX6_bestTo_37 rfl (lv_at hl 4 rfl) ?_
            refine lv_iload hx hb dX6_bestTo_38 (lv_at hl 0 rfl) ?_
            refine k_ci (wr := []) [] rfl (by decide) [0, 1, 2, 3, 4, 5, 6, 7, 8, 9] rfl (by decide) hP hD hS hA (k_V (n := 2) (ci := 6) (As := [.int (nI (j)), .int (nI i)]) (rest := []) (wc := [(m0, .inr (6, [.int (nI (th)), .ref ms, .ref mv, .int (nI (sm)), .ref mt, .int (nI (ln)), .ref mh, .ref mb, .ref mg, .ref mq, .ref ml, .ref mf, .int nw3, .int fw3, .int (nI (tp)), .int (bI (wr)), .long dg])), (ms, .inl (G.2.1, 88, .inl s0)), (mv, .inl (G.2.1, 528, .inl sv)), (mt, .inl (G.2.1, 60, .inl tx)), (mh, .inl (G.2.1, 21, .inl ht3)), (mb, .inl (G.2.1, 21, .inl bu3)), (mg, .inl (G.2.1, 21, .inl hg3)), (mq, .inl (G.2.1, 21, .inl pq3)), (ml, .inl (G.2.1, 21, .inl ld3)), (mf, .inl (G.2.1, 20, .inl fo3))]) hx hb hml hown hts hK hP hD hl (c_X6_moves l G m0 ms mv mt mh mb mg mq ml mf th s0 sv sm tx ln ht3 bu3 hg3 pq3 ld3 fo3 nw3 fw3 tp wr dg j i H.size (by first | assumption | omega) (by first | assumption | omega)) [0, 1, 2, 3, 4, 5, 6, 7, 8, 9] rfl (by decide) gX6_bestTo_X6_moves rfl rfl rfl (by decide +kernel) rfl ⟨Nat.le_of_ble_eq_true rfl, Nat.le_of_ble_eq_true rfl⟩ rfl rfl rfl (Nat.le_of_ble_eq_true rfl) dX6_bestTo_40 ⟨Nat.le_of_ble_eq_true rfl, Nat.le_of_ble_eq_true rfl⟩) (fun r_40 u H locs hw hP hD hS => ?_)
            have hw_40 : r_40 = mvBy (mWE s0) j i := hw
            have hP : va_P G.1 vwCl [(m0, .inr (6, [.int (nI (th)), .ref ms, .ref mv, .int (nI (sm)), .ref mt, .int (nI (ln)), .ref mh, .ref mb, .ref mg, .ref mq, .ref ml, .ref mf, .int nw3, .int fw3, .int (nI (tp)), .int (bI (wr)), .long dg])), (ms, .inl (G.2.1, 88, .inl (mMov s0 j i))), (mv, .inl (G.2.1, 528, .inl sv)), (mt, .inl (G.2.1, 60, .inl tx)), (mh, .inl (G.2.1, 21, .inl ht3)), (mb, .inl (G.2.1, 21, .inl bu3)), (mg, .inl (G.2.1, 21, .inl hg3)), (mq, .inl (G.2.1, 21, .inl pq3)), (ml, .inl (G.2.1, 21, .inl ld3)), (mf, .inl (G.2.1, 20, .inl fo3))] H := hP
            have hD : va_D A [(m0, .inr (6, [.int (nI (th)), .ref ms, .ref mv, .int (nI (sm)), .ref mt, .int (nI (ln)), .ref mh, .ref mb, .ref mg, .ref mq, .ref ml, .ref mf, .int nw3, .int fw3, .int (nI (tp)), .int (bI (wr)), .long dg])), (ms, .inl (G.2.1, 88, .inl (mMov s0 j i))), (mv, .inl (G.2.1, 528, .inl sv)), (mt, .inl (G.2.1, 60, .inl tx)), (mh, .inl (G.2.1, 21, .inl ht3)), (mb, .inl (G.2.1, 21, .inl bu3)), (mg, .inl (G.2.1, 21, .inl hg3)), (mq, .inl (G.2.1, 21, .inl pq3)), (ml, .inl (G.2.1, 21, .inl ld3)), (mf, .inl (G.2.1, 20, .inl fo3))] := hD
            subst hw_40
            refine lv_istore (lv' := [(5, .int (mvBy (mWE s0) j i)), (4, .int (nI i)), (3, .int le), (2, .int fd), (0, .ref m0), (1, .int (nI (j)))]) hx hb dX6_bestTo_43 hl (by decide) rfl (fun ls hl => ?_)
            refine lv_aload_n hx hb dX6_bestTo_45 rfl (lv_at hl 4 rfl) ?_
            refine k_ci (wr := []) [] rfl (by decide) [0, 1, 2, 3, 4, 5, 6, 7, 8, 9] rfl (by decide) hP hD hS hA (k_V (n := 0) (ci := 6) (As := []) (rest := []) (wc := [(m0, .inr (6, [.int (nI (th)), .ref ms, .ref mv, .int (nI (sm)), .ref mt, .int (nI (ln)), .ref mh, .ref mb, .ref mg, .ref mq, .ref ml, .ref mf, .int nw3, .int fw3, .int (nI (tp)), .int (bI (wr)), .long dg])), (ms, .inl (G.2.1, 88, .inl (mMov s0 j i))), (mv, .inl (G.2.1, 528, .inl sv)), (mt, .inl (G.2.1, 60, .inl tx)), (mh, .inl (G.2.1, 21, .inl ht3)), (mb, .inl (G.2.1, 21, .inl bu3)), (mg, .inl (G.2.1, 21, .inl hg3)), (mq, .inl (G.2.1, 21, .inl pq3)), (ml, .inl (G.2.1, 21, .inl ld3)), (mf, .inl (G.2.1, 20, .inl fo3))]) hx hb hml hown hts hK hP hD hl (c_X6_greatest l G m0 ms mv mt mh mb mg mq ml mf th (mMov s0 j i) sv sm tx ln ht3 bu3 hg3 pq3 ld3 fo3 nw3 fw3 tp wr dg n H.size (mOK_mov hok hj (by omega) (by omega))) [0, 1, 2, 3, 4, 5, 6, 7, 8, 9] rfl (by decide) gX6_bestTo_X6_greatest rfl rfl rfl (by decide +kernel) rfl ⟨Nat.le_of_ble_eq_true rfl, Nat.le_of_ble_eq_true rfl⟩ rfl rfl rfl (Nat.le_of_ble_eq_true rfl) dX6_bestTo_46 ⟨Nat.le_of_ble_eq_true rfl, Nat.le_of_ble_eq_true rfl⟩) (fun r_46 u H locs hw hP hD hS => ?_)
            obtain ⟨ht2_46, bu2_46, hg2_46, pq2_46, ld2_46, fo2_46, nw2_46, fw2_46⟩ := u
            have hw_46 : r_46 = cGR n (mST (mMov s0 j i)) (mWE (mMov s0 j i)) (mHA (mMov s0 j i)) (mPR (mMov s0 j i)) (mSE (mMov s0 j i)) ∧ okB n (mST (mMov s0 j i)) (mWE (mMov s0 j i)) (mHA (mMov s0 j i)) (mPR (mMov s0 j i)) (mSE (mMov s0 j i)) ht2_46 bu2_46 hg2_46 pq2_46 ld2_46 fo2_46 ∧ nw2_46 = cAH n (mST (mMov s0 j i)) (mWE (mMov s0 j i)) (mHA (mMov s0 j i)) (mPR (mMov s0 j i)) (mSE (mMov s0 j i)) ∧ fw2_46 = cBE n (mST (mMov s0 j i)) (mWE (mMov s0 j i)) (mHA (mMov s0 j i)) (mPR (mMov s0 j i)) (mSE (mMov s0 j i)) := hw
            have hP : va_P G.1 vwCl [(m0, .inr (6, [.int (nI (th)), .ref ms, .ref mv, .int (nI (sm)), .ref mt, .int (nI (ln)), .ref mh, .ref mb, .ref mg, .ref mq, .ref ml, .ref mf, .int nw2_46, .int fw2_46, .int (nI (tp)), .int (bI (wr)), .long dg])), (ms, .inl (G.2.1, 88, .inl (mMov s0 j i))), (mv, .inl (G.2.1, 528, .inl sv)), (mt, .inl (G.2.1, 60, .inl tx)), (mh, .inl (G.2.1, 21, .inl ht2_46)), (mb, .inl (G.2.1, 21, .inl bu2_46)), (mg, .inl (G.2.1, 21, .inl hg2_46)), (mq, .inl (G.2.1, 21, .inl pq2_46)), (ml, .inl (G.2.1, 21, .inl ld2_46)), (mf, .inl (G.2.1, 20, .inl fo2_46))] H := hP
            have hD : va_D A [(m0, .inr (6, [.int (nI (th)), .ref ms, .ref mv, .int (nI (sm)), .ref mt, .int (nI (ln)), .ref mh, .ref mb, .ref mg, .ref mq, .ref ml, .ref mf, .int nw2_46, .int fw2_46, .int (nI (tp)), .int (bI (wr)), .long dg])), (ms, .inl (G.2.1, 88, .inl (mMov s0 j i))), (mv, .inl (G.2.1, 528, .inl sv)), (mt, .inl (G.2.1, 60, .inl tx)), (mh, .inl (G.2.1, 21, .inl ht2_46)), (mb, .inl (G.2.1, 21, .inl bu2_46)), (mg, .inl (G.2.1, 21, .inl hg2_46)), (mq, .inl (G.2.1, 21, .inl pq2_46)), (ml, .inl (G.2.1, 21, .inl ld2_46)), (mf, .inl (G.2.1, 20, .inl fo2_46))] := hD
            obtain ⟨rfl, hw_46⟩ := hw_46
            refine g_ti (y := gMv n (mST s0) (mWE s0) (mHA s0) (mPR s0) (mSE s0) j i) (mGR_mov hok hj (by omega) (by omega)) ?_
            refine lv_istore (lv' := [(6, .int (gMv n (mST s0) (mWE s0) (mHA s0) (mPR s0) (mSE s0) j i)), (5, .int (mvBy (mWE s0) j i)), (4, .int (nI i)), (3, .int le), (2, .int fd), (0, .ref m0), (1, .int (nI (j)))]) hx hb dX6_bestTo_49 hl (by decide) rfl (fun ls hl => ?_)
            refine lv_aload_n hx hb dX6_bestTo_51 rfl (lv_at hl 5 rfl) ?_
            refine va_get (D := G.1) (ci := 6) (v := .ref ms) (C := RX6) (T := TX6) (N := 17) hx hb hts hinX6 hown hK hP 0 rfl rfl 1 (by decide) hf7 (fun _ h9 => h9) rfl dX6_bestTo_52 ?_
            refine lv_bipush (v := 25) hx hb dX6_bestTo_55 (by decide) ?_
            refine lv_iload_n hx hb dX6_bestTo_57 rfl (lv_at hl 6 rfl) ?_
            refine lv_iadd hx hb dX6_bestTo_58 ?_
            refine g_ti (y := nI (25 + j)) (nI_add (25) (j)) ?_
            refine lv_dup2_11 hx hb dX6_bestTo_59 rfl rfl ?_
            refine g_iald (k := 25 + j) hx hb hK hP 1 rfl (by omega) (by omega) dX6_bestTo_60 ?_
            refine lv_iload hx hb dX6_bestTo_61 (lv_at hl 1 rfl) ?_
            refine lv_iadd hx hb dX6_bestTo_63 ?_
            refine g_iast (k := 25 + j) hx hb hK hP hD hS 1 rfl (by omega) (by omega) dX6_bestTo_64 (fun H locs hP hD hS => ?_)
            have hP : va_P G.1 vwCl [(m0, .inr (6, [.int (nI (th)), .ref ms, .ref mv, .int (nI (sm)), .ref mt, .int (nI (ln)), .ref mh, .ref mb, .ref mg, .ref mq, .ref ml, .ref mf, .int nw2_46, .int fw2_46, .int (nI (tp)), .int (bI (wr)), .long dg])), (ms, .inl (G.2.1, 88, .inl (upd (mMov s0 j i) (25 + j) (((mMov s0 j i) (25 + j)) + (mvBy (mWE s0) j i))))), (mv, .inl (G.2.1, 528, .inl sv)), (mt, .inl (G.2.1, 60, .inl tx)), (mh, .inl (G.2.1, 21, .inl ht2_46)), (mb, .inl (G.2.1, 21, .inl bu2_46)), (mg, .inl (G.2.1, 21, .inl hg2_46)), (mq, .inl (G.2.1, 21, .inl pq2_46)), (ml, .inl (G.2.1, 21, .inl ld2_46)), (mf, .inl (G.2.1, 20, .inl fo2_46))] H := hP
            have hD : va_D A [(m0, .inr (6, [.int (nI (th)), .ref ms, .ref mv, .int (nI (sm)), .ref mt, .int (nI (ln)), .ref mh, .ref mb, .ref mg, .ref mq, .ref ml, .ref mf, .int nw2_46, .int fw2_46, .int (nI (tp)), .int (bI (wr)), .long dg])), (ms, .inl (G.2.1, 88, .inl (upd (mMov s0 j i) (25 + j) (((mMov s0 j i) (25 + j)) + (mvBy (mWE s0) j i))))), (mv, .inl (G.2.1, 528, .inl sv)), (mt, .inl (G.2.1, 60, .inl tx)), (mh, .inl (G.2.1, 21, .inl ht2_46)), (mb, .inl (G.2.1, 21, .inl bu2_46)), (mg, .inl (G.2.1, 21, .inl hg2_46)), (mq, .inl (G.2.1, 21, .inl pq2_46)), (ml, .inl (G.2.1, 21, .inl ld2_46)), (mf, .inl (G.2.1, 20, .inl fo2_46))] := hD
            refine lv_aload_n hx hb dX6_bestTo_65 rfl (lv_at hl 5 rfl) ?_
            refine va_get (D := G.1) (ci := 6) (v := .ref ms) (C := RX6) (T := TX6) (N := 17) hx hb hts hinX6 hown hK hP 0 rfl rfl 1 (by decide) hf7 (fun _ h9 => h9) rfl dX6_bestTo_66 ?_
            refine lv_bipush (v := 25) hx hb dX6_bestTo_69 (by decide) ?_
            refine lv_iload hx hb dX6_bestTo_71 (lv_at hl 2 rfl) ?_
            refine lv_iadd hx hb dX6_bestTo_73 ?_
            refine g_ti (y := nI (25 + i)) (nI_add (25) (i)) ?_
            refine lv_dup2_11 hx hb dX6_bestTo_74 rfl rfl ?_
            refine g_iald (k := 25 + i) hx hb hK hP 1 rfl (by omega) (by omega) dX6_bestTo_75 ?_
            refine lv_iload hx hb dX6_bestTo_76 (lv_at hl 1 rfl) ?_
            refine lv_isub hx hb dX6_bestTo_78 ?_
            refine g_iast (k := 25 + i) hx hb hK hP hD hS 1 rfl (by omega) (by omega) dX6_bestTo_79 (fun H locs hP hD hS => ?_)
            have hP : va_P G.1 vwCl [(m0, .inr (6, [.int (nI (th)), .ref ms, .ref mv, .int (nI (sm)), .ref mt, .int (nI (ln)), .ref mh, .ref mb, .ref mg, .ref mq, .ref ml, .ref mf, .int nw2_46, .int fw2_46, .int (nI (tp)), .int (bI (wr)), .long dg])), (ms, .inl (G.2.1, 88, .inl (upd (upd (mMov s0 j i) (25 + j) (((mMov s0 j i) (25 + j)) + (mvBy (mWE s0) j i))) (25 + i) (((upd (mMov s0 j i) (25 + j) (((mMov s0 j i) (25 + j)) + (mvBy (mWE s0) j i))) (25 + i)) - (mvBy (mWE s0) j i))))), (mv, .inl (G.2.1, 528, .inl sv)), (mt, .inl (G.2.1, 60, .inl tx)), (mh, .inl (G.2.1, 21, .inl ht2_46)), (mb, .inl (G.2.1, 21, .inl bu2_46)), (mg, .inl (G.2.1, 21, .inl hg2_46)), (mq, .inl (G.2.1, 21, .inl pq2_46)), (ml, .inl (G.2.1, 21, .inl ld2_46)), (mf, .inl (G.2.1, 20, .inl fo2_46))] H := hP
            have hD : va_D A [(m0, .inr (6, [.int (nI (th)), .ref ms, .ref mv, .int (nI (sm)), .ref mt, .int (nI (ln)), .ref mh, .ref mb, .ref mg, .ref mq, .ref ml, .ref mf, .int nw2_46, .int fw2_46, .int (nI (tp)), .int (bI (wr)), .long dg])), (ms, .inl (G.2.1, 88, .inl (upd (upd (mMov s0 j i) (25 + j) (((mMov s0 j i) (25 + j)) + (mvBy (mWE s0) j i))) (25 + i) (((upd (mMov s0 j i) (25 + j) (((mMov s0 j i) (25 + j)) + (mvBy (mWE s0) j i))) (25 + i)) - (mvBy (mWE s0) j i))))), (mv, .inl (G.2.1, 528, .inl sv)), (mt, .inl (G.2.1, 60, .inl tx)), (mh, .inl (G.2.1, 21, .inl ht2_46)), (mb, .inl (G.2.1, 21, .inl bu2_46)), (mg, .inl (G.2.1, 21, .inl hg2_46)), (mq, .inl (G.2.1, 21, .inl pq2_46)), (ml, .inl (G.2.1, 21, .inl ld2_46)), (mf, .inl (G.2.1, 20, .inl fo2_46))] := hD
            refine lv_iload_n hx hb dX6_bestTo_80 rfl (lv_at hl 4 rfl) ?_
            refine lv_iconst (v := (-1)) hx hb dX6_bestTo_81 (by decide) ?_
            refine lv_icmp_eq (tgt := 91) hx hb dX6_bestTo_82 (by decide) (fun c_82 => ?_) (fun c_82 => ?_)
            · skip
              refine lv_iconst (v := 1) hx hb dX6_bestTo_91 (by decide) ?_
              refine lv_goto (tgt := 96) hx hb dX6_bestTo_92 (by decide) ?_
              refine lv_istore (lv' := [(7, .int 1), (6, .int (gMv n (mST s0) (mWE s0) (mHA s0) (mPR s0) (mSE s0) j i)), (5, .int (mvBy (mWE s0) j i)), (4, .int (nI i)), (3, .int le), (2, .int fd), (0, .ref m0), (1, .int (nI (j)))]) hx hb dX6_bestTo_96 hl (by decide) rfl (fun ls hl => ?_)
              refine lv_iload hx hb dX6_bestTo_98 (lv_at hl 0 rfl) ?_
              refine g_if_eq (a := 1) (tgt := 108) hx hb (by omega) dX6_bestTo_100 (by decide) (fun c_100 => ?_) (fun c_100 => ?_)
              · exact absurd c_100 (by decide)
              · skip
                refine lv_iload hx hb dX6_bestTo_103 (lv_at hl 3 rfl) ?_
                refine lv_goto (tgt := 109) hx hb dX6_bestTo_105 (by decide) ?_
                refine lv_istore_n (lv' := [(2, .int (nI i)), (7, .int 1), (6, .int (gMv n (mST s0) (mWE s0) (mHA s0) (mPR s0) (mSE s0) j i)), (5, .int (mvBy (mWE s0) j i)), (4, .int (nI i)), (3, .int le), (0, .ref m0), (1, .int (nI (j)))]) hx hb dX6_bestTo_109 rfl hl (by decide) rfl (fun ls hl => ?_)
                refine lv_iload hx hb dX6_bestTo_110 (lv_at hl 1 rfl) ?_
                refine g_if_eq (a := 1) (tgt := 120) hx hb (by omega) dX6_bestTo_112 (by decide) (fun c_112 => ?_) (fun c_112 => ?_)
                · exact absurd c_112 (by decide)
                · skip
                  refine lv_iload hx hb dX6_bestTo_115 (lv_at hl 2 rfl) ?_
                  refine lv_goto (tgt := 121) hx hb dX6_bestTo_117 (by decide) ?_
                  refine lv_istore_n (lv' := [(3, .int (gMv n (mST s0) (mWE s0) (mHA s0) (mPR s0) (mSE s0) j i)), (2, .int (nI i)), (7, .int 1), (6, .int (gMv n (mST s0) (mWE s0) (mHA s0) (mPR s0) (mSE s0) j i)), (5, .int (mvBy (mWE s0) j i)), (4, .int (nI i)), (0, .ref m0), (1, .int (nI (j)))]) hx hb dX6_bestTo_121 rfl hl (by decide) rfl (fun ls hl => ?_)
                  refine lv_iinc (v := nI (i + 1)) (lv' := [(4, .int (nI (i + 1))), (3, .int (gMv n (mST s0) (mWE s0) (mHA s0) (mPR s0) (mSE s0) j i)), (2, .int (nI i)), (7, .int 1), (6, .int (gMv n (mST s0) (mWE s0) (mHA s0) (mPR s0) (mSE s0) j i)), (5, .int (mvBy (mWE s0) j i)), (0, .ref m0), (1, .int (nI (j)))]) hx hb dX6_bestTo_122 hl (k := 5) rfl (nI_add (i) 1) (by decide) rfl (fun ls hl => ?_)
                  refine lv_goto (tgt := 7) hx hb dX6_bestTo_125 (by decide) ?_
                  have hfx_1 : (upd (upd (mMov s0 j i) (25 + j) (((mMov s0 j i) (25 + j)) + (mvBy (mWE s0) j i))) (25 + i) (((upd (mMov s0 j i) (25 + j) (((mMov s0 j i) (25 + j)) + (mvBy (mWE s0) j i))) (25 + i)) - (mvBy (mWE s0) j i)) : Nat → Int32) = s0 := mMov_back (by omega)
                  have hP : va_P G.1 vwCl [(m0, .inr (6, [.int (nI (th)), .ref ms, .ref mv, .int (nI (sm)), .ref mt, .int (nI (ln)), .ref mh, .ref mb, .ref mg, .ref mq, .ref ml, .ref mf, .int nw2_46, .int fw2_46, .int (nI (tp)), .int (bI (wr)), .long dg])), (ms, .inl (G.2.1, 88, .inl s0)), (mv, .inl (G.2.1, 528, .inl sv)), (mt, .inl (G.2.1, 60, .inl tx)), (mh, .inl (G.2.1, 21, .inl ht2_46)), (mb, .inl (G.2.1, 21, .inl bu2_46)), (mg, .inl (G.2.1, 21, .inl hg2_46)), (mq, .inl (G.2.1, 21, .inl pq2_46)), (ml, .inl (G.2.1, 21, .inl ld2_46)), (mf, .inl (G.2.1, 20, .inl fo2_46))] H := by rw [← hfx_1]; exact hP
                  have hD : va_D A [(m0, .inr (6, [.int (nI (th)), .ref ms, .ref mv, .int (nI (sm)), .ref mt, .int (nI (ln)), .ref mh, .ref mb, .ref mg, .ref mq, .ref ml, .ref mf, .int nw2_46, .int fw2_46, .int (nI (tp)), .int (bI (wr)), .long dg])), (ms, .inl (G.2.1, 88, .inl s0)), (mv, .inl (G.2.1, 528, .inl sv)), (mt, .inl (G.2.1, 60, .inl tx)), (mh, .inl (G.2.1, 21, .inl ht2_46)), (mb, .inl (G.2.1, 21, .inl bu2_46)), (mg, .inl (G.2.1, 21, .inl hg2_46)), (mq, .inl (G.2.1, 21, .inl pq2_46)), (ml, .inl (G.2.1, 21, .inl ld2_46)), (mf, .inl (G.2.1, 20, .inl fo2_46))] := by rw [← hfx_1]; exact hD
                  exact ih7 (i + 1) (nI i) (gMv n (mST s0) (mWE s0) (mHA s0) (mPR s0) (mSE s0) j i) ht2_46 bu2_46 hg2_46 pq2_46 ld2_46 fo2_46 nw2_46 fw2_46 (by first | assumption | omega) (bst_t hB c_33 (Or.inl c_82)) (fun q => absurd q c_27) (by omega) _ _ _ hP hD hS (lv_sub hl [0, 1, 2, 6, 7] rfl)
            · skip
              refine lv_iload hx hb dX6_bestTo_85 (lv_at hl 0 rfl) ?_
              refine lv_iload_n hx hb dX6_bestTo_87 rfl (lv_at hl 3 rfl) ?_
              refine lv_icmp_ge (tgt := 95) hx hb dX6_bestTo_88 (by decide) (fun c_88 => ?_) (fun c_88 => ?_)
              · skip
                refine lv_iconst (v := 0) hx hb dX6_bestTo_95 (by decide) ?_
                refine lv_istore (lv' := [(7, .int 0), (6, .int (gMv n (mST s0) (mWE s0) (mHA s0) (mPR s0) (mSE s0) j i)), (5, .int (mvBy (mWE s0) j i)), (4, .int (nI i)), (3, .int le), (2, .int fd), (0, .ref m0), (1, .int (nI (j)))]) hx hb dX6_bestTo_96 hl (by decide) rfl (fun ls hl => ?_)
                refine lv_iload hx hb dX6_bestTo_98 (lv_at hl 0 rfl) ?_
                refine g_if_eq (a := 0) (tgt := 108) hx hb (by omega) dX6_bestTo_100 (by decide) (fun c_100 => ?_) (fun c_100 => ?_)
                · skip
                  refine lv_iload_n hx hb dX6_bestTo_108 rfl (lv_at hl 5 rfl) ?_
                  refine lv_istore_n (lv' := [(2, .int fd), (7, .int 0), (6, .int (gMv n (mST s0) (mWE s0) (mHA s0) (mPR s0) (mSE s0) j i)), (5, .int (mvBy (mWE s0) j i)), (4, .int (nI i)), (3, .int le), (0, .ref m0), (1, .int (nI (j)))]) hx hb dX6_bestTo_109 rfl hl (by decide) rfl (fun ls hl => ?_)
                  refine lv_iload hx hb dX6_bestTo_110 (lv_at hl 1 rfl) ?_
                  refine g_if_eq (a := 0) (tgt := 120) hx hb (by omega) dX6_bestTo_112 (by decide) (fun c_112 => ?_) (fun c_112 => ?_)
                  · skip
                    refine lv_iload_n hx hb dX6_bestTo_120 rfl (lv_at hl 5 rfl) ?_
                    refine lv_istore_n (lv' := [(3, .int le), (2, .int fd), (7, .int 0), (6, .int (gMv n (mST s0) (mWE s0) (mHA s0) (mPR s0) (mSE s0) j i)), (5, .int (mvBy (mWE s0) j i)), (4, .int (nI i)), (0, .ref m0), (1, .int (nI (j)))]) hx hb dX6_bestTo_121 rfl hl (by decide) rfl (fun ls hl => ?_)
                    refine lv_iinc (v := nI (i + 1)) (lv' := [(4, .int (nI (i + 1))), (3, .int le), (2, .int fd), (7, .int 0), (6, .int (gMv n (mST s0) (mWE s0) (mHA s0) (mPR s0) (mSE s0) j i)), (5, .int (mvBy (mWE s0) j i)), (0, .ref m0), (1, .int (nI (j)))]) hx hb dX6_bestTo_122 hl (k := 5) rfl (nI_add (i) 1) (by decide) rfl (fun ls hl => ?_)
                    refine lv_goto (tgt := 7) hx hb dX6_bestTo_125 (by decide) ?_
                    have hfx_2 : (upd (upd (mMov s0 j i) (25 + j) (((mMov s0 j i) (25 + j)) + (mvBy (mWE s0) j i))) (25 + i) (((upd (mMov s0 j i) (25 + j) (((mMov s0 j i) (25 + j)) + (mvBy (mWE s0) j i))) (25 + i)) - (mvBy (mWE s0) j i)) : Nat → Int32) = s0 := mMov_back (by omega)
                    have hP : va_P G.1 vwCl [(m0, .inr (6, [.int (nI (th)), .ref ms, .ref mv, .int (nI (sm)), .ref mt, .int (nI (ln)), .ref mh, .ref mb, .ref mg, .ref mq, .ref ml, .ref mf, .int nw2_46, .int fw2_46, .int (nI (tp)), .int (bI (wr)), .long dg])), (ms, .inl (G.2.1, 88, .inl s0)), (mv, .inl (G.2.1, 528, .inl sv)), (mt, .inl (G.2.1, 60, .inl tx)), (mh, .inl (G.2.1, 21, .inl ht2_46)), (mb, .inl (G.2.1, 21, .inl bu2_46)), (mg, .inl (G.2.1, 21, .inl hg2_46)), (mq, .inl (G.2.1, 21, .inl pq2_46)), (ml, .inl (G.2.1, 21, .inl ld2_46)), (mf, .inl (G.2.1, 20, .inl fo2_46))] H := by rw [← hfx_2]; exact hP
                    have hD : va_D A [(m0, .inr (6, [.int (nI (th)), .ref ms, .ref mv, .int (nI (sm)), .ref mt, .int (nI (ln)), .ref mh, .ref mb, .ref mg, .ref mq, .ref ml, .ref mf, .int nw2_46, .int fw2_46, .int (nI (tp)), .int (bI (wr)), .long dg])), (ms, .inl (G.2.1, 88, .inl s0)), (mv, .inl (G.2.1, 528, .inl sv)), (mt, .inl (G.2.1, 60, .inl tx)), (mh, .inl (G.2.1, 21, .inl ht2_46)), (mb, .inl (G.2.1, 21, .inl bu2_46)), (mg, .inl (G.2.1, 21, .inl hg2_46)), (mq, .inl (G.2.1, 21, .inl pq2_46)), (ml, .inl (G.2.1, 21, .inl ld2_46)), (mf, .inl (G.2.1, 20, .inl fo2_46))] := by rw [← hfx_2]; exact hD
                    exact ih7 (i + 1) fd le ht2_46 bu2_46 hg2_46 pq2_46 ld2_46 fo2_46 nw2_46 fw2_46 (by first | assumption | omega) (bst_k hB c_33 c_82 (i32_nlt c_88)) (fun q => absurd q c_27) (by omega) _ _ _ hP hD hS (lv_sub hl [0, 1, 2, 6, 7] rfl)
                  · exact absurd c_112 (by decide)
                · exact absurd c_100 (by decide)
              · skip
                refine lv_iconst (v := 1) hx hb dX6_bestTo_91 (by decide) ?_
                refine lv_goto (tgt := 96) hx hb dX6_bestTo_92 (by decide) ?_
                refine lv_istore (lv' := [(7, .int 1), (6, .int (gMv n (mST s0) (mWE s0) (mHA s0) (mPR s0) (mSE s0) j i)), (5, .int (mvBy (mWE s0) j i)), (4, .int (nI i)), (3, .int le), (2, .int fd), (0, .ref m0), (1, .int (nI (j)))]) hx hb dX6_bestTo_96 hl (by decide) rfl (fun ls hl => ?_)
                refine lv_iload hx hb dX6_bestTo_98 (lv_at hl 0 rfl) ?_
                refine g_if_eq (a := 1) (tgt := 108) hx hb (by omega) dX6_bestTo_100 (by decide) (fun c_100 => ?_) (fun c_100 => ?_)
                · exact absurd c_100 (by decide)
                · skip
                  refine lv_iload hx hb dX6_bestTo_103 (lv_at hl 3 rfl) ?_
                  refine lv_goto (tgt := 109) hx hb dX6_bestTo_105 (by decide) ?_
                  refine lv_istore_n (lv' := [(2, .int (nI i)), (7, .int 1), (6, .int (gMv n (mST s0) (mWE s0) (mHA s0) (mPR s0) (mSE s0) j i)), (5, .int (mvBy (mWE s0) j i)), (4, .int (nI i)), (3, .int le), (0, .ref m0), (1, .int (nI (j)))]) hx hb dX6_bestTo_109 rfl hl (by decide) rfl (fun ls hl => ?_)
                  refine lv_iload hx hb dX6_bestTo_110 (lv_at hl 1 rfl) ?_
                  refine g_if_eq (a := 1) (tgt := 120) hx hb (by omega) dX6_bestTo_112 (by decide) (fun c_112 => ?_) (fun c_112 => ?_)
                  · exact absurd c_112 (by decide)
                  · skip
                    refine lv_iload hx hb dX6_bestTo_115 (lv_at hl 2 rfl) ?_
                    refine lv_goto (tgt := 121) hx hb dX6_bestTo_117 (by decide) ?_
                    refine lv_istore_n (lv' := [(3, .int (gMv n (mST s0) (mWE s0) (mHA s0) (mPR s0) (mSE s0) j i)), (2, .int (nI i)), (7, .int 1), (6, .int (gMv n (mST s0) (mWE s0) (mHA s0) (mPR s0) (mSE s0) j i)), (5, .int (mvBy (mWE s0) j i)), (4, .int (nI i)), (0, .ref m0), (1, .int (nI (j)))]) hx hb dX6_bestTo_121 rfl hl (by decide) rfl (fun ls hl => ?_)
                    refine lv_iinc (v := nI (i + 1)) (lv' := [(4, .int (nI (i + 1))), (3, .int (gMv n (mST s0) (mWE s0) (mHA s0) (mPR s0) (mSE s0) j i)), (2, .int (nI i)), (7, .int 1), (6, .int (gMv n (mST s0) (mWE s0) (mHA s0) (mPR s0) (mSE s0) j i)), (5, .int (mvBy (mWE s0) j i)), (0, .ref m0), (1, .int (nI (j)))]) hx hb dX6_bestTo_122 hl (k := 5) rfl (nI_add (i) 1) (by decide) rfl (fun ls hl => ?_)
                    refine lv_goto (tgt := 7) hx hb dX6_bestTo_125 (by decide) ?_
                    have hfx_3 : (upd (upd (mMov s0 j i) (25 + j) (((mMov s0 j i) (25 + j)) + (mvBy (mWE s0) j i))) (25 + i) (((upd (mMov s0 j i) (25 + j) (((mMov s0 j i) (25 + j)) + (mvBy (mWE s0) j i))) (25 + i)) - (mvBy (mWE s0) j i)) : Nat → Int32) = s0 := mMov_back (by omega)
                    have hP : va_P G.1 vwCl [(m0, .inr (6, [.int (nI (th)), .ref ms, .ref mv, .int (nI (sm)), .ref mt, .int (nI (ln)), .ref mh, .ref mb, .ref mg, .ref mq, .ref ml, .ref mf, .int nw2_46, .int fw2_46, .int (nI (tp)), .int (bI (wr)), .long dg])), (ms, .inl (G.2.1, 88, .inl s0)), (mv, .inl (G.2.1, 528, .inl sv)), (mt, .inl (G.2.1, 60, .inl tx)), (mh, .inl (G.2.1, 21, .inl ht2_46)), (mb, .inl (G.2.1, 21, .inl bu2_46)), (mg, .inl (G.2.1, 21, .inl hg2_46)), (mq, .inl (G.2.1, 21, .inl pq2_46)), (ml, .inl (G.2.1, 21, .inl ld2_46)), (mf, .inl (G.2.1, 20, .inl fo2_46))] H := by rw [← hfx_3]; exact hP
                    have hD : va_D A [(m0, .inr (6, [.int (nI (th)), .ref ms, .ref mv, .int (nI (sm)), .ref mt, .int (nI (ln)), .ref mh, .ref mb, .ref mg, .ref mq, .ref ml, .ref mf, .int nw2_46, .int fw2_46, .int (nI (tp)), .int (bI (wr)), .long dg])), (ms, .inl (G.2.1, 88, .inl s0)), (mv, .inl (G.2.1, 528, .inl sv)), (mt, .inl (G.2.1, 60, .inl tx)), (mh, .inl (G.2.1, 21, .inl ht2_46)), (mb, .inl (G.2.1, 21, .inl bu2_46)), (mg, .inl (G.2.1, 21, .inl hg2_46)), (mq, .inl (G.2.1, 21, .inl pq2_46)), (ml, .inl (G.2.1, 21, .inl ld2_46)), (mf, .inl (G.2.1, 20, .inl fo2_46))] := by rw [← hfx_3]; exact hD
                    exact ih7 (i + 1) (nI i) (gMv n (mST s0) (mWE s0) (mHA s0) (mPR s0) (mSE s0) j i) ht2_46 bu2_46 hg2_46 pq2_46 ld2_46 fo2_46 nw2_46 fw2_46 (by first | assumption | omega) (bst_t hB c_33 (Or.inr (i32_lt c_88))) (fun q => absurd q c_27) (by omega) _ _ _ hP hD hS (lv_sub hl [0, 1, 2, 6, 7] rfl)
  exact L7 (n + 1 - 0 + 1) 0 (-1) 0 ht bu hg pq ld fo nw fw (by first | assumption | omega) (rfl) (fun _ => rfl) (Nat.lt_succ_self _) _ _ _ hP hD hS (lv_sub hl [0, 1, 2, 3, 4] rfl)
set_option maxHeartbeats 4000000 in
set_option maxRecDepth 100000 in
theorem c_X6_bestMove_1 (l : Launch) (G : kG) (m0 : Nat) (ms : Nat) (mv : Nat) (mt : Nat) (mh : Nat) (mb : Nat) (mg : Nat) (mq : Nat) (ml : Nat) (mf : Nat) (th : Nat) (s0 : Fn) (sv : Fn) (sm : Nat) (tx : Fn) (ln : Nat) (ht : Fn) (bu : Fn) (hg : Fn) (pq : Fn) (ld : Fn) (fo : Fn) (nw : Int32) (fw : Int32) (tp : Nat) (wr : Bool) (dg : Int64) (k : Int32) (n : Nat) (sz : Nat) (hok : mOK s0 n) (h1 : isN k (n + 1) = false) : kMet l yX6_bestMove wsX6_bestMove ({ frames := 4, cells := 0, slots := 0, locals := 95 } : Room) G [.ref m0, .int k] [(m0, .inr (6, [.int (nI (th)), .ref ms, .ref mv, .int (nI (sm)), .ref mt, .int (nI (ln)), .ref mh, .ref mb, .ref mg, .ref mq, .ref ml, .ref mf, .int nw, .int fw, .int (nI (tp)), .int (bI (wr)), .long dg])), (ms, .inl (G.2.1, 88, .inl s0)), (mv, .inl (G.2.1, 528, .inl sv)), (mt, .inl (G.2.1, 60, .inl tx)), (mh, .inl (G.2.1, 21, .inl ht)), (mb, .inl (G.2.1, 21, .inl bu)), (mg, .inl (G.2.1, 21, .inl hg)), (mq, .inl (G.2.1, 21, .inl pq)), (ml, .inl (G.2.1, 21, .inl ld)), (mf, .inl (G.2.1, 20, .inl fo))] sz (kQi G (fun (r : Int32) (u : Unit) => r = 0) (fun (u : Unit) => [(m0, .inr (6, [.int (nI 1), .ref ms, .ref mv, .int (nI (sm)), .ref mt, .int (nI (ln)), .ref mh, .ref mb, .ref mg, .ref mq, .ref ml, .ref mf, .int nw, .int fw, .int (nI (tp)), .int (bI (wr)), .long dg])), (ms, .inl (G.2.1, 88, .inl s0)), (mv, .inl (G.2.1, 528, .inl sv)), (mt, .inl (G.2.1, 60, .inl tx)), (mh, .inl (G.2.1, 21, .inl ht)), (mb, .inl (G.2.1, 21, .inl bu)), (mg, .inl (G.2.1, 21, .inl hg)), (mq, .inl (G.2.1, 21, .inl pq)), (ml, .inl (G.2.1, 21, .inl ld)), (mf, .inl (G.2.1, 20, .inl fo))])) 0 0 := by
  refine k_entry (cc := cX6_bestMove) (maxL := 2) (ret := (some .int)) (by decide) rfl (Nat.le_of_ble_eq_true rfl) ?_
  intro p e s m args below meth c A ls H locs Q hQ hx hb hml hr hts hown hlocks hin hA hP hK hD hS hl
  have hown : s.vm.findClass RX6 = some m.cls := hown
  have hl : lv_has ls 2 [(0, .ref m0), (1, .int k)] := hl
  obtain ⟨hs0, hn1, hn, hv⟩ := id hok
  refine lv_aload_n hx hb dX6_bestMove_0 rfl (lv_at hl 0 rfl) ?_
  refine lv_aload_n hx hb dX6_bestMove_1 rfl (lv_at hl 0 rfl) ?_
  refine lv_iload_n hx hb dX6_bestMove_2 rfl (lv_at hl 1 rfl) ?_
  refine k_ci (wr := []) [] rfl (by decide) [0, 1, 2, 3, 4, 5, 6, 7, 8, 9] rfl (by decide) hP hD hS hA (k_V (n := 1) (ci := 6) (As := [.int k]) (rest := [.ref m0]) (wc := [(m0, .inr (6, [.int (nI (th)), .ref ms, .ref mv, .int (nI (sm)), .ref mt, .int (nI (ln)), .ref mh, .ref mb, .ref mg, .ref mq, .ref ml, .ref mf, .int nw, .int fw, .int (nI (tp)), .int (bI (wr)), .long dg])), (ms, .inl (G.2.1, 88, .inl s0)), (mv, .inl (G.2.1, 528, .inl sv)), (mt, .inl (G.2.1, 60, .inl tx)), (mh, .inl (G.2.1, 21, .inl ht)), (mb, .inl (G.2.1, 21, .inl bu)), (mg, .inl (G.2.1, 21, .inl hg)), (mq, .inl (G.2.1, 21, .inl pq)), (ml, .inl (G.2.1, 21, .inl ld)), (mf, .inl (G.2.1, 20, .inl fo))]) hx hb hml hown hts hK hP hD hl (c_X6_isJoint l G m0 ms mv mt mh mb mg mq ml mf th s0 sv sm tx ln ht bu hg pq ld fo nw fw tp wr dg k n H.size (by first | assumption | omega)) [0, 1, 2, 3, 4, 5, 6, 7, 8, 9] rfl (by decide) gX6_bestMove_X6_isJoint rfl rfl rfl (by decide +kernel) rfl ⟨Nat.le_of_ble_eq_true rfl, Nat.le_of_ble_eq_true rfl⟩ rfl rfl rfl (Nat.le_of_ble_eq_true rfl) dX6_bestMove_3 ⟨Nat.le_of_ble_eq_true rfl, Nat.le_of_ble_eq_true rfl⟩) (fun r_3 u H locs hw hP hD hS => ?_)
  have hw_3 : r_3 = bI (isN k (n + 1)) := hw
  have hP : va_P G.1 vwCl [(m0, .inr (6, [.int (nI (th)), .ref ms, .ref mv, .int (nI (sm)), .ref mt, .int (nI (ln)), .ref mh, .ref mb, .ref mg, .ref mq, .ref ml, .ref mf, .int nw, .int fw, .int (nI (tp)), .int (bI (wr)), .long dg])), (ms, .inl (G.2.1, 88, .inl s0)), (mv, .inl (G.2.1, 528, .inl sv)), (mt, .inl (G.2.1, 60, .inl tx)), (mh, .inl (G.2.1, 21, .inl ht)), (mb, .inl (G.2.1, 21, .inl bu)), (mg, .inl (G.2.1, 21, .inl hg)), (mq, .inl (G.2.1, 21, .inl pq)), (ml, .inl (G.2.1, 21, .inl ld)), (mf, .inl (G.2.1, 20, .inl fo))] H := hP
  have hD : va_D A [(m0, .inr (6, [.int (nI (th)), .ref ms, .ref mv, .int (nI (sm)), .ref mt, .int (nI (ln)), .ref mh, .ref mb, .ref mg, .ref mq, .ref ml, .ref mf, .int nw, .int fw, .int (nI (tp)), .int (bI (wr)), .long dg])), (ms, .inl (G.2.1, 88, .inl s0)), (mv, .inl (G.2.1, 528, .inl sv)), (mt, .inl (G.2.1, 60, .inl tx)), (mh, .inl (G.2.1, 21, .inl ht)), (mb, .inl (G.2.1, 21, .inl bu)), (mg, .inl (G.2.1, 21, .inl hg)), (mq, .inl (G.2.1, 21, .inl pq)), (ml, .inl (G.2.1, 21, .inl ld)), (mf, .inl (G.2.1, 20, .inl fo))] := hD
  subst hw_3
  refine g_ti (y := nI 0) (by rw [h1]; rfl) ?_
  refine g_if_eq (a := 0) (tgt := 13) hx hb (by omega) dX6_bestMove_6 (by decide) (fun c_6 => ?_) (fun c_6 => ?_)
  · skip
    refine lv_iconst (v := 1) hx hb dX6_bestMove_13 (by decide) ?_
    refine k_ci (wr := []) [] rfl (by decide) [0, 1, 2, 3, 4, 5, 6, 7, 8, 9] rfl (by decide) hP hD hS hA (k_V (n := 1) (ci := 6) (As := [.int 1]) (rest := []) (wc := [(m0, .inr (6, [.int (nI (th)), .ref ms, .ref mv, .int (nI (sm)), .ref mt, .int (nI (ln)), .ref mh, .ref mb, .ref mg, .ref mq, .ref ml, .ref mf, .int nw, .int fw, .int (nI (tp)), .int (bI (wr)), .long dg])), (ms, .inl (G.2.1, 88, .inl s0)), (mv, .inl (G.2.1, 528, .inl sv)), (mt, .inl (G.2.1, 60, .inl tx)), (mh, .inl (G.2.1, 21, .inl ht)), (mb, .inl (G.2.1, 21, .inl bu)), (mg, .inl (G.2.1, 21, .inl hg)), (mq, .inl (G.2.1, 21, .inl pq)), (ml, .inl (G.2.1, 21, .inl ld)), (mf, .inl (G.2.1, 20, .inl fo))]) hx hb hml hown hts hK hP hD hl (c_X6_holds l G m0 ms mv mt mh mb mg mq ml mf th s0 sv sm tx ln ht bu hg pq ld fo nw fw tp wr dg 1 H.size (by first | assumption | omega)) [0, 1, 2, 3, 4, 5, 6, 7, 8, 9] rfl (by decide) gX6_bestMove_X6_holds rfl rfl rfl (by decide +kernel) rfl ⟨Nat.le_of_ble_eq_true rfl, Nat.le_of_ble_eq_true rfl⟩ rfl rfl rfl (Nat.le_of_ble_eq_true rfl) dX6_bestMove_14 ⟨Nat.le_of_ble_eq_true rfl, Nat.le_of_ble_eq_true rfl⟩) (fun r_14 u H locs hw hP hD hS => ?_)
    have hw_14 : r_14 = bI (decide (1 = 0)) := hw
    have hP : va_P G.1 vwCl [(m0, .inr (6, [.int (nI (1)), .ref ms, .ref mv, .int (nI (sm)), .ref mt, .int (nI (ln)), .ref mh, .ref mb, .ref mg, .ref mq, .ref ml, .ref mf, .int nw, .int fw, .int (nI (tp)), .int (bI (wr)), .long dg])), (ms, .inl (G.2.1, 88, .inl s0)), (mv, .inl (G.2.1, 528, .inl sv)), (mt, .inl (G.2.1, 60, .inl tx)), (mh, .inl (G.2.1, 21, .inl ht)), (mb, .inl (G.2.1, 21, .inl bu)), (mg, .inl (G.2.1, 21, .inl hg)), (mq, .inl (G.2.1, 21, .inl pq)), (ml, .inl (G.2.1, 21, .inl ld)), (mf, .inl (G.2.1, 20, .inl fo))] H := hP
    have hD : va_D A [(m0, .inr (6, [.int (nI (1)), .ref ms, .ref mv, .int (nI (sm)), .ref mt, .int (nI (ln)), .ref mh, .ref mb, .ref mg, .ref mq, .ref ml, .ref mf, .int nw, .int fw, .int (nI (tp)), .int (bI (wr)), .long dg])), (ms, .inl (G.2.1, 88, .inl s0)), (mv, .inl (G.2.1, 528, .inl sv)), (mt, .inl (G.2.1, 60, .inl tx)), (mh, .inl (G.2.1, 21, .inl ht)), (mb, .inl (G.2.1, 21, .inl bu)), (mg, .inl (G.2.1, 21, .inl hg)), (mq, .inl (G.2.1, 21, .inl pq)), (ml, .inl (G.2.1, 21, .inl ld)), (mf, .inl (G.2.1, 20, .inl fo))] := hD
    subst hw_14
    refine g_ti (y := nI 0) (by rw [decide_eq_false (by decide)]; rfl) ?_
    refine g_if_eq (a := 0) (tgt := 28) hx hb (by omega) dX6_bestMove_17 (by decide) (fun c_17 => ?_) (fun c_17 => ?_)
    · skip
      refine lv_iconst (v := 0) hx hb dX6_bestMove_28 (by decide) ?_
      rw [hQ]
      exact k_iret (v := 0) () [0, 1, 2, 3, 4, 5, 6, 7, 8, 9] hx hb hr hlocks (rfl) hK hP hD hS rfl (by decide) dX6_bestMove_29
    · exact absurd c_17 (by decide)
  · exact absurd c_6 (by decide)
set_option maxHeartbeats 4000000 in
set_option maxRecDepth 100000 in
theorem c_X6_bestMove_0 (l : Launch) (G : kG) (m0 : Nat) (ms : Nat) (mv : Nat) (mt : Nat) (mh : Nat) (mb : Nat) (mg : Nat) (mq : Nat) (ml : Nat) (mf : Nat) (th : Nat) (s0 : Fn) (sv : Fn) (sm : Nat) (tx : Fn) (ln : Nat) (ht : Fn) (bu : Fn) (hg : Fn) (pq : Fn) (ld : Fn) (fo : Fn) (nw : Int32) (fw : Int32) (tp : Nat) (wr : Bool) (dg : Int64) (j : Nat) (n : Nat) (sz : Nat) (hok : mOK s0 n) (hj : j ≤ n) : kMet l yX6_bestMove wsX6_bestMove ({ frames := 4, cells := 0, slots := 0, locals := 95 } : Room) G [.ref m0, .int (nI (j))] [(m0, .inr (6, [.int (nI (th)), .ref ms, .ref mv, .int (nI (sm)), .ref mt, .int (nI (ln)), .ref mh, .ref mb, .ref mg, .ref mq, .ref ml, .ref mf, .int nw, .int fw, .int (nI (tp)), .int (bI (wr)), .long dg])), (ms, .inl (G.2.1, 88, .inl s0)), (mv, .inl (G.2.1, 528, .inl sv)), (mt, .inl (G.2.1, 60, .inl tx)), (mh, .inl (G.2.1, 21, .inl ht)), (mb, .inl (G.2.1, 21, .inl bu)), (mg, .inl (G.2.1, 21, .inl hg)), (mq, .inl (G.2.1, 21, .inl pq)), (ml, .inl (G.2.1, 21, .inl ld)), (mf, .inl (G.2.1, 20, .inl fo))] sz (kQi G (fun (r : Int32) (u : Fn × Fn × Fn × Fn × Fn × Fn × Int32 × Int32) => r = bTo n (mST s0) (mWE s0) (mHA s0) (mPR s0) (mSE s0) j) (fun (u : Fn × Fn × Fn × Fn × Fn × Fn × Int32 × Int32) => [(m0, .inr (6, [.int (nI 0), .ref ms, .ref mv, .int (nI (sm)), .ref mt, .int (nI (ln)), .ref mh, .ref mb, .ref mg, .ref mq, .ref ml, .ref mf, .int u.2.2.2.2.2.2.1, .int u.2.2.2.2.2.2.2, .int (nI (tp)), .int (bI (wr)), .long dg])), (ms, .inl (G.2.1, 88, .inl s0)), (mv, .inl (G.2.1, 528, .inl sv)), (mt, .inl (G.2.1, 60, .inl tx)), (mh, .inl (G.2.1, 21, .inl u.1)), (mb, .inl (G.2.1, 21, .inl u.2.1)), (mg, .inl (G.2.1, 21, .inl u.2.2.1)), (mq, .inl (G.2.1, 21, .inl u.2.2.2.1)), (ml, .inl (G.2.1, 21, .inl u.2.2.2.2.1)), (mf, .inl (G.2.1, 20, .inl u.2.2.2.2.2.1))])) 0 0 := by
  refine k_entry (cc := cX6_bestMove) (maxL := 2) (ret := (some .int)) (by decide) rfl (Nat.le_of_ble_eq_true rfl) ?_
  intro p e s m args below meth c A ls H locs Q hQ hx hb hml hr hts hown hlocks hin hA hP hK hD hS hl
  have hown : s.vm.findClass RX6 = some m.cls := hown
  have hl : lv_has ls 2 [(0, .ref m0), (1, .int (nI (j)))] := hl
  obtain ⟨hs0, hn1, hn, hv⟩ := id hok
  refine lv_aload_n hx hb dX6_bestMove_0 rfl (lv_at hl 0 rfl) ?_
  refine lv_aload_n hx hb dX6_bestMove_1 rfl (lv_at hl 0 rfl) ?_
  refine lv_iload_n hx hb dX6_bestMove_2 rfl (lv_at hl 1 rfl) ?_
  refine k_ci (wr := []) [] rfl (by decide) [0, 1, 2, 3, 4, 5, 6, 7, 8, 9] rfl (by decide) hP hD hS hA (k_V (n := 1) (ci := 6) (As := [.int (nI (j))]) (rest := [.ref m0]) (wc := [(m0, .inr (6, [.int (nI (th)), .ref ms, .ref mv, .int (nI (sm)), .ref mt, .int (nI (ln)), .ref mh, .ref mb, .ref mg, .ref mq, .ref ml, .ref mf, .int nw, .int fw, .int (nI (tp)), .int (bI (wr)), .long dg])), (ms, .inl (G.2.1, 88, .inl s0)), (mv, .inl (G.2.1, 528, .inl sv)), (mt, .inl (G.2.1, 60, .inl tx)), (mh, .inl (G.2.1, 21, .inl ht)), (mb, .inl (G.2.1, 21, .inl bu)), (mg, .inl (G.2.1, 21, .inl hg)), (mq, .inl (G.2.1, 21, .inl pq)), (ml, .inl (G.2.1, 21, .inl ld)), (mf, .inl (G.2.1, 20, .inl fo))]) hx hb hml hown hts hK hP hD hl (c_X6_isJoint l G m0 ms mv mt mh mb mg mq ml mf th s0 sv sm tx ln ht bu hg pq ld fo nw fw tp wr dg (nI (j)) n H.size (by first | assumption | omega)) [0, 1, 2, 3, 4, 5, 6, 7, 8, 9] rfl (by decide) gX6_bestMove_X6_isJoint rfl rfl rfl (by decide +kernel) rfl ⟨Nat.le_of_ble_eq_true rfl, Nat.le_of_ble_eq_true rfl⟩ rfl rfl rfl (Nat.le_of_ble_eq_true rfl) dX6_bestMove_3 ⟨Nat.le_of_ble_eq_true rfl, Nat.le_of_ble_eq_true rfl⟩) (fun r_3 u H locs hw hP hD hS => ?_)
  have hw_3 : r_3 = bI (isN (nI (j)) (n + 1)) := hw
  have hP : va_P G.1 vwCl [(m0, .inr (6, [.int (nI (th)), .ref ms, .ref mv, .int (nI (sm)), .ref mt, .int (nI (ln)), .ref mh, .ref mb, .ref mg, .ref mq, .ref ml, .ref mf, .int nw, .int fw, .int (nI (tp)), .int (bI (wr)), .long dg])), (ms, .inl (G.2.1, 88, .inl s0)), (mv, .inl (G.2.1, 528, .inl sv)), (mt, .inl (G.2.1, 60, .inl tx)), (mh, .inl (G.2.1, 21, .inl ht)), (mb, .inl (G.2.1, 21, .inl bu)), (mg, .inl (G.2.1, 21, .inl hg)), (mq, .inl (G.2.1, 21, .inl pq)), (ml, .inl (G.2.1, 21, .inl ld)), (mf, .inl (G.2.1, 20, .inl fo))] H := hP
  have hD : va_D A [(m0, .inr (6, [.int (nI (th)), .ref ms, .ref mv, .int (nI (sm)), .ref mt, .int (nI (ln)), .ref mh, .ref mb, .ref mg, .ref mq, .ref ml, .ref mf, .int nw, .int fw, .int (nI (tp)), .int (bI (wr)), .long dg])), (ms, .inl (G.2.1, 88, .inl s0)), (mv, .inl (G.2.1, 528, .inl sv)), (mt, .inl (G.2.1, 60, .inl tx)), (mh, .inl (G.2.1, 21, .inl ht)), (mb, .inl (G.2.1, 21, .inl bu)), (mg, .inl (G.2.1, 21, .inl hg)), (mq, .inl (G.2.1, 21, .inl pq)), (ml, .inl (G.2.1, 21, .inl ld)), (mf, .inl (G.2.1, 20, .inl fo))] := hD
  subst hw_3
  refine g_ti (y := nI 1) (by rw [isN_nI (by omega), decide_eq_true (by omega)]; rfl) ?_
  refine g_if_eq (a := 1) (tgt := 13) hx hb (by omega) dX6_bestMove_6 (by decide) (fun c_6 => ?_) (fun c_6 => ?_)
  · exact absurd c_6 (by decide)
  · skip
    refine lv_iconst (v := 0) hx hb dX6_bestMove_9 (by decide) ?_
    refine lv_goto (tgt := 14) hx hb dX6_bestMove_10 (by decide) ?_
    refine k_ci (wr := []) [] rfl (by decide) [0, 1, 2, 3, 4, 5, 6, 7, 8, 9] rfl (by decide) hP hD hS hA (k_V (n := 1) (ci := 6) (As := [.int 0]) (rest := []) (wc := [(m0, .inr (6, [.int (nI (th)), .ref ms, .ref mv, .int (nI (sm)), .ref mt, .int (nI (ln)), .ref mh, .ref mb, .ref mg, .ref mq, .ref ml, .ref mf, .int nw, .int fw, .int (nI (tp)), .int (bI (wr)), .long dg])), (ms, .inl (G.2.1, 88, .inl s0)), (mv, .inl (G.2.1, 528, .inl sv)), (mt, .inl (G.2.1, 60, .inl tx)), (mh, .inl (G.2.1, 21, .inl ht)), (mb, .inl (G.2.1, 21, .inl bu)), (mg, .inl (G.2.1, 21, .inl hg)), (mq, .inl (G.2.1, 21, .inl pq)), (ml, .inl (G.2.1, 21, .inl ld)), (mf, .inl (G.2.1, 20, .inl fo))]) hx hb hml hown hts hK hP hD hl (c_X6_holds l G m0 ms mv mt mh mb mg mq ml mf th s0 sv sm tx ln ht bu hg pq ld fo nw fw tp wr dg 0 H.size (by first | assumption | omega)) [0, 1, 2, 3, 4, 5, 6, 7, 8, 9] rfl (by decide) gX6_bestMove_X6_holds rfl rfl rfl (by decide +kernel) rfl ⟨Nat.le_of_ble_eq_true rfl, Nat.le_of_ble_eq_true rfl⟩ rfl rfl rfl (Nat.le_of_ble_eq_true rfl) dX6_bestMove_14 ⟨Nat.le_of_ble_eq_true rfl, Nat.le_of_ble_eq_true rfl⟩) (fun r_14 u H locs hw hP hD hS => ?_)
    have hw_14 : r_14 = bI (decide (0 = 0)) := hw
    have hP : va_P G.1 vwCl [(m0, .inr (6, [.int (nI (0)), .ref ms, .ref mv, .int (nI (sm)), .ref mt, .int (nI (ln)), .ref mh, .ref mb, .ref mg, .ref mq, .ref ml, .ref mf, .int nw, .int fw, .int (nI (tp)), .int (bI (wr)), .long dg])), (ms, .inl (G.2.1, 88, .inl s0)), (mv, .inl (G.2.1, 528, .inl sv)), (mt, .inl (G.2.1, 60, .inl tx)), (mh, .inl (G.2.1, 21, .inl ht)), (mb, .inl (G.2.1, 21, .inl bu)), (mg, .inl (G.2.1, 21, .inl hg)), (mq, .inl (G.2.1, 21, .inl pq)), (ml, .inl (G.2.1, 21, .inl ld)), (mf, .inl (G.2.1, 20, .inl fo))] H := hP
    have hD : va_D A [(m0, .inr (6, [.int (nI (0)), .ref ms, .ref mv, .int (nI (sm)), .ref mt, .int (nI (ln)), .ref mh, .ref mb, .ref mg, .ref mq, .ref ml, .ref mf, .int nw, .int fw, .int (nI (tp)), .int (bI (wr)), .long dg])), (ms, .inl (G.2.1, 88, .inl s0)), (mv, .inl (G.2.1, 528, .inl sv)), (mt, .inl (G.2.1, 60, .inl tx)), (mh, .inl (G.2.1, 21, .inl ht)), (mb, .inl (G.2.1, 21, .inl bu)), (mg, .inl (G.2.1, 21, .inl hg)), (mq, .inl (G.2.1, 21, .inl pq)), (ml, .inl (G.2.1, 21, .inl ld)), (mf, .inl (G.2.1, 20, .inl fo))] := hD
    subst hw_14
    refine g_ti (y := nI 1) (by rw [decide_eq_true (show (0 : Nat) = 0 from rfl)]; rfl) ?_
    refine g_if_eq (a := 1) (tgt := 28) hx hb (by omega) dX6_bestMove_17 (by decide) (fun c_17 => ?_) (fun c_17 => ?_)
    · exact absurd c_17 (by decide)
    · skip
      refine lv_aload_n hx hb dX6_bestMove_20 rfl (lv_at hl 0 rfl) ?_
      refine lv_iload_n hx hb dX6_bestMove_21 rfl (lv_at hl 1 rfl) ?_
      refine k_ci (wr := []) [] rfl (by decide) [0, 1, 2, 3, 4, 5, 6, 7, 8, 9] rfl (by decide) hP hD hS hA (k_V (n := 1) (ci := 6) (As := [.int (nI (j))]) (rest := []) (wc := [(m0, .inr (6, [.int (nI (0)), .ref ms, .ref mv, .int (nI (sm)), .ref mt, .int (nI (ln)), .ref mh, .ref mb, .ref mg, .ref mq, .ref ml, .ref mf, .int nw, .int fw, .int (nI (tp)), .int (bI (wr)), .long dg])), (ms, .inl (G.2.1, 88, .inl s0)), (mv, .inl (G.2.1, 528, .inl sv)), (mt, .inl (G.2.1, 60, .inl tx)), (mh, .inl (G.2.1, 21, .inl ht)), (mb, .inl (G.2.1, 21, .inl bu)), (mg, .inl (G.2.1, 21, .inl hg)), (mq, .inl (G.2.1, 21, .inl pq)), (ml, .inl (G.2.1, 21, .inl ld)), (mf, .inl (G.2.1, 20, .inl fo))]) hx hb hml hown hts hK hP hD hl (c_X6_bestTo l G m0 ms mv mt mh mb mg mq ml mf 0 s0 sv sm tx ln ht bu hg pq ld fo nw fw tp wr dg j n H.size (by first | assumption | omega) (by first | assumption | omega)) [0, 1, 2, 3, 4, 5, 6, 7, 8, 9] rfl (by decide) gX6_bestMove_X6_bestTo rfl rfl rfl (by decide +kernel) rfl ⟨Nat.le_of_ble_eq_true rfl, Nat.le_of_ble_eq_true rfl⟩ rfl rfl rfl (Nat.le_of_ble_eq_true rfl) dX6_bestMove_22 ⟨Nat.le_of_ble_eq_true rfl, Nat.le_of_ble_eq_true rfl⟩) (fun r_22 u H locs hw hP hD hS => ?_)
      obtain ⟨ht2_22, bu2_22, hg2_22, pq2_22, ld2_22, fo2_22, nw2_22, fw2_22⟩ := u
      have hw_22 : r_22 = bTo n (mST s0) (mWE s0) (mHA s0) (mPR s0) (mSE s0) j := hw
      have hP : va_P G.1 vwCl [(m0, .inr (6, [.int (nI (0)), .ref ms, .ref mv, .int (nI (sm)), .ref mt, .int (nI (ln)), .ref mh, .ref mb, .ref mg, .ref mq, .ref ml, .ref mf, .int nw2_22, .int fw2_22, .int (nI (tp)), .int (bI (wr)), .long dg])), (ms, .inl (G.2.1, 88, .inl s0)), (mv, .inl (G.2.1, 528, .inl sv)), (mt, .inl (G.2.1, 60, .inl tx)), (mh, .inl (G.2.1, 21, .inl ht2_22)), (mb, .inl (G.2.1, 21, .inl bu2_22)), (mg, .inl (G.2.1, 21, .inl hg2_22)), (mq, .inl (G.2.1, 21, .inl pq2_22)), (ml, .inl (G.2.1, 21, .inl ld2_22)), (mf, .inl (G.2.1, 20, .inl fo2_22))] H := hP
      have hD : va_D A [(m0, .inr (6, [.int (nI (0)), .ref ms, .ref mv, .int (nI (sm)), .ref mt, .int (nI (ln)), .ref mh, .ref mb, .ref mg, .ref mq, .ref ml, .ref mf, .int nw2_22, .int fw2_22, .int (nI (tp)), .int (bI (wr)), .long dg])), (ms, .inl (G.2.1, 88, .inl s0)), (mv, .inl (G.2.1, 528, .inl sv)), (mt, .inl (G.2.1, 60, .inl tx)), (mh, .inl (G.2.1, 21, .inl ht2_22)), (mb, .inl (G.2.1, 21, .inl bu2_22)), (mg, .inl (G.2.1, 21, .inl hg2_22)), (mq, .inl (G.2.1, 21, .inl pq2_22)), (ml, .inl (G.2.1, 21, .inl ld2_22)), (mf, .inl (G.2.1, 20, .inl fo2_22))] := hD
      subst hw_22
      refine lv_goto (tgt := 29) hx hb dX6_bestMove_25 (by decide) ?_
      rw [hQ]
      exact k_iret (v := bTo n (mST s0) (mWE s0) (mHA s0) (mPR s0) (mSE s0) j) (ht2_22, bu2_22, hg2_22, pq2_22, ld2_22, fo2_22, nw2_22, fw2_22) [0, 1, 2, 3, 4, 5, 6, 7, 8, 9] hx hb hr hlocks (rfl) hK hP hD hS rfl (by decide) dX6_bestMove_29
set_option maxHeartbeats 4000000 in
set_option maxRecDepth 100000 in
theorem c_X6_bestHung (l : Launch) (G : kG) (m0 : Nat) (ms : Nat) (mv : Nat) (mt : Nat) (mh : Nat) (mb : Nat) (mg : Nat) (mq : Nat) (ml : Nat) (mf : Nat) (th : Nat) (s0 : Fn) (sv : Fn) (sm : Nat) (tx : Fn) (ln : Nat) (ht : Fn) (bu : Fn) (hg : Fn) (pq : Fn) (ld : Fn) (fo : Fn) (nw : Int32) (fw : Int32) (tp : Nat) (wr : Bool) (dg : Int64) (v : Int32) (n : Nat) (sz : Nat) (hok : mOK s0 n) (hv9 : 0 ≤ v ∧ v ≤ 99) : kMet l yX6_bestHung wsX6_bestHung ({ frames := 4, cells := 0, slots := 0, locals := 92 } : Room) G [.ref m0, .int v] [(m0, .inr (6, [.int (nI (th)), .ref ms, .ref mv, .int (nI (sm)), .ref mt, .int (nI (ln)), .ref mh, .ref mb, .ref mg, .ref mq, .ref ml, .ref mf, .int nw, .int fw, .int (nI (tp)), .int (bI (wr)), .long dg])), (ms, .inl (G.2.1, 88, .inl s0)), (mv, .inl (G.2.1, 528, .inl sv)), (mt, .inl (G.2.1, 60, .inl tx)), (mh, .inl (G.2.1, 21, .inl ht)), (mb, .inl (G.2.1, 21, .inl bu)), (mg, .inl (G.2.1, 21, .inl hg)), (mq, .inl (G.2.1, 21, .inl pq)), (ml, .inl (G.2.1, 21, .inl ld)), (mf, .inl (G.2.1, 20, .inl fo))] sz (kQi G (fun (r : Int32) (u : Fn × Fn × Fn × Fn × Fn × Fn × Int32 × Int32) => r = (bsh (gHg n (mST s0) (mWE s0) (mHA s0) (mPR s0) (mSE s0) v) (n - 1)).1) (fun (u : Fn × Fn × Fn × Fn × Fn × Fn × Int32 × Int32) => [(m0, .inr (6, [.int (nI (th)), .ref ms, .ref mv, .int (nI (sm)), .ref mt, .int (nI (ln)), .ref mh, .ref mb, .ref mg, .ref mq, .ref ml, .ref mf, .int u.2.2.2.2.2.2.1, .int u.2.2.2.2.2.2.2, .int (nI (tp)), .int (bI (wr)), .long dg])), (ms, .inl (G.2.1, 88, .inl s0)), (mv, .inl (G.2.1, 528, .inl sv)), (mt, .inl (G.2.1, 60, .inl tx)), (mh, .inl (G.2.1, 21, .inl u.1)), (mb, .inl (G.2.1, 21, .inl u.2.1)), (mg, .inl (G.2.1, 21, .inl u.2.2.1)), (mq, .inl (G.2.1, 21, .inl u.2.2.2.1)), (ml, .inl (G.2.1, 21, .inl u.2.2.2.2.1)), (mf, .inl (G.2.1, 20, .inl u.2.2.2.2.2.1))])) 0 0 := by
  refine k_entry (cc := cX6_bestHung) (maxL := 8) (ret := (some .int)) (by decide) rfl (Nat.le_of_ble_eq_true rfl) ?_
  intro p e s m args below meth c A ls H locs Q hQ hx hb hml hr hts hown hlocks hin hA hP hK hD hS hl
  have hown : s.vm.findClass RX6 = some m.cls := hown
  have hl : lv_has ls 8 [(0, .ref m0), (1, .int v)] := hl
  have hf7 := hts (.fieldLink RX6 7 "HangingChainModel" "s" "[I") (by decide +kernel)
  have hinX6 : ∀ w ∈ wsX60, w ∈ wsX6_bestHung := by decide +kernel
  obtain ⟨hs0, hn1, hn, hv⟩ := id hok
  refine lv_iconst (v := (-1)) hx hb dX6_bestHung_0 (by decide) ?_
  refine lv_istore_n (lv' := [(2, .int (-1)), (0, .ref m0), (1, .int v)]) hx hb dX6_bestHung_1 rfl hl (by decide) rfl (fun ls hl => ?_)
  refine lv_iconst (v := 0) hx hb dX6_bestHung_2 (by decide) ?_
  refine lv_istore_n (lv' := [(3, .int 0), (2, .int (-1)), (0, .ref m0), (1, .int v)]) hx hb dX6_bestHung_3 rfl hl (by decide) rfl (fun ls hl => ?_)
  refine lv_iconst (v := 1) hx hb dX6_bestHung_4 (by decide) ?_
  refine lv_istore (lv' := [(4, .int 1), (3, .int 0), (2, .int (-1)), (0, .ref m0), (1, .int v)]) hx hb dX6_bestHung_5 hl (by decide) rfl (fun ls hl => ?_)
  have L7 : ∀ (n9 : Nat) (i : Nat) (fd : Int32) (le : Int32) (ht3 : Fn) (bu3 : Fn) (hg3 : Fn) (pq3 : Fn) (ld3 : Fn) (fo3 : Fn) (nw3 : Int32) (fw3 : Int32), (i + 1 ≤ n) → ((fd, le) = bsh (gHg n (mST s0) (mWE s0) (mHA s0) (mPR s0) (mSE s0) v) i) → (n - i < n9) → ∀ (H : Heap) (locs : List Loc) (ls : Array Slot), va_P G.1 vwCl [(m0, .inr (6, [.int (nI (th)), .ref ms, .ref mv, .int (nI (sm)), .ref mt, .int (nI (ln)), .ref mh, .ref mb, .ref mg, .ref mq, .ref ml, .ref mf, .int nw3, .int fw3, .int (nI (tp)), .int (bI (wr)), .long dg])), (ms, .inl (G.2.1, 88, .inl s0)), (mv, .inl (G.2.1, 528, .inl sv)), (mt, .inl (G.2.1, 60, .inl tx)), (mh, .inl (G.2.1, 21, .inl ht3)), (mb, .inl (G.2.1, 21, .inl bu3)), (mg, .inl (G.2.1, 21, .inl hg3)), (mq, .inl (G.2.1, 21, .inl pq3)), (ml, .inl (G.2.1, 21, .inl ld3)), (mf, .inl (G.2.1, 20, .inl fo3))] H → va_D A [(m0, .inr (6, [.int (nI (th)), .ref ms, .ref mv, .int (nI (sm)), .ref mt, .int (nI (ln)), .ref mh, .ref mb, .ref mg, .ref mq, .ref ml, .ref mf, .int nw3, .int fw3, .int (nI (tp)), .int (bI (wr)), .long dg])), (ms, .inl (G.2.1, 88, .inl s0)), (mv, .inl (G.2.1, 528, .inl sv)), (mt, .inl (G.2.1, 60, .inl tx)), (mh, .inl (G.2.1, 21, .inl ht3)), (mb, .inl (G.2.1, 21, .inl bu3)), (mg, .inl (G.2.1, 21, .inl hg3)), (mq, .inl (G.2.1, 21, .inl pq3)), (ml, .inl (G.2.1, 21, .inl ld3)), (mf, .inl (G.2.1, 20, .inl fo3))] → va_S A s.heap H locs → lv_has ls 8 [(4, .int (nI (i + 1))), (3, .int le), (2, .int fd), (0, .ref m0), (1, .int v)] → W p l e ({ frames := 4, cells := 0, slots := 0, locals := 92 } : Room) s m args below meth c H locs 0 0 Q (F0 m 7 ls []) := by
    intro n9
    induction n9 with
    | zero =>
      intro i fd le ht3 bu3 hg3 pq3 ld3 fo3 nw3 fw3 hi hB hm9 H locs ls hP hD hS hl
      exact absurd hm9 (Nat.not_lt_zero _)
    | succ n9 ih7 =>
      intro i fd le ht3 bu3 hg3 pq3 ld3 fo3 nw3 fw3 hi hB hm9 H locs ls hP hD hS hl
      refine lv_iload hx hb dX6_bestHung_7 (lv_at hl 0 rfl) ?_
      refine lv_aload_n hx hb dX6_bestHung_9 rfl (lv_at hl 3 rfl) ?_
      refine va_get (D := G.1) (ci := 6) (v := .ref ms) (C := RX6) (T := TX6) (N := 17) hx hb hts hinX6 hown hK hP 0 rfl rfl 1 (by decide) hf7 (fun _ h9 => h9) rfl dX6_bestHung_10 ?_
      refine lv_iconst (v := 0) hx hb dX6_bestHung_13 (by decide) ?_
      refine g_iald (k := 0) hx hb hK hP 1 rfl (by omega) (by omega) dX6_bestHung_14 ?_
      refine g_ti (y := nI n) (hs0) ?_
      refine g_icmp_ge (a := i + 1) (b := n) (tgt := 105) hx hb (by omega) (by omega) dX6_bestHung_15 (by decide) (fun c_15 => ?_) (fun c_15 => ?_)
      · skip
        have e9 : n - 1 = i := by omega
        subst e9
        refine lv_iload_n hx hb dX6_bestHung_105 rfl (lv_at hl 2 rfl) ?_
        rw [hQ]
        exact k_iret (v := fd) (ht3, bu3, hg3, pq3, ld3, fo3, nw3, fw3) [0, 1, 2, 3, 4, 5, 6, 7, 8, 9] hx hb hr hlocks (congrArg Prod.fst hB) hK hP hD hS rfl (by decide) dX6_bestHung_106
      · skip
        refine lv_aload_n hx hb dX6_bestHung_18 rfl (lv_at hl 3 rfl) ?_
        refine va_get (D := G.1) (ci := 6) (v := .ref ms) (C := RX6) (T := TX6) (N := 17) hx hb hts hinX6 hown hK hP 0 rfl rfl 1 (by decide) hf7 (fun _ h9 => h9) rfl dX6_bestHung_19 ?_
        refine lv_bipush (v := 46) hx hb dX6_bestHung_22 (by decide) ?_
        refine lv_iload hx hb dX6_bestHung_24 (lv_at hl 0 rfl) ?_
        refine lv_iadd hx hb dX6_bestHung_26 ?_
        refine g_ti (y := nI (46 + (i + 1))) (nI_add (46) (i + 1)) ?_
        refine g_iald (k := 46 + (i + 1)) hx hb hK hP 1 rfl (by omega) (by omega) dX6_bestHung_27 ?_
        refine lv_iload_n hx hb dX6_bestHung_28 rfl (lv_at hl 4 rfl) ?_
        refine lv_iadd hx hb dX6_bestHung_29 ?_
        refine lv_istore (lv' := [(5, .int ((s0 (46 + (i + 1))) + v)), (4, .int (nI (i + 1))), (3, .int le), (2, .int fd), (0, .ref m0), (1, .int v)]) hx hb dX6_bestHung_30 hl (by decide) rfl (fun ls hl => ?_)
        refine lv_aload_n hx hb dX6_bestHung_32 rfl (lv_at hl 4 rfl) ?_
        refine lv_bipush (v := 46) hx hb dX6_bestHung_33 (by decide) ?_
        refine lv_iload hx hb dX6_bestHung_35 (lv_at hl 1 rfl) ?_
        refine lv_iadd hx hb dX6_bestHung_37 ?_
        refine g_ti (y := nI (46 + (i + 1))) (nI_add (46) (i + 1)) ?_
        refine lv_iload hx hb dX6_bestHung_38 (lv_at hl 0 rfl) ?_
        refine lv_bipush (v := 99) hx hb dX6_bestHung_40 (by decide) ?_
        have L52 : ∀ (x : Int32), (x = mn 99 (s0 (46 + (i + 1)) + v)) → ∀ (H : Heap) (locs : List Loc) (ls : Array Slot), va_P G.1 vwCl [(m0, .inr (6, [.int (nI (th)), .ref ms, .ref mv, .int (nI (sm)), .ref mt, .int (nI (ln)), .ref mh, .ref mb, .ref mg, .ref mq, .ref ml, .ref mf, .int nw3, .int fw3, .int (nI (tp)), .int (bI (wr)), .long dg])), (ms, .inl (G.2.1, 88, .inl s0)), (mv, .inl (G.2.1, 528, .inl sv)), (mt, .inl (G.2.1, 60, .inl tx)), (mh, .inl (G.2.1, 21, .inl ht3)), (mb, .inl (G.2.1, 21, .inl bu3)), (mg, .inl (G.2.1, 21, .inl hg3)), (mq, .inl (G.2.1, 21, .inl pq3)), (ml, .inl (G.2.1, 21, .inl ld3)), (mf, .inl (G.2.1, 20, .inl fo3))] H → va_D A [(m0, .inr (6, [.int (nI (th)), .ref ms, .ref mv, .int (nI (sm)), .ref mt, .int (nI (ln)), .ref mh, .ref mb, .ref mg, .ref mq, .ref ml, .ref mf, .int nw3, .int fw3, .int (nI (tp)), .int (bI (wr)), .long dg])), (ms, .inl (G.2.1, 88, .inl s0)), (mv, .inl (G.2.1, 528, .inl sv)), (mt, .inl (G.2.1, 60, .inl tx)), (mh, .inl (G.2.1, 21, .inl ht3)), (mb, .inl (G.2.1, 21, .inl bu3)), (mg, .inl (G.2.1, 21, .inl hg3)), (mq, .inl (G.2.1, 21, .inl pq3)), (ml, .inl (G.2.1, 21, .inl ld3)), (mf, .inl (G.2.1, 20, .inl fo3))] → va_S A s.heap H locs → lv_has ls 8 [(5, .int ((s0 (46 + (i + 1))) + v)), (4, .int (nI (i + 1))), (3, .int le), (2, .int fd), (0, .ref m0), (1, .int v)] → W p l e ({ frames := 4, cells := 0, slots := 0, locals := 92 } : Room) s m args below meth c H locs 0 0 Q (F0 m 52 ls [.int x, .int (nI (46 + (i + 1))), .ref m0]) := by
          intro x ex H locs ls hP hD hS hl
          subst ex
          refine k_ci (wr := []) [] rfl (by decide) [0, 1, 2, 3, 4, 5, 6, 7, 8, 9] rfl (by decide) hP hD hS hA (k_V (n := 2) (ci := 6) (As := [.int (nI (46 + (i + 1))), .int (mn 99 (s0 (46 + (i + 1)) + v))]) (rest := []) (wc := [(m0, .inr (6, [.int (nI (th)), .ref ms, .ref mv, .int (nI (sm)), .ref mt, .int (nI (ln)), .ref mh, .ref mb, .ref mg, .ref mq, .ref ml, .ref mf, .int nw3, .int fw3, .int (nI (tp)), .int (bI (wr)), .long dg])), (ms, .inl (G.2.1, 88, .inl s0)), (mv, .inl (G.2.1, 528, .inl sv)), (mt, .inl (G.2.1, 60, .inl tx)), (mh, .inl (G.2.1, 21, .inl ht3)), (mb, .inl (G.2.1, 21, .inl bu3)), (mg, .inl (G.2.1, 21, .inl hg3)), (mq, .inl (G.2.1, 21, .inl pq3)), (ml, .inl (G.2.1, 21, .inl ld3)), (mf, .inl (G.2.1, 20, .inl fo3))]) hx hb hml hown hts hK hP hD hl (c_X6_greatestWith l G m0 ms mv mt mh mb mg mq ml mf th s0 sv sm tx ln ht3 bu3 hg3 pq3 ld3 fo3 nw3 fw3 tp wr dg (46 + (i + 1)) (mn 99 (s0 (46 + (i + 1)) + v)) n H.size (mOK_ha hok (by omega) (mn99_r hok hv9 (by omega))) (by first | assumption | omega)) [0, 1, 2, 3, 4, 5, 6, 7, 8, 9] rfl (by decide) gX6_bestHung_X6_greatestWith rfl rfl rfl (by decide +kernel) rfl ⟨Nat.le_of_ble_eq_true rfl, Nat.le_of_ble_eq_true rfl⟩ rfl rfl rfl (Nat.le_of_ble_eq_true rfl) dX6_bestHung_52 ⟨Nat.le_of_ble_eq_true rfl, Nat.le_of_ble_eq_true rfl⟩) (fun r_52 u H locs hw hP hD hS => ?_)
          obtain ⟨ht2_52, bu2_52, hg2_52, pq2_52, ld2_52, fo2_52, nw2_52, fw2_52⟩ := u
          have hw_52 : r_52 = cGR n (mST (upd s0 (46 + (i + 1)) (mn 99 (s0 (46 + (i + 1)) + v)))) (mWE (upd s0 (46 + (i + 1)) (mn 99 (s0 (46 + (i + 1)) + v)))) (mHA (upd s0 (46 + (i + 1)) (mn 99 (s0 (46 + (i + 1)) + v)))) (mPR (upd s0 (46 + (i + 1)) (mn 99 (s0 (46 + (i + 1)) + v)))) (mSE (upd s0 (46 + (i + 1)) (mn 99 (s0 (46 + (i + 1)) + v)))) := hw
          have hP : va_P G.1 vwCl [(m0, .inr (6, [.int (nI (th)), .ref ms, .ref mv, .int (nI (sm)), .ref mt, .int (nI (ln)), .ref mh, .ref mb, .ref mg, .ref mq, .ref ml, .ref mf, .int nw2_52, .int fw2_52, .int (nI (tp)), .int (bI (wr)), .long dg])), (ms, .inl (G.2.1, 88, .inl s0)), (mv, .inl (G.2.1, 528, .inl sv)), (mt, .inl (G.2.1, 60, .inl tx)), (mh, .inl (G.2.1, 21, .inl ht2_52)), (mb, .inl (G.2.1, 21, .inl bu2_52)), (mg, .inl (G.2.1, 21, .inl hg2_52)), (mq, .inl (G.2.1, 21, .inl pq2_52)), (ml, .inl (G.2.1, 21, .inl ld2_52)), (mf, .inl (G.2.1, 20, .inl fo2_52))] H := hP
          have hD : va_D A [(m0, .inr (6, [.int (nI (th)), .ref ms, .ref mv, .int (nI (sm)), .ref mt, .int (nI (ln)), .ref mh, .ref mb, .ref mg, .ref mq, .ref ml, .ref mf, .int nw2_52, .int fw2_52, .int (nI (tp)), .int (bI (wr)), .long dg])), (ms, .inl (G.2.1, 88, .inl s0)), (mv, .inl (G.2.1, 528, .inl sv)), (mt, .inl (G.2.1, 60, .inl tx)), (mh, .inl (G.2.1, 21, .inl ht2_52)), (mb, .inl (G.2.1, 21, .inl bu2_52)), (mg, .inl (G.2.1, 21, .inl hg2_52)), (mq, .inl (G.2.1, 21, .inl pq2_52)), (ml, .inl (G.2.1, 21, .inl ld2_52)), (mf, .inl (G.2.1, 20, .inl fo2_52))] := hD
          subst hw_52
          refine g_ti (y := gHg n (mST s0) (mWE s0) (mHA s0) (mPR s0) (mSE s0) v (i + 1)) (mGR_ha hok (by omega)) ?_
          refine lv_istore (lv' := [(6, .int (gHg n (mST s0) (mWE s0) (mHA s0) (mPR s0) (mSE s0) v (i + 1))), (5, .int ((s0 (46 + (i + 1))) + v)), (4, .int (nI (i + 1))), (3, .int le), (2, .int fd), (0, .ref m0), (1, .int v)]) hx hb dX6_bestHung_55 hl (by decide) rfl (fun ls hl => ?_)
          refine lv_iload_n hx hb dX6_bestHung_57 rfl (lv_at hl 4 rfl) ?_
          refine lv_iconst (v := (-1)) hx hb dX6_bestHung_58 (by decide) ?_
          refine lv_icmp_eq (tgt := 68) hx hb dX6_bestHung_59 (by decide) (fun c_59 => ?_) (fun c_59 => ?_)
          · skip
            refine lv_iconst (v := 1) hx hb dX6_bestHung_68 (by decide) ?_
            refine lv_goto (tgt := 73) hx hb dX6_bestHung_69 (by decide) ?_
            refine lv_istore (lv' := [(7, .int 1), (6, .int (gHg n (mST s0) (mWE s0) (mHA s0) (mPR s0) (mSE s0) v (i + 1))), (5, .int ((s0 (46 + (i + 1))) + v)), (4, .int (nI (i + 1))), (3, .int le), (2, .int fd), (0, .ref m0), (1, .int v)]) hx hb dX6_bestHung_73 hl (by decide) rfl (fun ls hl => ?_)
            refine lv_iload hx hb dX6_bestHung_75 (lv_at hl 0 rfl) ?_
            refine g_if_eq (a := 1) (tgt := 85) hx hb (by omega) dX6_bestHung_77 (by decide) (fun c_77 => ?_) (fun c_77 => ?_)
            · exact absurd c_77 (by decide)
            · skip
              refine lv_iload hx hb dX6_bestHung_80 (lv_at hl 3 rfl) ?_
              refine lv_goto (tgt := 86) hx hb dX6_bestHung_82 (by decide) ?_
              refine lv_istore_n (lv' := [(2, .int (nI (i + 1))), (7, .int 1), (6, .int (gHg n (mST s0) (mWE s0) (mHA s0) (mPR s0) (mSE s0) v (i + 1))), (5, .int ((s0 (46 + (i + 1))) + v)), (4, .int (nI (i + 1))), (3, .int le), (0, .ref m0), (1, .int v)]) hx hb dX6_bestHung_86 rfl hl (by decide) rfl (fun ls hl => ?_)
              refine lv_iload hx hb dX6_bestHung_87 (lv_at hl 1 rfl) ?_
              refine g_if_eq (a := 1) (tgt := 97) hx hb (by omega) dX6_bestHung_89 (by decide) (fun c_89 => ?_) (fun c_89 => ?_)
              · exact absurd c_89 (by decide)
              · skip
                refine lv_iload hx hb dX6_bestHung_92 (lv_at hl 2 rfl) ?_
                refine lv_goto (tgt := 98) hx hb dX6_bestHung_94 (by decide) ?_
                refine lv_istore_n (lv' := [(3, .int (gHg n (mST s0) (mWE s0) (mHA s0) (mPR s0) (mSE s0) v (i + 1))), (2, .int (nI (i + 1))), (7, .int 1), (6, .int (gHg n (mST s0) (mWE s0) (mHA s0) (mPR s0) (mSE s0) v (i + 1))), (5, .int ((s0 (46 + (i + 1))) + v)), (4, .int (nI (i + 1))), (0, .ref m0), (1, .int v)]) hx hb dX6_bestHung_98 rfl hl (by decide) rfl (fun ls hl => ?_)
                refine lv_iinc (v := nI ((i + 1) + 1)) (lv' := [(4, .int (nI ((i + 1) + 1))), (3, .int (gHg n (mST s0) (mWE s0) (mHA s0) (mPR s0) (mSE s0) v (i + 1))), (2, .int (nI (i + 1))), (7, .int 1), (6, .int (gHg n (mST s0) (mWE s0) (mHA s0) (mPR s0) (mSE s0) v (i + 1))), (5, .int ((s0 (46 + (i + 1))) + v)), (0, .ref m0), (1, .int v)]) hx hb dX6_bestHung_99 hl (k := 5) rfl (nI_add (i + 1) 1) (by decide) rfl (fun ls hl => ?_)
                refine lv_goto (tgt := 7) hx hb dX6_bestHung_102 (by decide) ?_
                exact ih7 (i + 1) (nI (i + 1)) (gHg n (mST s0) (mWE s0) (mHA s0) (mPR s0) (mSE s0) v (i + 1)) ht2_52 bu2_52 hg2_52 pq2_52 ld2_52 fo2_52 nw2_52 fw2_52 (by first | assumption | omega) (bsh_t hB (Or.inl c_59)) (by omega) _ _ _ hP hD hS (lv_sub hl [0, 1, 2, 6, 7] rfl)
          · skip
            refine lv_iload hx hb dX6_bestHung_62 (lv_at hl 0 rfl) ?_
            refine lv_iload_n hx hb dX6_bestHung_64 rfl (lv_at hl 3 rfl) ?_
            refine lv_icmp_ge (tgt := 72) hx hb dX6_bestHung_65 (by decide) (fun c_65 => ?_) (fun c_65 => ?_)
            · skip
              refine lv_iconst (v := 0) hx hb dX6_bestHung_72 (by decide) ?_
              refine lv_istore (lv' := [(7, .int 0), (6, .int (gHg n (mST s0) (mWE s0) (mHA s0) (mPR s0) (mSE s0) v (i + 1))), (5, .int ((s0 (46 + (i + 1))) + v)), (4, .int (nI (i + 1))), (3, .int le), (2, .int fd), (0, .ref m0), (1, .int v)]) hx hb dX6_bestHung_73 hl (by decide) rfl (fun ls hl => ?_)
              refine lv_iload hx hb dX6_bestHung_75 (lv_at hl 0 rfl) ?_
              refine g_if_eq (a := 0) (tgt := 85) hx hb (by omega) dX6_bestHung_77 (by decide) (fun c_77 => ?_) (fun c_77 => ?_)
              · skip
                refine lv_iload_n hx hb dX6_bestHung_85 rfl (lv_at hl 5 rfl) ?_
                refine lv_istore_n (lv' := [(2, .int fd), (7, .int 0), (6, .int (gHg n (mST s0) (mWE s0) (mHA s0) (mPR s0) (mSE s0) v (i + 1))), (5, .int ((s0 (46 + (i + 1))) + v)), (4, .int (nI (i + 1))), (3, .int le), (0, .ref m0), (1, .int v)]) hx hb dX6_bestHung_86 rfl hl (by decide) rfl (fun ls hl => ?_)
                refine lv_iload hx hb dX6_bestHung_87 (lv_at hl 1 rfl) ?_
                refine g_if_eq (a := 0) (tgt := 97) hx hb (by omega) dX6_bestHung_89 (by decide) (fun c_89 => ?_) (fun c_89 => ?_)
                · skip
                  refine lv_iload_n hx hb dX6_bestHung_97 rfl (lv_at hl 5 rfl) ?_
                  refine lv_istore_n (lv' := [(3, .int le), (2, .int fd), (7, .int 0), (6, .int (gHg n (mST s0) (mWE s0) (mHA s0) (mPR s0) (mSE s0) v (i + 1))), (5, .int ((s0 (46 + (i + 1))) + v)), (4, .int (nI (i + 1))), (0, .ref m0), (1, .int v)]) hx hb dX6_bestHung_98 rfl hl (by decide) rfl (fun ls hl => ?_)
                  refine lv_iinc (v := nI ((i + 1) + 1)) (lv' := [(4, .int (nI ((i + 1) + 1))), (3, .int le), (2, .int fd), (7, .int 0), (6, .int (gHg n (mST s0) (mWE s0) (mHA s0) (mPR s0) (mSE s0) v (i + 1))), (5, .int ((s0 (46 + (i + 1))) + v)), (0, .ref m0), (1, .int v)]) hx hb dX6_bestHung_99 hl (k := 5) rfl (nI_add (i + 1) 1) (by decide) rfl (fun ls hl => ?_)
                  refine lv_goto (tgt := 7) hx hb dX6_bestHung_102 (by decide) ?_
                  exact ih7 (i + 1) fd le ht2_52 bu2_52 hg2_52 pq2_52 ld2_52 fo2_52 nw2_52 fw2_52 (by first | assumption | omega) (bsh_k hB c_59 (i32_nlt c_65)) (by omega) _ _ _ hP hD hS (lv_sub hl [0, 1, 2, 6, 7] rfl)
                · exact absurd c_89 (by decide)
              · exact absurd c_77 (by decide)
            · skip
              refine lv_iconst (v := 1) hx hb dX6_bestHung_68 (by decide) ?_
              refine lv_goto (tgt := 73) hx hb dX6_bestHung_69 (by decide) ?_
              refine lv_istore (lv' := [(7, .int 1), (6, .int (gHg n (mST s0) (mWE s0) (mHA s0) (mPR s0) (mSE s0) v (i + 1))), (5, .int ((s0 (46 + (i + 1))) + v)), (4, .int (nI (i + 1))), (3, .int le), (2, .int fd), (0, .ref m0), (1, .int v)]) hx hb dX6_bestHung_73 hl (by decide) rfl (fun ls hl => ?_)
              refine lv_iload hx hb dX6_bestHung_75 (lv_at hl 0 rfl) ?_
              refine g_if_eq (a := 1) (tgt := 85) hx hb (by omega) dX6_bestHung_77 (by decide) (fun c_77 => ?_) (fun c_77 => ?_)
              · exact absurd c_77 (by decide)
              · skip
                refine lv_iload hx hb dX6_bestHung_80 (lv_at hl 3 rfl) ?_
                refine lv_goto (tgt := 86) hx hb dX6_bestHung_82 (by decide) ?_
                refine lv_istore_n (lv' := [(2, .int (nI (i + 1))), (7, .int 1), (6, .int (gHg n (mST s0) (mWE s0) (mHA s0) (mPR s0) (mSE s0) v (i + 1))), (5, .int ((s0 (46 + (i + 1))) + v)), (4, .int (nI (i + 1))), (3, .int le), (0, .ref m0), (1, .int v)]) hx hb dX6_bestHung_86 rfl hl (by decide) rfl (fun ls hl => ?_)
                refine lv_iload hx hb dX6_bestHung_87 (lv_at hl 1 rfl) ?_
                refine g_if_eq (a := 1) (tgt := 97) hx hb (by omega) dX6_bestHung_89 (by decide) (fun c_89 => ?_) (fun c_89 => ?_)
                · exact absurd c_89 (by decide)
                · skip
                  refine lv_iload hx hb dX6_bestHung_92 (lv_at hl 2 rfl) ?_
                  refine lv_goto (tgt := 98) hx hb dX6_bestHung_94 (by decide) ?_
                  refine lv_istore_n (lv' := [(3, .int (gHg n (mST s0) (mWE s0) (mHA s0) (mPR s0) (mSE s0) v (i + 1))), (2, .int (nI (i + 1))), (7, .int 1), (6, .int (gHg n (mST s0) (mWE s0) (mHA s0) (mPR s0) (mSE s0) v (i + 1))), (5, .int ((s0 (46 + (i + 1))) + v)), (4, .int (nI (i + 1))), (0, .ref m0), (1, .int v)]) hx hb dX6_bestHung_98 rfl hl (by decide) rfl (fun ls hl => ?_)
                  refine lv_iinc (v := nI ((i + 1) + 1)) (lv' := [(4, .int (nI ((i + 1) + 1))), (3, .int (gHg n (mST s0) (mWE s0) (mHA s0) (mPR s0) (mSE s0) v (i + 1))), (2, .int (nI (i + 1))), (7, .int 1), (6, .int (gHg n (mST s0) (mWE s0) (mHA s0) (mPR s0) (mSE s0) v (i + 1))), (5, .int ((s0 (46 + (i + 1))) + v)), (0, .ref m0), (1, .int v)]) hx hb dX6_bestHung_99 hl (k := 5) rfl (nI_add (i + 1) 1) (by decide) rfl (fun ls hl => ?_)
                  refine lv_goto (tgt := 7) hx hb dX6_bestHung_102 (by decide) ?_
                  exact ih7 (i + 1) (nI (i + 1)) (gHg n (mST s0) (mWE s0) (mHA s0) (mPR s0) (mSE s0) v (i + 1)) ht2_52 bu2_52 hg2_52 pq2_52 ld2_52 fo2_52 nw2_52 fw2_52 (by first | assumption | omega) (bsh_t hB (Or.inr (i32_lt c_65))) (by omega) _ _ _ hP hD hS (lv_sub hl [0, 1, 2, 6, 7] rfl)
        refine lv_icmp_le (tgt := 50) hx hb dX6_bestHung_42 (by decide) (fun c_42 => ?_) (fun c_42 => ?_)
        · skip
          refine lv_iload hx hb dX6_bestHung_50 (lv_at hl 0 rfl) ?_
          exact L52 ((s0 (46 + (i + 1))) + v) ((mn99_k c_42).symm) _ _ _ hP hD hS (lv_sub hl [0, 1, 2, 3, 4, 5] rfl)
        · skip
          refine lv_bipush (v := 99) hx hb dX6_bestHung_45 (by decide) ?_
          refine lv_goto (tgt := 52) hx hb dX6_bestHung_47 (by decide) ?_
          exact L52 99 ((mn99_l c_42).symm) _ _ _ hP hD hS (lv_sub hl [0, 1, 2, 3, 4, 5] rfl)
  exact L7 (n - 0 + 1) 0 (-1) 0 ht bu hg pq ld fo nw fw (by first | assumption | omega) (rfl) (Nat.lt_succ_self _) _ _ _ hP hD hS (lv_sub hl [0, 1, 2, 3, 4] rfl)
set_option maxHeartbeats 4000000 in
set_option maxRecDepth 100000 in
theorem c_X6_bestHanger_1 (l : Launch) (G : kG) (m0 : Nat) (ms : Nat) (mv : Nat) (mt : Nat) (mh : Nat) (mb : Nat) (mg : Nat) (mq : Nat) (ml : Nat) (mf : Nat) (th : Nat) (s0 : Fn) (sv : Fn) (sm : Nat) (tx : Fn) (ln : Nat) (ht : Fn) (bu : Fn) (hg : Fn) (pq : Fn) (ld : Fn) (fo : Fn) (nw : Int32) (fw : Int32) (tp : Nat) (wr : Bool) (dg : Int64) (v : Int32) (sz : Nat) (h1 : ¬ (0 ≤ v ∧ v ≤ 99)) : kMet l yX6_bestHanger wsX6_bestHanger ({ frames := 5, cells := 0, slots := 0, locals := 119 } : Room) G [.ref m0, .int v] [(m0, .inr (6, [.int (nI (th)), .ref ms, .ref mv, .int (nI (sm)), .ref mt, .int (nI (ln)), .ref mh, .ref mb, .ref mg, .ref mq, .ref ml, .ref mf, .int nw, .int fw, .int (nI (tp)), .int (bI (wr)), .long dg])), (ms, .inl (G.2.1, 88, .inl s0)), (mv, .inl (G.2.1, 528, .inl sv)), (mt, .inl (G.2.1, 60, .inl tx)), (mh, .inl (G.2.1, 21, .inl ht)), (mb, .inl (G.2.1, 21, .inl bu)), (mg, .inl (G.2.1, 21, .inl hg)), (mq, .inl (G.2.1, 21, .inl pq)), (ml, .inl (G.2.1, 21, .inl ld)), (mf, .inl (G.2.1, 20, .inl fo))] sz (kQi G (fun (r : Int32) (u : Unit) => r = 0) (fun (u : Unit) => [(m0, .inr (6, [.int (nI 1), .ref ms, .ref mv, .int (nI (sm)), .ref mt, .int (nI (ln)), .ref mh, .ref mb, .ref mg, .ref mq, .ref ml, .ref mf, .int nw, .int fw, .int (nI (tp)), .int (bI (wr)), .long dg])), (ms, .inl (G.2.1, 88, .inl s0)), (mv, .inl (G.2.1, 528, .inl sv)), (mt, .inl (G.2.1, 60, .inl tx)), (mh, .inl (G.2.1, 21, .inl ht)), (mb, .inl (G.2.1, 21, .inl bu)), (mg, .inl (G.2.1, 21, .inl hg)), (mq, .inl (G.2.1, 21, .inl pq)), (ml, .inl (G.2.1, 21, .inl ld)), (mf, .inl (G.2.1, 20, .inl fo))])) 0 0 := by
  refine k_entry (cc := cX6_bestHanger) (maxL := 2) (ret := (some .int)) (by decide) rfl (Nat.le_of_ble_eq_true rfl) ?_
  intro p e s m args below meth c A ls H locs Q hQ hx hb hml hr hts hown hlocks hin hA hP hK hD hS hl
  have hown : s.vm.findClass RX6 = some m.cls := hown
  have hl : lv_has ls 2 [(0, .ref m0), (1, .int v)] := hl
  refine lv_aload_n hx hb dX6_bestHanger_0 rfl (lv_at hl 0 rfl) ?_
  refine lv_iload_n hx hb dX6_bestHanger_1 rfl (lv_at hl 1 rfl) ?_
  refine lv_iconst (v := 0) hx hb dX6_bestHanger_2 (by decide) ?_
  refine lv_bipush (v := 99) hx hb dX6_bestHanger_3 (by decide) ?_
  refine k_ci (wr := [(m0, .inr (6, [.int (nI (th)), .ref ms, .ref mv, .int (nI (sm)), .ref mt, .int (nI (ln)), .ref mh, .ref mb, .ref mg, .ref mq, .ref ml, .ref mf, .int nw, .int fw, .int (nI (tp)), .int (bI (wr)), .long dg])), (ms, .inl (G.2.1, 88, .inl s0)), (mv, .inl (G.2.1, 528, .inl sv)), (mt, .inl (G.2.1, 60, .inl tx)), (mh, .inl (G.2.1, 21, .inl ht)), (mb, .inl (G.2.1, 21, .inl bu)), (mg, .inl (G.2.1, 21, .inl hg)), (mq, .inl (G.2.1, 21, .inl pq)), (ml, .inl (G.2.1, 21, .inl ld)), (mf, .inl (G.2.1, 20, .inl fo))]) [0, 1, 2, 3, 4, 5, 6, 7, 8, 9] rfl (by decide) [] rfl (by decide) hP hD hS hA (k_S (n := 3) (As := [.int v, .int 0, .int 99]) (rest := [.ref m0]) (wc := []) hx hb hml hown hts hK hP hD hl (c_X6_in l G v 0 99 H.size) [] rfl (by decide) gX6_bestHanger_X6_in rfl rfl rfl (by decide +kernel) rfl ⟨Nat.le_of_ble_eq_true rfl, Nat.le_of_ble_eq_true rfl⟩ rfl (Nat.le_of_ble_eq_true rfl) dX6_bestHanger_5 ⟨Nat.le_of_ble_eq_true rfl, Nat.le_of_ble_eq_true rfl⟩) (fun r_5 u H locs hw hP hD hS => ?_)
  have hw_5 : r_5 = bI (decide (0 ≤ v ∧ v ≤ 99)) := hw
  have hP : va_P G.1 vwCl [(m0, .inr (6, [.int (nI (th)), .ref ms, .ref mv, .int (nI (sm)), .ref mt, .int (nI (ln)), .ref mh, .ref mb, .ref mg, .ref mq, .ref ml, .ref mf, .int nw, .int fw, .int (nI (tp)), .int (bI (wr)), .long dg])), (ms, .inl (G.2.1, 88, .inl s0)), (mv, .inl (G.2.1, 528, .inl sv)), (mt, .inl (G.2.1, 60, .inl tx)), (mh, .inl (G.2.1, 21, .inl ht)), (mb, .inl (G.2.1, 21, .inl bu)), (mg, .inl (G.2.1, 21, .inl hg)), (mq, .inl (G.2.1, 21, .inl pq)), (ml, .inl (G.2.1, 21, .inl ld)), (mf, .inl (G.2.1, 20, .inl fo))] H := hP
  have hD : va_D A [(m0, .inr (6, [.int (nI (th)), .ref ms, .ref mv, .int (nI (sm)), .ref mt, .int (nI (ln)), .ref mh, .ref mb, .ref mg, .ref mq, .ref ml, .ref mf, .int nw, .int fw, .int (nI (tp)), .int (bI (wr)), .long dg])), (ms, .inl (G.2.1, 88, .inl s0)), (mv, .inl (G.2.1, 528, .inl sv)), (mt, .inl (G.2.1, 60, .inl tx)), (mh, .inl (G.2.1, 21, .inl ht)), (mb, .inl (G.2.1, 21, .inl bu)), (mg, .inl (G.2.1, 21, .inl hg)), (mq, .inl (G.2.1, 21, .inl pq)), (ml, .inl (G.2.1, 21, .inl ld)), (mf, .inl (G.2.1, 20, .inl fo))] := hD
  subst hw_5
  refine g_ti (y := nI 0) (by rw [decide_eq_false h1]; rfl) ?_
  refine g_if_eq (a := 0) (tgt := 15) hx hb (by omega) dX6_bestHanger_8 (by decide) (fun c_8 => ?_) (fun c_8 => ?_)
  · skip
    refine lv_iconst (v := 1) hx hb dX6_bestHanger_15 (by decide) ?_
    refine k_ci (wr := []) [] rfl (by decide) [0, 1, 2, 3, 4, 5, 6, 7, 8, 9] rfl (by decide) hP hD hS hA (k_V (n := 1) (ci := 6) (As := [.int 1]) (rest := []) (wc := [(m0, .inr (6, [.int (nI (th)), .ref ms, .ref mv, .int (nI (sm)), .ref mt, .int (nI (ln)), .ref mh, .ref mb, .ref mg, .ref mq, .ref ml, .ref mf, .int nw, .int fw, .int (nI (tp)), .int (bI (wr)), .long dg])), (ms, .inl (G.2.1, 88, .inl s0)), (mv, .inl (G.2.1, 528, .inl sv)), (mt, .inl (G.2.1, 60, .inl tx)), (mh, .inl (G.2.1, 21, .inl ht)), (mb, .inl (G.2.1, 21, .inl bu)), (mg, .inl (G.2.1, 21, .inl hg)), (mq, .inl (G.2.1, 21, .inl pq)), (ml, .inl (G.2.1, 21, .inl ld)), (mf, .inl (G.2.1, 20, .inl fo))]) hx hb hml hown hts hK hP hD hl (c_X6_holds l G m0 ms mv mt mh mb mg mq ml mf th s0 sv sm tx ln ht bu hg pq ld fo nw fw tp wr dg 1 H.size (by first | assumption | omega)) [0, 1, 2, 3, 4, 5, 6, 7, 8, 9] rfl (by decide) gX6_bestHanger_X6_holds rfl rfl rfl (by decide +kernel) rfl ⟨Nat.le_of_ble_eq_true rfl, Nat.le_of_ble_eq_true rfl⟩ rfl rfl rfl (Nat.le_of_ble_eq_true rfl) dX6_bestHanger_16 ⟨Nat.le_of_ble_eq_true rfl, Nat.le_of_ble_eq_true rfl⟩) (fun r_16 u H locs hw hP hD hS => ?_)
    have hw_16 : r_16 = bI (decide (1 = 0)) := hw
    have hP : va_P G.1 vwCl [(m0, .inr (6, [.int (nI (1)), .ref ms, .ref mv, .int (nI (sm)), .ref mt, .int (nI (ln)), .ref mh, .ref mb, .ref mg, .ref mq, .ref ml, .ref mf, .int nw, .int fw, .int (nI (tp)), .int (bI (wr)), .long dg])), (ms, .inl (G.2.1, 88, .inl s0)), (mv, .inl (G.2.1, 528, .inl sv)), (mt, .inl (G.2.1, 60, .inl tx)), (mh, .inl (G.2.1, 21, .inl ht)), (mb, .inl (G.2.1, 21, .inl bu)), (mg, .inl (G.2.1, 21, .inl hg)), (mq, .inl (G.2.1, 21, .inl pq)), (ml, .inl (G.2.1, 21, .inl ld)), (mf, .inl (G.2.1, 20, .inl fo))] H := hP
    have hD : va_D A [(m0, .inr (6, [.int (nI (1)), .ref ms, .ref mv, .int (nI (sm)), .ref mt, .int (nI (ln)), .ref mh, .ref mb, .ref mg, .ref mq, .ref ml, .ref mf, .int nw, .int fw, .int (nI (tp)), .int (bI (wr)), .long dg])), (ms, .inl (G.2.1, 88, .inl s0)), (mv, .inl (G.2.1, 528, .inl sv)), (mt, .inl (G.2.1, 60, .inl tx)), (mh, .inl (G.2.1, 21, .inl ht)), (mb, .inl (G.2.1, 21, .inl bu)), (mg, .inl (G.2.1, 21, .inl hg)), (mq, .inl (G.2.1, 21, .inl pq)), (ml, .inl (G.2.1, 21, .inl ld)), (mf, .inl (G.2.1, 20, .inl fo))] := hD
    subst hw_16
    refine g_ti (y := nI 0) (by rw [decide_eq_false (by decide)]; rfl) ?_
    refine g_if_eq (a := 0) (tgt := 30) hx hb (by omega) dX6_bestHanger_19 (by decide) (fun c_19 => ?_) (fun c_19 => ?_)
    · skip
      refine lv_iconst (v := 0) hx hb dX6_bestHanger_30 (by decide) ?_
      rw [hQ]
      exact k_iret (v := 0) () [0, 1, 2, 3, 4, 5, 6, 7, 8, 9] hx hb hr hlocks (rfl) hK hP hD hS rfl (by decide) dX6_bestHanger_31
    · exact absurd c_19 (by decide)
  · exact absurd c_8 (by decide)
set_option maxHeartbeats 4000000 in
set_option maxRecDepth 100000 in
theorem c_X6_bestHanger_0 (l : Launch) (G : kG) (m0 : Nat) (ms : Nat) (mv : Nat) (mt : Nat) (mh : Nat) (mb : Nat) (mg : Nat) (mq : Nat) (ml : Nat) (mf : Nat) (th : Nat) (s0 : Fn) (sv : Fn) (sm : Nat) (tx : Fn) (ln : Nat) (ht : Fn) (bu : Fn) (hg : Fn) (pq : Fn) (ld : Fn) (fo : Fn) (nw : Int32) (fw : Int32) (tp : Nat) (wr : Bool) (dg : Int64) (v : Int32) (n : Nat) (sz : Nat) (hok : mOK s0 n) (hv9 : 0 ≤ v ∧ v ≤ 99) : kMet l yX6_bestHanger wsX6_bestHanger ({ frames := 5, cells := 0, slots := 0, locals := 119 } : Room) G [.ref m0, .int v] [(m0, .inr (6, [.int (nI (th)), .ref ms, .ref mv, .int (nI (sm)), .ref mt, .int (nI (ln)), .ref mh, .ref mb, .ref mg, .ref mq, .ref ml, .ref mf, .int nw, .int fw, .int (nI (tp)), .int (bI (wr)), .long dg])), (ms, .inl (G.2.1, 88, .inl s0)), (mv, .inl (G.2.1, 528, .inl sv)), (mt, .inl (G.2.1, 60, .inl tx)), (mh, .inl (G.2.1, 21, .inl ht)), (mb, .inl (G.2.1, 21, .inl bu)), (mg, .inl (G.2.1, 21, .inl hg)), (mq, .inl (G.2.1, 21, .inl pq)), (ml, .inl (G.2.1, 21, .inl ld)), (mf, .inl (G.2.1, 20, .inl fo))] sz (kQi G (fun (r : Int32) (u : Fn × Fn × Fn × Fn × Fn × Fn × Int32 × Int32) => r = (bsh (gHg n (mST s0) (mWE s0) (mHA s0) (mPR s0) (mSE s0) v) (n - 1)).1) (fun (u : Fn × Fn × Fn × Fn × Fn × Fn × Int32 × Int32) => [(m0, .inr (6, [.int (nI 0), .ref ms, .ref mv, .int (nI (sm)), .ref mt, .int (nI (ln)), .ref mh, .ref mb, .ref mg, .ref mq, .ref ml, .ref mf, .int u.2.2.2.2.2.2.1, .int u.2.2.2.2.2.2.2, .int (nI (tp)), .int (bI (wr)), .long dg])), (ms, .inl (G.2.1, 88, .inl s0)), (mv, .inl (G.2.1, 528, .inl sv)), (mt, .inl (G.2.1, 60, .inl tx)), (mh, .inl (G.2.1, 21, .inl u.1)), (mb, .inl (G.2.1, 21, .inl u.2.1)), (mg, .inl (G.2.1, 21, .inl u.2.2.1)), (mq, .inl (G.2.1, 21, .inl u.2.2.2.1)), (ml, .inl (G.2.1, 21, .inl u.2.2.2.2.1)), (mf, .inl (G.2.1, 20, .inl u.2.2.2.2.2.1))])) 0 0 := by
  refine k_entry (cc := cX6_bestHanger) (maxL := 2) (ret := (some .int)) (by decide) rfl (Nat.le_of_ble_eq_true rfl) ?_
  intro p e s m args below meth c A ls H locs Q hQ hx hb hml hr hts hown hlocks hin hA hP hK hD hS hl
  have hown : s.vm.findClass RX6 = some m.cls := hown
  have hl : lv_has ls 2 [(0, .ref m0), (1, .int v)] := hl
  obtain ⟨hs0, hn1, hn, hv⟩ := id hok
  refine lv_aload_n hx hb dX6_bestHanger_0 rfl (lv_at hl 0 rfl) ?_
  refine lv_iload_n hx hb dX6_bestHanger_1 rfl (lv_at hl 1 rfl) ?_
  refine lv_iconst (v := 0) hx hb dX6_bestHanger_2 (by decide) ?_
  refine lv_bipush (v := 99) hx hb dX6_bestHanger_3 (by decide) ?_
  refine k_ci (wr := [(m0, .inr (6, [.int (nI (th)), .ref ms, .ref mv, .int (nI (sm)), .ref mt, .int (nI (ln)), .ref mh, .ref mb, .ref mg, .ref mq, .ref ml, .ref mf, .int nw, .int fw, .int (nI (tp)), .int (bI (wr)), .long dg])), (ms, .inl (G.2.1, 88, .inl s0)), (mv, .inl (G.2.1, 528, .inl sv)), (mt, .inl (G.2.1, 60, .inl tx)), (mh, .inl (G.2.1, 21, .inl ht)), (mb, .inl (G.2.1, 21, .inl bu)), (mg, .inl (G.2.1, 21, .inl hg)), (mq, .inl (G.2.1, 21, .inl pq)), (ml, .inl (G.2.1, 21, .inl ld)), (mf, .inl (G.2.1, 20, .inl fo))]) [0, 1, 2, 3, 4, 5, 6, 7, 8, 9] rfl (by decide) [] rfl (by decide) hP hD hS hA (k_S (n := 3) (As := [.int v, .int 0, .int 99]) (rest := [.ref m0]) (wc := []) hx hb hml hown hts hK hP hD hl (c_X6_in l G v 0 99 H.size) [] rfl (by decide) gX6_bestHanger_X6_in rfl rfl rfl (by decide +kernel) rfl ⟨Nat.le_of_ble_eq_true rfl, Nat.le_of_ble_eq_true rfl⟩ rfl (Nat.le_of_ble_eq_true rfl) dX6_bestHanger_5 ⟨Nat.le_of_ble_eq_true rfl, Nat.le_of_ble_eq_true rfl⟩) (fun r_5 u H locs hw hP hD hS => ?_)
  have hw_5 : r_5 = bI (decide (0 ≤ v ∧ v ≤ 99)) := hw
  have hP : va_P G.1 vwCl [(m0, .inr (6, [.int (nI (th)), .ref ms, .ref mv, .int (nI (sm)), .ref mt, .int (nI (ln)), .ref mh, .ref mb, .ref mg, .ref mq, .ref ml, .ref mf, .int nw, .int fw, .int (nI (tp)), .int (bI (wr)), .long dg])), (ms, .inl (G.2.1, 88, .inl s0)), (mv, .inl (G.2.1, 528, .inl sv)), (mt, .inl (G.2.1, 60, .inl tx)), (mh, .inl (G.2.1, 21, .inl ht)), (mb, .inl (G.2.1, 21, .inl bu)), (mg, .inl (G.2.1, 21, .inl hg)), (mq, .inl (G.2.1, 21, .inl pq)), (ml, .inl (G.2.1, 21, .inl ld)), (mf, .inl (G.2.1, 20, .inl fo))] H := hP
  have hD : va_D A [(m0, .inr (6, [.int (nI (th)), .ref ms, .ref mv, .int (nI (sm)), .ref mt, .int (nI (ln)), .ref mh, .ref mb, .ref mg, .ref mq, .ref ml, .ref mf, .int nw, .int fw, .int (nI (tp)), .int (bI (wr)), .long dg])), (ms, .inl (G.2.1, 88, .inl s0)), (mv, .inl (G.2.1, 528, .inl sv)), (mt, .inl (G.2.1, 60, .inl tx)), (mh, .inl (G.2.1, 21, .inl ht)), (mb, .inl (G.2.1, 21, .inl bu)), (mg, .inl (G.2.1, 21, .inl hg)), (mq, .inl (G.2.1, 21, .inl pq)), (ml, .inl (G.2.1, 21, .inl ld)), (mf, .inl (G.2.1, 20, .inl fo))] := hD
  subst hw_5
  refine g_ti (y := nI 1) (by rw [decide_eq_true hv9]; rfl) ?_
  refine g_if_eq (a := 1) (tgt := 15) hx hb (by omega) dX6_bestHanger_8 (by decide) (fun c_8 => ?_) (fun c_8 => ?_)
  · exact absurd c_8 (by decide)
  · skip
    refine lv_iconst (v := 0) hx hb dX6_bestHanger_11 (by decide) ?_
    refine lv_goto (tgt := 16) hx hb dX6_bestHanger_12 (by decide) ?_
    refine k_ci (wr := []) [] rfl (by decide) [0, 1, 2, 3, 4, 5, 6, 7, 8, 9] rfl (by decide) hP hD hS hA (k_V (n := 1) (ci := 6) (As := [.int 0]) (rest := []) (wc := [(m0, .inr (6, [.int (nI (th)), .ref ms, .ref mv, .int (nI (sm)), .ref mt, .int (nI (ln)), .ref mh, .ref mb, .ref mg, .ref mq, .ref ml, .ref mf, .int nw, .int fw, .int (nI (tp)), .int (bI (wr)), .long dg])), (ms, .inl (G.2.1, 88, .inl s0)), (mv, .inl (G.2.1, 528, .inl sv)), (mt, .inl (G.2.1, 60, .inl tx)), (mh, .inl (G.2.1, 21, .inl ht)), (mb, .inl (G.2.1, 21, .inl bu)), (mg, .inl (G.2.1, 21, .inl hg)), (mq, .inl (G.2.1, 21, .inl pq)), (ml, .inl (G.2.1, 21, .inl ld)), (mf, .inl (G.2.1, 20, .inl fo))]) hx hb hml hown hts hK hP hD hl (c_X6_holds l G m0 ms mv mt mh mb mg mq ml mf th s0 sv sm tx ln ht bu hg pq ld fo nw fw tp wr dg 0 H.size (by first | assumption | omega)) [0, 1, 2, 3, 4, 5, 6, 7, 8, 9] rfl (by decide) gX6_bestHanger_X6_holds rfl rfl rfl (by decide +kernel) rfl ⟨Nat.le_of_ble_eq_true rfl, Nat.le_of_ble_eq_true rfl⟩ rfl rfl rfl (Nat.le_of_ble_eq_true rfl) dX6_bestHanger_16 ⟨Nat.le_of_ble_eq_true rfl, Nat.le_of_ble_eq_true rfl⟩) (fun r_16 u H locs hw hP hD hS => ?_)
    have hw_16 : r_16 = bI (decide (0 = 0)) := hw
    have hP : va_P G.1 vwCl [(m0, .inr (6, [.int (nI (0)), .ref ms, .ref mv, .int (nI (sm)), .ref mt, .int (nI (ln)), .ref mh, .ref mb, .ref mg, .ref mq, .ref ml, .ref mf, .int nw, .int fw, .int (nI (tp)), .int (bI (wr)), .long dg])), (ms, .inl (G.2.1, 88, .inl s0)), (mv, .inl (G.2.1, 528, .inl sv)), (mt, .inl (G.2.1, 60, .inl tx)), (mh, .inl (G.2.1, 21, .inl ht)), (mb, .inl (G.2.1, 21, .inl bu)), (mg, .inl (G.2.1, 21, .inl hg)), (mq, .inl (G.2.1, 21, .inl pq)), (ml, .inl (G.2.1, 21, .inl ld)), (mf, .inl (G.2.1, 20, .inl fo))] H := hP
    have hD : va_D A [(m0, .inr (6, [.int (nI (0)), .ref ms, .ref mv, .int (nI (sm)), .ref mt, .int (nI (ln)), .ref mh, .ref mb, .ref mg, .ref mq, .ref ml, .ref mf, .int nw, .int fw, .int (nI (tp)), .int (bI (wr)), .long dg])), (ms, .inl (G.2.1, 88, .inl s0)), (mv, .inl (G.2.1, 528, .inl sv)), (mt, .inl (G.2.1, 60, .inl tx)), (mh, .inl (G.2.1, 21, .inl ht)), (mb, .inl (G.2.1, 21, .inl bu)), (mg, .inl (G.2.1, 21, .inl hg)), (mq, .inl (G.2.1, 21, .inl pq)), (ml, .inl (G.2.1, 21, .inl ld)), (mf, .inl (G.2.1, 20, .inl fo))] := hD
    subst hw_16
    refine g_ti (y := nI 1) (by rw [decide_eq_true (show (0 : Nat) = 0 from rfl)]; rfl) ?_
    refine g_if_eq (a := 1) (tgt := 30) hx hb (by omega) dX6_bestHanger_19 (by decide) (fun c_19 => ?_) (fun c_19 => ?_)
    · exact absurd c_19 (by decide)
    · skip
      refine lv_aload_n hx hb dX6_bestHanger_22 rfl (lv_at hl 0 rfl) ?_
      refine lv_iload_n hx hb dX6_bestHanger_23 rfl (lv_at hl 1 rfl) ?_
      refine k_ci (wr := []) [] rfl (by decide) [0, 1, 2, 3, 4, 5, 6, 7, 8, 9] rfl (by decide) hP hD hS hA (k_V (n := 1) (ci := 6) (As := [.int v]) (rest := []) (wc := [(m0, .inr (6, [.int (nI (0)), .ref ms, .ref mv, .int (nI (sm)), .ref mt, .int (nI (ln)), .ref mh, .ref mb, .ref mg, .ref mq, .ref ml, .ref mf, .int nw, .int fw, .int (nI (tp)), .int (bI (wr)), .long dg])), (ms, .inl (G.2.1, 88, .inl s0)), (mv, .inl (G.2.1, 528, .inl sv)), (mt, .inl (G.2.1, 60, .inl tx)), (mh, .inl (G.2.1, 21, .inl ht)), (mb, .inl (G.2.1, 21, .inl bu)), (mg, .inl (G.2.1, 21, .inl hg)), (mq, .inl (G.2.1, 21, .inl pq)), (ml, .inl (G.2.1, 21, .inl ld)), (mf, .inl (G.2.1, 20, .inl fo))]) hx hb hml hown hts hK hP hD hl (c_X6_bestHung l G m0 ms mv mt mh mb mg mq ml mf 0 s0 sv sm tx ln ht bu hg pq ld fo nw fw tp wr dg v n H.size (by first | assumption | omega) (by first | assumption | omega)) [0, 1, 2, 3, 4, 5, 6, 7, 8, 9] rfl (by decide) gX6_bestHanger_X6_bestHung rfl rfl rfl (by decide +kernel) rfl ⟨Nat.le_of_ble_eq_true rfl, Nat.le_of_ble_eq_true rfl⟩ rfl rfl rfl (Nat.le_of_ble_eq_true rfl) dX6_bestHanger_24 ⟨Nat.le_of_ble_eq_true rfl, Nat.le_of_ble_eq_true rfl⟩) (fun r_24 u H locs hw hP hD hS => ?_)
      obtain ⟨ht2_24, bu2_24, hg2_24, pq2_24, ld2_24, fo2_24, nw2_24, fw2_24⟩ := u
      have hw_24 : r_24 = (bsh (gHg n (mST s0) (mWE s0) (mHA s0) (mPR s0) (mSE s0) v) (n - 1)).1 := hw
      have hP : va_P G.1 vwCl [(m0, .inr (6, [.int (nI (0)), .ref ms, .ref mv, .int (nI (sm)), .ref mt, .int (nI (ln)), .ref mh, .ref mb, .ref mg, .ref mq, .ref ml, .ref mf, .int nw2_24, .int fw2_24, .int (nI (tp)), .int (bI (wr)), .long dg])), (ms, .inl (G.2.1, 88, .inl s0)), (mv, .inl (G.2.1, 528, .inl sv)), (mt, .inl (G.2.1, 60, .inl tx)), (mh, .inl (G.2.1, 21, .inl ht2_24)), (mb, .inl (G.2.1, 21, .inl bu2_24)), (mg, .inl (G.2.1, 21, .inl hg2_24)), (mq, .inl (G.2.1, 21, .inl pq2_24)), (ml, .inl (G.2.1, 21, .inl ld2_24)), (mf, .inl (G.2.1, 20, .inl fo2_24))] H := hP
      have hD : va_D A [(m0, .inr (6, [.int (nI (0)), .ref ms, .ref mv, .int (nI (sm)), .ref mt, .int (nI (ln)), .ref mh, .ref mb, .ref mg, .ref mq, .ref ml, .ref mf, .int nw2_24, .int fw2_24, .int (nI (tp)), .int (bI (wr)), .long dg])), (ms, .inl (G.2.1, 88, .inl s0)), (mv, .inl (G.2.1, 528, .inl sv)), (mt, .inl (G.2.1, 60, .inl tx)), (mh, .inl (G.2.1, 21, .inl ht2_24)), (mb, .inl (G.2.1, 21, .inl bu2_24)), (mg, .inl (G.2.1, 21, .inl hg2_24)), (mq, .inl (G.2.1, 21, .inl pq2_24)), (ml, .inl (G.2.1, 21, .inl ld2_24)), (mf, .inl (G.2.1, 20, .inl fo2_24))] := hD
      subst hw_24
      refine lv_goto (tgt := 31) hx hb dX6_bestHanger_27 (by decide) ?_
      rw [hQ]
      exact k_iret (v := (bsh (gHg n (mST s0) (mWE s0) (mHA s0) (mPR s0) (mSE s0) v) (n - 1)).1) (ht2_24, bu2_24, hg2_24, pq2_24, ld2_24, fo2_24, nw2_24, fw2_24) [0, 1, 2, 3, 4, 5, 6, 7, 8, 9] hx hb hr hlocks (rfl) hK hP hD hS rfl (by decide) dX6_bestHanger_31
set_option maxHeartbeats 4000000 in
set_option maxRecDepth 100000 in
theorem c_X6_calmest (l : Launch) (G : kG) (m0 : Nat) (ms : Nat) (mv : Nat) (mt : Nat) (mh : Nat) (mb : Nat) (mg : Nat) (mq : Nat) (ml : Nat) (mf : Nat) (th : Nat) (s0 : Fn) (sv : Fn) (sm : Nat) (tx : Fn) (ln : Nat) (ht : Fn) (bu : Fn) (hg : Fn) (pq : Fn) (ld : Fn) (fo : Fn) (nw : Int32) (fw : Int32) (tp : Nat) (wr : Bool) (dg : Int64) (j : Nat) (n : Nat) (sz : Nat) (hok : mOK s0 n) (hj : j < n) : kMet l yX6_calmest wsX6_calmest ({ frames := 4, cells := 0, slots := 0, locals := 92 } : Room) G [.ref m0, .int (nI (j))] [(m0, .inr (6, [.int (nI (th)), .ref ms, .ref mv, .int (nI (sm)), .ref mt, .int (nI (ln)), .ref mh, .ref mb, .ref mg, .ref mq, .ref ml, .ref mf, .int nw, .int fw, .int (nI (tp)), .int (bI (wr)), .long dg])), (ms, .inl (G.2.1, 88, .inl s0)), (mv, .inl (G.2.1, 528, .inl sv)), (mt, .inl (G.2.1, 60, .inl tx)), (mh, .inl (G.2.1, 21, .inl ht)), (mb, .inl (G.2.1, 21, .inl bu)), (mg, .inl (G.2.1, 21, .inl hg)), (mq, .inl (G.2.1, 21, .inl pq)), (ml, .inl (G.2.1, 21, .inl ld)), (mf, .inl (G.2.1, 20, .inl fo))] sz (kQi G (fun (r : Int32) (u : Fn × Fn × Fn × Fn × Fn × Fn × Int32 × Int32) => r = (bsp (gSp n (mST s0) (mWE s0) (mHA s0) (mPR s0) (mSE s0) j) 5).1 + 2) (fun (u : Fn × Fn × Fn × Fn × Fn × Fn × Int32 × Int32) => [(m0, .inr (6, [.int (nI (th)), .ref ms, .ref mv, .int (nI (sm)), .ref mt, .int (nI (ln)), .ref mh, .ref mb, .ref mg, .ref mq, .ref ml, .ref mf, .int u.2.2.2.2.2.2.1, .int u.2.2.2.2.2.2.2, .int (nI (tp)), .int (bI (wr)), .long dg])), (ms, .inl (G.2.1, 88, .inl s0)), (mv, .inl (G.2.1, 528, .inl sv)), (mt, .inl (G.2.1, 60, .inl tx)), (mh, .inl (G.2.1, 21, .inl u.1)), (mb, .inl (G.2.1, 21, .inl u.2.1)), (mg, .inl (G.2.1, 21, .inl u.2.2.1)), (mq, .inl (G.2.1, 21, .inl u.2.2.2.1)), (ml, .inl (G.2.1, 21, .inl u.2.2.2.2.1)), (mf, .inl (G.2.1, 20, .inl u.2.2.2.2.2.1))])) 0 0 := by
  refine k_entry (cc := cX6_calmest) (maxL := 7) (ret := (some .int)) (by decide) rfl (Nat.le_of_ble_eq_true rfl) ?_
  intro p e s m args below meth c A ls H locs Q hQ hx hb hml hr hts hown hlocks hin hA hP hK hD hS hl
  have hown : s.vm.findClass RX6 = some m.cls := hown
  have hl : lv_has ls 7 [(0, .ref m0), (1, .int (nI (j)))] := hl
  obtain ⟨hs0, hn1, hn, hv⟩ := id hok
  refine lv_bipush (v := (-3)) hx hb dX6_calmest_0 (by decide) ?_
  refine lv_istore_n (lv' := [(2, .int (-3)), (0, .ref m0), (1, .int (nI (j)))]) hx hb dX6_calmest_2 rfl hl (by decide) rfl (fun ls hl => ?_)
  refine lv_iconst (v := 0) hx hb dX6_calmest_3 (by decide) ?_
  refine lv_istore_n (lv' := [(3, .int 0), (2, .int (-3)), (0, .ref m0), (1, .int (nI (j)))]) hx hb dX6_calmest_4 rfl hl (by decide) rfl (fun ls hl => ?_)
  refine lv_bipush (v := (-2)) hx hb dX6_calmest_5 (by decide) ?_
  refine lv_istore (lv' := [(4, .int (-2)), (3, .int 0), (2, .int (-3)), (0, .ref m0), (1, .int (nI (j)))]) hx hb dX6_calmest_7 hl (by decide) rfl (fun ls hl => ?_)
  have L9 : ∀ (n9 : Nat) (i : Nat) (fd : Int32) (le : Int32) (ht3 : Fn) (bu3 : Fn) (hg3 : Fn) (pq3 : Fn) (ld3 : Fn) (fo3 : Fn) (nw3 : Int32) (fw3 : Int32), (i ≤ 5) → ((fd, le) = bsp (gSp n (mST s0) (mWE s0) (mHA s0) (mPR s0) (mSE s0) j) i) → (5 - i < n9) → ∀ (H : Heap) (locs : List Loc) (ls : Array Slot), va_P G.1 vwCl [(m0, .inr (6, [.int (nI (th)), .ref ms, .ref mv, .int (nI (sm)), .ref mt, .int (nI (ln)), .ref mh, .ref mb, .ref mg, .ref mq, .ref ml, .ref mf, .int nw3, .int fw3, .int (nI (tp)), .int (bI (wr)), .long dg])), (ms, .inl (G.2.1, 88, .inl s0)), (mv, .inl (G.2.1, 528, .inl sv)), (mt, .inl (G.2.1, 60, .inl tx)), (mh, .inl (G.2.1, 21, .inl ht3)), (mb, .inl (G.2.1, 21, .inl bu3)), (mg, .inl (G.2.1, 21, .inl hg3)), (mq, .inl (G.2.1, 21, .inl pq3)), (ml, .inl (G.2.1, 21, .inl ld3)), (mf, .inl (G.2.1, 20, .inl fo3))] H → va_D A [(m0, .inr (6, [.int (nI (th)), .ref ms, .ref mv, .int (nI (sm)), .ref mt, .int (nI (ln)), .ref mh, .ref mb, .ref mg, .ref mq, .ref ml, .ref mf, .int nw3, .int fw3, .int (nI (tp)), .int (bI (wr)), .long dg])), (ms, .inl (G.2.1, 88, .inl s0)), (mv, .inl (G.2.1, 528, .inl sv)), (mt, .inl (G.2.1, 60, .inl tx)), (mh, .inl (G.2.1, 21, .inl ht3)), (mb, .inl (G.2.1, 21, .inl bu3)), (mg, .inl (G.2.1, 21, .inl hg3)), (mq, .inl (G.2.1, 21, .inl pq3)), (ml, .inl (G.2.1, 21, .inl ld3)), (mf, .inl (G.2.1, 20, .inl fo3))] → va_S A s.heap H locs → lv_has ls 7 [(4, .int (stI i)), (3, .int le), (2, .int fd), (0, .ref m0), (1, .int (nI (j)))] → W p l e ({ frames := 4, cells := 0, slots := 0, locals := 92 } : Room) s m args below meth c H locs 0 0 Q (F0 m 9 ls []) := by
    intro n9
    induction n9 with
    | zero =>
      intro i fd le ht3 bu3 hg3 pq3 ld3 fo3 nw3 fw3 hi hB hm9 H locs ls hP hD hS hl
      exact absurd hm9 (Nat.not_lt_zero _)
    | succ n9 ih9 =>
      intro i fd le ht3 bu3 hg3 pq3 ld3 fo3 nw3 fw3 hi hB hm9 H locs ls hP hD hS hl
      refine lv_iload hx hb dX6_calmest_9 (lv_at hl 0 rfl) ?_
      refine lv_iconst (v := 2) hx hb dX6_calmest_11 (by decide) ?_
      refine lv_icmp_gt (tgt := 75) hx hb dX6_calmest_12 (by decide) (fun c_12 => ?_) (fun c_12 => ?_)
      · skip
        have i5 := stI_gt hi c_12
        subst i5
        refine lv_iload_n hx hb dX6_calmest_75 rfl (lv_at hl 2 rfl) ?_
        refine lv_iconst (v := 2) hx hb dX6_calmest_76 (by decide) ?_
        refine lv_iadd hx hb dX6_calmest_77 ?_
        rw [hQ]
        exact k_iret (v := fd + 2) (ht3, bu3, hg3, pq3, ld3, fo3, nw3, fw3) [0, 1, 2, 3, 4, 5, 6, 7, 8, 9] hx hb hr hlocks (by rw [← hB]) hK hP hD hS rfl (by decide) dX6_calmest_78
      · skip
        have i5 := stI_le hi c_12
        refine lv_aload_n hx hb dX6_calmest_15 rfl (lv_at hl 3 rfl) ?_
        refine lv_iconst (v := 5) hx hb dX6_calmest_16 (by decide) ?_
        refine lv_iload_n hx hb dX6_calmest_17 rfl (lv_at hl 4 rfl) ?_
        refine lv_iadd hx hb dX6_calmest_18 ?_
        refine g_ti (y := nI (5 + j)) (nI_add (5) (j)) ?_
        refine lv_iload hx hb dX6_calmest_19 (lv_at hl 0 rfl) ?_
        refine k_ci (wr := []) [] rfl (by decide) [0, 1, 2, 3, 4, 5, 6, 7, 8, 9] rfl (by decide) hP hD hS hA (k_V (n := 2) (ci := 6) (As := [.int (nI (5 + j)), .int (stI i)]) (rest := []) (wc := [(m0, .inr (6, [.int (nI (th)), .ref ms, .ref mv, .int (nI (sm)), .ref mt, .int (nI (ln)), .ref mh, .ref mb, .ref mg, .ref mq, .ref ml, .ref mf, .int nw3, .int fw3, .int (nI (tp)), .int (bI (wr)), .long dg])), (ms, .inl (G.2.1, 88, .inl s0)), (mv, .inl (G.2.1, 528, .inl sv)), (mt, .inl (G.2.1, 60, .inl tx)), (mh, .inl (G.2.1, 21, .inl ht3)), (mb, .inl (G.2.1, 21, .inl bu3)), (mg, .inl (G.2.1, 21, .inl hg3)), (mq, .inl (G.2.1, 21, .inl pq3)), (ml, .inl (G.2.1, 21, .inl ld3)), (mf, .inl (G.2.1, 20, .inl fo3))]) hx hb hml hown hts hK hP hD hl (c_X6_greatestWith l G m0 ms mv mt mh mb mg mq ml mf th s0 sv sm tx ln ht3 bu3 hg3 pq3 ld3 fo3 nw3 fw3 tp wr dg (5 + j) (stI i) n H.size (mOK_st hok hj (stI_r i5)) (by first | assumption | omega)) [0, 1, 2, 3, 4, 5, 6, 7, 8, 9] rfl (by decide) gX6_calmest_X6_greatestWith rfl rfl rfl (by decide +kernel) rfl ⟨Nat.le_of_ble_eq_true rfl, Nat.le_of_ble_eq_true rfl⟩ rfl rfl rfl (Nat.le_of_ble_eq_true rfl) dX6_calmest_21 ⟨Nat.le_of_ble_eq_true rfl, Nat.le_of_ble_eq_true rfl⟩) (fun r_21 u H locs hw hP hD hS => ?_)
        obtain ⟨ht2_21, bu2_21, hg2_21, pq2_21, ld2_21, fo2_21, nw2_21, fw2_21⟩ := u
        have hw_21 : r_21 = cGR n (mST (upd s0 (5 + j) (stI i))) (mWE (upd s0 (5 + j) (stI i))) (mHA (upd s0 (5 + j) (stI i))) (mPR (upd s0 (5 + j) (stI i))) (mSE (upd s0 (5 + j) (stI i))) := hw
        have hP : va_P G.1 vwCl [(m0, .inr (6, [.int (nI (th)), .ref ms, .ref mv, .int (nI (sm)), .ref mt, .int (nI (ln)), .ref mh, .ref mb, .ref mg, .ref mq, .ref ml, .ref mf, .int nw2_21, .int fw2_21, .int (nI (tp)), .int (bI (wr)), .long dg])), (ms, .inl (G.2.1, 88, .inl s0)), (mv, .inl (G.2.1, 528, .inl sv)), (mt, .inl (G.2.1, 60, .inl tx)), (mh, .inl (G.2.1, 21, .inl ht2_21)), (mb, .inl (G.2.1, 21, .inl bu2_21)), (mg, .inl (G.2.1, 21, .inl hg2_21)), (mq, .inl (G.2.1, 21, .inl pq2_21)), (ml, .inl (G.2.1, 21, .inl ld2_21)), (mf, .inl (G.2.1, 20, .inl fo2_21))] H := hP
        have hD : va_D A [(m0, .inr (6, [.int (nI (th)), .ref ms, .ref mv, .int (nI (sm)), .ref mt, .int (nI (ln)), .ref mh, .ref mb, .ref mg, .ref mq, .ref ml, .ref mf, .int nw2_21, .int fw2_21, .int (nI (tp)), .int (bI (wr)), .long dg])), (ms, .inl (G.2.1, 88, .inl s0)), (mv, .inl (G.2.1, 528, .inl sv)), (mt, .inl (G.2.1, 60, .inl tx)), (mh, .inl (G.2.1, 21, .inl ht2_21)), (mb, .inl (G.2.1, 21, .inl bu2_21)), (mg, .inl (G.2.1, 21, .inl hg2_21)), (mq, .inl (G.2.1, 21, .inl pq2_21)), (ml, .inl (G.2.1, 21, .inl ld2_21)), (mf, .inl (G.2.1, 20, .inl fo2_21))] := hD
        subst hw_21
        refine g_ti (y := gSp n (mST s0) (mWE s0) (mHA s0) (mPR s0) (mSE s0) j i) (mGR_st hok hj) ?_
        refine lv_istore (lv' := [(5, .int (gSp n (mST s0) (mWE s0) (mHA s0) (mPR s0) (mSE s0) j i)), (4, .int (stI i)), (3, .int le), (2, .int fd), (0, .ref m0), (1, .int (nI (j)))]) hx hb dX6_calmest_24 hl (by decide) rfl (fun ls hl => ?_)
        refine lv_iload_n hx hb dX6_calmest_26 rfl (lv_at hl 3 rfl) ?_
        refine lv_bipush (v := (-3)) hx hb dX6_calmest_27 (by decide) ?_
        refine lv_icmp_eq (tgt := 38) hx hb dX6_calmest_29 (by decide) (fun c_29 => ?_) (fun c_29 => ?_)
        · skip
          refine lv_iconst (v := 1) hx hb dX6_calmest_38 (by decide) ?_
          refine lv_goto (tgt := 43) hx hb dX6_calmest_39 (by decide) ?_
          refine lv_istore (lv' := [(6, .int 1), (5, .int (gSp n (mST s0) (mWE s0) (mHA s0) (mPR s0) (mSE s0) j i)), (4, .int (stI i)), (3, .int le), (2, .int fd), (0, .ref m0), (1, .int (nI (j)))]) hx hb dX6_calmest_43 hl (by decide) rfl (fun ls hl => ?_)
          refine lv_iload hx hb dX6_calmest_45 (lv_at hl 0 rfl) ?_
          refine g_if_eq (a := 1) (tgt := 55) hx hb (by omega) dX6_calmest_47 (by decide) (fun c_47 => ?_) (fun c_47 => ?_)
          · exact absurd c_47 (by decide)
          · skip
            refine lv_iload hx hb dX6_calmest_50 (lv_at hl 2 rfl) ?_
            refine lv_goto (tgt := 56) hx hb dX6_calmest_52 (by decide) ?_
            refine lv_istore_n (lv' := [(2, .int (stI i)), (6, .int 1), (5, .int (gSp n (mST s0) (mWE s0) (mHA s0) (mPR s0) (mSE s0) j i)), (4, .int (stI i)), (3, .int le), (0, .ref m0), (1, .int (nI (j)))]) hx hb dX6_calmest_56 rfl hl (by decide) rfl (fun ls hl => ?_)
            refine lv_iload hx hb dX6_calmest_57 (lv_at hl 1 rfl) ?_
            refine g_if_eq (a := 1) (tgt := 67) hx hb (by omega) dX6_calmest_59 (by decide) (fun c_59 => ?_) (fun c_59 => ?_)
            · exact absurd c_59 (by decide)
            · skip
              refine lv_iload hx hb dX6_calmest_62 (lv_at hl 2 rfl) ?_
              refine lv_goto (tgt := 68) hx hb dX6_calmest_64 (by decide) ?_
              refine lv_istore_n (lv' := [(3, .int (gSp n (mST s0) (mWE s0) (mHA s0) (mPR s0) (mSE s0) j i)), (2, .int (stI i)), (6, .int 1), (5, .int (gSp n (mST s0) (mWE s0) (mHA s0) (mPR s0) (mSE s0) j i)), (4, .int (stI i)), (0, .ref m0), (1, .int (nI (j)))]) hx hb dX6_calmest_68 rfl hl (by decide) rfl (fun ls hl => ?_)
              refine lv_iinc (v := stI (i + 1)) (lv' := [(4, .int (stI (i + 1))), (3, .int (gSp n (mST s0) (mWE s0) (mHA s0) (mPR s0) (mSE s0) j i)), (2, .int (stI i)), (6, .int 1), (5, .int (gSp n (mST s0) (mWE s0) (mHA s0) (mPR s0) (mSE s0) j i)), (0, .ref m0), (1, .int (nI (j)))]) hx hb dX6_calmest_69 hl (k := 4) rfl (stI_S i) (by decide) rfl (fun ls hl => ?_)
              refine lv_goto (tgt := 9) hx hb dX6_calmest_72 (by decide) ?_
              exact ih9 (i + 1) (stI i) (gSp n (mST s0) (mWE s0) (mHA s0) (mPR s0) (mSE s0) j i) ht2_21 bu2_21 hg2_21 pq2_21 ld2_21 fo2_21 nw2_21 fw2_21 (by first | assumption | omega) (bsp_t hB (Or.inl c_29)) (by omega) _ _ _ hP hD hS (lv_sub hl [0, 1, 2, 5, 6] rfl)
        · skip
          refine lv_iload hx hb dX6_calmest_32 (lv_at hl 0 rfl) ?_
          refine lv_iload_n hx hb dX6_calmest_34 rfl (lv_at hl 2 rfl) ?_
          refine lv_icmp_ge (tgt := 42) hx hb dX6_calmest_35 (by decide) (fun c_35 => ?_) (fun c_35 => ?_)
          · skip
            refine lv_iconst (v := 0) hx hb dX6_calmest_42 (by decide) ?_
            refine lv_istore (lv' := [(6, .int 0), (5, .int (gSp n (mST s0) (mWE s0) (mHA s0) (mPR s0) (mSE s0) j i)), (4, .int (stI i)), (3, .int le), (2, .int fd), (0, .ref m0), (1, .int (nI (j)))]) hx hb dX6_calmest_43 hl (by decide) rfl (fun ls hl => ?_)
            refine lv_iload hx hb dX6_calmest_45 (lv_at hl 0 rfl) ?_
            refine g_if_eq (a := 0) (tgt := 55) hx hb (by omega) dX6_calmest_47 (by decide) (fun c_47 => ?_) (fun c_47 => ?_)
            · skip
              refine lv_iload_n hx hb dX6_calmest_55 rfl (lv_at hl 4 rfl) ?_
              refine lv_istore_n (lv' := [(2, .int fd), (6, .int 0), (5, .int (gSp n (mST s0) (mWE s0) (mHA s0) (mPR s0) (mSE s0) j i)), (4, .int (stI i)), (3, .int le), (0, .ref m0), (1, .int (nI (j)))]) hx hb dX6_calmest_56 rfl hl (by decide) rfl (fun ls hl => ?_)
              refine lv_iload hx hb dX6_calmest_57 (lv_at hl 1 rfl) ?_
              refine g_if_eq (a := 0) (tgt := 67) hx hb (by omega) dX6_calmest_59 (by decide) (fun c_59 => ?_) (fun c_59 => ?_)
              · skip
                refine lv_iload_n hx hb dX6_calmest_67 rfl (lv_at hl 4 rfl) ?_
                refine lv_istore_n (lv' := [(3, .int le), (2, .int fd), (6, .int 0), (5, .int (gSp n (mST s0) (mWE s0) (mHA s0) (mPR s0) (mSE s0) j i)), (4, .int (stI i)), (0, .ref m0), (1, .int (nI (j)))]) hx hb dX6_calmest_68 rfl hl (by decide) rfl (fun ls hl => ?_)
                refine lv_iinc (v := stI (i + 1)) (lv' := [(4, .int (stI (i + 1))), (3, .int le), (2, .int fd), (6, .int 0), (5, .int (gSp n (mST s0) (mWE s0) (mHA s0) (mPR s0) (mSE s0) j i)), (0, .ref m0), (1, .int (nI (j)))]) hx hb dX6_calmest_69 hl (k := 4) rfl (stI_S i) (by decide) rfl (fun ls hl => ?_)
                refine lv_goto (tgt := 9) hx hb dX6_calmest_72 (by decide) ?_
                exact ih9 (i + 1) fd le ht2_21 bu2_21 hg2_21 pq2_21 ld2_21 fo2_21 nw2_21 fw2_21 (by first | assumption | omega) (bsp_k hB c_29 (i32_nlt c_35)) (by omega) _ _ _ hP hD hS (lv_sub hl [0, 1, 2, 5, 6] rfl)
              · exact absurd c_59 (by decide)
            · exact absurd c_47 (by decide)
          · skip
            refine lv_iconst (v := 1) hx hb dX6_calmest_38 (by decide) ?_
            refine lv_goto (tgt := 43) hx hb dX6_calmest_39 (by decide) ?_
            refine lv_istore (lv' := [(6, .int 1), (5, .int (gSp n (mST s0) (mWE s0) (mHA s0) (mPR s0) (mSE s0) j i)), (4, .int (stI i)), (3, .int le), (2, .int fd), (0, .ref m0), (1, .int (nI (j)))]) hx hb dX6_calmest_43 hl (by decide) rfl (fun ls hl => ?_)
            refine lv_iload hx hb dX6_calmest_45 (lv_at hl 0 rfl) ?_
            refine g_if_eq (a := 1) (tgt := 55) hx hb (by omega) dX6_calmest_47 (by decide) (fun c_47 => ?_) (fun c_47 => ?_)
            · exact absurd c_47 (by decide)
            · skip
              refine lv_iload hx hb dX6_calmest_50 (lv_at hl 2 rfl) ?_
              refine lv_goto (tgt := 56) hx hb dX6_calmest_52 (by decide) ?_
              refine lv_istore_n (lv' := [(2, .int (stI i)), (6, .int 1), (5, .int (gSp n (mST s0) (mWE s0) (mHA s0) (mPR s0) (mSE s0) j i)), (4, .int (stI i)), (3, .int le), (0, .ref m0), (1, .int (nI (j)))]) hx hb dX6_calmest_56 rfl hl (by decide) rfl (fun ls hl => ?_)
              refine lv_iload hx hb dX6_calmest_57 (lv_at hl 1 rfl) ?_
              refine g_if_eq (a := 1) (tgt := 67) hx hb (by omega) dX6_calmest_59 (by decide) (fun c_59 => ?_) (fun c_59 => ?_)
              · exact absurd c_59 (by decide)
              · skip
                refine lv_iload hx hb dX6_calmest_62 (lv_at hl 2 rfl) ?_
                refine lv_goto (tgt := 68) hx hb dX6_calmest_64 (by decide) ?_
                refine lv_istore_n (lv' := [(3, .int (gSp n (mST s0) (mWE s0) (mHA s0) (mPR s0) (mSE s0) j i)), (2, .int (stI i)), (6, .int 1), (5, .int (gSp n (mST s0) (mWE s0) (mHA s0) (mPR s0) (mSE s0) j i)), (4, .int (stI i)), (0, .ref m0), (1, .int (nI (j)))]) hx hb dX6_calmest_68 rfl hl (by decide) rfl (fun ls hl => ?_)
                refine lv_iinc (v := stI (i + 1)) (lv' := [(4, .int (stI (i + 1))), (3, .int (gSp n (mST s0) (mWE s0) (mHA s0) (mPR s0) (mSE s0) j i)), (2, .int (stI i)), (6, .int 1), (5, .int (gSp n (mST s0) (mWE s0) (mHA s0) (mPR s0) (mSE s0) j i)), (0, .ref m0), (1, .int (nI (j)))]) hx hb dX6_calmest_69 hl (k := 4) rfl (stI_S i) (by decide) rfl (fun ls hl => ?_)
                refine lv_goto (tgt := 9) hx hb dX6_calmest_72 (by decide) ?_
                exact ih9 (i + 1) (stI i) (gSp n (mST s0) (mWE s0) (mHA s0) (mPR s0) (mSE s0) j i) ht2_21 bu2_21 hg2_21 pq2_21 ld2_21 fo2_21 nw2_21 fw2_21 (by first | assumption | omega) (bsp_t hB (Or.inr (i32_lt c_35))) (by omega) _ _ _ hP hD hS (lv_sub hl [0, 1, 2, 5, 6] rfl)
  exact L9 (5 - 0 + 1) 0 (-3) 0 ht bu hg pq ld fo nw fw (by first | assumption | omega) (rfl) (Nat.lt_succ_self _) _ _ _ hP hD hS (lv_sub hl [0, 1, 2, 3, 4] rfl)
set_option maxHeartbeats 4000000 in
set_option maxRecDepth 100000 in
theorem c_X6_bestStep_1 (l : Launch) (G : kG) (m0 : Nat) (ms : Nat) (mv : Nat) (mt : Nat) (mh : Nat) (mb : Nat) (mg : Nat) (mq : Nat) (ml : Nat) (mf : Nat) (th : Nat) (s0 : Fn) (sv : Fn) (sm : Nat) (tx : Fn) (ln : Nat) (ht : Fn) (bu : Fn) (hg : Fn) (pq : Fn) (ld : Fn) (fo : Fn) (nw : Int32) (fw : Int32) (tp : Nat) (wr : Bool) (dg : Int64) (k : Int32) (n : Nat) (sz : Nat) (hok : mOK s0 n) (h1 : isN k n = false) : kMet l yX6_bestStep wsX6_bestStep ({ frames := 5, cells := 0, slots := 0, locals := 118 } : Room) G [.ref m0, .int k] [(m0, .inr (6, [.int (nI (th)), .ref ms, .ref mv, .int (nI (sm)), .ref mt, .int (nI (ln)), .ref mh, .ref mb, .ref mg, .ref mq, .ref ml, .ref mf, .int nw, .int fw, .int (nI (tp)), .int (bI (wr)), .long dg])), (ms, .inl (G.2.1, 88, .inl s0)), (mv, .inl (G.2.1, 528, .inl sv)), (mt, .inl (G.2.1, 60, .inl tx)), (mh, .inl (G.2.1, 21, .inl ht)), (mb, .inl (G.2.1, 21, .inl bu)), (mg, .inl (G.2.1, 21, .inl hg)), (mq, .inl (G.2.1, 21, .inl pq)), (ml, .inl (G.2.1, 21, .inl ld)), (mf, .inl (G.2.1, 20, .inl fo))] sz (kQi G (fun (r : Int32) (u : Unit) => r = 0) (fun (u : Unit) => [(m0, .inr (6, [.int (nI 1), .ref ms, .ref mv, .int (nI (sm)), .ref mt, .int (nI (ln)), .ref mh, .ref mb, .ref mg, .ref mq, .ref ml, .ref mf, .int nw, .int fw, .int (nI (tp)), .int (bI (wr)), .long dg])), (ms, .inl (G.2.1, 88, .inl s0)), (mv, .inl (G.2.1, 528, .inl sv)), (mt, .inl (G.2.1, 60, .inl tx)), (mh, .inl (G.2.1, 21, .inl ht)), (mb, .inl (G.2.1, 21, .inl bu)), (mg, .inl (G.2.1, 21, .inl hg)), (mq, .inl (G.2.1, 21, .inl pq)), (ml, .inl (G.2.1, 21, .inl ld)), (mf, .inl (G.2.1, 20, .inl fo))])) 0 0 := by
  refine k_entry (cc := cX6_bestStep) (maxL := 2) (ret := (some .int)) (by decide) rfl (Nat.le_of_ble_eq_true rfl) ?_
  intro p e s m args below meth c A ls H locs Q hQ hx hb hml hr hts hown hlocks hin hA hP hK hD hS hl
  have hown : s.vm.findClass RX6 = some m.cls := hown
  have hl : lv_has ls 2 [(0, .ref m0), (1, .int k)] := hl
  obtain ⟨hs0, hn1, hn, hv⟩ := id hok
  refine lv_aload_n hx hb dX6_bestStep_0 rfl (lv_at hl 0 rfl) ?_
  refine lv_aload_n hx hb dX6_bestStep_1 rfl (lv_at hl 0 rfl) ?_
  refine lv_iload_n hx hb dX6_bestStep_2 rfl (lv_at hl 1 rfl) ?_
  refine k_ci (wr := []) [] rfl (by decide) [0, 1, 2, 3, 4, 5, 6, 7, 8, 9] rfl (by decide) hP hD hS hA (k_V (n := 1) (ci := 6) (As := [.int k]) (rest := [.ref m0]) (wc := [(m0, .inr (6, [.int (nI (th)), .ref ms, .ref mv, .int (nI (sm)), .ref mt, .int (nI (ln)), .ref mh, .ref mb, .ref mg, .ref mq, .ref ml, .ref mf, .int nw, .int fw, .int (nI (tp)), .int (bI (wr)), .long dg])), (ms, .inl (G.2.1, 88, .inl s0)), (mv, .inl (G.2.1, 528, .inl sv)), (mt, .inl (G.2.1, 60, .inl tx)), (mh, .inl (G.2.1, 21, .inl ht)), (mb, .inl (G.2.1, 21, .inl bu)), (mg, .inl (G.2.1, 21, .inl hg)), (mq, .inl (G.2.1, 21, .inl pq)), (ml, .inl (G.2.1, 21, .inl ld)), (mf, .inl (G.2.1, 20, .inl fo))]) hx hb hml hown hts hK hP hD hl (c_X6_isLink l G m0 ms mv mt mh mb mg mq ml mf th s0 sv sm tx ln ht bu hg pq ld fo nw fw tp wr dg k n H.size (by first | assumption | omega)) [0, 1, 2, 3, 4, 5, 6, 7, 8, 9] rfl (by decide) gX6_bestStep_X6_isLink rfl rfl rfl (by decide +kernel) rfl ⟨Nat.le_of_ble_eq_true rfl, Nat.le_of_ble_eq_true rfl⟩ rfl rfl rfl (Nat.le_of_ble_eq_true rfl) dX6_bestStep_3 ⟨Nat.le_of_ble_eq_true rfl, Nat.le_of_ble_eq_true rfl⟩) (fun r_3 u H locs hw hP hD hS => ?_)
  have hw_3 : r_3 = bI (isN k n) := hw
  have hP : va_P G.1 vwCl [(m0, .inr (6, [.int (nI (th)), .ref ms, .ref mv, .int (nI (sm)), .ref mt, .int (nI (ln)), .ref mh, .ref mb, .ref mg, .ref mq, .ref ml, .ref mf, .int nw, .int fw, .int (nI (tp)), .int (bI (wr)), .long dg])), (ms, .inl (G.2.1, 88, .inl s0)), (mv, .inl (G.2.1, 528, .inl sv)), (mt, .inl (G.2.1, 60, .inl tx)), (mh, .inl (G.2.1, 21, .inl ht)), (mb, .inl (G.2.1, 21, .inl bu)), (mg, .inl (G.2.1, 21, .inl hg)), (mq, .inl (G.2.1, 21, .inl pq)), (ml, .inl (G.2.1, 21, .inl ld)), (mf, .inl (G.2.1, 20, .inl fo))] H := hP
  have hD : va_D A [(m0, .inr (6, [.int (nI (th)), .ref ms, .ref mv, .int (nI (sm)), .ref mt, .int (nI (ln)), .ref mh, .ref mb, .ref mg, .ref mq, .ref ml, .ref mf, .int nw, .int fw, .int (nI (tp)), .int (bI (wr)), .long dg])), (ms, .inl (G.2.1, 88, .inl s0)), (mv, .inl (G.2.1, 528, .inl sv)), (mt, .inl (G.2.1, 60, .inl tx)), (mh, .inl (G.2.1, 21, .inl ht)), (mb, .inl (G.2.1, 21, .inl bu)), (mg, .inl (G.2.1, 21, .inl hg)), (mq, .inl (G.2.1, 21, .inl pq)), (ml, .inl (G.2.1, 21, .inl ld)), (mf, .inl (G.2.1, 20, .inl fo))] := hD
  subst hw_3
  refine g_ti (y := nI 0) (by rw [h1]; rfl) ?_
  refine g_if_eq (a := 0) (tgt := 13) hx hb (by omega) dX6_bestStep_6 (by decide) (fun c_6 => ?_) (fun c_6 => ?_)
  · skip
    refine lv_iconst (v := 1) hx hb dX6_bestStep_13 (by decide) ?_
    refine k_ci (wr := []) [] rfl (by decide) [0, 1, 2, 3, 4, 5, 6, 7, 8, 9] rfl (by decide) hP hD hS hA (k_V (n := 1) (ci := 6) (As := [.int 1]) (rest := []) (wc := [(m0, .inr (6, [.int (nI (th)), .ref ms, .ref mv, .int (nI (sm)), .ref mt, .int (nI (ln)), .ref mh, .ref mb, .ref mg, .ref mq, .ref ml, .ref mf, .int nw, .int fw, .int (nI (tp)), .int (bI (wr)), .long dg])), (ms, .inl (G.2.1, 88, .inl s0)), (mv, .inl (G.2.1, 528, .inl sv)), (mt, .inl (G.2.1, 60, .inl tx)), (mh, .inl (G.2.1, 21, .inl ht)), (mb, .inl (G.2.1, 21, .inl bu)), (mg, .inl (G.2.1, 21, .inl hg)), (mq, .inl (G.2.1, 21, .inl pq)), (ml, .inl (G.2.1, 21, .inl ld)), (mf, .inl (G.2.1, 20, .inl fo))]) hx hb hml hown hts hK hP hD hl (c_X6_holds l G m0 ms mv mt mh mb mg mq ml mf th s0 sv sm tx ln ht bu hg pq ld fo nw fw tp wr dg 1 H.size (by first | assumption | omega)) [0, 1, 2, 3, 4, 5, 6, 7, 8, 9] rfl (by decide) gX6_bestStep_X6_holds rfl rfl rfl (by decide +kernel) rfl ⟨Nat.le_of_ble_eq_true rfl, Nat.le_of_ble_eq_true rfl⟩ rfl rfl rfl (Nat.le_of_ble_eq_true rfl) dX6_bestStep_14 ⟨Nat.le_of_ble_eq_true rfl, Nat.le_of_ble_eq_true rfl⟩) (fun r_14 u H locs hw hP hD hS => ?_)
    have hw_14 : r_14 = bI (decide (1 = 0)) := hw
    have hP : va_P G.1 vwCl [(m0, .inr (6, [.int (nI (1)), .ref ms, .ref mv, .int (nI (sm)), .ref mt, .int (nI (ln)), .ref mh, .ref mb, .ref mg, .ref mq, .ref ml, .ref mf, .int nw, .int fw, .int (nI (tp)), .int (bI (wr)), .long dg])), (ms, .inl (G.2.1, 88, .inl s0)), (mv, .inl (G.2.1, 528, .inl sv)), (mt, .inl (G.2.1, 60, .inl tx)), (mh, .inl (G.2.1, 21, .inl ht)), (mb, .inl (G.2.1, 21, .inl bu)), (mg, .inl (G.2.1, 21, .inl hg)), (mq, .inl (G.2.1, 21, .inl pq)), (ml, .inl (G.2.1, 21, .inl ld)), (mf, .inl (G.2.1, 20, .inl fo))] H := hP
    have hD : va_D A [(m0, .inr (6, [.int (nI (1)), .ref ms, .ref mv, .int (nI (sm)), .ref mt, .int (nI (ln)), .ref mh, .ref mb, .ref mg, .ref mq, .ref ml, .ref mf, .int nw, .int fw, .int (nI (tp)), .int (bI (wr)), .long dg])), (ms, .inl (G.2.1, 88, .inl s0)), (mv, .inl (G.2.1, 528, .inl sv)), (mt, .inl (G.2.1, 60, .inl tx)), (mh, .inl (G.2.1, 21, .inl ht)), (mb, .inl (G.2.1, 21, .inl bu)), (mg, .inl (G.2.1, 21, .inl hg)), (mq, .inl (G.2.1, 21, .inl pq)), (ml, .inl (G.2.1, 21, .inl ld)), (mf, .inl (G.2.1, 20, .inl fo))] := hD
    subst hw_14
    refine g_ti (y := nI 0) (by rw [decide_eq_false (by decide)]; rfl) ?_
    refine g_if_eq (a := 0) (tgt := 28) hx hb (by omega) dX6_bestStep_17 (by decide) (fun c_17 => ?_) (fun c_17 => ?_)
    · skip
      refine lv_iconst (v := 0) hx hb dX6_bestStep_28 (by decide) ?_
      rw [hQ]
      exact k_iret (v := 0) () [0, 1, 2, 3, 4, 5, 6, 7, 8, 9] hx hb hr hlocks (rfl) hK hP hD hS rfl (by decide) dX6_bestStep_29
    · exact absurd c_17 (by decide)
  · exact absurd c_6 (by decide)
set_option maxHeartbeats 4000000 in
set_option maxRecDepth 100000 in
theorem c_X6_bestStep_0 (l : Launch) (G : kG) (m0 : Nat) (ms : Nat) (mv : Nat) (mt : Nat) (mh : Nat) (mb : Nat) (mg : Nat) (mq : Nat) (ml : Nat) (mf : Nat) (th : Nat) (s0 : Fn) (sv : Fn) (sm : Nat) (tx : Fn) (ln : Nat) (ht : Fn) (bu : Fn) (hg : Fn) (pq : Fn) (ld : Fn) (fo : Fn) (nw : Int32) (fw : Int32) (tp : Nat) (wr : Bool) (dg : Int64) (j : Nat) (n : Nat) (sz : Nat) (hok : mOK s0 n) (hj : j < n) : kMet l yX6_bestStep wsX6_bestStep ({ frames := 5, cells := 0, slots := 0, locals := 118 } : Room) G [.ref m0, .int (nI (j))] [(m0, .inr (6, [.int (nI (th)), .ref ms, .ref mv, .int (nI (sm)), .ref mt, .int (nI (ln)), .ref mh, .ref mb, .ref mg, .ref mq, .ref ml, .ref mf, .int nw, .int fw, .int (nI (tp)), .int (bI (wr)), .long dg])), (ms, .inl (G.2.1, 88, .inl s0)), (mv, .inl (G.2.1, 528, .inl sv)), (mt, .inl (G.2.1, 60, .inl tx)), (mh, .inl (G.2.1, 21, .inl ht)), (mb, .inl (G.2.1, 21, .inl bu)), (mg, .inl (G.2.1, 21, .inl hg)), (mq, .inl (G.2.1, 21, .inl pq)), (ml, .inl (G.2.1, 21, .inl ld)), (mf, .inl (G.2.1, 20, .inl fo))] sz (kQi G (fun (r : Int32) (u : Fn × Fn × Fn × Fn × Fn × Fn × Int32 × Int32) => r = (bsp (gSp n (mST s0) (mWE s0) (mHA s0) (mPR s0) (mSE s0) j) 5).1 + 2) (fun (u : Fn × Fn × Fn × Fn × Fn × Fn × Int32 × Int32) => [(m0, .inr (6, [.int (nI 0), .ref ms, .ref mv, .int (nI (sm)), .ref mt, .int (nI (ln)), .ref mh, .ref mb, .ref mg, .ref mq, .ref ml, .ref mf, .int u.2.2.2.2.2.2.1, .int u.2.2.2.2.2.2.2, .int (nI (tp)), .int (bI (wr)), .long dg])), (ms, .inl (G.2.1, 88, .inl s0)), (mv, .inl (G.2.1, 528, .inl sv)), (mt, .inl (G.2.1, 60, .inl tx)), (mh, .inl (G.2.1, 21, .inl u.1)), (mb, .inl (G.2.1, 21, .inl u.2.1)), (mg, .inl (G.2.1, 21, .inl u.2.2.1)), (mq, .inl (G.2.1, 21, .inl u.2.2.2.1)), (ml, .inl (G.2.1, 21, .inl u.2.2.2.2.1)), (mf, .inl (G.2.1, 20, .inl u.2.2.2.2.2.1))])) 0 0 := by
  refine k_entry (cc := cX6_bestStep) (maxL := 2) (ret := (some .int)) (by decide) rfl (Nat.le_of_ble_eq_true rfl) ?_
  intro p e s m args below meth c A ls H locs Q hQ hx hb hml hr hts hown hlocks hin hA hP hK hD hS hl
  have hown : s.vm.findClass RX6 = some m.cls := hown
  have hl : lv_has ls 2 [(0, .ref m0), (1, .int (nI (j)))] := hl
  obtain ⟨hs0, hn1, hn, hv⟩ := id hok
  refine lv_aload_n hx hb dX6_bestStep_0 rfl (lv_at hl 0 rfl) ?_
  refine lv_aload_n hx hb dX6_bestStep_1 rfl (lv_at hl 0 rfl) ?_
  refine lv_iload_n hx hb dX6_bestStep_2 rfl (lv_at hl 1 rfl) ?_
  refine k_ci (wr := []) [] rfl (by decide) [0, 1, 2, 3, 4, 5, 6, 7, 8, 9] rfl (by decide) hP hD hS hA (k_V (n := 1) (ci := 6) (As := [.int (nI (j))]) (rest := [.ref m0]) (wc := [(m0, .inr (6, [.int (nI (th)), .ref ms, .ref mv, .int (nI (sm)), .ref mt, .int (nI (ln)), .ref mh, .ref mb, .ref mg, .ref mq, .ref ml, .ref mf, .int nw, .int fw, .int (nI (tp)), .int (bI (wr)), .long dg])), (ms, .inl (G.2.1, 88, .inl s0)), (mv, .inl (G.2.1, 528, .inl sv)), (mt, .inl (G.2.1, 60, .inl tx)), (mh, .inl (G.2.1, 21, .inl ht)), (mb, .inl (G.2.1, 21, .inl bu)), (mg, .inl (G.2.1, 21, .inl hg)), (mq, .inl (G.2.1, 21, .inl pq)), (ml, .inl (G.2.1, 21, .inl ld)), (mf, .inl (G.2.1, 20, .inl fo))]) hx hb hml hown hts hK hP hD hl (c_X6_isLink l G m0 ms mv mt mh mb mg mq ml mf th s0 sv sm tx ln ht bu hg pq ld fo nw fw tp wr dg (nI (j)) n H.size (by first | assumption | omega)) [0, 1, 2, 3, 4, 5, 6, 7, 8, 9] rfl (by decide) gX6_bestStep_X6_isLink rfl rfl rfl (by decide +kernel) rfl ⟨Nat.le_of_ble_eq_true rfl, Nat.le_of_ble_eq_true rfl⟩ rfl rfl rfl (Nat.le_of_ble_eq_true rfl) dX6_bestStep_3 ⟨Nat.le_of_ble_eq_true rfl, Nat.le_of_ble_eq_true rfl⟩) (fun r_3 u H locs hw hP hD hS => ?_)
  have hw_3 : r_3 = bI (isN (nI (j)) n) := hw
  have hP : va_P G.1 vwCl [(m0, .inr (6, [.int (nI (th)), .ref ms, .ref mv, .int (nI (sm)), .ref mt, .int (nI (ln)), .ref mh, .ref mb, .ref mg, .ref mq, .ref ml, .ref mf, .int nw, .int fw, .int (nI (tp)), .int (bI (wr)), .long dg])), (ms, .inl (G.2.1, 88, .inl s0)), (mv, .inl (G.2.1, 528, .inl sv)), (mt, .inl (G.2.1, 60, .inl tx)), (mh, .inl (G.2.1, 21, .inl ht)), (mb, .inl (G.2.1, 21, .inl bu)), (mg, .inl (G.2.1, 21, .inl hg)), (mq, .inl (G.2.1, 21, .inl pq)), (ml, .inl (G.2.1, 21, .inl ld)), (mf, .inl (G.2.1, 20, .inl fo))] H := hP
  have hD : va_D A [(m0, .inr (6, [.int (nI (th)), .ref ms, .ref mv, .int (nI (sm)), .ref mt, .int (nI (ln)), .ref mh, .ref mb, .ref mg, .ref mq, .ref ml, .ref mf, .int nw, .int fw, .int (nI (tp)), .int (bI (wr)), .long dg])), (ms, .inl (G.2.1, 88, .inl s0)), (mv, .inl (G.2.1, 528, .inl sv)), (mt, .inl (G.2.1, 60, .inl tx)), (mh, .inl (G.2.1, 21, .inl ht)), (mb, .inl (G.2.1, 21, .inl bu)), (mg, .inl (G.2.1, 21, .inl hg)), (mq, .inl (G.2.1, 21, .inl pq)), (ml, .inl (G.2.1, 21, .inl ld)), (mf, .inl (G.2.1, 20, .inl fo))] := hD
  subst hw_3
  refine g_ti (y := nI 1) (by rw [isN_nI (by omega), decide_eq_true (by omega)]; rfl) ?_
  refine g_if_eq (a := 1) (tgt := 13) hx hb (by omega) dX6_bestStep_6 (by decide) (fun c_6 => ?_) (fun c_6 => ?_)
  · exact absurd c_6 (by decide)
  · skip
    refine lv_iconst (v := 0) hx hb dX6_bestStep_9 (by decide) ?_
    refine lv_goto (tgt := 14) hx hb dX6_bestStep_10 (by decide) ?_
    refine k_ci (wr := []) [] rfl (by decide) [0, 1, 2, 3, 4, 5, 6, 7, 8, 9] rfl (by decide) hP hD hS hA (k_V (n := 1) (ci := 6) (As := [.int 0]) (rest := []) (wc := [(m0, .inr (6, [.int (nI (th)), .ref ms, .ref mv, .int (nI (sm)), .ref mt, .int (nI (ln)), .ref mh, .ref mb, .ref mg, .ref mq, .ref ml, .ref mf, .int nw, .int fw, .int (nI (tp)), .int (bI (wr)), .long dg])), (ms, .inl (G.2.1, 88, .inl s0)), (mv, .inl (G.2.1, 528, .inl sv)), (mt, .inl (G.2.1, 60, .inl tx)), (mh, .inl (G.2.1, 21, .inl ht)), (mb, .inl (G.2.1, 21, .inl bu)), (mg, .inl (G.2.1, 21, .inl hg)), (mq, .inl (G.2.1, 21, .inl pq)), (ml, .inl (G.2.1, 21, .inl ld)), (mf, .inl (G.2.1, 20, .inl fo))]) hx hb hml hown hts hK hP hD hl (c_X6_holds l G m0 ms mv mt mh mb mg mq ml mf th s0 sv sm tx ln ht bu hg pq ld fo nw fw tp wr dg 0 H.size (by first | assumption | omega)) [0, 1, 2, 3, 4, 5, 6, 7, 8, 9] rfl (by decide) gX6_bestStep_X6_holds rfl rfl rfl (by decide +kernel) rfl ⟨Nat.le_of_ble_eq_true rfl, Nat.le_of_ble_eq_true rfl⟩ rfl rfl rfl (Nat.le_of_ble_eq_true rfl) dX6_bestStep_14 ⟨Nat.le_of_ble_eq_true rfl, Nat.le_of_ble_eq_true rfl⟩) (fun r_14 u H locs hw hP hD hS => ?_)
    have hw_14 : r_14 = bI (decide (0 = 0)) := hw
    have hP : va_P G.1 vwCl [(m0, .inr (6, [.int (nI (0)), .ref ms, .ref mv, .int (nI (sm)), .ref mt, .int (nI (ln)), .ref mh, .ref mb, .ref mg, .ref mq, .ref ml, .ref mf, .int nw, .int fw, .int (nI (tp)), .int (bI (wr)), .long dg])), (ms, .inl (G.2.1, 88, .inl s0)), (mv, .inl (G.2.1, 528, .inl sv)), (mt, .inl (G.2.1, 60, .inl tx)), (mh, .inl (G.2.1, 21, .inl ht)), (mb, .inl (G.2.1, 21, .inl bu)), (mg, .inl (G.2.1, 21, .inl hg)), (mq, .inl (G.2.1, 21, .inl pq)), (ml, .inl (G.2.1, 21, .inl ld)), (mf, .inl (G.2.1, 20, .inl fo))] H := hP
    have hD : va_D A [(m0, .inr (6, [.int (nI (0)), .ref ms, .ref mv, .int (nI (sm)), .ref mt, .int (nI (ln)), .ref mh, .ref mb, .ref mg, .ref mq, .ref ml, .ref mf, .int nw, .int fw, .int (nI (tp)), .int (bI (wr)), .long dg])), (ms, .inl (G.2.1, 88, .inl s0)), (mv, .inl (G.2.1, 528, .inl sv)), (mt, .inl (G.2.1, 60, .inl tx)), (mh, .inl (G.2.1, 21, .inl ht)), (mb, .inl (G.2.1, 21, .inl bu)), (mg, .inl (G.2.1, 21, .inl hg)), (mq, .inl (G.2.1, 21, .inl pq)), (ml, .inl (G.2.1, 21, .inl ld)), (mf, .inl (G.2.1, 20, .inl fo))] := hD
    subst hw_14
    refine g_ti (y := nI 1) (by rw [decide_eq_true (show (0 : Nat) = 0 from rfl)]; rfl) ?_
    refine g_if_eq (a := 1) (tgt := 28) hx hb (by omega) dX6_bestStep_17 (by decide) (fun c_17 => ?_) (fun c_17 => ?_)
    · exact absurd c_17 (by decide)
    · skip
      refine lv_aload_n hx hb dX6_bestStep_20 rfl (lv_at hl 0 rfl) ?_
      refine lv_iload_n hx hb dX6_bestStep_21 rfl (lv_at hl 1 rfl) ?_
      refine k_ci (wr := []) [] rfl (by decide) [0, 1, 2, 3, 4, 5, 6, 7, 8, 9] rfl (by decide) hP hD hS hA (k_V (n := 1) (ci := 6) (As := [.int (nI (j))]) (rest := []) (wc := [(m0, .inr (6, [.int (nI (0)), .ref ms, .ref mv, .int (nI (sm)), .ref mt, .int (nI (ln)), .ref mh, .ref mb, .ref mg, .ref mq, .ref ml, .ref mf, .int nw, .int fw, .int (nI (tp)), .int (bI (wr)), .long dg])), (ms, .inl (G.2.1, 88, .inl s0)), (mv, .inl (G.2.1, 528, .inl sv)), (mt, .inl (G.2.1, 60, .inl tx)), (mh, .inl (G.2.1, 21, .inl ht)), (mb, .inl (G.2.1, 21, .inl bu)), (mg, .inl (G.2.1, 21, .inl hg)), (mq, .inl (G.2.1, 21, .inl pq)), (ml, .inl (G.2.1, 21, .inl ld)), (mf, .inl (G.2.1, 20, .inl fo))]) hx hb hml hown hts hK hP hD hl (c_X6_calmest l G m0 ms mv mt mh mb mg mq ml mf 0 s0 sv sm tx ln ht bu hg pq ld fo nw fw tp wr dg j n H.size (by first | assumption | omega) (by first | assumption | omega)) [0, 1, 2, 3, 4, 5, 6, 7, 8, 9] rfl (by decide) gX6_bestStep_X6_calmest rfl rfl rfl (by decide +kernel) rfl ⟨Nat.le_of_ble_eq_true rfl, Nat.le_of_ble_eq_true rfl⟩ rfl rfl rfl (Nat.le_of_ble_eq_true rfl) dX6_bestStep_22 ⟨Nat.le_of_ble_eq_true rfl, Nat.le_of_ble_eq_true rfl⟩) (fun r_22 u H locs hw hP hD hS => ?_)
      obtain ⟨ht2_22, bu2_22, hg2_22, pq2_22, ld2_22, fo2_22, nw2_22, fw2_22⟩ := u
      have hw_22 : r_22 = (bsp (gSp n (mST s0) (mWE s0) (mHA s0) (mPR s0) (mSE s0) j) 5).1 + 2 := hw
      have hP : va_P G.1 vwCl [(m0, .inr (6, [.int (nI (0)), .ref ms, .ref mv, .int (nI (sm)), .ref mt, .int (nI (ln)), .ref mh, .ref mb, .ref mg, .ref mq, .ref ml, .ref mf, .int nw2_22, .int fw2_22, .int (nI (tp)), .int (bI (wr)), .long dg])), (ms, .inl (G.2.1, 88, .inl s0)), (mv, .inl (G.2.1, 528, .inl sv)), (mt, .inl (G.2.1, 60, .inl tx)), (mh, .inl (G.2.1, 21, .inl ht2_22)), (mb, .inl (G.2.1, 21, .inl bu2_22)), (mg, .inl (G.2.1, 21, .inl hg2_22)), (mq, .inl (G.2.1, 21, .inl pq2_22)), (ml, .inl (G.2.1, 21, .inl ld2_22)), (mf, .inl (G.2.1, 20, .inl fo2_22))] H := hP
      have hD : va_D A [(m0, .inr (6, [.int (nI (0)), .ref ms, .ref mv, .int (nI (sm)), .ref mt, .int (nI (ln)), .ref mh, .ref mb, .ref mg, .ref mq, .ref ml, .ref mf, .int nw2_22, .int fw2_22, .int (nI (tp)), .int (bI (wr)), .long dg])), (ms, .inl (G.2.1, 88, .inl s0)), (mv, .inl (G.2.1, 528, .inl sv)), (mt, .inl (G.2.1, 60, .inl tx)), (mh, .inl (G.2.1, 21, .inl ht2_22)), (mb, .inl (G.2.1, 21, .inl bu2_22)), (mg, .inl (G.2.1, 21, .inl hg2_22)), (mq, .inl (G.2.1, 21, .inl pq2_22)), (ml, .inl (G.2.1, 21, .inl ld2_22)), (mf, .inl (G.2.1, 20, .inl fo2_22))] := hD
      subst hw_22
      refine lv_goto (tgt := 29) hx hb dX6_bestStep_25 (by decide) ?_
      rw [hQ]
      exact k_iret (v := (bsp (gSp n (mST s0) (mWE s0) (mHA s0) (mPR s0) (mSE s0) j) 5).1 + 2) (ht2_22, bu2_22, hg2_22, pq2_22, ld2_22, fo2_22, nw2_22, fw2_22) [0, 1, 2, 3, 4, 5, 6, 7, 8, 9] hx hb hr hlocks (rfl) hK hP hD hS rfl (by decide) dX6_bestStep_29
