/-! # the reference's evenness, its bits and its digest, and the bits of a share on both sides -/
/-- doubled k times -/
def dx (v : UInt64) : Nat → UInt64
  | 0 => v
  | k + 1 => FP.dmul (dx v k) 4611686018427387904
/-- 1023 less k -/
def pw : Nat → Int64
  | 0 => 1023
  | k + 1 => pw k - 1
def dTop (v : UInt64) (k : Nat) : UInt64 := FP.dmul (FP.dsub (dx v k) FP.dconst1) 4841369599423283200
/-- what a share is: none, or one that is 1 or more when doubled k times, and not before -/
def dKind (v : UInt64) (k : Nat) : Prop :=
  FP.dcmp v FP.dconst0 = some .eq ∨
  (FP.dcmp v FP.dconst0 = some .gt ∧ k ≤ 1000 ∧ (∀ i, i < k → FP.dcmp (dx v i) FP.dconst1 = some .lt) ∧ (FP.dcmp (dx v k) FP.dconst1 = some .eq ∨ FP.dcmp (dx v k) FP.dconst1 = some .gt) ∧
    (∀ i, i < k → vf_n64 (dx v (i + 1))) ∧ vf_n64 (FP.dsub (dx v k) FP.dconst1) ∧ vf_n64 (dTop v k))
/-- the bits of a share -/
def dR (v : UInt64) (k : Nat) : Int64 := if FP.dcmp v FP.dconst0 = some .eq then 0 else pw k * 4503599627370496 + FP.d2l (dTop v k)
theorem dK_l {v : UInt64} {k : Nat} (h : dKind v k) (c : ¬ Op.cmpValue (FP.dcmp v FP.dconst0) .l = 0) : FP.dcmp v FP.dconst0 = some .gt ∧ k ≤ 1000 ∧ (∀ i, i < k → FP.dcmp (dx v i) FP.dconst1 = some .lt) ∧ (FP.dcmp (dx v k) FP.dconst1 = some .eq ∨ FP.dcmp (dx v k) FP.dconst1 = some .gt) ∧
    (∀ i, i < k → vf_n64 (dx v (i + 1))) ∧ vf_n64 (FP.dsub (dx v k) FP.dconst1) ∧ vf_n64 (dTop v k) := by
  rcases h with h | h
  · rw [h] at c
    exact absurd rfl c
  · exact h
theorem dR_l {v : UInt64} {k : Nat} (h : dKind v k) (c : Op.cmpValue (FP.dcmp v FP.dconst0) .l = 0) : (0 : Int64) = dR v k := by
  rcases h with h | h
  · unfold dR
    rw [if_pos h]
  · rw [h.1] at c
    exact absurd c (by decide)
theorem dK_g {v : UInt64} {k : Nat} (h : dKind v k) (c : 0 < Op.cmpValue (FP.dcmp v FP.dconst0) .g) : FP.dcmp v FP.dconst0 = some .gt ∧ k ≤ 1000 ∧ (∀ i, i < k → FP.dcmp (dx v i) FP.dconst1 = some .lt) ∧ (FP.dcmp (dx v k) FP.dconst1 = some .eq ∨ FP.dcmp (dx v k) FP.dconst1 = some .gt) ∧
    (∀ i, i < k → vf_n64 (dx v (i + 1))) ∧ vf_n64 (FP.dsub (dx v k) FP.dconst1) ∧ vf_n64 (dTop v k) := by
  rcases h with h | h
  · rw [h] at c
    exact absurd c (by decide)
  · exact h
theorem dR_g {v : UInt64} {k : Nat} (h : dKind v k) (c : ¬ 0 < Op.cmpValue (FP.dcmp v FP.dconst0) .g) : (0 : Int64) = dR v k := by
  rcases h with h | h
  · unfold dR
    rw [if_pos h]
  · rw [h.1] at c
    exact absurd (by decide) c
theorem dR_gt {v : UInt64} {k : Nat} (h : FP.dcmp v FP.dconst0 = some .gt) : pw k * 4503599627370496 + FP.d2l (dTop v k) = dR v k := by
  unfold dR
  rw [if_neg (by rw [h]; exact fun q => nomatch q)]
theorem dx_ge {v : UInt64} {k i : Nat} (h : ∀ i, i < k → FP.dcmp (dx v i) FP.dconst1 = some .lt) (hi : i ≤ k) (c : 0 ≤ Op.cmpValue (FP.dcmp (dx v i) FP.dconst1) .g) : i = k := by
  rcases Nat.lt_or_ge i k with q | q
  · rw [h i q] at c
    exact absurd c (by decide)
  · omega
theorem dx_lt {v : UInt64} {k i : Nat} (h : FP.dcmp (dx v k) FP.dconst1 = some .eq ∨ FP.dcmp (dx v k) FP.dconst1 = some .gt) (hi : i ≤ k) (c : ¬ 0 ≤ Op.cmpValue (FP.dcmp (dx v i) FP.dconst1) .g) : i < k := by
  rcases Nat.lt_or_ge i k with q | q
  · exact q
  · have e : i = k := by omega
    subst e
    rcases h with h | h <;> rw [h] at c <;> exact absurd (by decide) c
theorem pw_toInt (k : Nat) (h : k ≤ 1023) : (pw k).toInt = 1023 - (k : Int) := by
  induction k with
  | zero => rfl
  | succ k ih =>
    have e := ih (by omega)
    show (pw k - 1).toInt = _
    rw [Int64.toInt_sub, e, show (1 : Int64).toInt = 1 from rfl, Int.bmod_eq_of_le (by omega) (by omega)]
    omega
theorem pw_gt {k : Nat} (h : k ≤ 1000) (c : lg_cmp (pw k) 1 ≤ 0) : False := by
  have q := Int64.le_iff_toInt_le.mp ((lg_cmp_le _ _).mp c)
  rw [pw_toInt k (by omega)] at q
  have e : (1 : Int64).toInt = 1 := rfl
  omega
theorem pw_shl (x : Int64) : x <<< ((52 : Int32).toInt64 &&& 63) = x * 4503599627370496 := by
  have e : ((52 : Int32).toInt64 &&& 63 : Int64) = 52 := by decide
  rw [e]
  apply Int64.toBitVec_inj.mp
  have h1 : (x <<< (52 : Int64)).toBitVec = x.toBitVec <<< (52 : Nat) := by
    rw [Int64.toBitVec_shiftLeft]
    rfl
  have h2 : (4503599627370496 : Int64).toBitVec = BitVec.twoPow 64 52 := by decide
  rw [h1, Int64.toBitVec_mul, h2, BitVec.shiftLeft_eq_mul_twoPow]
/-- the sum that a digest is -/
def hmix (h v : Int64) : Int64 := 31 * h + v
def hT (f : Nat → Int32) : Nat → Int64 → Int64
  | 0, h => h
  | k + 1, h => hmix (hT f k h) (f k).toInt64
def evn (a b : Int32) : UInt64 := if mx a b = 0 then FP.dconst1 else FP.ddiv (FP.i2d (mn a b)) (FP.i2d (mx a b))
theorem evn_0 {a b : Int32} (h : mx a b = 0) : FP.dconst1 = evn a b := (if_pos h).symm
theorem evn_1 {a b : Int32} (h : ¬ mx a b = 0) : FP.ddiv (FP.i2d (mn a b)) (FP.i2d (mx a b)) = evn a b := (if_neg h).symm
theorem mn_ge {a b : Int32} (h : b ≤ a) : mn a b = b := mn_l h
theorem mn_lt {a b : Int32} (h : ¬ b ≤ a) : mn a b = a := mn_r h
variable (n : Nat) (st we ha pr se : Fn)
def hLk : Nat → Int64 → Int64
  | 0, h => h
  | k + 1, h => hmix (hT (tLk n st we ha pr se k) 3 (hLk k h)) ((bsp (gSp n st we ha pr se k) 5).1 + 2).toInt64
def hJt : Nat → Int64 → Int64
  | 0, h => h
  | k + 1, h => hmix (hmix (hmix (hT (tJt n st we ha pr se k) 8 (hJt k h)) (gWe n st we ha pr se k 20).toInt64) (hvI (pWe n st we ha pr se k) 100).toInt64) (bTo n st we ha pr se k).toInt64
def hS1 (sm : Nat) : Int64 := hT (fun k => se k + 100) 4 (hT (tCt n st we ha pr se sm) 11 3119)
def hS2 (sm : Nat) : Int64 := hJt n st we ha pr se (n + 1) (hLk n st we ha pr se n (hS1 n st we ha pr se sm))
def hS3 (sm : Nat) : Int64 := hmix (hS2 n st we ha pr se sm) (bsh (gHg n st we ha pr se 15) (n - 1)).1.toInt64
/-- what the digest is -/
def dgN (k : Nat) (sm ln : Nat) (tx : Fn) : Int64 := hT tx ln (hmix (hmix (hS3 n st we ha pr se sm) (dR (evn (cAH n st we ha pr se) (cBE n st we ha pr se)) k)) (nI ln).toInt64)
/-- the share of the walls, and that it can be worked out -/
def evOK (a b : Int32) (k : Nat) : Prop := (¬ mx a b = 0 → vf_n64 (FP.ddiv (FP.i2d (mn a b)) (FP.i2d (mx a b)))) ∧ dKind (evn a b) k
variable {n : Nat} {st we ha pr se : Fn}
/-- the chain that the reference begins with -/
def mS0 : Fn := upd (upd (upd (upd (upd (fun _ => 0) 0 1) 1 1) 2 (-2)) 3 1) 4 60
