/-! # pure facts: what the law asks of a chain's numbers (wip/p28/h47_facts.py) -/
/-! ## the walls bear nothing less than 0 -/
theorem mn_nat {a b : Nat} (ha : a < 2 ^ 31) (hb : b < 2 ^ 31) : ∃ m, m ≤ a ∧ mn (nI a) (nI b) = nI m := by
  unfold mn
  by_cases q : nI b < nI a
  · exact ⟨b, Nat.le_of_lt ((nI_ltI hb ha).mp q), if_pos q⟩
  · exact ⟨a, Nat.le_refl a, if_neg q⟩
section WAL
variable {n : Nat} {st we ha pr se ld : Fn}
theorem ld_nat (c : cV n st we ha pr se) {k : Nat} (hk : k ≤ n) : ∃ L, L ≤ 139 ∧ cLD n st we ha pr se k = nI L := by
  obtain ⟨c1, c2, c3, c4, -⟩ := c
  obtain ⟨w, hw, ew⟩ := i99 (c2 k hk).1
  obtain ⟨h, hh, eh⟩ := i99 (c2 k hk).2.1
  obtain ⟨p, hp, ep⟩ := i99 (c2 k hk).2.2
  obtain ⟨z, hz, ez⟩ : ∃ i : Nat, i ≤ 20 ∧ se 0 = nI i := nI_of2 (M := 20) rfl (Int32.not_lt.mpr c3) c4
  obtain ⟨b, hb, eb⟩ : ∃ b, b ≤ 139 ∧ sBU n we se k = nI b := by
    unfold sBU
    by_cases q : k = 0 ∨ k = n
    · exact ⟨0, by omega, if_pos q⟩
    · refine ⟨w + 2 * z, by omega, ?_⟩
      rw [if_neg q, ew, ez, show (2 : Int32) = nI 2 from rfl, pk_mul, nI_add]
  obtain ⟨g, hg, eg⟩ := mn_nat (a := b) (b := h) (by omega) (by omega)
  have e1 : sHG n we ha se k = nI g := by
    unfold sHG
    rw [eb, eh, eg]
  have e2 : sBU n we se k - sHG n we ha se k = nI (b - g) := by rw [eb, e1, pk_sub hg]
  obtain ⟨x, hx, ex⟩ : ∃ x, x ≤ b - g ∧ jPP n (sHT st) we ha pr se k = nI x := by
    unfold jPP
    by_cases q : sHT st k ≤ se 1
    · obtain ⟨x, hx, ex⟩ := mn_nat (a := b - g) (b := p) (by omega) (by omega)
      exact ⟨x, hx, by rw [if_pos q, e2, ep, ex]⟩
    · exact ⟨0, by omega, if_neg q⟩
  refine ⟨b - g - x, by omega, ?_⟩
  show sBU n we se k - sHG n we ha se k - jPP n (sHT st) we ha pr se k = _
  rw [e2, ex, pk_sub hx]
theorem part_nat {L k : Nat} (hL : L ≤ 139) (hk : k ≤ n) (hn1 : 1 ≤ n) (hn : n ≤ 20) : nI L * nI k / nI n = nI (L * k / n) ∧ L * k / n ≤ L := by
  have h1 : L * k ≤ 139 * 20 := Nat.mul_le_mul hL (by omega)
  refine ⟨by rw [pk_mul, pk_div (a := L * k) (d := n) (by omega) (by omega) (by omega)], ?_⟩
  have h2 : L * k ≤ L * n := Nat.mul_le_mul (Nat.le_refl L) hk
  exact Nat.le_trans (Nat.div_le_div_right h2) (by rw [Nat.mul_div_cancel _ (by omega)]; exact Nat.le_refl L)
theorem wB_nat (hn1 : 1 ≤ n) (hn : n ≤ 20) (hl : ∀ k, k ≤ n → ∃ L, L ≤ 139 ∧ ld k = nI L) : ∀ i, i ≤ n → ∃ B, B ≤ 139 * i ∧ wBE ld n i = nI B := by
  intro i
  induction i with
  | zero => exact fun _ => ⟨0, by omega, rfl⟩
  | succ i ih =>
    intro hi
    obtain ⟨B, hB, eB⟩ := ih (by omega)
    obtain ⟨L, hL, eL⟩ := hl (i + 1) hi
    obtain ⟨q1, q2⟩ := part_nat hL hi hn1 hn
    refine ⟨B + L * (i + 1) / n, by omega, ?_⟩
    show wBE ld n i + ld (i + 1) * nI (i + 1) / nI n = _
    rw [eB, eL, q1, nI_add]
theorem wA_nat (hn1 : 1 ≤ n) (hn : n ≤ 20) (hl : ∀ k, k ≤ n → ∃ L, L ≤ 139 ∧ ld k = nI L) : ∀ i, i ≤ n → ∃ B, B ≤ 139 * i ∧ wAH ld n i = nI B := by
  intro i
  induction i with
  | zero => exact fun _ => ⟨0, by omega, rfl⟩
  | succ i ih =>
    intro hi
    obtain ⟨B, hB, eB⟩ := ih (by omega)
    obtain ⟨L, hL, eL⟩ := hl (i + 1) hi
    obtain ⟨q1, q2⟩ := part_nat hL hi hn1 hn
    have q3 : L - L * (i + 1) / n ≤ 139 := Nat.le_trans (Nat.sub_le _ _) hL
    refine ⟨B + (L - L * (i + 1) / n), Nat.le_trans (Nat.add_le_add hB q3) (Nat.le_of_eq (Nat.mul_succ 139 i).symm), ?_⟩
    show wAH ld n i + (ld (i + 1) - ld (i + 1) * nI (i + 1) / nI n) = _
    rw [eB, eL, q1, pk_sub q2, nI_add]
theorem walls_ex (hn1 : 1 ≤ n) (hn : n ≤ 20) (c : cV n st we ha pr se) : ∃ k, evOK (cAH n st we ha pr se) (cBE n st we ha pr se) k := by
  obtain ⟨A, hA, eA⟩ := wA_nat hn1 hn (fun k hk => ld_nat c hk) (n - 1) (by omega)
  obtain ⟨B, hB, eB⟩ := wB_nat hn1 hn (fun k hk => ld_nat c hk) (n - 1) (by omega)
  refine ev_ex ?_ ?_
  · show 0 ≤ wAH (cLD n st we ha pr se) n (n - 1)
    rw [eA]
    exact nI_pos' (by omega)
  · show 0 ≤ wBE (cLD n st we ha pr se) n (n - 1)
    rw [eB]
    exact nI_pos' (by omega)
end WAL
section FLB
theorem f_divB {x y : UInt64} {c d : Nat} {q r : Int} (hx : fN x c q) (hy : fN y d r) (hc : fC c q) (hd : fC d r) (hle : q < r ∨ (q = r ∧ c ≤ d)) (hb : -100 ≤ q - r) : ∃ (c9 : Nat) (q9 : Int), fN (FP.ddiv x y) c9 q9 ∧ fC c9 q9 ∧ q9 ≤ -52 ∧ -200 ≤ q9 ∧ (q9 = -52 → c9 = 4503599627370496) := by
  obtain ⟨c1, c2, c3, c4⟩ := hc
  obtain ⟨d1, d2, d3, d4⟩ := hd
  have key : ∃ (c9 : Nat) (q9 : Int), FP.Core.roundRatio FP.Core.b64 false c d (q - r) = .fin false c9 q9 ∧ fC c9 q9 ∧ q9 ≤ -52 ∧ -200 ≤ q9 ∧ (q9 = -52 → c9 = 4503599627370496) := by
    unfold FP.Core.roundRatio
    rw [if_neg (by omega)]
    have hl := f_lead2 c1 c2 d1 d2
    by_cases h : d ≤ c
    · rw [if_pos h] at hl
      rw [f_quant hl (by omega)]
      unfold FP.Core.roundAt FP.Core.unitsNum FP.Core.unitsDen
      rw [show (q - r - (0 + (q - r) - 52)).toNat = 52 by omega, show (0 + (q - r) - 52 - (q - r)).toNat = 0 by omega, Nat.pow_zero, Nat.mul_one, show (2 : Nat) ^ 52 = 4503599627370496 by decide]
      have n1 : 4503599627370496 ≤ FP.Core.nearest (c * 4503599627370496) d := f_near_ge (by omega) (by omega)
      have n2 : FP.Core.nearest (c * 4503599627370496) d ≤ 9007199254740992 := f_near_le (by omega) (by omega)
      rcases Nat.lt_or_ge (FP.Core.nearest (c * 4503599627370496) d) 9007199254740992 with n3 | n3
      · rcases hle with g | ⟨g1, g2⟩
        · exact ⟨_, _, f_settle n3 (by omega), ⟨n1, n3, by omega, by omega⟩, by omega, by omega, fun h9 => by omega⟩
        · exact ⟨_, _, f_settle n3 (by omega), ⟨n1, n3, by omega, by omega⟩, by omega, by omega, fun _ => by obtain rfl : c = d := (by omega); rw [Nat.mul_comm]; exact f_near2 _ (by omega)⟩
      · rw [show FP.Core.nearest (c * 4503599627370496) d = 9007199254740992 by omega]
        rcases hle with g | ⟨g1, g2⟩
        · exact ⟨_, _, f_settle2 (by omega), ⟨by decide, by decide, by omega, by omega⟩, by omega, by omega, fun _ => rfl⟩
        · exfalso
          have e : c = d := by omega
          subst e
          rw [Nat.mul_comm, f_near2 _ (by omega)] at n3
          omega
    · rw [if_neg h] at hl
      rw [f_quant hl (by omega)]
      unfold FP.Core.roundAt FP.Core.unitsNum FP.Core.unitsDen
      rw [show (q - r - (-1 + (q - r) - 52)).toNat = 53 by omega, show (-1 + (q - r) - 52 - (q - r)).toNat = 0 by omega, Nat.pow_zero, Nat.mul_one, show (2 : Nat) ^ 53 = 9007199254740992 by decide]
      have n1 : 4503599627370496 ≤ FP.Core.nearest (c * 9007199254740992) d := f_near_ge (by omega) (by omega)
      have n2 : FP.Core.nearest (c * 9007199254740992) d ≤ 9007199254740992 := f_near_le (by omega) (by omega)
      rcases Nat.lt_or_ge (FP.Core.nearest (c * 9007199254740992) d) 9007199254740992 with n3 | n3
      · rcases hle with g | ⟨g1, g2⟩
        · exact ⟨_, _, f_settle n3 (by omega), ⟨n1, n3, by omega, by omega⟩, by omega, by omega, fun h9 => by omega⟩
        · exact ⟨_, _, f_settle n3 (by omega), ⟨n1, n3, by omega, by omega⟩, by omega, by omega, fun h9 => by omega⟩
      · rw [show FP.Core.nearest (c * 9007199254740992) d = 9007199254740992 by omega]
        rcases hle with g | ⟨g1, g2⟩
        · exact ⟨_, _, f_settle2 (by omega), ⟨by decide, by decide, by omega, by omega⟩, by omega, by omega, fun _ => rfl⟩
        · exact ⟨_, _, f_settle2 (by omega), ⟨by decide, by decide, by omega, by omega⟩, by omega, by omega, fun _ => rfl⟩
  obtain ⟨c9, q9, e, h1, h2, h3⟩ := key
  refine ⟨c9, q9, ?_, h1, h2, h3⟩
  show fN (UInt64.ofNat (FP.Core.encode FP.Core.b64 (FP.Core.quotient FP.Core.b64 (FP.Core.decode FP.Core.b64 x.toNat) (FP.Core.decode FP.Core.b64 y.toNat)))) _ _
  have e2 : FP.Core.quotient FP.Core.b64 (.fin false c q) (.fin false d r) = .fin false c9 q9 := by
    show (if d = 0 then _ else FP.Core.roundRatio FP.Core.b64 false c d (q - r)) = _
    rw [if_neg (by omega)]
    exact e
  rw [hx.1, hy.1, e2]
  exact f_of h1
end FLB
/-! ## numbers -/
theorem fx_bm {n : Int} (h1 : -2147483648 ≤ n) (h2 : n < 2147483648) : n.bmod (2 ^ 32) = n := by
  rw [Int.bmod_def]
  omega
theorem fx_add {a b : Int32} (h1 : -2147483648 ≤ a.toInt + b.toInt) (h2 : a.toInt + b.toInt < 2147483648) : (a + b).toInt = a.toInt + b.toInt := by rw [Int32.toInt_add, fx_bm h1 h2]
theorem fx_le {a b : Int32} : a ≤ b ↔ a.toInt ≤ b.toInt := Int32.le_iff_toInt_le
theorem fx_lt {a b : Int32} : a < b ↔ a.toInt < b.toInt := Int32.lt_iff_toInt_lt
theorem fx_100 : (100 : Int32).toInt = 100 := rfl
theorem fx_2 : (2 : Int32).toInt = 2 := rfl
theorem fx_m2 : (-2 : Int32).toInt = -2 := rfl
theorem fx_0 : (0 : Int32).toInt = 0 := rfl
theorem i32_as (a b : Int32) : a + b - b = a := Int32.add_sub_cancel a b
theorem mn_min {a b : Nat} (ha : a < 2 ^ 31) (hb : b < 2 ^ 31) : mn (nI a) (nI b) = nI (min a b) := by
  unfold mn
  by_cases q : nI b < nI a
  · have h := (nI_ltI hb ha).mp q
    rw [if_pos q, Nat.min_eq_right (Nat.le_of_lt h)]
  · have h : ¬ b < a := fun z => q ((nI_ltI hb ha).mpr z)
    rw [if_neg q, Nat.min_eq_left (by omega)]
/-! ## the words -/
def LD (c : CV) : Fn := cLD c.1 c.2.1 c.2.2.1 c.2.2.2.1 c.2.2.2.2.1 c.2.2.2.2.2
def FO (c : CV) : Fn := cFO c.1 c.2.1 c.2.2.1 c.2.2.2.1 c.2.2.2.2.1 c.2.2.2.2.2
def AHc (c : CV) : Int32 := cAH c.1 c.2.1 c.2.2.1 c.2.2.2.1 c.2.2.2.2.1 c.2.2.2.2.2
def BEc (c : CV) : Int32 := cBE c.1 c.2.1 c.2.2.1 c.2.2.2.1 c.2.2.2.2.1 c.2.2.2.2.2
def LF (c : CV) (k : Nat) : Int32 := sLF (AHc c) (LD c) k
def EV (c : CV) : UInt64 := evn (AHc c) (BEc c)
def faN (c : CV) (k : Nat) : Int32 := mBE (LD c) c.1 k
def lwN (c : CV) : Nat → Nat
  | 0 => 0
  | k + 1 => loN (sHT c.2.1) k
def isF (c : CV) (k : Nat) : Int32 := if 0 < k ∧ k < c.1 then 1 else 0
def MW (c : CV) (j : Nat) : Int32 := hvI (pWe c.1 c.2.1 c.2.2.1 c.2.2.2.1 c.2.2.2.2.1 c.2.2.2.2.2 j) 100
def BM (c : CV) (j : Nat) : Int32 := bTo c.1 c.2.1 c.2.2.1 c.2.2.2.1 c.2.2.2.2.1 c.2.2.2.2.2 j
def BSp (c : CV) (j : Nat) : Int32 := (bsp (gSp c.1 c.2.1 c.2.2.1 c.2.2.2.1 c.2.2.2.2.1 c.2.2.2.2.2 j) 5).1
def BH (c : CV) (v : Int32) : Int32 := (bsh (gHg c.1 c.2.1 c.2.2.1 c.2.2.2.1 c.2.2.2.2.1 c.2.2.2.2.2 v) (c.1 - 1)).1
def nM (c : CV) (j : Nat) : Int32 := if c.2.2.1 j = 0 then 1 else 0
def oN (c : CV) : Int32 := if c.1 = 1 then 1 else 0
/-! ## heights -/
section FHT
variable {c : CV} {k j : Nat}
theorem ht_b (hc : okC c) : ∀ k, k ≤ c.1 → -(2 * (k : Int)) ≤ (sHT c.2.1 k).toInt ∧ (sHT c.2.1 k).toInt ≤ 2 * (k : Int) := by
  obtain ⟨-, h2, ⟨c1, -⟩, -⟩ := hc
  intro k
  induction k with
  | zero => exact fun _ => ⟨show -(2 * ((0 : Nat) : Int)) ≤ (0 : Int32).toInt by decide, show (0 : Int32).toInt ≤ 2 * ((0 : Nat) : Int) by decide⟩
  | succ k ih =>
    intro hk
    obtain ⟨a1, a2⟩ := ih (by omega)
    obtain ⟨b1, b2⟩ := c1 k (by omega)
    have b1 := fx_le.mp b1
    have b2 := fx_le.mp b2
    rw [fx_m2] at b1
    rw [fx_2] at b2
    have e : (sHT c.2.1 (k + 1)).toInt = (sHT c.2.1 k).toInt + (c.2.1 k).toInt := fx_add (by omega) (by omega)
    rw [e]
    omega
theorem jt_0 (hc : okC c) (hk : k ≤ c.1) : (JT c k 0).toInt = (sHT c.2.1 k).toInt + 100 := by
  obtain ⟨a1, a2⟩ := ht_b hc k hk
  have h2 := hc.2.1
  exact fx_add (by rw [fx_100]; omega) (by rw [fx_100]; omega)
theorem jt_0le (hc : okC c) (hk : k ≤ c.1) (hj : j ≤ c.1) : JT c k 0 ≤ JT c j 0 ↔ sHT c.2.1 k ≤ sHT c.2.1 j := by
  rw [fx_le, fx_le, jt_0 hc hk, jt_0 hc hj]
  omega
theorem jt_0se (hc : okC c) (hk : k ≤ c.1) : JT c k 0 ≤ c.2.2.2.2.2 1 + 100 ↔ sHT c.2.1 k ≤ c.2.2.2.2.2 1 := by
  have hc0 := hc
  obtain ⟨-, -, -, s1, s2⟩ := hc
  have s1 := fx_le.mp s1
  have s2 := fx_le.mp s2
  rw [show (-40 : Int32).toInt = -40 from rfl] at s1
  rw [show (40 : Int32).toInt = 40 from rfl] at s2
  have e : (c.2.2.2.2.2 1 + 100).toInt = (c.2.2.2.2.2 1).toInt + 100 := fx_add (by rw [fx_100]; omega) (by rw [fx_100]; omega)
  rw [fx_le, fx_le, jt_0 hc0 hk, e]
  omega
theorem jt_00 : JT c 0 0 = 100 := by
  show (0 : Int32) + 100 = 100
  rfl
theorem jt_st : JT c (k + 1) 0 = JT c k 0 + LK c k 0 - 2 := by
  show sHT c.2.1 k + c.2.1 k + 100 = sHT c.2.1 k + 100 + (c.2.1 k + 2) - 2
  rw [← Int32.add_assoc, i32_as]
  ac_rfl
theorem lwN_le : ∀ k, k ≤ c.1 + 1 → lwN c k ≤ c.1 := by
  intro k hk
  cases k with
  | zero => exact Nat.zero_le _
  | succ k => exact Nat.le_trans (loN_le _ k) (by omega)
theorem lwN_f (hc : okC c) (hk : k ≤ c.1) (h : JT c (lwN c k) 0 ≤ JT c k 0) : nI (lwN c k) = nI (lwN c (k + 1)) := by
  cases k with
  | zero => rfl
  | succ k =>
    have h1 := (jt_0le hc (lwN_le _ (by omega)) hk).mp h
    exact congrArg nI (loN_f h1)
theorem lwN_t (hc : okC c) (hk : k ≤ c.1) (h : ¬ JT c (lwN c k) 0 ≤ JT c k 0) : nI k = nI (lwN c (k + 1)) := by
  cases k with
  | zero => rfl
  | succ k =>
    have h1 : ¬ sHT c.2.1 (loN (sHT c.2.1) k) ≤ sHT c.2.1 (k + 1) := fun q => h ((jt_0le hc (lwN_le _ (by omega)) hk).mpr q)
    exact congrArg nI (loN_t h1)
end FHT
/-! ## joints -/
section FJT
variable {c : CV} {k : Nat}
theorem isF_t (h1 : 0 < k) (h2 : k < c.1) : 1 = isF c k := (if_pos ⟨h1, h2⟩).symm
theorem isF_0 (h : k = 0) : 0 = isF c k := (if_neg (by omega)).symm
theorem isF_n (h : c.1 ≤ k) : 0 = isF c k := (if_neg (by omega)).symm
theorem bu_t (h : ¬ isF c k = 0) : JT c k 1 + 2 * (c.2.2.2.2.2 0 + 100 - 100) = JT c k 4 := by
  have q : 0 < k ∧ k < c.1 := by
    by_cases q : 0 < k ∧ k < c.1
    · exact q
    · exact absurd (if_neg q) h
  rw [i32_as]
  show c.2.2.1 k + 2 * c.2.2.2.2.2 0 = if k = 0 ∨ k = c.1 then 0 else c.2.2.1 k + 2 * c.2.2.2.2.2 0
  rw [if_neg (by omega)]
theorem bu_f (hk : k ≤ c.1) (h : isF c k = 0) : 0 = JT c k 4 := by
  have q : ¬ (0 < k ∧ k < c.1) := fun q => by
    have e : isF c k = 1 := if_pos q
    rw [e] at h
    exact absurd h (by decide)
  show 0 = if k = 0 ∨ k = c.1 then 0 else c.2.2.1 k + 2 * c.2.2.2.2.2 0
  rw [if_pos (by omega)]
theorem jt_n (hc : okC c) (hk : k ≤ c.1) : ∃ b h q : Nat, b ≤ 139 ∧ h ≤ 99 ∧ q ≤ 99 ∧ JT c k 4 = nI b ∧ JT c k 2 = nI h ∧ JT c k 3 = nI q ∧ JT c k 5 = nI (min b h) ∧ ((sHT c.2.1 k ≤ c.2.2.2.2.2 1 ∧ JT c k 6 = nI (min (b - min b h) q) ∧ JT c k 7 = nI (b - min b h - min (b - min b h) q)) ∨ (¬ sHT c.2.1 k ≤ c.2.2.2.2.2 1 ∧ JT c k 6 = nI 0 ∧ JT c k 7 = nI (b - min b h))) := by
  obtain ⟨h1, h2, ⟨c1, c2, c3, c4, -⟩, -⟩ := hc
  obtain ⟨w, hw, ew⟩ := i99 (c2 k hk).1
  obtain ⟨h, hh, eh⟩ := i99 (c2 k hk).2.1
  obtain ⟨q, hq, e9⟩ := i99 (c2 k hk).2.2
  obtain ⟨z, hz, ez⟩ : ∃ i : Nat, i ≤ 20 ∧ c.2.2.2.2.2 0 = nI i := nI_of2 (M := 20) rfl (Int32.not_lt.mpr c3) c4
  obtain ⟨b, hb, eb⟩ : ∃ b, b ≤ 139 ∧ sBU c.1 c.2.2.1 c.2.2.2.2.2 k = nI b := by
    unfold sBU
    by_cases q : k = 0 ∨ k = c.1
    · exact ⟨0, by omega, if_pos q⟩
    · refine ⟨w + 2 * z, by omega, ?_⟩
      rw [if_neg q, ew, ez, show (2 : Int32) = nI 2 from rfl, pk_mul, nI_add]
  have e1 : sHG c.1 c.2.2.1 c.2.2.2.1 c.2.2.2.2.2 k = nI (min b h) := by
    unfold sHG
    rw [eb, eh, mn_min (by omega) (by omega)]
  have e2 : sBU c.1 c.2.2.1 c.2.2.2.2.2 k - sHG c.1 c.2.2.1 c.2.2.2.1 c.2.2.2.2.2 k = nI (b - min b h) := by rw [eb, e1, pk_sub (Nat.min_le_left _ _)]
  refine ⟨b, h, q, hb, hh, hq, eb, eh, e9, e1, ?_⟩
  by_cases r : sHT c.2.1 k ≤ c.2.2.2.2.2 1
  · have e3 : jPP c.1 (sHT c.2.1) c.2.2.1 c.2.2.2.1 c.2.2.2.2.1 c.2.2.2.2.2 k = nI (min (b - min b h) q) := by
      unfold jPP
      rw [if_pos r, e2, e9, mn_min (by omega) (by omega)]
    refine Or.inl ⟨r, e3, ?_⟩
    show sBU c.1 c.2.2.1 c.2.2.2.2.2 k - sHG c.1 c.2.2.1 c.2.2.2.1 c.2.2.2.2.2 k - jPP c.1 (sHT c.2.1) c.2.2.1 c.2.2.2.1 c.2.2.2.2.1 c.2.2.2.2.2 k = _
    rw [e2, e3, pk_sub (Nat.min_le_left _ _)]
  · have e3 : jPP c.1 (sHT c.2.1) c.2.2.1 c.2.2.2.1 c.2.2.2.2.1 c.2.2.2.2.2 k = nI 0 := by
      unfold jPP
      rw [if_neg r]
      rfl
    refine Or.inr ⟨r, e3, ?_⟩
    show sBU c.1 c.2.2.1 c.2.2.2.2.2 k - sHG c.1 c.2.2.1 c.2.2.2.1 c.2.2.2.2.2 k - jPP c.1 (sHT c.2.1) c.2.2.1 c.2.2.2.1 c.2.2.2.2.1 c.2.2.2.2.2 k = _
    rw [e2, e3, pk_sub (Nat.zero_le _), Nat.sub_zero]
theorem jt_sum (hc : okC c) (hk : k ≤ c.1) : JT c k 4 = JT c k 5 + JT c k 6 + JT c k 7 := by
  obtain ⟨b, h, q, hb, hh, hq, e4, e2, e3, e5, ⟨r, e6, e7⟩ | ⟨r, e6, e7⟩⟩ := jt_n hc hk
  · rw [e4, e5, e6, e7, nI_add, nI_add]
    exact congrArg nI (by omega)
  · rw [e4, e5, e6, e7, nI_add, nI_add]
    exact congrArg nI (by omega)
theorem jt_52 (hc : okC c) (hk : k ≤ c.1) : JT c k 5 ≤ JT c k 2 := by
  obtain ⟨b, h, q, hb, hh, hq, e4, e2, e3, e5, -⟩ := jt_n hc hk
  rw [e5, e2]
  exact nI_le (Nat.min_le_right _ _) (by omega)
theorem jt_63 (hc : okC c) (hk : k ≤ c.1) : JT c k 6 ≤ JT c k 3 := by
  obtain ⟨b, h, q, hb, hh, hq, e4, e2, e3, e5, ⟨r, e6, e7⟩ | ⟨r, e6, e7⟩⟩ := jt_n hc hk
  · rw [e6, e3]
    exact nI_le (Nat.min_le_right _ _) (by omega)
  · rw [e6, e3]
    exact nI_le (Nat.zero_le _) (by omega)
theorem jt_6 (hc : okC c) (hk : k ≤ c.1) (g : ¬ JT c k 0 ≤ c.2.2.2.2.2 1 + 100) : JT c k 6 = 0 := by
  obtain ⟨b, h, q, hb, hh, hq, e4, e2, e3, e5, ⟨r, e6, e7⟩ | ⟨r, e6, e7⟩⟩ := jt_n hc hk
  · exact absurd ((jt_0se hc hk).mpr r) g
  · rw [e6]
    rfl
theorem jt_75 (hc : okC c) (hk : k ≤ c.1) (g : ¬ JT c k 7 = 0) : JT c k 5 = JT c k 2 := by
  obtain ⟨b, h, q, hb, hh, hq, e4, e2, e3, e5, e⟩ := jt_n hc hk
  rw [e5, e2]
  by_cases r : h ≤ b
  · rw [Nat.min_eq_right r]
  · exfalso
    apply g
    have e0 : min b h = b := Nat.min_eq_left (by omega)
    rw [e0] at e
    rcases e with ⟨-, -, e7⟩ | ⟨-, -, e7⟩
    · rw [e7, show b - b - min (b - b) q = 0 by omega]
      rfl
    · rw [e7, show b - b = 0 by omega]
      rfl
theorem jt_76 (hc : okC c) (hk : k ≤ c.1) (g : ¬ JT c k 7 = 0) (g2 : ¬ c.2.2.2.2.2 1 + 100 < JT c k 0) : JT c k 6 = JT c k 3 := by
  obtain ⟨b, h, q, hb, hh, hq, e4, e2, e3, e5, ⟨r, e6, e7⟩ | ⟨r, e6, e7⟩⟩ := jt_n hc hk
  · rw [e6, e3]
    by_cases z : q ≤ b - min b h
    · rw [Nat.min_eq_right z]
    · exfalso
      apply g
      rw [e7, Nat.min_eq_left (a := b - min b h) (b := q) (by omega), Nat.sub_self]
      rfl
  · exact absurd ((jt_0se hc hk).mp (Int32.not_lt.mp g2)) r
theorem ld_0 (hc : okC c) : LD c 0 = 0 := cLD_0 hc.2.2.1
theorem ld_n (hc : okC c) : LD c c.1 = 0 := cLD_n hc.2.2.1
theorem fa_be (hc : okC c) (kp : Nat) : faN c (c.1 + 1) = CT c kp 4 := by
  show mBE (LD c) c.1 (c.1 + 1) = wBE (LD c) c.1 (c.1 - 1)
  rw [mBE_w (ld_0 hc)]
  obtain ⟨i, hi⟩ : ∃ i, c.1 = i + 1 := ⟨c.1 - 1, by have := hc.1; omega⟩
  have e : wBE (LD c) c.1 (i + 1) = wBE (LD c) c.1 i := by
    show wBE (LD c) c.1 i + LD c (i + 1) * nI (i + 1) / nI c.1 = _
    have h0 := ld_n hc
    rw [hi] at h0
    rw [h0, Int32.zero_mul, i32_0div, Int32.add_zero]
  rw [show c.1 - 1 = i by omega, ← e]
  rw [← hi]
theorem sum_ld (hc : okC c) : sumN (LD c) (c.1 + 1) = AHc c + BEc c := (kCt2 hc.2.2.1 hc.1).symm
theorem fa_ah (hc : okC c) (kp : Nat) : sumN (LD c) (c.1 + 1) - faN c (c.1 + 1) = CT c kp 3 := by
  rw [sum_ld hc, fa_be hc kp]
  exact i32_as _ _
/-! ## links -/
theorem sLF_sum {av : Int32} {ld : Fn} : ∀ i, sLF av ld i + sumN ld i = av := by
  intro i
  induction i with
  | zero => exact Int32.add_zero av
  | succ i ih =>
    show sLF av ld i - ld i + (sumN ld i + ld i) = av
    have e : sLF av ld i - ld i + (sumN ld i + ld i) = sLF av ld i - ld i + ld i + sumN ld i := by ac_rfl
    rw [e, Int32.sub_add_cancel, ih]
theorem lf_end (hc : okC c) (kp : Nat) : -(LF c c.1) = CT c kp 4 := by
  have h1 : LF c c.1 + sumN (LD c) c.1 = AHc c := sLF_sum c.1
  have h2 : sumN (LD c) c.1 + LD c c.1 = AHc c + BEc c := sum_ld hc
  rw [ld_n hc, Int32.add_zero] at h2
  rw [h2] at h1
  show -(LF c c.1) = BEc c
  have h3 : LF c c.1 + BEc c + AHc c = AHc c := by
    rw [← h1]
    show LF c c.1 + BEc c + (LF c c.1 + (AHc c + BEc c)) = LF c c.1 + (AHc c + BEc c)
    rw [h1]
    have e : LF c c.1 + BEc c + AHc c = LF c c.1 + (AHc c + BEc c) := by ac_rfl
    rw [e, h1]
  have h4 : LF c c.1 + BEc c = 0 := by
    have e : LF c c.1 + BEc c + AHc c - AHc c = AHc c - AHc c := by rw [h3]
    rw [i32_as, Int32.sub_self] at e
    exact e
  have h5 : -(LF c c.1) + (LF c c.1 + BEc c) = -(LF c c.1) + 0 := by rw [h4]
  rw [← Int32.add_assoc, Int32.add_left_neg, Int32.zero_add, Int32.add_zero] at h5
  exact h5.symm
theorem lk_0 : LK c k 0 - 2 = c.2.1 k := i32_as _ _
theorem ab_t {x : Int32} (h : 0 ≤ x) : x = ab x := (if_pos h).symm
theorem ab_f {x : Int32} (h : ¬ 0 ≤ x) : -x = ab x := by
  unfold ab
  rw [if_neg h, Int32.zero_sub]
theorem fo_eq : LK c k 1 = ab (LF c (k + 1)) + ab (c.2.1 k) * (c.2.2.2.2.2 2 + 100 - 100) := by
  rw [i32_as]
  rfl
theorem gm_t (h : LK c k 1 ≤ gM (FO c) k) : gM (FO c) k = gM (FO c) (k + 1) := (if_neg (i32_nlt h)).symm
theorem gm_f (h : ¬ LK c k 1 ≤ gM (FO c) k) : LK c k 1 = gM (FO c) (k + 1) := (if_pos (i32_lt h)).symm
theorem br_S : nI (brN (FO c) (c.2.2.2.2.2 3) k) + LK c k 2 = nI (brN (FO c) (c.2.2.2.2.2 3) (k + 1)) := by
  show nI (brN (FO c) (c.2.2.2.2.2 3) k) + (if c.2.2.2.2.2 3 < FO c k then 1 else 0) = nI (brN (FO c) (c.2.2.2.2.2 3) k + (if c.2.2.2.2.2 3 < FO c k then 1 else 0))
  by_cases q : c.2.2.2.2.2 3 < FO c k
  · rw [if_pos q, if_pos q, nI_succ]
  · rw [if_neg q, if_neg q, Int32.add_zero]
    rfl
theorem lk2_0 (h : ¬ LK c k 2 = 1) : 0 = LK c k 2 := by
  show 0 = if c.2.2.2.2.2 3 < FO c k then (1 : Int32) else 0
  by_cases q : c.2.2.2.2.2 3 < FO c k
  · exact absurd (show LK c k 2 = 1 from if_pos q) h
  · rw [if_neg q]
theorem lk2_t (h : ¬ LK c k 1 ≤ c.2.2.2.2.2 3 + 100 - 100) : 1 = LK c k 2 := by
  rw [i32_as] at h
  exact (if_pos (i32_lt h)).symm
theorem lk2_f (h : LK c k 1 ≤ c.2.2.2.2.2 3 + 100 - 100) : 0 = LK c k 2 := by
  rw [i32_as] at h
  exact (if_neg (i32_nlt h)).symm
theorem brN_lt (hc : okC c) : ∀ k, k ≤ c.1 → brN (FO c) (c.2.2.2.2.2 3) k < 2 ^ 31 := fun k hk => by
  have h := brN_le (FO c) (c.2.2.2.2.2 3) k
  have := hc.2.1
  omega
theorem ho_0 {kp : Nat} (h : ¬ CT c kp 7 = 1) : 0 = CT c kp 7 := by
  show 0 = if GR c ≤ c.2.2.2.2.2 3 then (1 : Int32) else 0
  by_cases q : GR c ≤ c.2.2.2.2.2 3
  · exact absurd (show CT c kp 7 = 1 from if_pos q) h
  · rw [if_neg q]
theorem ho_iff (hc : okC c) : GR c ≤ c.2.2.2.2.2 3 ↔ brN (FO c) (c.2.2.2.2.2 3) c.1 = 0 :=
  gM_brN (Int32.le_trans (show (0 : Int32) ≤ 1 by decide) hc.2.2.1.2.2.2.2.2.2.1) c.1
theorem ho_t {kp : Nat} (hc : okC c) (h : brN (FO c) (c.2.2.2.2.2 3) c.1 = 0) : 1 = CT c kp 7 := (if_pos ((ho_iff hc).mpr h)).symm
theorem ho_f {kp : Nat} (hc : okC c) (h : brN (FO c) (c.2.2.2.2.2 3) c.1 ≠ 0) : 0 = CT c kp 7 := (if_neg (fun q => h ((ho_iff hc).mp q))).symm
/-! ## the share of the walls -/
theorem ev_c (hc : okC c) : ∃ k, evOK (AHc c) (BEc c) k := walls_ex hc.1 hc.2.1 hc.2.2.1
theorem walls_0 (hc : okC c) : 0 ≤ AHc c ∧ 0 ≤ BEc c := by
  have hn1 := hc.1
  have hn := hc.2.1
  obtain ⟨A, hA, eA⟩ := wA_nat hn1 hn (fun k hk => ld_nat hc.2.2.1 hk) (c.1 - 1) (by omega)
  obtain ⟨B, hB, eB⟩ := wB_nat hn1 hn (fun k hk => ld_nat hc.2.2.1 hk) (c.1 - 1) (by omega)
  refine ⟨?_, ?_⟩
  · show 0 ≤ wAH (LD c) c.1 (c.1 - 1)
    rw [show wAH (LD c) c.1 (c.1 - 1) = nI A from eA]
    exact nI_pos' (by omega)
  · show 0 ≤ wBE (LD c) c.1 (c.1 - 1)
    rw [show wBE (LD c) c.1 (c.1 - 1) = nI B from eB]
    exact nI_pos' (by omega)
theorem f_eq1 {x : UInt64} (hx : fN x 4503599627370496 (-52)) : FP.dcmp x FP.dconst1 = some .eq := by
  rw [f_ord hx.1 f_one, show min (-52 : Int) (-52) = -52 by omega, show ((-52 : Int) - -52).toNat = 0 by omega, Nat.pow_zero, Nat.mul_one, f_cmpI, if_neg (by omega), if_pos rfl]
theorem f_in01 {a b : Int32} (ha : 0 ≤ a) (hab : a ≤ b) (hb : b ≠ 0) : (FP.dcmp (FP.ddiv (FP.i2d a) (FP.i2d b)) FP.dconst0 = some .eq ∨ FP.dcmp (FP.ddiv (FP.i2d a) (FP.i2d b)) FP.dconst0 = some .gt) ∧ (FP.dcmp (FP.ddiv (FP.i2d a) (FP.i2d b)) FP.dconst1 = some .lt ∨ FP.dcmp (FP.ddiv (FP.i2d a) (FP.i2d b)) FP.dconst1 = some .eq) := by
  obtain ⟨A, hA, eA⟩ := i32_nat ha
  obtain ⟨B, hB, eB⟩ := i32_nat (Int32.le_trans ha hab)
  have hB1 : 1 ≤ B := by
    rcases Nat.eq_zero_or_pos B with q | q
    · exact absurd (Int32.toInt_inj.mp (by rw [eB, q]; rfl)) hb
    · exact q
  have hAB : A ≤ B := by
    have := Int32.le_iff_toInt_le.mp hab
    omega
  obtain ⟨j, j1, j2, j3, j4⟩ := f_i2d eB hB1 hB
  have fj := f_sc (k := j) (by omega) j2 j3
  have cj : fC (B * 2 ^ (52 - j)) ((j : Int) - 52) := ⟨fj.1, fj.2, by omega, by omega⟩
  rcases Nat.eq_zero_or_pos A with q | q
  · have e : a = 0 := Int32.toInt_inj.mp (by rw [eA, q]; rfl)
    subst e
    rw [f_ddiv0 j4 cj]
    exact ⟨Or.inl (by decide +kernel), Or.inl (by decide +kernel)⟩
  · obtain ⟨k, k1, k2, k3, k4⟩ := f_i2d eA q hA
    have fk := f_sc (k := k) (by omega) k2 k3
    have ck : fC (A * 2 ^ (52 - k)) ((k : Int) - 52) := ⟨fk.1, fk.2, by omega, by omega⟩
    have hkj : k < j ∨ k = j := by
      rcases Nat.lt_trichotomy k j with g | g | g
      · exact Or.inl g
      · exact Or.inr g
      · exfalso
        have := Nat.pow_le_pow_right (show 0 < 2 by decide) (show j + 1 ≤ k by omega)
        omega
    obtain ⟨c9, q9, g1, g2, g3, g4, g5⟩ := f_divB k4 j4 ck cj (by
      rcases hkj with g | g
      · exact Or.inl (by omega)
      · subst g
        exact Or.inr ⟨rfl, Nat.mul_le_mul_right _ hAB⟩) (by omega)
    refine ⟨Or.inr (f_gt0 g1 g2), ?_⟩
    by_cases h : q9 = -52
    · have e := g5 h
      subst h
      subst e
      exact Or.inr (f_eq1 g1)
    · exact Or.inl (f_lt1 g1 g2 (by omega))
theorem ev_01 (hc : okC c) : (FP.dcmp (EV c) FP.dconst0 = some .eq ∨ FP.dcmp (EV c) FP.dconst0 = some .gt) ∧ (FP.dcmp (EV c) FP.dconst1 = some .lt ∨ FP.dcmp (EV c) FP.dconst1 = some .eq) := by
  obtain ⟨h1, h2⟩ := walls_0 hc
  obtain ⟨h3, h4⟩ := mn_mx h1 h2
  show (FP.dcmp (evn (AHc c) (BEc c)) FP.dconst0 = some .eq ∨ FP.dcmp (evn (AHc c) (BEc c)) FP.dconst0 = some .gt) ∧ (FP.dcmp (evn (AHc c) (BEc c)) FP.dconst1 = some .lt ∨ FP.dcmp (evn (AHc c) (BEc c)) FP.dconst1 = some .eq)
  by_cases h : mx (AHc c) (BEc c) = 0
  · rw [← evn_0 h]
    exact ⟨Or.inr (by decide +kernel), Or.inr (by decide +kernel)⟩
  · rw [← evn_1 h]
    exact f_in01 h3 h4 h
end FJT
