/-! # a share of two whole numbers, in doubles: that it can be worked out (evOK), out of the definitions -/
section FLT
theorem f_tails : FP.Core.Fmt.tails FP.Core.b64 = 4503599627370496 := by decide +kernel
theorem f_exps : FP.Core.Fmt.exps FP.Core.b64 = 2048 := by decide +kernel
theorem f_qmin : FP.Core.Fmt.qmin FP.Core.b64 = -1074 := by decide +kernel
theorem f_qmax : FP.Core.Fmt.qmax FP.Core.b64 = 971 := by decide +kernel
/-- x stands for c * 2^q, without a sign, and is finite -/
def fN (x : UInt64) (c : Nat) (q : Int) : Prop := FP.Core.decode FP.Core.b64 x.toNat = .fin false c q ∧ x.toNat < 9218868437227405312
def fC (c : Nat) (q : Int) : Prop := 4503599627370496 ≤ c ∧ c < 9007199254740992 ∧ -1074 ≤ q ∧ q ≤ 971
theorem f_dec {E T : Nat} (hE : E < 2047) (h1 : 1 ≤ E) (hT : T < 4503599627370496) : FP.Core.decode FP.Core.b64 (E * 4503599627370496 + T) = .fin false (4503599627370496 + T) (-1074 + ((E : Int) - 1)) := by
  have e1 : FP.Core.fieldE FP.Core.b64 (E * 4503599627370496 + T) = E := by
    unfold FP.Core.fieldE
    rw [f_tails, f_exps]
    omega
  have e2 : FP.Core.fieldT FP.Core.b64 (E * 4503599627370496 + T) = T := by
    unfold FP.Core.fieldT
    rw [f_tails]
    omega
  have e3 : FP.Core.fieldS FP.Core.b64 (E * 4503599627370496 + T) = false := by
    unfold FP.Core.fieldS
    rw [f_tails, f_exps]
    have e : (E * 4503599627370496 + T) / 4503599627370496 / 2048 % 2 = 0 := by omega
    rw [e]
    rfl
  unfold FP.Core.decode
  rw [e1, e2, e3, f_exps, f_tails, f_qmin, if_neg (by omega), if_neg (by omega)]
theorem f_toNat {n : Nat} (h : n < 18446744073709551616) : (UInt64.ofNat n).toNat = n := UInt64.toNat_ofNat_of_lt' h
theorem f_of {c : Nat} {q : Int} (h : fC c q) : fN (UInt64.ofNat (FP.Core.encode FP.Core.b64 (.fin false c q))) c q := by
  obtain ⟨h1, h2, h3, h4⟩ := h
  obtain ⟨T, hT, rfl⟩ : ∃ T, T < 4503599627370496 ∧ c = 4503599627370496 + T := ⟨c - 4503599627370496, by omega, by omega⟩
  obtain ⟨E, hE, hE1, rfl⟩ : ∃ E : Nat, E < 2047 ∧ 1 ≤ E ∧ q = -1074 + ((E : Int) - 1) := ⟨(q + 1075).toNat, by omega, by omega, by omega⟩
  have e : FP.Core.encode FP.Core.b64 (.fin false (4503599627370496 + T) (-1074 + ((E : Int) - 1))) = E * 4503599627370496 + T := by
    show (if 4503599627370496 + T < FP.Core.Fmt.tails FP.Core.b64 then FP.Core.assemble FP.Core.b64 false 0 (4503599627370496 + T) else FP.Core.assemble FP.Core.b64 false ((-1074 + ((E : Int) - 1) - FP.Core.Fmt.qmin FP.Core.b64).toNat + 1) (4503599627370496 + T - FP.Core.Fmt.tails FP.Core.b64)) = _
    rw [f_tails, f_qmin, if_neg (by omega)]
    unfold FP.Core.assemble
    rw [f_tails, f_exps, show (-1074 + ((E : Int) - 1) - -1074).toNat + 1 = E by omega, show 4503599627370496 + T - 4503599627370496 = T by omega, show Bool.toNat false * 2048 + E = E by simp]
  unfold fN
  rw [e, f_toNat (by omega)]
  exact ⟨f_dec hE hE1 hT, by omega⟩
theorem f_log {c k : Nat} (h1 : 2 ^ k ≤ c) (h2 : c < 2 ^ (k + 1)) : c.log2 = k := by
  have h0 : c ≠ 0 := by
    have := Nat.two_pow_pos k
    omega
  exact (Nat.log2_eq_iff h0).mpr ⟨h1, h2⟩
theorem f_lead1 {c k : Nat} (h1 : 2 ^ k ≤ c) (h2 : c < 2 ^ (k + 1)) : FP.Core.leading c 1 = (k : Int) := by
  unfold FP.Core.leading
  rw [f_log h1 h2, show Nat.log2 1 = 0 by decide]
  show (if 1 * 2 ^ ((k : Int) - ((0 : Nat) : Int)).toNat ≤ c * 2 ^ (-((k : Int) - ((0 : Nat) : Int))).toNat then ((k : Int) - ((0 : Nat) : Int)) else ((k : Int) - ((0 : Nat) : Int)) - 1) = _
  rw [show ((k : Int) - ((0 : Nat) : Int)).toNat = k by omega, show (-((k : Int) - ((0 : Nat) : Int))).toNat = 0 by omega, if_pos (by rw [Nat.one_mul, Nat.pow_zero, Nat.mul_one]; exact h1)]
  omega
theorem f_lead2 {c d : Nat} (h1 : 4503599627370496 ≤ c) (h2 : c < 9007199254740992) (h3 : 4503599627370496 ≤ d) (h4 : d < 9007199254740992) : FP.Core.leading c d = if d ≤ c then 0 else -1 := by
  have e1 : c.log2 = 52 := f_log (k := 52) h1 h2
  have e2 : d.log2 = 52 := f_log (k := 52) h3 h4
  unfold FP.Core.leading
  rw [e1, e2]
  show (if d * 2 ^ (((52 : Nat) : Int) - ((52 : Nat) : Int)).toNat ≤ c * 2 ^ (-(((52 : Nat) : Int) - ((52 : Nat) : Int))).toNat then (((52 : Nat) : Int) - ((52 : Nat) : Int)) else (((52 : Nat) : Int) - ((52 : Nat) : Int)) - 1) = _
  rw [show (((52 : Nat) : Int) - ((52 : Nat) : Int)).toNat = 0 by omega, show (-(((52 : Nat) : Int) - ((52 : Nat) : Int))).toNat = 0 by omega, Nat.pow_zero, Nat.mul_one, Nat.mul_one]
  by_cases h : d ≤ c
  · rw [if_pos h, if_pos h]
    omega
  · rw [if_neg h, if_neg h]
    omega
theorem f_near1 (x : Nat) : FP.Core.nearest x 1 = x := by
  unfold FP.Core.nearest
  rw [Nat.mod_one, if_pos (by decide), Nat.div_one]
theorem f_near2 (c : Nat) {m : Nat} (hm : 0 < m) : FP.Core.nearest (c * m) m = c := by
  unfold FP.Core.nearest
  rw [Nat.mul_mod_left, if_pos (by omega), Nat.mul_div_cancel _ hm]
theorem f_near_ge {x m n : Nat} (hm : 0 < m) (h : n * m ≤ x) : n ≤ FP.Core.nearest x m := by
  have h1 : n ≤ x / m := (Nat.le_div_iff_mul_le hm).mpr h
  unfold FP.Core.nearest
  split
  · exact h1
  · split <;> omega
theorem f_near_le {x m n : Nat} (hm : 0 < m) (h : x < n * m) : FP.Core.nearest x m ≤ n := by
  have h1 : x / m < n := (Nat.div_lt_iff_lt_mul hm).mpr h
  unfold FP.Core.nearest
  split
  · omega
  · split <;> omega
theorem f_settle {s : Bool} {c : Nat} {q : Int} (h : c < 9007199254740992) (hq : q ≤ 971) : FP.Core.settle FP.Core.b64 s c q = .fin s c q := by
  unfold FP.Core.settle FP.Core.bound
  rw [f_qmax, if_pos (show c < 2 ^ (FP.Core.b64).p from h), if_pos hq]
theorem f_settle2 {s : Bool} {q : Int} (hq : q + 1 ≤ 971) : FP.Core.settle FP.Core.b64 s 9007199254740992 q = .fin s 4503599627370496 (q + 1) := by
  unfold FP.Core.settle FP.Core.bound
  rw [f_qmax, f_tails, if_neg (show ¬ 9007199254740992 < 2 ^ (FP.Core.b64).p by decide), if_pos hq]
theorem f_quant {a b : Nat} {e L : Int} (h : FP.Core.leading a b = L) (hq : -1074 ≤ L + e - 52) : FP.Core.quantum FP.Core.b64 a b e = L + e - 52 := by
  unfold FP.Core.quantum
  rw [h, f_qmin, show (((FP.Core.b64).p : Nat) : Int) - 1 = 52 by decide]
  omega
theorem f_sc {A k : Nat} (hk : k ≤ 52) (h1 : 2 ^ k ≤ A) (h2 : A < 2 ^ (k + 1)) : 4503599627370496 ≤ A * 2 ^ (52 - k) ∧ A * 2 ^ (52 - k) < 9007199254740992 := by
  have e1 : 2 ^ k * 2 ^ (52 - k) = 2 ^ 52 := by rw [← Nat.pow_add, show k + (52 - k) = 52 by omega]
  have e2 : 2 ^ (k + 1) * 2 ^ (52 - k) = 2 ^ 53 := by rw [← Nat.pow_add, show k + 1 + (52 - k) = 53 by omega]
  have l1 := Nat.mul_le_mul_right (2 ^ (52 - k)) h1
  have l2 := Nat.mul_lt_mul_of_pos_right h2 (Nat.two_pow_pos (52 - k))
  rw [e1] at l1
  rw [e2] at l2
  exact ⟨l1, l2⟩
theorem f_r1 {s : Bool} {A k : Nat} {e : Int} (hk : k ≤ 52) (h1 : 2 ^ k ≤ A) (h2 : A < 2 ^ (k + 1)) (hq : -1074 ≤ (k : Int) + e - 52) (hq2 : (k : Int) + e - 52 ≤ 971) : FP.Core.roundRatio FP.Core.b64 s A 1 e = .fin s (A * 2 ^ (52 - k)) ((k : Int) + e - 52) := by
  have h0 : A ≠ 0 := by
    have := Nat.two_pow_pos k
    omega
  unfold FP.Core.roundRatio
  rw [if_neg h0, f_quant (f_lead1 h1 h2) hq]
  unfold FP.Core.roundAt FP.Core.unitsNum FP.Core.unitsDen
  rw [show (e - ((k : Int) + e - 52)).toNat = 52 - k by omega, show ((k : Int) + e - 52 - e).toNat = 0 by omega, Nat.pow_zero, Nat.one_mul, f_near1]
  exact f_settle (f_sc hk h1 h2).2 hq2
theorem f_r2 {s : Bool} {c : Nat} {e : Int} (h1 : 4503599627370496 ≤ c) (h2 : c < 9007199254740992) (hq : -1074 ≤ e + 52) (hq2 : e + 52 ≤ 971) : FP.Core.roundRatio FP.Core.b64 s (c * 4503599627370496) 1 e = .fin s c (e + 52) := by
  have l1 : 2 ^ 104 ≤ c * 4503599627370496 := by
    have := Nat.mul_le_mul_right 4503599627370496 h1
    exact this
  have l2 : c * 4503599627370496 < 2 ^ (104 + 1) := by
    have := Nat.mul_lt_mul_of_pos_right h2 (show 0 < 4503599627370496 by decide)
    exact this
  unfold FP.Core.roundRatio
  rw [if_neg (by omega), f_quant (L := ((104 : Nat) : Int)) (f_lead1 l1 l2) (by omega)]
  unfold FP.Core.roundAt FP.Core.unitsNum FP.Core.unitsDen
  rw [show (((104 : Nat) : Int) + e - 52) = e + 52 by omega, show (e - (e + 52)).toNat = 0 by omega, show (e + 52 - e).toNat = 52 by omega, Nat.pow_zero, Nat.mul_one, Nat.one_mul, show (2 : Nat) ^ 52 = 4503599627370496 by decide, f_near2 c (by decide)]
  exact f_settle h2 hq2
theorem f_i2d {a : Int32} {A : Nat} (ha : a.toInt = (A : Int)) (h1 : 1 ≤ A) (h2 : A < 2147483648) : ∃ k : Nat, k ≤ 31 ∧ 2 ^ k ≤ A ∧ A < 2 ^ (k + 1) ∧ fN (FP.i2d a) (A * 2 ^ (52 - k)) ((k : Int) - 52) := by
  have l1 : 2 ^ A.log2 ≤ A := Nat.log2_self_le (by omega)
  have l2 : A < 2 ^ (A.log2 + 1) := Nat.lt_log2_self
  obtain ⟨k, hk⟩ : ∃ k, k = A.log2 := ⟨_, rfl⟩
  rw [← hk] at l1 l2
  have l3 : k < 31 := (Nat.pow_lt_pow_iff_right (by decide : 1 < 2)).mp (Nat.lt_of_le_of_lt l1 (show A < 2 ^ 31 from h2))
  refine ⟨k, by omega, l1, l2, ?_⟩
  show fN (UInt64.ofNat (FP.Core.encode FP.Core.b64 (FP.Core.round FP.Core.b64 (FP.Core.ofInt a.toInt)))) _ _
  have e : FP.Core.round FP.Core.b64 (FP.Core.ofInt a.toInt) = .fin false (A * 2 ^ (52 - k)) ((k : Int) - 52) := by
    rw [ha]
    have e0 : FP.Core.ofInt ((A : Nat) : Int) = .fin false A 0 := by
      unfold FP.Core.ofInt
      rw [decide_eq_false (by omega), Int.natAbs_natCast]
    rw [e0]
    show FP.Core.roundRatio FP.Core.b64 false A 1 0 = _
    rw [f_r1 (by omega) l1 l2 (by omega) (by omega), show (k : Int) + 0 - 52 = (k : Int) - 52 by omega]
  rw [e]
  have q := f_sc (k := k) (by omega) l1 l2
  exact f_of ⟨q.1, q.2, by omega, by omega⟩
theorem f_div {x y : UInt64} {c d : Nat} {q r : Int} (hx : fN x c q) (hy : fN y d r) (hc : fC c q) (hd : fC d r) (hle : q < r ∨ (q = r ∧ c ≤ d)) (hb : -100 ≤ q - r) : ∃ (c9 : Nat) (q9 : Int), fN (FP.ddiv x y) c9 q9 ∧ fC c9 q9 ∧ q9 ≤ -52 ∧ -200 ≤ q9 := by
  obtain ⟨c1, c2, c3, c4⟩ := hc
  obtain ⟨d1, d2, d3, d4⟩ := hd
  have key : ∃ (c9 : Nat) (q9 : Int), FP.Core.roundRatio FP.Core.b64 false c d (q - r) = .fin false c9 q9 ∧ fC c9 q9 ∧ q9 ≤ -52 ∧ -200 ≤ q9 := by
    unfold FP.Core.roundRatio
    rw [if_neg (by omega)]
    have hl := f_lead2 c1 c2 d1 d2
    by_cases h : d ≤ c
    · rw [if_pos h] at hl
      rw [f_quant hl (by omega)]
      unfold FP.Core.roundAt FP.Core.unitsNum FP.Core.unitsDen
      rw [show (q - r - (0 + (q - r) - 52)).toNat = 52 by omega, show (0 + (q - r) - 52 - (q - r)).toNat = 0 by omega, Nat.pow_zero, Nat.mul_one, show (2 : Nat) ^ 52 = 4503599627370496 by decide]
      have n1 : 4503599627370496 ≤ FP.Core.nearest (c * 4503599627370496) d := f_near_ge (by omega) (by omega)
      have n2 : FP.Core.nearest (c * 4503599627370496) d ≤ 9007199254740992 := f_near_le (by omega) (by omega)
      rcases Nat.lt_or_ge (FP.Core.nearest (c * 4503599627370496) d) 9007199254740992 with n3 | n3
      · rcases hle with g | ⟨g1, g2⟩
        · exact ⟨_, _, f_settle n3 (by omega), ⟨n1, n3, by omega, by omega⟩, by omega, by omega⟩
        · exact ⟨_, _, f_settle n3 (by omega), ⟨n1, n3, by omega, by omega⟩, by omega, by omega⟩
      · rw [show FP.Core.nearest (c * 4503599627370496) d = 9007199254740992 by omega]
        rcases hle with g | ⟨g1, g2⟩
        · exact ⟨_, _, f_settle2 (by omega), ⟨by decide, by decide, by omega, by omega⟩, by omega, by omega⟩
        · exfalso
          have e : c = d := by omega
          subst e
          rw [Nat.mul_comm, f_near2 _ (by omega)] at n3
          omega
    · rw [if_neg h] at hl
      rw [f_quant hl (by omega)]
      unfold FP.Core.roundAt FP.Core.unitsNum FP.Core.unitsDen
      rw [show (q - r - (-1 + (q - r) - 52)).toNat = 53 by omega, show (-1 + (q - r) - 52 - (q - r)).toNat = 0 by omega, Nat.pow_zero, Nat.mul_one, show (2 : Nat) ^ 53 = 9007199254740992 by decide]
      have n1 : 4503599627370496 ≤ FP.Core.nearest (c * 9007199254740992) d := f_near_ge (by omega) (by omega)
      have n2 : FP.Core.nearest (c * 9007199254740992) d ≤ 9007199254740992 := f_near_le (by omega) (by omega)
      rcases Nat.lt_or_ge (FP.Core.nearest (c * 9007199254740992) d) 9007199254740992 with n3 | n3
      · rcases hle with g | ⟨g1, g2⟩
        · exact ⟨_, _, f_settle n3 (by omega), ⟨n1, n3, by omega, by omega⟩, by omega, by omega⟩
        · exact ⟨_, _, f_settle n3 (by omega), ⟨n1, n3, by omega, by omega⟩, by omega, by omega⟩
      · rw [show FP.Core.nearest (c * 9007199254740992) d = 9007199254740992 by omega]
        rcases hle with g | ⟨g1, g2⟩
        · exact ⟨_, _, f_settle2 (by omega), ⟨by decide, by decide, by omega, by omega⟩, by omega, by omega⟩
        · exact ⟨_, _, f_settle2 (by omega), ⟨by decide, by decide, by omega, by omega⟩, by omega, by omega⟩
  obtain ⟨c9, q9, e, h1, h2, h3⟩ := key
  refine ⟨c9, q9, ?_, h1, h2, h3⟩
  show fN (UInt64.ofNat (FP.Core.encode FP.Core.b64 (FP.Core.quotient FP.Core.b64 (FP.Core.decode FP.Core.b64 x.toNat) (FP.Core.decode FP.Core.b64 y.toNat)))) _ _
  have e2 : FP.Core.quotient FP.Core.b64 (.fin false c q) (.fin false d r) = .fin false c9 q9 := by
    show (if d = 0 then _ else FP.Core.roundRatio FP.Core.b64 false c d (q - r)) = _
    rw [if_neg (by omega)]
    exact e
  rw [hx.1, hy.1, e2]
  exact f_of h1
theorem f_mul {x y : UInt64} {c : Nat} {q r : Int} (hx : fN x c q) (hy : FP.Core.decode FP.Core.b64 y.toNat = .fin false 4503599627370496 r) (hc : fC c q) (h1 : -1074 ≤ q + r + 52) (h2 : q + r + 52 ≤ 971) : fN (FP.dmul x y) c (q + r + 52) := by
  show fN (UInt64.ofNat (FP.Core.encode FP.Core.b64 (FP.Core.round FP.Core.b64 (FP.Core.exactProduct (FP.Core.decode FP.Core.b64 x.toNat) (FP.Core.decode FP.Core.b64 y.toNat))))) _ _
  have e : FP.Core.round FP.Core.b64 (FP.Core.exactProduct (.fin false c q) (.fin false 4503599627370496 r)) = .fin false c (q + r + 52) := f_r2 (s := false) (e := q + r) hc.1 hc.2.1 h1 h2
  rw [hx.1, hy, e]
  exact f_of ⟨hc.1, hc.2.1, h1, h2⟩
theorem f_n64 {x : UInt64} (h : x.toNat < 9218868437227405312) : vf_n64 x := by
  unfold vf_n64
  rw [UInt64.le_iff_toNat_le, UInt64.toNat_and]
  have h1 : x.toNat &&& (0x7fffffffffffffff : UInt64).toNat ≤ x.toNat := Nat.and_le_left
  have h2 : (0x7ff0000000000000 : UInt64).toNat = 9218868437227405312 := by decide
  rw [h2]
  omega
theorem f_cmpI (a b : Int) : compare a b = if a < b then Ordering.lt else if a = b then Ordering.eq else Ordering.gt := rfl
theorem f_ord {x y : UInt64} {c d : Nat} {q r : Int} (hx : FP.Core.decode FP.Core.b64 x.toNat = .fin false c q) (hy : FP.Core.decode FP.Core.b64 y.toNat = .fin false d r) : FP.dcmp x y = some (compare ((c * 2 ^ (q - min q r).toNat : Nat) : Int) ((d * 2 ^ (r - min q r).toNat : Nat) : Int)) := by
  show FP.Core.order (FP.Core.decode FP.Core.b64 x.toNat) (FP.Core.decode FP.Core.b64 y.toNat) = _
  rw [hx, hy]
  rfl
theorem f_one : FP.Core.decode FP.Core.b64 (FP.dconst1).toNat = .fin false 4503599627370496 (-52) := by decide +kernel
theorem f_zero : FP.Core.decode FP.Core.b64 (FP.dconst0).toNat = .fin false 0 (-1074) := by decide +kernel
theorem f_two : FP.Core.decode FP.Core.b64 (4611686018427387904 : UInt64).toNat = .fin false 4503599627370496 (-51) := by decide +kernel
theorem f_t52 : FP.Core.decode FP.Core.b64 (4841369599423283200 : UInt64).toNat = .fin false 4503599627370496 0 := by decide +kernel
theorem f_lt1 {x : UInt64} {c : Nat} {q : Int} (hx : fN x c q) (hc : fC c q) (h : q < -52) : FP.dcmp x FP.dconst1 = some .lt := by
  rw [f_ord hx.1 f_one, show min q (-52) = q by omega, show (q - q).toNat = 0 by omega, Nat.pow_zero, Nat.mul_one]
  obtain ⟨j, hj⟩ : ∃ j : Nat, (-52 - q).toNat = j + 1 := ⟨(-52 - q).toNat - 1, by omega⟩
  have p := Nat.two_pow_pos j
  have l : c < 4503599627370496 * 2 ^ (j + 1) := by
    rw [Nat.pow_succ]
    have := hc.2.1
    omega
  rw [hj, f_cmpI, if_pos (Int.ofNat_lt.mpr l)]
theorem f_ge1 {x : UInt64} {c : Nat} (hx : fN x c (-52)) (hc : fC c (-52)) : FP.dcmp x FP.dconst1 = some .eq ∨ FP.dcmp x FP.dconst1 = some .gt := by
  rw [f_ord hx.1 f_one, show min (-52 : Int) (-52) = -52 by omega, show ((-52 : Int) - -52).toNat = 0 by omega, Nat.pow_zero, Nat.mul_one, Nat.mul_one, f_cmpI]
  have h1 := hc.1
  rw [if_neg (by omega)]
  by_cases h : ((c : Nat) : Int) = ((4503599627370496 : Nat) : Int)
  · rw [if_pos h]
    exact Or.inl rfl
  · rw [if_neg h]
    exact Or.inr rfl
theorem f_gt0 {x : UInt64} {c : Nat} {q : Int} (hx : fN x c q) (hc : fC c q) : FP.dcmp x FP.dconst0 = some .gt := by
  have h3 := hc.2.2.1
  rw [f_ord hx.1 f_zero, show min q (-1074) = -1074 by omega, Nat.zero_mul, f_cmpI]
  have p := Nat.two_pow_pos (q - -1074).toNat
  have l : 0 < c * 2 ^ (q - -1074).toNat := Nat.mul_pos (by have := hc.1; omega) p
  rw [if_neg (by omega), if_neg (by omega)]
theorem f_dx {v : UInt64} {c : Nat} {q : Int} (hv : fN v c q) (hc : fC c q) : ∀ i : Nat, q + i ≤ -52 → fN (dx v i) c (q + i) := by
  intro i
  induction i with
  | zero =>
    intro _
    rw [show q + ((0 : Nat) : Int) = q by omega]
    exact hv
  | succ i ih =>
    intro h
    have h3 := hc.2.2.1
    have g := f_mul (ih (by omega)) f_two ⟨hc.1, hc.2.1, by omega, by omega⟩ (by omega) (by omega)
    rw [show q + (i : Int) + -51 + 52 = q + ((i + 1 : Nat) : Int) by omega] at g
    exact g
/-- less 1: none, or a number again -/
theorem f_sub1 {x : UInt64} {c : Nat} (hx : fN x c (-52)) (hc : fC c (-52)) : (FP.dsub x FP.dconst1).toNat = 0 ∨ ∃ (c9 : Nat) (q9 : Int), fN (FP.dsub x FP.dconst1) c9 q9 ∧ fC c9 q9 ∧ -200 ≤ q9 ∧ q9 ≤ 0 := by
  have e0 : FP.dsub x FP.dconst1 = UInt64.ofNat (FP.Core.encode FP.Core.b64 (FP.Core.round FP.Core.b64 (FP.Core.exactSum (.fin false c (-52)) (.fin true 4503599627370496 (-52))))) := by
    show UInt64.ofNat (FP.Core.encode FP.Core.b64 (FP.Core.round FP.Core.b64 (FP.Core.exactSum (FP.Core.decode FP.Core.b64 x.toNat) (FP.Core.negate (FP.Core.decode FP.Core.b64 (FP.dconst1).toNat))))) = _
    rw [hx.1, f_one]
    rfl
  have h1 := hc.1
  have h2 := hc.2.1
  obtain ⟨D, hD, rfl⟩ : ∃ D, D < 4503599627370496 ∧ c = 4503599627370496 + D := ⟨c - 4503599627370496, by omega, by omega⟩
  have e1 : FP.Core.sumUnits false (4503599627370496 + D) (-52) true 4503599627370496 (-52) (min (-52) (-52)) = (D : Int) := by
    show (((4503599627370496 + D) * 2 ^ ((-52 : Int) - min (-52) (-52)).toNat : Nat) : Int) + -(((4503599627370496 * 2 ^ ((-52 : Int) - min (-52) (-52)).toNat : Nat)) : Int) = _
    rw [show ((-52 : Int) - min (-52) (-52)).toNat = 0 by decide, Nat.pow_zero, Nat.mul_one, Nat.mul_one]
    omega
  have e2 : FP.Core.exactSum (.fin false (4503599627370496 + D) (-52)) (.fin true 4503599627370496 (-52)) = .fin false D (-52) := by
    show FP.Core.Datum.fin (FP.Core.sumSign false true (FP.Core.sumUnits false (4503599627370496 + D) (-52) true 4503599627370496 (-52) (min (-52) (-52)))) (FP.Core.sumUnits false (4503599627370496 + D) (-52) true 4503599627370496 (-52) (min (-52) (-52))).natAbs (min (-52) (-52)) = _
    rw [e1, Int.natAbs_natCast]
    have e3 : FP.Core.sumSign false true (D : Int) = false := by
      unfold FP.Core.sumSign
      split
      · rfl
      · exact decide_eq_false (by omega)
    rw [e3]
    rfl
  rw [e0, e2]
  by_cases hz : D = 0
  · subst hz
    exact Or.inl (by decide +kernel)
  · refine Or.inr ?_
    have l1 : 2 ^ D.log2 ≤ D := Nat.log2_self_le hz
    have l2 : D < 2 ^ (D.log2 + 1) := Nat.lt_log2_self
    obtain ⟨k, hk⟩ : ∃ k, k = D.log2 := ⟨_, rfl⟩
    rw [← hk] at l1 l2
    have l3 : k < 52 := (Nat.pow_lt_pow_iff_right (by decide : 1 < 2)).mp (Nat.lt_of_le_of_lt l1 (show D < 2 ^ 52 from hD))
    have e4 : FP.Core.round FP.Core.b64 (.fin false D (-52)) = .fin false (D * 2 ^ (52 - k)) ((k : Int) + -52 - 52) := f_r1 (s := false) (by omega) l1 l2 (by omega) (by omega)
    have q := f_sc (k := k) (by omega) l1 l2
    have hf : fC (D * 2 ^ (52 - k)) ((k : Int) + -52 - 52) := ⟨q.1, q.2, by omega, by omega⟩
    rw [e4]
    exact ⟨_, _, f_of hf, hf, by omega, by omega⟩
theorem f_top {x : UInt64} {c : Nat} (hx : fN x c (-52)) (hc : fC c (-52)) : vf_n64 (FP.dsub x FP.dconst1) ∧ vf_n64 (FP.dmul (FP.dsub x FP.dconst1) 4841369599423283200) := by
  rcases f_sub1 hx hc with h | ⟨c9, q9, h1, h2, h3, h4⟩
  · have e : FP.dsub x FP.dconst1 = 0 := UInt64.toNat_inj.mp (by rw [h]; rfl)
    rw [e]
    exact ⟨f_n64 (by decide +kernel), f_n64 (by decide +kernel)⟩
  · have g := f_mul h1 f_t52 h2 (by omega) (by omega)
    exact ⟨f_n64 h1.2, f_n64 g.2⟩
theorem f_kind {v : UInt64} {c : Nat} {q : Int} (hv : fN v c q) (hc : fC c q) (h1 : q ≤ -52) (h2 : -200 ≤ q) : dKind v (-52 - q).toNat := by
  obtain ⟨k, hk⟩ : ∃ k : Nat, (-52 - q).toNat = k := ⟨_, rfl⟩
  rw [hk]
  have hcc : ∀ i : Nat, i ≤ k → fC c (q + i) := fun i hi => ⟨hc.1, hc.2.1, by omega, by omega⟩
  have hK : fN (dx v k) c (-52) := by
    have g := f_dx hv hc k (by omega)
    rw [show q + (k : Int) = -52 by omega] at g
    exact g
  have hC : fC c (-52) := ⟨hc.1, hc.2.1, by omega, by omega⟩
  refine Or.inr ⟨f_gt0 hv hc, by omega, fun i hi => f_lt1 (f_dx hv hc i (by omega)) (hcc i (by omega)) (by omega), f_ge1 hK hC, fun i hi => f_n64 (f_dx hv hc (i + 1) (by omega)).2, (f_top hK hC).1, (f_top hK hC).2⟩
theorem f_kind1 : dKind FP.dconst1 0 := Or.inr ⟨by decide +kernel, by omega, fun i hi => absurd hi (Nat.not_lt_zero i), Or.inl (by decide +kernel), fun i hi => absurd hi (Nat.not_lt_zero i), by unfold vf_n64; decide +kernel, by unfold vf_n64; decide +kernel⟩
theorem f_ddiv0 {y : UInt64} {d : Nat} {r : Int} (hy : fN y d r) (hd : fC d r) : FP.ddiv (FP.i2d 0) y = 0 := by
  show UInt64.ofNat (FP.Core.encode FP.Core.b64 (FP.Core.quotient FP.Core.b64 (FP.Core.decode FP.Core.b64 (FP.i2d 0).toNat) (FP.Core.decode FP.Core.b64 y.toNat))) = 0
  have h1 := hd.1
  have e : FP.Core.quotient FP.Core.b64 (.fin false 0 (-1074)) (.fin false d r) = .fin false 0 (-1074) := by
    show (if d = 0 then _ else FP.Core.roundRatio FP.Core.b64 false 0 d (-1074 - r)) = _
    rw [if_neg (by omega)]
    unfold FP.Core.roundRatio
    rw [if_pos rfl, f_qmin]
  rw [show FP.Core.decode FP.Core.b64 (FP.i2d 0).toNat = .fin false 0 (-1074) by decide +kernel, hy.1, e]
  decide +kernel
theorem i32_nat {a : Int32} (h : 0 ≤ a) : ∃ A : Nat, A < 2147483648 ∧ a.toInt = (A : Int) := by
  have h1 := Int32.le_iff_toInt_le.mp h
  rw [show (0 : Int32).toInt = 0 from rfl] at h1
  have h2 := a.toInt_lt
  exact ⟨a.toInt.toNat, by omega, by omega⟩
theorem f_share {a b : Int32} (ha : 0 ≤ a) (hab : a ≤ b) (hb : b ≠ 0) : vf_n64 (FP.ddiv (FP.i2d a) (FP.i2d b)) ∧ ∃ k, dKind (FP.ddiv (FP.i2d a) (FP.i2d b)) k := by
  obtain ⟨A, hA, eA⟩ := i32_nat ha
  obtain ⟨B, hB, eB⟩ := i32_nat (Int32.le_trans ha hab)
  have hB1 : 1 ≤ B := by
    rcases Nat.eq_zero_or_pos B with q | q
    · exact absurd (Int32.toInt_inj.mp (by rw [eB, q]; rfl)) hb
    · exact q
  have hAB : A ≤ B := by
    have := Int32.le_iff_toInt_le.mp hab
    omega
  obtain ⟨j, j1, j2, j3, j4⟩ := f_i2d eB hB1 hB
  have fj := f_sc (k := j) (by omega) j2 j3
  have cj : fC (B * 2 ^ (52 - j)) ((j : Int) - 52) := ⟨fj.1, fj.2, by omega, by omega⟩
  rcases Nat.eq_zero_or_pos A with q | q
  · have e : a = 0 := Int32.toInt_inj.mp (by rw [eA, q]; rfl)
    subst e
    rw [f_ddiv0 j4 cj]
    exact ⟨f_n64 (by decide), 0, Or.inl (by decide +kernel)⟩
  · obtain ⟨k, k1, k2, k3, k4⟩ := f_i2d eA q hA
    have fk := f_sc (k := k) (by omega) k2 k3
    have ck : fC (A * 2 ^ (52 - k)) ((k : Int) - 52) := ⟨fk.1, fk.2, by omega, by omega⟩
    have hkj : k < j ∨ k = j := by
      rcases Nat.lt_trichotomy k j with g | g | g
      · exact Or.inl g
      · exact Or.inr g
      · exfalso
        have := Nat.pow_le_pow_right (show 0 < 2 by decide) (show j + 1 ≤ k by omega)
        omega
    obtain ⟨c9, q9, g1, g2, g3, g4⟩ := f_div k4 j4 ck cj (by
      rcases hkj with g | g
      · exact Or.inl (by omega)
      · subst g
        exact Or.inr ⟨rfl, Nat.mul_le_mul_right _ hAB⟩) (by omega)
    exact ⟨f_n64 g1.2, _, f_kind g1 g2 g3 g4⟩
theorem mn_mx {a b : Int32} (ha : 0 ≤ a) (hb : 0 ≤ b) : 0 ≤ mn a b ∧ mn a b ≤ mx a b := by
  unfold mn mx
  by_cases h : b < a
  · rw [if_pos h, if_neg (i32_nlt (Int32.le_of_lt h))]
    exact ⟨hb, Int32.le_of_lt h⟩
  · rw [if_neg h]
    by_cases h2 : a < b
    · rw [if_pos h2]
      exact ⟨ha, Int32.le_of_lt h2⟩
    · rw [if_neg h2]
      exact ⟨ha, Int32.le_refl a⟩
/-- the share of two walls can be worked out -/
theorem ev_ex {a b : Int32} (ha : 0 ≤ a) (hb : 0 ≤ b) : ∃ k, evOK a b k := by
  obtain ⟨h1, h2⟩ := mn_mx ha hb
  by_cases h : mx a b = 0
  · refine ⟨0, fun q => absurd h q, ?_⟩
    rw [← evn_0 h]
    exact f_kind1
  · obtain ⟨g1, k, g2⟩ := f_share h1 h2 h
    refine ⟨k, fun _ => g1, ?_⟩
    rw [← evn_1 h]
    exact g2
end FLT
