/-! # the reference reads as the automaton does -/
section PQ
variable {tx : Fn} {ln : Nat}
theorem i32_one (a x : Int32) : (a ≤ x ∧ x ≤ a) ↔ x = a := by
  constructor
  · intro h
    exact (Int32.le_antisymm h.1 h.2).symm
  · intro h
    rw [h]
    exact ⟨Int32.le_refl _, Int32.le_refl _⟩
theorem dg_49 {x : Int32} (h : ¬ (49 ≤ x ∧ x ≤ 57)) (h2 : ¬ x = 48) : ¬ (48 ≤ x ∧ x ≤ 57) := by
  intro q
  refine h ⟨?_, q.2⟩
  have q1 := Int32.le_iff_toInt_le.mp q.1
  have e48 : (48 : Int32).toInt = 48 := rfl
  have e49 : (49 : Int32).toInt = 49 := rfl
  refine Int32.le_iff_toInt_le.mpr ?_
  rcases Int.lt_or_le 48 x.toInt with r | r
  · omega
  · exact absurd (Int32.toInt_inj.mp (show x.toInt = (48 : Int32).toInt by omega)) h2
theorem dg_not48 {x : Int32} (h : 49 ≤ x ∧ x ≤ 57) : ¬ x = 48 := by
  intro q
  rw [q] at h
  exact absurd h.1 (by decide)
theorem dg_48 {x : Int32} (h : 49 ≤ x ∧ x ≤ 57) : 48 ≤ x ∧ x ≤ 57 := ⟨Int32.le_trans (by decide) h.1, h.2⟩
/-! the automaton, state by state -/
variable {x : Int32} {z l : Nat} {st we : Fn}
theorem tk_link (h : z = 0 ∨ z = 6) : tkA x (z, l, st, we) = tkL x (z, l, st, we) := by
  rcases h with rfl | rfl <;> simp [tkA]
theorem tk_brk (h : z = 1 ∨ z = 2) : tkA 91 (z, l, st, we) = (true, 3, l, st, we) := by
  rcases h with rfl | rfl <;> simp [tkA, tkT, tkB]
theorem tk_two : tkA 50 (1, l, st, we) = (true, 2, l, upd st (l - 1) (2 * st (l - 1)), we) := by simp [tkA, tkT]
theorem tk_next (h : z = 1 ∨ z = 2) (h2 : z = 1 → ¬ x = 50) (h3 : ¬ x = 91) : tkA x (z, l, st, we) = tkL x (z, l, st, we) := by
  rcases h with rfl | rfl
  · simp [tkA, tkT, tkB, h2 rfl, h3]
  · simp [tkA, tkB, h3]
theorem tk_d1 (h : 49 ≤ x ∧ x ≤ 57) : tkA x (3, l, st, we) = (true, 4, l, st, upd we l (10 * we l + x - 48)) := by
  simp [tkA, tkD, dg_not48 h, dg_48 h]
theorem tk_d1n (h : ¬ (49 ≤ x ∧ x ≤ 57)) : (tkA x (3, l, st, we)).1 = false := by
  by_cases q : x = 48
  · simp [tkA, q]
  · have r := dg_49 h q
    simp only [tkA, tkD]
    rw [if_neg (by decide), if_neg (by decide), if_pos trivial, if_neg q, if_neg r]
theorem tk_d2 (h : 48 ≤ x ∧ x ≤ 57) : tkA x (4, l, st, we) = (true, 5, l, st, upd we l (10 * we l + x - 48)) := by
  simp [tkA, tkD, h]
theorem tkD_no (h : ¬ (48 ≤ x ∧ x ≤ 57)) (nx : Nat) (S : Rs) : tkD x nx S = (false, S) := if_neg h
theorem tk_e4 (h : ¬ (48 ≤ x ∧ x ≤ 57)) : tkA x (4, l, st, we) = tkE x (4, l, st, we) := by
  simp only [tkA]
  rw [if_neg (by decide), if_neg (by decide), if_neg (by decide), if_pos trivial, tkD_no h]
  rfl
theorem tk_e5 : tkA x (5, l, st, we) = tkE x (5, l, st, we) := by simp [tkA]
theorem tkE_y : tkE 93 (z, l, st, we) = (true, 6, l, st, we) := by simp [tkE]
theorem tkE_n (h : ¬ x = 93) : (tkE x (z, l, st, we)).1 = false := by simp [tkE, h]
/-! a character taken -/
variable {k m : Nat}
def tkn (tx : Fn) (k : Nat) : Prop := ∀ j, j < k → (tkA (tx j) (rdS tx j)).1 = true
theorem tk_go {S2 : Rs} (hT : tkn tx k) (h : tkA (tx k) (rdS tx k) = (true, S2)) : tkn tx (k + 1) ∧ rdS tx (k + 1) = S2 := by
  refine ⟨lt_s hT (by rw [h]), ?_⟩
  show (tkA (tx k) (rdS tx k)).2 = S2
  rw [h]
theorem tk_end (hT : tkn tx k) (hk : k ≤ ln) (h : k < ln → (tkA (tx k) (rdS tx k)).1 = false) : rdK tx ln k := ⟨hk, hT, h⟩
theorem pSy {lo hi : Int32} (h : k < ln) (h2 : lo ≤ tx k ∧ tx k ≤ hi) : pS tx ln lo hi (k, false) = (k + 1, false) := by
  refine pS_f (fun q => q.elim (fun r => absurd r (by decide)) (fun r => r ?_))
  rw [pC_in h]
  exact h2
theorem pSn {lo hi : Int32} (hlo : 1 ≤ lo) (h : ¬ (k < ln ∧ lo ≤ tx k ∧ tx k ≤ hi)) : pS tx ln lo hi (k, false) = (k, true) := by
  refine pS_t (Or.inr fun q => ?_)
  rcases Nat.lt_or_ge k ln with r | r
  · rw [pC_in r] at q
    exact h ⟨r, q⟩
  · rw [show pC tx ln k = 0 from (pC_f r).symm] at q
    exact absurd (Int32.le_trans hlo q.1) (by decide)
theorem pSw {lo hi : Int32} : pS tx ln lo hi (k, true) = (k, true) := pS_t (Or.inl rfl)
theorem pNy {lo hi : Int32} (h : k < ln) (h2 : lo ≤ tx k ∧ tx k ≤ hi) : pN tx ln lo hi (k, false) = true := decide_eq_true ⟨rfl, h, h2⟩
theorem pNn {lo hi : Int32} (h : ¬ (k < ln ∧ lo ≤ tx k ∧ tx k ≤ hi)) : pN tx ln lo hi (k, false) = false := decide_eq_false (fun q => h q.2)
theorem pNw {lo hi : Int32} : pN tx ln lo hi (k, true) = false := decide_eq_false (fun q => absurd (show true = false from q.1) (by decide))
/-- how a reading ends: at an error, or behind what is whole -/
def pX (tx : Fn) (ln : Nat) (l : Nat) (st we : Fn) (w : Int32) (P : Nat × Bool) : Prop :=
  P.1 ≤ ln ∧ ((P.2 = true ∧ rdK tx ln P.1 ∧ (P.1 = ln → ¬ cmpl (rdS tx ln).1)) ∨
    (P.2 = false ∧ tkn tx P.1 ∧ (∃ z3 we3, rdS tx P.1 = (z3, l, st, we3) ∧ cmpl z3 ∧ we3 l = w ∧ ∀ j, j ≠ l → we3 j = we j) ∧ (P.1 < ln → tkA (tx P.1) (rdS tx P.1) = tkL (tx P.1) (rdS tx P.1))))
theorem pX_err {w : Int32} {S : Rs} (hT : tkn tx m) (hm : m ≤ ln) (hS : rdS tx m = S) (h : m < ln → (tkA (tx m) S).1 = false) (hz : ¬ cmpl S.1) : pX tx ln l st we w (m, true) := by
  refine ⟨hm, Or.inl ⟨rfl, tk_end hT hm (fun q => by rw [hS]; exact h q), fun q => ?_⟩⟩
  have q : m = ln := q
  rw [← q, hS]
  exact hz
theorem upd_o {f : Fn} {v : Int32} (j : Nat) (h : j ≠ l) : upd f l v j = f j := pk_un h
/-- the end of a bracket -/
theorem pX_close {w : Int32} {we4 : Fn} (hT : tkn tx m) (hm : m ≤ ln) (hS : rdS tx m = (z, l, st, we4)) (hz : ¬ cmpl z) (hA : m < ln → tkA (tx m) (z, l, st, we4) = tkE (tx m) (z, l, st, we4)) (hw : we4 l = w) (ho : ∀ j, j ≠ l → we4 j = we j) : pX tx ln l st we w (pS tx ln 93 93 (m, false)) := by
  by_cases h : m < ln ∧ 93 ≤ tx m ∧ tx m ≤ 93
  · have e := (i32_one 93 (tx m)).mp h.2
    rw [pSy h.1 h.2]
    obtain ⟨h1, h2⟩ := tk_go (S2 := (6, l, st, we4)) hT (by rw [hS, hA h.1, e]; exact tkE_y)
    exact ⟨h.1, Or.inr ⟨rfl, h1, ⟨6, we4, h2, Or.inr (Or.inr rfl), hw, ho⟩, fun _ => by show tkA (tx (m + 1)) (rdS tx (m + 1)) = _; rw [h2]; exact tk_link (Or.inr rfl)⟩⟩
  · rw [pSn (by decide) h]
    refine pX_err hT hm hS (fun q => ?_) hz
    rw [hA q]
    exact tkE_n (fun r => h ⟨q, (i32_one 93 (tx m)).mpr r⟩)
theorem pB_ok (hT : tkn tx m) (hm : m ≤ ln) (hS : rdS tx m = (z, l, st, we)) (hz : z = 1 ∨ z = 2) (hw : we l = 0) (h2 : z = 1 → m < ln → ¬ tx m = 50) : pX tx ln l st we (wB tx ln (m, false)) (pB tx ln (m, false)) ∧ m ≤ (pB tx ln (m, false)).1 := by
  by_cases hb : m < ln ∧ 91 ≤ tx m ∧ tx m ≤ 91
  · have e91 := (i32_one 91 (tx m)).mp hb.2
    have hn := pNy (tx := tx) hb.1 hb.2
    have eB : pB tx ln (m, false) = pS tx ln 93 93 (p6 tx ln (m, false)) := if_pos hn
    have eW : wB tx ln (m, false) = w6 tx ln (m, false) := if_pos hn
    have e4 := pSy (tx := tx) hb.1 hb.2
    obtain ⟨hT3, hS3⟩ := tk_go (S2 := (3, l, st, we)) hT (by rw [hS, e91]; exact tk_brk hz)
    by_cases hd : m + 1 < ln ∧ 49 ≤ tx (m + 1) ∧ tx (m + 1) ≤ 57
    · have e5 : p5 tx ln (m, false) = (m + 1 + 1, false) := by
        unfold p5
        rw [e4]
        exact pSy hd.1 hd.2
      have f5 : w5 tx ln (m, false) = tx (m + 1) - 48 := by
        unfold w5
        rw [e4, pC_in hd.1]
      obtain ⟨hT4, hS4⟩ := tk_go hT3 (by rw [hS3]; exact tk_d1 hd.2)
      have w4 : upd we l (10 * we l + tx (m + 1) - 48) l = tx (m + 1) - 48 := by
        rw [upd_e rfl, hw]
        show 0 + tx (m + 1) - 48 = _
        rw [Int32.zero_add]
      by_cases hd2 : m + 1 + 1 < ln ∧ 48 ≤ tx (m + 1 + 1) ∧ tx (m + 1 + 1) ≤ 57
      · have hn2 : pN tx ln 48 57 (p5 tx ln (m, false)) = true := by rw [e5]; exact pNy hd2.1 hd2.2
        have e6 : p6 tx ln (m, false) = (m + 1 + 1 + 1, false) := by
          unfold p6
          rw [if_pos hn2, e5]
          exact pSy hd2.1 hd2.2
        have f6 : w6 tx ln (m, false) = 10 * (tx (m + 1) - 48) + tx (m + 1 + 1) - 48 := by
          unfold w6
          rw [if_pos hn2, f5, e5, pC_in hd2.1]
        obtain ⟨hT5, hS5⟩ := tk_go hT4 (by rw [hS4]; exact tk_d2 hd2.2)
        rw [eB, eW, e6, f6]
        refine ⟨pX_close hT5 (by have := hd2.1; omega) hS5 (by decide) (fun _ => tk_e5) ?_ ?_, ?_⟩
        · rw [upd_e rfl, w4]
        · intro j hj
          rw [upd_o j hj, upd_o j hj]
        · rcases pS_cases (tx := tx) (ln := ln) 93 93 (m + 1 + 1 + 1) false with q | q <;> rw [q] <;> show m ≤ _ <;> simp only <;> omega
      · have hn2 : ¬ pN tx ln 48 57 (p5 tx ln (m, false)) = true := by rw [e5, pNn hd2]; decide
        have e6 : p6 tx ln (m, false) = (m + 1 + 1, false) := by
          unfold p6
          rw [if_neg hn2, e5]
        have f6 : w6 tx ln (m, false) = tx (m + 1) - 48 := by
          unfold w6
          rw [if_neg hn2, f5]
        rw [eB, eW, e6, f6]
        refine ⟨pX_close hT4 (by have := hd.1; omega) hS4 (by decide) (fun q => tk_e4 (fun r => hd2 ⟨q, r⟩)) w4 (fun j hj => upd_o j hj), ?_⟩
        rcases pS_cases (tx := tx) (ln := ln) 93 93 (m + 1 + 1) false with q | q <;> rw [q] <;> show m ≤ _ <;> simp only <;> omega
    · have e5 : p5 tx ln (m, false) = (m + 1, true) := by
        unfold p5
        rw [e4]
        exact pSn (by decide) hd
      have e6 : p6 tx ln (m, false) = (m + 1, true) := by
        unfold p6
        rw [e5, if_neg (by rw [pNw]; decide)]
      rw [eB, e6, pSw]
      exact ⟨pX_err hT3 hb.1 hS3 (fun q => tk_d1n (fun r => hd ⟨q, r⟩)) (by decide : ¬ cmpl 3), Nat.le_succ m⟩
  · have hn := pNn (tx := tx) hb
    have eB : pB tx ln (m, false) = (m, false) := if_neg (by rw [hn]; decide)
    have eW : wB tx ln (m, false) = 0 := if_neg (by rw [hn]; decide)
    rw [eB, eW]
    refine ⟨⟨hm, Or.inr ⟨rfl, hT, ⟨z, we, hS, hz.elim Or.inl (fun q => Or.inr (Or.inl q)), hw, fun _ _ => rfl⟩, fun q => ?_⟩⟩, Nat.le_refl m⟩
    have q : m < ln := q
    show tkA (tx m) (rdS tx m) = tkL (tx m) (rdS tx m)
    rw [hS]
    exact tk_next hz (fun r => h2 r q) (fun r => hb ⟨q, (i32_one 91 (tx m)).mpr r⟩)
/-- the state behind i whole links -/
def pR (tx : Fn) (ln k i : Nat) : Prop := k ≤ ln ∧ tkn tx k ∧ (rdS tx k).2.1 = i ∧ (∀ j, i < j → (rdS tx k).2.2.2 j = 0) ∧ (k < ln → tkA (tx k) (rdS tx k) = tkL (tx k) (rdS tx k)) ∧ (k = 0 ∨ cmpl (rdS tx k).1)
def shS (s st we : Fn) (i : Nat) : Fn := fun p => if 5 ≤ p ∧ p < 5 + i then st (p - 5) else if 26 ≤ p ∧ p < 26 + i then we (p - 25) else if (47 ≤ p ∧ p < 47 + i) ∨ (68 ≤ p ∧ p < 68 + i) then 0 else s p
def pSame (tx : Fn) (k m i : Nat) (x w : Int32) : Prop := (rdS tx m).2.2.1 i = x ∧ (∀ j, j < i → (rdS tx m).2.2.1 j = (rdS tx k).2.2.1 j) ∧ (rdS tx m).2.2.2 (i + 1) = w ∧ ∀ j, j ≤ i → (rdS tx m).2.2.2 j = (rdS tx k).2.2.2 j
theorem stp_61 {x : Int32} (h : x = 61 ∨ x = 94 ∨ x = 118) : (stp x = 0 ↔ x = 61) := by
  rcases h with rfl | rfl | rfl <;> decide
theorem pFin {i : Nat} {st2 : Fn} {P : Nat × Bool} {x w : Int32} (hS : rdS tx k = (z, i, st, we)) (hX : pX tx ln (i + 1) st2 we w P) (hm : k < P.1) (hi : i < 20) (hw : ∀ j, i < j → we j = 0) (h1 : st2 i = x) (h2 : ∀ j, j < i → st2 j = st j) : P.1 ≤ ln ∧
    ((P.2 = true ∧ k ≤ P.1 ∧ rdK tx ln P.1 ∧ (P.1 = ln → ¬ cmpl (rdS tx ln).1)) ∨ (P.2 = false ∧ k < P.1 ∧ i < 20 ∧ pR tx ln P.1 (i + 1) ∧ pSame tx k P.1 i x w)) := by
  obtain ⟨hle, h⟩ := hX
  refine ⟨hle, ?_⟩
  rcases h with ⟨a, b, c⟩ | ⟨a, b, ⟨z3, we3, e, f, g, h⟩, n⟩
  · exact Or.inl ⟨a, by omega, b, c⟩
  · refine Or.inr ⟨a, hm, hi, ⟨hle, b, by rw [e], fun j hj => ?_, n, Or.inr (by rw [e]; exact f)⟩, ?_⟩
    · rw [e]
      show we3 j = 0
      rw [h j (by omega)]
      exact hw j (by omega)
    · unfold pSame
      rw [e, hS]
      exact ⟨h1, h2, g, fun j hj => h j (by omega)⟩
theorem pStep {i : Nat} (hR : pR tx ln k i) (h0 : k = 0 ∨ k < ln) : (pE tx ln i k).1 ≤ ln ∧
    (((pE tx ln i k).2 = true ∧ k ≤ (pE tx ln i k).1 ∧ rdK tx ln (pE tx ln i k).1 ∧ ((pE tx ln i k).1 = ln → ¬ cmpl (rdS tx ln).1)) ∨
     ((pE tx ln i k).2 = false ∧ k < (pE tx ln i k).1 ∧ i < 20 ∧ pR tx ln (pE tx ln i k).1 (i + 1) ∧ pSame tx k (pE tx ln i k).1 i (pSt tx ln i k) (pW tx ln i k))) := by
  obtain ⟨hk, hT, hl, hw, hN, hc⟩ := hR
  by_cases hq : ¬ (k < ln ∧ ¬ i = 20 ∧ (tx k = 61 ∨ tx k = 94 ∨ tx k = 118))
  · have e1 : p1 tx ln i k = (k, true) := by
      refine p1_t ?_
      by_cases hi : i = 20
      · exact Or.inl hi
      · refine Or.inr (fun r => ?_)
        rcases Nat.lt_or_ge k ln with q | q
        · rw [pC_in q] at r
          exact hq ⟨q, hi, r⟩
        · rw [show pC tx ln k = 0 from (pC_f q).symm] at r
          exact absurd r (by decide)
    have e2 : p2 tx ln i k = false := by
      unfold p2
      rw [e1, pNw]
      exact decide_eq_false (fun r => absurd r.2 (by decide))
    have e3 : p3 tx ln i k = (k, true) := by
      unfold p3
      rw [e2, if_neg (by decide), e1]
    have eE : pE tx ln i k = (k, true) := by
      unfold pE pB
      rw [e3, pNw, if_neg (by decide)]
    rw [eE]
    refine ⟨hk, Or.inl ⟨rfl, Nat.le_refl k, tk_end hT hk (fun q => ?_), fun q => ?_⟩⟩
    · have q : k < ln := q
      show (tkA (tx k) (rdS tx k)).1 = false
      rw [hN q]
      unfold tkL
      by_cases hi : 20 ≤ (rdS tx k).2.1
      · rw [if_pos hi]
      · rw [if_neg hi, if_neg (fun r => hq ⟨q, by omega, r⟩)]
    · have q : k = ln := q
      rcases h0 with r | r
      · rw [← q, r]
        exact fun y => by
          have y : cmpl 0 := y
          exact absurd y (by decide)
      · omega
  · have hq := Classical.not_not.mp hq
    obtain ⟨hkl, hi20, hch⟩ := hq
    have hl20 : (rdS tx k).2.1 ≤ 20 := (rdS_v tx k).1
    have hi : i < 20 := by omega
    have hpc : pC tx ln k = tx k := pC_in hkl
    have e1 : p1 tx ln i k = (k + 1, false) := p1_f (fun r => r.elim (fun q => hi20 q) (fun q => q (by rw [hpc]; exact hch)))
    obtain ⟨z, st, we, hS⟩ : ∃ z st we, rdS tx k = (z, i, st, we) := ⟨(rdS tx k).1, (rdS tx k).2.2.1, (rdS tx k).2.2.2, by rw [← hl]⟩
    have hw : ∀ j, i < j → we j = 0 := fun j hj => by
      have q := hw j hj
      rw [hS] at q
      exact q
    obtain ⟨hT1, hS1⟩ := tk_go (S2 := ((if stp (tx k) = 0 then 2 else 1), i + 1, upd st i (stp (tx k)), we)) hT (by
      rw [hN hkl, hS]
      unfold tkL
      rw [if_neg (show ¬ 20 ≤ i by omega), if_pos hch])
    by_cases h2 : ¬ tx k = 61 ∧ (k + 1 < ln ∧ 50 ≤ tx (k + 1) ∧ tx (k + 1) ≤ 50)
    · have e2 : p2 tx ln i k = true := by
        unfold p2
        rw [e1, pNy h2.2.1 h2.2.2, hpc]
        exact decide_eq_true ⟨h2.1, rfl⟩
      have e3 : p3 tx ln i k = (k + 1 + 1, false) := by
        unfold p3
        rw [if_pos e2, e1]
        exact pSy h2.2.1 h2.2.2
      have e50 := (i32_one 50 (tx (k + 1))).mp h2.2.2
      rw [if_neg (fun r => h2.1 ((stp_61 hch).mp r))] at hS1
      obtain ⟨hT2, hS2⟩ := tk_go hT1 (by rw [hS1, e50]; exact tk_two)
      obtain ⟨hX, hle⟩ := pB_ok hT2 (show k + 1 + 1 ≤ ln from h2.2.1) hS2 (Or.inr rfl) (hw (i + 1) (Nat.lt_succ_self i)) (fun r => absurd r (by decide))
      unfold pE pW
      rw [e3]
      refine pFin hS hX (by omega) hi hw ?_ (fun j hj => ?_)
      · rw [Nat.add_sub_cancel, upd_e rfl, upd_e rfl]
        unfold pSt pSp
        rw [hpc, if_neg h2.1, e2, if_pos rfl]
        rcases hch with q | q | q
        · exact absurd q h2.1
        · rw [q]; rfl
        · rw [q]; rfl
      · rw [Nat.add_sub_cancel, pk_un (by omega), pk_un (by omega)]
    · have e2 : p2 tx ln i k = false := by
        unfold p2
        rw [e1, hpc]
        refine decide_eq_false (fun q => h2 ⟨q.1, ?_⟩)
        by_cases r : k + 1 < ln ∧ 50 ≤ tx (k + 1) ∧ tx (k + 1) ≤ 50
        · exact r
        · have q := q.2
          rw [pNn r] at q
          exact absurd q (by decide)
      have e3 : p3 tx ln i k = (k + 1, false) := by
        unfold p3
        rw [e2, if_neg (by decide), e1]
      obtain ⟨hX, hle⟩ := pB_ok hT1 (show k + 1 ≤ ln from hkl) hS1 (by split; exact Or.inr rfl; exact Or.inl rfl) (hw (i + 1) (Nat.lt_succ_self i)) (fun r q y => by
        refine h2 ⟨fun x => ?_, q, (i32_one 50 _).mpr y⟩
        rw [if_pos ((stp_61 hch).mpr x)] at r
        exact absurd r (by decide))
      unfold pE pW
      rw [e3]
      refine pFin hS hX (by omega) hi hw ?_ (fun j hj => ?_)
      · rw [upd_e rfl]
        unfold pSt pSp
        rw [hpc, e2]
        rcases hch with q | q | q
        · rw [q]; rfl
        · rw [q]; rfl
        · rw [q]; rfl
      · rw [pk_un (by omega)]
/-! many links -/
theorem rdK_u {a b : Nat} (ha : rdK tx ln a) (hb : rdK tx ln b) : a = b := by
  obtain ⟨a1, a2, a3⟩ := ha
  obtain ⟨b1, b2, b3⟩ := hb
  rcases Nat.lt_trichotomy a b with q | q | q
  · have x := b2 a q
    rw [a3 (by omega)] at x
    exact absurd x (by decide)
  · exact q
  · have x := a2 b q
    rw [b3 (by omega)] at x
    exact absurd x (by decide)
def pG (tx : Fn) (ln : Nat) : Prop := rdK tx ln ln ∧ cmpl (rdS tx ln).1
theorem pG_no {a : Nat} (hG : pG tx ln) (ha : rdK tx ln a) (h : a = ln → ¬ cmpl (rdS tx ln).1) : False := h (rdK_u ha hG.1) hG.2
def pI (tx : Fn) (ln k i : Nat) (mo w : Bool) : Prop := (mo = true ∧ w = false ∧ pR tx ln k i ∧ (k = 0 ∨ k < ln)) ∨ (mo = false ∧ w = true ∧ rdK tx ln k ∧ (k = ln → ¬ cmpl (rdS tx ln).1)) ∨ (mo = false ∧ w = false ∧ k = ln ∧ pR tx ln ln i ∧ cmpl (rdS tx ln).1)
theorem pI_0 : pI tx ln 0 0 true false := Or.inl ⟨rfl, rfl, ⟨Nat.zero_le _, fun j hj => absurd hj (Nat.not_lt_zero j), rfl, fun _ _ => rfl, fun _ => tk_link (Or.inl rfl), Or.inl rfl⟩, Or.inl rfl⟩
theorem pI_t {i : Nat} {mo w : Bool} (h : pI tx ln k i mo w) (c : mo = true) : mo = true ∧ w = false ∧ pR tx ln k i ∧ (k = 0 ∨ k < ln) := by
  subst c
  rcases h with h | h | h
  · exact h
  · exact absurd h.1 (by decide)
  · exact absurd h.1 (by decide)
theorem pI_w {i : Nat} (hR : pR tx ln k i) (h0 : k = 0 ∨ k < ln) (c : ¬ bI (pE tx ln i k).2 = 0) : pI tx ln (pE tx ln i k).1 (i + 1) false (pE tx ln i k).2 := by
  rcases (pStep hR h0).2 with h | h
  · exact Or.inr (Or.inl ⟨rfl, h.1, h.2.2.1, h.2.2.2⟩)
  · rw [h.1] at c
    exact absurd rfl c
theorem pI_e {i : Nat} (hR : pR tx ln k i) (h0 : k = 0 ∨ k < ln) (c : bI (pE tx ln i k).2 = 0) (q : ln ≤ (pE tx ln i k).1) : pI tx ln (pE tx ln i k).1 (i + 1) false (pE tx ln i k).2 := by
  have hle := (pStep hR h0).1
  have e : (pE tx ln i k).1 = ln := by omega
  rcases (pStep hR h0).2 with h | h
  · rw [h.1] at c
    exact absurd c (by decide)
  · have h4 := h.2.2.2.1
    rw [e] at h4
    refine Or.inr (Or.inr ⟨rfl, h.1, e, h4, ?_⟩)
    rcases h4.2.2.2.2.2 with r | r
    · have := h.2.1
      omega
    · exact r
theorem pI_m {i : Nat} (hR : pR tx ln k i) (h0 : k = 0 ∨ k < ln) (c : bI (pE tx ln i k).2 = 0) (q : (pE tx ln i k).1 < ln) : pI tx ln (pE tx ln i k).1 (i + 1) true (pE tx ln i k).2 := by
  rcases (pStep hR h0).2 with h | h
  · rw [h.1] at c
    exact absurd c (by decide)
  · exact Or.inl ⟨rfl, h.1, h.2.2.2.1, Or.inr q⟩
theorem pM {i : Nat} (hR : pR tx ln k i) (h0 : k = 0 ∨ k < ln) {mo : Bool} (h : pI tx ln (pE tx ln i k).1 (i + 1) mo (pE tx ln i k).2) : 2 * (ln + 1 - (pE tx ln i k).1) + mo.toNat < 2 * (ln + 1 - k) + Bool.toNat true := by
  have e1 : Bool.toNat true = 1 := rfl
  have hle := (pStep hR h0).1
  have hk := hR.1
  rcases (pStep hR h0).2 with q | q
  · have e : mo = false := by
      rcases h with h | h | h
      · rw [q.1] at h
        exact absurd h.2.1 (by decide)
      · exact h.1
      · exact h.1
    subst e
    have e0 : Bool.toNat false = 0 := rfl
    have := q.2.1
    omega
  · have := q.2.1
    have hm : mo.toNat ≤ 1 := by cases mo <;> decide
    omega
theorem go20 {i : Nat} (hR : pR tx ln k i) (h0 : k = 0 ∨ k < ln) {d : Bool} (hd : d = true → pG tx ln) : d = true → i < 20 := by
  intro q
  rcases (pStep hR h0).2 with h | h
  · exact (pG_no (hd q) h.2.2.1 h.2.2.2).elim
  · exact h.2.2.1
theorem pR_20 {i : Nat} (hR : pR tx ln k i) (_ : k = 0 ∨ k < ln) : i ≤ 20 := by
  have h := (rdS_v tx k).1
  rw [hR.2.2.1] at h
  exact h
theorem shS_step {s st we st2 we2 : Fn} {i : Nat} {x w : Int32} (h1 : st2 i = x) (h2 : ∀ j, j < i → st2 j = st j) (h3 : we2 (i + 1) = w) (h4 : ∀ j, j ≤ i → we2 j = we j) (hi : i < 20) : rlS (shS s st we i) i x w = shS s st2 we2 (i + 1) := by
  funext p
  unfold rlS noM upd shS
  repeat' split
  all_goals first
    | rfl
    | (exfalso; omega)
    | (rw [show p - 25 = i + 1 by omega]; exact h3.symm)
    | (rw [show p - 5 = i by omega]; exact h1.symm)
    | exact (h2 _ (by omega)).symm
    | exact (h4 _ (by omega)).symm
def shD (d : Bool) (s tx : Fn) (k i : Nat) : Fn := if d = true then shS s (rdS tx k).2.2.1 (rdS tx k).2.2.2 i else s
theorem shS_0 (s st we : Fn) : shS s st we 0 = s := by
  funext p
  unfold shS
  rw [if_neg (by omega), if_neg (by omega), if_neg (by omega)]
theorem shD_0 (d : Bool) (s tx : Fn) : s = shD d s tx 0 0 := by
  unfold shD
  cases d
  · rfl
  · rw [if_pos rfl, shS_0]
theorem goS {i : Nat} {d : Bool} {s : Fn} (hd : d = true → pG tx ln) (hR : pR tx ln k i) (h0 : k = 0 ∨ k < ln) : (if d = true then rlS (shD d s tx k i) i (pSt tx ln i k) (pW tx ln i k) else shD d s tx k i) = shD d s tx (pE tx ln i k).1 (i + 1) := by
  cases d with
  | false => rfl
  | true =>
    rcases (pStep hR h0).2 with h | h
    · exact (pG_no (hd rfl) h.2.2.1 h.2.2.2).elim
    · obtain ⟨_, _, hi, _, g1, g2, g3, g4⟩ := h
      exact shS_step g1 g2 g3 g4 hi
theorem goE {i : Nat} {d mo w : Bool} {s : Fn} (hd : d = true → pG tx ln) (h : pI tx ln k i mo w) (c : mo = false) : shD d s tx k i = shD d s tx ln (rdS tx ln).2.1 := by
  cases d with
  | false => rfl
  | true =>
    rcases h with h | h | h
    · rw [c] at h
      exact absurd h.1 (by decide)
    · exact (pG_no (hd rfl) h.2.2.1 h.2.2.2).elim
    · obtain ⟨_, _, e, h4, _⟩ := h
      rw [e, h4.2.2.1]
/-- what a reading has come to -/
def pO (tx : Fn) (ln k : Nat) (w : Bool) (r : Int32) : Prop := (w = true ∧ rdK tx ln k ∧ (k = ln → ¬ cmpl (rdS tx ln).1)) ∨ (w = false ∧ k = ln ∧ pG tx ln ∧ r = nI (rdS tx ln).2.1)
theorem pO_of {i : Nat} {mo w : Bool} (h : pI tx ln k i mo w) (c : mo = false) : pO tx ln k w (nI i) := by
  rcases h with h | h | h
  · rw [c] at h
    exact absurd h.1 (by decide)
  · exact Or.inl h.2
  · obtain ⟨_, e1, e, h4, h5⟩ := h
    exact Or.inr ⟨e1, e, ⟨tk_end h4.2.1 (Nat.le_refl _) (fun q => absurd q (Nat.lt_irrefl _)), h5⟩, by rw [h4.2.2.1]⟩
theorem pO_t {w : Bool} {r : Int32} (h : pO tx ln k w r) (c : ¬ bI w = 0) : rdK tx ln k := by
  rcases h with h | h
  · exact h.2.1
  · rw [h.1] at c
    exact absurd rfl c
theorem pO_f {w : Bool} {r : Int32} (h : pO tx ln k w r) (c : bI w = 0) : pG tx ln := by
  rcases h with h | h
  · rw [h.1] at c
    exact absurd c (by decide)
  · exact h.2.2.1
theorem pO_g {w : Bool} {r : Int32} (h : pO tx ln k w r) (hG : pG tx ln) : w = false ∧ r = nI (rdS tx ln).2.1 := by
  rcases h with h | h
  · exact (pG_no hG h.2.1 h.2.2).elim
  · exact ⟨h.1, h.2.2.2⟩
/-- the chain that a shape makes -/
def mShp (s tx : Fn) (ln : Nat) : Fn := upd (shS (noM s 0) (rdS tx ln).2.2.1 (rdS tx ln).2.2.2 (rdS tx ln).2.1) 0 (nI (rdS tx ln).2.1)
end PQ
set_option maxHeartbeats 4000000 in
set_option maxRecDepth 100000 in
theorem c_X6_go (l : Launch) (G : kG) (m0 : Nat) (ms : Nat) (mv : Nat) (mt : Nat) (mh : Nat) (mb : Nat) (mg : Nat) (mq : Nat) (ml : Nat) (mf : Nat) (th : Nat) (s0 : Fn) (sv : Fn) (sm : Nat) (tx : Fn) (ln : Nat) (ht : Fn) (bu : Fn) (hg : Fn) (pq : Fn) (ld : Fn) (fo : Fn) (nw : Int32) (fw : Int32) (tp : Nat) (wr : Bool) (dg : Int64) (d : Bool) (sz : Nat) (hln : ln ≤ 60) (hd : d = true → pG tx ln) : kMet l yX6_go wsX6_go ({ frames := 3, cells := 0, slots := 0, locals := 74 } : Room) G [.ref m0, .int (bI d)] [(m0, .inr (6, [.int (nI (th)), .ref ms, .ref mv, .int (nI (sm)), .ref mt, .int (nI (ln)), .ref mh, .ref mb, .ref mg, .ref mq, .ref ml, .ref mf, .int nw, .int fw, .int (nI (tp)), .int (bI (wr)), .long dg])), (ms, .inl (G.2.1, 88, .inl s0)), (mv, .inl (G.2.1, 528, .inl sv)), (mt, .inl (G.2.1, 60, .inl tx)), (mh, .inl (G.2.1, 21, .inl ht)), (mb, .inl (G.2.1, 21, .inl bu)), (mg, .inl (G.2.1, 21, .inl hg)), (mq, .inl (G.2.1, 21, .inl pq)), (ml, .inl (G.2.1, 21, .inl ld)), (mf, .inl (G.2.1, 20, .inl fo))] sz (kQi G (fun (r : Int32) (u : Nat × Bool) => pO tx ln u.1 u.2 r) (fun (u : Nat × Bool) => [(m0, .inr (6, [.int (nI (th)), .ref ms, .ref mv, .int (nI (sm)), .ref mt, .int (nI (ln)), .ref mh, .ref mb, .ref mg, .ref mq, .ref ml, .ref mf, .int nw, .int fw, .int (nI (u.1)), .int (bI (u.2)), .long dg])), (ms, .inl (G.2.1, 88, .inl (shD d s0 tx ln (rdS tx ln).2.1))), (mv, .inl (G.2.1, 528, .inl sv)), (mt, .inl (G.2.1, 60, .inl tx)), (mh, .inl (G.2.1, 21, .inl ht)), (mb, .inl (G.2.1, 21, .inl bu)), (mg, .inl (G.2.1, 21, .inl hg)), (mq, .inl (G.2.1, 21, .inl pq)), (ml, .inl (G.2.1, 21, .inl ld)), (mf, .inl (G.2.1, 20, .inl fo))])) 0 0 := by
  refine k_entry (cc := cX6_go) (maxL := 4) (ret := (some .int)) (by decide) rfl (Nat.le_of_ble_eq_true rfl) ?_
  intro p e s m args below meth c A ls H locs Q hQ hx hb hml hr hts hown hlocks hin hA hP hK hD hS hl
  have hown : s.vm.findClass RX6 = some m.cls := hown
  have hl : lv_has ls 4 [(0, .ref m0), (1, .int (bI d))] := hl
  have hf99 := hts (.fieldLink RX6 99 "HangingChainModel" "at" "I") (by decide +kernel)
  have hinX6 : ∀ w ∈ wsX60, w ∈ wsX6_go := by decide +kernel
  have hf102 := hts (.fieldLink RX6 102 "HangingChainModel" "isWrong" "Z") (by decide +kernel)
  have hf96 := hts (.fieldLink RX6 96 "HangingChainModel" "length" "I") (by decide +kernel)
  refine lv_aload_n hx hb dX6_go_0 rfl (lv_at hl 0 rfl) ?_
  refine lv_iconst (v := 0) hx hb dX6_go_1 (by decide) ?_
  refine va_put (D := G.1) (ci := 6) (v := .int 0) (ty := .int) (C := RX6) (T := TX6) (N := 17) hx hb hts hinX6 tyX6 tyX6_ok nmX6 hown hK hP hD hS 0 rfl rfl 14 (by decide) hf99 (fun _ h9 => h9) rfl (by decide +kernel) (rfl) (rfl) (Nat.le_of_ble_eq_true rfl) dX6_go_2 (fun H locs hP hD hS => ?_)
  have hP : va_P G.1 vwCl [(m0, .inr (6, [.int (nI (th)), .ref ms, .ref mv, .int (nI (sm)), .ref mt, .int (nI (ln)), .ref mh, .ref mb, .ref mg, .ref mq, .ref ml, .ref mf, .int nw, .int fw, .int 0, .int (bI (wr)), .long dg])), (ms, .inl (G.2.1, 88, .inl s0)), (mv, .inl (G.2.1, 528, .inl sv)), (mt, .inl (G.2.1, 60, .inl tx)), (mh, .inl (G.2.1, 21, .inl ht)), (mb, .inl (G.2.1, 21, .inl bu)), (mg, .inl (G.2.1, 21, .inl hg)), (mq, .inl (G.2.1, 21, .inl pq)), (ml, .inl (G.2.1, 21, .inl ld)), (mf, .inl (G.2.1, 20, .inl fo))] H := hP
  have hD : va_D A [(m0, .inr (6, [.int (nI (th)), .ref ms, .ref mv, .int (nI (sm)), .ref mt, .int (nI (ln)), .ref mh, .ref mb, .ref mg, .ref mq, .ref ml, .ref mf, .int nw, .int fw, .int 0, .int (bI (wr)), .long dg])), (ms, .inl (G.2.1, 88, .inl s0)), (mv, .inl (G.2.1, 528, .inl sv)), (mt, .inl (G.2.1, 60, .inl tx)), (mh, .inl (G.2.1, 21, .inl ht)), (mb, .inl (G.2.1, 21, .inl bu)), (mg, .inl (G.2.1, 21, .inl hg)), (mq, .inl (G.2.1, 21, .inl pq)), (ml, .inl (G.2.1, 21, .inl ld)), (mf, .inl (G.2.1, 20, .inl fo))] := hD
  refine lv_aload_n hx hb dX6_go_5 rfl (lv_at hl 0 rfl) ?_
  refine lv_iconst (v := 0) hx hb dX6_go_6 (by decide) ?_
  refine va_put (D := G.1) (ci := 6) (v := .int 0) (ty := .boolean) (C := RX6) (T := TX6) (N := 17) hx hb hts hinX6 tyX6 tyX6_ok nmX6 hown hK hP hD hS 0 rfl rfl 15 (by decide) hf102 (fun _ h9 => h9) rfl (by decide +kernel) (rfl) (rfl) (Nat.le_of_ble_eq_true rfl) dX6_go_7 (fun H locs hP hD hS => ?_)
  have hP : va_P G.1 vwCl [(m0, .inr (6, [.int (nI (th)), .ref ms, .ref mv, .int (nI (sm)), .ref mt, .int (nI (ln)), .ref mh, .ref mb, .ref mg, .ref mq, .ref ml, .ref mf, .int nw, .int fw, .int 0, .int 0, .long dg])), (ms, .inl (G.2.1, 88, .inl s0)), (mv, .inl (G.2.1, 528, .inl sv)), (mt, .inl (G.2.1, 60, .inl tx)), (mh, .inl (G.2.1, 21, .inl ht)), (mb, .inl (G.2.1, 21, .inl bu)), (mg, .inl (G.2.1, 21, .inl hg)), (mq, .inl (G.2.1, 21, .inl pq)), (ml, .inl (G.2.1, 21, .inl ld)), (mf, .inl (G.2.1, 20, .inl fo))] H := hP
  have hD : va_D A [(m0, .inr (6, [.int (nI (th)), .ref ms, .ref mv, .int (nI (sm)), .ref mt, .int (nI (ln)), .ref mh, .ref mb, .ref mg, .ref mq, .ref ml, .ref mf, .int nw, .int fw, .int 0, .int 0, .long dg])), (ms, .inl (G.2.1, 88, .inl s0)), (mv, .inl (G.2.1, 528, .inl sv)), (mt, .inl (G.2.1, 60, .inl tx)), (mh, .inl (G.2.1, 21, .inl ht)), (mb, .inl (G.2.1, 21, .inl bu)), (mg, .inl (G.2.1, 21, .inl hg)), (mq, .inl (G.2.1, 21, .inl pq)), (ml, .inl (G.2.1, 21, .inl ld)), (mf, .inl (G.2.1, 20, .inl fo))] := hD
  refine lv_iconst (v := 0) hx hb dX6_go_10 (by decide) ?_
  refine lv_istore_n (lv' := [(2, .int 0), (0, .ref m0), (1, .int (bI d))]) hx hb dX6_go_11 rfl hl (by decide) rfl (fun ls hl => ?_)
  refine lv_iconst (v := 1) hx hb dX6_go_12 (by decide) ?_
  refine lv_istore_n (lv' := [(3, .int 1), (2, .int 0), (0, .ref m0), (1, .int (bI d))]) hx hb dX6_go_13 rfl hl (by decide) rfl (fun ls hl => ?_)
  have L14 : ∀ (n9 : Nat) (k : Nat) (i : Nat) (mo : Bool) (w : Bool), (pI tx ln k i mo w) → (2 * (ln + 1 - k) + Bool.toNat mo < n9) → ∀ (H : Heap) (locs : List Loc) (ls : Array Slot), va_P G.1 vwCl [(m0, .inr (6, [.int (nI (th)), .ref ms, .ref mv, .int (nI (sm)), .ref mt, .int (nI (ln)), .ref mh, .ref mb, .ref mg, .ref mq, .ref ml, .ref mf, .int nw, .int fw, .int (nI k), .int (bI w), .long dg])), (ms, .inl (G.2.1, 88, .inl (shD d s0 tx k i))), (mv, .inl (G.2.1, 528, .inl sv)), (mt, .inl (G.2.1, 60, .inl tx)), (mh, .inl (G.2.1, 21, .inl ht)), (mb, .inl (G.2.1, 21, .inl bu)), (mg, .inl (G.2.1, 21, .inl hg)), (mq, .inl (G.2.1, 21, .inl pq)), (ml, .inl (G.2.1, 21, .inl ld)), (mf, .inl (G.2.1, 20, .inl fo))] H → va_D A [(m0, .inr (6, [.int (nI (th)), .ref ms, .ref mv, .int (nI (sm)), .ref mt, .int (nI (ln)), .ref mh, .ref mb, .ref mg, .ref mq, .ref ml, .ref mf, .int nw, .int fw, .int (nI k), .int (bI w), .long dg])), (ms, .inl (G.2.1, 88, .inl (shD d s0 tx k i))), (mv, .inl (G.2.1, 528, .inl sv)), (mt, .inl (G.2.1, 60, .inl tx)), (mh, .inl (G.2.1, 21, .inl ht)), (mb, .inl (G.2.1, 21, .inl bu)), (mg, .inl (G.2.1, 21, .inl hg)), (mq, .inl (G.2.1, 21, .inl pq)), (ml, .inl (G.2.1, 21, .inl ld)), (mf, .inl (G.2.1, 20, .inl fo))] → va_S A s.heap H locs → lv_has ls 4 [(3, .int (bI mo)), (2, .int (nI i)), (0, .ref m0), (1, .int (bI d))] → W p l e ({ frames := 3, cells := 0, slots := 0, locals := 74 } : Room) s m args below meth c H locs 0 0 Q (F0 m 14 ls []) := by
    intro n9
    induction n9 with
    | zero =>
      intro k i mo w hI hm9 H locs ls hP hD hS hl
      exact absurd hm9 (Nat.not_lt_zero _)
    | succ n9 ih14 =>
      intro k i mo w hI hm9 H locs ls hP hD hS hl
      refine lv_iload_n hx hb dX6_go_14 rfl (lv_at hl 0 rfl) ?_
      refine lv_if_eq (tgt := 54) hx hb dX6_go_15 (by decide) (fun c_15 => ?_) (fun c_15 => ?_)
      · skip
        refine lv_iload_n hx hb dX6_go_54 rfl (lv_at hl 1 rfl) ?_
        have hfx_1 : (shD d s0 tx k i : Nat → Int32) = shD d s0 tx ln (rdS tx ln).2.1 := goE hd hI (bI_n c_15)
        have hP : va_P G.1 vwCl [(m0, .inr (6, [.int (nI (th)), .ref ms, .ref mv, .int (nI (sm)), .ref mt, .int (nI (ln)), .ref mh, .ref mb, .ref mg, .ref mq, .ref ml, .ref mf, .int nw, .int fw, .int (nI k), .int (bI w), .long dg])), (ms, .inl (G.2.1, 88, .inl (shD d s0 tx ln (rdS tx ln).2.1))), (mv, .inl (G.2.1, 528, .inl sv)), (mt, .inl (G.2.1, 60, .inl tx)), (mh, .inl (G.2.1, 21, .inl ht)), (mb, .inl (G.2.1, 21, .inl bu)), (mg, .inl (G.2.1, 21, .inl hg)), (mq, .inl (G.2.1, 21, .inl pq)), (ml, .inl (G.2.1, 21, .inl ld)), (mf, .inl (G.2.1, 20, .inl fo))] H := by rw [← hfx_1]; exact hP
        have hD : va_D A [(m0, .inr (6, [.int (nI (th)), .ref ms, .ref mv, .int (nI (sm)), .ref mt, .int (nI (ln)), .ref mh, .ref mb, .ref mg, .ref mq, .ref ml, .ref mf, .int nw, .int fw, .int (nI k), .int (bI w), .long dg])), (ms, .inl (G.2.1, 88, .inl (shD d s0 tx ln (rdS tx ln).2.1))), (mv, .inl (G.2.1, 528, .inl sv)), (mt, .inl (G.2.1, 60, .inl tx)), (mh, .inl (G.2.1, 21, .inl ht)), (mb, .inl (G.2.1, 21, .inl bu)), (mg, .inl (G.2.1, 21, .inl hg)), (mq, .inl (G.2.1, 21, .inl pq)), (ml, .inl (G.2.1, 21, .inl ld)), (mf, .inl (G.2.1, 20, .inl fo))] := by rw [← hfx_1]; exact hD
        rw [hQ]
        exact k_iret (v := nI i) (k, w) [0, 1, 2, 3, 4, 5, 6, 7, 8, 9] hx hb hr hlocks (pO_of hI (bI_n c_15)) hK hP hD hS rfl (by decide) dX6_go_55
      · skip
        obtain ⟨rfl, rfl, hR, h0⟩ := pI_t hI (bI_y c_15)
        have hk := hR.1
        refine lv_aload_n hx hb dX6_go_18 rfl (lv_at hl 2 rfl) ?_
        refine lv_iload_n hx hb dX6_go_19 rfl (lv_at hl 1 rfl) ?_
        refine lv_iload_n hx hb dX6_go_20 rfl (lv_at hl 3 rfl) ?_
        refine k_cv (wr := []) [] rfl (by decide) [0, 1, 2, 3, 4, 5, 6, 7, 8, 9] rfl (by decide) hP hD hS hA (k_V (n := 2) (ci := 6) (As := [.int (nI i), .int (bI d)]) (rest := []) (wc := [(m0, .inr (6, [.int (nI (th)), .ref ms, .ref mv, .int (nI (sm)), .ref mt, .int (nI (ln)), .ref mh, .ref mb, .ref mg, .ref mq, .ref ml, .ref mf, .int nw, .int fw, .int (nI (k)), .int (bI false), .long dg])), (ms, .inl (G.2.1, 88, .inl (shD d s0 tx k i))), (mv, .inl (G.2.1, 528, .inl sv)), (mt, .inl (G.2.1, 60, .inl tx)), (mh, .inl (G.2.1, 21, .inl ht)), (mb, .inl (G.2.1, 21, .inl bu)), (mg, .inl (G.2.1, 21, .inl hg)), (mq, .inl (G.2.1, 21, .inl pq)), (ml, .inl (G.2.1, 21, .inl ld)), (mf, .inl (G.2.1, 20, .inl fo))]) hx hb hml hown hts hK hP hD hl (c_X6_readLink l G m0 ms mv mt mh mb mg mq ml mf th (shD d s0 tx k i) sv sm tx ln ht bu hg pq ld fo nw fw k wr dg i d H.size (by first | assumption | omega) (hR.1) (pR_20 hR h0) (go20 hR h0 hd)) [0, 1, 2, 3, 4, 5, 6, 7, 8, 9] rfl (by decide) gX6_go_X6_readLink rfl rfl rfl (by decide +kernel) rfl ⟨Nat.le_of_ble_eq_true rfl, Nat.le_of_ble_eq_true rfl⟩ rfl rfl rfl (Nat.le_of_ble_eq_true rfl) dX6_go_21 ⟨Nat.le_of_ble_eq_true rfl, Nat.le_of_ble_eq_true rfl⟩) (fun u H locs hw hP hD hS => ?_)
        have hw_21 : True := hw
        have hP : va_P G.1 vwCl [(m0, .inr (6, [.int (nI (th)), .ref ms, .ref mv, .int (nI (sm)), .ref mt, .int (nI (ln)), .ref mh, .ref mb, .ref mg, .ref mq, .ref ml, .ref mf, .int nw, .int fw, .int (nI ((pE tx ln i k).1)), .int (bI ((pE tx ln i k).2)), .long dg])), (ms, .inl (G.2.1, 88, .inl (if d = true then rlS (shD d s0 tx k i) i (pSt tx ln i k) (pW tx ln i k) else (shD d s0 tx k i)))), (mv, .inl (G.2.1, 528, .inl sv)), (mt, .inl (G.2.1, 60, .inl tx)), (mh, .inl (G.2.1, 21, .inl ht)), (mb, .inl (G.2.1, 21, .inl bu)), (mg, .inl (G.2.1, 21, .inl hg)), (mq, .inl (G.2.1, 21, .inl pq)), (ml, .inl (G.2.1, 21, .inl ld)), (mf, .inl (G.2.1, 20, .inl fo))] H := hP
        have hD : va_D A [(m0, .inr (6, [.int (nI (th)), .ref ms, .ref mv, .int (nI (sm)), .ref mt, .int (nI (ln)), .ref mh, .ref mb, .ref mg, .ref mq, .ref ml, .ref mf, .int nw, .int fw, .int (nI ((pE tx ln i k).1)), .int (bI ((pE tx ln i k).2)), .long dg])), (ms, .inl (G.2.1, 88, .inl (if d = true then rlS (shD d s0 tx k i) i (pSt tx ln i k) (pW tx ln i k) else (shD d s0 tx k i)))), (mv, .inl (G.2.1, 528, .inl sv)), (mt, .inl (G.2.1, 60, .inl tx)), (mh, .inl (G.2.1, 21, .inl ht)), (mb, .inl (G.2.1, 21, .inl bu)), (mg, .inl (G.2.1, 21, .inl hg)), (mq, .inl (G.2.1, 21, .inl pq)), (ml, .inl (G.2.1, 21, .inl ld)), (mf, .inl (G.2.1, 20, .inl fo))] := hD
        have hle := (pStep hR h0).1
        refine lv_iinc (v := nI (i + 1)) (lv' := [(2, .int (nI (i + 1))), (3, .int (bI true)), (0, .ref m0), (1, .int (bI d))]) hx hb dX6_go_24 hl (k := 1) rfl (nI_add (i) 1) (by decide) rfl (fun ls hl => ?_)
        refine lv_aload_n hx hb dX6_go_27 rfl (lv_at hl 2 rfl) ?_
        refine va_get (D := G.1) (ci := 6) (v := .int (bI ((pE tx ln i k).2))) (C := RX6) (T := TX6) (N := 17) hx hb hts hinX6 hown hK hP 0 rfl rfl 15 (by decide) hf102 (fun _ h9 => h9) rfl dX6_go_28 ?_
        have L50 : ∀ (mo2 : Bool), (pI tx ln (pE tx ln i k).1 (i + 1) mo2 (pE tx ln i k).2) → ∀ (H : Heap) (locs : List Loc) (ls : Array Slot), va_P G.1 vwCl [(m0, .inr (6, [.int (nI (th)), .ref ms, .ref mv, .int (nI (sm)), .ref mt, .int (nI (ln)), .ref mh, .ref mb, .ref mg, .ref mq, .ref ml, .ref mf, .int nw, .int fw, .int (nI ((pE tx ln i k).1)), .int (bI ((pE tx ln i k).2)), .long dg])), (ms, .inl (G.2.1, 88, .inl (if d = true then rlS (shD d s0 tx k i) i (pSt tx ln i k) (pW tx ln i k) else (shD d s0 tx k i)))), (mv, .inl (G.2.1, 528, .inl sv)), (mt, .inl (G.2.1, 60, .inl tx)), (mh, .inl (G.2.1, 21, .inl ht)), (mb, .inl (G.2.1, 21, .inl bu)), (mg, .inl (G.2.1, 21, .inl hg)), (mq, .inl (G.2.1, 21, .inl pq)), (ml, .inl (G.2.1, 21, .inl ld)), (mf, .inl (G.2.1, 20, .inl fo))] H → va_D A [(m0, .inr (6, [.int (nI (th)), .ref ms, .ref mv, .int (nI (sm)), .ref mt, .int (nI (ln)), .ref mh, .ref mb, .ref mg, .ref mq, .ref ml, .ref mf, .int nw, .int fw, .int (nI ((pE tx ln i k).1)), .int (bI ((pE tx ln i k).2)), .long dg])), (ms, .inl (G.2.1, 88, .inl (if d = true then rlS (shD d s0 tx k i) i (pSt tx ln i k) (pW tx ln i k) else (shD d s0 tx k i)))), (mv, .inl (G.2.1, 528, .inl sv)), (mt, .inl (G.2.1, 60, .inl tx)), (mh, .inl (G.2.1, 21, .inl ht)), (mb, .inl (G.2.1, 21, .inl bu)), (mg, .inl (G.2.1, 21, .inl hg)), (mq, .inl (G.2.1, 21, .inl pq)), (ml, .inl (G.2.1, 21, .inl ld)), (mf, .inl (G.2.1, 20, .inl fo))] → va_S A s.heap H locs → lv_has ls 4 [(2, .int (nI (i + 1))), (3, .int (bI true)), (0, .ref m0), (1, .int (bI d))] → W p l e ({ frames := 3, cells := 0, slots := 0, locals := 74 } : Room) s m args below meth c H locs 0 0 Q (F0 m 50 ls [.int (bI mo2)]) := by
          intro mo2 hI2 H locs ls hP hD hS hl
          refine lv_istore_n (lv' := [(3, .int (bI mo2)), (2, .int (nI (i + 1))), (0, .ref m0), (1, .int (bI d))]) hx hb dX6_go_50 rfl hl (by decide) rfl (fun ls hl => ?_)
          refine lv_goto (tgt := 14) hx hb dX6_go_51 (by decide) ?_
          have hfx_2 : (if d = true then rlS (shD d s0 tx k i) i (pSt tx ln i k) (pW tx ln i k) else (shD d s0 tx k i) : Nat → Int32) = shD d s0 tx (pE tx ln i k).1 (i + 1) := goS hd hR h0
          have hP : va_P G.1 vwCl [(m0, .inr (6, [.int (nI (th)), .ref ms, .ref mv, .int (nI (sm)), .ref mt, .int (nI (ln)), .ref mh, .ref mb, .ref mg, .ref mq, .ref ml, .ref mf, .int nw, .int fw, .int (nI ((pE tx ln i k).1)), .int (bI ((pE tx ln i k).2)), .long dg])), (ms, .inl (G.2.1, 88, .inl (shD d s0 tx (pE tx ln i k).1 (i + 1)))), (mv, .inl (G.2.1, 528, .inl sv)), (mt, .inl (G.2.1, 60, .inl tx)), (mh, .inl (G.2.1, 21, .inl ht)), (mb, .inl (G.2.1, 21, .inl bu)), (mg, .inl (G.2.1, 21, .inl hg)), (mq, .inl (G.2.1, 21, .inl pq)), (ml, .inl (G.2.1, 21, .inl ld)), (mf, .inl (G.2.1, 20, .inl fo))] H := by rw [← hfx_2]; exact hP
          have hD : va_D A [(m0, .inr (6, [.int (nI (th)), .ref ms, .ref mv, .int (nI (sm)), .ref mt, .int (nI (ln)), .ref mh, .ref mb, .ref mg, .ref mq, .ref ml, .ref mf, .int nw, .int fw, .int (nI ((pE tx ln i k).1)), .int (bI ((pE tx ln i k).2)), .long dg])), (ms, .inl (G.2.1, 88, .inl (shD d s0 tx (pE tx ln i k).1 (i + 1)))), (mv, .inl (G.2.1, 528, .inl sv)), (mt, .inl (G.2.1, 60, .inl tx)), (mh, .inl (G.2.1, 21, .inl ht)), (mb, .inl (G.2.1, 21, .inl bu)), (mg, .inl (G.2.1, 21, .inl hg)), (mq, .inl (G.2.1, 21, .inl pq)), (ml, .inl (G.2.1, 21, .inl ld)), (mf, .inl (G.2.1, 20, .inl fo))] := by rw [← hfx_2]; exact hD
          exact ih14 ((pE tx ln i k).1) (i + 1) mo2 ((pE tx ln i k).2) (hI2) (by have q9 := pM hR h0 hI2; omega) _ _ _ hP hD hS (lv_sub hl [0, 1, 2, 3] rfl)
        refine lv_if_ne (tgt := 49) hx hb dX6_go_31 (by decide) (fun c_31 => ?_) (fun c_31 => ?_)
        · skip
          refine lv_iconst (v := 0) hx hb dX6_go_49 (by decide) ?_
          exact L50 false (by first | exact pI_e hR h0 c_31 c_42 | exact pI_w hR h0 c_31) _ _ _ hP hD hS (lv_sub hl [0, 1, 2, 3] rfl)
        · skip
          refine lv_aload_n hx hb dX6_go_34 rfl (lv_at hl 2 rfl) ?_
          refine va_get (D := G.1) (ci := 6) (v := .int (nI ((pE tx ln i k).1))) (C := RX6) (T := TX6) (N := 17) hx hb hts hinX6 hown hK hP 0 rfl rfl 14 (by decide) hf99 (fun _ h9 => h9) rfl dX6_go_35 ?_
          refine lv_aload_n hx hb dX6_go_38 rfl (lv_at hl 2 rfl) ?_
          refine va_get (D := G.1) (ci := 6) (v := .int (nI (ln))) (C := RX6) (T := TX6) (N := 17) hx hb hts hinX6 hown hK hP 0 rfl rfl 5 (by decide) hf96 (fun _ h9 => h9) rfl dX6_go_39 ?_
          refine g_icmp_ge (a := (pE tx ln i k).1) (b := ln) (tgt := 49) hx hb (by omega) (by omega) dX6_go_42 (by decide) (fun c_42 => ?_) (fun c_42 => ?_)
          · skip
            refine lv_iconst (v := 0) hx hb dX6_go_49 (by decide) ?_
            exact L50 false (by first | exact pI_e hR h0 c_31 c_42 | exact pI_w hR h0 c_31) _ _ _ hP hD hS (lv_sub hl [0, 1, 2, 3] rfl)
          · skip
            refine lv_iconst (v := 1) hx hb dX6_go_45 (by decide) ?_
            refine lv_goto (tgt := 50) hx hb dX6_go_46 (by decide) ?_
            exact L50 true (pI_m hR h0 c_31 c_42) _ _ _ hP hD hS (lv_sub hl [0, 1, 2, 3] rfl)
  have hfx_3 : (s0 : Nat → Int32) = shD d s0 tx 0 0 := shD_0 _ _ _
  have hP : va_P G.1 vwCl [(m0, .inr (6, [.int (nI (th)), .ref ms, .ref mv, .int (nI (sm)), .ref mt, .int (nI (ln)), .ref mh, .ref mb, .ref mg, .ref mq, .ref ml, .ref mf, .int nw, .int fw, .int 0, .int 0, .long dg])), (ms, .inl (G.2.1, 88, .inl (shD d s0 tx 0 0))), (mv, .inl (G.2.1, 528, .inl sv)), (mt, .inl (G.2.1, 60, .inl tx)), (mh, .inl (G.2.1, 21, .inl ht)), (mb, .inl (G.2.1, 21, .inl bu)), (mg, .inl (G.2.1, 21, .inl hg)), (mq, .inl (G.2.1, 21, .inl pq)), (ml, .inl (G.2.1, 21, .inl ld)), (mf, .inl (G.2.1, 20, .inl fo))] H := by rw [← hfx_3]; exact hP
  have hD : va_D A [(m0, .inr (6, [.int (nI (th)), .ref ms, .ref mv, .int (nI (sm)), .ref mt, .int (nI (ln)), .ref mh, .ref mb, .ref mg, .ref mq, .ref ml, .ref mf, .int nw, .int fw, .int 0, .int 0, .long dg])), (ms, .inl (G.2.1, 88, .inl (shD d s0 tx 0 0))), (mv, .inl (G.2.1, 528, .inl sv)), (mt, .inl (G.2.1, 60, .inl tx)), (mh, .inl (G.2.1, 21, .inl ht)), (mb, .inl (G.2.1, 21, .inl bu)), (mg, .inl (G.2.1, 21, .inl hg)), (mq, .inl (G.2.1, 21, .inl pq)), (ml, .inl (G.2.1, 21, .inl ld)), (mf, .inl (G.2.1, 20, .inl fo))] := by rw [← hfx_3]; exact hD
  exact L14 (2 * (ln + 1 - 0) + Bool.toNat true + 1) 0 0 true false (pI_0) (Nat.lt_succ_self _) _ _ _ hP hD hS (lv_sub hl [0, 1, 2, 3] rfl)
set_option maxHeartbeats 4000000 in
set_option maxRecDepth 100000 in
theorem c_X6_firstError (l : Launch) (G : kG) (m0 : Nat) (ms : Nat) (mv : Nat) (mt : Nat) (mh : Nat) (mb : Nat) (mg : Nat) (mq : Nat) (ml : Nat) (mf : Nat) (th : Nat) (s0 : Fn) (sv : Fn) (sm : Nat) (tx : Fn) (ln : Nat) (ht : Fn) (bu : Fn) (hg : Fn) (pq : Fn) (ld : Fn) (fo : Fn) (nw : Int32) (fw : Int32) (tp : Nat) (wr : Bool) (dg : Int64) (sz : Nat) (hln : ln ≤ 60) : kMet l yX6_firstError wsX6_firstError ({ frames := 4, cells := 0, slots := 0, locals := 97 } : Room) G [.ref m0] [(m0, .inr (6, [.int (nI (th)), .ref ms, .ref mv, .int (nI (sm)), .ref mt, .int (nI (ln)), .ref mh, .ref mb, .ref mg, .ref mq, .ref ml, .ref mf, .int nw, .int fw, .int (nI (tp)), .int (bI (wr)), .long dg])), (ms, .inl (G.2.1, 88, .inl s0)), (mv, .inl (G.2.1, 528, .inl sv)), (mt, .inl (G.2.1, 60, .inl tx)), (mh, .inl (G.2.1, 21, .inl ht)), (mb, .inl (G.2.1, 21, .inl bu)), (mg, .inl (G.2.1, 21, .inl hg)), (mq, .inl (G.2.1, 21, .inl pq)), (ml, .inl (G.2.1, 21, .inl ld)), (mf, .inl (G.2.1, 20, .inl fo))] sz (kQi G (fun (r : Int32) (u : Nat × Bool × Nat) => r = nI u.2.2 ∧ rdK tx ln u.2.2) (fun (u : Nat × Bool × Nat) => [(m0, .inr (6, [.int (nI 0), .ref ms, .ref mv, .int (nI (sm)), .ref mt, .int (nI (ln)), .ref mh, .ref mb, .ref mg, .ref mq, .ref ml, .ref mf, .int nw, .int fw, .int (nI (u.1)), .int (bI (u.2.1)), .long dg])), (ms, .inl (G.2.1, 88, .inl s0)), (mv, .inl (G.2.1, 528, .inl sv)), (mt, .inl (G.2.1, 60, .inl tx)), (mh, .inl (G.2.1, 21, .inl ht)), (mb, .inl (G.2.1, 21, .inl bu)), (mg, .inl (G.2.1, 21, .inl hg)), (mq, .inl (G.2.1, 21, .inl pq)), (ml, .inl (G.2.1, 21, .inl ld)), (mf, .inl (G.2.1, 20, .inl fo))])) 0 0 := by
  refine k_entry (cc := cX6_firstError) (maxL := 2) (ret := (some .int)) (by decide) rfl (Nat.le_of_ble_eq_true rfl) ?_
  intro p e s m args below meth c A ls H locs Q hQ hx hb hml hr hts hown hlocks hin hA hP hK hD hS hl
  have hown : s.vm.findClass RX6 = some m.cls := hown
  have hl : lv_has ls 2 [(0, .ref m0)] := hl
  have hf37 := hts (.fieldLink RX6 37 "HangingChainModel" "thrown" "I") (by decide +kernel)
  have hinX6 : ∀ w ∈ wsX60, w ∈ wsX6_firstError := by decide +kernel
  have hf102 := hts (.fieldLink RX6 102 "HangingChainModel" "isWrong" "Z") (by decide +kernel)
  have hf96 := hts (.fieldLink RX6 96 "HangingChainModel" "length" "I") (by decide +kernel)
  have hf99 := hts (.fieldLink RX6 99 "HangingChainModel" "at" "I") (by decide +kernel)
  refine lv_aload_n hx hb dX6_firstError_0 rfl (lv_at hl 0 rfl) ?_
  refine lv_iconst (v := 0) hx hb dX6_firstError_1 (by decide) ?_
  refine va_put (D := G.1) (ci := 6) (v := .int 0) (ty := .int) (C := RX6) (T := TX6) (N := 17) hx hb hts hinX6 tyX6 tyX6_ok nmX6 hown hK hP hD hS 0 rfl rfl 0 (by decide) hf37 (fun _ h9 => h9) rfl (by decide +kernel) (rfl) (rfl) (Nat.le_of_ble_eq_true rfl) dX6_firstError_2 (fun H locs hP hD hS => ?_)
  have hP : va_P G.1 vwCl [(m0, .inr (6, [.int 0, .ref ms, .ref mv, .int (nI (sm)), .ref mt, .int (nI (ln)), .ref mh, .ref mb, .ref mg, .ref mq, .ref ml, .ref mf, .int nw, .int fw, .int (nI (tp)), .int (bI (wr)), .long dg])), (ms, .inl (G.2.1, 88, .inl s0)), (mv, .inl (G.2.1, 528, .inl sv)), (mt, .inl (G.2.1, 60, .inl tx)), (mh, .inl (G.2.1, 21, .inl ht)), (mb, .inl (G.2.1, 21, .inl bu)), (mg, .inl (G.2.1, 21, .inl hg)), (mq, .inl (G.2.1, 21, .inl pq)), (ml, .inl (G.2.1, 21, .inl ld)), (mf, .inl (G.2.1, 20, .inl fo))] H := hP
  have hD : va_D A [(m0, .inr (6, [.int 0, .ref ms, .ref mv, .int (nI (sm)), .ref mt, .int (nI (ln)), .ref mh, .ref mb, .ref mg, .ref mq, .ref ml, .ref mf, .int nw, .int fw, .int (nI (tp)), .int (bI (wr)), .long dg])), (ms, .inl (G.2.1, 88, .inl s0)), (mv, .inl (G.2.1, 528, .inl sv)), (mt, .inl (G.2.1, 60, .inl tx)), (mh, .inl (G.2.1, 21, .inl ht)), (mb, .inl (G.2.1, 21, .inl bu)), (mg, .inl (G.2.1, 21, .inl hg)), (mq, .inl (G.2.1, 21, .inl pq)), (ml, .inl (G.2.1, 21, .inl ld)), (mf, .inl (G.2.1, 20, .inl fo))] := hD
  refine lv_aload_n hx hb dX6_firstError_5 rfl (lv_at hl 0 rfl) ?_
  refine lv_iconst (v := 0) hx hb dX6_firstError_6 (by decide) ?_
  refine k_ci (wr := []) [] rfl (by decide) [0, 1, 2, 3, 4, 5, 6, 7, 8, 9] rfl (by decide) hP hD hS hA (k_V (n := 1) (ci := 6) (As := [.int 0]) (rest := []) (wc := [(m0, .inr (6, [.int (nI (0)), .ref ms, .ref mv, .int (nI (sm)), .ref mt, .int (nI (ln)), .ref mh, .ref mb, .ref mg, .ref mq, .ref ml, .ref mf, .int nw, .int fw, .int (nI (tp)), .int (bI (wr)), .long dg])), (ms, .inl (G.2.1, 88, .inl s0)), (mv, .inl (G.2.1, 528, .inl sv)), (mt, .inl (G.2.1, 60, .inl tx)), (mh, .inl (G.2.1, 21, .inl ht)), (mb, .inl (G.2.1, 21, .inl bu)), (mg, .inl (G.2.1, 21, .inl hg)), (mq, .inl (G.2.1, 21, .inl pq)), (ml, .inl (G.2.1, 21, .inl ld)), (mf, .inl (G.2.1, 20, .inl fo))]) hx hb hml hown hts hK hP hD hl (c_X6_go l G m0 ms mv mt mh mb mg mq ml mf 0 s0 sv sm tx ln ht bu hg pq ld fo nw fw tp wr dg false H.size (by first | assumption | omega) (fun q => absurd q (by decide))) [0, 1, 2, 3, 4, 5, 6, 7, 8, 9] rfl (by decide) gX6_firstError_X6_go rfl rfl rfl (by decide +kernel) rfl ⟨Nat.le_of_ble_eq_true rfl, Nat.le_of_ble_eq_true rfl⟩ rfl rfl rfl (Nat.le_of_ble_eq_true rfl) dX6_firstError_7 ⟨Nat.le_of_ble_eq_true rfl, Nat.le_of_ble_eq_true rfl⟩) (fun r_7 u H locs hw hP hD hS => ?_)
  obtain ⟨tp2_7, wr2_7⟩ := u
  have hw_7 : pO tx ln tp2_7 wr2_7 r_7 := hw
  have hP : va_P G.1 vwCl [(m0, .inr (6, [.int (nI (0)), .ref ms, .ref mv, .int (nI (sm)), .ref mt, .int (nI (ln)), .ref mh, .ref mb, .ref mg, .ref mq, .ref ml, .ref mf, .int nw, .int fw, .int (nI (tp2_7)), .int (bI (wr2_7)), .long dg])), (ms, .inl (G.2.1, 88, .inl (shD false s0 tx ln (rdS tx ln).2.1))), (mv, .inl (G.2.1, 528, .inl sv)), (mt, .inl (G.2.1, 60, .inl tx)), (mh, .inl (G.2.1, 21, .inl ht)), (mb, .inl (G.2.1, 21, .inl bu)), (mg, .inl (G.2.1, 21, .inl hg)), (mq, .inl (G.2.1, 21, .inl pq)), (ml, .inl (G.2.1, 21, .inl ld)), (mf, .inl (G.2.1, 20, .inl fo))] H := hP
  have hD : va_D A [(m0, .inr (6, [.int (nI (0)), .ref ms, .ref mv, .int (nI (sm)), .ref mt, .int (nI (ln)), .ref mh, .ref mb, .ref mg, .ref mq, .ref ml, .ref mf, .int nw, .int fw, .int (nI (tp2_7)), .int (bI (wr2_7)), .long dg])), (ms, .inl (G.2.1, 88, .inl (shD false s0 tx ln (rdS tx ln).2.1))), (mv, .inl (G.2.1, 528, .inl sv)), (mt, .inl (G.2.1, 60, .inl tx)), (mh, .inl (G.2.1, 21, .inl ht)), (mb, .inl (G.2.1, 21, .inl bu)), (mg, .inl (G.2.1, 21, .inl hg)), (mq, .inl (G.2.1, 21, .inl pq)), (ml, .inl (G.2.1, 21, .inl ld)), (mf, .inl (G.2.1, 20, .inl fo))] := hD
  have hfx_1 : (shD false s0 tx ln (rdS tx ln).2.1 : Nat → Int32) = s0 := rfl
  have hP : va_P G.1 vwCl [(m0, .inr (6, [.int (nI (0)), .ref ms, .ref mv, .int (nI (sm)), .ref mt, .int (nI (ln)), .ref mh, .ref mb, .ref mg, .ref mq, .ref ml, .ref mf, .int nw, .int fw, .int (nI (tp2_7)), .int (bI (wr2_7)), .long dg])), (ms, .inl (G.2.1, 88, .inl s0)), (mv, .inl (G.2.1, 528, .inl sv)), (mt, .inl (G.2.1, 60, .inl tx)), (mh, .inl (G.2.1, 21, .inl ht)), (mb, .inl (G.2.1, 21, .inl bu)), (mg, .inl (G.2.1, 21, .inl hg)), (mq, .inl (G.2.1, 21, .inl pq)), (ml, .inl (G.2.1, 21, .inl ld)), (mf, .inl (G.2.1, 20, .inl fo))] H := by rw [← hfx_1]; exact hP
  have hD : va_D A [(m0, .inr (6, [.int (nI (0)), .ref ms, .ref mv, .int (nI (sm)), .ref mt, .int (nI (ln)), .ref mh, .ref mb, .ref mg, .ref mq, .ref ml, .ref mf, .int nw, .int fw, .int (nI (tp2_7)), .int (bI (wr2_7)), .long dg])), (ms, .inl (G.2.1, 88, .inl s0)), (mv, .inl (G.2.1, 528, .inl sv)), (mt, .inl (G.2.1, 60, .inl tx)), (mh, .inl (G.2.1, 21, .inl ht)), (mb, .inl (G.2.1, 21, .inl bu)), (mg, .inl (G.2.1, 21, .inl hg)), (mq, .inl (G.2.1, 21, .inl pq)), (ml, .inl (G.2.1, 21, .inl ld)), (mf, .inl (G.2.1, 20, .inl fo))] := by rw [← hfx_1]; exact hD
  refine lv_istore_n (lv' := [(1, .int r_7), (0, .ref m0)]) hx hb dX6_firstError_10 rfl hl (by decide) rfl (fun ls hl => ?_)
  refine lv_aload_n hx hb dX6_firstError_11 rfl (lv_at hl 1 rfl) ?_
  refine va_get (D := G.1) (ci := 6) (v := .int (bI (wr2_7))) (C := RX6) (T := TX6) (N := 17) hx hb hts hinX6 hown hK hP 0 rfl rfl 15 (by decide) hf102 (fun _ h9 => h9) rfl dX6_firstError_12 ?_
  refine lv_if_eq (tgt := 25) hx hb dX6_firstError_15 (by decide) (fun c_15 => ?_) (fun c_15 => ?_)
  · skip
    refine lv_aload_n hx hb dX6_firstError_25 rfl (lv_at hl 1 rfl) ?_
    refine va_get (D := G.1) (ci := 6) (v := .int (nI (ln))) (C := RX6) (T := TX6) (N := 17) hx hb hts hinX6 hown hK hP 0 rfl rfl 5 (by decide) hf96 (fun _ h9 => h9) rfl dX6_firstError_26 ?_
    rw [hQ]
    exact k_iret (v := nI (ln)) (tp2_7, wr2_7, ln) [0, 1, 2, 3, 4, 5, 6, 7, 8, 9] hx hb hr hlocks (⟨rfl, (pO_f hw_7 c_15).1⟩) hK hP hD hS rfl (by decide) dX6_firstError_29
  · skip
    refine lv_aload_n hx hb dX6_firstError_18 rfl (lv_at hl 1 rfl) ?_
    refine va_get (D := G.1) (ci := 6) (v := .int (nI (tp2_7))) (C := RX6) (T := TX6) (N := 17) hx hb hts hinX6 hown hK hP 0 rfl rfl 14 (by decide) hf99 (fun _ h9 => h9) rfl dX6_firstError_19 ?_
    refine lv_goto (tgt := 29) hx hb dX6_firstError_22 (by decide) ?_
    rw [hQ]
    exact k_iret (v := nI (tp2_7)) (tp2_7, wr2_7, tp2_7) [0, 1, 2, 3, 4, 5, 6, 7, 8, 9] hx hb hr hlocks (⟨rfl, pO_t hw_7 c_15⟩) hK hP hD hS rfl (by decide) dX6_firstError_29
set_option maxHeartbeats 4000000 in
set_option maxRecDepth 100000 in
theorem c_X6_shape_1 (l : Launch) (G : kG) (m0 : Nat) (ms : Nat) (mv : Nat) (mt : Nat) (mh : Nat) (mb : Nat) (mg : Nat) (mq : Nat) (ml : Nat) (mf : Nat) (th : Nat) (s0 : Fn) (sv : Fn) (sm : Nat) (tx : Fn) (ln : Nat) (ht : Fn) (bu : Fn) (hg : Fn) (pq : Fn) (ld : Fn) (fo : Fn) (nw : Int32) (fw : Int32) (tp : Nat) (wr : Bool) (dg : Int64) (sz : Nat) (hln : ln ≤ 60) (h1 : ¬ pG tx ln) : kMet l yX6_shape wsX6_shape ({ frames := 4, cells := 0, slots := 0, locals := 97 } : Room) G [.ref m0] [(m0, .inr (6, [.int (nI (th)), .ref ms, .ref mv, .int (nI (sm)), .ref mt, .int (nI (ln)), .ref mh, .ref mb, .ref mg, .ref mq, .ref ml, .ref mf, .int nw, .int fw, .int (nI (tp)), .int (bI (wr)), .long dg])), (ms, .inl (G.2.1, 88, .inl s0)), (mv, .inl (G.2.1, 528, .inl sv)), (mt, .inl (G.2.1, 60, .inl tx)), (mh, .inl (G.2.1, 21, .inl ht)), (mb, .inl (G.2.1, 21, .inl bu)), (mg, .inl (G.2.1, 21, .inl hg)), (mq, .inl (G.2.1, 21, .inl pq)), (ml, .inl (G.2.1, 21, .inl ld)), (mf, .inl (G.2.1, 20, .inl fo))] sz (kQi G (fun (r : Int32) (u : Nat × Bool) => r = 0) (fun (u : Nat × Bool) => [(m0, .inr (6, [.int (nI 1), .ref ms, .ref mv, .int (nI (sm)), .ref mt, .int (nI (ln)), .ref mh, .ref mb, .ref mg, .ref mq, .ref ml, .ref mf, .int nw, .int fw, .int (nI (u.1)), .int (bI (u.2)), .long dg])), (ms, .inl (G.2.1, 88, .inl s0)), (mv, .inl (G.2.1, 528, .inl sv)), (mt, .inl (G.2.1, 60, .inl tx)), (mh, .inl (G.2.1, 21, .inl ht)), (mb, .inl (G.2.1, 21, .inl bu)), (mg, .inl (G.2.1, 21, .inl hg)), (mq, .inl (G.2.1, 21, .inl pq)), (ml, .inl (G.2.1, 21, .inl ld)), (mf, .inl (G.2.1, 20, .inl fo))])) 0 0 := by
  refine k_entry (cc := cX6_shape) (maxL := 3) (ret := (some .int)) (by decide) rfl (Nat.le_of_ble_eq_true rfl) ?_
  intro p e s m args below meth c A ls H locs Q hQ hx hb hml hr hts hown hlocks hin hA hP hK hD hS hl
  have hown : s.vm.findClass RX6 = some m.cls := hown
  have hl : lv_has ls 3 [(0, .ref m0)] := hl
  have hf102 := hts (.fieldLink RX6 102 "HangingChainModel" "isWrong" "Z") (by decide +kernel)
  have hinX6 : ∀ w ∈ wsX60, w ∈ wsX6_shape := by decide +kernel
  refine lv_aload_n hx hb dX6_shape_0 rfl (lv_at hl 0 rfl) ?_
  refine lv_iconst (v := 0) hx hb dX6_shape_1 (by decide) ?_
  refine k_ci (wr := []) [] rfl (by decide) [0, 1, 2, 3, 4, 5, 6, 7, 8, 9] rfl (by decide) hP hD hS hA (k_V (n := 1) (ci := 6) (As := [.int 0]) (rest := []) (wc := [(m0, .inr (6, [.int (nI (th)), .ref ms, .ref mv, .int (nI (sm)), .ref mt, .int (nI (ln)), .ref mh, .ref mb, .ref mg, .ref mq, .ref ml, .ref mf, .int nw, .int fw, .int (nI (tp)), .int (bI (wr)), .long dg])), (ms, .inl (G.2.1, 88, .inl s0)), (mv, .inl (G.2.1, 528, .inl sv)), (mt, .inl (G.2.1, 60, .inl tx)), (mh, .inl (G.2.1, 21, .inl ht)), (mb, .inl (G.2.1, 21, .inl bu)), (mg, .inl (G.2.1, 21, .inl hg)), (mq, .inl (G.2.1, 21, .inl pq)), (ml, .inl (G.2.1, 21, .inl ld)), (mf, .inl (G.2.1, 20, .inl fo))]) hx hb hml hown hts hK hP hD hl (c_X6_go l G m0 ms mv mt mh mb mg mq ml mf th s0 sv sm tx ln ht bu hg pq ld fo nw fw tp wr dg false H.size (by first | assumption | omega) (fun q => absurd q (by decide))) [0, 1, 2, 3, 4, 5, 6, 7, 8, 9] rfl (by decide) gX6_shape_X6_go rfl rfl rfl (by decide +kernel) rfl ⟨Nat.le_of_ble_eq_true rfl, Nat.le_of_ble_eq_true rfl⟩ rfl rfl rfl (Nat.le_of_ble_eq_true rfl) dX6_shape_2 ⟨Nat.le_of_ble_eq_true rfl, Nat.le_of_ble_eq_true rfl⟩) (fun r_2 u H locs hw hP hD hS => ?_)
  obtain ⟨tp2_2, wr2_2⟩ := u
  have hw_2 : pO tx ln tp2_2 wr2_2 r_2 := hw
  have hP : va_P G.1 vwCl [(m0, .inr (6, [.int (nI (th)), .ref ms, .ref mv, .int (nI (sm)), .ref mt, .int (nI (ln)), .ref mh, .ref mb, .ref mg, .ref mq, .ref ml, .ref mf, .int nw, .int fw, .int (nI (tp2_2)), .int (bI (wr2_2)), .long dg])), (ms, .inl (G.2.1, 88, .inl (shD false s0 tx ln (rdS tx ln).2.1))), (mv, .inl (G.2.1, 528, .inl sv)), (mt, .inl (G.2.1, 60, .inl tx)), (mh, .inl (G.2.1, 21, .inl ht)), (mb, .inl (G.2.1, 21, .inl bu)), (mg, .inl (G.2.1, 21, .inl hg)), (mq, .inl (G.2.1, 21, .inl pq)), (ml, .inl (G.2.1, 21, .inl ld)), (mf, .inl (G.2.1, 20, .inl fo))] H := hP
  have hD : va_D A [(m0, .inr (6, [.int (nI (th)), .ref ms, .ref mv, .int (nI (sm)), .ref mt, .int (nI (ln)), .ref mh, .ref mb, .ref mg, .ref mq, .ref ml, .ref mf, .int nw, .int fw, .int (nI (tp2_2)), .int (bI (wr2_2)), .long dg])), (ms, .inl (G.2.1, 88, .inl (shD false s0 tx ln (rdS tx ln).2.1))), (mv, .inl (G.2.1, 528, .inl sv)), (mt, .inl (G.2.1, 60, .inl tx)), (mh, .inl (G.2.1, 21, .inl ht)), (mb, .inl (G.2.1, 21, .inl bu)), (mg, .inl (G.2.1, 21, .inl hg)), (mq, .inl (G.2.1, 21, .inl pq)), (ml, .inl (G.2.1, 21, .inl ld)), (mf, .inl (G.2.1, 20, .inl fo))] := hD
  have hfx_1 : (shD false s0 tx ln (rdS tx ln).2.1 : Nat → Int32) = s0 := rfl
  have hP : va_P G.1 vwCl [(m0, .inr (6, [.int (nI (th)), .ref ms, .ref mv, .int (nI (sm)), .ref mt, .int (nI (ln)), .ref mh, .ref mb, .ref mg, .ref mq, .ref ml, .ref mf, .int nw, .int fw, .int (nI (tp2_2)), .int (bI (wr2_2)), .long dg])), (ms, .inl (G.2.1, 88, .inl s0)), (mv, .inl (G.2.1, 528, .inl sv)), (mt, .inl (G.2.1, 60, .inl tx)), (mh, .inl (G.2.1, 21, .inl ht)), (mb, .inl (G.2.1, 21, .inl bu)), (mg, .inl (G.2.1, 21, .inl hg)), (mq, .inl (G.2.1, 21, .inl pq)), (ml, .inl (G.2.1, 21, .inl ld)), (mf, .inl (G.2.1, 20, .inl fo))] H := by rw [← hfx_1]; exact hP
  have hD : va_D A [(m0, .inr (6, [.int (nI (th)), .ref ms, .ref mv, .int (nI (sm)), .ref mt, .int (nI (ln)), .ref mh, .ref mb, .ref mg, .ref mq, .ref ml, .ref mf, .int nw, .int fw, .int (nI (tp2_2)), .int (bI (wr2_2)), .long dg])), (ms, .inl (G.2.1, 88, .inl s0)), (mv, .inl (G.2.1, 528, .inl sv)), (mt, .inl (G.2.1, 60, .inl tx)), (mh, .inl (G.2.1, 21, .inl ht)), (mb, .inl (G.2.1, 21, .inl bu)), (mg, .inl (G.2.1, 21, .inl hg)), (mq, .inl (G.2.1, 21, .inl pq)), (ml, .inl (G.2.1, 21, .inl ld)), (mf, .inl (G.2.1, 20, .inl fo))] := by rw [← hfx_1]; exact hD
  refine lv_istore_n (lv' := [(1, .int r_2), (0, .ref m0)]) hx hb dX6_shape_5 rfl hl (by decide) rfl (fun ls hl => ?_)
  refine lv_aload_n hx hb dX6_shape_6 rfl (lv_at hl 1 rfl) ?_
  refine lv_aload_n hx hb dX6_shape_7 rfl (lv_at hl 1 rfl) ?_
  refine va_get (D := G.1) (ci := 6) (v := .int (bI (wr2_2))) (C := RX6) (T := TX6) (N := 17) hx hb hts hinX6 hown hK hP 0 rfl rfl 15 (by decide) hf102 (fun _ h9 => h9) rfl dX6_shape_8 ?_
  refine lv_if_eq (tgt := 18) hx hb dX6_shape_11 (by decide) (fun c_11 => ?_) (fun c_11 => ?_)
  · exact absurd (pO_f hw_2 c_11) h1
  · skip
    refine lv_iconst (v := 1) hx hb dX6_shape_14 (by decide) ?_
    refine lv_goto (tgt := 19) hx hb dX6_shape_15 (by decide) ?_
    refine k_ci (wr := []) [] rfl (by decide) [0, 1, 2, 3, 4, 5, 6, 7, 8, 9] rfl (by decide) hP hD hS hA (k_V (n := 1) (ci := 6) (As := [.int 1]) (rest := []) (wc := [(m0, .inr (6, [.int (nI (th)), .ref ms, .ref mv, .int (nI (sm)), .ref mt, .int (nI (ln)), .ref mh, .ref mb, .ref mg, .ref mq, .ref ml, .ref mf, .int nw, .int fw, .int (nI (tp2_2)), .int (bI (wr2_2)), .long dg])), (ms, .inl (G.2.1, 88, .inl s0)), (mv, .inl (G.2.1, 528, .inl sv)), (mt, .inl (G.2.1, 60, .inl tx)), (mh, .inl (G.2.1, 21, .inl ht)), (mb, .inl (G.2.1, 21, .inl bu)), (mg, .inl (G.2.1, 21, .inl hg)), (mq, .inl (G.2.1, 21, .inl pq)), (ml, .inl (G.2.1, 21, .inl ld)), (mf, .inl (G.2.1, 20, .inl fo))]) hx hb hml hown hts hK hP hD hl (c_X6_holds l G m0 ms mv mt mh mb mg mq ml mf th s0 sv sm tx ln ht bu hg pq ld fo nw fw tp2_2 wr2_2 dg 1 H.size (by first | assumption | omega)) [0, 1, 2, 3, 4, 5, 6, 7, 8, 9] rfl (by decide) gX6_shape_X6_holds rfl rfl rfl (by decide +kernel) rfl ⟨Nat.le_of_ble_eq_true rfl, Nat.le_of_ble_eq_true rfl⟩ rfl rfl rfl (Nat.le_of_ble_eq_true rfl) dX6_shape_19 ⟨Nat.le_of_ble_eq_true rfl, Nat.le_of_ble_eq_true rfl⟩) (fun r_19 u H locs hw hP hD hS => ?_)
    have hw_19 : r_19 = bI (decide (1 = 0)) := hw
    have hP : va_P G.1 vwCl [(m0, .inr (6, [.int (nI (1)), .ref ms, .ref mv, .int (nI (sm)), .ref mt, .int (nI (ln)), .ref mh, .ref mb, .ref mg, .ref mq, .ref ml, .ref mf, .int nw, .int fw, .int (nI (tp2_2)), .int (bI (wr2_2)), .long dg])), (ms, .inl (G.2.1, 88, .inl s0)), (mv, .inl (G.2.1, 528, .inl sv)), (mt, .inl (G.2.1, 60, .inl tx)), (mh, .inl (G.2.1, 21, .inl ht)), (mb, .inl (G.2.1, 21, .inl bu)), (mg, .inl (G.2.1, 21, .inl hg)), (mq, .inl (G.2.1, 21, .inl pq)), (ml, .inl (G.2.1, 21, .inl ld)), (mf, .inl (G.2.1, 20, .inl fo))] H := hP
    have hD : va_D A [(m0, .inr (6, [.int (nI (1)), .ref ms, .ref mv, .int (nI (sm)), .ref mt, .int (nI (ln)), .ref mh, .ref mb, .ref mg, .ref mq, .ref ml, .ref mf, .int nw, .int fw, .int (nI (tp2_2)), .int (bI (wr2_2)), .long dg])), (ms, .inl (G.2.1, 88, .inl s0)), (mv, .inl (G.2.1, 528, .inl sv)), (mt, .inl (G.2.1, 60, .inl tx)), (mh, .inl (G.2.1, 21, .inl ht)), (mb, .inl (G.2.1, 21, .inl bu)), (mg, .inl (G.2.1, 21, .inl hg)), (mq, .inl (G.2.1, 21, .inl pq)), (ml, .inl (G.2.1, 21, .inl ld)), (mf, .inl (G.2.1, 20, .inl fo))] := hD
    subst hw_19
    refine g_ti (y := nI 0) (by rw [decide_eq_false (by decide)]; rfl) ?_
    refine g_if_ne (a := 0) (tgt := 27) hx hb (by omega) dX6_shape_22 (by decide) (fun c_22 => ?_) (fun c_22 => ?_)
    · exact absurd c_22 (by decide)
    · skip
      refine lv_iconst (v := 0) hx hb dX6_shape_25 (by decide) ?_
      rw [hQ]
      exact k_iret (v := 0) (tp2_2, wr2_2) [0, 1, 2, 3, 4, 5, 6, 7, 8, 9] hx hb hr hlocks (rfl) hK hP hD hS rfl (by decide) dX6_shape_26
set_option maxHeartbeats 4000000 in
set_option maxRecDepth 100000 in
theorem c_X6_shape_0 (l : Launch) (G : kG) (m0 : Nat) (ms : Nat) (mv : Nat) (mt : Nat) (mh : Nat) (mb : Nat) (mg : Nat) (mq : Nat) (ml : Nat) (mf : Nat) (th : Nat) (s0 : Fn) (sv : Fn) (sm : Nat) (tx : Fn) (ln : Nat) (ht : Fn) (bu : Fn) (hg : Fn) (pq : Fn) (ld : Fn) (fo : Fn) (nw : Int32) (fw : Int32) (tp : Nat) (wr : Bool) (dg : Int64) (n : Nat) (sz : Nat) (hok : mOK s0 n) (hsm : sm ≤ 6) (hln : ln ≤ 60) (hG : pG tx ln) : kMet l yX6_shape wsX6_shape ({ frames := 4, cells := 0, slots := 0, locals := 97 } : Room) G [.ref m0] [(m0, .inr (6, [.int (nI (th)), .ref ms, .ref mv, .int (nI (sm)), .ref mt, .int (nI (ln)), .ref mh, .ref mb, .ref mg, .ref mq, .ref ml, .ref mf, .int nw, .int fw, .int (nI (tp)), .int (bI (wr)), .long dg])), (ms, .inl (G.2.1, 88, .inl s0)), (mv, .inl (G.2.1, 528, .inl sv)), (mt, .inl (G.2.1, 60, .inl tx)), (mh, .inl (G.2.1, 21, .inl ht)), (mb, .inl (G.2.1, 21, .inl bu)), (mg, .inl (G.2.1, 21, .inl hg)), (mq, .inl (G.2.1, 21, .inl pq)), (ml, .inl (G.2.1, 21, .inl ld)), (mf, .inl (G.2.1, 20, .inl fo))] sz (kQi G (fun (r : Int32) (u : Nat × Bool) => r = nI n) (fun (u : Nat × Bool) => [(m0, .inr (6, [.int (nI 0), .ref ms, .ref mv, .int (nI (mSM sm)), .ref mt, .int (nI 0), .ref mh, .ref mb, .ref mg, .ref mq, .ref ml, .ref mf, .int nw, .int fw, .int (nI (u.1)), .int (bI (u.2)), .long dg])), (ms, .inl (G.2.1, 88, .inl (mShp s0 tx ln))), (mv, .inl (G.2.1, 528, .inl (mSV sv sm s0))), (mt, .inl (G.2.1, 60, .inl tx)), (mh, .inl (G.2.1, 21, .inl ht)), (mb, .inl (G.2.1, 21, .inl bu)), (mg, .inl (G.2.1, 21, .inl hg)), (mq, .inl (G.2.1, 21, .inl pq)), (ml, .inl (G.2.1, 21, .inl ld)), (mf, .inl (G.2.1, 20, .inl fo))])) 0 0 := by
  refine k_entry (cc := cX6_shape) (maxL := 3) (ret := (some .int)) (by decide) rfl (Nat.le_of_ble_eq_true rfl) ?_
  intro p e s m args below meth c A ls H locs Q hQ hx hb hml hr hts hown hlocks hin hA hP hK hD hS hl
  have hown : s.vm.findClass RX6 = some m.cls := hown
  have hl : lv_has ls 3 [(0, .ref m0)] := hl
  have hf102 := hts (.fieldLink RX6 102 "HangingChainModel" "isWrong" "Z") (by decide +kernel)
  have hinX6 : ∀ w ∈ wsX60, w ∈ wsX6_shape := by decide +kernel
  have hf7 := hts (.fieldLink RX6 7 "HangingChainModel" "s" "[I") (by decide +kernel)
  have hf96 := hts (.fieldLink RX6 96 "HangingChainModel" "length" "I") (by decide +kernel)
  obtain ⟨hs0, hn1, hn, hv⟩ := id hok
  refine lv_aload_n hx hb dX6_shape_0 rfl (lv_at hl 0 rfl) ?_
  refine lv_iconst (v := 0) hx hb dX6_shape_1 (by decide) ?_
  refine k_ci (wr := []) [] rfl (by decide) [0, 1, 2, 3, 4, 5, 6, 7, 8, 9] rfl (by decide) hP hD hS hA (k_V (n := 1) (ci := 6) (As := [.int 0]) (rest := []) (wc := [(m0, .inr (6, [.int (nI (th)), .ref ms, .ref mv, .int (nI (sm)), .ref mt, .int (nI (ln)), .ref mh, .ref mb, .ref mg, .ref mq, .ref ml, .ref mf, .int nw, .int fw, .int (nI (tp)), .int (bI (wr)), .long dg])), (ms, .inl (G.2.1, 88, .inl s0)), (mv, .inl (G.2.1, 528, .inl sv)), (mt, .inl (G.2.1, 60, .inl tx)), (mh, .inl (G.2.1, 21, .inl ht)), (mb, .inl (G.2.1, 21, .inl bu)), (mg, .inl (G.2.1, 21, .inl hg)), (mq, .inl (G.2.1, 21, .inl pq)), (ml, .inl (G.2.1, 21, .inl ld)), (mf, .inl (G.2.1, 20, .inl fo))]) hx hb hml hown hts hK hP hD hl (c_X6_go l G m0 ms mv mt mh mb mg mq ml mf th s0 sv sm tx ln ht bu hg pq ld fo nw fw tp wr dg false H.size (by first | assumption | omega) (fun q => absurd q (by decide))) [0, 1, 2, 3, 4, 5, 6, 7, 8, 9] rfl (by decide) gX6_shape_X6_go rfl rfl rfl (by decide +kernel) rfl ⟨Nat.le_of_ble_eq_true rfl, Nat.le_of_ble_eq_true rfl⟩ rfl rfl rfl (Nat.le_of_ble_eq_true rfl) dX6_shape_2 ⟨Nat.le_of_ble_eq_true rfl, Nat.le_of_ble_eq_true rfl⟩) (fun r_2 u H locs hw hP hD hS => ?_)
  obtain ⟨tp2_2, wr2_2⟩ := u
  have hw_2 : pO tx ln tp2_2 wr2_2 r_2 := hw
  have hP : va_P G.1 vwCl [(m0, .inr (6, [.int (nI (th)), .ref ms, .ref mv, .int (nI (sm)), .ref mt, .int (nI (ln)), .ref mh, .ref mb, .ref mg, .ref mq, .ref ml, .ref mf, .int nw, .int fw, .int (nI (tp2_2)), .int (bI (wr2_2)), .long dg])), (ms, .inl (G.2.1, 88, .inl (shD false s0 tx ln (rdS tx ln).2.1))), (mv, .inl (G.2.1, 528, .inl sv)), (mt, .inl (G.2.1, 60, .inl tx)), (mh, .inl (G.2.1, 21, .inl ht)), (mb, .inl (G.2.1, 21, .inl bu)), (mg, .inl (G.2.1, 21, .inl hg)), (mq, .inl (G.2.1, 21, .inl pq)), (ml, .inl (G.2.1, 21, .inl ld)), (mf, .inl (G.2.1, 20, .inl fo))] H := hP
  have hD : va_D A [(m0, .inr (6, [.int (nI (th)), .ref ms, .ref mv, .int (nI (sm)), .ref mt, .int (nI (ln)), .ref mh, .ref mb, .ref mg, .ref mq, .ref ml, .ref mf, .int nw, .int fw, .int (nI (tp2_2)), .int (bI (wr2_2)), .long dg])), (ms, .inl (G.2.1, 88, .inl (shD false s0 tx ln (rdS tx ln).2.1))), (mv, .inl (G.2.1, 528, .inl sv)), (mt, .inl (G.2.1, 60, .inl tx)), (mh, .inl (G.2.1, 21, .inl ht)), (mb, .inl (G.2.1, 21, .inl bu)), (mg, .inl (G.2.1, 21, .inl hg)), (mq, .inl (G.2.1, 21, .inl pq)), (ml, .inl (G.2.1, 21, .inl ld)), (mf, .inl (G.2.1, 20, .inl fo))] := hD
  have hfx_1 : (shD false s0 tx ln (rdS tx ln).2.1 : Nat → Int32) = s0 := rfl
  have hP : va_P G.1 vwCl [(m0, .inr (6, [.int (nI (th)), .ref ms, .ref mv, .int (nI (sm)), .ref mt, .int (nI (ln)), .ref mh, .ref mb, .ref mg, .ref mq, .ref ml, .ref mf, .int nw, .int fw, .int (nI (tp2_2)), .int (bI (wr2_2)), .long dg])), (ms, .inl (G.2.1, 88, .inl s0)), (mv, .inl (G.2.1, 528, .inl sv)), (mt, .inl (G.2.1, 60, .inl tx)), (mh, .inl (G.2.1, 21, .inl ht)), (mb, .inl (G.2.1, 21, .inl bu)), (mg, .inl (G.2.1, 21, .inl hg)), (mq, .inl (G.2.1, 21, .inl pq)), (ml, .inl (G.2.1, 21, .inl ld)), (mf, .inl (G.2.1, 20, .inl fo))] H := by rw [← hfx_1]; exact hP
  have hD : va_D A [(m0, .inr (6, [.int (nI (th)), .ref ms, .ref mv, .int (nI (sm)), .ref mt, .int (nI (ln)), .ref mh, .ref mb, .ref mg, .ref mq, .ref ml, .ref mf, .int nw, .int fw, .int (nI (tp2_2)), .int (bI (wr2_2)), .long dg])), (ms, .inl (G.2.1, 88, .inl s0)), (mv, .inl (G.2.1, 528, .inl sv)), (mt, .inl (G.2.1, 60, .inl tx)), (mh, .inl (G.2.1, 21, .inl ht)), (mb, .inl (G.2.1, 21, .inl bu)), (mg, .inl (G.2.1, 21, .inl hg)), (mq, .inl (G.2.1, 21, .inl pq)), (ml, .inl (G.2.1, 21, .inl ld)), (mf, .inl (G.2.1, 20, .inl fo))] := by rw [← hfx_1]; exact hD
  refine lv_istore_n (lv' := [(1, .int r_2), (0, .ref m0)]) hx hb dX6_shape_5 rfl hl (by decide) rfl (fun ls hl => ?_)
  refine lv_aload_n hx hb dX6_shape_6 rfl (lv_at hl 1 rfl) ?_
  refine lv_aload_n hx hb dX6_shape_7 rfl (lv_at hl 1 rfl) ?_
  refine va_get (D := G.1) (ci := 6) (v := .int (bI (wr2_2))) (C := RX6) (T := TX6) (N := 17) hx hb hts hinX6 hown hK hP 0 rfl rfl 15 (by decide) hf102 (fun _ h9 => h9) rfl dX6_shape_8 ?_
  refine lv_if_eq (tgt := 18) hx hb dX6_shape_11 (by decide) (fun c_11 => ?_) (fun c_11 => ?_)
  · skip
    refine lv_iconst (v := 0) hx hb dX6_shape_18 (by decide) ?_
    refine k_ci (wr := []) [] rfl (by decide) [0, 1, 2, 3, 4, 5, 6, 7, 8, 9] rfl (by decide) hP hD hS hA (k_V (n := 1) (ci := 6) (As := [.int 0]) (rest := []) (wc := [(m0, .inr (6, [.int (nI (th)), .ref ms, .ref mv, .int (nI (sm)), .ref mt, .int (nI (ln)), .ref mh, .ref mb, .ref mg, .ref mq, .ref ml, .ref mf, .int nw, .int fw, .int (nI (tp2_2)), .int (bI (wr2_2)), .long dg])), (ms, .inl (G.2.1, 88, .inl s0)), (mv, .inl (G.2.1, 528, .inl sv)), (mt, .inl (G.2.1, 60, .inl tx)), (mh, .inl (G.2.1, 21, .inl ht)), (mb, .inl (G.2.1, 21, .inl bu)), (mg, .inl (G.2.1, 21, .inl hg)), (mq, .inl (G.2.1, 21, .inl pq)), (ml, .inl (G.2.1, 21, .inl ld)), (mf, .inl (G.2.1, 20, .inl fo))]) hx hb hml hown hts hK hP hD hl (c_X6_holds l G m0 ms mv mt mh mb mg mq ml mf th s0 sv sm tx ln ht bu hg pq ld fo nw fw tp2_2 wr2_2 dg 0 H.size (by first | assumption | omega)) [0, 1, 2, 3, 4, 5, 6, 7, 8, 9] rfl (by decide) gX6_shape_X6_holds rfl rfl rfl (by decide +kernel) rfl ⟨Nat.le_of_ble_eq_true rfl, Nat.le_of_ble_eq_true rfl⟩ rfl rfl rfl (Nat.le_of_ble_eq_true rfl) dX6_shape_19 ⟨Nat.le_of_ble_eq_true rfl, Nat.le_of_ble_eq_true rfl⟩) (fun r_19 u H locs hw hP hD hS => ?_)
    have hw_19 : r_19 = bI (decide (0 = 0)) := hw
    have hP : va_P G.1 vwCl [(m0, .inr (6, [.int (nI (0)), .ref ms, .ref mv, .int (nI (sm)), .ref mt, .int (nI (ln)), .ref mh, .ref mb, .ref mg, .ref mq, .ref ml, .ref mf, .int nw, .int fw, .int (nI (tp2_2)), .int (bI (wr2_2)), .long dg])), (ms, .inl (G.2.1, 88, .inl s0)), (mv, .inl (G.2.1, 528, .inl sv)), (mt, .inl (G.2.1, 60, .inl tx)), (mh, .inl (G.2.1, 21, .inl ht)), (mb, .inl (G.2.1, 21, .inl bu)), (mg, .inl (G.2.1, 21, .inl hg)), (mq, .inl (G.2.1, 21, .inl pq)), (ml, .inl (G.2.1, 21, .inl ld)), (mf, .inl (G.2.1, 20, .inl fo))] H := hP
    have hD : va_D A [(m0, .inr (6, [.int (nI (0)), .ref ms, .ref mv, .int (nI (sm)), .ref mt, .int (nI (ln)), .ref mh, .ref mb, .ref mg, .ref mq, .ref ml, .ref mf, .int nw, .int fw, .int (nI (tp2_2)), .int (bI (wr2_2)), .long dg])), (ms, .inl (G.2.1, 88, .inl s0)), (mv, .inl (G.2.1, 528, .inl sv)), (mt, .inl (G.2.1, 60, .inl tx)), (mh, .inl (G.2.1, 21, .inl ht)), (mb, .inl (G.2.1, 21, .inl bu)), (mg, .inl (G.2.1, 21, .inl hg)), (mq, .inl (G.2.1, 21, .inl pq)), (ml, .inl (G.2.1, 21, .inl ld)), (mf, .inl (G.2.1, 20, .inl fo))] := hD
    subst hw_19
    refine g_ti (y := nI 1) (by rw [decide_eq_true (show (0 : Nat) = 0 from rfl)]; rfl) ?_
    refine g_if_ne (a := 1) (tgt := 27) hx hb (by omega) dX6_shape_22 (by decide) (fun c_22 => ?_) (fun c_22 => ?_)
    · skip
      refine lv_aload_n hx hb dX6_shape_27 rfl (lv_at hl 1 rfl) ?_
      refine k_cv (wr := []) [] rfl (by decide) [0, 1, 2, 3, 4, 5, 6, 7, 8, 9] rfl (by decide) hP hD hS hA (k_V (n := 0) (ci := 6) (As := []) (rest := []) (wc := [(m0, .inr (6, [.int (nI (0)), .ref ms, .ref mv, .int (nI (sm)), .ref mt, .int (nI (ln)), .ref mh, .ref mb, .ref mg, .ref mq, .ref ml, .ref mf, .int nw, .int fw, .int (nI (tp2_2)), .int (bI (wr2_2)), .long dg])), (ms, .inl (G.2.1, 88, .inl s0)), (mv, .inl (G.2.1, 528, .inl sv)), (mt, .inl (G.2.1, 60, .inl tx)), (mh, .inl (G.2.1, 21, .inl ht)), (mb, .inl (G.2.1, 21, .inl bu)), (mg, .inl (G.2.1, 21, .inl hg)), (mq, .inl (G.2.1, 21, .inl pq)), (ml, .inl (G.2.1, 21, .inl ld)), (mf, .inl (G.2.1, 20, .inl fo))]) hx hb hml hown hts hK hP hD hl (c_X6_save l G m0 ms mv mt mh mb mg mq ml mf 0 s0 sv sm tx ln ht bu hg pq ld fo nw fw tp2_2 wr2_2 dg H.size (by first | assumption | omega)) [0, 1, 2, 3, 4, 5, 6, 7, 8, 9] rfl (by decide) gX6_shape_X6_save rfl rfl rfl (by decide +kernel) rfl ⟨Nat.le_of_ble_eq_true rfl, Nat.le_of_ble_eq_true rfl⟩ rfl rfl rfl (Nat.le_of_ble_eq_true rfl) dX6_shape_28 ⟨Nat.le_of_ble_eq_true rfl, Nat.le_of_ble_eq_true rfl⟩) (fun u H locs hw hP hD hS => ?_)
      have hw_28 : True := hw
      have hP : va_P G.1 vwCl [(m0, .inr (6, [.int (nI (0)), .ref ms, .ref mv, .int (nI (mSM sm)), .ref mt, .int (nI (ln)), .ref mh, .ref mb, .ref mg, .ref mq, .ref ml, .ref mf, .int nw, .int fw, .int (nI (tp2_2)), .int (bI (wr2_2)), .long dg])), (ms, .inl (G.2.1, 88, .inl s0)), (mv, .inl (G.2.1, 528, .inl (mSV sv sm s0))), (mt, .inl (G.2.1, 60, .inl tx)), (mh, .inl (G.2.1, 21, .inl ht)), (mb, .inl (G.2.1, 21, .inl bu)), (mg, .inl (G.2.1, 21, .inl hg)), (mq, .inl (G.2.1, 21, .inl pq)), (ml, .inl (G.2.1, 21, .inl ld)), (mf, .inl (G.2.1, 20, .inl fo))] H := hP
      have hD : va_D A [(m0, .inr (6, [.int (nI (0)), .ref ms, .ref mv, .int (nI (mSM sm)), .ref mt, .int (nI (ln)), .ref mh, .ref mb, .ref mg, .ref mq, .ref ml, .ref mf, .int nw, .int fw, .int (nI (tp2_2)), .int (bI (wr2_2)), .long dg])), (ms, .inl (G.2.1, 88, .inl s0)), (mv, .inl (G.2.1, 528, .inl (mSV sv sm s0))), (mt, .inl (G.2.1, 60, .inl tx)), (mh, .inl (G.2.1, 21, .inl ht)), (mb, .inl (G.2.1, 21, .inl bu)), (mg, .inl (G.2.1, 21, .inl hg)), (mq, .inl (G.2.1, 21, .inl pq)), (ml, .inl (G.2.1, 21, .inl ld)), (mf, .inl (G.2.1, 20, .inl fo))] := hD
      refine lv_aload_n hx hb dX6_shape_31 rfl (lv_at hl 1 rfl) ?_
      refine va_get (D := G.1) (ci := 6) (v := .ref ms) (C := RX6) (T := TX6) (N := 17) hx hb hts hinX6 hown hK hP 0 rfl rfl 1 (by decide) hf7 (fun _ h9 => h9) rfl dX6_shape_32 ?_
      refine lv_iconst (v := 0) hx hb dX6_shape_35 (by decide) ?_
      refine g_iald (k := 0) hx hb hK hP 1 rfl (by omega) (by omega) dX6_shape_36 ?_
      refine g_ti (y := nI n) (hs0) ?_
      refine lv_istore_n (lv' := [(2, .int (nI n)), (1, .int r_2), (0, .ref m0)]) hx hb dX6_shape_37 rfl hl (by decide) rfl (fun ls hl => ?_)
      refine lv_aload_n hx hb dX6_shape_38 rfl (lv_at hl 2 rfl) ?_
      refine lv_iconst (v := 0) hx hb dX6_shape_39 (by decide) ?_
      refine k_cv (wr := []) [] rfl (by decide) [0, 1, 2, 3, 4, 5, 6, 7, 8, 9] rfl (by decide) hP hD hS hA (k_V (n := 1) (ci := 6) (As := [.int 0]) (rest := []) (wc := [(m0, .inr (6, [.int (nI (0)), .ref ms, .ref mv, .int (nI ((mSM sm))), .ref mt, .int (nI (ln)), .ref mh, .ref mb, .ref mg, .ref mq, .ref ml, .ref mf, .int nw, .int fw, .int (nI (tp2_2)), .int (bI (wr2_2)), .long dg])), (ms, .inl (G.2.1, 88, .inl s0)), (mv, .inl (G.2.1, 528, .inl (mSV sv sm s0))), (mt, .inl (G.2.1, 60, .inl tx)), (mh, .inl (G.2.1, 21, .inl ht)), (mb, .inl (G.2.1, 21, .inl bu)), (mg, .inl (G.2.1, 21, .inl hg)), (mq, .inl (G.2.1, 21, .inl pq)), (ml, .inl (G.2.1, 21, .inl ld)), (mf, .inl (G.2.1, 20, .inl fo))]) hx hb hml hown hts hK hP hD hl (c_X6_noMore l G m0 ms mv mt mh mb mg mq ml mf 0 s0 (mSV sv sm s0) (mSM sm) tx ln ht bu hg pq ld fo nw fw tp2_2 wr2_2 dg 0 H.size (by first | assumption | omega)) [0, 1, 2, 3, 4, 5, 6, 7, 8, 9] rfl (by decide) gX6_shape_X6_noMore rfl rfl rfl (by decide +kernel) rfl ⟨Nat.le_of_ble_eq_true rfl, Nat.le_of_ble_eq_true rfl⟩ rfl rfl rfl (Nat.le_of_ble_eq_true rfl) dX6_shape_40 ⟨Nat.le_of_ble_eq_true rfl, Nat.le_of_ble_eq_true rfl⟩) (fun u H locs hw hP hD hS => ?_)
      have hw_40 : True := hw
      have hP : va_P G.1 vwCl [(m0, .inr (6, [.int (nI (0)), .ref ms, .ref mv, .int (nI ((mSM sm))), .ref mt, .int (nI (ln)), .ref mh, .ref mb, .ref mg, .ref mq, .ref ml, .ref mf, .int nw, .int fw, .int (nI (tp2_2)), .int (bI (wr2_2)), .long dg])), (ms, .inl (G.2.1, 88, .inl (noM s0 0))), (mv, .inl (G.2.1, 528, .inl (mSV sv sm s0))), (mt, .inl (G.2.1, 60, .inl tx)), (mh, .inl (G.2.1, 21, .inl ht)), (mb, .inl (G.2.1, 21, .inl bu)), (mg, .inl (G.2.1, 21, .inl hg)), (mq, .inl (G.2.1, 21, .inl pq)), (ml, .inl (G.2.1, 21, .inl ld)), (mf, .inl (G.2.1, 20, .inl fo))] H := hP
      have hD : va_D A [(m0, .inr (6, [.int (nI (0)), .ref ms, .ref mv, .int (nI ((mSM sm))), .ref mt, .int (nI (ln)), .ref mh, .ref mb, .ref mg, .ref mq, .ref ml, .ref mf, .int nw, .int fw, .int (nI (tp2_2)), .int (bI (wr2_2)), .long dg])), (ms, .inl (G.2.1, 88, .inl (noM s0 0))), (mv, .inl (G.2.1, 528, .inl (mSV sv sm s0))), (mt, .inl (G.2.1, 60, .inl tx)), (mh, .inl (G.2.1, 21, .inl ht)), (mb, .inl (G.2.1, 21, .inl bu)), (mg, .inl (G.2.1, 21, .inl hg)), (mq, .inl (G.2.1, 21, .inl pq)), (ml, .inl (G.2.1, 21, .inl ld)), (mf, .inl (G.2.1, 20, .inl fo))] := hD
      refine lv_aload_n hx hb dX6_shape_43 rfl (lv_at hl 2 rfl) ?_
      refine va_get (D := G.1) (ci := 6) (v := .ref ms) (C := RX6) (T := TX6) (N := 17) hx hb hts hinX6 hown hK hP 0 rfl rfl 1 (by decide) hf7 (fun _ h9 => h9) rfl dX6_shape_44 ?_
      refine lv_iconst (v := 0) hx hb dX6_shape_47 (by decide) ?_
      refine lv_aload_n hx hb dX6_shape_48 rfl (lv_at hl 2 rfl) ?_
      refine lv_iconst (v := 1) hx hb dX6_shape_49 (by decide) ?_
      refine k_ci (wr := []) [] rfl (by decide) [0, 1, 2, 3, 4, 5, 6, 7, 8, 9] rfl (by decide) hP hD hS hA (k_V (n := 1) (ci := 6) (As := [.int 1]) (rest := [.int 0, .ref ms]) (wc := [(m0, .inr (6, [.int (nI (0)), .ref ms, .ref mv, .int (nI ((mSM sm))), .ref mt, .int (nI (ln)), .ref mh, .ref mb, .ref mg, .ref mq, .ref ml, .ref mf, .int nw, .int fw, .int (nI (tp2_2)), .int (bI (wr2_2)), .long dg])), (ms, .inl (G.2.1, 88, .inl (noM s0 0))), (mv, .inl (G.2.1, 528, .inl (mSV sv sm s0))), (mt, .inl (G.2.1, 60, .inl tx)), (mh, .inl (G.2.1, 21, .inl ht)), (mb, .inl (G.2.1, 21, .inl bu)), (mg, .inl (G.2.1, 21, .inl hg)), (mq, .inl (G.2.1, 21, .inl pq)), (ml, .inl (G.2.1, 21, .inl ld)), (mf, .inl (G.2.1, 20, .inl fo))]) hx hb hml hown hts hK hP hD hl (c_X6_go l G m0 ms mv mt mh mb mg mq ml mf 0 (noM s0 0) (mSV sv sm s0) (mSM sm) tx ln ht bu hg pq ld fo nw fw tp2_2 wr2_2 dg true H.size (by first | assumption | omega) (fun _ => hG)) [0, 1, 2, 3, 4, 5, 6, 7, 8, 9] rfl (by decide) gX6_shape_X6_go rfl rfl rfl (by decide +kernel) rfl ⟨Nat.le_of_ble_eq_true rfl, Nat.le_of_ble_eq_true rfl⟩ rfl rfl rfl (Nat.le_of_ble_eq_true rfl) dX6_shape_50 ⟨Nat.le_of_ble_eq_true rfl, Nat.le_of_ble_eq_true rfl⟩) (fun r_50 u H locs hw hP hD hS => ?_)
      obtain ⟨tp2_50, wr2_50⟩ := u
      have hw_50 : pO tx ln tp2_50 wr2_50 r_50 := hw
      have hP : va_P G.1 vwCl [(m0, .inr (6, [.int (nI (0)), .ref ms, .ref mv, .int (nI ((mSM sm))), .ref mt, .int (nI (ln)), .ref mh, .ref mb, .ref mg, .ref mq, .ref ml, .ref mf, .int nw, .int fw, .int (nI (tp2_50)), .int (bI (wr2_50)), .long dg])), (ms, .inl (G.2.1, 88, .inl (shD true (noM s0 0) tx ln (rdS tx ln).2.1))), (mv, .inl (G.2.1, 528, .inl (mSV sv sm s0))), (mt, .inl (G.2.1, 60, .inl tx)), (mh, .inl (G.2.1, 21, .inl ht)), (mb, .inl (G.2.1, 21, .inl bu)), (mg, .inl (G.2.1, 21, .inl hg)), (mq, .inl (G.2.1, 21, .inl pq)), (ml, .inl (G.2.1, 21, .inl ld)), (mf, .inl (G.2.1, 20, .inl fo))] H := hP
      have hD : va_D A [(m0, .inr (6, [.int (nI (0)), .ref ms, .ref mv, .int (nI ((mSM sm))), .ref mt, .int (nI (ln)), .ref mh, .ref mb, .ref mg, .ref mq, .ref ml, .ref mf, .int nw, .int fw, .int (nI (tp2_50)), .int (bI (wr2_50)), .long dg])), (ms, .inl (G.2.1, 88, .inl (shD true (noM s0 0) tx ln (rdS tx ln).2.1))), (mv, .inl (G.2.1, 528, .inl (mSV sv sm s0))), (mt, .inl (G.2.1, 60, .inl tx)), (mh, .inl (G.2.1, 21, .inl ht)), (mb, .inl (G.2.1, 21, .inl bu)), (mg, .inl (G.2.1, 21, .inl hg)), (mq, .inl (G.2.1, 21, .inl pq)), (ml, .inl (G.2.1, 21, .inl ld)), (mf, .inl (G.2.1, 20, .inl fo))] := hD
      obtain ⟨hw2, hr2⟩ := pO_g hw_50 hG
      refine g_ti (y := nI ((rdS tx ln).2.1)) (hr2) ?_
      refine g_iast (k := 0) hx hb hK hP hD hS 1 rfl (by omega) (by omega) dX6_shape_53 (fun H locs hP hD hS => ?_)
      have hP : va_P G.1 vwCl [(m0, .inr (6, [.int (nI (0)), .ref ms, .ref mv, .int (nI ((mSM sm))), .ref mt, .int (nI (ln)), .ref mh, .ref mb, .ref mg, .ref mq, .ref ml, .ref mf, .int nw, .int fw, .int (nI (tp2_50)), .int (bI (wr2_50)), .long dg])), (ms, .inl (G.2.1, 88, .inl (upd (shD true (noM s0 0) tx ln (rdS tx ln).2.1) 0 (nI ((rdS tx ln).2.1))))), (mv, .inl (G.2.1, 528, .inl (mSV sv sm s0))), (mt, .inl (G.2.1, 60, .inl tx)), (mh, .inl (G.2.1, 21, .inl ht)), (mb, .inl (G.2.1, 21, .inl bu)), (mg, .inl (G.2.1, 21, .inl hg)), (mq, .inl (G.2.1, 21, .inl pq)), (ml, .inl (G.2.1, 21, .inl ld)), (mf, .inl (G.2.1, 20, .inl fo))] H := hP
      have hD : va_D A [(m0, .inr (6, [.int (nI (0)), .ref ms, .ref mv, .int (nI ((mSM sm))), .ref mt, .int (nI (ln)), .ref mh, .ref mb, .ref mg, .ref mq, .ref ml, .ref mf, .int nw, .int fw, .int (nI (tp2_50)), .int (bI (wr2_50)), .long dg])), (ms, .inl (G.2.1, 88, .inl (upd (shD true (noM s0 0) tx ln (rdS tx ln).2.1) 0 (nI ((rdS tx ln).2.1))))), (mv, .inl (G.2.1, 528, .inl (mSV sv sm s0))), (mt, .inl (G.2.1, 60, .inl tx)), (mh, .inl (G.2.1, 21, .inl ht)), (mb, .inl (G.2.1, 21, .inl bu)), (mg, .inl (G.2.1, 21, .inl hg)), (mq, .inl (G.2.1, 21, .inl pq)), (ml, .inl (G.2.1, 21, .inl ld)), (mf, .inl (G.2.1, 20, .inl fo))] := hD
      refine lv_aload_n hx hb dX6_shape_54 rfl (lv_at hl 2 rfl) ?_
      refine lv_iconst (v := 0) hx hb dX6_shape_55 (by decide) ?_
      refine va_put (D := G.1) (ci := 6) (v := .int 0) (ty := .int) (C := RX6) (T := TX6) (N := 17) hx hb hts hinX6 tyX6 tyX6_ok nmX6 hown hK hP hD hS 0 rfl rfl 5 (by decide) hf96 (fun _ h9 => h9) rfl (by decide +kernel) (rfl) (rfl) (Nat.le_of_ble_eq_true rfl) dX6_shape_56 (fun H locs hP hD hS => ?_)
      have hP : va_P G.1 vwCl [(m0, .inr (6, [.int (nI (0)), .ref ms, .ref mv, .int (nI ((mSM sm))), .ref mt, .int 0, .ref mh, .ref mb, .ref mg, .ref mq, .ref ml, .ref mf, .int nw, .int fw, .int (nI (tp2_50)), .int (bI (wr2_50)), .long dg])), (ms, .inl (G.2.1, 88, .inl (upd (shD true (noM s0 0) tx ln (rdS tx ln).2.1) 0 (nI ((rdS tx ln).2.1))))), (mv, .inl (G.2.1, 528, .inl (mSV sv sm s0))), (mt, .inl (G.2.1, 60, .inl tx)), (mh, .inl (G.2.1, 21, .inl ht)), (mb, .inl (G.2.1, 21, .inl bu)), (mg, .inl (G.2.1, 21, .inl hg)), (mq, .inl (G.2.1, 21, .inl pq)), (ml, .inl (G.2.1, 21, .inl ld)), (mf, .inl (G.2.1, 20, .inl fo))] H := hP
      have hD : va_D A [(m0, .inr (6, [.int (nI (0)), .ref ms, .ref mv, .int (nI ((mSM sm))), .ref mt, .int 0, .ref mh, .ref mb, .ref mg, .ref mq, .ref ml, .ref mf, .int nw, .int fw, .int (nI (tp2_50)), .int (bI (wr2_50)), .long dg])), (ms, .inl (G.2.1, 88, .inl (upd (shD true (noM s0 0) tx ln (rdS tx ln).2.1) 0 (nI ((rdS tx ln).2.1))))), (mv, .inl (G.2.1, 528, .inl (mSV sv sm s0))), (mt, .inl (G.2.1, 60, .inl tx)), (mh, .inl (G.2.1, 21, .inl ht)), (mb, .inl (G.2.1, 21, .inl bu)), (mg, .inl (G.2.1, 21, .inl hg)), (mq, .inl (G.2.1, 21, .inl pq)), (ml, .inl (G.2.1, 21, .inl ld)), (mf, .inl (G.2.1, 20, .inl fo))] := hD
      refine lv_iload_n hx hb dX6_shape_59 rfl (lv_at hl 0 rfl) ?_
      have hfx_2 : (upd (shD true (noM s0 0) tx ln (rdS tx ln).2.1) 0 (nI ((rdS tx ln).2.1)) : Nat → Int32) = mShp s0 tx ln := rfl
      have hP : va_P G.1 vwCl [(m0, .inr (6, [.int (nI (0)), .ref ms, .ref mv, .int (nI ((mSM sm))), .ref mt, .int 0, .ref mh, .ref mb, .ref mg, .ref mq, .ref ml, .ref mf, .int nw, .int fw, .int (nI (tp2_50)), .int (bI (wr2_50)), .long dg])), (ms, .inl (G.2.1, 88, .inl (mShp s0 tx ln))), (mv, .inl (G.2.1, 528, .inl (mSV sv sm s0))), (mt, .inl (G.2.1, 60, .inl tx)), (mh, .inl (G.2.1, 21, .inl ht)), (mb, .inl (G.2.1, 21, .inl bu)), (mg, .inl (G.2.1, 21, .inl hg)), (mq, .inl (G.2.1, 21, .inl pq)), (ml, .inl (G.2.1, 21, .inl ld)), (mf, .inl (G.2.1, 20, .inl fo))] H := by rw [← hfx_2]; exact hP
      have hD : va_D A [(m0, .inr (6, [.int (nI (0)), .ref ms, .ref mv, .int (nI ((mSM sm))), .ref mt, .int 0, .ref mh, .ref mb, .ref mg, .ref mq, .ref ml, .ref mf, .int nw, .int fw, .int (nI (tp2_50)), .int (bI (wr2_50)), .long dg])), (ms, .inl (G.2.1, 88, .inl (mShp s0 tx ln))), (mv, .inl (G.2.1, 528, .inl (mSV sv sm s0))), (mt, .inl (G.2.1, 60, .inl tx)), (mh, .inl (G.2.1, 21, .inl ht)), (mb, .inl (G.2.1, 21, .inl bu)), (mg, .inl (G.2.1, 21, .inl hg)), (mq, .inl (G.2.1, 21, .inl pq)), (ml, .inl (G.2.1, 21, .inl ld)), (mf, .inl (G.2.1, 20, .inl fo))] := by rw [← hfx_2]; exact hD
      rw [hQ]
      exact k_iret (v := nI n) (tp2_50, wr2_50) [0, 1, 2, 3, 4, 5, 6, 7, 8, 9] hx hb hr hlocks (rfl) hK hP hD hS rfl (by decide) dX6_shape_60
    · exact absurd c_22 (by decide)
  · exact absurd (by rw [(pO_g hw_2 hG).1]; rfl) c_11
