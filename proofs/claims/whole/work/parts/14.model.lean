/-! # the reference's reading of a shape, and that it goes as the automaton goes -/
theorem nar_b (b : Bool) : narrow .boolean (.int (bI b)) = .int (bI b) := by cases b <;> rfl
theorem fit_b (b : Bool) : fits .boolean (.int (bI b)) = true := by cases b <;> rfl
theorem bI_y {b : Bool} (c : ¬ bI b = 0) : b = true := bI_t rfl c
theorem bI_n {b : Bool} (c : bI b = 0) : b = false := bI_f rfl c
theorem bI_nt {b : Bool} (c : bI b = 0) : ¬ b = true := by rw [bI_n c]; decide
section PR
variable (tx : Fn) (ln : Nat)
def pC (k : Nat) : Int32 := if k < ln then tx k else 0
def pS (lo hi : Int32) (P : Nat × Bool) : Nat × Bool := if P.2 = true ∨ ¬ (lo ≤ pC tx ln P.1 ∧ pC tx ln P.1 ≤ hi) then (P.1, true) else (P.1 + 1, false)
def pN (lo hi : Int32) (P : Nat × Bool) : Bool := decide (P.2 = false ∧ P.1 < ln ∧ lo ≤ tx P.1 ∧ tx P.1 ≤ hi)
def p1 (j k : Nat) : Nat × Bool := if j = 20 ∨ ¬ (pC tx ln k = 61 ∨ pC tx ln k = 94 ∨ pC tx ln k = 118) then (k, true) else (k + 1, false)
def p2 (j k : Nat) : Bool := decide (¬ pC tx ln k = 61 ∧ pN tx ln 50 50 (p1 tx ln j k) = true)
def p3 (j k : Nat) : Nat × Bool := if p2 tx ln j k = true then pS tx ln 50 50 (p1 tx ln j k) else p1 tx ln j k
def pSp (j k : Nat) : Int32 := if p2 tx ln j k = true then 2 else 1
def pSt (j k : Nat) : Int32 := if pC tx ln k = 61 then 0 else if pC tx ln k = 94 then pSp tx ln j k else -(pSp tx ln j k)
def p5 (P : Nat × Bool) : Nat × Bool := pS tx ln 49 57 (pS tx ln 91 91 P)
def w5 (P : Nat × Bool) : Int32 := pC tx ln (pS tx ln 91 91 P).1 - 48
def p6 (P : Nat × Bool) : Nat × Bool := if pN tx ln 48 57 (p5 tx ln P) = true then pS tx ln 48 57 (p5 tx ln P) else p5 tx ln P
def w6 (P : Nat × Bool) : Int32 := if pN tx ln 48 57 (p5 tx ln P) = true then 10 * w5 tx ln P + pC tx ln (p5 tx ln P).1 - 48 else w5 tx ln P
def pB (P : Nat × Bool) : Nat × Bool := if pN tx ln 91 91 P = true then pS tx ln 93 93 (p6 tx ln P) else P
def wB (P : Nat × Bool) : Int32 := if pN tx ln 91 91 P = true then w6 tx ln P else 0
def pE (j k : Nat) : Nat × Bool := pB tx ln (p3 tx ln j k)
def pW (j k : Nat) : Int32 := wB tx ln (p3 tx ln j k)
end PR
def rlS (s : Fn) (j : Nat) (x w : Int32) : Fn := upd (noM (upd s (5 + j) x) (j + 1)) (25 + j + 1) w
section PP
variable {tx : Fn} {ln : Nat} {lo hi : Int32} {k j i m : Nat} {P : Nat × Bool} {w : Bool}
theorem pC_t (h : k < ln) : tx k = pC tx ln k := (if_pos h).symm
theorem pC_f (h : ln ≤ k) : (0 : Int32) = pC tx ln k := (if_neg (Nat.not_lt.mpr h)).symm
theorem pC_in (h : k < ln) : pC tx ln k = tx k := if_pos h
theorem pS_t (h : w = true ∨ ¬ (lo ≤ pC tx ln k ∧ pC tx ln k ≤ hi)) : pS tx ln lo hi (k, w) = (k, true) := if_pos h
theorem pS_f (h : ¬ (w = true ∨ ¬ (lo ≤ pC tx ln k ∧ pC tx ln k ≤ hi))) : pS tx ln lo hi (k, w) = (k + 1, false) := if_neg h
theorem pS_w1 (c : ¬ bI w = 0) : (1 : Int32) = bI (pS tx ln lo hi (k, w)).2 := by rw [pS_t (Or.inl (bI_y c))]; rfl
theorem pS_w2 (c : bI (decide (lo ≤ pC tx ln k ∧ pC tx ln k ≤ hi)) = 0) : (1 : Int32) = bI (pS tx ln lo hi (k, w)).2 := by rw [pS_t (Or.inr (of_decide_eq_false (bI_n c)))]; rfl
theorem pS_w3 (c : bI w = 0) (c2 : ¬ bI (decide (lo ≤ pC tx ln k ∧ pC tx ln k ≤ hi)) = 0) : (0 : Int32) = bI (pS tx ln lo hi (k, w)).2 := by
  rw [pS_f (fun q => q.elim (bI_nt c) (fun r => r (of_decide_eq_true (bI_y c2))))]
  rfl
theorem pS_cases (lo hi : Int32) (k : Nat) (w : Bool) : pS tx ln lo hi (k, w) = (k, true) ∨ pS tx ln lo hi (k, w) = (k + 1, false) := by
  by_cases h : w = true ∨ ¬ (lo ≤ pC tx ln k ∧ pC tx ln k ≤ hi)
  · exact Or.inl (pS_t h)
  · exact Or.inr (pS_f h)
theorem pS_a1 (c : bI (pS tx ln lo hi (k, w)).2 = 0) : k + 1 = (pS tx ln lo hi (k, w)).1 := by
  rcases pS_cases (tx := tx) (ln := ln) lo hi k w with h | h
  · rw [h] at c
    exact absurd (show bI true = 0 from c) (by decide)
  · rw [h]
theorem pS_a0 (c : ¬ bI (pS tx ln lo hi (k, w)).2 = 0) : k + 0 = (pS tx ln lo hi (k, w)).1 := by
  rcases pS_cases (tx := tx) (ln := ln) lo hi k w with h | h
  · rw [h]
    rfl
  · rw [h] at c
    exact absurd (show bI false = 0 from rfl) c
theorem pS_le (hlo : 1 ≤ lo) (h : P.1 ≤ ln) : (pS tx ln lo hi P).1 ≤ ln := by
  unfold pS
  by_cases q : P.2 = true ∨ ¬ (lo ≤ pC tx ln P.1 ∧ pC tx ln P.1 ≤ hi)
  · rw [if_pos q]; exact h
  · rw [if_neg q]
    show P.1 + 1 ≤ ln
    rcases Nat.lt_or_ge P.1 ln with r | r
    · exact r
    · refine absurd (Or.inr fun z => ?_) q
      have e : pC tx ln P.1 = 0 := (pC_f r).symm
      rw [e] at z
      exact absurd (Int32.le_trans hlo z.1) (by decide)
theorem pN_1 (c1 : bI w = 0) (c2 : k < ln) (c3 : ¬ bI (decide (lo ≤ tx k ∧ tx k ≤ hi)) = 0) : (1 : Int32) = bI (pN tx ln lo hi (k, w)) := by
  have h := of_decide_eq_true (bI_y c3)
  unfold pN
  rw [decide_eq_true (show (k, w).2 = false ∧ (k, w).1 < ln ∧ lo ≤ tx (k, w).1 ∧ tx (k, w).1 ≤ hi from ⟨bI_n c1, c2, h.1, h.2⟩)]
  rfl
theorem pN_0 (h : ¬ (w = false ∧ k < ln ∧ lo ≤ tx k ∧ tx k ≤ hi)) : pN tx ln lo hi (k, w) = false := decide_eq_false h
theorem pN_a (c1 : ¬ bI w = 0) : (0 : Int32) = bI (pN tx ln lo hi (k, w)) := by rw [pN_0 (fun q => by rw [bI_y c1] at q; exact absurd q.1 (by decide))]; rfl
theorem pN_b (c2 : ln ≤ k) : (0 : Int32) = bI (pN tx ln lo hi (k, w)) := by rw [pN_0 (fun q => absurd q.2.1 (Nat.not_lt.mpr c2))]; rfl
theorem pN_c (c3 : bI (decide (lo ≤ tx k ∧ tx k ≤ hi)) = 0) : (0 : Int32) = bI (pN tx ln lo hi (k, w)) := by rw [pN_0 (fun q => of_decide_eq_false (bI_n c3) q.2.2)]; rfl
theorem p1_t (h : j = 20 ∨ ¬ (pC tx ln k = 61 ∨ pC tx ln k = 94 ∨ pC tx ln k = 118)) : p1 tx ln j k = (k, true) := if_pos h
theorem p1_f (h : ¬ (j = 20 ∨ ¬ (pC tx ln k = 61 ∨ pC tx ln k = 94 ∨ pC tx ln k = 118))) : p1 tx ln j k = (k + 1, false) := if_neg h
theorem p1_w1 (h : j = 20) : (1 : Int32) = bI (p1 tx ln j k).2 := by rw [p1_t (Or.inl h)]; rfl
theorem p1_w2 (a : ¬ pC tx ln k = 61) (b : ¬ pC tx ln k = 94) (c : ¬ pC tx ln k = 118) : (1 : Int32) = bI (p1 tx ln j k).2 := by rw [p1_t (Or.inr (fun q => q.elim a (fun q => q.elim b c)))]; rfl
theorem p1_w3 (h : ¬ j = 20) (a : pC tx ln k = 61 ∨ pC tx ln k = 94 ∨ pC tx ln k = 118) : (0 : Int32) = bI (p1 tx ln j k).2 := by rw [p1_f (fun q => q.elim h (fun r => r a))]; rfl
theorem p1_cases (j k : Nat) : p1 tx ln j k = (k, true) ∨ p1 tx ln j k = (k + 1, false) := by
  by_cases h : j = 20 ∨ ¬ (pC tx ln k = 61 ∨ pC tx ln k = 94 ∨ pC tx ln k = 118)
  · exact Or.inl (p1_t h)
  · exact Or.inr (p1_f h)
theorem p1_a1 (c : bI (p1 tx ln j k).2 = 0) : k + 1 = (p1 tx ln j k).1 := by
  rcases p1_cases (tx := tx) (ln := ln) j k with h | h
  · rw [h] at c
    exact absurd (show bI true = 0 from c) (by decide)
  · rw [h]
theorem p1_a0 (c : ¬ bI (p1 tx ln j k).2 = 0) : k + 0 = (p1 tx ln j k).1 := by
  rcases p1_cases (tx := tx) (ln := ln) j k with h | h
  · rw [h]
    rfl
  · rw [h] at c
    exact absurd (show bI false = 0 from rfl) c
theorem p1_le (h : k ≤ ln) : (p1 tx ln j k).1 ≤ ln := by
  unfold p1
  by_cases q : j = 20 ∨ ¬ (pC tx ln k = 61 ∨ pC tx ln k = 94 ∨ pC tx ln k = 118)
  · rw [if_pos q]; exact h
  · rw [if_neg q]
    show k + 1 ≤ ln
    rcases Nat.lt_or_ge k ln with r | r
    · exact r
    · refine absurd (Or.inr fun z => ?_) q
      rw [show pC tx ln k = 0 from (pC_f r).symm] at z
      exact absurd z (by decide)
theorem p2_0a (c : pC tx ln k = 61) : (0 : Int32) = bI (p2 tx ln j k) := by
  unfold p2
  rw [decide_eq_false (fun q => q.1 c)]; rfl
theorem p2_0b (c : bI (pN tx ln 50 50 (p1 tx ln j k)) = 0) : (0 : Int32) = bI (p2 tx ln j k) := by
  unfold p2
  rw [decide_eq_false (fun q => bI_nt c q.2)]; rfl
theorem p2_1 (a : ¬ pC tx ln k = 61) (c : ¬ bI (pN tx ln 50 50 (p1 tx ln j k)) = 0) : (1 : Int32) = bI (p2 tx ln j k) := by
  unfold p2
  rw [decide_eq_true ⟨a, bI_y c⟩]; rfl
theorem p3_t (c : ¬ bI (p2 tx ln j k) = 0) : p3 tx ln j k = pS tx ln 50 50 (p1 tx ln j k) := if_pos (bI_y c)
theorem p3_f (c : bI (p2 tx ln j k) = 0) : p3 tx ln j k = p1 tx ln j k := if_neg (bI_nt c)
theorem p3_le (h : k ≤ ln) : (p3 tx ln j k).1 ≤ ln := by
  unfold p3
  split
  · exact pS_le (by decide) (p1_le h)
  · exact p1_le h
theorem pSp_t (c : ¬ bI (p2 tx ln j k) = 0) : (2 : Int32) = pSp tx ln j k := (if_pos (bI_y c)).symm
theorem pSp_f (c : bI (p2 tx ln j k) = 0) : (1 : Int32) = pSp tx ln j k := (if_neg (bI_nt c)).symm
theorem pSt_0 (c : pC tx ln k = 61) : (0 : Int32) = pSt tx ln j k := (if_pos c).symm
theorem pSt_1 (c : ¬ pC tx ln k = 61) (d : pC tx ln k = 94) : pSp tx ln j k = pSt tx ln j k := by unfold pSt; rw [if_neg c, if_pos d]
theorem pSt_2 (c : ¬ pC tx ln k = 61) (d : ¬ pC tx ln k = 94) : -(pSp tx ln j k) = pSt tx ln j k := by unfold pSt; rw [if_neg c, if_neg d]
theorem p5_le (h : P.1 ≤ ln) : (p5 tx ln P).1 ≤ ln := pS_le (by decide) (pS_le (by decide) h)
theorem p6_t (c : ¬ bI (pN tx ln 48 57 (p5 tx ln P)) = 0) : p6 tx ln P = pS tx ln 48 57 (p5 tx ln P) := if_pos (bI_y c)
theorem p6_f (c : bI (pN tx ln 48 57 (p5 tx ln P)) = 0) : p6 tx ln P = p5 tx ln P := if_neg (bI_nt c)
theorem w6_t (c : ¬ bI (pN tx ln 48 57 (p5 tx ln P)) = 0) : 10 * w5 tx ln P + pC tx ln (p5 tx ln P).1 - 48 = w6 tx ln P := (if_pos (bI_y c)).symm
theorem w6_f (c : bI (pN tx ln 48 57 (p5 tx ln P)) = 0) : w5 tx ln P = w6 tx ln P := (if_neg (bI_nt c)).symm
theorem p6_le (h : P.1 ≤ ln) : (p6 tx ln P).1 ≤ ln := by
  unfold p6
  split
  · exact pS_le (by decide) (p5_le h)
  · exact p5_le h
theorem pB_t (c : ¬ bI (pN tx ln 91 91 P) = 0) : pB tx ln P = pS tx ln 93 93 (p6 tx ln P) := if_pos (bI_y c)
theorem pB_f (c : bI (pN tx ln 91 91 P) = 0) : pB tx ln P = P := if_neg (bI_nt c)
theorem wB_t (c : ¬ bI (pN tx ln 91 91 P) = 0) : w6 tx ln P = wB tx ln P := (if_pos (bI_y c)).symm
theorem wB_f (c : bI (pN tx ln 91 91 P) = 0) : (0 : Int32) = wB tx ln P := (if_neg (bI_nt c)).symm
end PP
set_option maxHeartbeats 4000000 in
set_option maxRecDepth 100000 in
theorem c_X6_sign (l : Launch) (G : kG) (m0 : Nat) (ms : Nat) (mv : Nat) (mt : Nat) (mh : Nat) (mb : Nat) (mg : Nat) (mq : Nat) (ml : Nat) (mf : Nat) (th : Nat) (s0 : Fn) (sv : Fn) (sm : Nat) (tx : Fn) (ln : Nat) (ht : Fn) (bu : Fn) (hg : Fn) (pq : Fn) (ld : Fn) (fo : Fn) (nw : Int32) (fw : Int32) (tp : Nat) (wr : Bool) (dg : Int64) (lo : Int32) (hi : Int32) (sz : Nat) (hln : ln ≤ 60) (htp : tp ≤ 60) : kMet l yX6_sign wsX6_sign ({ frames := 1, cells := 0, slots := 0, locals := 22 } : Room) G [.ref m0, .int lo, .int hi] [(m0, .inr (6, [.int (nI (th)), .ref ms, .ref mv, .int (nI (sm)), .ref mt, .int (nI (ln)), .ref mh, .ref mb, .ref mg, .ref mq, .ref ml, .ref mf, .int nw, .int fw, .int (nI (tp)), .int (bI (wr)), .long dg])), (ms, .inl (G.2.1, 88, .inl s0)), (mv, .inl (G.2.1, 528, .inl sv)), (mt, .inl (G.2.1, 60, .inl tx)), (mh, .inl (G.2.1, 21, .inl ht)), (mb, .inl (G.2.1, 21, .inl bu)), (mg, .inl (G.2.1, 21, .inl hg)), (mq, .inl (G.2.1, 21, .inl pq)), (ml, .inl (G.2.1, 21, .inl ld)), (mf, .inl (G.2.1, 20, .inl fo))] sz (kQi G (fun (r : Int32) (u : Unit) => r = pC tx ln tp) (fun (u : Unit) => [(m0, .inr (6, [.int (nI (th)), .ref ms, .ref mv, .int (nI (sm)), .ref mt, .int (nI (ln)), .ref mh, .ref mb, .ref mg, .ref mq, .ref ml, .ref mf, .int nw, .int fw, .int (nI ((pS tx ln lo hi (tp, wr)).1)), .int (bI ((pS tx ln lo hi (tp, wr)).2)), .long dg])), (ms, .inl (G.2.1, 88, .inl s0)), (mv, .inl (G.2.1, 528, .inl sv)), (mt, .inl (G.2.1, 60, .inl tx)), (mh, .inl (G.2.1, 21, .inl ht)), (mb, .inl (G.2.1, 21, .inl bu)), (mg, .inl (G.2.1, 21, .inl hg)), (mq, .inl (G.2.1, 21, .inl pq)), (ml, .inl (G.2.1, 21, .inl ld)), (mf, .inl (G.2.1, 20, .inl fo))])) 0 0 := by
  refine k_entry (cc := cX6_sign) (maxL := 4) (ret := (some .int)) (by decide) rfl (Nat.le_of_ble_eq_true rfl) ?_
  intro p e s m args below meth c A ls H locs Q hQ hx hb hml hr hts hown hlocks hin hA hP hK hD hS hl
  have hown : s.vm.findClass RX6 = some m.cls := hown
  have hl : lv_has ls 4 [(0, .ref m0), (1, .int lo), (2, .int hi)] := hl
  have hf99 := hts (.fieldLink RX6 99 "HangingChainModel" "at" "I") (by decide +kernel)
  have hinX6 : ∀ w ∈ wsX60, w ∈ wsX6_sign := by decide +kernel
  have hf96 := hts (.fieldLink RX6 96 "HangingChainModel" "length" "I") (by decide +kernel)
  have hf102 := hts (.fieldLink RX6 102 "HangingChainModel" "isWrong" "Z") (by decide +kernel)
  have hf16 := hts (.fieldLink RX6 16 "HangingChainModel" "text" "[I") (by decide +kernel)
  refine lv_aload_n hx hb dX6_sign_0 rfl (lv_at hl 0 rfl) ?_
  refine va_get (D := G.1) (ci := 6) (v := .int (nI (tp))) (C := RX6) (T := TX6) (N := 17) hx hb hts hinX6 hown hK hP 0 rfl rfl 14 (by decide) hf99 (fun _ h9 => h9) rfl dX6_sign_1 ?_
  refine lv_aload_n hx hb dX6_sign_4 rfl (lv_at hl 0 rfl) ?_
  refine va_get (D := G.1) (ci := 6) (v := .int (nI (ln))) (C := RX6) (T := TX6) (N := 17) hx hb hts hinX6 hown hK hP 0 rfl rfl 5 (by decide) hf96 (fun _ h9 => h9) rfl dX6_sign_5 ?_
  have L24 : ∀ (x : Int32), (x = pC tx ln tp) → ∀ (H : Heap) (locs : List Loc) (ls : Array Slot), va_P G.1 vwCl [(m0, .inr (6, [.int (nI (th)), .ref ms, .ref mv, .int (nI (sm)), .ref mt, .int (nI (ln)), .ref mh, .ref mb, .ref mg, .ref mq, .ref ml, .ref mf, .int nw, .int fw, .int (nI (tp)), .int (bI (wr)), .long dg])), (ms, .inl (G.2.1, 88, .inl s0)), (mv, .inl (G.2.1, 528, .inl sv)), (mt, .inl (G.2.1, 60, .inl tx)), (mh, .inl (G.2.1, 21, .inl ht)), (mb, .inl (G.2.1, 21, .inl bu)), (mg, .inl (G.2.1, 21, .inl hg)), (mq, .inl (G.2.1, 21, .inl pq)), (ml, .inl (G.2.1, 21, .inl ld)), (mf, .inl (G.2.1, 20, .inl fo))] H → va_D A [(m0, .inr (6, [.int (nI (th)), .ref ms, .ref mv, .int (nI (sm)), .ref mt, .int (nI (ln)), .ref mh, .ref mb, .ref mg, .ref mq, .ref ml, .ref mf, .int nw, .int fw, .int (nI (tp)), .int (bI (wr)), .long dg])), (ms, .inl (G.2.1, 88, .inl s0)), (mv, .inl (G.2.1, 528, .inl sv)), (mt, .inl (G.2.1, 60, .inl tx)), (mh, .inl (G.2.1, 21, .inl ht)), (mb, .inl (G.2.1, 21, .inl bu)), (mg, .inl (G.2.1, 21, .inl hg)), (mq, .inl (G.2.1, 21, .inl pq)), (ml, .inl (G.2.1, 21, .inl ld)), (mf, .inl (G.2.1, 20, .inl fo))] → va_S A s.heap H locs → lv_has ls 4 [(0, .ref m0), (1, .int lo), (2, .int hi)] → W p l e ({ frames := 1, cells := 0, slots := 0, locals := 22 } : Room) s m args below meth c H locs 0 0 Q (F0 m 24 ls [.int x]) := by
    intro x ex H locs ls hP hD hS hl
    subst ex
    refine lv_istore_n (lv' := [(3, .int (pC tx ln tp)), (0, .ref m0), (1, .int lo), (2, .int hi)]) hx hb dX6_sign_24 rfl hl (by decide) rfl (fun ls hl => ?_)
    refine lv_aload_n hx hb dX6_sign_25 rfl (lv_at hl 1 rfl) ?_
    refine lv_aload_n hx hb dX6_sign_26 rfl (lv_at hl 1 rfl) ?_
    refine va_get (D := G.1) (ci := 6) (v := .int (bI (wr))) (C := RX6) (T := TX6) (N := 17) hx hb hts hinX6 hown hK hP 0 rfl rfl 15 (by decide) hf102 (fun _ h9 => h9) rfl dX6_sign_27 ?_
    have L47 : ∀ (x : Int32), (x = bI (pS tx ln lo hi (tp, wr)).2) → ∀ (H : Heap) (locs : List Loc) (ls : Array Slot), va_P G.1 vwCl [(m0, .inr (6, [.int (nI (th)), .ref ms, .ref mv, .int (nI (sm)), .ref mt, .int (nI (ln)), .ref mh, .ref mb, .ref mg, .ref mq, .ref ml, .ref mf, .int nw, .int fw, .int (nI (tp)), .int (bI (wr)), .long dg])), (ms, .inl (G.2.1, 88, .inl s0)), (mv, .inl (G.2.1, 528, .inl sv)), (mt, .inl (G.2.1, 60, .inl tx)), (mh, .inl (G.2.1, 21, .inl ht)), (mb, .inl (G.2.1, 21, .inl bu)), (mg, .inl (G.2.1, 21, .inl hg)), (mq, .inl (G.2.1, 21, .inl pq)), (ml, .inl (G.2.1, 21, .inl ld)), (mf, .inl (G.2.1, 20, .inl fo))] H → va_D A [(m0, .inr (6, [.int (nI (th)), .ref ms, .ref mv, .int (nI (sm)), .ref mt, .int (nI (ln)), .ref mh, .ref mb, .ref mg, .ref mq, .ref ml, .ref mf, .int nw, .int fw, .int (nI (tp)), .int (bI (wr)), .long dg])), (ms, .inl (G.2.1, 88, .inl s0)), (mv, .inl (G.2.1, 528, .inl sv)), (mt, .inl (G.2.1, 60, .inl tx)), (mh, .inl (G.2.1, 21, .inl ht)), (mb, .inl (G.2.1, 21, .inl bu)), (mg, .inl (G.2.1, 21, .inl hg)), (mq, .inl (G.2.1, 21, .inl pq)), (ml, .inl (G.2.1, 21, .inl ld)), (mf, .inl (G.2.1, 20, .inl fo))] → va_S A s.heap H locs → lv_has ls 4 [(3, .int (pC tx ln tp)), (0, .ref m0), (1, .int lo), (2, .int hi)] → W p l e ({ frames := 1, cells := 0, slots := 0, locals := 22 } : Room) s m args below meth c H locs 0 0 Q (F0 m 47 ls [.int x, .ref m0]) := by
      intro x ex H locs ls hP hD hS hl
      subst ex
      refine va_put (D := G.1) (ci := 6) (v := .int (bI (pS tx ln lo hi (tp, wr)).2)) (ty := .boolean) (C := RX6) (T := TX6) (N := 17) hx hb hts hinX6 tyX6 tyX6_ok nmX6 hown hK hP hD hS 0 rfl rfl 15 (by decide) hf102 (fun _ h9 => h9) rfl (by decide +kernel) (nar_b _) (fit_b _) (Nat.le_of_ble_eq_true rfl) dX6_sign_47 (fun H locs hP hD hS => ?_)
      have hP : va_P G.1 vwCl [(m0, .inr (6, [.int (nI (th)), .ref ms, .ref mv, .int (nI (sm)), .ref mt, .int (nI (ln)), .ref mh, .ref mb, .ref mg, .ref mq, .ref ml, .ref mf, .int nw, .int fw, .int (nI (tp)), .int (bI (pS tx ln lo hi (tp, wr)).2), .long dg])), (ms, .inl (G.2.1, 88, .inl s0)), (mv, .inl (G.2.1, 528, .inl sv)), (mt, .inl (G.2.1, 60, .inl tx)), (mh, .inl (G.2.1, 21, .inl ht)), (mb, .inl (G.2.1, 21, .inl bu)), (mg, .inl (G.2.1, 21, .inl hg)), (mq, .inl (G.2.1, 21, .inl pq)), (ml, .inl (G.2.1, 21, .inl ld)), (mf, .inl (G.2.1, 20, .inl fo))] H := hP
      have hD : va_D A [(m0, .inr (6, [.int (nI (th)), .ref ms, .ref mv, .int (nI (sm)), .ref mt, .int (nI (ln)), .ref mh, .ref mb, .ref mg, .ref mq, .ref ml, .ref mf, .int nw, .int fw, .int (nI (tp)), .int (bI (pS tx ln lo hi (tp, wr)).2), .long dg])), (ms, .inl (G.2.1, 88, .inl s0)), (mv, .inl (G.2.1, 528, .inl sv)), (mt, .inl (G.2.1, 60, .inl tx)), (mh, .inl (G.2.1, 21, .inl ht)), (mb, .inl (G.2.1, 21, .inl bu)), (mg, .inl (G.2.1, 21, .inl hg)), (mq, .inl (G.2.1, 21, .inl pq)), (ml, .inl (G.2.1, 21, .inl ld)), (mf, .inl (G.2.1, 20, .inl fo))] := hD
      refine lv_aload_n hx hb dX6_sign_50 rfl (lv_at hl 1 rfl) ?_
      refine lv_dup hx hb dX6_sign_51 rfl ?_
      refine va_get (D := G.1) (ci := 6) (v := .int (nI (tp))) (C := RX6) (T := TX6) (N := 17) hx hb hts hinX6 hown hK hP 0 rfl rfl 14 (by decide) hf99 (fun _ h9 => h9) rfl dX6_sign_52 ?_
      refine lv_aload_n hx hb dX6_sign_55 rfl (lv_at hl 1 rfl) ?_
      refine va_get (D := G.1) (ci := 6) (v := .int (bI (pS tx ln lo hi (tp, wr)).2)) (C := RX6) (T := TX6) (N := 17) hx hb hts hinX6 hown hK hP 0 rfl rfl 15 (by decide) hf102 (fun _ h9 => h9) rfl dX6_sign_56 ?_
      have L67 : ∀ (y : Nat), (tp + y = (pS tx ln lo hi (tp, wr)).1) → ∀ (H : Heap) (locs : List Loc) (ls : Array Slot), va_P G.1 vwCl [(m0, .inr (6, [.int (nI (th)), .ref ms, .ref mv, .int (nI (sm)), .ref mt, .int (nI (ln)), .ref mh, .ref mb, .ref mg, .ref mq, .ref ml, .ref mf, .int nw, .int fw, .int (nI (tp)), .int (bI (pS tx ln lo hi (tp, wr)).2), .long dg])), (ms, .inl (G.2.1, 88, .inl s0)), (mv, .inl (G.2.1, 528, .inl sv)), (mt, .inl (G.2.1, 60, .inl tx)), (mh, .inl (G.2.1, 21, .inl ht)), (mb, .inl (G.2.1, 21, .inl bu)), (mg, .inl (G.2.1, 21, .inl hg)), (mq, .inl (G.2.1, 21, .inl pq)), (ml, .inl (G.2.1, 21, .inl ld)), (mf, .inl (G.2.1, 20, .inl fo))] H → va_D A [(m0, .inr (6, [.int (nI (th)), .ref ms, .ref mv, .int (nI (sm)), .ref mt, .int (nI (ln)), .ref mh, .ref mb, .ref mg, .ref mq, .ref ml, .ref mf, .int nw, .int fw, .int (nI (tp)), .int (bI (pS tx ln lo hi (tp, wr)).2), .long dg])), (ms, .inl (G.2.1, 88, .inl s0)), (mv, .inl (G.2.1, 528, .inl sv)), (mt, .inl (G.2.1, 60, .inl tx)), (mh, .inl (G.2.1, 21, .inl ht)), (mb, .inl (G.2.1, 21, .inl bu)), (mg, .inl (G.2.1, 21, .inl hg)), (mq, .inl (G.2.1, 21, .inl pq)), (ml, .inl (G.2.1, 21, .inl ld)), (mf, .inl (G.2.1, 20, .inl fo))] → va_S A s.heap H locs → lv_has ls 4 [(3, .int (pC tx ln tp)), (0, .ref m0), (1, .int lo), (2, .int hi)] → W p l e ({ frames := 1, cells := 0, slots := 0, locals := 22 } : Room) s m args below meth c H locs 0 0 Q (F0 m 67 ls [.int (nI y), .int (nI tp), .ref m0]) := by
        intro y ey H locs ls hP hD hS hl
        refine lv_iadd hx hb dX6_sign_67 ?_
        refine g_ti (y := nI ((pS tx ln lo hi (tp, wr)).1)) ((nI_add (tp) (y)).trans (congrArg nI (ey))) ?_
        refine va_put (D := G.1) (ci := 6) (v := .int (nI ((pS tx ln lo hi (tp, wr)).1))) (ty := .int) (C := RX6) (T := TX6) (N := 17) hx hb hts hinX6 tyX6 tyX6_ok nmX6 hown hK hP hD hS 0 rfl rfl 14 (by decide) hf99 (fun _ h9 => h9) rfl (by decide +kernel) (rfl) (rfl) (Nat.le_of_ble_eq_true rfl) dX6_sign_68 (fun H locs hP hD hS => ?_)
        have hP : va_P G.1 vwCl [(m0, .inr (6, [.int (nI (th)), .ref ms, .ref mv, .int (nI (sm)), .ref mt, .int (nI (ln)), .ref mh, .ref mb, .ref mg, .ref mq, .ref ml, .ref mf, .int nw, .int fw, .int (nI ((pS tx ln lo hi (tp, wr)).1)), .int (bI (pS tx ln lo hi (tp, wr)).2), .long dg])), (ms, .inl (G.2.1, 88, .inl s0)), (mv, .inl (G.2.1, 528, .inl sv)), (mt, .inl (G.2.1, 60, .inl tx)), (mh, .inl (G.2.1, 21, .inl ht)), (mb, .inl (G.2.1, 21, .inl bu)), (mg, .inl (G.2.1, 21, .inl hg)), (mq, .inl (G.2.1, 21, .inl pq)), (ml, .inl (G.2.1, 21, .inl ld)), (mf, .inl (G.2.1, 20, .inl fo))] H := hP
        have hD : va_D A [(m0, .inr (6, [.int (nI (th)), .ref ms, .ref mv, .int (nI (sm)), .ref mt, .int (nI (ln)), .ref mh, .ref mb, .ref mg, .ref mq, .ref ml, .ref mf, .int nw, .int fw, .int (nI ((pS tx ln lo hi (tp, wr)).1)), .int (bI (pS tx ln lo hi (tp, wr)).2), .long dg])), (ms, .inl (G.2.1, 88, .inl s0)), (mv, .inl (G.2.1, 528, .inl sv)), (mt, .inl (G.2.1, 60, .inl tx)), (mh, .inl (G.2.1, 21, .inl ht)), (mb, .inl (G.2.1, 21, .inl bu)), (mg, .inl (G.2.1, 21, .inl hg)), (mq, .inl (G.2.1, 21, .inl pq)), (ml, .inl (G.2.1, 21, .inl ld)), (mf, .inl (G.2.1, 20, .inl fo))] := hD
        refine lv_iload_n hx hb dX6_sign_71 rfl (lv_at hl 0 rfl) ?_
        rw [hQ]
        exact k_iret (v := (pC tx ln tp)) () [0, 1, 2, 3, 4, 5, 6, 7, 8, 9] hx hb hr hlocks (rfl) hK hP hD hS rfl (by decide) dX6_sign_72
      refine lv_if_eq (tgt := 66) hx hb dX6_sign_59 (by decide) (fun c_59 => ?_) (fun c_59 => ?_)
      · skip
        refine lv_iconst (v := 1) hx hb dX6_sign_66 (by decide) ?_
        exact L67 1 (pS_a1 c_59) _ _ _ hP hD hS (lv_sub hl [0, 1, 2, 3] rfl)
      · skip
        refine lv_iconst (v := 0) hx hb dX6_sign_62 (by decide) ?_
        refine lv_goto (tgt := 67) hx hb dX6_sign_63 (by decide) ?_
        exact L67 0 (pS_a0 c_59) _ _ _ hP hD hS (lv_sub hl [0, 1, 2, 3] rfl)
    refine lv_if_ne (tgt := 42) hx hb dX6_sign_30 (by decide) (fun c_30 => ?_) (fun c_30 => ?_)
    · skip
      refine lv_iconst (v := 1) hx hb dX6_sign_42 (by decide) ?_
      refine lv_goto (tgt := 47) hx hb dX6_sign_43 (by decide) ?_
      exact L47 1 (by first | exact pS_w1 c_30 | exact pS_w2 c_39) _ _ _ hP hD hS (lv_sub hl [0, 1, 2, 3] rfl)
    · skip
      refine lv_iload_n hx hb dX6_sign_33 rfl (lv_at hl 0 rfl) ?_
      refine lv_iload_n hx hb dX6_sign_34 rfl (lv_at hl 2 rfl) ?_
      refine lv_iload_n hx hb dX6_sign_35 rfl (lv_at hl 3 rfl) ?_
      refine k_ci (wr := [(m0, .inr (6, [.int (nI (th)), .ref ms, .ref mv, .int (nI (sm)), .ref mt, .int (nI (ln)), .ref mh, .ref mb, .ref mg, .ref mq, .ref ml, .ref mf, .int nw, .int fw, .int (nI (tp)), .int (bI (wr)), .long dg])), (ms, .inl (G.2.1, 88, .inl s0)), (mv, .inl (G.2.1, 528, .inl sv)), (mt, .inl (G.2.1, 60, .inl tx)), (mh, .inl (G.2.1, 21, .inl ht)), (mb, .inl (G.2.1, 21, .inl bu)), (mg, .inl (G.2.1, 21, .inl hg)), (mq, .inl (G.2.1, 21, .inl pq)), (ml, .inl (G.2.1, 21, .inl ld)), (mf, .inl (G.2.1, 20, .inl fo))]) [0, 1, 2, 3, 4, 5, 6, 7, 8, 9] rfl (by decide) [] rfl (by decide) hP hD hS hA (k_S (n := 3) (As := [.int (pC tx ln tp), .int lo, .int hi]) (rest := [.ref m0]) (wc := []) hx hb hml hown hts hK hP hD hl (c_X6_in l G (pC tx ln tp) lo hi H.size) [] rfl (by decide) gX6_sign_X6_in rfl rfl rfl (by decide +kernel) rfl ⟨Nat.le_of_ble_eq_true rfl, Nat.le_of_ble_eq_true rfl⟩ rfl (Nat.le_of_ble_eq_true rfl) dX6_sign_36 ⟨Nat.le_of_ble_eq_true rfl, Nat.le_of_ble_eq_true rfl⟩) (fun r_36 u H locs hw hP hD hS => ?_)
      have hw_36 : r_36 = bI (decide (lo ≤ (pC tx ln tp) ∧ (pC tx ln tp) ≤ hi)) := hw
      have hP : va_P G.1 vwCl [(m0, .inr (6, [.int (nI (th)), .ref ms, .ref mv, .int (nI (sm)), .ref mt, .int (nI (ln)), .ref mh, .ref mb, .ref mg, .ref mq, .ref ml, .ref mf, .int nw, .int fw, .int (nI (tp)), .int (bI (wr)), .long dg])), (ms, .inl (G.2.1, 88, .inl s0)), (mv, .inl (G.2.1, 528, .inl sv)), (mt, .inl (G.2.1, 60, .inl tx)), (mh, .inl (G.2.1, 21, .inl ht)), (mb, .inl (G.2.1, 21, .inl bu)), (mg, .inl (G.2.1, 21, .inl hg)), (mq, .inl (G.2.1, 21, .inl pq)), (ml, .inl (G.2.1, 21, .inl ld)), (mf, .inl (G.2.1, 20, .inl fo))] H := hP
      have hD : va_D A [(m0, .inr (6, [.int (nI (th)), .ref ms, .ref mv, .int (nI (sm)), .ref mt, .int (nI (ln)), .ref mh, .ref mb, .ref mg, .ref mq, .ref ml, .ref mf, .int nw, .int fw, .int (nI (tp)), .int (bI (wr)), .long dg])), (ms, .inl (G.2.1, 88, .inl s0)), (mv, .inl (G.2.1, 528, .inl sv)), (mt, .inl (G.2.1, 60, .inl tx)), (mh, .inl (G.2.1, 21, .inl ht)), (mb, .inl (G.2.1, 21, .inl bu)), (mg, .inl (G.2.1, 21, .inl hg)), (mq, .inl (G.2.1, 21, .inl pq)), (ml, .inl (G.2.1, 21, .inl ld)), (mf, .inl (G.2.1, 20, .inl fo))] := hD
      subst hw_36
      refine lv_if_ne (tgt := 46) hx hb dX6_sign_39 (by decide) (fun c_39 => ?_) (fun c_39 => ?_)
      · skip
        refine lv_iconst (v := 0) hx hb dX6_sign_46 (by decide) ?_
        exact L47 0 (pS_w3 c_30 c_39) _ _ _ hP hD hS (lv_sub hl [0, 1, 2, 3] rfl)
      · skip
        refine lv_iconst (v := 1) hx hb dX6_sign_42 (by decide) ?_
        refine lv_goto (tgt := 47) hx hb dX6_sign_43 (by decide) ?_
        exact L47 1 (by first | exact pS_w1 c_30 | exact pS_w2 c_39) _ _ _ hP hD hS (lv_sub hl [0, 1, 2, 3] rfl)
  refine g_icmp_ge (a := tp) (b := ln) (tgt := 23) hx hb (by omega) (by omega) dX6_sign_8 (by decide) (fun c_8 => ?_) (fun c_8 => ?_)
  · skip
    refine lv_iconst (v := 0) hx hb dX6_sign_23 (by decide) ?_
    exact L24 0 (pC_f c_8) _ _ _ hP hD hS (lv_sub hl [0, 1, 2] rfl)
  · skip
    refine lv_aload_n hx hb dX6_sign_11 rfl (lv_at hl 0 rfl) ?_
    refine va_get (D := G.1) (ci := 6) (v := .ref mt) (C := RX6) (T := TX6) (N := 17) hx hb hts hinX6 hown hK hP 0 rfl rfl 4 (by decide) hf16 (fun _ h9 => h9) rfl dX6_sign_12 ?_
    refine lv_aload_n hx hb dX6_sign_15 rfl (lv_at hl 0 rfl) ?_
    refine va_get (D := G.1) (ci := 6) (v := .int (nI (tp))) (C := RX6) (T := TX6) (N := 17) hx hb hts hinX6 hown hK hP 0 rfl rfl 14 (by decide) hf99 (fun _ h9 => h9) rfl dX6_sign_16 ?_
    refine g_iald (k := tp) hx hb hK hP 3 rfl (by omega) (by omega) dX6_sign_19 ?_
    refine lv_goto (tgt := 24) hx hb dX6_sign_20 (by decide) ?_
    exact L24 (tx tp) (pC_t c_8) _ _ _ hP hD hS (lv_sub hl [0, 1, 2] rfl)
set_option maxHeartbeats 4000000 in
set_option maxRecDepth 100000 in
theorem c_X6_isNext (l : Launch) (G : kG) (m0 : Nat) (ms : Nat) (mv : Nat) (mt : Nat) (mh : Nat) (mb : Nat) (mg : Nat) (mq : Nat) (ml : Nat) (mf : Nat) (th : Nat) (s0 : Fn) (sv : Fn) (sm : Nat) (tx : Fn) (ln : Nat) (ht : Fn) (bu : Fn) (hg : Fn) (pq : Fn) (ld : Fn) (fo : Fn) (nw : Int32) (fw : Int32) (tp : Nat) (wr : Bool) (dg : Int64) (lo : Int32) (hi : Int32) (sz : Nat) (hln : ln ≤ 60) (htp : tp ≤ 60) : kMet l yX6_isNext wsX6_isNext ({ frames := 1, cells := 0, slots := 0, locals := 22 } : Room) G [.ref m0, .int lo, .int hi] [(m0, .inr (6, [.int (nI (th)), .ref ms, .ref mv, .int (nI (sm)), .ref mt, .int (nI (ln)), .ref mh, .ref mb, .ref mg, .ref mq, .ref ml, .ref mf, .int nw, .int fw, .int (nI (tp)), .int (bI (wr)), .long dg])), (ms, .inl (G.2.1, 88, .inl s0)), (mv, .inl (G.2.1, 528, .inl sv)), (mt, .inl (G.2.1, 60, .inl tx)), (mh, .inl (G.2.1, 21, .inl ht)), (mb, .inl (G.2.1, 21, .inl bu)), (mg, .inl (G.2.1, 21, .inl hg)), (mq, .inl (G.2.1, 21, .inl pq)), (ml, .inl (G.2.1, 21, .inl ld)), (mf, .inl (G.2.1, 20, .inl fo))] sz (kQi G (fun (r : Int32) (u : Unit) => r = bI (pN tx ln lo hi (tp, wr))) (fun (u : Unit) => [(m0, .inr (6, [.int (nI (th)), .ref ms, .ref mv, .int (nI (sm)), .ref mt, .int (nI (ln)), .ref mh, .ref mb, .ref mg, .ref mq, .ref ml, .ref mf, .int nw, .int fw, .int (nI (tp)), .int (bI (wr)), .long dg])), (ms, .inl (G.2.1, 88, .inl s0)), (mv, .inl (G.2.1, 528, .inl sv)), (mt, .inl (G.2.1, 60, .inl tx)), (mh, .inl (G.2.1, 21, .inl ht)), (mb, .inl (G.2.1, 21, .inl bu)), (mg, .inl (G.2.1, 21, .inl hg)), (mq, .inl (G.2.1, 21, .inl pq)), (ml, .inl (G.2.1, 21, .inl ld)), (mf, .inl (G.2.1, 20, .inl fo))])) 0 0 := by
  refine k_entry (cc := cX6_isNext) (maxL := 3) (ret := (some .boolean)) (by decide) rfl (Nat.le_of_ble_eq_true rfl) ?_
  intro p e s m args below meth c A ls H locs Q hQ hx hb hml hr hts hown hlocks hin hA hP hK hD hS hl
  have hown : s.vm.findClass RX6 = some m.cls := hown
  have hl : lv_has ls 3 [(0, .ref m0), (1, .int lo), (2, .int hi)] := hl
  have hf102 := hts (.fieldLink RX6 102 "HangingChainModel" "isWrong" "Z") (by decide +kernel)
  have hinX6 : ∀ w ∈ wsX60, w ∈ wsX6_isNext := by decide +kernel
  have hf99 := hts (.fieldLink RX6 99 "HangingChainModel" "at" "I") (by decide +kernel)
  have hf96 := hts (.fieldLink RX6 96 "HangingChainModel" "length" "I") (by decide +kernel)
  have hf16 := hts (.fieldLink RX6 16 "HangingChainModel" "text" "[I") (by decide +kernel)
  refine lv_aload_n hx hb dX6_isNext_0 rfl (lv_at hl 0 rfl) ?_
  refine va_get (D := G.1) (ci := 6) (v := .int (bI (wr))) (C := RX6) (T := TX6) (N := 17) hx hb hts hinX6 hown hK hP 0 rfl rfl 15 (by decide) hf102 (fun _ h9 => h9) rfl dX6_isNext_1 ?_
  refine lv_if_ne (tgt := 39) hx hb dX6_isNext_4 (by decide) (fun c_4 => ?_) (fun c_4 => ?_)
  · skip
    refine lv_iconst (v := 0) hx hb dX6_isNext_39 (by decide) ?_
    rw [hQ]
    exact k_zret (v := 0) () [0, 1, 2, 3, 4, 5, 6, 7, 8, 9] hx hb hr hlocks (by first | exact Or.inl rfl | exact Or.inr rfl) (by first | exact pN_1 c_4 c_15 c_32 | exact pN_c c_32 | exact pN_b c_15 | exact pN_a c_4) hK hP hD hS rfl (by decide) dX6_isNext_40
  · skip
    refine lv_aload_n hx hb dX6_isNext_7 rfl (lv_at hl 0 rfl) ?_
    refine va_get (D := G.1) (ci := 6) (v := .int (nI (tp))) (C := RX6) (T := TX6) (N := 17) hx hb hts hinX6 hown hK hP 0 rfl rfl 14 (by decide) hf99 (fun _ h9 => h9) rfl dX6_isNext_8 ?_
    refine lv_aload_n hx hb dX6_isNext_11 rfl (lv_at hl 0 rfl) ?_
    refine va_get (D := G.1) (ci := 6) (v := .int (nI (ln))) (C := RX6) (T := TX6) (N := 17) hx hb hts hinX6 hown hK hP 0 rfl rfl 5 (by decide) hf96 (fun _ h9 => h9) rfl dX6_isNext_12 ?_
    refine g_icmp_ge (a := tp) (b := ln) (tgt := 39) hx hb (by omega) (by omega) dX6_isNext_15 (by decide) (fun c_15 => ?_) (fun c_15 => ?_)
    · skip
      refine lv_iconst (v := 0) hx hb dX6_isNext_39 (by decide) ?_
      rw [hQ]
      exact k_zret (v := 0) () [0, 1, 2, 3, 4, 5, 6, 7, 8, 9] hx hb hr hlocks (by first | exact Or.inl rfl | exact Or.inr rfl) (by first | exact pN_1 c_4 c_15 c_32 | exact pN_c c_32 | exact pN_b c_15 | exact pN_a c_4) hK hP hD hS rfl (by decide) dX6_isNext_40
    · skip
      refine lv_aload_n hx hb dX6_isNext_18 rfl (lv_at hl 0 rfl) ?_
      refine va_get (D := G.1) (ci := 6) (v := .ref mt) (C := RX6) (T := TX6) (N := 17) hx hb hts hinX6 hown hK hP 0 rfl rfl 4 (by decide) hf16 (fun _ h9 => h9) rfl dX6_isNext_19 ?_
      refine lv_aload_n hx hb dX6_isNext_22 rfl (lv_at hl 0 rfl) ?_
      refine va_get (D := G.1) (ci := 6) (v := .int (nI (tp))) (C := RX6) (T := TX6) (N := 17) hx hb hts hinX6 hown hK hP 0 rfl rfl 14 (by decide) hf99 (fun _ h9 => h9) rfl dX6_isNext_23 ?_
      refine g_iald (k := tp) hx hb hK hP 3 rfl (by omega) (by omega) dX6_isNext_26 ?_
      refine lv_iload_n hx hb dX6_isNext_27 rfl (lv_at hl 1 rfl) ?_
      refine lv_iload_n hx hb dX6_isNext_28 rfl (lv_at hl 2 rfl) ?_
      refine k_ci (wr := [(m0, .inr (6, [.int (nI (th)), .ref ms, .ref mv, .int (nI (sm)), .ref mt, .int (nI (ln)), .ref mh, .ref mb, .ref mg, .ref mq, .ref ml, .ref mf, .int nw, .int fw, .int (nI (tp)), .int (bI (wr)), .long dg])), (ms, .inl (G.2.1, 88, .inl s0)), (mv, .inl (G.2.1, 528, .inl sv)), (mt, .inl (G.2.1, 60, .inl tx)), (mh, .inl (G.2.1, 21, .inl ht)), (mb, .inl (G.2.1, 21, .inl bu)), (mg, .inl (G.2.1, 21, .inl hg)), (mq, .inl (G.2.1, 21, .inl pq)), (ml, .inl (G.2.1, 21, .inl ld)), (mf, .inl (G.2.1, 20, .inl fo))]) [0, 1, 2, 3, 4, 5, 6, 7, 8, 9] rfl (by decide) [] rfl (by decide) hP hD hS hA (k_S (n := 3) (As := [.int (tx tp), .int lo, .int hi]) (rest := []) (wc := []) hx hb hml hown hts hK hP hD hl (c_X6_in l G (tx tp) lo hi H.size) [] rfl (by decide) gX6_isNext_X6_in rfl rfl rfl (by decide +kernel) rfl ⟨Nat.le_of_ble_eq_true rfl, Nat.le_of_ble_eq_true rfl⟩ rfl (Nat.le_of_ble_eq_true rfl) dX6_isNext_29 ⟨Nat.le_of_ble_eq_true rfl, Nat.le_of_ble_eq_true rfl⟩) (fun r_29 u H locs hw hP hD hS => ?_)
      have hw_29 : r_29 = bI (decide (lo ≤ (tx tp) ∧ (tx tp) ≤ hi)) := hw
      have hP : va_P G.1 vwCl [(m0, .inr (6, [.int (nI (th)), .ref ms, .ref mv, .int (nI (sm)), .ref mt, .int (nI (ln)), .ref mh, .ref mb, .ref mg, .ref mq, .ref ml, .ref mf, .int nw, .int fw, .int (nI (tp)), .int (bI (wr)), .long dg])), (ms, .inl (G.2.1, 88, .inl s0)), (mv, .inl (G.2.1, 528, .inl sv)), (mt, .inl (G.2.1, 60, .inl tx)), (mh, .inl (G.2.1, 21, .inl ht)), (mb, .inl (G.2.1, 21, .inl bu)), (mg, .inl (G.2.1, 21, .inl hg)), (mq, .inl (G.2.1, 21, .inl pq)), (ml, .inl (G.2.1, 21, .inl ld)), (mf, .inl (G.2.1, 20, .inl fo))] H := hP
      have hD : va_D A [(m0, .inr (6, [.int (nI (th)), .ref ms, .ref mv, .int (nI (sm)), .ref mt, .int (nI (ln)), .ref mh, .ref mb, .ref mg, .ref mq, .ref ml, .ref mf, .int nw, .int fw, .int (nI (tp)), .int (bI (wr)), .long dg])), (ms, .inl (G.2.1, 88, .inl s0)), (mv, .inl (G.2.1, 528, .inl sv)), (mt, .inl (G.2.1, 60, .inl tx)), (mh, .inl (G.2.1, 21, .inl ht)), (mb, .inl (G.2.1, 21, .inl bu)), (mg, .inl (G.2.1, 21, .inl hg)), (mq, .inl (G.2.1, 21, .inl pq)), (ml, .inl (G.2.1, 21, .inl ld)), (mf, .inl (G.2.1, 20, .inl fo))] := hD
      subst hw_29
      refine lv_if_eq (tgt := 39) hx hb dX6_isNext_32 (by decide) (fun c_32 => ?_) (fun c_32 => ?_)
      · skip
        refine lv_iconst (v := 0) hx hb dX6_isNext_39 (by decide) ?_
        rw [hQ]
        exact k_zret (v := 0) () [0, 1, 2, 3, 4, 5, 6, 7, 8, 9] hx hb hr hlocks (by first | exact Or.inl rfl | exact Or.inr rfl) (by first | exact pN_1 c_4 c_15 c_32 | exact pN_c c_32 | exact pN_b c_15 | exact pN_a c_4) hK hP hD hS rfl (by decide) dX6_isNext_40
      · skip
        refine lv_iconst (v := 1) hx hb dX6_isNext_35 (by decide) ?_
        refine lv_goto (tgt := 40) hx hb dX6_isNext_36 (by decide) ?_
        rw [hQ]
        exact k_zret (v := 1) () [0, 1, 2, 3, 4, 5, 6, 7, 8, 9] hx hb hr hlocks (by first | exact Or.inl rfl | exact Or.inr rfl) (by first | exact pN_1 c_4 c_15 c_32 | exact pN_c c_32 | exact pN_b c_15 | exact pN_a c_4) hK hP hD hS rfl (by decide) dX6_isNext_40
set_option maxHeartbeats 4000000 in
set_option maxRecDepth 100000 in
theorem c_X6_readLink (l : Launch) (G : kG) (m0 : Nat) (ms : Nat) (mv : Nat) (mt : Nat) (mh : Nat) (mb : Nat) (mg : Nat) (mq : Nat) (ml : Nat) (mf : Nat) (th : Nat) (s0 : Fn) (sv : Fn) (sm : Nat) (tx : Fn) (ln : Nat) (ht : Fn) (bu : Fn) (hg : Fn) (pq : Fn) (ld : Fn) (fo : Fn) (nw : Int32) (fw : Int32) (tp : Nat) (wr : Bool) (dg : Int64) (j : Nat) (d : Bool) (sz : Nat) (hln : ln ≤ 60) (htp : tp ≤ ln) (hj : j ≤ 20) (hjd : d = true → j < 20) : kMet l yX6_readLink wsX6_readLink ({ frames := 2, cells := 0, slots := 0, locals := 45 } : Room) G [.ref m0, .int (nI (j)), .int (bI d)] [(m0, .inr (6, [.int (nI (th)), .ref ms, .ref mv, .int (nI (sm)), .ref mt, .int (nI (ln)), .ref mh, .ref mb, .ref mg, .ref mq, .ref ml, .ref mf, .int nw, .int fw, .int (nI (tp)), .int (bI false), .long dg])), (ms, .inl (G.2.1, 88, .inl s0)), (mv, .inl (G.2.1, 528, .inl sv)), (mt, .inl (G.2.1, 60, .inl tx)), (mh, .inl (G.2.1, 21, .inl ht)), (mb, .inl (G.2.1, 21, .inl bu)), (mg, .inl (G.2.1, 21, .inl hg)), (mq, .inl (G.2.1, 21, .inl pq)), (ml, .inl (G.2.1, 21, .inl ld)), (mf, .inl (G.2.1, 20, .inl fo))] sz (kQv G (fun (u : Unit) => True) (fun (u : Unit) => [(m0, .inr (6, [.int (nI (th)), .ref ms, .ref mv, .int (nI (sm)), .ref mt, .int (nI (ln)), .ref mh, .ref mb, .ref mg, .ref mq, .ref ml, .ref mf, .int nw, .int fw, .int (nI ((pE tx ln j tp).1)), .int (bI ((pE tx ln j tp).2)), .long dg])), (ms, .inl (G.2.1, 88, .inl (if d = true then rlS s0 j (pSt tx ln j tp) (pW tx ln j tp) else s0))), (mv, .inl (G.2.1, 528, .inl sv)), (mt, .inl (G.2.1, 60, .inl tx)), (mh, .inl (G.2.1, 21, .inl ht)), (mb, .inl (G.2.1, 21, .inl bu)), (mg, .inl (G.2.1, 21, .inl hg)), (mq, .inl (G.2.1, 21, .inl pq)), (ml, .inl (G.2.1, 21, .inl ld)), (mf, .inl (G.2.1, 20, .inl fo))])) 0 0 := by
  refine k_entry (cc := cX6_readLink) (maxL := 10) (ret := none) (by decide) rfl (Nat.le_of_ble_eq_true rfl) ?_
  intro p e s m args below meth c A ls H locs Q hQ hx hb hml hr hts hown hlocks hin hA hP hK hD hS hl
  have hown : s.vm.findClass RX6 = some m.cls := hown
  have hl : lv_has ls 10 [(0, .ref m0), (1, .int (nI (j))), (2, .int (bI d))] := hl
  have hf99 := hts (.fieldLink RX6 99 "HangingChainModel" "at" "I") (by decide +kernel)
  have hinX6 : ∀ w ∈ wsX60, w ∈ wsX6_readLink := by decide +kernel
  have hf96 := hts (.fieldLink RX6 96 "HangingChainModel" "length" "I") (by decide +kernel)
  have hf102 := hts (.fieldLink RX6 102 "HangingChainModel" "isWrong" "Z") (by decide +kernel)
  have hf7 := hts (.fieldLink RX6 7 "HangingChainModel" "s" "[I") (by decide +kernel)
  have hf16 := hts (.fieldLink RX6 16 "HangingChainModel" "text" "[I") (by decide +kernel)
  refine lv_aload_n hx hb dX6_readLink_0 rfl (lv_at hl 0 rfl) ?_
  refine va_get (D := G.1) (ci := 6) (v := .int (nI (tp))) (C := RX6) (T := TX6) (N := 17) hx hb hts hinX6 hown hK hP 0 rfl rfl 14 (by decide) hf99 (fun _ h9 => h9) rfl dX6_readLink_1 ?_
  refine lv_aload_n hx hb dX6_readLink_4 rfl (lv_at hl 0 rfl) ?_
  refine va_get (D := G.1) (ci := 6) (v := .int (nI (ln))) (C := RX6) (T := TX6) (N := 17) hx hb hts hinX6 hown hK hP 0 rfl rfl 5 (by decide) hf96 (fun _ h9 => h9) rfl dX6_readLink_5 ?_
  have L24 : ∀ (x : Int32), (x = pC tx ln tp) → ∀ (H : Heap) (locs : List Loc) (ls : Array Slot), va_P G.1 vwCl [(m0, .inr (6, [.int (nI (th)), .ref ms, .ref mv, .int (nI (sm)), .ref mt, .int (nI (ln)), .ref mh, .ref mb, .ref mg, .ref mq, .ref ml, .ref mf, .int nw, .int fw, .int (nI (tp)), .int (bI false), .long dg])), (ms, .inl (G.2.1, 88, .inl s0)), (mv, .inl (G.2.1, 528, .inl sv)), (mt, .inl (G.2.1, 60, .inl tx)), (mh, .inl (G.2.1, 21, .inl ht)), (mb, .inl (G.2.1, 21, .inl bu)), (mg, .inl (G.2.1, 21, .inl hg)), (mq, .inl (G.2.1, 21, .inl pq)), (ml, .inl (G.2.1, 21, .inl ld)), (mf, .inl (G.2.1, 20, .inl fo))] H → va_D A [(m0, .inr (6, [.int (nI (th)), .ref ms, .ref mv, .int (nI (sm)), .ref mt, .int (nI (ln)), .ref mh, .ref mb, .ref mg, .ref mq, .ref ml, .ref mf, .int nw, .int fw, .int (nI (tp)), .int (bI false), .long dg])), (ms, .inl (G.2.1, 88, .inl s0)), (mv, .inl (G.2.1, 528, .inl sv)), (mt, .inl (G.2.1, 60, .inl tx)), (mh, .inl (G.2.1, 21, .inl ht)), (mb, .inl (G.2.1, 21, .inl bu)), (mg, .inl (G.2.1, 21, .inl hg)), (mq, .inl (G.2.1, 21, .inl pq)), (ml, .inl (G.2.1, 21, .inl ld)), (mf, .inl (G.2.1, 20, .inl fo))] → va_S A s.heap H locs → lv_has ls 10 [(0, .ref m0), (1, .int (nI (j))), (2, .int (bI d))] → W p l e ({ frames := 2, cells := 0, slots := 0, locals := 45 } : Room) s m args below meth c H locs 0 0 Q (F0 m 24 ls [.int x]) := by
    intro x ex H locs ls hP hD hS hl
    subst ex
    refine lv_istore_n (lv' := [(3, .int (pC tx ln tp)), (0, .ref m0), (1, .int (nI (j))), (2, .int (bI d))]) hx hb dX6_readLink_24 rfl hl (by decide) rfl (fun ls hl => ?_)
    refine lv_aload_n hx hb dX6_readLink_25 rfl (lv_at hl 1 rfl) ?_
    refine lv_aload_n hx hb dX6_readLink_26 rfl (lv_at hl 1 rfl) ?_
    refine va_get (D := G.1) (ci := 6) (v := .int (bI false)) (C := RX6) (T := TX6) (N := 17) hx hb hts hinX6 hown hK hP 0 rfl rfl 15 (by decide) hf102 (fun _ h9 => h9) rfl dX6_readLink_27 ?_
    have L62 : ∀ (x : Int32), (x = bI (p1 tx ln j tp).2) → ∀ (H : Heap) (locs : List Loc) (ls : Array Slot), va_P G.1 vwCl [(m0, .inr (6, [.int (nI (th)), .ref ms, .ref mv, .int (nI (sm)), .ref mt, .int (nI (ln)), .ref mh, .ref mb, .ref mg, .ref mq, .ref ml, .ref mf, .int nw, .int fw, .int (nI (tp)), .int (bI false), .long dg])), (ms, .inl (G.2.1, 88, .inl s0)), (mv, .inl (G.2.1, 528, .inl sv)), (mt, .inl (G.2.1, 60, .inl tx)), (mh, .inl (G.2.1, 21, .inl ht)), (mb, .inl (G.2.1, 21, .inl bu)), (mg, .inl (G.2.1, 21, .inl hg)), (mq, .inl (G.2.1, 21, .inl pq)), (ml, .inl (G.2.1, 21, .inl ld)), (mf, .inl (G.2.1, 20, .inl fo))] H → va_D A [(m0, .inr (6, [.int (nI (th)), .ref ms, .ref mv, .int (nI (sm)), .ref mt, .int (nI (ln)), .ref mh, .ref mb, .ref mg, .ref mq, .ref ml, .ref mf, .int nw, .int fw, .int (nI (tp)), .int (bI false), .long dg])), (ms, .inl (G.2.1, 88, .inl s0)), (mv, .inl (G.2.1, 528, .inl sv)), (mt, .inl (G.2.1, 60, .inl tx)), (mh, .inl (G.2.1, 21, .inl ht)), (mb, .inl (G.2.1, 21, .inl bu)), (mg, .inl (G.2.1, 21, .inl hg)), (mq, .inl (G.2.1, 21, .inl pq)), (ml, .inl (G.2.1, 21, .inl ld)), (mf, .inl (G.2.1, 20, .inl fo))] → va_S A s.heap H locs → lv_has ls 10 [(3, .int (pC tx ln tp)), (0, .ref m0), (1, .int (nI (j))), (2, .int (bI d))] → W p l e ({ frames := 2, cells := 0, slots := 0, locals := 45 } : Room) s m args below meth c H locs 0 0 Q (F0 m 62 ls [.int x, .ref m0]) := by
      intro x ex H locs ls hP hD hS hl
      subst ex
      refine va_put (D := G.1) (ci := 6) (v := .int (bI (p1 tx ln j tp).2)) (ty := .boolean) (C := RX6) (T := TX6) (N := 17) hx hb hts hinX6 tyX6 tyX6_ok nmX6 hown hK hP hD hS 0 rfl rfl 15 (by decide) hf102 (fun _ h9 => h9) rfl (by decide +kernel) (nar_b _) (fit_b _) (Nat.le_of_ble_eq_true rfl) dX6_readLink_62 (fun H locs hP hD hS => ?_)
      have hP : va_P G.1 vwCl [(m0, .inr (6, [.int (nI (th)), .ref ms, .ref mv, .int (nI (sm)), .ref mt, .int (nI (ln)), .ref mh, .ref mb, .ref mg, .ref mq, .ref ml, .ref mf, .int nw, .int fw, .int (nI (tp)), .int (bI (p1 tx ln j tp).2), .long dg])), (ms, .inl (G.2.1, 88, .inl s0)), (mv, .inl (G.2.1, 528, .inl sv)), (mt, .inl (G.2.1, 60, .inl tx)), (mh, .inl (G.2.1, 21, .inl ht)), (mb, .inl (G.2.1, 21, .inl bu)), (mg, .inl (G.2.1, 21, .inl hg)), (mq, .inl (G.2.1, 21, .inl pq)), (ml, .inl (G.2.1, 21, .inl ld)), (mf, .inl (G.2.1, 20, .inl fo))] H := hP
      have hD : va_D A [(m0, .inr (6, [.int (nI (th)), .ref ms, .ref mv, .int (nI (sm)), .ref mt, .int (nI (ln)), .ref mh, .ref mb, .ref mg, .ref mq, .ref ml, .ref mf, .int nw, .int fw, .int (nI (tp)), .int (bI (p1 tx ln j tp).2), .long dg])), (ms, .inl (G.2.1, 88, .inl s0)), (mv, .inl (G.2.1, 528, .inl sv)), (mt, .inl (G.2.1, 60, .inl tx)), (mh, .inl (G.2.1, 21, .inl ht)), (mb, .inl (G.2.1, 21, .inl bu)), (mg, .inl (G.2.1, 21, .inl hg)), (mq, .inl (G.2.1, 21, .inl pq)), (ml, .inl (G.2.1, 21, .inl ld)), (mf, .inl (G.2.1, 20, .inl fo))] := hD
      refine lv_aload_n hx hb dX6_readLink_65 rfl (lv_at hl 1 rfl) ?_
      refine lv_dup hx hb dX6_readLink_66 rfl ?_
      refine va_get (D := G.1) (ci := 6) (v := .int (nI (tp))) (C := RX6) (T := TX6) (N := 17) hx hb hts hinX6 hown hK hP 0 rfl rfl 14 (by decide) hf99 (fun _ h9 => h9) rfl dX6_readLink_67 ?_
      refine lv_aload_n hx hb dX6_readLink_70 rfl (lv_at hl 1 rfl) ?_
      refine va_get (D := G.1) (ci := 6) (v := .int (bI (p1 tx ln j tp).2)) (C := RX6) (T := TX6) (N := 17) hx hb hts hinX6 hown hK hP 0 rfl rfl 15 (by decide) hf102 (fun _ h9 => h9) rfl dX6_readLink_71 ?_
      have L82 : ∀ (y : Nat), (tp + y = (p1 tx ln j tp).1) → ∀ (H : Heap) (locs : List Loc) (ls : Array Slot), va_P G.1 vwCl [(m0, .inr (6, [.int (nI (th)), .ref ms, .ref mv, .int (nI (sm)), .ref mt, .int (nI (ln)), .ref mh, .ref mb, .ref mg, .ref mq, .ref ml, .ref mf, .int nw, .int fw, .int (nI (tp)), .int (bI (p1 tx ln j tp).2), .long dg])), (ms, .inl (G.2.1, 88, .inl s0)), (mv, .inl (G.2.1, 528, .inl sv)), (mt, .inl (G.2.1, 60, .inl tx)), (mh, .inl (G.2.1, 21, .inl ht)), (mb, .inl (G.2.1, 21, .inl bu)), (mg, .inl (G.2.1, 21, .inl hg)), (mq, .inl (G.2.1, 21, .inl pq)), (ml, .inl (G.2.1, 21, .inl ld)), (mf, .inl (G.2.1, 20, .inl fo))] H → va_D A [(m0, .inr (6, [.int (nI (th)), .ref ms, .ref mv, .int (nI (sm)), .ref mt, .int (nI (ln)), .ref mh, .ref mb, .ref mg, .ref mq, .ref ml, .ref mf, .int nw, .int fw, .int (nI (tp)), .int (bI (p1 tx ln j tp).2), .long dg])), (ms, .inl (G.2.1, 88, .inl s0)), (mv, .inl (G.2.1, 528, .inl sv)), (mt, .inl (G.2.1, 60, .inl tx)), (mh, .inl (G.2.1, 21, .inl ht)), (mb, .inl (G.2.1, 21, .inl bu)), (mg, .inl (G.2.1, 21, .inl hg)), (mq, .inl (G.2.1, 21, .inl pq)), (ml, .inl (G.2.1, 21, .inl ld)), (mf, .inl (G.2.1, 20, .inl fo))] → va_S A s.heap H locs → lv_has ls 10 [(3, .int (pC tx ln tp)), (0, .ref m0), (1, .int (nI (j))), (2, .int (bI d))] → W p l e ({ frames := 2, cells := 0, slots := 0, locals := 45 } : Room) s m args below meth c H locs 0 0 Q (F0 m 82 ls [.int (nI y), .int (nI tp), .ref m0]) := by
        intro y ey H locs ls hP hD hS hl
        refine lv_iadd hx hb dX6_readLink_82 ?_
        refine g_ti (y := nI ((p1 tx ln j tp).1)) ((nI_add (tp) (y)).trans (congrArg nI (ey))) ?_
        have hq1 : (p1 tx ln j tp).1 ≤ ln := p1_le htp
        refine va_put (D := G.1) (ci := 6) (v := .int (nI ((p1 tx ln j tp).1))) (ty := .int) (C := RX6) (T := TX6) (N := 17) hx hb hts hinX6 tyX6 tyX6_ok nmX6 hown hK hP hD hS 0 rfl rfl 14 (by decide) hf99 (fun _ h9 => h9) rfl (by decide +kernel) (rfl) (rfl) (Nat.le_of_ble_eq_true rfl) dX6_readLink_83 (fun H locs hP hD hS => ?_)
        have hP : va_P G.1 vwCl [(m0, .inr (6, [.int (nI (th)), .ref ms, .ref mv, .int (nI (sm)), .ref mt, .int (nI (ln)), .ref mh, .ref mb, .ref mg, .ref mq, .ref ml, .ref mf, .int nw, .int fw, .int (nI ((p1 tx ln j tp).1)), .int (bI (p1 tx ln j tp).2), .long dg])), (ms, .inl (G.2.1, 88, .inl s0)), (mv, .inl (G.2.1, 528, .inl sv)), (mt, .inl (G.2.1, 60, .inl tx)), (mh, .inl (G.2.1, 21, .inl ht)), (mb, .inl (G.2.1, 21, .inl bu)), (mg, .inl (G.2.1, 21, .inl hg)), (mq, .inl (G.2.1, 21, .inl pq)), (ml, .inl (G.2.1, 21, .inl ld)), (mf, .inl (G.2.1, 20, .inl fo))] H := hP
        have hD : va_D A [(m0, .inr (6, [.int (nI (th)), .ref ms, .ref mv, .int (nI (sm)), .ref mt, .int (nI (ln)), .ref mh, .ref mb, .ref mg, .ref mq, .ref ml, .ref mf, .int nw, .int fw, .int (nI ((p1 tx ln j tp).1)), .int (bI (p1 tx ln j tp).2), .long dg])), (ms, .inl (G.2.1, 88, .inl s0)), (mv, .inl (G.2.1, 528, .inl sv)), (mt, .inl (G.2.1, 60, .inl tx)), (mh, .inl (G.2.1, 21, .inl ht)), (mb, .inl (G.2.1, 21, .inl bu)), (mg, .inl (G.2.1, 21, .inl hg)), (mq, .inl (G.2.1, 21, .inl pq)), (ml, .inl (G.2.1, 21, .inl ld)), (mf, .inl (G.2.1, 20, .inl fo))] := hD
        refine lv_iload_n hx hb dX6_readLink_86 rfl (lv_at hl 0 rfl) ?_
        refine lv_bipush (v := 61) hx hb dX6_readLink_87 (by decide) ?_
        have L108 : ∀ (x : Int32), (x = bI (p2 tx ln j tp)) → ∀ (H : Heap) (locs : List Loc) (ls : Array Slot), va_P G.1 vwCl [(m0, .inr (6, [.int (nI (th)), .ref ms, .ref mv, .int (nI (sm)), .ref mt, .int (nI (ln)), .ref mh, .ref mb, .ref mg, .ref mq, .ref ml, .ref mf, .int nw, .int fw, .int (nI ((p1 tx ln j tp).1)), .int (bI (p1 tx ln j tp).2), .long dg])), (ms, .inl (G.2.1, 88, .inl s0)), (mv, .inl (G.2.1, 528, .inl sv)), (mt, .inl (G.2.1, 60, .inl tx)), (mh, .inl (G.2.1, 21, .inl ht)), (mb, .inl (G.2.1, 21, .inl bu)), (mg, .inl (G.2.1, 21, .inl hg)), (mq, .inl (G.2.1, 21, .inl pq)), (ml, .inl (G.2.1, 21, .inl ld)), (mf, .inl (G.2.1, 20, .inl fo))] H → va_D A [(m0, .inr (6, [.int (nI (th)), .ref ms, .ref mv, .int (nI (sm)), .ref mt, .int (nI (ln)), .ref mh, .ref mb, .ref mg, .ref mq, .ref ml, .ref mf, .int nw, .int fw, .int (nI ((p1 tx ln j tp).1)), .int (bI (p1 tx ln j tp).2), .long dg])), (ms, .inl (G.2.1, 88, .inl s0)), (mv, .inl (G.2.1, 528, .inl sv)), (mt, .inl (G.2.1, 60, .inl tx)), (mh, .inl (G.2.1, 21, .inl ht)), (mb, .inl (G.2.1, 21, .inl bu)), (mg, .inl (G.2.1, 21, .inl hg)), (mq, .inl (G.2.1, 21, .inl pq)), (ml, .inl (G.2.1, 21, .inl ld)), (mf, .inl (G.2.1, 20, .inl fo))] → va_S A s.heap H locs → lv_has ls 10 [(3, .int (pC tx ln tp)), (0, .ref m0), (1, .int (nI (j))), (2, .int (bI d))] → W p l e ({ frames := 2, cells := 0, slots := 0, locals := 45 } : Room) s m args below meth c H locs 0 0 Q (F0 m 108 ls [.int x]) := by
          intro x ex H locs ls hP hD hS hl
          subst ex
          refine lv_istore (lv' := [(4, .int (bI (p2 tx ln j tp))), (3, .int (pC tx ln tp)), (0, .ref m0), (1, .int (nI (j))), (2, .int (bI d))]) hx hb dX6_readLink_108 hl (by decide) rfl (fun ls hl => ?_)
          refine lv_iload hx hb dX6_readLink_110 (lv_at hl 0 rfl) ?_
          have L127 : ∀ (x5 : Int32) (t9 : Nat) (w9 : Bool), (t9 = (p3 tx ln j tp).1) → (w9 = (p3 tx ln j tp).2) → ∀ (H : Heap) (locs : List Loc) (ls : Array Slot), va_P G.1 vwCl [(m0, .inr (6, [.int (nI (th)), .ref ms, .ref mv, .int (nI (sm)), .ref mt, .int (nI (ln)), .ref mh, .ref mb, .ref mg, .ref mq, .ref ml, .ref mf, .int nw, .int fw, .int (nI t9), .int (bI w9), .long dg])), (ms, .inl (G.2.1, 88, .inl s0)), (mv, .inl (G.2.1, 528, .inl sv)), (mt, .inl (G.2.1, 60, .inl tx)), (mh, .inl (G.2.1, 21, .inl ht)), (mb, .inl (G.2.1, 21, .inl bu)), (mg, .inl (G.2.1, 21, .inl hg)), (mq, .inl (G.2.1, 21, .inl pq)), (ml, .inl (G.2.1, 21, .inl ld)), (mf, .inl (G.2.1, 20, .inl fo))] H → va_D A [(m0, .inr (6, [.int (nI (th)), .ref ms, .ref mv, .int (nI (sm)), .ref mt, .int (nI (ln)), .ref mh, .ref mb, .ref mg, .ref mq, .ref ml, .ref mf, .int nw, .int fw, .int (nI t9), .int (bI w9), .long dg])), (ms, .inl (G.2.1, 88, .inl s0)), (mv, .inl (G.2.1, 528, .inl sv)), (mt, .inl (G.2.1, 60, .inl tx)), (mh, .inl (G.2.1, 21, .inl ht)), (mb, .inl (G.2.1, 21, .inl bu)), (mg, .inl (G.2.1, 21, .inl hg)), (mq, .inl (G.2.1, 21, .inl pq)), (ml, .inl (G.2.1, 21, .inl ld)), (mf, .inl (G.2.1, 20, .inl fo))] → va_S A s.heap H locs → lv_has ls 10 [(4, .int (bI (p2 tx ln j tp))), (3, .int (pC tx ln tp)), (0, .ref m0), (1, .int (nI (j))), (2, .int (bI d))] → W p l e ({ frames := 2, cells := 0, slots := 0, locals := 45 } : Room) s m args below meth c H locs 0 0 Q (F0 m 127 ls [.int x5]) := by
            intro x5 t9 w9 e1 e2 H locs ls hP hD hS hl
            subst e1
            subst e2
            have hq3 : (p3 tx ln j tp).1 ≤ ln := p3_le htp
            refine lv_istore (lv' := [(5, .int x5), (4, .int (bI (p2 tx ln j tp))), (3, .int (pC tx ln tp)), (0, .ref m0), (1, .int (nI (j))), (2, .int (bI d))]) hx hb dX6_readLink_127 hl (by decide) rfl (fun ls hl => ?_)
            refine lv_iload hx hb dX6_readLink_129 (lv_at hl 1 rfl) ?_
            have L139 : ∀ (x : Int32), (x = pSp tx ln j tp) → ∀ (H : Heap) (locs : List Loc) (ls : Array Slot), va_P G.1 vwCl [(m0, .inr (6, [.int (nI (th)), .ref ms, .ref mv, .int (nI (sm)), .ref mt, .int (nI (ln)), .ref mh, .ref mb, .ref mg, .ref mq, .ref ml, .ref mf, .int nw, .int fw, .int (nI (p3 tx ln j tp).1), .int (bI (p3 tx ln j tp).2), .long dg])), (ms, .inl (G.2.1, 88, .inl s0)), (mv, .inl (G.2.1, 528, .inl sv)), (mt, .inl (G.2.1, 60, .inl tx)), (mh, .inl (G.2.1, 21, .inl ht)), (mb, .inl (G.2.1, 21, .inl bu)), (mg, .inl (G.2.1, 21, .inl hg)), (mq, .inl (G.2.1, 21, .inl pq)), (ml, .inl (G.2.1, 21, .inl ld)), (mf, .inl (G.2.1, 20, .inl fo))] H → va_D A [(m0, .inr (6, [.int (nI (th)), .ref ms, .ref mv, .int (nI (sm)), .ref mt, .int (nI (ln)), .ref mh, .ref mb, .ref mg, .ref mq, .ref ml, .ref mf, .int nw, .int fw, .int (nI (p3 tx ln j tp).1), .int (bI (p3 tx ln j tp).2), .long dg])), (ms, .inl (G.2.1, 88, .inl s0)), (mv, .inl (G.2.1, 528, .inl sv)), (mt, .inl (G.2.1, 60, .inl tx)), (mh, .inl (G.2.1, 21, .inl ht)), (mb, .inl (G.2.1, 21, .inl bu)), (mg, .inl (G.2.1, 21, .inl hg)), (mq, .inl (G.2.1, 21, .inl pq)), (ml, .inl (G.2.1, 21, .inl ld)), (mf, .inl (G.2.1, 20, .inl fo))] → va_S A s.heap H locs → lv_has ls 10 [(5, .int x5), (4, .int (bI (p2 tx ln j tp))), (3, .int (pC tx ln tp)), (0, .ref m0), (1, .int (nI (j))), (2, .int (bI d))] → W p l e ({ frames := 2, cells := 0, slots := 0, locals := 45 } : Room) s m args below meth c H locs 0 0 Q (F0 m 139 ls [.int x]) := by
              intro x ex H locs ls hP hD hS hl
              subst ex
              refine lv_istore (lv' := [(6, .int (pSp tx ln j tp)), (5, .int x5), (4, .int (bI (p2 tx ln j tp))), (3, .int (pC tx ln tp)), (0, .ref m0), (1, .int (nI (j))), (2, .int (bI d))]) hx hb dX6_readLink_139 hl (by decide) rfl (fun ls hl => ?_)
              refine lv_iconst (v := 0) hx hb dX6_readLink_141 (by decide) ?_
              refine lv_istore (lv' := [(7, .int 0), (6, .int (pSp tx ln j tp)), (5, .int x5), (4, .int (bI (p2 tx ln j tp))), (3, .int (pC tx ln tp)), (0, .ref m0), (1, .int (nI (j))), (2, .int (bI d))]) hx hb dX6_readLink_142 hl (by decide) rfl (fun ls hl => ?_)
              refine lv_aload_n hx hb dX6_readLink_144 rfl (lv_at hl 5 rfl) ?_
              refine lv_bipush (v := 91) hx hb dX6_readLink_145 (by decide) ?_
              refine lv_bipush (v := 91) hx hb dX6_readLink_147 (by decide) ?_
              refine k_ci (wr := []) [] rfl (by decide) [0, 1, 2, 3, 4, 5, 6, 7, 8, 9] rfl (by decide) hP hD hS hA (k_V (n := 2) (ci := 6) (As := [.int 91, .int 91]) (rest := []) (wc := [(m0, .inr (6, [.int (nI (th)), .ref ms, .ref mv, .int (nI (sm)), .ref mt, .int (nI (ln)), .ref mh, .ref mb, .ref mg, .ref mq, .ref ml, .ref mf, .int nw, .int fw, .int (nI (((p3 tx ln j tp).1))), .int (bI (((p3 tx ln j tp).2))), .long dg])), (ms, .inl (G.2.1, 88, .inl s0)), (mv, .inl (G.2.1, 528, .inl sv)), (mt, .inl (G.2.1, 60, .inl tx)), (mh, .inl (G.2.1, 21, .inl ht)), (mb, .inl (G.2.1, 21, .inl bu)), (mg, .inl (G.2.1, 21, .inl hg)), (mq, .inl (G.2.1, 21, .inl pq)), (ml, .inl (G.2.1, 21, .inl ld)), (mf, .inl (G.2.1, 20, .inl fo))]) hx hb hml hown hts hK hP hD hl (c_X6_isNext l G m0 ms mv mt mh mb mg mq ml mf th s0 sv sm tx ln ht bu hg pq ld fo nw fw ((p3 tx ln j tp).1) ((p3 tx ln j tp).2) dg 91 91 H.size (by first | assumption | omega) (by first | assumption | omega)) [0, 1, 2, 3, 4, 5, 6, 7, 8, 9] rfl (by decide) gX6_readLink_X6_isNext rfl rfl rfl (by decide +kernel) rfl ⟨Nat.le_of_ble_eq_true rfl, Nat.le_of_ble_eq_true rfl⟩ rfl rfl rfl (Nat.le_of_ble_eq_true rfl) dX6_readLink_149 ⟨Nat.le_of_ble_eq_true rfl, Nat.le_of_ble_eq_true rfl⟩) (fun r_149 u H locs hw hP hD hS => ?_)
              have hw_149 : r_149 = bI (pN tx ln 91 91 (((p3 tx ln j tp).1), ((p3 tx ln j tp).2))) := hw
              have hP : va_P G.1 vwCl [(m0, .inr (6, [.int (nI (th)), .ref ms, .ref mv, .int (nI (sm)), .ref mt, .int (nI (ln)), .ref mh, .ref mb, .ref mg, .ref mq, .ref ml, .ref mf, .int nw, .int fw, .int (nI (((p3 tx ln j tp).1))), .int (bI (((p3 tx ln j tp).2))), .long dg])), (ms, .inl (G.2.1, 88, .inl s0)), (mv, .inl (G.2.1, 528, .inl sv)), (mt, .inl (G.2.1, 60, .inl tx)), (mh, .inl (G.2.1, 21, .inl ht)), (mb, .inl (G.2.1, 21, .inl bu)), (mg, .inl (G.2.1, 21, .inl hg)), (mq, .inl (G.2.1, 21, .inl pq)), (ml, .inl (G.2.1, 21, .inl ld)), (mf, .inl (G.2.1, 20, .inl fo))] H := hP
              have hD : va_D A [(m0, .inr (6, [.int (nI (th)), .ref ms, .ref mv, .int (nI (sm)), .ref mt, .int (nI (ln)), .ref mh, .ref mb, .ref mg, .ref mq, .ref ml, .ref mf, .int nw, .int fw, .int (nI (((p3 tx ln j tp).1))), .int (bI (((p3 tx ln j tp).2))), .long dg])), (ms, .inl (G.2.1, 88, .inl s0)), (mv, .inl (G.2.1, 528, .inl sv)), (mt, .inl (G.2.1, 60, .inl tx)), (mh, .inl (G.2.1, 21, .inl ht)), (mb, .inl (G.2.1, 21, .inl bu)), (mg, .inl (G.2.1, 21, .inl hg)), (mq, .inl (G.2.1, 21, .inl pq)), (ml, .inl (G.2.1, 21, .inl ld)), (mf, .inl (G.2.1, 20, .inl fo))] := hD
              subst hw_149
              have L223 : ∀ (x : Int32) (t9 : Nat) (w9 : Bool), (x = pW tx ln j tp) → (t9 = (pE tx ln j tp).1) → (w9 = (pE tx ln j tp).2) → ∀ (H : Heap) (locs : List Loc) (ls : Array Slot), va_P G.1 vwCl [(m0, .inr (6, [.int (nI (th)), .ref ms, .ref mv, .int (nI (sm)), .ref mt, .int (nI (ln)), .ref mh, .ref mb, .ref mg, .ref mq, .ref ml, .ref mf, .int nw, .int fw, .int (nI t9), .int (bI w9), .long dg])), (ms, .inl (G.2.1, 88, .inl s0)), (mv, .inl (G.2.1, 528, .inl sv)), (mt, .inl (G.2.1, 60, .inl tx)), (mh, .inl (G.2.1, 21, .inl ht)), (mb, .inl (G.2.1, 21, .inl bu)), (mg, .inl (G.2.1, 21, .inl hg)), (mq, .inl (G.2.1, 21, .inl pq)), (ml, .inl (G.2.1, 21, .inl ld)), (mf, .inl (G.2.1, 20, .inl fo))] H → va_D A [(m0, .inr (6, [.int (nI (th)), .ref ms, .ref mv, .int (nI (sm)), .ref mt, .int (nI (ln)), .ref mh, .ref mb, .ref mg, .ref mq, .ref ml, .ref mf, .int nw, .int fw, .int (nI t9), .int (bI w9), .long dg])), (ms, .inl (G.2.1, 88, .inl s0)), (mv, .inl (G.2.1, 528, .inl sv)), (mt, .inl (G.2.1, 60, .inl tx)), (mh, .inl (G.2.1, 21, .inl ht)), (mb, .inl (G.2.1, 21, .inl bu)), (mg, .inl (G.2.1, 21, .inl hg)), (mq, .inl (G.2.1, 21, .inl pq)), (ml, .inl (G.2.1, 21, .inl ld)), (mf, .inl (G.2.1, 20, .inl fo))] → va_S A s.heap H locs → lv_has ls 10 [(7, .int x), (6, .int (pSp tx ln j tp)), (5, .int x5), (4, .int (bI (p2 tx ln j tp))), (3, .int (pC tx ln tp)), (0, .ref m0), (1, .int (nI (j))), (2, .int (bI d))] → W p l e ({ frames := 2, cells := 0, slots := 0, locals := 45 } : Room) s m args below meth c H locs 0 0 Q (F0 m 223 ls []) := by
                intro x t9 w9 ex e1 e2 H locs ls hP hD hS hl
                subst ex
                subst e1
                subst e2
                refine lv_iload_n hx hb dX6_readLink_223 rfl (lv_at hl 7 rfl) ?_
                refine lv_if_eq (tgt := 279) hx hb dX6_readLink_224 (by decide) (fun c_224 => ?_) (fun c_224 => ?_)
                · skip
                  have hfx_1 : (s0 : Nat → Int32) = if d = true then rlS s0 j (pSt tx ln j tp) (pW tx ln j tp) else s0 := by first | exact (if_neg (bI_nt c_224)).symm | exact (if_pos (bI_y c_224)).symm
                  have hP : va_P G.1 vwCl [(m0, .inr (6, [.int (nI (th)), .ref ms, .ref mv, .int (nI (sm)), .ref mt, .int (nI (ln)), .ref mh, .ref mb, .ref mg, .ref mq, .ref ml, .ref mf, .int nw, .int fw, .int (nI (pE tx ln j tp).1), .int (bI (pE tx ln j tp).2), .long dg])), (ms, .inl (G.2.1, 88, .inl (if d = true then rlS s0 j (pSt tx ln j tp) (pW tx ln j tp) else s0))), (mv, .inl (G.2.1, 528, .inl sv)), (mt, .inl (G.2.1, 60, .inl tx)), (mh, .inl (G.2.1, 21, .inl ht)), (mb, .inl (G.2.1, 21, .inl bu)), (mg, .inl (G.2.1, 21, .inl hg)), (mq, .inl (G.2.1, 21, .inl pq)), (ml, .inl (G.2.1, 21, .inl ld)), (mf, .inl (G.2.1, 20, .inl fo))] H := by rw [← hfx_1]; exact hP
                  have hD : va_D A [(m0, .inr (6, [.int (nI (th)), .ref ms, .ref mv, .int (nI (sm)), .ref mt, .int (nI (ln)), .ref mh, .ref mb, .ref mg, .ref mq, .ref ml, .ref mf, .int nw, .int fw, .int (nI (pE tx ln j tp).1), .int (bI (pE tx ln j tp).2), .long dg])), (ms, .inl (G.2.1, 88, .inl (if d = true then rlS s0 j (pSt tx ln j tp) (pW tx ln j tp) else s0))), (mv, .inl (G.2.1, 528, .inl sv)), (mt, .inl (G.2.1, 60, .inl tx)), (mh, .inl (G.2.1, 21, .inl ht)), (mb, .inl (G.2.1, 21, .inl bu)), (mg, .inl (G.2.1, 21, .inl hg)), (mq, .inl (G.2.1, 21, .inl pq)), (ml, .inl (G.2.1, 21, .inl ld)), (mf, .inl (G.2.1, 20, .inl fo))] := by rw [← hfx_1]; exact hD
                  rw [hQ]
                  exact k_vret () [0, 1, 2, 3, 4, 5, 6, 7, 8, 9] hx hb hr hlocks (trivial) hK hP hD hS rfl (by decide) dX6_readLink_279
                · skip
                  have hj2 := hjd (bI_y c_224)
                  refine lv_aload_n hx hb dX6_readLink_227 rfl (lv_at hl 5 rfl) ?_
                  refine va_get (D := G.1) (ci := 6) (v := .ref ms) (C := RX6) (T := TX6) (N := 17) hx hb hts hinX6 hown hK hP 0 rfl rfl 1 (by decide) hf7 (fun _ h9 => h9) rfl dX6_readLink_228 ?_
                  refine lv_iconst (v := 5) hx hb dX6_readLink_231 (by decide) ?_
                  refine lv_iload_n hx hb dX6_readLink_232 rfl (lv_at hl 6 rfl) ?_
                  refine lv_iadd hx hb dX6_readLink_233 ?_
                  refine g_ti (y := nI (5 + j)) (nI_add (5) (j)) ?_
                  refine lv_iload_n hx hb dX6_readLink_234 rfl (lv_at hl 4 rfl) ?_
                  refine lv_bipush (v := 61) hx hb dX6_readLink_235 (by decide) ?_
                  have L258 : ∀ (x : Int32), (x = pSt tx ln j tp) → ∀ (H : Heap) (locs : List Loc) (ls : Array Slot), va_P G.1 vwCl [(m0, .inr (6, [.int (nI (th)), .ref ms, .ref mv, .int (nI (sm)), .ref mt, .int (nI (ln)), .ref mh, .ref mb, .ref mg, .ref mq, .ref ml, .ref mf, .int nw, .int fw, .int (nI (pE tx ln j tp).1), .int (bI (pE tx ln j tp).2), .long dg])), (ms, .inl (G.2.1, 88, .inl s0)), (mv, .inl (G.2.1, 528, .inl sv)), (mt, .inl (G.2.1, 60, .inl tx)), (mh, .inl (G.2.1, 21, .inl ht)), (mb, .inl (G.2.1, 21, .inl bu)), (mg, .inl (G.2.1, 21, .inl hg)), (mq, .inl (G.2.1, 21, .inl pq)), (ml, .inl (G.2.1, 21, .inl ld)), (mf, .inl (G.2.1, 20, .inl fo))] H → va_D A [(m0, .inr (6, [.int (nI (th)), .ref ms, .ref mv, .int (nI (sm)), .ref mt, .int (nI (ln)), .ref mh, .ref mb, .ref mg, .ref mq, .ref ml, .ref mf, .int nw, .int fw, .int (nI (pE tx ln j tp).1), .int (bI (pE tx ln j tp).2), .long dg])), (ms, .inl (G.2.1, 88, .inl s0)), (mv, .inl (G.2.1, 528, .inl sv)), (mt, .inl (G.2.1, 60, .inl tx)), (mh, .inl (G.2.1, 21, .inl ht)), (mb, .inl (G.2.1, 21, .inl bu)), (mg, .inl (G.2.1, 21, .inl hg)), (mq, .inl (G.2.1, 21, .inl pq)), (ml, .inl (G.2.1, 21, .inl ld)), (mf, .inl (G.2.1, 20, .inl fo))] → va_S A s.heap H locs → lv_has ls 10 [(7, .int (pW tx ln j tp)), (6, .int (pSp tx ln j tp)), (5, .int x5), (4, .int (bI (p2 tx ln j tp))), (3, .int (pC tx ln tp)), (0, .ref m0), (1, .int (nI (j))), (2, .int (bI d))] → W p l e ({ frames := 2, cells := 0, slots := 0, locals := 45 } : Room) s m args below meth c H locs 0 0 Q (F0 m 258 ls [.int x, .int (nI (5 + j)), .ref ms]) := by
                    intro x ex H locs ls hP hD hS hl
                    subst ex
                    refine g_iast (k := 5 + j) hx hb hK hP hD hS 1 rfl (by omega) (by omega) dX6_readLink_258 (fun H locs hP hD hS => ?_)
                    have hP : va_P G.1 vwCl [(m0, .inr (6, [.int (nI (th)), .ref ms, .ref mv, .int (nI (sm)), .ref mt, .int (nI (ln)), .ref mh, .ref mb, .ref mg, .ref mq, .ref ml, .ref mf, .int nw, .int fw, .int (nI (pE tx ln j tp).1), .int (bI (pE tx ln j tp).2), .long dg])), (ms, .inl (G.2.1, 88, .inl (upd s0 (5 + j) (pSt tx ln j tp)))), (mv, .inl (G.2.1, 528, .inl sv)), (mt, .inl (G.2.1, 60, .inl tx)), (mh, .inl (G.2.1, 21, .inl ht)), (mb, .inl (G.2.1, 21, .inl bu)), (mg, .inl (G.2.1, 21, .inl hg)), (mq, .inl (G.2.1, 21, .inl pq)), (ml, .inl (G.2.1, 21, .inl ld)), (mf, .inl (G.2.1, 20, .inl fo))] H := hP
                    have hD : va_D A [(m0, .inr (6, [.int (nI (th)), .ref ms, .ref mv, .int (nI (sm)), .ref mt, .int (nI (ln)), .ref mh, .ref mb, .ref mg, .ref mq, .ref ml, .ref mf, .int nw, .int fw, .int (nI (pE tx ln j tp).1), .int (bI (pE tx ln j tp).2), .long dg])), (ms, .inl (G.2.1, 88, .inl (upd s0 (5 + j) (pSt tx ln j tp)))), (mv, .inl (G.2.1, 528, .inl sv)), (mt, .inl (G.2.1, 60, .inl tx)), (mh, .inl (G.2.1, 21, .inl ht)), (mb, .inl (G.2.1, 21, .inl bu)), (mg, .inl (G.2.1, 21, .inl hg)), (mq, .inl (G.2.1, 21, .inl pq)), (ml, .inl (G.2.1, 21, .inl ld)), (mf, .inl (G.2.1, 20, .inl fo))] := hD
                    refine lv_aload_n hx hb dX6_readLink_259 rfl (lv_at hl 5 rfl) ?_
                    refine lv_iload_n hx hb dX6_readLink_260 rfl (lv_at hl 6 rfl) ?_
                    refine lv_iconst (v := 1) hx hb dX6_readLink_261 (by decide) ?_
                    refine lv_iadd hx hb dX6_readLink_262 ?_
                    refine g_ti (y := nI (j + 1)) (nI_add (j) (1)) ?_
                    refine k_cv (wr := []) [] rfl (by decide) [0, 1, 2, 3, 4, 5, 6, 7, 8, 9] rfl (by decide) hP hD hS hA (k_V (n := 1) (ci := 6) (As := [.int (nI (j + 1))]) (rest := []) (wc := [(m0, .inr (6, [.int (nI (th)), .ref ms, .ref mv, .int (nI (sm)), .ref mt, .int (nI (ln)), .ref mh, .ref mb, .ref mg, .ref mq, .ref ml, .ref mf, .int nw, .int fw, .int (nI (((pE tx ln j tp).1))), .int (bI (((pE tx ln j tp).2))), .long dg])), (ms, .inl (G.2.1, 88, .inl (upd s0 (5 + j) (pSt tx ln j tp)))), (mv, .inl (G.2.1, 528, .inl sv)), (mt, .inl (G.2.1, 60, .inl tx)), (mh, .inl (G.2.1, 21, .inl ht)), (mb, .inl (G.2.1, 21, .inl bu)), (mg, .inl (G.2.1, 21, .inl hg)), (mq, .inl (G.2.1, 21, .inl pq)), (ml, .inl (G.2.1, 21, .inl ld)), (mf, .inl (G.2.1, 20, .inl fo))]) hx hb hml hown hts hK hP hD hl (c_X6_noMore l G m0 ms mv mt mh mb mg mq ml mf th (upd s0 (5 + j) (pSt tx ln j tp)) sv sm tx ln ht bu hg pq ld fo nw fw ((pE tx ln j tp).1) ((pE tx ln j tp).2) dg (j + 1) H.size (by first | assumption | omega)) [0, 1, 2, 3, 4, 5, 6, 7, 8, 9] rfl (by decide) gX6_readLink_X6_noMore rfl rfl rfl (by decide +kernel) rfl ⟨Nat.le_of_ble_eq_true rfl, Nat.le_of_ble_eq_true rfl⟩ rfl rfl rfl (Nat.le_of_ble_eq_true rfl) dX6_readLink_263 ⟨Nat.le_of_ble_eq_true rfl, Nat.le_of_ble_eq_true rfl⟩) (fun u H locs hw hP hD hS => ?_)
                    have hw_263 : True := hw
                    have hP : va_P G.1 vwCl [(m0, .inr (6, [.int (nI (th)), .ref ms, .ref mv, .int (nI (sm)), .ref mt, .int (nI (ln)), .ref mh, .ref mb, .ref mg, .ref mq, .ref ml, .ref mf, .int nw, .int fw, .int (nI (((pE tx ln j tp).1))), .int (bI (((pE tx ln j tp).2))), .long dg])), (ms, .inl (G.2.1, 88, .inl (noM (upd s0 (5 + j) (pSt tx ln j tp)) (j + 1)))), (mv, .inl (G.2.1, 528, .inl sv)), (mt, .inl (G.2.1, 60, .inl tx)), (mh, .inl (G.2.1, 21, .inl ht)), (mb, .inl (G.2.1, 21, .inl bu)), (mg, .inl (G.2.1, 21, .inl hg)), (mq, .inl (G.2.1, 21, .inl pq)), (ml, .inl (G.2.1, 21, .inl ld)), (mf, .inl (G.2.1, 20, .inl fo))] H := hP
                    have hD : va_D A [(m0, .inr (6, [.int (nI (th)), .ref ms, .ref mv, .int (nI (sm)), .ref mt, .int (nI (ln)), .ref mh, .ref mb, .ref mg, .ref mq, .ref ml, .ref mf, .int nw, .int fw, .int (nI (((pE tx ln j tp).1))), .int (bI (((pE tx ln j tp).2))), .long dg])), (ms, .inl (G.2.1, 88, .inl (noM (upd s0 (5 + j) (pSt tx ln j tp)) (j + 1)))), (mv, .inl (G.2.1, 528, .inl sv)), (mt, .inl (G.2.1, 60, .inl tx)), (mh, .inl (G.2.1, 21, .inl ht)), (mb, .inl (G.2.1, 21, .inl bu)), (mg, .inl (G.2.1, 21, .inl hg)), (mq, .inl (G.2.1, 21, .inl pq)), (ml, .inl (G.2.1, 21, .inl ld)), (mf, .inl (G.2.1, 20, .inl fo))] := hD
                    refine lv_aload_n hx hb dX6_readLink_266 rfl (lv_at hl 5 rfl) ?_
                    refine va_get (D := G.1) (ci := 6) (v := .ref ms) (C := RX6) (T := TX6) (N := 17) hx hb hts hinX6 hown hK hP 0 rfl rfl 1 (by decide) hf7 (fun _ h9 => h9) rfl dX6_readLink_267 ?_
                    refine lv_bipush (v := 25) hx hb dX6_readLink_270 (by decide) ?_
                    refine lv_iload_n hx hb dX6_readLink_272 rfl (lv_at hl 6 rfl) ?_
                    refine lv_iadd hx hb dX6_readLink_273 ?_
                    refine g_ti (y := nI (25 + j)) (nI_add (25) (j)) ?_
                    refine lv_iconst (v := 1) hx hb dX6_readLink_274 (by decide) ?_
                    refine lv_iadd hx hb dX6_readLink_275 ?_
                    refine g_ti (y := nI ((25 + j) + 1)) (nI_add (25 + j) (1)) ?_
                    refine lv_iload hx hb dX6_readLink_276 (lv_at hl 0 rfl) ?_
                    refine g_iast (k := (25 + j) + 1) hx hb hK hP hD hS 1 rfl (by omega) (by omega) dX6_readLink_278 (fun H locs hP hD hS => ?_)
                    have hP : va_P G.1 vwCl [(m0, .inr (6, [.int (nI (th)), .ref ms, .ref mv, .int (nI (sm)), .ref mt, .int (nI (ln)), .ref mh, .ref mb, .ref mg, .ref mq, .ref ml, .ref mf, .int nw, .int fw, .int (nI (((pE tx ln j tp).1))), .int (bI (((pE tx ln j tp).2))), .long dg])), (ms, .inl (G.2.1, 88, .inl (upd (noM (upd s0 (5 + j) (pSt tx ln j tp)) (j + 1)) ((25 + j) + 1) (pW tx ln j tp)))), (mv, .inl (G.2.1, 528, .inl sv)), (mt, .inl (G.2.1, 60, .inl tx)), (mh, .inl (G.2.1, 21, .inl ht)), (mb, .inl (G.2.1, 21, .inl bu)), (mg, .inl (G.2.1, 21, .inl hg)), (mq, .inl (G.2.1, 21, .inl pq)), (ml, .inl (G.2.1, 21, .inl ld)), (mf, .inl (G.2.1, 20, .inl fo))] H := hP
                    have hD : va_D A [(m0, .inr (6, [.int (nI (th)), .ref ms, .ref mv, .int (nI (sm)), .ref mt, .int (nI (ln)), .ref mh, .ref mb, .ref mg, .ref mq, .ref ml, .ref mf, .int nw, .int fw, .int (nI (((pE tx ln j tp).1))), .int (bI (((pE tx ln j tp).2))), .long dg])), (ms, .inl (G.2.1, 88, .inl (upd (noM (upd s0 (5 + j) (pSt tx ln j tp)) (j + 1)) ((25 + j) + 1) (pW tx ln j tp)))), (mv, .inl (G.2.1, 528, .inl sv)), (mt, .inl (G.2.1, 60, .inl tx)), (mh, .inl (G.2.1, 21, .inl ht)), (mb, .inl (G.2.1, 21, .inl bu)), (mg, .inl (G.2.1, 21, .inl hg)), (mq, .inl (G.2.1, 21, .inl pq)), (ml, .inl (G.2.1, 21, .inl ld)), (mf, .inl (G.2.1, 20, .inl fo))] := hD
                    have hfx_2 : (upd (noM (upd s0 (5 + j) (pSt tx ln j tp)) (j + 1)) ((25 + j) + 1) (pW tx ln j tp) : Nat → Int32) = if d = true then rlS s0 j (pSt tx ln j tp) (pW tx ln j tp) else s0 := by first | exact (if_neg (bI_nt c_224)).symm | exact (if_pos (bI_y c_224)).symm
                    have hP : va_P G.1 vwCl [(m0, .inr (6, [.int (nI (th)), .ref ms, .ref mv, .int (nI (sm)), .ref mt, .int (nI (ln)), .ref mh, .ref mb, .ref mg, .ref mq, .ref ml, .ref mf, .int nw, .int fw, .int (nI (((pE tx ln j tp).1))), .int (bI (((pE tx ln j tp).2))), .long dg])), (ms, .inl (G.2.1, 88, .inl (if d = true then rlS s0 j (pSt tx ln j tp) (pW tx ln j tp) else s0))), (mv, .inl (G.2.1, 528, .inl sv)), (mt, .inl (G.2.1, 60, .inl tx)), (mh, .inl (G.2.1, 21, .inl ht)), (mb, .inl (G.2.1, 21, .inl bu)), (mg, .inl (G.2.1, 21, .inl hg)), (mq, .inl (G.2.1, 21, .inl pq)), (ml, .inl (G.2.1, 21, .inl ld)), (mf, .inl (G.2.1, 20, .inl fo))] H := by rw [← hfx_2]; exact hP
                    have hD : va_D A [(m0, .inr (6, [.int (nI (th)), .ref ms, .ref mv, .int (nI (sm)), .ref mt, .int (nI (ln)), .ref mh, .ref mb, .ref mg, .ref mq, .ref ml, .ref mf, .int nw, .int fw, .int (nI (((pE tx ln j tp).1))), .int (bI (((pE tx ln j tp).2))), .long dg])), (ms, .inl (G.2.1, 88, .inl (if d = true then rlS s0 j (pSt tx ln j tp) (pW tx ln j tp) else s0))), (mv, .inl (G.2.1, 528, .inl sv)), (mt, .inl (G.2.1, 60, .inl tx)), (mh, .inl (G.2.1, 21, .inl ht)), (mb, .inl (G.2.1, 21, .inl bu)), (mg, .inl (G.2.1, 21, .inl hg)), (mq, .inl (G.2.1, 21, .inl pq)), (ml, .inl (G.2.1, 21, .inl ld)), (mf, .inl (G.2.1, 20, .inl fo))] := by rw [← hfx_2]; exact hD
                    rw [hQ]
                    exact k_vret () [0, 1, 2, 3, 4, 5, 6, 7, 8, 9] hx hb hr hlocks (trivial) hK hP hD hS rfl (by decide) dX6_readLink_279
                  refine lv_icmp_ne (tgt := 244) hx hb dX6_readLink_237 (by decide) (fun c_237 => ?_) (fun c_237 => ?_)
                  · skip
                    refine lv_iload_n hx hb dX6_readLink_244 rfl (lv_at hl 4 rfl) ?_
                    refine lv_bipush (v := 94) hx hb dX6_readLink_245 (by decide) ?_
                    refine lv_icmp_ne (tgt := 255) hx hb dX6_readLink_247 (by decide) (fun c_247 => ?_) (fun c_247 => ?_)
                    · skip
                      refine lv_iload hx hb dX6_readLink_255 (lv_at hl 1 rfl) ?_
                      refine lv_ineg hx hb dX6_readLink_257 ?_
                      exact L258 (-(pSp tx ln j tp)) (pSt_2 c_237 c_247) _ _ _ hP hD hS (lv_sub hl [0, 1, 2, 3, 4, 5, 6, 7] rfl)
                    · skip
                      refine lv_iload hx hb dX6_readLink_250 (lv_at hl 1 rfl) ?_
                      refine lv_goto (tgt := 258) hx hb dX6_readLink_252 (by decide) ?_
                      exact L258 (pSp tx ln j tp) (pSt_1 c_237 c_247) _ _ _ hP hD hS (lv_sub hl [0, 1, 2, 3, 4, 5, 6, 7] rfl)
                  · skip
                    refine lv_iconst (v := 0) hx hb dX6_readLink_240 (by decide) ?_
                    refine lv_goto (tgt := 258) hx hb dX6_readLink_241 (by decide) ?_
                    exact L258 0 (pSt_0 c_237) _ _ _ hP hD hS (lv_sub hl [0, 1, 2, 3, 4, 5, 6, 7] rfl)
              refine lv_if_eq (tgt := 223) hx hb dX6_readLink_152 (by decide) (fun c_152 => ?_) (fun c_152 => ?_)
              · skip
                exact L223 0 ((p3 tx ln j tp).1) ((p3 tx ln j tp).2) (wB_f c_152) (by show _ = (pB tx ln (p3 tx ln j tp)).1; rw [pB_f c_152]) (by show _ = (pB tx ln (p3 tx ln j tp)).2; rw [pB_f c_152]) _ _ _ hP hD hS (lv_sub hl [0, 1, 2, 3, 4, 5, 6, 7] rfl)
              · skip
                have hq4 : (pS tx ln 91 91 (p3 tx ln j tp)).1 ≤ ln := pS_le (by decide) hq3
                have hq5 : (p5 tx ln (p3 tx ln j tp)).1 ≤ ln := p5_le hq3
                refine lv_aload_n hx hb dX6_readLink_155 rfl (lv_at hl 5 rfl) ?_
                refine lv_bipush (v := 91) hx hb dX6_readLink_156 (by decide) ?_
                refine lv_bipush (v := 91) hx hb dX6_readLink_158 (by decide) ?_
                refine k_ci (wr := []) [] rfl (by decide) [0, 1, 2, 3, 4, 5, 6, 7, 8, 9] rfl (by decide) hP hD hS hA (k_V (n := 2) (ci := 6) (As := [.int 91, .int 91]) (rest := []) (wc := [(m0, .inr (6, [.int (nI (th)), .ref ms, .ref mv, .int (nI (sm)), .ref mt, .int (nI (ln)), .ref mh, .ref mb, .ref mg, .ref mq, .ref ml, .ref mf, .int nw, .int fw, .int (nI (((p3 tx ln j tp).1))), .int (bI (((p3 tx ln j tp).2))), .long dg])), (ms, .inl (G.2.1, 88, .inl s0)), (mv, .inl (G.2.1, 528, .inl sv)), (mt, .inl (G.2.1, 60, .inl tx)), (mh, .inl (G.2.1, 21, .inl ht)), (mb, .inl (G.2.1, 21, .inl bu)), (mg, .inl (G.2.1, 21, .inl hg)), (mq, .inl (G.2.1, 21, .inl pq)), (ml, .inl (G.2.1, 21, .inl ld)), (mf, .inl (G.2.1, 20, .inl fo))]) hx hb hml hown hts hK hP hD hl (c_X6_sign l G m0 ms mv mt mh mb mg mq ml mf th s0 sv sm tx ln ht bu hg pq ld fo nw fw ((p3 tx ln j tp).1) ((p3 tx ln j tp).2) dg 91 91 H.size (by first | assumption | omega) (by first | assumption | omega)) [0, 1, 2, 3, 4, 5, 6, 7, 8, 9] rfl (by decide) gX6_readLink_X6_sign rfl rfl rfl (by decide +kernel) rfl ⟨Nat.le_of_ble_eq_true rfl, Nat.le_of_ble_eq_true rfl⟩ rfl rfl rfl (Nat.le_of_ble_eq_true rfl) dX6_readLink_160 ⟨Nat.le_of_ble_eq_true rfl, Nat.le_of_ble_eq_true rfl⟩) (fun r_160 u H locs hw hP hD hS => ?_)
                have hw_160 : r_160 = pC tx ln ((p3 tx ln j tp).1) := hw
                have hP : va_P G.1 vwCl [(m0, .inr (6, [.int (nI (th)), .ref ms, .ref mv, .int (nI (sm)), .ref mt, .int (nI (ln)), .ref mh, .ref mb, .ref mg, .ref mq, .ref ml, .ref mf, .int nw, .int fw, .int (nI ((pS tx ln 91 91 (((p3 tx ln j tp).1), ((p3 tx ln j tp).2))).1)), .int (bI ((pS tx ln 91 91 (((p3 tx ln j tp).1), ((p3 tx ln j tp).2))).2)), .long dg])), (ms, .inl (G.2.1, 88, .inl s0)), (mv, .inl (G.2.1, 528, .inl sv)), (mt, .inl (G.2.1, 60, .inl tx)), (mh, .inl (G.2.1, 21, .inl ht)), (mb, .inl (G.2.1, 21, .inl bu)), (mg, .inl (G.2.1, 21, .inl hg)), (mq, .inl (G.2.1, 21, .inl pq)), (ml, .inl (G.2.1, 21, .inl ld)), (mf, .inl (G.2.1, 20, .inl fo))] H := hP
                have hD : va_D A [(m0, .inr (6, [.int (nI (th)), .ref ms, .ref mv, .int (nI (sm)), .ref mt, .int (nI (ln)), .ref mh, .ref mb, .ref mg, .ref mq, .ref ml, .ref mf, .int nw, .int fw, .int (nI ((pS tx ln 91 91 (((p3 tx ln j tp).1), ((p3 tx ln j tp).2))).1)), .int (bI ((pS tx ln 91 91 (((p3 tx ln j tp).1), ((p3 tx ln j tp).2))).2)), .long dg])), (ms, .inl (G.2.1, 88, .inl s0)), (mv, .inl (G.2.1, 528, .inl sv)), (mt, .inl (G.2.1, 60, .inl tx)), (mh, .inl (G.2.1, 21, .inl ht)), (mb, .inl (G.2.1, 21, .inl bu)), (mg, .inl (G.2.1, 21, .inl hg)), (mq, .inl (G.2.1, 21, .inl pq)), (ml, .inl (G.2.1, 21, .inl ld)), (mf, .inl (G.2.1, 20, .inl fo))] := hD
                subst hw_160
                refine lv_istore (lv' := [(8, .int (pC tx ln ((p3 tx ln j tp).1))), (7, .int 0), (6, .int (pSp tx ln j tp)), (5, .int x5), (4, .int (bI (p2 tx ln j tp))), (3, .int (pC tx ln tp)), (0, .ref m0), (1, .int (nI (j))), (2, .int (bI d))]) hx hb dX6_readLink_163 hl (by decide) rfl (fun ls hl => ?_)
                refine lv_aload_n hx hb dX6_readLink_165 rfl (lv_at hl 6 rfl) ?_
                refine lv_bipush (v := 49) hx hb dX6_readLink_166 (by decide) ?_
                refine lv_bipush (v := 57) hx hb dX6_readLink_168 (by decide) ?_
                refine k_ci (wr := []) [] rfl (by decide) [0, 1, 2, 3, 4, 5, 6, 7, 8, 9] rfl (by decide) hP hD hS hA (k_V (n := 2) (ci := 6) (As := [.int 49, .int 57]) (rest := []) (wc := [(m0, .inr (6, [.int (nI (th)), .ref ms, .ref mv, .int (nI (sm)), .ref mt, .int (nI (ln)), .ref mh, .ref mb, .ref mg, .ref mq, .ref ml, .ref mf, .int nw, .int fw, .int (nI (((pS tx ln 91 91 (((p3 tx ln j tp).1), ((p3 tx ln j tp).2))).1))), .int (bI (((pS tx ln 91 91 (((p3 tx ln j tp).1), ((p3 tx ln j tp).2))).2))), .long dg])), (ms, .inl (G.2.1, 88, .inl s0)), (mv, .inl (G.2.1, 528, .inl sv)), (mt, .inl (G.2.1, 60, .inl tx)), (mh, .inl (G.2.1, 21, .inl ht)), (mb, .inl (G.2.1, 21, .inl bu)), (mg, .inl (G.2.1, 21, .inl hg)), (mq, .inl (G.2.1, 21, .inl pq)), (ml, .inl (G.2.1, 21, .inl ld)), (mf, .inl (G.2.1, 20, .inl fo))]) hx hb hml hown hts hK hP hD hl (c_X6_sign l G m0 ms mv mt mh mb mg mq ml mf th s0 sv sm tx ln ht bu hg pq ld fo nw fw ((pS tx ln 91 91 (((p3 tx ln j tp).1), ((p3 tx ln j tp).2))).1) ((pS tx ln 91 91 (((p3 tx ln j tp).1), ((p3 tx ln j tp).2))).2) dg 49 57 H.size (by first | assumption | omega) (Nat.le_trans hq4 hln)) [0, 1, 2, 3, 4, 5, 6, 7, 8, 9] rfl (by decide) gX6_readLink_X6_sign rfl rfl rfl (by decide +kernel) rfl ⟨Nat.le_of_ble_eq_true rfl, Nat.le_of_ble_eq_true rfl⟩ rfl rfl rfl (Nat.le_of_ble_eq_true rfl) dX6_readLink_170 ⟨Nat.le_of_ble_eq_true rfl, Nat.le_of_ble_eq_true rfl⟩) (fun r_170 u H locs hw hP hD hS => ?_)
                have hw_170 : r_170 = pC tx ln ((pS tx ln 91 91 (((p3 tx ln j tp).1), ((p3 tx ln j tp).2))).1) := hw
                have hP : va_P G.1 vwCl [(m0, .inr (6, [.int (nI (th)), .ref ms, .ref mv, .int (nI (sm)), .ref mt, .int (nI (ln)), .ref mh, .ref mb, .ref mg, .ref mq, .ref ml, .ref mf, .int nw, .int fw, .int (nI ((pS tx ln 49 57 (((pS tx ln 91 91 (((p3 tx ln j tp).1), ((p3 tx ln j tp).2))).1), ((pS tx ln 91 91 (((p3 tx ln j tp).1), ((p3 tx ln j tp).2))).2))).1)), .int (bI ((pS tx ln 49 57 (((pS tx ln 91 91 (((p3 tx ln j tp).1), ((p3 tx ln j tp).2))).1), ((pS tx ln 91 91 (((p3 tx ln j tp).1), ((p3 tx ln j tp).2))).2))).2)), .long dg])), (ms, .inl (G.2.1, 88, .inl s0)), (mv, .inl (G.2.1, 528, .inl sv)), (mt, .inl (G.2.1, 60, .inl tx)), (mh, .inl (G.2.1, 21, .inl ht)), (mb, .inl (G.2.1, 21, .inl bu)), (mg, .inl (G.2.1, 21, .inl hg)), (mq, .inl (G.2.1, 21, .inl pq)), (ml, .inl (G.2.1, 21, .inl ld)), (mf, .inl (G.2.1, 20, .inl fo))] H := hP
                have hD : va_D A [(m0, .inr (6, [.int (nI (th)), .ref ms, .ref mv, .int (nI (sm)), .ref mt, .int (nI (ln)), .ref mh, .ref mb, .ref mg, .ref mq, .ref ml, .ref mf, .int nw, .int fw, .int (nI ((pS tx ln 49 57 (((pS tx ln 91 91 (((p3 tx ln j tp).1), ((p3 tx ln j tp).2))).1), ((pS tx ln 91 91 (((p3 tx ln j tp).1), ((p3 tx ln j tp).2))).2))).1)), .int (bI ((pS tx ln 49 57 (((pS tx ln 91 91 (((p3 tx ln j tp).1), ((p3 tx ln j tp).2))).1), ((pS tx ln 91 91 (((p3 tx ln j tp).1), ((p3 tx ln j tp).2))).2))).2)), .long dg])), (ms, .inl (G.2.1, 88, .inl s0)), (mv, .inl (G.2.1, 528, .inl sv)), (mt, .inl (G.2.1, 60, .inl tx)), (mh, .inl (G.2.1, 21, .inl ht)), (mb, .inl (G.2.1, 21, .inl bu)), (mg, .inl (G.2.1, 21, .inl hg)), (mq, .inl (G.2.1, 21, .inl pq)), (ml, .inl (G.2.1, 21, .inl ld)), (mf, .inl (G.2.1, 20, .inl fo))] := hD
                subst hw_170
                refine lv_bipush (v := 48) hx hb dX6_readLink_173 (by decide) ?_
                refine lv_isub hx hb dX6_readLink_175 ?_
                refine lv_istore (lv' := [(7, .int ((pC tx ln ((pS tx ln 91 91 (((p3 tx ln j tp).1), ((p3 tx ln j tp).2))).1)) - 48)), (8, .int (pC tx ln ((p3 tx ln j tp).1))), (6, .int (pSp tx ln j tp)), (5, .int x5), (4, .int (bI (p2 tx ln j tp))), (3, .int (pC tx ln tp)), (0, .ref m0), (1, .int (nI (j))), (2, .int (bI d))]) hx hb dX6_readLink_176 hl (by decide) rfl (fun ls hl => ?_)
                refine lv_aload_n hx hb dX6_readLink_178 rfl (lv_at hl 6 rfl) ?_
                refine lv_bipush (v := 48) hx hb dX6_readLink_179 (by decide) ?_
                refine lv_bipush (v := 57) hx hb dX6_readLink_181 (by decide) ?_
                refine k_ci (wr := []) [] rfl (by decide) [0, 1, 2, 3, 4, 5, 6, 7, 8, 9] rfl (by decide) hP hD hS hA (k_V (n := 2) (ci := 6) (As := [.int 48, .int 57]) (rest := []) (wc := [(m0, .inr (6, [.int (nI (th)), .ref ms, .ref mv, .int (nI (sm)), .ref mt, .int (nI (ln)), .ref mh, .ref mb, .ref mg, .ref mq, .ref ml, .ref mf, .int nw, .int fw, .int (nI (((pS tx ln 49 57 (((pS tx ln 91 91 (((p3 tx ln j tp).1), ((p3 tx ln j tp).2))).1), ((pS tx ln 91 91 (((p3 tx ln j tp).1), ((p3 tx ln j tp).2))).2))).1))), .int (bI (((pS tx ln 49 57 (((pS tx ln 91 91 (((p3 tx ln j tp).1), ((p3 tx ln j tp).2))).1), ((pS tx ln 91 91 (((p3 tx ln j tp).1), ((p3 tx ln j tp).2))).2))).2))), .long dg])), (ms, .inl (G.2.1, 88, .inl s0)), (mv, .inl (G.2.1, 528, .inl sv)), (mt, .inl (G.2.1, 60, .inl tx)), (mh, .inl (G.2.1, 21, .inl ht)), (mb, .inl (G.2.1, 21, .inl bu)), (mg, .inl (G.2.1, 21, .inl hg)), (mq, .inl (G.2.1, 21, .inl pq)), (ml, .inl (G.2.1, 21, .inl ld)), (mf, .inl (G.2.1, 20, .inl fo))]) hx hb hml hown hts hK hP hD hl (c_X6_isNext l G m0 ms mv mt mh mb mg mq ml mf th s0 sv sm tx ln ht bu hg pq ld fo nw fw ((pS tx ln 49 57 (((pS tx ln 91 91 (((p3 tx ln j tp).1), ((p3 tx ln j tp).2))).1), ((pS tx ln 91 91 (((p3 tx ln j tp).1), ((p3 tx ln j tp).2))).2))).1) ((pS tx ln 49 57 (((pS tx ln 91 91 (((p3 tx ln j tp).1), ((p3 tx ln j tp).2))).1), ((pS tx ln 91 91 (((p3 tx ln j tp).1), ((p3 tx ln j tp).2))).2))).2) dg 48 57 H.size (by first | assumption | omega) (Nat.le_trans hq5 hln)) [0, 1, 2, 3, 4, 5, 6, 7, 8, 9] rfl (by decide) gX6_readLink_X6_isNext rfl rfl rfl (by decide +kernel) rfl ⟨Nat.le_of_ble_eq_true rfl, Nat.le_of_ble_eq_true rfl⟩ rfl rfl rfl (Nat.le_of_ble_eq_true rfl) dX6_readLink_183 ⟨Nat.le_of_ble_eq_true rfl, Nat.le_of_ble_eq_true rfl⟩) (fun r_183 u H locs hw hP hD hS => ?_)
                have hw_183 : r_183 = bI (pN tx ln 48 57 (((pS tx ln 49 57 (((pS tx ln 91 91 (((p3 tx ln j tp).1), ((p3 tx ln j tp).2))).1), ((pS tx ln 91 91 (((p3 tx ln j tp).1), ((p3 tx ln j tp).2))).2))).1), ((pS tx ln 49 57 (((pS tx ln 91 91 (((p3 tx ln j tp).1), ((p3 tx ln j tp).2))).1), ((pS tx ln 91 91 (((p3 tx ln j tp).1), ((p3 tx ln j tp).2))).2))).2))) := hw
                have hP : va_P G.1 vwCl [(m0, .inr (6, [.int (nI (th)), .ref ms, .ref mv, .int (nI (sm)), .ref mt, .int (nI (ln)), .ref mh, .ref mb, .ref mg, .ref mq, .ref ml, .ref mf, .int nw, .int fw, .int (nI (((pS tx ln 49 57 (((pS tx ln 91 91 (((p3 tx ln j tp).1), ((p3 tx ln j tp).2))).1), ((pS tx ln 91 91 (((p3 tx ln j tp).1), ((p3 tx ln j tp).2))).2))).1))), .int (bI (((pS tx ln 49 57 (((pS tx ln 91 91 (((p3 tx ln j tp).1), ((p3 tx ln j tp).2))).1), ((pS tx ln 91 91 (((p3 tx ln j tp).1), ((p3 tx ln j tp).2))).2))).2))), .long dg])), (ms, .inl (G.2.1, 88, .inl s0)), (mv, .inl (G.2.1, 528, .inl sv)), (mt, .inl (G.2.1, 60, .inl tx)), (mh, .inl (G.2.1, 21, .inl ht)), (mb, .inl (G.2.1, 21, .inl bu)), (mg, .inl (G.2.1, 21, .inl hg)), (mq, .inl (G.2.1, 21, .inl pq)), (ml, .inl (G.2.1, 21, .inl ld)), (mf, .inl (G.2.1, 20, .inl fo))] H := hP
                have hD : va_D A [(m0, .inr (6, [.int (nI (th)), .ref ms, .ref mv, .int (nI (sm)), .ref mt, .int (nI (ln)), .ref mh, .ref mb, .ref mg, .ref mq, .ref ml, .ref mf, .int nw, .int fw, .int (nI (((pS tx ln 49 57 (((pS tx ln 91 91 (((p3 tx ln j tp).1), ((p3 tx ln j tp).2))).1), ((pS tx ln 91 91 (((p3 tx ln j tp).1), ((p3 tx ln j tp).2))).2))).1))), .int (bI (((pS tx ln 49 57 (((pS tx ln 91 91 (((p3 tx ln j tp).1), ((p3 tx ln j tp).2))).1), ((pS tx ln 91 91 (((p3 tx ln j tp).1), ((p3 tx ln j tp).2))).2))).2))), .long dg])), (ms, .inl (G.2.1, 88, .inl s0)), (mv, .inl (G.2.1, 528, .inl sv)), (mt, .inl (G.2.1, 60, .inl tx)), (mh, .inl (G.2.1, 21, .inl ht)), (mb, .inl (G.2.1, 21, .inl bu)), (mg, .inl (G.2.1, 21, .inl hg)), (mq, .inl (G.2.1, 21, .inl pq)), (ml, .inl (G.2.1, 21, .inl ld)), (mf, .inl (G.2.1, 20, .inl fo))] := hD
                subst hw_183
                have L211 : ∀ (x : Int32) (t9 : Nat) (w9 : Bool), (x = w6 tx ln (p3 tx ln j tp)) → (t9 = (p6 tx ln (p3 tx ln j tp)).1) → (w9 = (p6 tx ln (p3 tx ln j tp)).2) → ∀ (H : Heap) (locs : List Loc) (ls : Array Slot), va_P G.1 vwCl [(m0, .inr (6, [.int (nI (th)), .ref ms, .ref mv, .int (nI (sm)), .ref mt, .int (nI (ln)), .ref mh, .ref mb, .ref mg, .ref mq, .ref ml, .ref mf, .int nw, .int fw, .int (nI t9), .int (bI w9), .long dg])), (ms, .inl (G.2.1, 88, .inl s0)), (mv, .inl (G.2.1, 528, .inl sv)), (mt, .inl (G.2.1, 60, .inl tx)), (mh, .inl (G.2.1, 21, .inl ht)), (mb, .inl (G.2.1, 21, .inl bu)), (mg, .inl (G.2.1, 21, .inl hg)), (mq, .inl (G.2.1, 21, .inl pq)), (ml, .inl (G.2.1, 21, .inl ld)), (mf, .inl (G.2.1, 20, .inl fo))] H → va_D A [(m0, .inr (6, [.int (nI (th)), .ref ms, .ref mv, .int (nI (sm)), .ref mt, .int (nI (ln)), .ref mh, .ref mb, .ref mg, .ref mq, .ref ml, .ref mf, .int nw, .int fw, .int (nI t9), .int (bI w9), .long dg])), (ms, .inl (G.2.1, 88, .inl s0)), (mv, .inl (G.2.1, 528, .inl sv)), (mt, .inl (G.2.1, 60, .inl tx)), (mh, .inl (G.2.1, 21, .inl ht)), (mb, .inl (G.2.1, 21, .inl bu)), (mg, .inl (G.2.1, 21, .inl hg)), (mq, .inl (G.2.1, 21, .inl pq)), (ml, .inl (G.2.1, 21, .inl ld)), (mf, .inl (G.2.1, 20, .inl fo))] → va_S A s.heap H locs → lv_has ls 10 [(7, .int ((pC tx ln ((pS tx ln 91 91 (((p3 tx ln j tp).1), ((p3 tx ln j tp).2))).1)) - 48)), (8, .int (pC tx ln ((p3 tx ln j tp).1))), (6, .int (pSp tx ln j tp)), (5, .int x5), (4, .int (bI (p2 tx ln j tp))), (3, .int (pC tx ln tp)), (0, .ref m0), (1, .int (nI (j))), (2, .int (bI d))] → W p l e ({ frames := 2, cells := 0, slots := 0, locals := 45 } : Room) s m args below meth c H locs 0 0 Q (F0 m 211 ls [.int x]) := by
                  intro x t9 w9 ex e1 e2 H locs ls hP hD hS hl
                  subst ex
                  subst e1
                  subst e2
                  have hq6 : (p6 tx ln (p3 tx ln j tp)).1 ≤ ln := p6_le hq3
                  refine lv_istore (lv' := [(7, .int (w6 tx ln (p3 tx ln j tp))), (8, .int (pC tx ln ((p3 tx ln j tp).1))), (6, .int (pSp tx ln j tp)), (5, .int x5), (4, .int (bI (p2 tx ln j tp))), (3, .int (pC tx ln tp)), (0, .ref m0), (1, .int (nI (j))), (2, .int (bI d))]) hx hb dX6_readLink_211 hl (by decide) rfl (fun ls hl => ?_)
                  refine lv_aload_n hx hb dX6_readLink_213 rfl (lv_at hl 6 rfl) ?_
                  refine lv_bipush (v := 93) hx hb dX6_readLink_214 (by decide) ?_
                  refine lv_bipush (v := 93) hx hb dX6_readLink_216 (by decide) ?_
                  refine k_ci (wr := []) [] rfl (by decide) [0, 1, 2, 3, 4, 5, 6, 7, 8, 9] rfl (by decide) hP hD hS hA (k_V (n := 2) (ci := 6) (As := [.int 93, .int 93]) (rest := []) (wc := [(m0, .inr (6, [.int (nI (th)), .ref ms, .ref mv, .int (nI (sm)), .ref mt, .int (nI (ln)), .ref mh, .ref mb, .ref mg, .ref mq, .ref ml, .ref mf, .int nw, .int fw, .int (nI (((p6 tx ln (p3 tx ln j tp)).1))), .int (bI (((p6 tx ln (p3 tx ln j tp)).2))), .long dg])), (ms, .inl (G.2.1, 88, .inl s0)), (mv, .inl (G.2.1, 528, .inl sv)), (mt, .inl (G.2.1, 60, .inl tx)), (mh, .inl (G.2.1, 21, .inl ht)), (mb, .inl (G.2.1, 21, .inl bu)), (mg, .inl (G.2.1, 21, .inl hg)), (mq, .inl (G.2.1, 21, .inl pq)), (ml, .inl (G.2.1, 21, .inl ld)), (mf, .inl (G.2.1, 20, .inl fo))]) hx hb hml hown hts hK hP hD hl (c_X6_sign l G m0 ms mv mt mh mb mg mq ml mf th s0 sv sm tx ln ht bu hg pq ld fo nw fw ((p6 tx ln (p3 tx ln j tp)).1) ((p6 tx ln (p3 tx ln j tp)).2) dg 93 93 H.size (by first | assumption | omega) (by first | assumption | omega)) [0, 1, 2, 3, 4, 5, 6, 7, 8, 9] rfl (by decide) gX6_readLink_X6_sign rfl rfl rfl (by decide +kernel) rfl ⟨Nat.le_of_ble_eq_true rfl, Nat.le_of_ble_eq_true rfl⟩ rfl rfl rfl (Nat.le_of_ble_eq_true rfl) dX6_readLink_218 ⟨Nat.le_of_ble_eq_true rfl, Nat.le_of_ble_eq_true rfl⟩) (fun r_218 u H locs hw hP hD hS => ?_)
                  have hw_218 : r_218 = pC tx ln ((p6 tx ln (p3 tx ln j tp)).1) := hw
                  have hP : va_P G.1 vwCl [(m0, .inr (6, [.int (nI (th)), .ref ms, .ref mv, .int (nI (sm)), .ref mt, .int (nI (ln)), .ref mh, .ref mb, .ref mg, .ref mq, .ref ml, .ref mf, .int nw, .int fw, .int (nI ((pS tx ln 93 93 (((p6 tx ln (p3 tx ln j tp)).1), ((p6 tx ln (p3 tx ln j tp)).2))).1)), .int (bI ((pS tx ln 93 93 (((p6 tx ln (p3 tx ln j tp)).1), ((p6 tx ln (p3 tx ln j tp)).2))).2)), .long dg])), (ms, .inl (G.2.1, 88, .inl s0)), (mv, .inl (G.2.1, 528, .inl sv)), (mt, .inl (G.2.1, 60, .inl tx)), (mh, .inl (G.2.1, 21, .inl ht)), (mb, .inl (G.2.1, 21, .inl bu)), (mg, .inl (G.2.1, 21, .inl hg)), (mq, .inl (G.2.1, 21, .inl pq)), (ml, .inl (G.2.1, 21, .inl ld)), (mf, .inl (G.2.1, 20, .inl fo))] H := hP
                  have hD : va_D A [(m0, .inr (6, [.int (nI (th)), .ref ms, .ref mv, .int (nI (sm)), .ref mt, .int (nI (ln)), .ref mh, .ref mb, .ref mg, .ref mq, .ref ml, .ref mf, .int nw, .int fw, .int (nI ((pS tx ln 93 93 (((p6 tx ln (p3 tx ln j tp)).1), ((p6 tx ln (p3 tx ln j tp)).2))).1)), .int (bI ((pS tx ln 93 93 (((p6 tx ln (p3 tx ln j tp)).1), ((p6 tx ln (p3 tx ln j tp)).2))).2)), .long dg])), (ms, .inl (G.2.1, 88, .inl s0)), (mv, .inl (G.2.1, 528, .inl sv)), (mt, .inl (G.2.1, 60, .inl tx)), (mh, .inl (G.2.1, 21, .inl ht)), (mb, .inl (G.2.1, 21, .inl bu)), (mg, .inl (G.2.1, 21, .inl hg)), (mq, .inl (G.2.1, 21, .inl pq)), (ml, .inl (G.2.1, 21, .inl ld)), (mf, .inl (G.2.1, 20, .inl fo))] := hD
                  subst hw_218
                  refine lv_istore (lv' := [(9, .int (pC tx ln ((p6 tx ln (p3 tx ln j tp)).1))), (7, .int (w6 tx ln (p3 tx ln j tp))), (8, .int (pC tx ln ((p3 tx ln j tp).1))), (6, .int (pSp tx ln j tp)), (5, .int x5), (4, .int (bI (p2 tx ln j tp))), (3, .int (pC tx ln tp)), (0, .ref m0), (1, .int (nI (j))), (2, .int (bI d))]) hx hb dX6_readLink_221 hl (by decide) rfl (fun ls hl => ?_)
                  exact L223 (w6 tx ln (p3 tx ln j tp)) ((pS tx ln 93 93 (p6 tx ln (p3 tx ln j tp))).1) ((pS tx ln 93 93 (p6 tx ln (p3 tx ln j tp))).2) (wB_t c_152) (by show _ = (pB tx ln (p3 tx ln j tp)).1; rw [pB_t c_152]) (by show _ = (pB tx ln (p3 tx ln j tp)).2; rw [pB_t c_152]) _ _ _ hP hD hS (lv_sub hl [1, 3, 4, 5, 6, 7, 8, 9] rfl)
                refine lv_if_eq (tgt := 209) hx hb dX6_readLink_186 (by decide) (fun c_186 => ?_) (fun c_186 => ?_)
                · skip
                  refine lv_iload hx hb dX6_readLink_209 (lv_at hl 0 rfl) ?_
                  exact L211 ((pC tx ln ((pS tx ln 91 91 (((p3 tx ln j tp).1), ((p3 tx ln j tp).2))).1)) - 48) ((p5 tx ln (p3 tx ln j tp)).1) ((p5 tx ln (p3 tx ln j tp)).2) (w6_f c_186) (by rw [p6_f c_186]) (by rw [p6_f c_186]) _ _ _ hP hD hS (lv_sub hl [0, 1, 2, 3, 4, 5, 6, 7, 8] rfl)
                · skip
                  refine lv_bipush (v := 10) hx hb dX6_readLink_189 (by decide) ?_
                  refine lv_iload hx hb dX6_readLink_191 (lv_at hl 0 rfl) ?_
                  refine lv_imul hx hb dX6_readLink_193 ?_
                  refine lv_aload_n hx hb dX6_readLink_194 rfl (lv_at hl 6 rfl) ?_
                  refine lv_bipush (v := 48) hx hb dX6_readLink_195 (by decide) ?_
                  refine lv_bipush (v := 57) hx hb dX6_readLink_197 (by decide) ?_
                  refine k_ci (wr := []) [] rfl (by decide) [0, 1, 2, 3, 4, 5, 6, 7, 8, 9] rfl (by decide) hP hD hS hA (k_V (n := 2) (ci := 6) (As := [.int 48, .int 57]) (rest := [.int (10 * ((pC tx ln ((pS tx ln 91 91 (((p3 tx ln j tp).1), ((p3 tx ln j tp).2))).1)) - 48))]) (wc := [(m0, .inr (6, [.int (nI (th)), .ref ms, .ref mv, .int (nI (sm)), .ref mt, .int (nI (ln)), .ref mh, .ref mb, .ref mg, .ref mq, .ref ml, .ref mf, .int nw, .int fw, .int (nI (((pS tx ln 49 57 (((pS tx ln 91 91 (((p3 tx ln j tp).1), ((p3 tx ln j tp).2))).1), ((pS tx ln 91 91 (((p3 tx ln j tp).1), ((p3 tx ln j tp).2))).2))).1))), .int (bI (((pS tx ln 49 57 (((pS tx ln 91 91 (((p3 tx ln j tp).1), ((p3 tx ln j tp).2))).1), ((pS tx ln 91 91 (((p3 tx ln j tp).1), ((p3 tx ln j tp).2))).2))).2))), .long dg])), (ms, .inl (G.2.1, 88, .inl s0)), (mv, .inl (G.2.1, 528, .inl sv)), (mt, .inl (G.2.1, 60, .inl tx)), (mh, .inl (G.2.1, 21, .inl ht)), (mb, .inl (G.2.1, 21, .inl bu)), (mg, .inl (G.2.1, 21, .inl hg)), (mq, .inl (G.2.1, 21, .inl pq)), (ml, .inl (G.2.1, 21, .inl ld)), (mf, .inl (G.2.1, 20, .inl fo))]) hx hb hml hown hts hK hP hD hl (c_X6_sign l G m0 ms mv mt mh mb mg mq ml mf th s0 sv sm tx ln ht bu hg pq ld fo nw fw ((pS tx ln 49 57 (((pS tx ln 91 91 (((p3 tx ln j tp).1), ((p3 tx ln j tp).2))).1), ((pS tx ln 91 91 (((p3 tx ln j tp).1), ((p3 tx ln j tp).2))).2))).1) ((pS tx ln 49 57 (((pS tx ln 91 91 (((p3 tx ln j tp).1), ((p3 tx ln j tp).2))).1), ((pS tx ln 91 91 (((p3 tx ln j tp).1), ((p3 tx ln j tp).2))).2))).2) dg 48 57 H.size (by first | assumption | omega) (Nat.le_trans hq5 hln)) [0, 1, 2, 3, 4, 5, 6, 7, 8, 9] rfl (by decide) gX6_readLink_X6_sign rfl rfl rfl (by decide +kernel) rfl ⟨Nat.le_of_ble_eq_true rfl, Nat.le_of_ble_eq_true rfl⟩ rfl rfl rfl (Nat.le_of_ble_eq_true rfl) dX6_readLink_199 ⟨Nat.le_of_ble_eq_true rfl, Nat.le_of_ble_eq_true rfl⟩) (fun r_199 u H locs hw hP hD hS => ?_)
                  have hw_199 : r_199 = pC tx ln ((pS tx ln 49 57 (((pS tx ln 91 91 (((p3 tx ln j tp).1), ((p3 tx ln j tp).2))).1), ((pS tx ln 91 91 (((p3 tx ln j tp).1), ((p3 tx ln j tp).2))).2))).1) := hw
                  have hP : va_P G.1 vwCl [(m0, .inr (6, [.int (nI (th)), .ref ms, .ref mv, .int (nI (sm)), .ref mt, .int (nI (ln)), .ref mh, .ref mb, .ref mg, .ref mq, .ref ml, .ref mf, .int nw, .int fw, .int (nI ((pS tx ln 48 57 (((pS tx ln 49 57 (((pS tx ln 91 91 (((p3 tx ln j tp).1), ((p3 tx ln j tp).2))).1), ((pS tx ln 91 91 (((p3 tx ln j tp).1), ((p3 tx ln j tp).2))).2))).1), ((pS tx ln 49 57 (((pS tx ln 91 91 (((p3 tx ln j tp).1), ((p3 tx ln j tp).2))).1), ((pS tx ln 91 91 (((p3 tx ln j tp).1), ((p3 tx ln j tp).2))).2))).2))).1)), .int (bI ((pS tx ln 48 57 (((pS tx ln 49 57 (((pS tx ln 91 91 (((p3 tx ln j tp).1), ((p3 tx ln j tp).2))).1), ((pS tx ln 91 91 (((p3 tx ln j tp).1), ((p3 tx ln j tp).2))).2))).1), ((pS tx ln 49 57 (((pS tx ln 91 91 (((p3 tx ln j tp).1), ((p3 tx ln j tp).2))).1), ((pS tx ln 91 91 (((p3 tx ln j tp).1), ((p3 tx ln j tp).2))).2))).2))).2)), .long dg])), (ms, .inl (G.2.1, 88, .inl s0)), (mv, .inl (G.2.1, 528, .inl sv)), (mt, .inl (G.2.1, 60, .inl tx)), (mh, .inl (G.2.1, 21, .inl ht)), (mb, .inl (G.2.1, 21, .inl bu)), (mg, .inl (G.2.1, 21, .inl hg)), (mq, .inl (G.2.1, 21, .inl pq)), (ml, .inl (G.2.1, 21, .inl ld)), (mf, .inl (G.2.1, 20, .inl fo))] H := hP
                  have hD : va_D A [(m0, .inr (6, [.int (nI (th)), .ref ms, .ref mv, .int (nI (sm)), .ref mt, .int (nI (ln)), .ref mh, .ref mb, .ref mg, .ref mq, .ref ml, .ref mf, .int nw, .int fw, .int (nI ((pS tx ln 48 57 (((pS tx ln 49 57 (((pS tx ln 91 91 (((p3 tx ln j tp).1), ((p3 tx ln j tp).2))).1), ((pS tx ln 91 91 (((p3 tx ln j tp).1), ((p3 tx ln j tp).2))).2))).1), ((pS tx ln 49 57 (((pS tx ln 91 91 (((p3 tx ln j tp).1), ((p3 tx ln j tp).2))).1), ((pS tx ln 91 91 (((p3 tx ln j tp).1), ((p3 tx ln j tp).2))).2))).2))).1)), .int (bI ((pS tx ln 48 57 (((pS tx ln 49 57 (((pS tx ln 91 91 (((p3 tx ln j tp).1), ((p3 tx ln j tp).2))).1), ((pS tx ln 91 91 (((p3 tx ln j tp).1), ((p3 tx ln j tp).2))).2))).1), ((pS tx ln 49 57 (((pS tx ln 91 91 (((p3 tx ln j tp).1), ((p3 tx ln j tp).2))).1), ((pS tx ln 91 91 (((p3 tx ln j tp).1), ((p3 tx ln j tp).2))).2))).2))).2)), .long dg])), (ms, .inl (G.2.1, 88, .inl s0)), (mv, .inl (G.2.1, 528, .inl sv)), (mt, .inl (G.2.1, 60, .inl tx)), (mh, .inl (G.2.1, 21, .inl ht)), (mb, .inl (G.2.1, 21, .inl bu)), (mg, .inl (G.2.1, 21, .inl hg)), (mq, .inl (G.2.1, 21, .inl pq)), (ml, .inl (G.2.1, 21, .inl ld)), (mf, .inl (G.2.1, 20, .inl fo))] := hD
                  subst hw_199
                  refine lv_iadd hx hb dX6_readLink_202 ?_
                  refine lv_bipush (v := 48) hx hb dX6_readLink_203 (by decide) ?_
                  refine lv_isub hx hb dX6_readLink_205 ?_
                  refine lv_goto (tgt := 211) hx hb dX6_readLink_206 (by decide) ?_
                  exact L211 (((10 * ((pC tx ln ((pS tx ln 91 91 (((p3 tx ln j tp).1), ((p3 tx ln j tp).2))).1)) - 48)) + (pC tx ln ((pS tx ln 49 57 (((pS tx ln 91 91 (((p3 tx ln j tp).1), ((p3 tx ln j tp).2))).1), ((pS tx ln 91 91 (((p3 tx ln j tp).1), ((p3 tx ln j tp).2))).2))).1))) - 48) ((pS tx ln 48 57 (p5 tx ln (p3 tx ln j tp))).1) ((pS tx ln 48 57 (p5 tx ln (p3 tx ln j tp))).2) (w6_t c_186) (by rw [p6_t c_186]) (by rw [p6_t c_186]) _ _ _ hP hD hS (lv_sub hl [0, 1, 2, 3, 4, 5, 6, 7, 8] rfl)
            refine lv_if_eq (tgt := 138) hx hb dX6_readLink_131 (by decide) (fun c_131 => ?_) (fun c_131 => ?_)
            · skip
              refine lv_iconst (v := 1) hx hb dX6_readLink_138 (by decide) ?_
              exact L139 1 (pSp_f c_131) _ _ _ hP hD hS (lv_sub hl [0, 1, 2, 3, 4, 5] rfl)
            · skip
              refine lv_iconst (v := 2) hx hb dX6_readLink_134 (by decide) ?_
              refine lv_goto (tgt := 139) hx hb dX6_readLink_135 (by decide) ?_
              exact L139 2 (pSp_t c_131) _ _ _ hP hD hS (lv_sub hl [0, 1, 2, 3, 4, 5] rfl)
          refine lv_if_eq (tgt := 126) hx hb dX6_readLink_112 (by decide) (fun c_112 => ?_) (fun c_112 => ?_)
          · skip
            refine lv_iconst (v := 0) hx hb dX6_readLink_126 (by decide) ?_
            exact L127 0 ((p1 tx ln j tp).1) ((p1 tx ln j tp).2) (by rw [p3_f c_112]) (by rw [p3_f c_112]) _ _ _ hP hD hS (lv_sub hl [0, 1, 2, 3, 4] rfl)
          · skip
            refine lv_aload_n hx hb dX6_readLink_115 rfl (lv_at hl 2 rfl) ?_
            refine lv_bipush (v := 50) hx hb dX6_readLink_116 (by decide) ?_
            refine lv_bipush (v := 50) hx hb dX6_readLink_118 (by decide) ?_
            refine k_ci (wr := []) [] rfl (by decide) [0, 1, 2, 3, 4, 5, 6, 7, 8, 9] rfl (by decide) hP hD hS hA (k_V (n := 2) (ci := 6) (As := [.int 50, .int 50]) (rest := []) (wc := [(m0, .inr (6, [.int (nI (th)), .ref ms, .ref mv, .int (nI (sm)), .ref mt, .int (nI (ln)), .ref mh, .ref mb, .ref mg, .ref mq, .ref ml, .ref mf, .int nw, .int fw, .int (nI (((p1 tx ln j tp).1))), .int (bI (((p1 tx ln j tp).2))), .long dg])), (ms, .inl (G.2.1, 88, .inl s0)), (mv, .inl (G.2.1, 528, .inl sv)), (mt, .inl (G.2.1, 60, .inl tx)), (mh, .inl (G.2.1, 21, .inl ht)), (mb, .inl (G.2.1, 21, .inl bu)), (mg, .inl (G.2.1, 21, .inl hg)), (mq, .inl (G.2.1, 21, .inl pq)), (ml, .inl (G.2.1, 21, .inl ld)), (mf, .inl (G.2.1, 20, .inl fo))]) hx hb hml hown hts hK hP hD hl (c_X6_sign l G m0 ms mv mt mh mb mg mq ml mf th s0 sv sm tx ln ht bu hg pq ld fo nw fw ((p1 tx ln j tp).1) ((p1 tx ln j tp).2) dg 50 50 H.size (by first | assumption | omega) (by first | assumption | omega)) [0, 1, 2, 3, 4, 5, 6, 7, 8, 9] rfl (by decide) gX6_readLink_X6_sign rfl rfl rfl (by decide +kernel) rfl ⟨Nat.le_of_ble_eq_true rfl, Nat.le_of_ble_eq_true rfl⟩ rfl rfl rfl (Nat.le_of_ble_eq_true rfl) dX6_readLink_120 ⟨Nat.le_of_ble_eq_true rfl, Nat.le_of_ble_eq_true rfl⟩) (fun r_120 u H locs hw hP hD hS => ?_)
            have hw_120 : r_120 = pC tx ln ((p1 tx ln j tp).1) := hw
            have hP : va_P G.1 vwCl [(m0, .inr (6, [.int (nI (th)), .ref ms, .ref mv, .int (nI (sm)), .ref mt, .int (nI (ln)), .ref mh, .ref mb, .ref mg, .ref mq, .ref ml, .ref mf, .int nw, .int fw, .int (nI ((pS tx ln 50 50 (((p1 tx ln j tp).1), ((p1 tx ln j tp).2))).1)), .int (bI ((pS tx ln 50 50 (((p1 tx ln j tp).1), ((p1 tx ln j tp).2))).2)), .long dg])), (ms, .inl (G.2.1, 88, .inl s0)), (mv, .inl (G.2.1, 528, .inl sv)), (mt, .inl (G.2.1, 60, .inl tx)), (mh, .inl (G.2.1, 21, .inl ht)), (mb, .inl (G.2.1, 21, .inl bu)), (mg, .inl (G.2.1, 21, .inl hg)), (mq, .inl (G.2.1, 21, .inl pq)), (ml, .inl (G.2.1, 21, .inl ld)), (mf, .inl (G.2.1, 20, .inl fo))] H := hP
            have hD : va_D A [(m0, .inr (6, [.int (nI (th)), .ref ms, .ref mv, .int (nI (sm)), .ref mt, .int (nI (ln)), .ref mh, .ref mb, .ref mg, .ref mq, .ref ml, .ref mf, .int nw, .int fw, .int (nI ((pS tx ln 50 50 (((p1 tx ln j tp).1), ((p1 tx ln j tp).2))).1)), .int (bI ((pS tx ln 50 50 (((p1 tx ln j tp).1), ((p1 tx ln j tp).2))).2)), .long dg])), (ms, .inl (G.2.1, 88, .inl s0)), (mv, .inl (G.2.1, 528, .inl sv)), (mt, .inl (G.2.1, 60, .inl tx)), (mh, .inl (G.2.1, 21, .inl ht)), (mb, .inl (G.2.1, 21, .inl bu)), (mg, .inl (G.2.1, 21, .inl hg)), (mq, .inl (G.2.1, 21, .inl pq)), (ml, .inl (G.2.1, 21, .inl ld)), (mf, .inl (G.2.1, 20, .inl fo))] := hD
            subst hw_120
            refine lv_goto (tgt := 127) hx hb dX6_readLink_123 (by decide) ?_
            exact L127 (pC tx ln ((p1 tx ln j tp).1)) ((pS tx ln 50 50 (p1 tx ln j tp)).1) ((pS tx ln 50 50 (p1 tx ln j tp)).2) (by rw [p3_t c_112]) (by rw [p3_t c_112]) _ _ _ hP hD hS (lv_sub hl [0, 1, 2, 3, 4] rfl)
        refine lv_icmp_eq (tgt := 107) hx hb dX6_readLink_89 (by decide) (fun c_89 => ?_) (fun c_89 => ?_)
        · skip
          refine lv_iconst (v := 0) hx hb dX6_readLink_107 (by decide) ?_
          exact L108 0 (by first | exact p2_0a c_89 | exact p2_0b c_100) _ _ _ hP hD hS (lv_sub hl [0, 1, 2, 3] rfl)
        · skip
          refine lv_aload_n hx hb dX6_readLink_92 rfl (lv_at hl 1 rfl) ?_
          refine lv_bipush (v := 50) hx hb dX6_readLink_93 (by decide) ?_
          refine lv_bipush (v := 50) hx hb dX6_readLink_95 (by decide) ?_
          refine k_ci (wr := []) [] rfl (by decide) [0, 1, 2, 3, 4, 5, 6, 7, 8, 9] rfl (by decide) hP hD hS hA (k_V (n := 2) (ci := 6) (As := [.int 50, .int 50]) (rest := []) (wc := [(m0, .inr (6, [.int (nI (th)), .ref ms, .ref mv, .int (nI (sm)), .ref mt, .int (nI (ln)), .ref mh, .ref mb, .ref mg, .ref mq, .ref ml, .ref mf, .int nw, .int fw, .int (nI (((p1 tx ln j tp).1))), .int (bI (((p1 tx ln j tp).2))), .long dg])), (ms, .inl (G.2.1, 88, .inl s0)), (mv, .inl (G.2.1, 528, .inl sv)), (mt, .inl (G.2.1, 60, .inl tx)), (mh, .inl (G.2.1, 21, .inl ht)), (mb, .inl (G.2.1, 21, .inl bu)), (mg, .inl (G.2.1, 21, .inl hg)), (mq, .inl (G.2.1, 21, .inl pq)), (ml, .inl (G.2.1, 21, .inl ld)), (mf, .inl (G.2.1, 20, .inl fo))]) hx hb hml hown hts hK hP hD hl (c_X6_isNext l G m0 ms mv mt mh mb mg mq ml mf th s0 sv sm tx ln ht bu hg pq ld fo nw fw ((p1 tx ln j tp).1) ((p1 tx ln j tp).2) dg 50 50 H.size (by first | assumption | omega) (by first | assumption | omega)) [0, 1, 2, 3, 4, 5, 6, 7, 8, 9] rfl (by decide) gX6_readLink_X6_isNext rfl rfl rfl (by decide +kernel) rfl ⟨Nat.le_of_ble_eq_true rfl, Nat.le_of_ble_eq_true rfl⟩ rfl rfl rfl (Nat.le_of_ble_eq_true rfl) dX6_readLink_97 ⟨Nat.le_of_ble_eq_true rfl, Nat.le_of_ble_eq_true rfl⟩) (fun r_97 u H locs hw hP hD hS => ?_)
          have hw_97 : r_97 = bI (pN tx ln 50 50 (((p1 tx ln j tp).1), ((p1 tx ln j tp).2))) := hw
          have hP : va_P G.1 vwCl [(m0, .inr (6, [.int (nI (th)), .ref ms, .ref mv, .int (nI (sm)), .ref mt, .int (nI (ln)), .ref mh, .ref mb, .ref mg, .ref mq, .ref ml, .ref mf, .int nw, .int fw, .int (nI (((p1 tx ln j tp).1))), .int (bI (((p1 tx ln j tp).2))), .long dg])), (ms, .inl (G.2.1, 88, .inl s0)), (mv, .inl (G.2.1, 528, .inl sv)), (mt, .inl (G.2.1, 60, .inl tx)), (mh, .inl (G.2.1, 21, .inl ht)), (mb, .inl (G.2.1, 21, .inl bu)), (mg, .inl (G.2.1, 21, .inl hg)), (mq, .inl (G.2.1, 21, .inl pq)), (ml, .inl (G.2.1, 21, .inl ld)), (mf, .inl (G.2.1, 20, .inl fo))] H := hP
          have hD : va_D A [(m0, .inr (6, [.int (nI (th)), .ref ms, .ref mv, .int (nI (sm)), .ref mt, .int (nI (ln)), .ref mh, .ref mb, .ref mg, .ref mq, .ref ml, .ref mf, .int nw, .int fw, .int (nI (((p1 tx ln j tp).1))), .int (bI (((p1 tx ln j tp).2))), .long dg])), (ms, .inl (G.2.1, 88, .inl s0)), (mv, .inl (G.2.1, 528, .inl sv)), (mt, .inl (G.2.1, 60, .inl tx)), (mh, .inl (G.2.1, 21, .inl ht)), (mb, .inl (G.2.1, 21, .inl bu)), (mg, .inl (G.2.1, 21, .inl hg)), (mq, .inl (G.2.1, 21, .inl pq)), (ml, .inl (G.2.1, 21, .inl ld)), (mf, .inl (G.2.1, 20, .inl fo))] := hD
          subst hw_97
          refine lv_if_eq (tgt := 107) hx hb dX6_readLink_100 (by decide) (fun c_100 => ?_) (fun c_100 => ?_)
          · skip
            refine lv_iconst (v := 0) hx hb dX6_readLink_107 (by decide) ?_
            exact L108 0 (by first | exact p2_0a c_89 | exact p2_0b c_100) _ _ _ hP hD hS (lv_sub hl [0, 1, 2, 3] rfl)
          · skip
            refine lv_iconst (v := 1) hx hb dX6_readLink_103 (by decide) ?_
            refine lv_goto (tgt := 108) hx hb dX6_readLink_104 (by decide) ?_
            exact L108 1 (p2_1 c_89 c_100) _ _ _ hP hD hS (lv_sub hl [0, 1, 2, 3] rfl)
      refine lv_if_eq (tgt := 81) hx hb dX6_readLink_74 (by decide) (fun c_74 => ?_) (fun c_74 => ?_)
      · skip
        refine lv_iconst (v := 1) hx hb dX6_readLink_81 (by decide) ?_
        exact L82 1 (p1_a1 c_74) _ _ _ hP hD hS (lv_sub hl [0, 1, 2, 3] rfl)
      · skip
        refine lv_iconst (v := 0) hx hb dX6_readLink_77 (by decide) ?_
        refine lv_goto (tgt := 82) hx hb dX6_readLink_78 (by decide) ?_
        exact L82 0 (p1_a0 c_74) _ _ _ hP hD hS (lv_sub hl [0, 1, 2, 3] rfl)
    refine lv_if_ne (tgt := 57) hx hb dX6_readLink_30 (by decide) (fun c_30 => ?_) (fun c_30 => ?_)
    · exact absurd rfl c_30
    · skip
      refine lv_iload_n hx hb dX6_readLink_33 rfl (lv_at hl 2 rfl) ?_
      refine lv_bipush (v := 20) hx hb dX6_readLink_34 (by decide) ?_
      refine g_icmp_eq (a := j) (b := 20) (tgt := 57) hx hb (by omega) (by omega) dX6_readLink_36 (by decide) (fun c_36 => ?_) (fun c_36 => ?_)
      · skip
        refine lv_iconst (v := 1) hx hb dX6_readLink_57 (by decide) ?_
        refine lv_goto (tgt := 62) hx hb dX6_readLink_58 (by decide) ?_
        exact L62 1 (by first | exact p1_w2 c_42 c_48 c_54 | exact p1_w1 c_36) _ _ _ hP hD hS (lv_sub hl [0, 1, 2, 3] rfl)
      · skip
        refine lv_iload_n hx hb dX6_readLink_39 rfl (lv_at hl 0 rfl) ?_
        refine lv_bipush (v := 61) hx hb dX6_readLink_40 (by decide) ?_
        refine lv_icmp_eq (tgt := 61) hx hb dX6_readLink_42 (by decide) (fun c_42 => ?_) (fun c_42 => ?_)
        · skip
          refine lv_iconst (v := 0) hx hb dX6_readLink_61 (by decide) ?_
          exact L62 0 (p1_w3 c_36 (by first | exact Or.inl c_42 | exact Or.inr (Or.inl c_48) | exact Or.inr (Or.inr c_54))) _ _ _ hP hD hS (lv_sub hl [0, 1, 2, 3] rfl)
        · skip
          refine lv_iload_n hx hb dX6_readLink_45 rfl (lv_at hl 0 rfl) ?_
          refine lv_bipush (v := 94) hx hb dX6_readLink_46 (by decide) ?_
          refine lv_icmp_eq (tgt := 61) hx hb dX6_readLink_48 (by decide) (fun c_48 => ?_) (fun c_48 => ?_)
          · skip
            refine lv_iconst (v := 0) hx hb dX6_readLink_61 (by decide) ?_
            exact L62 0 (p1_w3 c_36 (by first | exact Or.inl c_42 | exact Or.inr (Or.inl c_48) | exact Or.inr (Or.inr c_54))) _ _ _ hP hD hS (lv_sub hl [0, 1, 2, 3] rfl)
          · skip
            refine lv_iload_n hx hb dX6_readLink_51 rfl (lv_at hl 0 rfl) ?_
            refine lv_bipush (v := 118) hx hb dX6_readLink_52 (by decide) ?_
            refine lv_icmp_eq (tgt := 61) hx hb dX6_readLink_54 (by decide) (fun c_54 => ?_) (fun c_54 => ?_)
            · skip
              refine lv_iconst (v := 0) hx hb dX6_readLink_61 (by decide) ?_
              exact L62 0 (p1_w3 c_36 (by first | exact Or.inl c_42 | exact Or.inr (Or.inl c_48) | exact Or.inr (Or.inr c_54))) _ _ _ hP hD hS (lv_sub hl [0, 1, 2, 3] rfl)
            · skip
              refine lv_iconst (v := 1) hx hb dX6_readLink_57 (by decide) ?_
              refine lv_goto (tgt := 62) hx hb dX6_readLink_58 (by decide) ?_
              exact L62 1 (by first | exact p1_w2 c_42 c_48 c_54 | exact p1_w1 c_36) _ _ _ hP hD hS (lv_sub hl [0, 1, 2, 3] rfl)
  refine g_icmp_ge (a := tp) (b := ln) (tgt := 23) hx hb (by omega) (by omega) dX6_readLink_8 (by decide) (fun c_8 => ?_) (fun c_8 => ?_)
  · skip
    refine lv_iconst (v := 0) hx hb dX6_readLink_23 (by decide) ?_
    exact L24 0 (pC_f c_8) _ _ _ hP hD hS (lv_sub hl [0, 1, 2] rfl)
  · skip
    refine lv_aload_n hx hb dX6_readLink_11 rfl (lv_at hl 0 rfl) ?_
    refine va_get (D := G.1) (ci := 6) (v := .ref mt) (C := RX6) (T := TX6) (N := 17) hx hb hts hinX6 hown hK hP 0 rfl rfl 4 (by decide) hf16 (fun _ h9 => h9) rfl dX6_readLink_12 ?_
    refine lv_aload_n hx hb dX6_readLink_15 rfl (lv_at hl 0 rfl) ?_
    refine va_get (D := G.1) (ci := 6) (v := .int (nI (tp))) (C := RX6) (T := TX6) (N := 17) hx hb hts hinX6 hown hK hP 0 rfl rfl 14 (by decide) hf99 (fun _ h9 => h9) rfl dX6_readLink_16 ?_
    refine g_iald (k := tp) hx hb hK hP 3 rfl (by omega) (by omega) dX6_readLink_19 ?_
    refine lv_goto (tgt := 24) hx hb dX6_readLink_20 (by decide) ?_
    exact L24 (tx tp) (pC_t c_8) _ _ _ hP hD hS (lv_sub hl [0, 1, 2] rfl)
