/-! # each operation of the law: whatever its row of the script holds -/
theorem up0 {f : FnL} {y z : Int32} (h : y = z) : vp_updL f 0 y.toInt64 0 = z.toInt64 := by
  rw [h]
  exact if_pos rfl
theorem an_ct2 {n : Nat} {st we ha pr se st2 we2 ha2 pr2 se2 : Fn} {sm sm2 w : Nat} (h : chEq n st we ha pr se st2 we2 ha2 pr2 se2) (e : sm2 = sm) (hw : w < 11) : tCt n st we ha pr se sm w = tCt n st2 we2 ha2 pr2 se2 sm2 w := by
  subst e
  exact an_ct h _ w hw
theorem an_dg2 {n : Nat} {st we ha pr se st2 we2 ha2 pr2 se2 tx tx2 : Fn} {k sm sm2 ln ln2 : Nat} (h : chEq n st we ha pr se st2 we2 ha2 pr2 se2) (e : sm2 = sm) (e2 : ln2 = ln) (ht : ∀ i, i < ln → tx i = tx2 i) : dgN n st we ha pr se k sm ln tx = dgN n st2 we2 ha2 pr2 se2 k sm2 ln2 tx2 := by
  subst e
  subst e2
  exact an_dg h ht
theorem ev_c {n : Nat} {st we ha pr se st2 we2 ha2 pr2 se2 : Fn} {k : Nat} (h : chEq n st we ha pr se st2 we2 ha2 pr2 se2) (hev : evOK (cAH n st we ha pr se) (cBE n st we ha pr se) k) : evOK (cAH n st2 we2 ha2 pr2 se2) (cBE n st2 we2 ha2 pr2 se2) k := by
  rw [← che_ah h, ← che_be h]
  exact hev
theorem f_self {v : UInt64} {c : Nat} {q : Int} (hv : fN v c q) : FP.dcmp v v = some .eq := by
  rw [f_ord hv.1 hv.1, f_cmpI, if_neg (Int.lt_irrefl _), if_pos rfl]
theorem f_shareS {a b : Int32} (ha : 0 ≤ a) (hab : a ≤ b) (hb : b ≠ 0) : FP.dcmp (FP.ddiv (FP.i2d a) (FP.i2d b)) (FP.ddiv (FP.i2d a) (FP.i2d b)) = some .eq := by
  obtain ⟨A, hA, eA⟩ := i32_nat ha
  obtain ⟨B, hB, eB⟩ := i32_nat (Int32.le_trans ha hab)
  have hB1 : 1 ≤ B := by
    rcases Nat.eq_zero_or_pos B with q | q
    · exact absurd (Int32.toInt_inj.mp (by rw [eB, q]; rfl)) hb
    · exact q
  have hAB : A ≤ B := by
    have := Int32.le_iff_toInt_le.mp hab
    omega
  obtain ⟨j, j1, j2, j3, j4⟩ := f_i2d eB hB1 hB
  have fj := f_sc (k := j) (by omega) j2 j3
  have cj : fC (B * 2 ^ (52 - j)) ((j : Int) - 52) := ⟨fj.1, fj.2, by omega, by omega⟩
  rcases Nat.eq_zero_or_pos A with q | q
  · have e : a = 0 := Int32.toInt_inj.mp (by rw [eA, q]; rfl)
    subst e
    rw [f_ddiv0 j4 cj]
    decide +kernel
  · obtain ⟨k, k1, k2, k3, k4⟩ := f_i2d eA q hA
    have fk := f_sc (k := k) (by omega) k2 k3
    have ck : fC (A * 2 ^ (52 - k)) ((k : Int) - 52) := ⟨fk.1, fk.2, by omega, by omega⟩
    have hkj : k < j ∨ k = j := by
      rcases Nat.lt_trichotomy k j with g | g | g
      · exact Or.inl g
      · exact Or.inr g
      · exfalso
        have := Nat.pow_le_pow_right (show 0 < 2 by decide) (show j + 1 ≤ k by omega)
        omega
    obtain ⟨c9, q9, g1, g2, g3, g4⟩ := f_div k4 j4 ck cj (by
      rcases hkj with g | g
      · exact Or.inl (by omega)
      · subst g
        exact Or.inr ⟨rfl, Nat.mul_le_mul_right _ hAB⟩) (by omega)
    exact f_self g1
theorem ev_self {a b : Int32} (ha : 0 ≤ a) (hb : 0 ≤ b) : FP.dcmp (evn a b) (evn a b) = some .eq := by
  obtain ⟨h1, h2⟩ := mn_mx ha hb
  by_cases h : mx a b = 0
  · rw [← evn_0 h]
    decide +kernel
  · rw [← evn_1 h]
    exact f_shareS h1 h2 h
theorem walls_self {n : Nat} {st we ha pr se : Fn} (hn1 : 1 ≤ n) (hn : n ≤ 20) (c : cV n st we ha pr se) : FP.dcmp (evn (cAH n st we ha pr se) (cBE n st we ha pr se)) (evn (cAH n st we ha pr se) (cBE n st we ha pr se)) = some .eq := by
  obtain ⟨A, hA, eA⟩ := wA_nat hn1 hn (fun k hk => ld_nat c hk) (n - 1) (by omega)
  obtain ⟨B, hB, eB⟩ := wB_nat hn1 hn (fun k hk => ld_nat c hk) (n - 1) (by omega)
  refine ev_self ?_ ?_
  · show 0 ≤ wAH (cLD n st we ha pr se) n (n - 1)
    rw [eA]
    exact nI_pos' (by omega)
  · show 0 ≤ wBE (cLD n st we ha pr se) n (n - 1)
    rw [eB]
    exact nI_pos' (by omega)
theorem T_app {ln ln2 : Nat} {tx tx2 : Fn} {v : Int32} (h : okT ln tx ln2 tx2) (h6 : ln < 60) : okT (ln + 1) (upd tx ln v) (ln2 + 1) (upd tx2 ln2 v) := by
  obtain ⟨h1, h2, h3⟩ := h
  subst h1
  refine ⟨rfl, by omega, fun k hk => ?_⟩
  by_cases q : k = ln2
  · rw [upd_e q, upd_e q]
  · rw [pk_un q, pk_un q]
    exact h3 k (by omega)
theorem T_0 {tx tx2 : Fn} : okT 0 tx 0 tx2 := ⟨rfl, by omega, fun k hk => absurd hk (Nat.not_lt_zero k)⟩
set_option maxHeartbeats 4000000 in
set_option maxRecDepth 100000 in
theorem lp_link {p : Program} {l : Launch} {e : Env} {s : State} {m : MethodId} {args : Array Value} {below : List Frame} {meth : Method} {c : Code} {H : Heap} {locs : List Loc} {cells slots : Nat} {Q : State → Prop} {ls : Array Slot} {A : Nat → Prop} {G : kG} {a : Nat → Nat} {sa : Nat → Nat → Nat} {b : Nat → Nat} {o sb L i : Nat} {xs : Nat → Int32} {x : XS} {u : MS} {f : FnL} (C : lwC p l s m args c A G sb L xs) (hi : i + 3 ≤ L) (hc : cells + 1 ≤ room_1.cells ∧ slots + 6 ≤ room_1.slots) (hR : Rel x u)
    (kk : lwK p l e s m args below meth c A G a sa b o sb i (cells + 1) (slots + 6) Q) (hP : va_P G.1 vwCl (wL G a sa b o x u f) H) (hD : va_D A (wL G a sa b o x u f)) (hS : va_S A s.heap H locs) (hl : lv_has ls 9 [(4, .int (nI i)), (0, .ref sb), (1, .ref (a 0)), (2, .ref (b 0)), (3, .ref o)]) : W p l e room_1 s m args below meth c H locs cells slots Q (F0 m 152 ls []) := by
  have hok := hR.1.1
  have hn1 : 1 ≤ x.1.1 := hok.2.1
  have hn : x.1.1 ≤ 20 := hok.2.2.1
  have hv := okP_cV hR.1
  have ho : x.2.2.2.1.2.1 < 6 := hR.2.1.1
  have hk6 : x.2.2.2.1.2.2 ≤ 6 := hR.2.1.2.1
  have v3 : u.1.2.2.2.1 = x.2.2.2.1.2.2 := hR.2.1.2.2.1
  have hsm : u.1.2.2.2.1 ≤ 6 := by rw [v3]; exact hk6
  have t1 : u.1.2.2.2.2.2 = x.2.2.2.2.1.1 := hR.2.2.1
  have hl60 : x.2.2.2.2.1.1 ≤ 60 := hR.2.2.2.1
  have t3 : ∀ k, k < x.2.2.2.2.1.1 → x.2.2.2.2.1.2 k = u.1.2.2.2.2.1 k := hR.2.2.2.2
  have hln : u.1.2.2.2.2.2 ≤ 60 := by rw [t1]; exact hl60
  have hfl : l.stackTraces = false := by obtain ⟨_, _, _, _, _, _, _, _, h, _⟩ := C; exact h
  by_cases q1 : -2 ≤ (xs (i + 1)) ∧ (xs (i + 1)) ≤ 2
  · skip
    rcases Nat.lt_or_ge x.1.1 20 with q2 | q2
    · skip
      exact lo_link C hi hc rfl (fun sz => l_L_link_0 l G a sa b o x u f (xs (i + 1)) sz hn1 hn ho hk6 q1 q2) (fun x' f' sz => l_X6_link_0 l G a sa b o x' u f' (xs (i + 1)) x.1.1 sz hok hsm q1 q2) ⟨rfl, rfl, by decide +kernel⟩ ⟨rfl, rfl, by decide +kernel⟩ (by decide) (fun k9 v9 b9 w9 h1 h2 => by obtain rfl : k9 = 0 := h1; exact ⟨rfl, fun _ => up0 (Eq.symm h2), P_link hR.1 q2 q1, V_save hR.2.1 hR.1, hR.2.2⟩) kk hP hD hS hl
    · skip
      have q3 : x.1.1 = 20 := by omega
      exact lo_link C hi hc rfl (fun sz => l_L_link_t2 l G a sa b o x u f (xs (i + 1)) sz hfl hn1 hn q1 q3) (fun x' f' sz => l_X6_link_2 l G a sa b o x' u f' (xs (i + 1)) x.1.1 sz hok q1 q3) ⟨rfl, rfl, by decide +kernel⟩ ⟨rfl, rfl, by decide +kernel⟩ (by decide) (fun k9 v9 b9 w9 h1 h2 => by obtain rfl : k9 = 2 := h1; exact ⟨rfl, fun q => absurd q (by decide), hR.1, hR.2.1, hR.2.2⟩) kk hP hD hS hl
  · skip
    exact lo_link C hi hc rfl (fun sz => l_L_link_t1 l G a sa b o x u f (xs (i + 1)) sz hfl hn1 hn q1) (fun x' f' sz => l_X6_link_1 l G a sa b o x' u f' (xs (i + 1)) x.1.1 sz hok q1) ⟨rfl, rfl, by decide +kernel⟩ ⟨rfl, rfl, by decide +kernel⟩ (by decide) (fun k9 v9 b9 w9 h1 h2 => by obtain rfl : k9 = 1 := h1; exact ⟨rfl, fun q => absurd q (by decide), hR.1, hR.2.1, hR.2.2⟩) kk hP hD hS hl
set_option maxHeartbeats 4000000 in
set_option maxRecDepth 100000 in
theorem lp_cut {p : Program} {l : Launch} {e : Env} {s : State} {m : MethodId} {args : Array Value} {below : List Frame} {meth : Method} {c : Code} {H : Heap} {locs : List Loc} {cells slots : Nat} {Q : State → Prop} {ls : Array Slot} {A : Nat → Prop} {G : kG} {a : Nat → Nat} {sa : Nat → Nat → Nat} {b : Nat → Nat} {o sb L i : Nat} {xs : Nat → Int32} {x : XS} {u : MS} {f : FnL} (C : lwC p l s m args c A G sb L xs) (hi : i + 3 ≤ L) (hc : cells + 1 ≤ room_1.cells ∧ slots + 6 ≤ room_1.slots) (hR : Rel x u)
    (kk : lwK p l e s m args below meth c A G a sa b o sb i (cells + 1) (slots + 6) Q) (hP : va_P G.1 vwCl (wL G a sa b o x u f) H) (hD : va_D A (wL G a sa b o x u f)) (hS : va_S A s.heap H locs) (hl : lv_has ls 9 [(4, .int (nI i)), (0, .ref sb), (1, .ref (a 0)), (2, .ref (b 0)), (3, .ref o)]) : W p l e room_1 s m args below meth c H locs cells slots Q (F0 m 208 ls []) := by
  have hok := hR.1.1
  have hn1 : 1 ≤ x.1.1 := hok.2.1
  have hn : x.1.1 ≤ 20 := hok.2.2.1
  have hv := okP_cV hR.1
  have ho : x.2.2.2.1.2.1 < 6 := hR.2.1.1
  have hk6 : x.2.2.2.1.2.2 ≤ 6 := hR.2.1.2.1
  have v3 : u.1.2.2.2.1 = x.2.2.2.1.2.2 := hR.2.1.2.2.1
  have hsm : u.1.2.2.2.1 ≤ 6 := by rw [v3]; exact hk6
  have t1 : u.1.2.2.2.2.2 = x.2.2.2.2.1.1 := hR.2.2.1
  have hl60 : x.2.2.2.2.1.1 ≤ 60 := hR.2.2.2.1
  have t3 : ∀ k, k < x.2.2.2.2.1.1 → x.2.2.2.2.1.2 k = u.1.2.2.2.2.1 k := hR.2.2.2.2
  have hln : u.1.2.2.2.2.2 ≤ 60 := by rw [t1]; exact hl60
  have hfl : l.stackTraces = false := by obtain ⟨_, _, _, _, _, _, _, _, h, _⟩ := C; exact h
  by_cases q1 : isN (xs (i + 1)) x.1.1 = true
  · obtain ⟨j, hj, ej⟩ := isN_t (by omega) q1
    rw [ej] at q1
    rcases Nat.lt_or_ge 1 x.1.1 with q2 | q2
    · skip
      exact lo_cut C hi hc ej (fun sz => l_L_cut_0 l G a sa b o x u f j sz hn1 hn ho hk6 hj q2) (fun x' f' sz => l_X6_cut_0 l G a sa b o x' u f' j x.1.1 sz hok hsm hj q2) ⟨rfl, rfl, by decide +kernel⟩ ⟨rfl, rfl, by decide +kernel⟩ (by decide) (fun k9 v9 b9 w9 h1 h2 => by obtain rfl : k9 = 0 := h1; exact ⟨rfl, fun _ => up0 (Eq.symm h2), P_cut hR.1 hj q2, V_save hR.2.1 hR.1, hR.2.2⟩) kk hP hD hS hl
    · skip
      have q3 : x.1.1 = 1 := by omega
      exact lo_cut C hi hc ej (fun sz => l_L_cut_t2 l G a sa b o x u f j sz hfl hn1 hn hj q3) (fun x' f' sz => l_X6_cut_2 l G a sa b o x' u f' (nI j) x.1.1 sz hok q1 q3) ⟨rfl, rfl, by decide +kernel⟩ ⟨rfl, rfl, by decide +kernel⟩ (by decide) (fun k9 v9 b9 w9 h1 h2 => by obtain rfl : k9 = 2 := h1; exact ⟨rfl, fun q => absurd q (by decide), hR.1, hR.2.1, hR.2.2⟩) kk hP hD hS hl
  · have q1 := eq_false_of_ne_true q1
    exact lo_cut C hi hc rfl (fun sz => l_L_cut_t1 l G a sa b o x u f (xs (i + 1)) sz hfl hn1 hn q1) (fun x' f' sz => l_X6_cut_1 l G a sa b o x' u f' (xs (i + 1)) x.1.1 sz hok q1) ⟨rfl, rfl, by decide +kernel⟩ ⟨rfl, rfl, by decide +kernel⟩ (by decide) (fun k9 v9 b9 w9 h1 h2 => by obtain rfl : k9 = 1 := h1; exact ⟨rfl, fun q => absurd q (by decide), hR.1, hR.2.1, hR.2.2⟩) kk hP hD hS hl
set_option maxHeartbeats 4000000 in
set_option maxRecDepth 100000 in
theorem lp_bend {p : Program} {l : Launch} {e : Env} {s : State} {m : MethodId} {args : Array Value} {below : List Frame} {meth : Method} {c : Code} {H : Heap} {locs : List Loc} {cells slots : Nat} {Q : State → Prop} {ls : Array Slot} {A : Nat → Prop} {G : kG} {a : Nat → Nat} {sa : Nat → Nat → Nat} {b : Nat → Nat} {o sb L i : Nat} {xs : Nat → Int32} {x : XS} {u : MS} {f : FnL} (C : lwC p l s m args c A G sb L xs) (hi : i + 3 ≤ L) (hc : cells + 1 ≤ room_1.cells ∧ slots + 6 ≤ room_1.slots) (hR : Rel x u)
    (kk : lwK p l e s m args below meth c A G a sa b o sb i (cells + 1) (slots + 6) Q) (hP : va_P G.1 vwCl (wL G a sa b o x u f) H) (hD : va_D A (wL G a sa b o x u f)) (hS : va_S A s.heap H locs) (hl : lv_has ls 9 [(4, .int (nI i)), (0, .ref sb), (1, .ref (a 0)), (2, .ref (b 0)), (3, .ref o)]) : W p l e room_1 s m args below meth c H locs cells slots Q (F0 m 264 ls []) := by
  have hok := hR.1.1
  have hn1 : 1 ≤ x.1.1 := hok.2.1
  have hn : x.1.1 ≤ 20 := hok.2.2.1
  have hv := okP_cV hR.1
  have ho : x.2.2.2.1.2.1 < 6 := hR.2.1.1
  have hk6 : x.2.2.2.1.2.2 ≤ 6 := hR.2.1.2.1
  have v3 : u.1.2.2.2.1 = x.2.2.2.1.2.2 := hR.2.1.2.2.1
  have hsm : u.1.2.2.2.1 ≤ 6 := by rw [v3]; exact hk6
  have t1 : u.1.2.2.2.2.2 = x.2.2.2.2.1.1 := hR.2.2.1
  have hl60 : x.2.2.2.2.1.1 ≤ 60 := hR.2.2.2.1
  have t3 : ∀ k, k < x.2.2.2.2.1.1 → x.2.2.2.2.1.2 k = u.1.2.2.2.2.1 k := hR.2.2.2.2
  have hln : u.1.2.2.2.2.2 ≤ 60 := by rw [t1]; exact hl60
  have hfl : l.stackTraces = false := by obtain ⟨_, _, _, _, _, _, _, _, h, _⟩ := C; exact h
  by_cases q1 : isN (xs (i + 1)) x.1.1 = true
  · obtain ⟨j, hj, ej⟩ := isN_t (by omega) q1
    rw [ej] at q1
    by_cases q2 : -2 ≤ (xs (i + 2)) ∧ (xs (i + 2)) ≤ 2
    · skip
      exact lo_bend C hi hc ej rfl (fun sz => l_L_bend_0 l G a sa b o x u f j (xs (i + 2)) sz hn1 hn ho hk6 hj q2) (fun x' f' sz => l_X6_bend_0 l G a sa b o x' u f' j (xs (i + 2)) x.1.1 sz hok hsm hj q2) ⟨rfl, rfl, by decide +kernel⟩ ⟨rfl, rfl, by decide +kernel⟩ (by decide) (fun k9 v9 b9 w9 h1 h2 => by obtain rfl : k9 = 0 := h1; exact ⟨rfl, fun _ => up0 ((congrArg (fun z => z + 2) (hR.1.2.1 j hj)).trans (Eq.symm h2)), P_st hR.1 hj q2, V_save hR.2.1 hR.1, hR.2.2⟩) kk hP hD hS hl
    · skip
      exact lo_bend C hi hc ej rfl (fun sz => l_L_bend_t2 l G a sa b o x u f j (xs (i + 2)) sz hfl hn1 hn hj q2) (fun x' f' sz => l_X6_bend_2 l G a sa b o x' u f' (nI j) (xs (i + 2)) x.1.1 sz hok q1 q2) ⟨rfl, rfl, by decide +kernel⟩ ⟨rfl, rfl, by decide +kernel⟩ (by decide) (fun k9 v9 b9 w9 h1 h2 => by obtain rfl : k9 = 2 := h1; exact ⟨rfl, fun q => absurd q (by decide), hR.1, hR.2.1, hR.2.2⟩) kk hP hD hS hl
  · have q1 := eq_false_of_ne_true q1
    exact lo_bend C hi hc rfl rfl (fun sz => l_L_bend_t1 l G a sa b o x u f (xs (i + 1)) (xs (i + 2)) sz hfl hn1 hn q1) (fun x' f' sz => l_X6_bend_1 l G a sa b o x' u f' (xs (i + 1)) (xs (i + 2)) x.1.1 sz hok q1) ⟨rfl, rfl, by decide +kernel⟩ ⟨rfl, rfl, by decide +kernel⟩ (by decide) (fun k9 v9 b9 w9 h1 h2 => by obtain rfl : k9 = 1 := h1; exact ⟨rfl, fun q => absurd q (by decide), hR.1, hR.2.1, hR.2.2⟩) kk hP hD hS hl
set_option maxHeartbeats 4000000 in
set_option maxRecDepth 100000 in
theorem lp_turn {p : Program} {l : Launch} {e : Env} {s : State} {m : MethodId} {args : Array Value} {below : List Frame} {meth : Method} {c : Code} {H : Heap} {locs : List Loc} {cells slots : Nat} {Q : State → Prop} {ls : Array Slot} {A : Nat → Prop} {G : kG} {a : Nat → Nat} {sa : Nat → Nat → Nat} {b : Nat → Nat} {o sb L i : Nat} {xs : Nat → Int32} {x : XS} {u : MS} {f : FnL} (C : lwC p l s m args c A G sb L xs) (hi : i + 3 ≤ L) (hc : cells + 1 ≤ room_1.cells ∧ slots + 6 ≤ room_1.slots) (hR : Rel x u)
    (kk : lwK p l e s m args below meth c A G a sa b o sb i (cells + 1) (slots + 6) Q) (hP : va_P G.1 vwCl (wL G a sa b o x u f) H) (hD : va_D A (wL G a sa b o x u f)) (hS : va_S A s.heap H locs) (hl : lv_has ls 9 [(4, .int (nI i)), (0, .ref sb), (1, .ref (a 0)), (2, .ref (b 0)), (3, .ref o)]) : W p l e room_1 s m args below meth c H locs cells slots Q (F0 m 332 ls []) := by
  have hok := hR.1.1
  have hn1 : 1 ≤ x.1.1 := hok.2.1
  have hn : x.1.1 ≤ 20 := hok.2.2.1
  have hv := okP_cV hR.1
  have ho : x.2.2.2.1.2.1 < 6 := hR.2.1.1
  have hk6 : x.2.2.2.1.2.2 ≤ 6 := hR.2.1.2.1
  have v3 : u.1.2.2.2.1 = x.2.2.2.1.2.2 := hR.2.1.2.2.1
  have hsm : u.1.2.2.2.1 ≤ 6 := by rw [v3]; exact hk6
  have t1 : u.1.2.2.2.2.2 = x.2.2.2.2.1.1 := hR.2.2.1
  have hl60 : x.2.2.2.2.1.1 ≤ 60 := hR.2.2.2.1
  have t3 : ∀ k, k < x.2.2.2.2.1.1 → x.2.2.2.2.1.2 k = u.1.2.2.2.2.1 k := hR.2.2.2.2
  have hln : u.1.2.2.2.2.2 ≤ 60 := by rw [t1]; exact hl60
  have hfl : l.stackTraces = false := by obtain ⟨_, _, _, _, _, _, _, _, h, _⟩ := C; exact h
  exact lo_turn C hi hc  (fun sz => l_X5_turn_0 l G a sa b o x u f  sz hn1 hn ho hk6) (fun x' f' sz => l_X6_turn_0 l G a sa b o x' u f' x.1.1 sz hok hsm) ⟨rfl, rfl, by decide +kernel⟩ ⟨rfl, rfl, by decide +kernel⟩ (by decide) (fun k9 v9 b9 w9 h1 h2 => by obtain ⟨h3, -⟩ := h2; have h1 : k9 = _ := h1; exact ⟨h1.trans ((congrArg (fun z => z + 100) (che_ht (P_turn hR.1).2 (Nat.le_refl _))).trans (Eq.symm h3)), P_turn hR.1, V_save hR.2.1 hR.1, hR.2.2⟩) kk hP hD hS hl
set_option maxHeartbeats 4000000 in
set_option maxRecDepth 100000 in
theorem lp_weight {p : Program} {l : Launch} {e : Env} {s : State} {m : MethodId} {args : Array Value} {below : List Frame} {meth : Method} {c : Code} {H : Heap} {locs : List Loc} {cells slots : Nat} {Q : State → Prop} {ls : Array Slot} {A : Nat → Prop} {G : kG} {a : Nat → Nat} {sa : Nat → Nat → Nat} {b : Nat → Nat} {o sb L i : Nat} {xs : Nat → Int32} {x : XS} {u : MS} {f : FnL} (C : lwC p l s m args c A G sb L xs) (hi : i + 3 ≤ L) (hc : cells + 1 ≤ room_1.cells ∧ slots + 6 ≤ room_1.slots) (hR : Rel x u)
    (kk : lwK p l e s m args below meth c A G a sa b o sb i (cells + 1) (slots + 6) Q) (hP : va_P G.1 vwCl (wL G a sa b o x u f) H) (hD : va_D A (wL G a sa b o x u f)) (hS : va_S A s.heap H locs) (hl : lv_has ls 9 [(4, .int (nI i)), (0, .ref sb), (1, .ref (a 0)), (2, .ref (b 0)), (3, .ref o)]) : W p l e room_1 s m args below meth c H locs cells slots Q (F0 m 345 ls []) := by
  have hok := hR.1.1
  have hn1 : 1 ≤ x.1.1 := hok.2.1
  have hn : x.1.1 ≤ 20 := hok.2.2.1
  have hv := okP_cV hR.1
  have ho : x.2.2.2.1.2.1 < 6 := hR.2.1.1
  have hk6 : x.2.2.2.1.2.2 ≤ 6 := hR.2.1.2.1
  have v3 : u.1.2.2.2.1 = x.2.2.2.1.2.2 := hR.2.1.2.2.1
  have hsm : u.1.2.2.2.1 ≤ 6 := by rw [v3]; exact hk6
  have t1 : u.1.2.2.2.2.2 = x.2.2.2.2.1.1 := hR.2.2.1
  have hl60 : x.2.2.2.2.1.1 ≤ 60 := hR.2.2.2.1
  have t3 : ∀ k, k < x.2.2.2.2.1.1 → x.2.2.2.2.1.2 k = u.1.2.2.2.2.1 k := hR.2.2.2.2
  have hln : u.1.2.2.2.2.2 ≤ 60 := by rw [t1]; exact hl60
  have hfl : l.stackTraces = false := by obtain ⟨_, _, _, _, _, _, _, _, h, _⟩ := C; exact h
  by_cases q1 : isN (xs (i + 1)) (x.1.1 + 1) = true
  · obtain ⟨j, hj, ej⟩ := isN_t (by omega) q1
    have hj := Nat.le_of_lt_succ hj
    rw [ej] at q1
    by_cases q2 : 0 ≤ (xs (i + 2)) ∧ (xs (i + 2)) ≤ 99
    · skip
      exact lo_weight C hi hc ej rfl (fun sz => l_L_weight_0 l G a sa b o x u f j (xs (i + 2)) sz hn1 hn ho hk6 hj q2) (fun x' f' sz => l_X6_weight_0 l G a sa b o x' u f' j (xs (i + 2)) x.1.1 sz hok hsm hj q2) ⟨rfl, rfl, by decide +kernel⟩ ⟨rfl, rfl, by decide +kernel⟩ (by decide) (fun k9 v9 b9 w9 h1 h2 => by obtain rfl : k9 = 0 := h1; exact ⟨rfl, fun _ => up0 (((hR.1.2.2.1 j hj).1).trans (Eq.symm h2)), P_we hR.1 hj q2, V_save hR.2.1 hR.1, hR.2.2⟩) kk hP hD hS hl
    · skip
      exact lo_weight C hi hc ej rfl (fun sz => l_L_weight_t2 l G a sa b o x u f j (xs (i + 2)) sz hfl hn1 hn hj q2) (fun x' f' sz => l_X6_weight_2 l G a sa b o x' u f' (nI j) (xs (i + 2)) x.1.1 sz hok q1 q2) ⟨rfl, rfl, by decide +kernel⟩ ⟨rfl, rfl, by decide +kernel⟩ (by decide) (fun k9 v9 b9 w9 h1 h2 => by obtain rfl : k9 = 2 := h1; exact ⟨rfl, fun q => absurd q (by decide), hR.1, hR.2.1, hR.2.2⟩) kk hP hD hS hl
  · have q1 := eq_false_of_ne_true q1
    exact lo_weight C hi hc rfl rfl (fun sz => l_L_weight_t1 l G a sa b o x u f (xs (i + 1)) (xs (i + 2)) sz hfl hn1 hn q1) (fun x' f' sz => l_X6_weight_1 l G a sa b o x' u f' (xs (i + 1)) (xs (i + 2)) x.1.1 sz hok q1) ⟨rfl, rfl, by decide +kernel⟩ ⟨rfl, rfl, by decide +kernel⟩ (by decide) (fun k9 v9 b9 w9 h1 h2 => by obtain rfl : k9 = 1 := h1; exact ⟨rfl, fun q => absurd q (by decide), hR.1, hR.2.1, hR.2.2⟩) kk hP hD hS hl
set_option maxHeartbeats 4000000 in
set_option maxRecDepth 100000 in
theorem lp_hanger {p : Program} {l : Launch} {e : Env} {s : State} {m : MethodId} {args : Array Value} {below : List Frame} {meth : Method} {c : Code} {H : Heap} {locs : List Loc} {cells slots : Nat} {Q : State → Prop} {ls : Array Slot} {A : Nat → Prop} {G : kG} {a : Nat → Nat} {sa : Nat → Nat → Nat} {b : Nat → Nat} {o sb L i : Nat} {xs : Nat → Int32} {x : XS} {u : MS} {f : FnL} (C : lwC p l s m args c A G sb L xs) (hi : i + 3 ≤ L) (hc : cells + 1 ≤ room_1.cells ∧ slots + 6 ≤ room_1.slots) (hR : Rel x u)
    (kk : lwK p l e s m args below meth c A G a sa b o sb i (cells + 1) (slots + 6) Q) (hP : va_P G.1 vwCl (wL G a sa b o x u f) H) (hD : va_D A (wL G a sa b o x u f)) (hS : va_S A s.heap H locs) (hl : lv_has ls 9 [(4, .int (nI i)), (0, .ref sb), (1, .ref (a 0)), (2, .ref (b 0)), (3, .ref o)]) : W p l e room_1 s m args below meth c H locs cells slots Q (F0 m 413 ls []) := by
  have hok := hR.1.1
  have hn1 : 1 ≤ x.1.1 := hok.2.1
  have hn : x.1.1 ≤ 20 := hok.2.2.1
  have hv := okP_cV hR.1
  have ho : x.2.2.2.1.2.1 < 6 := hR.2.1.1
  have hk6 : x.2.2.2.1.2.2 ≤ 6 := hR.2.1.2.1
  have v3 : u.1.2.2.2.1 = x.2.2.2.1.2.2 := hR.2.1.2.2.1
  have hsm : u.1.2.2.2.1 ≤ 6 := by rw [v3]; exact hk6
  have t1 : u.1.2.2.2.2.2 = x.2.2.2.2.1.1 := hR.2.2.1
  have hl60 : x.2.2.2.2.1.1 ≤ 60 := hR.2.2.2.1
  have t3 : ∀ k, k < x.2.2.2.2.1.1 → x.2.2.2.2.1.2 k = u.1.2.2.2.2.1 k := hR.2.2.2.2
  have hln : u.1.2.2.2.2.2 ≤ 60 := by rw [t1]; exact hl60
  have hfl : l.stackTraces = false := by obtain ⟨_, _, _, _, _, _, _, _, h, _⟩ := C; exact h
  by_cases q1 : isN (xs (i + 1)) (x.1.1 + 1) = true
  · obtain ⟨j, hj, ej⟩ := isN_t (by omega) q1
    have hj := Nat.le_of_lt_succ hj
    rw [ej] at q1
    by_cases q2 : 0 ≤ (xs (i + 2)) ∧ (xs (i + 2)) ≤ 99
    · skip
      exact lo_hanger C hi hc ej rfl (fun sz => l_L_hanger_0 l G a sa b o x u f j (xs (i + 2)) sz hn1 hn ho hk6 hj q2) (fun x' f' sz => l_X6_hanger_0 l G a sa b o x' u f' j (xs (i + 2)) x.1.1 sz hok hsm hj q2) ⟨rfl, rfl, by decide +kernel⟩ ⟨rfl, rfl, by decide +kernel⟩ (by decide) (fun k9 v9 b9 w9 h1 h2 => by obtain rfl : k9 = 0 := h1; exact ⟨rfl, fun _ => up0 (((hR.1.2.2.1 j hj).2.1).trans (Eq.symm h2)), P_ha hR.1 hj q2, V_save hR.2.1 hR.1, hR.2.2⟩) kk hP hD hS hl
    · skip
      exact lo_hanger C hi hc ej rfl (fun sz => l_L_hanger_t2 l G a sa b o x u f j (xs (i + 2)) sz hfl hn1 hn hj q2) (fun x' f' sz => l_X6_hanger_2 l G a sa b o x' u f' (nI j) (xs (i + 2)) x.1.1 sz hok q1 q2) ⟨rfl, rfl, by decide +kernel⟩ ⟨rfl, rfl, by decide +kernel⟩ (by decide) (fun k9 v9 b9 w9 h1 h2 => by obtain rfl : k9 = 2 := h1; exact ⟨rfl, fun q => absurd q (by decide), hR.1, hR.2.1, hR.2.2⟩) kk hP hD hS hl
  · have q1 := eq_false_of_ne_true q1
    exact lo_hanger C hi hc rfl rfl (fun sz => l_L_hanger_t1 l G a sa b o x u f (xs (i + 1)) (xs (i + 2)) sz hfl hn1 hn q1) (fun x' f' sz => l_X6_hanger_1 l G a sa b o x' u f' (xs (i + 1)) (xs (i + 2)) x.1.1 sz hok q1) ⟨rfl, rfl, by decide +kernel⟩ ⟨rfl, rfl, by decide +kernel⟩ (by decide) (fun k9 v9 b9 w9 h1 h2 => by obtain rfl : k9 = 1 := h1; exact ⟨rfl, fun q => absurd q (by decide), hR.1, hR.2.1, hR.2.2⟩) kk hP hD hS hl
set_option maxHeartbeats 4000000 in
set_option maxRecDepth 100000 in
theorem lp_prop {p : Program} {l : Launch} {e : Env} {s : State} {m : MethodId} {args : Array Value} {below : List Frame} {meth : Method} {c : Code} {H : Heap} {locs : List Loc} {cells slots : Nat} {Q : State → Prop} {ls : Array Slot} {A : Nat → Prop} {G : kG} {a : Nat → Nat} {sa : Nat → Nat → Nat} {b : Nat → Nat} {o sb L i : Nat} {xs : Nat → Int32} {x : XS} {u : MS} {f : FnL} (C : lwC p l s m args c A G sb L xs) (hi : i + 3 ≤ L) (hc : cells + 1 ≤ room_1.cells ∧ slots + 6 ≤ room_1.slots) (hR : Rel x u)
    (kk : lwK p l e s m args below meth c A G a sa b o sb i (cells + 1) (slots + 6) Q) (hP : va_P G.1 vwCl (wL G a sa b o x u f) H) (hD : va_D A (wL G a sa b o x u f)) (hS : va_S A s.heap H locs) (hl : lv_has ls 9 [(4, .int (nI i)), (0, .ref sb), (1, .ref (a 0)), (2, .ref (b 0)), (3, .ref o)]) : W p l e room_1 s m args below meth c H locs cells slots Q (F0 m 481 ls []) := by
  have hok := hR.1.1
  have hn1 : 1 ≤ x.1.1 := hok.2.1
  have hn : x.1.1 ≤ 20 := hok.2.2.1
  have hv := okP_cV hR.1
  have ho : x.2.2.2.1.2.1 < 6 := hR.2.1.1
  have hk6 : x.2.2.2.1.2.2 ≤ 6 := hR.2.1.2.1
  have v3 : u.1.2.2.2.1 = x.2.2.2.1.2.2 := hR.2.1.2.2.1
  have hsm : u.1.2.2.2.1 ≤ 6 := by rw [v3]; exact hk6
  have t1 : u.1.2.2.2.2.2 = x.2.2.2.2.1.1 := hR.2.2.1
  have hl60 : x.2.2.2.2.1.1 ≤ 60 := hR.2.2.2.1
  have t3 : ∀ k, k < x.2.2.2.2.1.1 → x.2.2.2.2.1.2 k = u.1.2.2.2.2.1 k := hR.2.2.2.2
  have hln : u.1.2.2.2.2.2 ≤ 60 := by rw [t1]; exact hl60
  have hfl : l.stackTraces = false := by obtain ⟨_, _, _, _, _, _, _, _, h, _⟩ := C; exact h
  by_cases q1 : isN (xs (i + 1)) (x.1.1 + 1) = true
  · obtain ⟨j, hj, ej⟩ := isN_t (by omega) q1
    have hj := Nat.le_of_lt_succ hj
    rw [ej] at q1
    by_cases q2 : 0 ≤ (xs (i + 2)) ∧ (xs (i + 2)) ≤ 99
    · skip
      exact lo_prop C hi hc ej rfl (fun sz => l_L_prop_0 l G a sa b o x u f j (xs (i + 2)) sz hn1 hn ho hk6 hj q2) (fun x' f' sz => l_X6_prop_0 l G a sa b o x' u f' j (xs (i + 2)) x.1.1 sz hok hsm hj q2) ⟨rfl, rfl, by decide +kernel⟩ ⟨rfl, rfl, by decide +kernel⟩ (by decide) (fun k9 v9 b9 w9 h1 h2 => by obtain rfl : k9 = 0 := h1; exact ⟨rfl, fun _ => up0 (((hR.1.2.2.1 j hj).2.2).trans (Eq.symm h2)), P_pr hR.1 hj q2, V_save hR.2.1 hR.1, hR.2.2⟩) kk hP hD hS hl
    · skip
      exact lo_prop C hi hc ej rfl (fun sz => l_L_prop_t2 l G a sa b o x u f j (xs (i + 2)) sz hfl hn1 hn hj q2) (fun x' f' sz => l_X6_prop_2 l G a sa b o x' u f' (nI j) (xs (i + 2)) x.1.1 sz hok q1 q2) ⟨rfl, rfl, by decide +kernel⟩ ⟨rfl, rfl, by decide +kernel⟩ (by decide) (fun k9 v9 b9 w9 h1 h2 => by obtain rfl : k9 = 2 := h1; exact ⟨rfl, fun q => absurd q (by decide), hR.1, hR.2.1, hR.2.2⟩) kk hP hD hS hl
  · have q1 := eq_false_of_ne_true q1
    exact lo_prop C hi hc rfl rfl (fun sz => l_L_prop_t1 l G a sa b o x u f (xs (i + 1)) (xs (i + 2)) sz hfl hn1 hn q1) (fun x' f' sz => l_X6_prop_1 l G a sa b o x' u f' (xs (i + 1)) (xs (i + 2)) x.1.1 sz hok q1) ⟨rfl, rfl, by decide +kernel⟩ ⟨rfl, rfl, by decide +kernel⟩ (by decide) (fun k9 v9 b9 w9 h1 h2 => by obtain rfl : k9 = 1 := h1; exact ⟨rfl, fun q => absurd q (by decide), hR.1, hR.2.1, hR.2.2⟩) kk hP hD hS hl
set_option maxHeartbeats 4000000 in
set_option maxRecDepth 100000 in
theorem lp_move {p : Program} {l : Launch} {e : Env} {s : State} {m : MethodId} {args : Array Value} {below : List Frame} {meth : Method} {c : Code} {H : Heap} {locs : List Loc} {cells slots : Nat} {Q : State → Prop} {ls : Array Slot} {A : Nat → Prop} {G : kG} {a : Nat → Nat} {sa : Nat → Nat → Nat} {b : Nat → Nat} {o sb L i : Nat} {xs : Nat → Int32} {x : XS} {u : MS} {f : FnL} (C : lwC p l s m args c A G sb L xs) (hi : i + 3 ≤ L) (hc : cells + 1 ≤ room_1.cells ∧ slots + 6 ≤ room_1.slots) (hR : Rel x u)
    (kk : lwK p l e s m args below meth c A G a sa b o sb i (cells + 1) (slots + 6) Q) (hP : va_P G.1 vwCl (wL G a sa b o x u f) H) (hD : va_D A (wL G a sa b o x u f)) (hS : va_S A s.heap H locs) (hl : lv_has ls 9 [(4, .int (nI i)), (0, .ref sb), (1, .ref (a 0)), (2, .ref (b 0)), (3, .ref o)]) : W p l e room_1 s m args below meth c H locs cells slots Q (F0 m 549 ls []) := by
  have hok := hR.1.1
  have hn1 : 1 ≤ x.1.1 := hok.2.1
  have hn : x.1.1 ≤ 20 := hok.2.2.1
  have hv := okP_cV hR.1
  have ho : x.2.2.2.1.2.1 < 6 := hR.2.1.1
  have hk6 : x.2.2.2.1.2.2 ≤ 6 := hR.2.1.2.1
  have v3 : u.1.2.2.2.1 = x.2.2.2.1.2.2 := hR.2.1.2.2.1
  have hsm : u.1.2.2.2.1 ≤ 6 := by rw [v3]; exact hk6
  have t1 : u.1.2.2.2.2.2 = x.2.2.2.2.1.1 := hR.2.2.1
  have hl60 : x.2.2.2.2.1.1 ≤ 60 := hR.2.2.2.1
  have t3 : ∀ k, k < x.2.2.2.2.1.1 → x.2.2.2.2.1.2 k = u.1.2.2.2.2.1 k := hR.2.2.2.2
  have hln : u.1.2.2.2.2.2 ≤ 60 := by rw [t1]; exact hl60
  have hfl : l.stackTraces = false := by obtain ⟨_, _, _, _, _, _, _, _, h, _⟩ := C; exact h
  by_cases q1 : isN (xs (i + 1)) (x.1.1 + 1) = true
  · obtain ⟨j, hj, ej⟩ := isN_t (by omega) q1
    have hj := Nat.le_of_lt_succ hj
    rw [ej] at q1
    by_cases q2 : isN (xs (i + 2)) (x.1.1 + 1) = true
    · obtain ⟨t, ht, et⟩ := isN_t (by omega) q2
      have ht := Nat.le_of_lt_succ ht
      rw [et] at q2
      by_cases q3 : j = t
      · subst q3
        exact lo_move C hi hc ej et (fun sz => l_L_move_t2 l G a sa b o x u f j sz hfl hn1 hn hj) (fun x' f' sz => l_X6_move_2 l G a sa b o x' u f' j x.1.1 sz hok hj) ⟨rfl, rfl, by decide +kernel⟩ ⟨rfl, rfl, by decide +kernel⟩ (by decide) (fun k9 v9 b9 w9 h1 h2 => by obtain rfl : k9 = 2 := h1; exact ⟨rfl, fun q => absurd q (by decide), hR.1, hR.2.1, hR.2.2⟩) kk hP hD hS hl
      · skip
        exact lo_move C hi hc ej et (fun sz => l_L_move_0 l G a sa b o x u f j t sz hn1 hn ho hk6 hj ht q3) (fun x' f' sz => l_X6_move_0 l G a sa b o x' u f' j t x.1.1 sz hok hsm hj ht q3) ⟨rfl, rfl, by decide +kernel⟩ ⟨rfl, rfl, by decide +kernel⟩ (by decide) (fun k9 v9 b9 w9 h1 h2 => by obtain rfl : k9 = 0 := h1; exact ⟨rfl, fun _ => up0 ((mvBy_c hR.1.2 hj ht).trans (Eq.symm h2)), P_mv hR.1 hj ht q3, V_save hR.2.1 hR.1, hR.2.2⟩) kk hP hD hS hl
    · have q2 := eq_false_of_ne_true q2
      exact lo_move C hi hc ej rfl (fun sz => l_L_move_t3 l G a sa b o x u f j (xs (i + 2)) sz hfl hn1 hn hj q2) (fun x' f' sz => l_X6_move_3 l G a sa b o x' u f' (nI j) (xs (i + 2)) x.1.1 sz hok q1 q2) ⟨rfl, rfl, by decide +kernel⟩ ⟨rfl, rfl, by decide +kernel⟩ (by decide) (fun k9 v9 b9 w9 h1 h2 => by obtain rfl : k9 = 1 := h1; exact ⟨rfl, fun q => absurd q (by decide), hR.1, hR.2.1, hR.2.2⟩) kk hP hD hS hl
  · have q1 := eq_false_of_ne_true q1
    exact lo_move C hi hc rfl rfl (fun sz => l_L_move_t1 l G a sa b o x u f (xs (i + 1)) (xs (i + 2)) sz hfl hn1 hn q1) (fun x' f' sz => l_X6_move_1 l G a sa b o x' u f' (xs (i + 1)) (xs (i + 2)) x.1.1 sz hok q1) ⟨rfl, rfl, by decide +kernel⟩ ⟨rfl, rfl, by decide +kernel⟩ (by decide) (fun k9 v9 b9 w9 h1 h2 => by obtain rfl : k9 = 1 := h1; exact ⟨rfl, fun q => absurd q (by decide), hR.1, hR.2.1, hR.2.2⟩) kk hP hD hS hl
set_option maxHeartbeats 4000000 in
set_option maxRecDepth 100000 in
theorem lp_set {p : Program} {l : Launch} {e : Env} {s : State} {m : MethodId} {args : Array Value} {below : List Frame} {meth : Method} {c : Code} {H : Heap} {locs : List Loc} {cells slots : Nat} {Q : State → Prop} {ls : Array Slot} {A : Nat → Prop} {G : kG} {a : Nat → Nat} {sa : Nat → Nat → Nat} {b : Nat → Nat} {o sb L i : Nat} {xs : Nat → Int32} {x : XS} {u : MS} {f : FnL} (C : lwC p l s m args c A G sb L xs) (hi : i + 3 ≤ L) (hc : cells + 1 ≤ room_1.cells ∧ slots + 6 ≤ room_1.slots) (hR : Rel x u)
    (kk : lwK p l e s m args below meth c A G a sa b o sb i (cells + 1) (slots + 6) Q) (hP : va_P G.1 vwCl (wL G a sa b o x u f) H) (hD : va_D A (wL G a sa b o x u f)) (hS : va_S A s.heap H locs) (hl : lv_has ls 9 [(4, .int (nI i)), (0, .ref sb), (1, .ref (a 0)), (2, .ref (b 0)), (3, .ref o)]) : W p l e room_1 s m args below meth c H locs cells slots Q (F0 m 617 ls []) := by
  have hok := hR.1.1
  have hn1 : 1 ≤ x.1.1 := hok.2.1
  have hn : x.1.1 ≤ 20 := hok.2.2.1
  have hv := okP_cV hR.1
  have ho : x.2.2.2.1.2.1 < 6 := hR.2.1.1
  have hk6 : x.2.2.2.1.2.2 ≤ 6 := hR.2.1.2.1
  have v3 : u.1.2.2.2.1 = x.2.2.2.1.2.2 := hR.2.1.2.2.1
  have hsm : u.1.2.2.2.1 ≤ 6 := by rw [v3]; exact hk6
  have t1 : u.1.2.2.2.2.2 = x.2.2.2.2.1.1 := hR.2.2.1
  have hl60 : x.2.2.2.2.1.1 ≤ 60 := hR.2.2.2.1
  have t3 : ∀ k, k < x.2.2.2.2.1.1 → x.2.2.2.2.1.2 k = u.1.2.2.2.2.1 k := hR.2.2.2.2
  have hln : u.1.2.2.2.2.2 ≤ 60 := by rw [t1]; exact hl60
  have hfl : l.stackTraces = false := by obtain ⟨_, _, _, _, _, _, _, _, h, _⟩ := C; exact h
  by_cases q1 : isN (xs (i + 1)) 4 = true
  · obtain ⟨j, hj, ej⟩ := isN_t (by omega) q1
    rw [ej] at q1
    by_cases q2 : sLow (nI j) ≤ (xs (i + 2)) ∧ (xs (i + 2)) ≤ sHigh (nI j)
    · skip
      exact lo_set C hi hc ej rfl (fun sz => l_L_set_0 l G a sa b o x u f j (xs (i + 2)) sz hn1 hn ho hk6 hj q2) (fun x' f' sz => l_X6_set_0 l G a sa b o x' u f' j (xs (i + 2)) sz hsm hj q2) ⟨rfl, rfl, by decide +kernel⟩ ⟨rfl, rfl, by decide +kernel⟩ (by decide) (fun k9 v9 b9 w9 h1 h2 => by obtain rfl : k9 = 0 := h1; exact ⟨rfl, fun _ => up0 ((congrArg (fun z => z + 100) (hR.1.2.2.2 j hj)).trans (Eq.symm h2)), P_se hR.1 hj q2, V_save hR.2.1 hR.1, hR.2.2⟩) kk hP hD hS hl
    · skip
      exact lo_set C hi hc ej rfl (fun sz => l_L_set_t2 l G a sa b o x u f j (xs (i + 2)) sz hfl hn1 hn hj q2) (fun x' f' sz => l_X6_set_2 l G a sa b o x' u f' (nI j) (xs (i + 2)) sz q1 q2) ⟨rfl, rfl, by decide +kernel⟩ ⟨rfl, rfl, by decide +kernel⟩ (by decide) (fun k9 v9 b9 w9 h1 h2 => by obtain rfl : k9 = 2 := h1; exact ⟨rfl, fun q => absurd q (by decide), hR.1, hR.2.1, hR.2.2⟩) kk hP hD hS hl
  · have q1 := eq_false_of_ne_true q1
    exact lo_set C hi hc rfl rfl (fun sz => l_L_set_t1 l G a sa b o x u f (xs (i + 1)) (xs (i + 2)) sz hfl hn1 hn q1) (fun x' f' sz => l_X6_set_1 l G a sa b o x' u f' (xs (i + 1)) (xs (i + 2)) sz q1) ⟨rfl, rfl, by decide +kernel⟩ ⟨rfl, rfl, by decide +kernel⟩ (by decide) (fun k9 v9 b9 w9 h1 h2 => by obtain rfl : k9 = 1 := h1; exact ⟨rfl, fun q => absurd q (by decide), hR.1, hR.2.1, hR.2.2⟩) kk hP hD hS hl
set_option maxHeartbeats 4000000 in
set_option maxRecDepth 100000 in
theorem lp_append {p : Program} {l : Launch} {e : Env} {s : State} {m : MethodId} {args : Array Value} {below : List Frame} {meth : Method} {c : Code} {H : Heap} {locs : List Loc} {cells slots : Nat} {Q : State → Prop} {ls : Array Slot} {A : Nat → Prop} {G : kG} {a : Nat → Nat} {sa : Nat → Nat → Nat} {b : Nat → Nat} {o sb L i : Nat} {xs : Nat → Int32} {x : XS} {u : MS} {f : FnL} (C : lwC p l s m args c A G sb L xs) (hi : i + 3 ≤ L) (hc : cells + 1 ≤ room_1.cells ∧ slots + 6 ≤ room_1.slots) (hR : Rel x u)
    (kk : lwK p l e s m args below meth c A G a sa b o sb i (cells + 1) (slots + 6) Q) (hP : va_P G.1 vwCl (wL G a sa b o x u f) H) (hD : va_D A (wL G a sa b o x u f)) (hS : va_S A s.heap H locs) (hl : lv_has ls 9 [(4, .int (nI i)), (0, .ref sb), (1, .ref (a 0)), (2, .ref (b 0)), (3, .ref o)]) : W p l e room_1 s m args below meth c H locs cells slots Q (F0 m 685 ls []) := by
  have hok := hR.1.1
  have hn1 : 1 ≤ x.1.1 := hok.2.1
  have hn : x.1.1 ≤ 20 := hok.2.2.1
  have hv := okP_cV hR.1
  have ho : x.2.2.2.1.2.1 < 6 := hR.2.1.1
  have hk6 : x.2.2.2.1.2.2 ≤ 6 := hR.2.1.2.1
  have v3 : u.1.2.2.2.1 = x.2.2.2.1.2.2 := hR.2.1.2.2.1
  have hsm : u.1.2.2.2.1 ≤ 6 := by rw [v3]; exact hk6
  have t1 : u.1.2.2.2.2.2 = x.2.2.2.2.1.1 := hR.2.2.1
  have hl60 : x.2.2.2.2.1.1 ≤ 60 := hR.2.2.2.1
  have t3 : ∀ k, k < x.2.2.2.2.1.1 → x.2.2.2.2.1.2 k = u.1.2.2.2.2.1 k := hR.2.2.2.2
  have hln : u.1.2.2.2.2.2 ≤ 60 := by rw [t1]; exact hl60
  have hfl : l.stackTraces = false := by obtain ⟨_, _, _, _, _, _, _, _, h, _⟩ := C; exact h
  by_cases q1 : 33 ≤ (xs (i + 1)) ∧ (xs (i + 1)) ≤ 126
  · skip
    rcases Nat.lt_or_ge x.2.2.2.2.1.1 60 with q2 | q2
    · skip
      exact lo_append C hi hc rfl (fun sz => l_L_append_0 l G a sa b o x u f (xs (i + 1)) sz q1 q2) (fun x' f' sz => l_X6_append_0 l G a sa b o x' u f' (xs (i + 1)) sz q1 (by rw [t1]; exact q2)) ⟨rfl, rfl, by decide +kernel⟩ ⟨rfl, rfl, by decide +kernel⟩ (by decide) (fun k9 v9 b9 w9 h1 h2 => by obtain rfl : k9 = 0 := h1; exact ⟨rfl, fun _ => up0 ((congrArg (fun z => nI (z + 1)) t1.symm).trans (Eq.symm h2)), hR.1, hR.2.1, T_app hR.2.2 q2⟩) kk hP hD hS hl
    · skip
      have q3 : x.2.2.2.2.1.1 = 60 := by omega
      exact lo_append C hi hc rfl (fun sz => l_L_append_t2 l G a sa b o x u f (xs (i + 1)) sz hfl q1 q3) (fun x' f' sz => l_X6_append_2 l G a sa b o x' u f' (xs (i + 1)) sz q1 (t1.trans q3)) ⟨rfl, rfl, by decide +kernel⟩ ⟨rfl, rfl, by decide +kernel⟩ (by decide) (fun k9 v9 b9 w9 h1 h2 => by obtain rfl : k9 = 2 := h1; exact ⟨rfl, fun q => absurd q (by decide), hR.1, hR.2.1, hR.2.2⟩) kk hP hD hS hl
  · skip
    exact lo_append C hi hc rfl (fun sz => l_L_append_t1 l G a sa b o x u f (xs (i + 1)) sz hfl q1) (fun x' f' sz => l_X6_append_1 l G a sa b o x' u f' (xs (i + 1)) sz q1) ⟨rfl, rfl, by decide +kernel⟩ ⟨rfl, rfl, by decide +kernel⟩ (by decide) (fun k9 v9 b9 w9 h1 h2 => by obtain rfl : k9 = 1 := h1; exact ⟨rfl, fun q => absurd q (by decide), hR.1, hR.2.1, hR.2.2⟩) kk hP hD hS hl
set_option maxHeartbeats 4000000 in
set_option maxRecDepth 100000 in
theorem lp_clearBuffer {p : Program} {l : Launch} {e : Env} {s : State} {m : MethodId} {args : Array Value} {below : List Frame} {meth : Method} {c : Code} {H : Heap} {locs : List Loc} {cells slots : Nat} {Q : State → Prop} {ls : Array Slot} {A : Nat → Prop} {G : kG} {a : Nat → Nat} {sa : Nat → Nat → Nat} {b : Nat → Nat} {o sb L i : Nat} {xs : Nat → Int32} {x : XS} {u : MS} {f : FnL} (C : lwC p l s m args c A G sb L xs) (hi : i + 3 ≤ L) (hc : cells + 1 ≤ room_1.cells ∧ slots + 6 ≤ room_1.slots) (hR : Rel x u)
    (kk : lwK p l e s m args below meth c A G a sa b o sb i (cells + 1) (slots + 6) Q) (hP : va_P G.1 vwCl (wL G a sa b o x u f) H) (hD : va_D A (wL G a sa b o x u f)) (hS : va_S A s.heap H locs) (hl : lv_has ls 9 [(4, .int (nI i)), (0, .ref sb), (1, .ref (a 0)), (2, .ref (b 0)), (3, .ref o)]) : W p l e room_1 s m args below meth c H locs cells slots Q (F0 m 741 ls []) := by
  have hok := hR.1.1
  have hn1 : 1 ≤ x.1.1 := hok.2.1
  have hn : x.1.1 ≤ 20 := hok.2.2.1
  have hv := okP_cV hR.1
  have ho : x.2.2.2.1.2.1 < 6 := hR.2.1.1
  have hk6 : x.2.2.2.1.2.2 ≤ 6 := hR.2.1.2.1
  have v3 : u.1.2.2.2.1 = x.2.2.2.1.2.2 := hR.2.1.2.2.1
  have hsm : u.1.2.2.2.1 ≤ 6 := by rw [v3]; exact hk6
  have t1 : u.1.2.2.2.2.2 = x.2.2.2.2.1.1 := hR.2.2.1
  have hl60 : x.2.2.2.2.1.1 ≤ 60 := hR.2.2.2.1
  have t3 : ∀ k, k < x.2.2.2.2.1.1 → x.2.2.2.2.1.2 k = u.1.2.2.2.2.1 k := hR.2.2.2.2
  have hln : u.1.2.2.2.2.2 ≤ 60 := by rw [t1]; exact hl60
  have hfl : l.stackTraces = false := by obtain ⟨_, _, _, _, _, _, _, _, h, _⟩ := C; exact h
  exact lo_clearBuffer C hi hc  (fun sz => l_X5_clearBuffer_0 l G a sa b o x u f  sz hl60) (fun x' f' sz => l_X6_clearBuffer_0 l G a sa b o x' u f'  sz ) ⟨rfl, rfl, by decide +kernel⟩ ⟨rfl, rfl, by decide +kernel⟩ (by decide) (fun k9 v9 b9 w9 h1 h2 => by have h1 : k9 = _ := h1; exact ⟨h1.trans ((congrArg nI t1.symm).trans (Eq.symm h2)), hR.1, hR.2.1, T_0⟩) kk hP hD hS hl
set_option maxHeartbeats 4000000 in
set_option maxRecDepth 100000 in
theorem lp_firstError {p : Program} {l : Launch} {e : Env} {s : State} {m : MethodId} {args : Array Value} {below : List Frame} {meth : Method} {c : Code} {H : Heap} {locs : List Loc} {cells slots : Nat} {Q : State → Prop} {ls : Array Slot} {A : Nat → Prop} {G : kG} {a : Nat → Nat} {sa : Nat → Nat → Nat} {b : Nat → Nat} {o sb L i : Nat} {xs : Nat → Int32} {x : XS} {u : MS} {f : FnL} (C : lwC p l s m args c A G sb L xs) (hi : i + 3 ≤ L) (hc : cells + 1 ≤ room_1.cells ∧ slots + 6 ≤ room_1.slots) (hR : Rel x u)
    (kk : lwK p l e s m args below meth c A G a sa b o sb i (cells + 1) (slots + 6) Q) (hP : va_P G.1 vwCl (wL G a sa b o x u f) H) (hD : va_D A (wL G a sa b o x u f)) (hS : va_S A s.heap H locs) (hl : lv_has ls 9 [(4, .int (nI i)), (0, .ref sb), (1, .ref (a 0)), (2, .ref (b 0)), (3, .ref o)]) : W p l e room_1 s m args below meth c H locs cells slots Q (F0 m 754 ls []) := by
  have hok := hR.1.1
  have hn1 : 1 ≤ x.1.1 := hok.2.1
  have hn : x.1.1 ≤ 20 := hok.2.2.1
  have hv := okP_cV hR.1
  have ho : x.2.2.2.1.2.1 < 6 := hR.2.1.1
  have hk6 : x.2.2.2.1.2.2 ≤ 6 := hR.2.1.2.1
  have v3 : u.1.2.2.2.1 = x.2.2.2.1.2.2 := hR.2.1.2.2.1
  have hsm : u.1.2.2.2.1 ≤ 6 := by rw [v3]; exact hk6
  have t1 : u.1.2.2.2.2.2 = x.2.2.2.2.1.1 := hR.2.2.1
  have hl60 : x.2.2.2.2.1.1 ≤ 60 := hR.2.2.2.1
  have t3 : ∀ k, k < x.2.2.2.2.1.1 → x.2.2.2.2.1.2 k = u.1.2.2.2.2.1 k := hR.2.2.2.2
  have hln : u.1.2.2.2.2.2 ≤ 60 := by rw [t1]; exact hl60
  have hfl : l.stackTraces = false := by obtain ⟨_, _, _, _, _, _, _, _, h, _⟩ := C; exact h
  exact lo_firstError C hi hc  (fun sz => l_X5_firstError_0 l G a sa b o x u f  sz hl60) (fun x' f' sz => l_X6_firstError l G a sa b o x' u f'  sz hln) ⟨rfl, rfl, by decide +kernel⟩ ⟨rfl, rfl, by decide +kernel⟩ (by decide) (fun k9 v9 b9 w9 h1 h2 => by obtain ⟨a1, a2, -⟩ := h1; obtain ⟨b1, b2⟩ := h2; have b2 : rdK u.1.2.2.2.2.1 u.1.2.2.2.2.2 _ := b2; rw [t1] at b2; exact ⟨a1.trans ((congrArg nI (rdK_u (rdK_c t3 a2) b2)).trans (Eq.symm b1)), hR.1, hR.2.1, hR.2.2⟩) kk hP hD hS hl
set_option maxHeartbeats 4000000 in
set_option maxRecDepth 100000 in
theorem lp_shape {p : Program} {l : Launch} {e : Env} {s : State} {m : MethodId} {args : Array Value} {below : List Frame} {meth : Method} {c : Code} {H : Heap} {locs : List Loc} {cells slots : Nat} {Q : State → Prop} {ls : Array Slot} {A : Nat → Prop} {G : kG} {a : Nat → Nat} {sa : Nat → Nat → Nat} {b : Nat → Nat} {o sb L i : Nat} {xs : Nat → Int32} {x : XS} {u : MS} {f : FnL} (C : lwC p l s m args c A G sb L xs) (hi : i + 3 ≤ L) (hc : cells + 1 ≤ room_1.cells ∧ slots + 6 ≤ room_1.slots) (hR : Rel x u)
    (kk : lwK p l e s m args below meth c A G a sa b o sb i (cells + 1) (slots + 6) Q) (hP : va_P G.1 vwCl (wL G a sa b o x u f) H) (hD : va_D A (wL G a sa b o x u f)) (hS : va_S A s.heap H locs) (hl : lv_has ls 9 [(4, .int (nI i)), (0, .ref sb), (1, .ref (a 0)), (2, .ref (b 0)), (3, .ref o)]) : W p l e room_1 s m args below meth c H locs cells slots Q (F0 m 767 ls []) := by
  have hok := hR.1.1
  have hn1 : 1 ≤ x.1.1 := hok.2.1
  have hn : x.1.1 ≤ 20 := hok.2.2.1
  have hv := okP_cV hR.1
  have ho : x.2.2.2.1.2.1 < 6 := hR.2.1.1
  have hk6 : x.2.2.2.1.2.2 ≤ 6 := hR.2.1.2.1
  have v3 : u.1.2.2.2.1 = x.2.2.2.1.2.2 := hR.2.1.2.2.1
  have hsm : u.1.2.2.2.1 ≤ 6 := by rw [v3]; exact hk6
  have t1 : u.1.2.2.2.2.2 = x.2.2.2.2.1.1 := hR.2.2.1
  have hl60 : x.2.2.2.2.1.1 ≤ 60 := hR.2.2.2.1
  have t3 : ∀ k, k < x.2.2.2.2.1.1 → x.2.2.2.2.1.2 k = u.1.2.2.2.2.1 k := hR.2.2.2.2
  have hln : u.1.2.2.2.2.2 ≤ 60 := by rw [t1]; exact hl60
  have hfl : l.stackTraces = false := by obtain ⟨_, _, _, _, _, _, _, _, h, _⟩ := C; exact h
  by_cases q1 : pG x.2.2.2.2.1.2 x.2.2.2.2.1.1
  · have q2 : pG u.1.2.2.2.2.1 u.1.2.2.2.2.2 := by rw [t1]; exact pG_c t3 q1
    exact lo_shape C hi hc  (fun sz => l_L_shape_0 l G a sa b o x u f  sz hn1 hn ho hk6 hl60 q1) (fun x' f' sz => l_X6_shape_0 l G a sa b o x' u f' x.1.1 sz hok hsm hln q2) ⟨rfl, rfl, by decide +kernel⟩ ⟨rfl, rfl, by decide +kernel⟩ (by decide) (fun k9 v9 b9 w9 h1 h2 => by obtain ⟨h3, h4⟩ := h1; subst h3; exact ⟨rfl, fun _ => up0 (Eq.symm h2), (by have hp := P_shp hR.1 q1 t3 h4; rw [← t1] at hp; exact hp), V_save hR.2.1 hR.1, T_0⟩) kk hP hD hS hl
  · have q2 : ¬ pG u.1.2.2.2.2.1 u.1.2.2.2.2.2 := fun q => q1 (by rw [t1] at q; exact pG_c (fun k hk => (t3 k hk).symm) q)
    exact lo_shape C hi hc  (fun sz => l_L_shape_t1 l G a sa b o x u f  sz hfl hl60 q1) (fun x' f' sz => l_X6_shape_1 l G a sa b o x' u f'  sz hln q2) ⟨rfl, rfl, by decide +kernel⟩ ⟨rfl, rfl, by decide +kernel⟩ (by decide) (fun k9 v9 b9 w9 h1 h2 => by obtain rfl : k9 = 1 := h1; exact ⟨rfl, fun q => absurd q (by decide), hR.1, hR.2.1, hR.2.2⟩) kk hP hD hS hl
set_option maxHeartbeats 4000000 in
set_option maxRecDepth 100000 in
theorem lp_undo {p : Program} {l : Launch} {e : Env} {s : State} {m : MethodId} {args : Array Value} {below : List Frame} {meth : Method} {c : Code} {H : Heap} {locs : List Loc} {cells slots : Nat} {Q : State → Prop} {ls : Array Slot} {A : Nat → Prop} {G : kG} {a : Nat → Nat} {sa : Nat → Nat → Nat} {b : Nat → Nat} {o sb L i : Nat} {xs : Nat → Int32} {x : XS} {u : MS} {f : FnL} (C : lwC p l s m args c A G sb L xs) (hi : i + 3 ≤ L) (hc : cells + 1 ≤ room_1.cells ∧ slots + 6 ≤ room_1.slots) (hR : Rel x u)
    (kk : lwK p l e s m args below meth c A G a sa b o sb i (cells + 1) (slots + 6) Q) (hP : va_P G.1 vwCl (wL G a sa b o x u f) H) (hD : va_D A (wL G a sa b o x u f)) (hS : va_S A s.heap H locs) (hl : lv_has ls 9 [(4, .int (nI i)), (0, .ref sb), (1, .ref (a 0)), (2, .ref (b 0)), (3, .ref o)]) : W p l e room_1 s m args below meth c H locs cells slots Q (F0 m 811 ls []) := by
  have hok := hR.1.1
  have hn1 : 1 ≤ x.1.1 := hok.2.1
  have hn : x.1.1 ≤ 20 := hok.2.2.1
  have hv := okP_cV hR.1
  have ho : x.2.2.2.1.2.1 < 6 := hR.2.1.1
  have hk6 : x.2.2.2.1.2.2 ≤ 6 := hR.2.1.2.1
  have v3 : u.1.2.2.2.1 = x.2.2.2.1.2.2 := hR.2.1.2.2.1
  have hsm : u.1.2.2.2.1 ≤ 6 := by rw [v3]; exact hk6
  have t1 : u.1.2.2.2.2.2 = x.2.2.2.2.1.1 := hR.2.2.1
  have hl60 : x.2.2.2.2.1.1 ≤ 60 := hR.2.2.2.1
  have t3 : ∀ k, k < x.2.2.2.2.1.1 → x.2.2.2.2.1.2 k = u.1.2.2.2.2.1 k := hR.2.2.2.2
  have hln : u.1.2.2.2.2.2 ≤ 60 := by rw [t1]; exact hl60
  have hfl : l.stackTraces = false := by obtain ⟨_, _, _, _, _, _, _, _, h, _⟩ := C; exact h
  rcases Nat.lt_or_ge 0 x.2.2.2.1.2.2 with q2 | q2
  · skip
    exact lo_undo C hi hc  (fun sz => l_L_undo_0 l G a sa b o x u f  sz hn1 hn ho q2 hk6) (fun x' f' sz => l_X6_undo_0 l G a sa b o x' u f'  sz hsm (by rw [v3]; exact q2)) ⟨rfl, rfl, by decide +kernel⟩ ⟨rfl, rfl, by decide +kernel⟩ (by decide) (fun k9 v9 b9 w9 h1 h2 => by obtain rfl : k9 = 0 := h1; exact ⟨rfl, fun _ => up0 ((congrArg (fun z => nI (z - 1)) v3.symm).trans (Eq.symm h2)), (V_undo (s := u.1.2.1) hR.2.1 q2).1, (V_undo (s := u.1.2.1) hR.2.1 q2).2, hR.2.2⟩) kk hP hD hS hl
  · skip
    have q3 : x.2.2.2.1.2.2 = 0 := by omega
    exact lo_undo C hi hc  (fun sz => l_L_undo_t1 l G a sa b o x u f  sz hfl q3) (fun x' f' sz => l_X6_undo_1 l G a sa b o x' u f'  sz (v3.trans q3)) ⟨rfl, rfl, by decide +kernel⟩ ⟨rfl, rfl, by decide +kernel⟩ (by decide) (fun k9 v9 b9 w9 h1 h2 => by obtain rfl : k9 = 1 := h1; exact ⟨rfl, fun q => absurd q (by decide), hR.1, hR.2.1, hR.2.2⟩) kk hP hD hS hl
set_option maxHeartbeats 4000000 in
set_option maxRecDepth 100000 in
theorem lp_linkOf {p : Program} {l : Launch} {e : Env} {s : State} {m : MethodId} {args : Array Value} {below : List Frame} {meth : Method} {c : Code} {H : Heap} {locs : List Loc} {cells slots : Nat} {Q : State → Prop} {ls : Array Slot} {A : Nat → Prop} {G : kG} {a : Nat → Nat} {sa : Nat → Nat → Nat} {b : Nat → Nat} {o sb L i : Nat} {xs : Nat → Int32} {x : XS} {u : MS} {f : FnL} (C : lwC p l s m args c A G sb L xs) (hi : i + 3 ≤ L) (hc : cells + 1 ≤ room_1.cells ∧ slots + 6 ≤ room_1.slots) (hR : Rel x u)
    (kk : lwK p l e s m args below meth c A G a sa b o sb i (cells + 1) (slots + 6) Q) (hP : va_P G.1 vwCl (wL G a sa b o x u f) H) (hD : va_D A (wL G a sa b o x u f)) (hS : va_S A s.heap H locs) (hl : lv_has ls 9 [(4, .int (nI i)), (0, .ref sb), (1, .ref (a 0)), (2, .ref (b 0)), (3, .ref o)]) : W p l e room_1 s m args below meth c H locs cells slots Q (F0 m 855 ls []) := by
  have hok := hR.1.1
  have hn1 : 1 ≤ x.1.1 := hok.2.1
  have hn : x.1.1 ≤ 20 := hok.2.2.1
  have hv := okP_cV hR.1
  have ho : x.2.2.2.1.2.1 < 6 := hR.2.1.1
  have hk6 : x.2.2.2.1.2.2 ≤ 6 := hR.2.1.2.1
  have v3 : u.1.2.2.2.1 = x.2.2.2.1.2.2 := hR.2.1.2.2.1
  have hsm : u.1.2.2.2.1 ≤ 6 := by rw [v3]; exact hk6
  have t1 : u.1.2.2.2.2.2 = x.2.2.2.2.1.1 := hR.2.2.1
  have hl60 : x.2.2.2.2.1.1 ≤ 60 := hR.2.2.2.1
  have t3 : ∀ k, k < x.2.2.2.2.1.1 → x.2.2.2.2.1.2 k = u.1.2.2.2.2.1 k := hR.2.2.2.2
  have hln : u.1.2.2.2.2.2 ≤ 60 := by rw [t1]; exact hl60
  have hfl : l.stackTraces = false := by obtain ⟨_, _, _, _, _, _, _, _, h, _⟩ := C; exact h
  by_cases q1 : isN (xs (i + 1)) x.1.1 = true
  · obtain ⟨j, hj, ej⟩ := isN_t (by omega) q1
    rw [ej] at q1
    by_cases q2 : isN (xs (i + 2)) 3 = true
    · obtain ⟨w, hw, ew⟩ := isN_t (by omega) q2
      rw [ew] at q2
      exact lo_linkOf C hi hc ej ew (fun sz => l_L_linkOf_0 l G a sa b o x u f j w sz hn1 hn hj hw) (fun x' f' sz => l_X6_linkOf_0 l G a sa b o x' u f' j w x.1.1 sz hok hj hw) ⟨rfl, rfl, by decide +kernel⟩ ⟨rfl, rfl, by decide +kernel⟩ (by decide) (fun k9 v9 b9 w9 h1 h2 => by obtain rfl : k9 = 0 := h1; exact ⟨rfl, fun _ => up0 ((an_lk hR.1.2 hj w).trans (Eq.symm h2)), hR.1, hR.2.1, hR.2.2⟩) kk hP hD hS hl
    · have q2 := eq_false_of_ne_true q2
      exact lo_linkOf C hi hc ej rfl (fun sz => l_L_linkOf_t2 l G a sa b o x u f j (xs (i + 2)) sz hfl hn1 hn hj q2) (fun x' f' sz => l_X6_linkOf_2 l G a sa b o x' u f' (nI j) (xs (i + 2)) x.1.1 sz hok q1 q2) ⟨rfl, rfl, by decide +kernel⟩ ⟨rfl, rfl, by decide +kernel⟩ (by decide) (fun k9 v9 b9 w9 h1 h2 => by obtain rfl : k9 = 2 := h1; exact ⟨rfl, fun q => absurd q (by decide), hR.1, hR.2.1, hR.2.2⟩) kk hP hD hS hl
  · have q1 := eq_false_of_ne_true q1
    exact lo_linkOf C hi hc rfl rfl (fun sz => l_L_linkOf_t1 l G a sa b o x u f (xs (i + 1)) (xs (i + 2)) sz hfl hn1 hn q1) (fun x' f' sz => l_X6_linkOf_1 l G a sa b o x' u f' (xs (i + 1)) (xs (i + 2)) x.1.1 sz hok q1) ⟨rfl, rfl, by decide +kernel⟩ ⟨rfl, rfl, by decide +kernel⟩ (by decide) (fun k9 v9 b9 w9 h1 h2 => by obtain rfl : k9 = 1 := h1; exact ⟨rfl, fun q => absurd q (by decide), hR.1, hR.2.1, hR.2.2⟩) kk hP hD hS hl
set_option maxHeartbeats 4000000 in
set_option maxRecDepth 100000 in
theorem lp_joint {p : Program} {l : Launch} {e : Env} {s : State} {m : MethodId} {args : Array Value} {below : List Frame} {meth : Method} {c : Code} {H : Heap} {locs : List Loc} {cells slots : Nat} {Q : State → Prop} {ls : Array Slot} {A : Nat → Prop} {G : kG} {a : Nat → Nat} {sa : Nat → Nat → Nat} {b : Nat → Nat} {o sb L i : Nat} {xs : Nat → Int32} {x : XS} {u : MS} {f : FnL} (C : lwC p l s m args c A G sb L xs) (hi : i + 3 ≤ L) (hc : cells + 1 ≤ room_1.cells ∧ slots + 6 ≤ room_1.slots) (hR : Rel x u)
    (kk : lwK p l e s m args below meth c A G a sa b o sb i (cells + 1) (slots + 6) Q) (hP : va_P G.1 vwCl (wL G a sa b o x u f) H) (hD : va_D A (wL G a sa b o x u f)) (hS : va_S A s.heap H locs) (hl : lv_has ls 9 [(4, .int (nI i)), (0, .ref sb), (1, .ref (a 0)), (2, .ref (b 0)), (3, .ref o)]) : W p l e room_1 s m args below meth c H locs cells slots Q (F0 m 923 ls []) := by
  have hok := hR.1.1
  have hn1 : 1 ≤ x.1.1 := hok.2.1
  have hn : x.1.1 ≤ 20 := hok.2.2.1
  have hv := okP_cV hR.1
  have ho : x.2.2.2.1.2.1 < 6 := hR.2.1.1
  have hk6 : x.2.2.2.1.2.2 ≤ 6 := hR.2.1.2.1
  have v3 : u.1.2.2.2.1 = x.2.2.2.1.2.2 := hR.2.1.2.2.1
  have hsm : u.1.2.2.2.1 ≤ 6 := by rw [v3]; exact hk6
  have t1 : u.1.2.2.2.2.2 = x.2.2.2.2.1.1 := hR.2.2.1
  have hl60 : x.2.2.2.2.1.1 ≤ 60 := hR.2.2.2.1
  have t3 : ∀ k, k < x.2.2.2.2.1.1 → x.2.2.2.2.1.2 k = u.1.2.2.2.2.1 k := hR.2.2.2.2
  have hln : u.1.2.2.2.2.2 ≤ 60 := by rw [t1]; exact hl60
  have hfl : l.stackTraces = false := by obtain ⟨_, _, _, _, _, _, _, _, h, _⟩ := C; exact h
  by_cases q1 : isN (xs (i + 1)) (x.1.1 + 1) = true
  · obtain ⟨j, hj, ej⟩ := isN_t (by omega) q1
    have hj := Nat.le_of_lt_succ hj
    rw [ej] at q1
    by_cases q2 : isN (xs (i + 2)) 8 = true
    · obtain ⟨w, hw, ew⟩ := isN_t (by omega) q2
      rw [ew] at q2
      exact lo_joint C hi hc ej ew (fun sz => l_L_joint_0 l G a sa b o x u f j w sz hn1 hn hj hw) (fun x' f' sz => l_X6_joint_0 l G a sa b o x' u f' j w x.1.1 sz hok hj hw) ⟨rfl, rfl, by decide +kernel⟩ ⟨rfl, rfl, by decide +kernel⟩ (by decide) (fun k9 v9 b9 w9 h1 h2 => by obtain rfl : k9 = 0 := h1; exact ⟨rfl, fun _ => up0 ((an_jt hR.1.2 hj w).trans (Eq.symm h2)), hR.1, hR.2.1, hR.2.2⟩) kk hP hD hS hl
    · have q2 := eq_false_of_ne_true q2
      exact lo_joint C hi hc ej rfl (fun sz => l_L_joint_t2 l G a sa b o x u f j (xs (i + 2)) sz hfl hn1 hn hj q2) (fun x' f' sz => l_X6_joint_2 l G a sa b o x' u f' (nI j) (xs (i + 2)) x.1.1 sz hok q1 q2) ⟨rfl, rfl, by decide +kernel⟩ ⟨rfl, rfl, by decide +kernel⟩ (by decide) (fun k9 v9 b9 w9 h1 h2 => by obtain rfl : k9 = 2 := h1; exact ⟨rfl, fun q => absurd q (by decide), hR.1, hR.2.1, hR.2.2⟩) kk hP hD hS hl
  · have q1 := eq_false_of_ne_true q1
    exact lo_joint C hi hc rfl rfl (fun sz => l_L_joint_t1 l G a sa b o x u f (xs (i + 1)) (xs (i + 2)) sz hfl hn1 hn q1) (fun x' f' sz => l_X6_joint_1 l G a sa b o x' u f' (xs (i + 1)) (xs (i + 2)) x.1.1 sz hok q1) ⟨rfl, rfl, by decide +kernel⟩ ⟨rfl, rfl, by decide +kernel⟩ (by decide) (fun k9 v9 b9 w9 h1 h2 => by obtain rfl : k9 = 1 := h1; exact ⟨rfl, fun q => absurd q (by decide), hR.1, hR.2.1, hR.2.2⟩) kk hP hD hS hl
set_option maxHeartbeats 4000000 in
set_option maxRecDepth 100000 in
theorem lp_count {p : Program} {l : Launch} {e : Env} {s : State} {m : MethodId} {args : Array Value} {below : List Frame} {meth : Method} {c : Code} {H : Heap} {locs : List Loc} {cells slots : Nat} {Q : State → Prop} {ls : Array Slot} {A : Nat → Prop} {G : kG} {a : Nat → Nat} {sa : Nat → Nat → Nat} {b : Nat → Nat} {o sb L i : Nat} {xs : Nat → Int32} {x : XS} {u : MS} {f : FnL} (C : lwC p l s m args c A G sb L xs) (hi : i + 3 ≤ L) (hc : cells + 1 ≤ room_1.cells ∧ slots + 6 ≤ room_1.slots) (hR : Rel x u)
    (kk : lwK p l e s m args below meth c A G a sa b o sb i (cells + 1) (slots + 6) Q) (hP : va_P G.1 vwCl (wL G a sa b o x u f) H) (hD : va_D A (wL G a sa b o x u f)) (hS : va_S A s.heap H locs) (hl : lv_has ls 9 [(4, .int (nI i)), (0, .ref sb), (1, .ref (a 0)), (2, .ref (b 0)), (3, .ref o)]) : W p l e room_1 s m args below meth c H locs cells slots Q (F0 m 991 ls []) := by
  have hok := hR.1.1
  have hn1 : 1 ≤ x.1.1 := hok.2.1
  have hn : x.1.1 ≤ 20 := hok.2.2.1
  have hv := okP_cV hR.1
  have ho : x.2.2.2.1.2.1 < 6 := hR.2.1.1
  have hk6 : x.2.2.2.1.2.2 ≤ 6 := hR.2.1.2.1
  have v3 : u.1.2.2.2.1 = x.2.2.2.1.2.2 := hR.2.1.2.2.1
  have hsm : u.1.2.2.2.1 ≤ 6 := by rw [v3]; exact hk6
  have t1 : u.1.2.2.2.2.2 = x.2.2.2.2.1.1 := hR.2.2.1
  have hl60 : x.2.2.2.2.1.1 ≤ 60 := hR.2.2.2.1
  have t3 : ∀ k, k < x.2.2.2.2.1.1 → x.2.2.2.2.1.2 k = u.1.2.2.2.2.1 k := hR.2.2.2.2
  have hln : u.1.2.2.2.2.2 ≤ 60 := by rw [t1]; exact hl60
  have hfl : l.stackTraces = false := by obtain ⟨_, _, _, _, _, _, _, _, h, _⟩ := C; exact h
  by_cases q1 : isN (xs (i + 1)) 11 = true
  · obtain ⟨w, hw, ew⟩ := isN_t (by omega) q1
    rw [ew] at q1
    exact lo_count C hi hc ew (fun sz => l_L_count_0 l G a sa b o x u f w sz hn1 hn hv hw) (fun x' f' sz => l_X6_count_0 l G a sa b o x' u f' w x.1.1 sz hok hw) ⟨rfl, rfl, by decide +kernel⟩ ⟨rfl, rfl, by decide +kernel⟩ (by decide) (fun k9 v9 b9 w9 h1 h2 => by obtain rfl : k9 = 0 := h1; exact ⟨rfl, fun _ => up0 ((an_ct2 hR.1.2 v3 hw).trans (Eq.symm h2)), hR.1, hR.2.1, hR.2.2⟩) kk hP hD hS hl
  · have q1 := eq_false_of_ne_true q1
    exact lo_count C hi hc rfl (fun sz => l_L_count_t1 l G a sa b o x u f (xs (i + 1)) sz hfl q1) (fun x' f' sz => l_X6_count_1 l G a sa b o x' u f' (xs (i + 1)) sz q1) ⟨rfl, rfl, by decide +kernel⟩ ⟨rfl, rfl, by decide +kernel⟩ (by decide) (fun k9 v9 b9 w9 h1 h2 => by obtain rfl : k9 = 1 := h1; exact ⟨rfl, fun q => absurd q (by decide), hR.1, hR.2.1, hR.2.2⟩) kk hP hD hS hl
set_option maxHeartbeats 4000000 in
set_option maxRecDepth 100000 in
theorem lp_setting {p : Program} {l : Launch} {e : Env} {s : State} {m : MethodId} {args : Array Value} {below : List Frame} {meth : Method} {c : Code} {H : Heap} {locs : List Loc} {cells slots : Nat} {Q : State → Prop} {ls : Array Slot} {A : Nat → Prop} {G : kG} {a : Nat → Nat} {sa : Nat → Nat → Nat} {b : Nat → Nat} {o sb L i : Nat} {xs : Nat → Int32} {x : XS} {u : MS} {f : FnL} (C : lwC p l s m args c A G sb L xs) (hi : i + 3 ≤ L) (hc : cells + 1 ≤ room_1.cells ∧ slots + 6 ≤ room_1.slots) (hR : Rel x u)
    (kk : lwK p l e s m args below meth c A G a sa b o sb i (cells + 1) (slots + 6) Q) (hP : va_P G.1 vwCl (wL G a sa b o x u f) H) (hD : va_D A (wL G a sa b o x u f)) (hS : va_S A s.heap H locs) (hl : lv_has ls 9 [(4, .int (nI i)), (0, .ref sb), (1, .ref (a 0)), (2, .ref (b 0)), (3, .ref o)]) : W p l e room_1 s m args below meth c H locs cells slots Q (F0 m 1047 ls []) := by
  have hok := hR.1.1
  have hn1 : 1 ≤ x.1.1 := hok.2.1
  have hn : x.1.1 ≤ 20 := hok.2.2.1
  have hv := okP_cV hR.1
  have ho : x.2.2.2.1.2.1 < 6 := hR.2.1.1
  have hk6 : x.2.2.2.1.2.2 ≤ 6 := hR.2.1.2.1
  have v3 : u.1.2.2.2.1 = x.2.2.2.1.2.2 := hR.2.1.2.2.1
  have hsm : u.1.2.2.2.1 ≤ 6 := by rw [v3]; exact hk6
  have t1 : u.1.2.2.2.2.2 = x.2.2.2.2.1.1 := hR.2.2.1
  have hl60 : x.2.2.2.2.1.1 ≤ 60 := hR.2.2.2.1
  have t3 : ∀ k, k < x.2.2.2.2.1.1 → x.2.2.2.2.1.2 k = u.1.2.2.2.2.1 k := hR.2.2.2.2
  have hln : u.1.2.2.2.2.2 ≤ 60 := by rw [t1]; exact hl60
  have hfl : l.stackTraces = false := by obtain ⟨_, _, _, _, _, _, _, _, h, _⟩ := C; exact h
  by_cases q1 : isN (xs (i + 1)) 4 = true
  · obtain ⟨j, hj, ej⟩ := isN_t (by omega) q1
    rw [ej] at q1
    exact lo_setting C hi hc ej (fun sz => l_L_setting_0 l G a sa b o x u f j sz hj) (fun x' f' sz => l_X6_setting_0 l G a sa b o x' u f' j sz hj) ⟨rfl, rfl, by decide +kernel⟩ ⟨rfl, rfl, by decide +kernel⟩ (by decide) (fun k9 v9 b9 w9 h1 h2 => by obtain rfl : k9 = 0 := h1; exact ⟨rfl, fun _ => up0 ((congrArg (fun z => z + 100) (hR.1.2.2.2 j hj)).trans (Eq.symm h2)), hR.1, hR.2.1, hR.2.2⟩) kk hP hD hS hl
  · have q1 := eq_false_of_ne_true q1
    exact lo_setting C hi hc rfl (fun sz => l_L_setting_t1 l G a sa b o x u f (xs (i + 1)) sz hfl q1) (fun x' f' sz => l_X6_setting_1 l G a sa b o x' u f' (xs (i + 1)) sz q1) ⟨rfl, rfl, by decide +kernel⟩ ⟨rfl, rfl, by decide +kernel⟩ (by decide) (fun k9 v9 b9 w9 h1 h2 => by obtain rfl : k9 = 1 := h1; exact ⟨rfl, fun q => absurd q (by decide), hR.1, hR.2.1, hR.2.2⟩) kk hP hD hS hl
set_option maxHeartbeats 4000000 in
set_option maxRecDepth 100000 in
theorem lp_ifWeight {p : Program} {l : Launch} {e : Env} {s : State} {m : MethodId} {args : Array Value} {below : List Frame} {meth : Method} {c : Code} {H : Heap} {locs : List Loc} {cells slots : Nat} {Q : State → Prop} {ls : Array Slot} {A : Nat → Prop} {G : kG} {a : Nat → Nat} {sa : Nat → Nat → Nat} {b : Nat → Nat} {o sb L i : Nat} {xs : Nat → Int32} {x : XS} {u : MS} {f : FnL} (C : lwC p l s m args c A G sb L xs) (hi : i + 3 ≤ L) (hc : cells + 1 ≤ room_1.cells ∧ slots + 6 ≤ room_1.slots) (hR : Rel x u)
    (kk : lwK p l e s m args below meth c A G a sa b o sb i (cells + 1) (slots + 6) Q) (hP : va_P G.1 vwCl (wL G a sa b o x u f) H) (hD : va_D A (wL G a sa b o x u f)) (hS : va_S A s.heap H locs) (hl : lv_has ls 9 [(4, .int (nI i)), (0, .ref sb), (1, .ref (a 0)), (2, .ref (b 0)), (3, .ref o)]) : W p l e room_1 s m args below meth c H locs cells slots Q (F0 m 1103 ls []) := by
  have hok := hR.1.1
  have hn1 : 1 ≤ x.1.1 := hok.2.1
  have hn : x.1.1 ≤ 20 := hok.2.2.1
  have hv := okP_cV hR.1
  have ho : x.2.2.2.1.2.1 < 6 := hR.2.1.1
  have hk6 : x.2.2.2.1.2.2 ≤ 6 := hR.2.1.2.1
  have v3 : u.1.2.2.2.1 = x.2.2.2.1.2.2 := hR.2.1.2.2.1
  have hsm : u.1.2.2.2.1 ≤ 6 := by rw [v3]; exact hk6
  have t1 : u.1.2.2.2.2.2 = x.2.2.2.2.1.1 := hR.2.2.1
  have hl60 : x.2.2.2.2.1.1 ≤ 60 := hR.2.2.2.1
  have t3 : ∀ k, k < x.2.2.2.2.1.1 → x.2.2.2.2.1.2 k = u.1.2.2.2.2.1 k := hR.2.2.2.2
  have hln : u.1.2.2.2.2.2 ≤ 60 := by rw [t1]; exact hl60
  have hfl : l.stackTraces = false := by obtain ⟨_, _, _, _, _, _, _, _, h, _⟩ := C; exact h
  by_cases q1 : isN (xs (i + 1)) (x.1.1 + 1) = true
  · obtain ⟨j, hj, ej⟩ := isN_t (by omega) q1
    have hj := Nat.le_of_lt_succ hj
    rw [ej] at q1
    by_cases q2 : 0 ≤ (xs (i + 2)) ∧ (xs (i + 2)) ≤ 99
    · skip
      exact lo_ifWeight C hi hc ej rfl (fun sz => l_L_ifWeight_0 l G a sa b o x u f j (xs (i + 2)) sz hn1 hn hj q2) (fun x' f' sz => l_X6_ifWeight_0 l G a sa b o x' u f' j (xs (i + 2)) x.1.1 sz hok hj q2) ⟨rfl, rfl, by decide +kernel⟩ ⟨rfl, rfl, by decide +kernel⟩ (by decide) (fun k9 v9 b9 w9 h1 h2 => by obtain rfl : k9 = 0 := h1; exact ⟨rfl, fun _ => up0 ((an_we hR.1.2).trans (Eq.symm h2)), hR.1, hR.2.1, hR.2.2⟩) kk hP hD hS hl
    · skip
      exact lo_ifWeight C hi hc ej rfl (fun sz => l_L_ifWeight_t2 l G a sa b o x u f j (xs (i + 2)) sz hfl hn1 hn hj q2) (fun x' f' sz => l_X6_ifWeight_2 l G a sa b o x' u f' (nI j) (xs (i + 2)) x.1.1 sz hok q1 q2) ⟨rfl, rfl, by decide +kernel⟩ ⟨rfl, rfl, by decide +kernel⟩ (by decide) (fun k9 v9 b9 w9 h1 h2 => by obtain rfl : k9 = 2 := h1; exact ⟨rfl, fun q => absurd q (by decide), hR.1, hR.2.1, hR.2.2⟩) kk hP hD hS hl
  · have q1 := eq_false_of_ne_true q1
    exact lo_ifWeight C hi hc rfl rfl (fun sz => l_L_ifWeight_t1 l G a sa b o x u f (xs (i + 1)) (xs (i + 2)) sz hfl hn1 hn q1) (fun x' f' sz => l_X6_ifWeight_1 l G a sa b o x' u f' (xs (i + 1)) (xs (i + 2)) x.1.1 sz hok q1) ⟨rfl, rfl, by decide +kernel⟩ ⟨rfl, rfl, by decide +kernel⟩ (by decide) (fun k9 v9 b9 w9 h1 h2 => by obtain rfl : k9 = 1 := h1; exact ⟨rfl, fun q => absurd q (by decide), hR.1, hR.2.1, hR.2.2⟩) kk hP hD hS hl
set_option maxHeartbeats 4000000 in
set_option maxRecDepth 100000 in
theorem lp_mostWeight {p : Program} {l : Launch} {e : Env} {s : State} {m : MethodId} {args : Array Value} {below : List Frame} {meth : Method} {c : Code} {H : Heap} {locs : List Loc} {cells slots : Nat} {Q : State → Prop} {ls : Array Slot} {A : Nat → Prop} {G : kG} {a : Nat → Nat} {sa : Nat → Nat → Nat} {b : Nat → Nat} {o sb L i : Nat} {xs : Nat → Int32} {x : XS} {u : MS} {f : FnL} (C : lwC p l s m args c A G sb L xs) (hi : i + 3 ≤ L) (hc : cells + 1 ≤ room_1.cells ∧ slots + 6 ≤ room_1.slots) (hR : Rel x u)
    (kk : lwK p l e s m args below meth c A G a sa b o sb i (cells + 1) (slots + 6) Q) (hP : va_P G.1 vwCl (wL G a sa b o x u f) H) (hD : va_D A (wL G a sa b o x u f)) (hS : va_S A s.heap H locs) (hl : lv_has ls 9 [(4, .int (nI i)), (0, .ref sb), (1, .ref (a 0)), (2, .ref (b 0)), (3, .ref o)]) : W p l e room_1 s m args below meth c H locs cells slots Q (F0 m 1171 ls []) := by
  have hok := hR.1.1
  have hn1 : 1 ≤ x.1.1 := hok.2.1
  have hn : x.1.1 ≤ 20 := hok.2.2.1
  have hv := okP_cV hR.1
  have ho : x.2.2.2.1.2.1 < 6 := hR.2.1.1
  have hk6 : x.2.2.2.1.2.2 ≤ 6 := hR.2.1.2.1
  have v3 : u.1.2.2.2.1 = x.2.2.2.1.2.2 := hR.2.1.2.2.1
  have hsm : u.1.2.2.2.1 ≤ 6 := by rw [v3]; exact hk6
  have t1 : u.1.2.2.2.2.2 = x.2.2.2.2.1.1 := hR.2.2.1
  have hl60 : x.2.2.2.2.1.1 ≤ 60 := hR.2.2.2.1
  have t3 : ∀ k, k < x.2.2.2.2.1.1 → x.2.2.2.2.1.2 k = u.1.2.2.2.2.1 k := hR.2.2.2.2
  have hln : u.1.2.2.2.2.2 ≤ 60 := by rw [t1]; exact hl60
  have hfl : l.stackTraces = false := by obtain ⟨_, _, _, _, _, _, _, _, h, _⟩ := C; exact h
  by_cases q1 : isN (xs (i + 1)) (x.1.1 + 1) = true
  · obtain ⟨j, hj, ej⟩ := isN_t (by omega) q1
    have hj := Nat.le_of_lt_succ hj
    rw [ej] at q1
    exact lo_mostWeight C hi hc ej (fun sz => l_L_mostWeight_0 l G a sa b o x u f j sz hn1 hn hj) (fun x' f' sz => l_X6_mostWeight_0 l G a sa b o x' u f' j x.1.1 sz hok hj) ⟨rfl, rfl, by decide +kernel⟩ ⟨rfl, rfl, by decide +kernel⟩ (by decide) (fun k9 v9 b9 w9 h1 h2 => by obtain rfl : k9 = 0 := h1; exact ⟨rfl, fun _ => up0 ((an_hv hR.1.2).trans (Eq.symm h2)), hR.1, hR.2.1, hR.2.2⟩) kk hP hD hS hl
  · have q1 := eq_false_of_ne_true q1
    exact lo_mostWeight C hi hc rfl (fun sz => l_L_mostWeight_t1 l G a sa b o x u f (xs (i + 1)) sz hfl hn1 hn q1) (fun x' f' sz => l_X6_mostWeight_1 l G a sa b o x' u f' (xs (i + 1)) x.1.1 sz hok q1) ⟨rfl, rfl, by decide +kernel⟩ ⟨rfl, rfl, by decide +kernel⟩ (by decide) (fun k9 v9 b9 w9 h1 h2 => by obtain rfl : k9 = 1 := h1; exact ⟨rfl, fun q => absurd q (by decide), hR.1, hR.2.1, hR.2.2⟩) kk hP hD hS hl
set_option maxHeartbeats 4000000 in
set_option maxRecDepth 100000 in
theorem lp_bestMove {p : Program} {l : Launch} {e : Env} {s : State} {m : MethodId} {args : Array Value} {below : List Frame} {meth : Method} {c : Code} {H : Heap} {locs : List Loc} {cells slots : Nat} {Q : State → Prop} {ls : Array Slot} {A : Nat → Prop} {G : kG} {a : Nat → Nat} {sa : Nat → Nat → Nat} {b : Nat → Nat} {o sb L i : Nat} {xs : Nat → Int32} {x : XS} {u : MS} {f : FnL} (C : lwC p l s m args c A G sb L xs) (hi : i + 3 ≤ L) (hc : cells + 1 ≤ room_1.cells ∧ slots + 6 ≤ room_1.slots) (hR : Rel x u)
    (kk : lwK p l e s m args below meth c A G a sa b o sb i (cells + 1) (slots + 6) Q) (hP : va_P G.1 vwCl (wL G a sa b o x u f) H) (hD : va_D A (wL G a sa b o x u f)) (hS : va_S A s.heap H locs) (hl : lv_has ls 9 [(4, .int (nI i)), (0, .ref sb), (1, .ref (a 0)), (2, .ref (b 0)), (3, .ref o)]) : W p l e room_1 s m args below meth c H locs cells slots Q (F0 m 1227 ls []) := by
  have hok := hR.1.1
  have hn1 : 1 ≤ x.1.1 := hok.2.1
  have hn : x.1.1 ≤ 20 := hok.2.2.1
  have hv := okP_cV hR.1
  have ho : x.2.2.2.1.2.1 < 6 := hR.2.1.1
  have hk6 : x.2.2.2.1.2.2 ≤ 6 := hR.2.1.2.1
  have v3 : u.1.2.2.2.1 = x.2.2.2.1.2.2 := hR.2.1.2.2.1
  have hsm : u.1.2.2.2.1 ≤ 6 := by rw [v3]; exact hk6
  have t1 : u.1.2.2.2.2.2 = x.2.2.2.2.1.1 := hR.2.2.1
  have hl60 : x.2.2.2.2.1.1 ≤ 60 := hR.2.2.2.1
  have t3 : ∀ k, k < x.2.2.2.2.1.1 → x.2.2.2.2.1.2 k = u.1.2.2.2.2.1 k := hR.2.2.2.2
  have hln : u.1.2.2.2.2.2 ≤ 60 := by rw [t1]; exact hl60
  have hfl : l.stackTraces = false := by obtain ⟨_, _, _, _, _, _, _, _, h, _⟩ := C; exact h
  by_cases q1 : isN (xs (i + 1)) (x.1.1 + 1) = true
  · obtain ⟨j, hj, ej⟩ := isN_t (by omega) q1
    have hj := Nat.le_of_lt_succ hj
    rw [ej] at q1
    exact lo_bestMove C hi hc ej (fun sz => l_L_bestMove_0 l G a sa b o x u f j sz hn1 hn hj) (fun x' f' sz => l_X6_bestMove_0 l G a sa b o x' u f' j x.1.1 sz hok hj) ⟨rfl, rfl, by decide +kernel⟩ ⟨rfl, rfl, by decide +kernel⟩ (by decide) (fun k9 v9 b9 w9 h1 h2 => by obtain rfl : k9 = 0 := h1; exact ⟨rfl, fun _ => up0 ((an_to hR.1.2 hj).trans (Eq.symm h2)), hR.1, hR.2.1, hR.2.2⟩) kk hP hD hS hl
  · have q1 := eq_false_of_ne_true q1
    exact lo_bestMove C hi hc rfl (fun sz => l_L_bestMove_t1 l G a sa b o x u f (xs (i + 1)) sz hfl hn1 hn q1) (fun x' f' sz => l_X6_bestMove_1 l G a sa b o x' u f' (xs (i + 1)) x.1.1 sz hok q1) ⟨rfl, rfl, by decide +kernel⟩ ⟨rfl, rfl, by decide +kernel⟩ (by decide) (fun k9 v9 b9 w9 h1 h2 => by obtain rfl : k9 = 1 := h1; exact ⟨rfl, fun q => absurd q (by decide), hR.1, hR.2.1, hR.2.2⟩) kk hP hD hS hl
set_option maxHeartbeats 4000000 in
set_option maxRecDepth 100000 in
theorem lp_bestHanger {p : Program} {l : Launch} {e : Env} {s : State} {m : MethodId} {args : Array Value} {below : List Frame} {meth : Method} {c : Code} {H : Heap} {locs : List Loc} {cells slots : Nat} {Q : State → Prop} {ls : Array Slot} {A : Nat → Prop} {G : kG} {a : Nat → Nat} {sa : Nat → Nat → Nat} {b : Nat → Nat} {o sb L i : Nat} {xs : Nat → Int32} {x : XS} {u : MS} {f : FnL} (C : lwC p l s m args c A G sb L xs) (hi : i + 3 ≤ L) (hc : cells + 1 ≤ room_1.cells ∧ slots + 6 ≤ room_1.slots) (hR : Rel x u)
    (kk : lwK p l e s m args below meth c A G a sa b o sb i (cells + 1) (slots + 6) Q) (hP : va_P G.1 vwCl (wL G a sa b o x u f) H) (hD : va_D A (wL G a sa b o x u f)) (hS : va_S A s.heap H locs) (hl : lv_has ls 9 [(4, .int (nI i)), (0, .ref sb), (1, .ref (a 0)), (2, .ref (b 0)), (3, .ref o)]) : W p l e room_1 s m args below meth c H locs cells slots Q (F0 m 1283 ls []) := by
  have hok := hR.1.1
  have hn1 : 1 ≤ x.1.1 := hok.2.1
  have hn : x.1.1 ≤ 20 := hok.2.2.1
  have hv := okP_cV hR.1
  have ho : x.2.2.2.1.2.1 < 6 := hR.2.1.1
  have hk6 : x.2.2.2.1.2.2 ≤ 6 := hR.2.1.2.1
  have v3 : u.1.2.2.2.1 = x.2.2.2.1.2.2 := hR.2.1.2.2.1
  have hsm : u.1.2.2.2.1 ≤ 6 := by rw [v3]; exact hk6
  have t1 : u.1.2.2.2.2.2 = x.2.2.2.2.1.1 := hR.2.2.1
  have hl60 : x.2.2.2.2.1.1 ≤ 60 := hR.2.2.2.1
  have t3 : ∀ k, k < x.2.2.2.2.1.1 → x.2.2.2.2.1.2 k = u.1.2.2.2.2.1 k := hR.2.2.2.2
  have hln : u.1.2.2.2.2.2 ≤ 60 := by rw [t1]; exact hl60
  have hfl : l.stackTraces = false := by obtain ⟨_, _, _, _, _, _, _, _, h, _⟩ := C; exact h
  by_cases q1 : 0 ≤ (xs (i + 1)) ∧ (xs (i + 1)) ≤ 99
  · skip
    exact lo_bestHanger C hi hc rfl (fun sz => l_L_bestHanger_0 l G a sa b o x u f (xs (i + 1)) sz hn1 hn q1) (fun x' f' sz => l_X6_bestHanger_0 l G a sa b o x' u f' (xs (i + 1)) x.1.1 sz hok q1) ⟨rfl, rfl, by decide +kernel⟩ ⟨rfl, rfl, by decide +kernel⟩ (by decide) (fun k9 v9 b9 w9 h1 h2 => by obtain rfl : k9 = 0 := h1; exact ⟨rfl, fun _ => up0 ((an_sh hR.1.2).trans (Eq.symm h2)), hR.1, hR.2.1, hR.2.2⟩) kk hP hD hS hl
  · skip
    exact lo_bestHanger C hi hc rfl (fun sz => l_L_bestHanger_t1 l G a sa b o x u f (xs (i + 1)) sz hfl q1) (fun x' f' sz => l_X6_bestHanger_1 l G a sa b o x' u f' (xs (i + 1)) sz q1) ⟨rfl, rfl, by decide +kernel⟩ ⟨rfl, rfl, by decide +kernel⟩ (by decide) (fun k9 v9 b9 w9 h1 h2 => by obtain rfl : k9 = 1 := h1; exact ⟨rfl, fun q => absurd q (by decide), hR.1, hR.2.1, hR.2.2⟩) kk hP hD hS hl
set_option maxHeartbeats 4000000 in
set_option maxRecDepth 100000 in
theorem lp_bestStep {p : Program} {l : Launch} {e : Env} {s : State} {m : MethodId} {args : Array Value} {below : List Frame} {meth : Method} {c : Code} {H : Heap} {locs : List Loc} {cells slots : Nat} {Q : State → Prop} {ls : Array Slot} {A : Nat → Prop} {G : kG} {a : Nat → Nat} {sa : Nat → Nat → Nat} {b : Nat → Nat} {o sb L i : Nat} {xs : Nat → Int32} {x : XS} {u : MS} {f : FnL} (C : lwC p l s m args c A G sb L xs) (hi : i + 3 ≤ L) (hc : cells + 1 ≤ room_1.cells ∧ slots + 6 ≤ room_1.slots) (hR : Rel x u)
    (kk : lwK p l e s m args below meth c A G a sa b o sb i (cells + 1) (slots + 6) Q) (hP : va_P G.1 vwCl (wL G a sa b o x u f) H) (hD : va_D A (wL G a sa b o x u f)) (hS : va_S A s.heap H locs) (hl : lv_has ls 9 [(4, .int (nI i)), (0, .ref sb), (1, .ref (a 0)), (2, .ref (b 0)), (3, .ref o)]) : W p l e room_1 s m args below meth c H locs cells slots Q (F0 m 1339 ls []) := by
  have hok := hR.1.1
  have hn1 : 1 ≤ x.1.1 := hok.2.1
  have hn : x.1.1 ≤ 20 := hok.2.2.1
  have hv := okP_cV hR.1
  have ho : x.2.2.2.1.2.1 < 6 := hR.2.1.1
  have hk6 : x.2.2.2.1.2.2 ≤ 6 := hR.2.1.2.1
  have v3 : u.1.2.2.2.1 = x.2.2.2.1.2.2 := hR.2.1.2.2.1
  have hsm : u.1.2.2.2.1 ≤ 6 := by rw [v3]; exact hk6
  have t1 : u.1.2.2.2.2.2 = x.2.2.2.2.1.1 := hR.2.2.1
  have hl60 : x.2.2.2.2.1.1 ≤ 60 := hR.2.2.2.1
  have t3 : ∀ k, k < x.2.2.2.2.1.1 → x.2.2.2.2.1.2 k = u.1.2.2.2.2.1 k := hR.2.2.2.2
  have hln : u.1.2.2.2.2.2 ≤ 60 := by rw [t1]; exact hl60
  have hfl : l.stackTraces = false := by obtain ⟨_, _, _, _, _, _, _, _, h, _⟩ := C; exact h
  by_cases q1 : isN (xs (i + 1)) x.1.1 = true
  · obtain ⟨j, hj, ej⟩ := isN_t (by omega) q1
    rw [ej] at q1
    exact lo_bestStep C hi hc ej (fun sz => l_L_bestStep_0 l G a sa b o x u f j sz hn1 hn hj) (fun x' f' sz => l_X6_bestStep_0 l G a sa b o x' u f' j x.1.1 sz hok hj) ⟨rfl, rfl, by decide +kernel⟩ ⟨rfl, rfl, by decide +kernel⟩ (by decide) (fun k9 v9 b9 w9 h1 h2 => by obtain rfl : k9 = 0 := h1; exact ⟨rfl, fun _ => up0 ((an_sp hR.1.2).trans (Eq.symm h2)), hR.1, hR.2.1, hR.2.2⟩) kk hP hD hS hl
  · have q1 := eq_false_of_ne_true q1
    exact lo_bestStep C hi hc rfl (fun sz => l_L_bestStep_t1 l G a sa b o x u f (xs (i + 1)) sz hfl hn1 hn q1) (fun x' f' sz => l_X6_bestStep_1 l G a sa b o x' u f' (xs (i + 1)) x.1.1 sz hok q1) ⟨rfl, rfl, by decide +kernel⟩ ⟨rfl, rfl, by decide +kernel⟩ (by decide) (fun k9 v9 b9 w9 h1 h2 => by obtain rfl : k9 = 1 := h1; exact ⟨rfl, fun q => absurd q (by decide), hR.1, hR.2.1, hR.2.2⟩) kk hP hD hS hl
set_option maxHeartbeats 4000000 in
set_option maxRecDepth 100000 in
theorem lp_evenness {p : Program} {l : Launch} {e : Env} {s : State} {m : MethodId} {args : Array Value} {below : List Frame} {meth : Method} {c : Code} {H : Heap} {locs : List Loc} {cells slots : Nat} {Q : State → Prop} {ls : Array Slot} {A : Nat → Prop} {G : kG} {a : Nat → Nat} {sa : Nat → Nat → Nat} {b : Nat → Nat} {o sb L i : Nat} {xs : Nat → Int32} {x : XS} {u : MS} {f : FnL} (C : lwC p l s m args c A G sb L xs) (hi : i + 3 ≤ L) (hc : cells + 1 ≤ room_1.cells ∧ slots + 6 ≤ room_1.slots) (hR : Rel x u)
    (kk : lwK p l e s m args below meth c A G a sa b o sb i (cells + 1) (slots + 6) Q) (hP : va_P G.1 vwCl (wL G a sa b o x u f) H) (hD : va_D A (wL G a sa b o x u f)) (hS : va_S A s.heap H locs) (hl : lv_has ls 9 [(4, .int (nI i)), (0, .ref sb), (1, .ref (a 0)), (2, .ref (b 0)), (3, .ref o)]) : W p l e room_1 s m args below meth c H locs cells slots Q (F0 m 1395 ls []) := by
  have hok := hR.1.1
  have hn1 : 1 ≤ x.1.1 := hok.2.1
  have hn : x.1.1 ≤ 20 := hok.2.2.1
  have hv := okP_cV hR.1
  have ho : x.2.2.2.1.2.1 < 6 := hR.2.1.1
  have hk6 : x.2.2.2.1.2.2 ≤ 6 := hR.2.1.2.1
  have v3 : u.1.2.2.2.1 = x.2.2.2.1.2.2 := hR.2.1.2.2.1
  have hsm : u.1.2.2.2.1 ≤ 6 := by rw [v3]; exact hk6
  have t1 : u.1.2.2.2.2.2 = x.2.2.2.2.1.1 := hR.2.2.1
  have hl60 : x.2.2.2.2.1.1 ≤ 60 := hR.2.2.2.1
  have t3 : ∀ k, k < x.2.2.2.2.1.1 → x.2.2.2.2.1.2 k = u.1.2.2.2.2.1 k := hR.2.2.2.2
  have hln : u.1.2.2.2.2.2 ≤ 60 := by rw [t1]; exact hl60
  have hfl : l.stackTraces = false := by obtain ⟨_, _, _, _, _, _, _, _, h, _⟩ := C; exact h
  obtain ⟨ke, hev⟩ := walls_ex hn1 hn hv
  exact lo_evenness C hi hc  (fun sz => l_X5_evenness_0 l G a sa b o x u f ke sz hn1 hn hev) (fun x' f' sz => l_X6_evenness l G a sa b o x' u f' x.1.1 ke sz hok (ev_c hR.1.2 hev)) ⟨rfl, rfl, by decide +kernel⟩ ⟨rfl, rfl, by decide +kernel⟩ (by decide) (fun k9 v9 b9 w9 h1 h2 => by obtain rfl : k9 = _ := h1; exact ⟨⟨(an_ev hR.1.2).trans (Eq.symm h2), walls_self hn1 hn hv⟩, hR.1, hR.2.1, hR.2.2⟩) kk hP hD hS hl
set_option maxHeartbeats 4000000 in
set_option maxRecDepth 100000 in
theorem lp_digest {p : Program} {l : Launch} {e : Env} {s : State} {m : MethodId} {args : Array Value} {below : List Frame} {meth : Method} {c : Code} {H : Heap} {locs : List Loc} {cells slots : Nat} {Q : State → Prop} {ls : Array Slot} {A : Nat → Prop} {G : kG} {a : Nat → Nat} {sa : Nat → Nat → Nat} {b : Nat → Nat} {o sb L i : Nat} {xs : Nat → Int32} {x : XS} {u : MS} {f : FnL} (C : lwC p l s m args c A G sb L xs) (hi : i + 3 ≤ L) (hc : cells + 1 ≤ room_1.cells ∧ slots + 6 ≤ room_1.slots) (hR : Rel x u)
    (kk : lwK p l e s m args below meth c A G a sa b o sb i (cells + 1) (slots + 6) Q) (hP : va_P G.1 vwCl (wL G a sa b o x u f) H) (hD : va_D A (wL G a sa b o x u f)) (hS : va_S A s.heap H locs) (hl : lv_has ls 9 [(4, .int (nI i)), (0, .ref sb), (1, .ref (a 0)), (2, .ref (b 0)), (3, .ref o)]) : W p l e room_1 s m args below meth c H locs cells slots Q (F0 m 1436 ls []) := by
  have hok := hR.1.1
  have hn1 : 1 ≤ x.1.1 := hok.2.1
  have hn : x.1.1 ≤ 20 := hok.2.2.1
  have hv := okP_cV hR.1
  have ho : x.2.2.2.1.2.1 < 6 := hR.2.1.1
  have hk6 : x.2.2.2.1.2.2 ≤ 6 := hR.2.1.2.1
  have v3 : u.1.2.2.2.1 = x.2.2.2.1.2.2 := hR.2.1.2.2.1
  have hsm : u.1.2.2.2.1 ≤ 6 := by rw [v3]; exact hk6
  have t1 : u.1.2.2.2.2.2 = x.2.2.2.2.1.1 := hR.2.2.1
  have hl60 : x.2.2.2.2.1.1 ≤ 60 := hR.2.2.2.1
  have t3 : ∀ k, k < x.2.2.2.2.1.1 → x.2.2.2.2.1.2 k = u.1.2.2.2.2.1 k := hR.2.2.2.2
  have hln : u.1.2.2.2.2.2 ≤ 60 := by rw [t1]; exact hl60
  have hfl : l.stackTraces = false := by obtain ⟨_, _, _, _, _, _, _, _, h, _⟩ := C; exact h
  obtain ⟨ke, hev⟩ := walls_ex hn1 hn hv
  exact lo_digest C hi hc  (fun sz => l_X5_digest_0 l G a sa b o x u f ke sz hn1 hn hv hl60 hev) (fun x' f' sz => l_X6_digest l G a sa b o x' u f' x.1.1 ke sz hok (ev_c hR.1.2 hev) hln) ⟨rfl, rfl, by decide +kernel⟩ ⟨rfl, rfl, by decide +kernel⟩ (by decide) (fun k9 v9 b9 w9 h1 h2 => by have h1 : k9 = _ := h1; exact ⟨h1.trans ((an_dg2 hR.1.2 v3 t1 t3).trans (Eq.symm h2)), hR.1, hR.2.1, hR.2.2⟩) kk hP hD hS hl
