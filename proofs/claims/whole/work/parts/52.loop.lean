/-! # the law's loop -/
set_option maxHeartbeats 4000000 in
set_option maxRecDepth 100000 in
theorem law_case {p : Program} {l : Launch} {e : Env} {s : State} {m : MethodId} {args : Array Value} {below : List Frame} {meth : Method} {c : Code} {A : Nat → Prop} {G : kG} {a : Nat → Nat} {sa : Nat → Nat → Nat} {b : Nat → Nat} {o sb L : Nat} {xs : Nat → Int32} {Q : State → Prop} {H : Heap} {locs : List Loc} {cells slots i : Nat} {ls : Array Slot} {x : XS} {u : MS} {f : FnL} (C : lwC p l s m args c A G sb L xs) (hi : i + 3 ≤ L) (hc : cells + 1 ≤ room_1.cells ∧ slots + 6 ≤ room_1.slots) (hR : Rel x u)
    (kk : lwK p l e s m args below meth c A G a sa b o sb i (cells + 1) (slots + 6) Q) (hP : va_P G.1 vwCl (wL G a sa b o x u f) H) (hD : va_D A (wL G a sa b o x u f)) (hS : va_S A s.heap H locs) (hl : lv_has ls 9 [(4, .int (nI i)), (0, .ref sb), (1, .ref (a 0)), (2, .ref (b 0)), (3, .ref o)]) {k : Nat} (hk : k < 32) : W p l e room_1 s m args below meth c H locs cells slots Q (F0 m 39 ls [.int (nI k)]) := by
  have hx : p.tables.exec = Jvm.exec := by obtain ⟨h, _⟩ := C; exact h
  have hb : c.code = cL_law := by obtain ⟨_, h, _⟩ := C; exact h
  by_cases e0 : k = 0
  · subst e0
    refine lv_tableIn (x := nI 0) (off := 113) (tgt := 152) hx hb dL_law_39 (by decide) (by decide) rfl (by decide) ?_
    exact lp_link C hi hc hR kk hP hD hS hl
  by_cases e1 : k = 1
  · subst e1
    refine lv_tableIn (x := nI 1) (off := 169) (tgt := 208) hx hb dL_law_39 (by decide) (by decide) rfl (by decide) ?_
    exact lp_cut C hi hc hR kk hP hD hS hl
  by_cases e2 : k = 2
  · subst e2
    refine lv_tableIn (x := nI 2) (off := 225) (tgt := 264) hx hb dL_law_39 (by decide) (by decide) rfl (by decide) ?_
    exact lp_bend C hi hc hR kk hP hD hS hl
  by_cases e3 : k = 3
  · subst e3
    refine lv_tableIn (x := nI 3) (off := 293) (tgt := 332) hx hb dL_law_39 (by decide) (by decide) rfl (by decide) ?_
    exact lp_turn C hi hc hR kk hP hD hS hl
  by_cases e4 : k = 4
  · subst e4
    refine lv_tableIn (x := nI 4) (off := 306) (tgt := 345) hx hb dL_law_39 (by decide) (by decide) rfl (by decide) ?_
    exact lp_weight C hi hc hR kk hP hD hS hl
  by_cases e5 : k = 5
  · subst e5
    refine lv_tableIn (x := nI 5) (off := 374) (tgt := 413) hx hb dL_law_39 (by decide) (by decide) rfl (by decide) ?_
    exact lp_hanger C hi hc hR kk hP hD hS hl
  by_cases e6 : k = 6
  · subst e6
    refine lv_tableIn (x := nI 6) (off := 442) (tgt := 481) hx hb dL_law_39 (by decide) (by decide) rfl (by decide) ?_
    exact lp_prop C hi hc hR kk hP hD hS hl
  by_cases e7 : k = 7
  · subst e7
    refine lv_tableIn (x := nI 7) (off := 510) (tgt := 549) hx hb dL_law_39 (by decide) (by decide) rfl (by decide) ?_
    exact lp_move C hi hc hR kk hP hD hS hl
  by_cases e8 : k = 8
  · subst e8
    refine lv_tableIn (x := nI 8) (off := 578) (tgt := 617) hx hb dL_law_39 (by decide) (by decide) rfl (by decide) ?_
    exact lp_set C hi hc hR kk hP hD hS hl
  by_cases e9 : k = 9
  · subst e9
    refine lv_tableIn (x := nI 9) (off := 646) (tgt := 685) hx hb dL_law_39 (by decide) (by decide) rfl (by decide) ?_
    exact lp_append C hi hc hR kk hP hD hS hl
  by_cases e10 : k = 10
  · subst e10
    refine lv_tableIn (x := nI 10) (off := 702) (tgt := 741) hx hb dL_law_39 (by decide) (by decide) rfl (by decide) ?_
    exact lp_clearBuffer C hi hc hR kk hP hD hS hl
  by_cases e11 : k = 11
  · subst e11
    refine lv_tableIn (x := nI 11) (off := 715) (tgt := 754) hx hb dL_law_39 (by decide) (by decide) rfl (by decide) ?_
    exact lp_firstError C hi hc hR kk hP hD hS hl
  by_cases e12 : k = 12
  · subst e12
    refine lv_tableIn (x := nI 12) (off := 728) (tgt := 767) hx hb dL_law_39 (by decide) (by decide) rfl (by decide) ?_
    exact lp_shape C hi hc hR kk hP hD hS hl
  by_cases e13 : k = 13
  · subst e13
    refine lv_tableIn (x := nI 13) (off := 772) (tgt := 811) hx hb dL_law_39 (by decide) (by decide) rfl (by decide) ?_
    exact lp_undo C hi hc hR kk hP hD hS hl
  by_cases e14 : k = 14
  · subst e14
    refine lv_tableIn (x := nI 14) (off := 816) (tgt := 855) hx hb dL_law_39 (by decide) (by decide) rfl (by decide) ?_
    exact lp_linkOf C hi hc hR kk hP hD hS hl
  by_cases e15 : k = 15
  · subst e15
    refine lv_tableIn (x := nI 15) (off := 884) (tgt := 923) hx hb dL_law_39 (by decide) (by decide) rfl (by decide) ?_
    exact lp_joint C hi hc hR kk hP hD hS hl
  by_cases e16 : k = 16
  · subst e16
    refine lv_tableIn (x := nI 16) (off := 952) (tgt := 991) hx hb dL_law_39 (by decide) (by decide) rfl (by decide) ?_
    exact lp_count C hi hc hR kk hP hD hS hl
  by_cases e17 : k = 17
  · subst e17
    refine lv_tableIn (x := nI 17) (off := 1008) (tgt := 1047) hx hb dL_law_39 (by decide) (by decide) rfl (by decide) ?_
    exact lp_setting C hi hc hR kk hP hD hS hl
  by_cases e18 : k = 18
  · subst e18
    refine lv_tableIn (x := nI 18) (off := 1064) (tgt := 1103) hx hb dL_law_39 (by decide) (by decide) rfl (by decide) ?_
    exact lp_ifWeight C hi hc hR kk hP hD hS hl
  by_cases e19 : k = 19
  · subst e19
    refine lv_tableIn (x := nI 19) (off := 1132) (tgt := 1171) hx hb dL_law_39 (by decide) (by decide) rfl (by decide) ?_
    exact lp_mostWeight C hi hc hR kk hP hD hS hl
  by_cases e20 : k = 20
  · subst e20
    refine lv_tableIn (x := nI 20) (off := 1188) (tgt := 1227) hx hb dL_law_39 (by decide) (by decide) rfl (by decide) ?_
    exact lp_bestMove C hi hc hR kk hP hD hS hl
  by_cases e21 : k = 21
  · subst e21
    refine lv_tableIn (x := nI 21) (off := 1244) (tgt := 1283) hx hb dL_law_39 (by decide) (by decide) rfl (by decide) ?_
    exact lp_bestHanger C hi hc hR kk hP hD hS hl
  by_cases e22 : k = 22
  · subst e22
    refine lv_tableIn (x := nI 22) (off := 1300) (tgt := 1339) hx hb dL_law_39 (by decide) (by decide) rfl (by decide) ?_
    exact lp_bestStep C hi hc hR kk hP hD hS hl
  by_cases e23 : k = 23
  · subst e23
    refine lv_tableIn (x := nI 23) (off := 1356) (tgt := 1395) hx hb dL_law_39 (by decide) (by decide) rfl (by decide) ?_
    exact lp_evenness C hi hc hR kk hP hD hS hl
  by_cases e24 : k = 24
  · subst e24
    refine lv_tableIn (x := nI 24) (off := 1397) (tgt := 1436) hx hb dL_law_39 (by decide) (by decide) rfl (by decide) ?_
    exact lp_digest C hi hc hR kk hP hD hS hl
  refine lv_tableOut (x := nI k) (tgt := 1450) hx hb dL_law_39 (Or.inr (by rw [nI_toInt (by omega)]; omega)) (by decide) ?_
  refine W.widen (k := cells + 1) (n := slots + 6) (by omega) (by omega) ?_
  exact kk x u f H locs ls hR hP hD hS hl
set_option maxHeartbeats 4000000 in
set_option maxRecDepth 100000 in
theorem law_test {p : Program} {l : Launch} {e : Env} {s : State} {m : MethodId} {args : Array Value} {below : List Frame} {meth : Method} {c : Code} {A : Nat → Prop} {G : kG} {a : Nat → Nat} {sa : Nat → Nat → Nat} {b : Nat → Nat} {o sb L : Nat} {xs : Nat → Int32} {Q : State → Prop} {H : Heap} {locs : List Loc} {cells slots i : Nat} {ls : Array Slot} (C : lwC p l s m args c A G sb L xs) (hi : i ≤ L) (hS : va_S A s.heap H locs) (hl : lv_has ls 9 [(4, .int (nI i)), (0, .ref sb), (1, .ref (a 0)), (2, .ref (b 0)), (3, .ref o)])
    (kt : W p l e room_1 s m args below meth c H locs cells slots Q (F0 m 1456 ls [])) (kf : i + 3 ≤ L → W p l e room_1 s m args below meth c H locs cells slots Q (F0 m 32 ls [])) : W p l e room_1 s m args below meth c H locs cells slots Q (F0 m 23 ls []) := by
  obtain ⟨hx, hb, hml, hown, hts, hXs, hbl, hbA, hfl, hX0, hN, hA, hK, hL⟩ := C
  refine lv_iload hx hb dL_law_23 (lv_at hl 0 rfl) ?_
  refine lv_aload_n hx hb dL_law_25 rfl (lv_at hl 1 rfl) ?_
  refine va_slen hx hb hXs hbl hbA hS dL_law_26 ?_
  refine lv_iconst (v := 3) hx hb dL_law_27 (by decide) ?_
  refine lv_isub hx hb dL_law_28 ?_
  refine lv_icmp_gt (tgt := 1456) hx hb dL_law_29 (by decide) (fun _ => kt) (fun c_1 => kf ?_)
  have h1 : ¬ (nI L - nI 3 < nI i) := c_1
  rw [Int32.lt_iff_toInt_lt, pk_sub_toInt (by omega) (by omega), nI_toInt (by omega)] at h1
  omega
set_option maxHeartbeats 4000000 in
set_option maxRecDepth 100000 in
theorem law_step {p : Program} {l : Launch} {e : Env} {s : State} {m : MethodId} {args : Array Value} {below : List Frame} {meth : Method} {c : Code} {A : Nat → Prop} {G : kG} {a : Nat → Nat} {sa : Nat → Nat → Nat} {b : Nat → Nat} {o sb L : Nat} {xs : Nat → Int32} {Q : State → Prop} {H : Heap} {locs : List Loc} {cells slots i : Nat} {ls : Array Slot} {x : XS} {u : MS} {f : FnL} (C : lwC p l s m args c A G sb L xs) (hi : i + 3 ≤ L) (hc : cells + 1 ≤ room_1.cells ∧ slots + 6 ≤ room_1.slots) (hR : Rel x u)
    (kk : lwK p l e s m args below meth c A G a sa b o sb i (cells + 1) (slots + 6) Q) (hP : va_P G.1 vwCl (wL G a sa b o x u f) H) (hD : va_D A (wL G a sa b o x u f)) (hS : va_S A s.heap H locs) (hl : lv_has ls 9 [(4, .int (nI i)), (0, .ref sb), (1, .ref (a 0)), (2, .ref (b 0)), (3, .ref o)]) : W p l e room_1 s m args below meth c H locs cells slots Q (F0 m 32 ls []) := by
  have C0 := C
  obtain ⟨hx, hb, hml, hown, hts, hXs, hbl, hbA, hfl, hX0, hN, hA, hK, hL⟩ := C
  refine lv_aload_n hx hb dL_law_32 rfl (lv_at hl 1 rfl) ?_
  refine lv_iload hx hb dL_law_33 (lv_at hl 0 rfl) ?_
  refine g_sld hx hb hXs hbl hbA hS (k := i) (by omega) hL dL_law_35 ?_
  refine lv_bipush (v := 31) hx hb dL_law_36 (by decide) ?_
  refine lv_iand hx hb dL_law_38 ?_
  obtain ⟨k, hk, ek⟩ := and31 (xs i)
  refine g_ti ek ?_
  exact law_case C0 hi hc hR kk hP hD hS hl hk
set_option maxHeartbeats 4000000 in
set_option maxRecDepth 100000 in
theorem law_loop {p : Program} {l : Launch} {e : Env} {s : State} {m : MethodId} {args : Array Value} {below : List Frame} {meth : Method} {c : Code} {A : Nat → Prop} {G : kG} {a : Nat → Nat} {sa : Nat → Nat → Nat} {b : Nat → Nat} {o sb L : Nat} {xs : Nat → Int32} {Q : State → Prop} (C : lwC p l s m args c A G sb L xs)
    (hend : ∀ (H : Heap) (locs : List Loc) (ls : Array Slot), va_S A s.heap H locs → W p l e room_1 s m args below meth c H locs 634 4939 Q (F0 m 1456 ls [])) :
    ∀ (k i t : Nat) (x : XS) (u : MS) (f : FnL) (H : Heap) (locs : List Loc) (ls : Array Slot), L - i ≤ k → i = 3 * t → i ≤ L → Rel x u → va_P G.1 vwCl (wL G a sa b o x u f) H → va_D A (wL G a sa b o x u f) → va_S A s.heap H locs → lv_has ls 9 [(4, .int (nI i)), (0, .ref sb), (1, .ref (a 0)), (2, .ref (b 0)), (3, .ref o)] →
      W p l e room_1 s m args below meth c H locs (122 + t) (1867 + 6 * t) Q (F0 m 23 ls []) := by
  have hL : L ≤ 1536 := by obtain ⟨_, _, _, _, _, _, _, _, _, _, _, _, _, h⟩ := C; exact h
  have hx : p.tables.exec = Jvm.exec := by obtain ⟨h, _⟩ := C; exact h
  have hb : c.code = cL_law := by obtain ⟨_, h, _⟩ := C; exact h
  intro k
  induction k with
  | zero =>
    intro i t x u f H locs ls hk ht hi hR hP hD hS hl
    refine law_test (sa := sa) C hi hS hl ?_ (fun h => absurd h (by omega))
    refine W.widen (k := 634) (n := 4939) (by omega) (by omega) ?_
    exact hend H locs ls hS
  | succ k ih =>
    intro i t x u f H locs ls hk ht hi hR hP hD hS hl
    refine law_test (sa := sa) C hi hS hl ?_ (fun h3 => ?_)
    · refine W.widen (k := 634) (n := 4939) (by omega) (by omega) ?_
      exact hend H locs ls hS
    · refine law_step C h3 (by
        show 122 + t + 1 ≤ 601024 ∧ 1867 + 6 * t + 6 ≤ 7293034
        omega) hR (fun x u f H locs ls hR hP hD hS hl => ?_) hP hD hS hl
      refine lv_iinc (v := nI (i + 3)) (lv' := [(4, .int (nI (i + 3))), (0, .ref sb), (1, .ref (a 0)), (2, .ref (b 0)), (3, .ref o)]) hx hb dL_law_1450 hl (k := 0) rfl (nI_add i 3) (by decide) rfl (fun ls hl => ?_)
      refine lv_goto (tgt := 23) hx hb dL_law_1453 (by decide) ?_
      refine W.widen (k := 122 + (t + 1)) (n := 1867 + 6 * (t + 1)) (by omega) (by omega) ?_
      exact ih (i + 3) (t + 1) x u f H locs ls (by omega) (by omega) h3 hR hP hD hS hl
