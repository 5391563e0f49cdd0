/-! # the law's own: what it does (wip/p28/s50_law.py) -/
theorem set_1 {k : Nat} (h : k < 13) : sLow (nI 1) ≤ nI k - nI 6 ∧ nI k - nI 6 ≤ sHigh (nI 1) := by
  rcases (show k = 0 ∨ k = 1 ∨ k = 2 ∨ k = 3 ∨ k = 4 ∨ k = 5 ∨ k = 6 ∨ k = 7 ∨ k = 8 ∨ k = 9 ∨ k = 10 ∨ k = 11 ∨ k = 12 by omega) with e | e | e | e | e | e | e | e | e | e | e | e | e <;> subst e <;> exact ⟨by decide, by decide⟩
theorem set_3 {k : Nat} (h : k < 300) : sLow (nI 3) ≤ nI (1 + k) ∧ nI (1 + k) ≤ sHigh (nI 3) := ⟨nI_le (a := 1) (by omega) (by omega), nI_le (b := 999) (by omega) (by omega)⟩
theorem set_o {z k : Nat} (hz : z < 4) (h1 : z ≠ 1) (h3 : z ≠ 3) (h : k < 21) : sLow (nI z) ≤ nI k ∧ nI k ≤ sHigh (nI z) := by
  rcases (show z = 0 ∨ z = 2 by omega) with e | e <;> subst e <;> exact ⟨nI_le (a := 0) (by omega) (by omega), nI_le (b := 20) (by omega) (by omega)⟩
set_option maxHeartbeats 4000000 in
set_option maxRecDepth 100000 in
theorem c_L_does (l : Launch) (G : kG) (a : Nat → Nat) (sa : Nat → Nat → Nat) (C0 : CV) (P0 : PS) (y0 : YS) (v : Int32) (sz : Nat) (hc : okC C0) (hp : okQ P0) : kMet l yL_does wsL_does ({ frames := 6, cells := 0, slots := 0, locals := 132 } : Room) G [.ref (a 0), .int v] (pW G a sa C0 P0 y0) sz (kQi G (fun (r : Int32) (u : CV × PS × YS) => 0 ≤ r ∧ okC u.1 ∧ okQ u.2.1) (fun (u : CV × PS × YS) => pW G a sa u.1 u.2.1 u.2.2)) 0 0 := by
  refine k_entry (cc := cL_does) (maxL := 7) (ret := (some .int)) (by decide) rfl (Nat.le_of_ble_eq_true rfl) ?_
  intro p e s m args below meth c A ls H locs Q hQ hx hb hml hr hts hown hlocks hin hA hP hK hD hS hl
  have hown : s.vm.findClass RL = some m.cls := hown
  have hn1 := hc.1
  have hn := hc.2.1
  have hl : lv_has ls 7 [(0, .ref (a 0)), (1, .int v)] := hl
  refine lv_aload_n hx hb dL_does_0 rfl (lv_at hl 0 rfl) ?_
  refine lv_iconst (v := 0) hx hb dL_does_1 (by decide) ?_
  refine e_ci (w2 := fun (z : YS) => pW G a sa C0 P0 z) hD hS hA (e_V (n := 1) (ci := 5) (q0 := 0) (As := [.int 0]) (rest := []) hx hb hml hown hts hK hP hD hl (p_count l G a sa C0 P0 y0 0 H.size hc hp (by first | assumption | omega | decide)) gL_does_X5_count rfl rfl rfl (by decide +kernel) rfl ⟨Nat.le_of_ble_eq_true rfl, Nat.le_of_ble_eq_true rfl⟩ rfl rfl rfl (Nat.le_of_ble_eq_true rfl) dL_does_2 ⟨Nat.le_of_ble_eq_true rfl, Nat.le_of_ble_eq_true rfl⟩) (fun r_2 y_2 H locs hw hP hD hS => ?_)
  have hP : va_P G.1 vwCl (pW G a sa C0 P0 y_2) H := hP
  have hD : va_D A (pW G a sa C0 P0 y_2) := hD
  have hw_2 : r_2 = CT C0 P0.2.2 0 := hw
  subst hw_2
  refine g_ti (y := nI C0.1) (rfl) ?_
  refine lv_istore_n (lv' := [(2, .int (nI C0.1)), (0, .ref (a 0)), (1, .int v)]) hx hb dL_does_5 rfl hl (by decide) rfl (fun ls hl => ?_)
  refine lv_iload_n hx hb dL_does_6 rfl (lv_at hl 2 rfl) ?_
  refine lv_iconst (v := 4) hx hb dL_does_7 (by decide) ?_
  refine lv_ishr hx hb dL_does_8 ?_
  refine lv_iload_n hx hb dL_does_9 rfl (lv_at hl 0 rfl) ?_
  refine lv_iconst (v := 1) hx hb dL_does_10 (by decide) ?_
  refine lv_iadd hx hb dL_does_11 ?_
  refine g_ti (y := nI (C0.1 + 1)) (nI_add (C0.1) (1)) ?_
  refine e_ci (w2 := fun (z : YS) => pW G a sa C0 P0 z) hD hS hA (e_S (n := 2) (As := [.int (v >>> (4 &&& 31)), .int (nI (C0.1 + 1))]) (rest := []) hx hb hml hown hts hK hP hD hl (p_low l G a sa C0 P0 y_2 (v >>> (4 &&& 31)) (C0.1 + 1) H.size hc hp (by first | assumption | omega | decide) (by first | assumption | omega | decide)) gL_does_L_low rfl rfl rfl (by decide +kernel) rfl ⟨Nat.le_of_ble_eq_true rfl, Nat.le_of_ble_eq_true rfl⟩ rfl (Nat.le_of_ble_eq_true rfl) dL_does_12 ⟨Nat.le_of_ble_eq_true rfl, Nat.le_of_ble_eq_true rfl⟩) (fun r_12 y_12 H locs hw hP hD hS => ?_)
  obtain ⟨y_12, e9⟩ : ∃ z, z = y_12 := ⟨_, rfl⟩; subst e9
  have hP : va_P G.1 vwCl (pW G a sa C0 P0 y_12) H := hP
  have hD : va_D A (pW G a sa C0 P0 y_12) := hD
  obtain ⟨q_12, hq_12, e9⟩ := hw
  subst e9
  refine lv_istore_n (lv' := [(3, .int (nI q_12)), (2, .int (nI C0.1)), (0, .ref (a 0)), (1, .int v)]) hx hb dL_does_15 rfl hl (by decide) rfl (fun ls hl => ?_)
  refine lv_iload_n hx hb dL_does_16 rfl (lv_at hl 3 rfl) ?_
  refine lv_bipush (v := 9) hx hb dL_does_17 (by decide) ?_
  refine lv_ishr hx hb dL_does_19 ?_
  refine lv_iload_n hx hb dL_does_20 rfl (lv_at hl 1 rfl) ?_
  refine lv_iconst (v := 1) hx hb dL_does_21 (by decide) ?_
  refine lv_iadd hx hb dL_does_22 ?_
  refine g_ti (y := nI (C0.1 + 1)) (nI_add (C0.1) (1)) ?_
  refine e_ci (w2 := fun (z : YS) => pW G a sa C0 P0 z) hD hS hA (e_S (n := 2) (As := [.int (v >>> (9 &&& 31)), .int (nI (C0.1 + 1))]) (rest := []) hx hb hml hown hts hK hP hD hl (p_low l G a sa C0 P0 y_12 (v >>> (9 &&& 31)) (C0.1 + 1) H.size hc hp (by first | assumption | omega | decide) (by first | assumption | omega | decide)) gL_does_L_low rfl rfl rfl (by decide +kernel) rfl ⟨Nat.le_of_ble_eq_true rfl, Nat.le_of_ble_eq_true rfl⟩ rfl (Nat.le_of_ble_eq_true rfl) dL_does_23 ⟨Nat.le_of_ble_eq_true rfl, Nat.le_of_ble_eq_true rfl⟩) (fun r_23 y_23 H locs hw hP hD hS => ?_)
  obtain ⟨y_23, e9⟩ : ∃ z, z = y_23 := ⟨_, rfl⟩; subst e9
  have hP : va_P G.1 vwCl (pW G a sa C0 P0 y_23) H := hP
  have hD : va_D A (pW G a sa C0 P0 y_23) := hD
  obtain ⟨q_23, hq_23, e9⟩ := hw
  subst e9
  refine lv_istore (lv' := [(4, .int (nI q_23)), (3, .int (nI q_12)), (2, .int (nI C0.1)), (0, .ref (a 0)), (1, .int v)]) hx hb dL_does_26 hl (by decide) rfl (fun ls hl => ?_)
  refine lv_iload_n hx hb dL_does_28 rfl (lv_at hl 4 rfl) ?_
  refine lv_iconst (v := 4) hx hb dL_does_29 (by decide) ?_
  refine lv_ishr hx hb dL_does_30 ?_
  refine lv_iload_n hx hb dL_does_31 rfl (lv_at hl 2 rfl) ?_
  refine e_ci (w2 := fun (z : YS) => pW G a sa C0 P0 z) hD hS hA (e_S (n := 2) (As := [.int (v >>> (4 &&& 31)), .int (nI C0.1)]) (rest := []) hx hb hml hown hts hK hP hD hl (p_low l G a sa C0 P0 y_23 (v >>> (4 &&& 31)) C0.1 H.size hc hp (by first | assumption | omega | decide) (by first | assumption | omega | decide)) gL_does_L_low rfl rfl rfl (by decide +kernel) rfl ⟨Nat.le_of_ble_eq_true rfl, Nat.le_of_ble_eq_true rfl⟩ rfl (Nat.le_of_ble_eq_true rfl) dL_does_32 ⟨Nat.le_of_ble_eq_true rfl, Nat.le_of_ble_eq_true rfl⟩) (fun r_32 y_32 H locs hw hP hD hS => ?_)
  obtain ⟨y_32, e9⟩ : ∃ z, z = y_32 := ⟨_, rfl⟩; subst e9
  have hP : va_P G.1 vwCl (pW G a sa C0 P0 y_32) H := hP
  have hD : va_D A (pW G a sa C0 P0 y_32) := hD
  obtain ⟨q_32, hq_32, e9⟩ := hw
  subst e9
  refine lv_istore (lv' := [(5, .int (nI q_32)), (4, .int (nI q_23)), (3, .int (nI q_12)), (2, .int (nI C0.1)), (0, .ref (a 0)), (1, .int v)]) hx hb dL_does_35 hl (by decide) rfl (fun ls hl => ?_)
  refine lv_iload_n hx hb dL_does_37 rfl (lv_at hl 5 rfl) ?_
  refine lv_bipush (v := 15) hx hb dL_does_38 (by decide) ?_
  obtain ⟨z9, hz9, ez9⟩ : ∃ z, z < 16 ∧ v &&& 15 = nI z := ⟨_, Nat.mod_lt _ (by decide), pk_and v 4 (by decide)⟩
  refine lv_iand hx hb dL_does_40 ?_
  refine g_ti (y := nI z9) (ez9) ?_
  rcases (show z9 = 0 ∨ z9 = 1 ∨ z9 = 2 ∨ z9 = 3 ∨ z9 = 4 ∨ z9 = 5 ∨ z9 = 6 ∨ z9 = 7 ∨ z9 = 8 ∨ z9 = 9 ∨ z9 = 10 ∨ z9 = 11 ∨ z9 = 12 ∨ z9 = 13 ∨ z9 = 14 ∨ z9 = 15 by omega) with rfl | rfl | rfl | rfl | rfl | rfl | rfl | rfl | rfl | rfl | rfl | rfl | rfl | rfl | rfl | rfl
  · skip
    refine lv_tableIn (x := nI 0) (off := 63) (tgt := 104) hx hb dL_does_41 (by decide) (by decide) rfl (by decide) ?_
    refine lv_iload_n hx hb dL_does_104 rfl (lv_at hl 3 rfl) ?_
    refine lv_bipush (v := 20) hx hb dL_does_105 (by decide) ?_
    refine g_icmp_ge (a := C0.1) (b := 20) (tgt := 126) hx hb (by omega) (by omega) dL_does_107 (by decide) (fun c_107 => ?_) (fun c_107 => ?_)
    · skip
      refine lv_aload_n hx hb dL_does_126 rfl (lv_at hl 4 rfl) ?_
      refine lv_iload hx hb dL_does_127 (lv_at hl 0 rfl) ?_
      refine e_ci (w2 := fun (z : YS) => pW G a sa (cCu C0 q_32) (pSv P0 C0) z) hD hS hA (e_V (n := 1) (ci := 5) (q0 := 0) (As := [.int (nI q_32)]) (rest := []) hx hb hml hown hts hK hP hD hl (p_cut l G a sa C0 P0 y_32 q_32 H.size hc hp (hq_32) (by omega)) gL_does_X5_cut rfl rfl rfl (by decide +kernel) rfl ⟨Nat.le_of_ble_eq_true rfl, Nat.le_of_ble_eq_true rfl⟩ rfl rfl rfl (Nat.le_of_ble_eq_true rfl) dL_does_129 ⟨Nat.le_of_ble_eq_true rfl, Nat.le_of_ble_eq_true rfl⟩) (fun r_129 y_129 H locs hw hP hD hS => ?_)
      have hP : va_P G.1 vwCl (pW G a sa (cCu C0 q_32) (pSv P0 C0) y_129) H := hP
      have hD : va_D A (pW G a sa (cCu C0 q_32) (pSv P0 C0) y_129) := hD
      have hw_129 : r_129 = nI (C0.1 - 1) := hw
      subst hw_129
      have hc_129 : okC (cCu C0 q_32) := okC_cu hc (show q_32 < C0.1 from hq_32) (show 1 < C0.1 from by omega)
      have hp_129 : okQ (pSv P0 C0) := okQ_sv hp
      rw [hQ]
      exact e_iret (v := nI (C0.1 - 1)) ((cCu C0 q_32), (pSv P0 C0), y_129) hx hb hr hlocks (⟨by first | exact nI_pos' (by omega) | exact nI_pos' (by omega), hc_129, hp_129⟩) hK hP hD hS dL_does_132
    · skip
      refine lv_aload_n hx hb dL_does_110 rfl (lv_at hl 4 rfl) ?_
      refine lv_iload_n hx hb dL_does_111 rfl (lv_at hl 5 rfl) ?_
      refine lv_iconst (v := 4) hx hb dL_does_112 (by decide) ?_
      refine lv_ishr hx hb dL_does_113 ?_
      refine lv_iconst (v := 5) hx hb dL_does_114 (by decide) ?_
      refine e_ci (w2 := fun (z : YS) => pW G a sa C0 P0 z) hD hS hA (e_S (n := 2) (As := [.int (v >>> (4 &&& 31)), .int 5]) (rest := [.ref (a 0)]) hx hb hml hown hts hK hP hD hl (p_low l G a sa C0 P0 y_32 (v >>> (4 &&& 31)) 5 H.size hc hp (by first | assumption | omega | decide) (by first | assumption | omega | decide)) gL_does_L_low rfl rfl rfl (by decide +kernel) rfl ⟨Nat.le_of_ble_eq_true rfl, Nat.le_of_ble_eq_true rfl⟩ rfl (Nat.le_of_ble_eq_true rfl) dL_does_115 ⟨Nat.le_of_ble_eq_true rfl, Nat.le_of_ble_eq_true rfl⟩) (fun r_115 y_115 H locs hw hP hD hS => ?_)
      obtain ⟨y_115, e9⟩ : ∃ z, z = y_115 := ⟨_, rfl⟩; subst e9
      have hP : va_P G.1 vwCl (pW G a sa C0 P0 y_115) H := hP
      have hD : va_D A (pW G a sa C0 P0 y_115) := hD
      obtain ⟨q_115, hq_115, e9⟩ := hw
      subst e9
      refine lv_iconst (v := 2) hx hb dL_does_118 (by decide) ?_
      refine lv_isub hx hb dL_does_119 ?_
      refine e_ci (w2 := fun (z : YS) => pW G a sa (cLi C0 ((nI q_115) - 2)) (pSv P0 C0) z) hD hS hA (e_V (n := 1) (ci := 5) (q0 := 0) (As := [.int ((nI q_115) - 2)]) (rest := []) hx hb hml hown hts hK hP hD hl (p_link l G a sa C0 P0 y_115 ((nI q_115) - 2) H.size hc hp (st5 hq_115) (c_107)) gL_does_X5_link rfl rfl rfl (by decide +kernel) rfl ⟨Nat.le_of_ble_eq_true rfl, Nat.le_of_ble_eq_true rfl⟩ rfl rfl rfl (Nat.le_of_ble_eq_true rfl) dL_does_120 ⟨Nat.le_of_ble_eq_true rfl, Nat.le_of_ble_eq_true rfl⟩) (fun r_120 y_120 H locs hw hP hD hS => ?_)
      have hP : va_P G.1 vwCl (pW G a sa (cLi C0 ((nI q_115) - 2)) (pSv P0 C0) y_120) H := hP
      have hD : va_D A (pW G a sa (cLi C0 ((nI q_115) - 2)) (pSv P0 C0) y_120) := hD
      have hw_120 : r_120 = nI (C0.1 + 1) := hw
      subst hw_120
      have hc_120 : okC (cLi C0 ((nI q_115) - 2)) := okC_li hc (show -2 ≤ ((nI q_115) - 2) ∧ ((nI q_115) - 2) ≤ 2 from st5 hq_115) (show C0.1 < 20 from c_107)
      have hp_120 : okQ (pSv P0 C0) := okQ_sv hp
      refine lv_goto (tgt := 132) hx hb dL_does_123 (by decide) ?_
      rw [hQ]
      exact e_iret (v := nI (C0.1 + 1)) ((cLi C0 ((nI q_115) - 2)), (pSv P0 C0), y_120) hx hb hr hlocks (⟨by first | exact nI_pos' (by omega) | exact nI_pos' (by omega), hc_120, hp_120⟩) hK hP hD hS dL_does_132
  · skip
    refine lv_tableIn (x := nI 1) (off := 63) (tgt := 104) hx hb dL_does_41 (by decide) (by decide) rfl (by decide) ?_
    refine lv_iload_n hx hb dL_does_104 rfl (lv_at hl 3 rfl) ?_
    refine lv_bipush (v := 20) hx hb dL_does_105 (by decide) ?_
    refine g_icmp_ge (a := C0.1) (b := 20) (tgt := 126) hx hb (by omega) (by omega) dL_does_107 (by decide) (fun c_107 => ?_) (fun c_107 => ?_)
    · skip
      refine lv_aload_n hx hb dL_does_126 rfl (lv_at hl 4 rfl) ?_
      refine lv_iload hx hb dL_does_127 (lv_at hl 0 rfl) ?_
      refine e_ci (w2 := fun (z : YS) => pW G a sa (cCu C0 q_32) (pSv P0 C0) z) hD hS hA (e_V (n := 1) (ci := 5) (q0 := 0) (As := [.int (nI q_32)]) (rest := []) hx hb hml hown hts hK hP hD hl (p_cut l G a sa C0 P0 y_32 q_32 H.size hc hp (hq_32) (by omega)) gL_does_X5_cut rfl rfl rfl (by decide +kernel) rfl ⟨Nat.le_of_ble_eq_true rfl, Nat.le_of_ble_eq_true rfl⟩ rfl rfl rfl (Nat.le_of_ble_eq_true rfl) dL_does_129 ⟨Nat.le_of_ble_eq_true rfl, Nat.le_of_ble_eq_true rfl⟩) (fun r_129 y_129 H locs hw hP hD hS => ?_)
      have hP : va_P G.1 vwCl (pW G a sa (cCu C0 q_32) (pSv P0 C0) y_129) H := hP
      have hD : va_D A (pW G a sa (cCu C0 q_32) (pSv P0 C0) y_129) := hD
      have hw_129 : r_129 = nI (C0.1 - 1) := hw
      subst hw_129
      have hc_129 : okC (cCu C0 q_32) := okC_cu hc (show q_32 < C0.1 from hq_32) (show 1 < C0.1 from by omega)
      have hp_129 : okQ (pSv P0 C0) := okQ_sv hp
      rw [hQ]
      exact e_iret (v := nI (C0.1 - 1)) ((cCu C0 q_32), (pSv P0 C0), y_129) hx hb hr hlocks (⟨by first | exact nI_pos' (by omega) | exact nI_pos' (by omega), hc_129, hp_129⟩) hK hP hD hS dL_does_132
    · skip
      refine lv_aload_n hx hb dL_does_110 rfl (lv_at hl 4 rfl) ?_
      refine lv_iload_n hx hb dL_does_111 rfl (lv_at hl 5 rfl) ?_
      refine lv_iconst (v := 4) hx hb dL_does_112 (by decide) ?_
      refine lv_ishr hx hb dL_does_113 ?_
      refine lv_iconst (v := 5) hx hb dL_does_114 (by decide) ?_
      refine e_ci (w2 := fun (z : YS) => pW G a sa C0 P0 z) hD hS hA (e_S (n := 2) (As := [.int (v >>> (4 &&& 31)), .int 5]) (rest := [.ref (a 0)]) hx hb hml hown hts hK hP hD hl (p_low l G a sa C0 P0 y_32 (v >>> (4 &&& 31)) 5 H.size hc hp (by first | assumption | omega | decide) (by first | assumption | omega | decide)) gL_does_L_low rfl rfl rfl (by decide +kernel) rfl ⟨Nat.le_of_ble_eq_true rfl, Nat.le_of_ble_eq_true rfl⟩ rfl (Nat.le_of_ble_eq_true rfl) dL_does_115 ⟨Nat.le_of_ble_eq_true rfl, Nat.le_of_ble_eq_true rfl⟩) (fun r_115 y_115 H locs hw hP hD hS => ?_)
      obtain ⟨y_115, e9⟩ : ∃ z, z = y_115 := ⟨_, rfl⟩; subst e9
      have hP : va_P G.1 vwCl (pW G a sa C0 P0 y_115) H := hP
      have hD : va_D A (pW G a sa C0 P0 y_115) := hD
      obtain ⟨q_115, hq_115, e9⟩ := hw
      subst e9
      refine lv_iconst (v := 2) hx hb dL_does_118 (by decide) ?_
      refine lv_isub hx hb dL_does_119 ?_
      refine e_ci (w2 := fun (z : YS) => pW G a sa (cLi C0 ((nI q_115) - 2)) (pSv P0 C0) z) hD hS hA (e_V (n := 1) (ci := 5) (q0 := 0) (As := [.int ((nI q_115) - 2)]) (rest := []) hx hb hml hown hts hK hP hD hl (p_link l G a sa C0 P0 y_115 ((nI q_115) - 2) H.size hc hp (st5 hq_115) (c_107)) gL_does_X5_link rfl rfl rfl (by decide +kernel) rfl ⟨Nat.le_of_ble_eq_true rfl, Nat.le_of_ble_eq_true rfl⟩ rfl rfl rfl (Nat.le_of_ble_eq_true rfl) dL_does_120 ⟨Nat.le_of_ble_eq_true rfl, Nat.le_of_ble_eq_true rfl⟩) (fun r_120 y_120 H locs hw hP hD hS => ?_)
      have hP : va_P G.1 vwCl (pW G a sa (cLi C0 ((nI q_115) - 2)) (pSv P0 C0) y_120) H := hP
      have hD : va_D A (pW G a sa (cLi C0 ((nI q_115) - 2)) (pSv P0 C0) y_120) := hD
      have hw_120 : r_120 = nI (C0.1 + 1) := hw
      subst hw_120
      have hc_120 : okC (cLi C0 ((nI q_115) - 2)) := okC_li hc (show -2 ≤ ((nI q_115) - 2) ∧ ((nI q_115) - 2) ≤ 2 from st5 hq_115) (show C0.1 < 20 from c_107)
      have hp_120 : okQ (pSv P0 C0) := okQ_sv hp
      refine lv_goto (tgt := 132) hx hb dL_does_123 (by decide) ?_
      rw [hQ]
      exact e_iret (v := nI (C0.1 + 1)) ((cLi C0 ((nI q_115) - 2)), (pSv P0 C0), y_120) hx hb hr hlocks (⟨by first | exact nI_pos' (by omega) | exact nI_pos' (by omega), hc_120, hp_120⟩) hK hP hD hS dL_does_132
  · skip
    refine lv_tableIn (x := nI 2) (off := 63) (tgt := 104) hx hb dL_does_41 (by decide) (by decide) rfl (by decide) ?_
    refine lv_iload_n hx hb dL_does_104 rfl (lv_at hl 3 rfl) ?_
    refine lv_bipush (v := 20) hx hb dL_does_105 (by decide) ?_
    refine g_icmp_ge (a := C0.1) (b := 20) (tgt := 126) hx hb (by omega) (by omega) dL_does_107 (by decide) (fun c_107 => ?_) (fun c_107 => ?_)
    · skip
      refine lv_aload_n hx hb dL_does_126 rfl (lv_at hl 4 rfl) ?_
      refine lv_iload hx hb dL_does_127 (lv_at hl 0 rfl) ?_
      refine e_ci (w2 := fun (z : YS) => pW G a sa (cCu C0 q_32) (pSv P0 C0) z) hD hS hA (e_V (n := 1) (ci := 5) (q0 := 0) (As := [.int (nI q_32)]) (rest := []) hx hb hml hown hts hK hP hD hl (p_cut l G a sa C0 P0 y_32 q_32 H.size hc hp (hq_32) (by omega)) gL_does_X5_cut rfl rfl rfl (by decide +kernel) rfl ⟨Nat.le_of_ble_eq_true rfl, Nat.le_of_ble_eq_true rfl⟩ rfl rfl rfl (Nat.le_of_ble_eq_true rfl) dL_does_129 ⟨Nat.le_of_ble_eq_true rfl, Nat.le_of_ble_eq_true rfl⟩) (fun r_129 y_129 H locs hw hP hD hS => ?_)
      have hP : va_P G.1 vwCl (pW G a sa (cCu C0 q_32) (pSv P0 C0) y_129) H := hP
      have hD : va_D A (pW G a sa (cCu C0 q_32) (pSv P0 C0) y_129) := hD
      have hw_129 : r_129 = nI (C0.1 - 1) := hw
      subst hw_129
      have hc_129 : okC (cCu C0 q_32) := okC_cu hc (show q_32 < C0.1 from hq_32) (show 1 < C0.1 from by omega)
      have hp_129 : okQ (pSv P0 C0) := okQ_sv hp
      rw [hQ]
      exact e_iret (v := nI (C0.1 - 1)) ((cCu C0 q_32), (pSv P0 C0), y_129) hx hb hr hlocks (⟨by first | exact nI_pos' (by omega) | exact nI_pos' (by omega), hc_129, hp_129⟩) hK hP hD hS dL_does_132
    · skip
      refine lv_aload_n hx hb dL_does_110 rfl (lv_at hl 4 rfl) ?_
      refine lv_iload_n hx hb dL_does_111 rfl (lv_at hl 5 rfl) ?_
      refine lv_iconst (v := 4) hx hb dL_does_112 (by decide) ?_
      refine lv_ishr hx hb dL_does_113 ?_
      refine lv_iconst (v := 5) hx hb dL_does_114 (by decide) ?_
      refine e_ci (w2 := fun (z : YS) => pW G a sa C0 P0 z) hD hS hA (e_S (n := 2) (As := [.int (v >>> (4 &&& 31)), .int 5]) (rest := [.ref (a 0)]) hx hb hml hown hts hK hP hD hl (p_low l G a sa C0 P0 y_32 (v >>> (4 &&& 31)) 5 H.size hc hp (by first | assumption | omega | decide) (by first | assumption | omega | decide)) gL_does_L_low rfl rfl rfl (by decide +kernel) rfl ⟨Nat.le_of_ble_eq_true rfl, Nat.le_of_ble_eq_true rfl⟩ rfl (Nat.le_of_ble_eq_true rfl) dL_does_115 ⟨Nat.le_of_ble_eq_true rfl, Nat.le_of_ble_eq_true rfl⟩) (fun r_115 y_115 H locs hw hP hD hS => ?_)
      obtain ⟨y_115, e9⟩ : ∃ z, z = y_115 := ⟨_, rfl⟩; subst e9
      have hP : va_P G.1 vwCl (pW G a sa C0 P0 y_115) H := hP
      have hD : va_D A (pW G a sa C0 P0 y_115) := hD
      obtain ⟨q_115, hq_115, e9⟩ := hw
      subst e9
      refine lv_iconst (v := 2) hx hb dL_does_118 (by decide) ?_
      refine lv_isub hx hb dL_does_119 ?_
      refine e_ci (w2 := fun (z : YS) => pW G a sa (cLi C0 ((nI q_115) - 2)) (pSv P0 C0) z) hD hS hA (e_V (n := 1) (ci := 5) (q0 := 0) (As := [.int ((nI q_115) - 2)]) (rest := []) hx hb hml hown hts hK hP hD hl (p_link l G a sa C0 P0 y_115 ((nI q_115) - 2) H.size hc hp (st5 hq_115) (c_107)) gL_does_X5_link rfl rfl rfl (by decide +kernel) rfl ⟨Nat.le_of_ble_eq_true rfl, Nat.le_of_ble_eq_true rfl⟩ rfl rfl rfl (Nat.le_of_ble_eq_true rfl) dL_does_120 ⟨Nat.le_of_ble_eq_true rfl, Nat.le_of_ble_eq_true rfl⟩) (fun r_120 y_120 H locs hw hP hD hS => ?_)
      have hP : va_P G.1 vwCl (pW G a sa (cLi C0 ((nI q_115) - 2)) (pSv P0 C0) y_120) H := hP
      have hD : va_D A (pW G a sa (cLi C0 ((nI q_115) - 2)) (pSv P0 C0) y_120) := hD
      have hw_120 : r_120 = nI (C0.1 + 1) := hw
      subst hw_120
      have hc_120 : okC (cLi C0 ((nI q_115) - 2)) := okC_li hc (show -2 ≤ ((nI q_115) - 2) ∧ ((nI q_115) - 2) ≤ 2 from st5 hq_115) (show C0.1 < 20 from c_107)
      have hp_120 : okQ (pSv P0 C0) := okQ_sv hp
      refine lv_goto (tgt := 132) hx hb dL_does_123 (by decide) ?_
      rw [hQ]
      exact e_iret (v := nI (C0.1 + 1)) ((cLi C0 ((nI q_115) - 2)), (pSv P0 C0), y_120) hx hb hr hlocks (⟨by first | exact nI_pos' (by omega) | exact nI_pos' (by omega), hc_120, hp_120⟩) hK hP hD hS dL_does_132
  · skip
    refine lv_tableIn (x := nI 3) (off := 92) (tgt := 133) hx hb dL_does_41 (by decide) (by decide) rfl (by decide) ?_
    refine lv_iload_n hx hb dL_does_133 rfl (lv_at hl 3 rfl) ?_
    refine lv_iconst (v := 1) hx hb dL_does_134 (by decide) ?_
    refine g_icmp_le (a := C0.1) (b := 1) (tgt := 147) hx hb (by omega) (by omega) dL_does_135 (by decide) (fun c_135 => ?_) (fun c_135 => ?_)
    · skip
      refine lv_iconst (v := 0) hx hb dL_does_147 (by decide) ?_
      rw [hQ]
      exact e_iret (v := 0) (C0, P0, y_32) hx hb hr hlocks (⟨by first | exact nI_pos' (by omega) | decide, hc, hp⟩) hK hP hD hS dL_does_148
    · skip
      refine lv_aload_n hx hb dL_does_138 rfl (lv_at hl 4 rfl) ?_
      refine lv_iload hx hb dL_does_139 (lv_at hl 0 rfl) ?_
      refine e_ci (w2 := fun (z : YS) => pW G a sa (cCu C0 q_32) (pSv P0 C0) z) hD hS hA (e_V (n := 1) (ci := 5) (q0 := 0) (As := [.int (nI q_32)]) (rest := []) hx hb hml hown hts hK hP hD hl (p_cut l G a sa C0 P0 y_32 q_32 H.size hc hp (hq_32) (by omega)) gL_does_X5_cut rfl rfl rfl (by decide +kernel) rfl ⟨Nat.le_of_ble_eq_true rfl, Nat.le_of_ble_eq_true rfl⟩ rfl rfl rfl (Nat.le_of_ble_eq_true rfl) dL_does_141 ⟨Nat.le_of_ble_eq_true rfl, Nat.le_of_ble_eq_true rfl⟩) (fun r_141 y_141 H locs hw hP hD hS => ?_)
      have hP : va_P G.1 vwCl (pW G a sa (cCu C0 q_32) (pSv P0 C0) y_141) H := hP
      have hD : va_D A (pW G a sa (cCu C0 q_32) (pSv P0 C0) y_141) := hD
      have hw_141 : r_141 = nI (C0.1 - 1) := hw
      subst hw_141
      have hc_141 : okC (cCu C0 q_32) := okC_cu hc (show q_32 < C0.1 from hq_32) (show 1 < C0.1 from by omega)
      have hp_141 : okQ (pSv P0 C0) := okQ_sv hp
      refine lv_goto (tgt := 148) hx hb dL_does_144 (by decide) ?_
      rw [hQ]
      exact e_iret (v := nI (C0.1 - 1)) ((cCu C0 q_32), (pSv P0 C0), y_141) hx hb hr hlocks (⟨by first | exact nI_pos' (by omega) | decide, hc_141, hp_141⟩) hK hP hD hS dL_does_148
  · skip
    refine lv_tableIn (x := nI 4) (off := 108) (tgt := 149) hx hb dL_does_41 (by decide) (by decide) rfl (by decide) ?_
    refine lv_aload_n hx hb dL_does_149 rfl (lv_at hl 4 rfl) ?_
    refine lv_iload hx hb dL_does_150 (lv_at hl 0 rfl) ?_
    refine lv_iload_n hx hb dL_does_152 rfl (lv_at hl 5 rfl) ?_
    refine lv_bipush (v := 9) hx hb dL_does_153 (by decide) ?_
    refine lv_ishr hx hb dL_does_155 ?_
    refine lv_iconst (v := 5) hx hb dL_does_156 (by decide) ?_
    refine e_ci (w2 := fun (z : YS) => pW G a sa C0 P0 z) hD hS hA (e_S (n := 2) (As := [.int (v >>> (9 &&& 31)), .int 5]) (rest := [.int (nI q_32), .ref (a 0)]) hx hb hml hown hts hK hP hD hl (p_low l G a sa C0 P0 y_32 (v >>> (9 &&& 31)) 5 H.size hc hp (by first | assumption | omega | decide) (by first | assumption | omega | decide)) gL_does_L_low rfl rfl rfl (by decide +kernel) rfl ⟨Nat.le_of_ble_eq_true rfl, Nat.le_of_ble_eq_true rfl⟩ rfl (Nat.le_of_ble_eq_true rfl) dL_does_157 ⟨Nat.le_of_ble_eq_true rfl, Nat.le_of_ble_eq_true rfl⟩) (fun r_157 y_157 H locs hw hP hD hS => ?_)
    obtain ⟨y_157, e9⟩ : ∃ z, z = y_157 := ⟨_, rfl⟩; subst e9
    have hP : va_P G.1 vwCl (pW G a sa C0 P0 y_157) H := hP
    have hD : va_D A (pW G a sa C0 P0 y_157) := hD
    obtain ⟨q_157, hq_157, e9⟩ := hw
    subst e9
    refine lv_iconst (v := 2) hx hb dL_does_160 (by decide) ?_
    refine lv_isub hx hb dL_does_161 ?_
    refine e_ci (w2 := fun (z : YS) => pW G a sa (cSt C0 q_32 ((nI q_157) - 2)) (pSv P0 C0) z) hD hS hA (e_V (n := 2) (ci := 5) (q0 := 0) (As := [.int (nI q_32), .int ((nI q_157) - 2)]) (rest := []) hx hb hml hown hts hK hP hD hl (p_bend l G a sa C0 P0 y_157 q_32 ((nI q_157) - 2) H.size hc hp (hq_32) (st5 hq_157)) gL_does_X5_bend rfl rfl rfl (by decide +kernel) rfl ⟨Nat.le_of_ble_eq_true rfl, Nat.le_of_ble_eq_true rfl⟩ rfl rfl rfl (Nat.le_of_ble_eq_true rfl) dL_does_162 ⟨Nat.le_of_ble_eq_true rfl, Nat.le_of_ble_eq_true rfl⟩) (fun r_162 y_162 H locs hw hP hD hS => ?_)
    have hP : va_P G.1 vwCl (pW G a sa (cSt C0 q_32 ((nI q_157) - 2)) (pSv P0 C0) y_162) H := hP
    have hD : va_D A (pW G a sa (cSt C0 q_32 ((nI q_157) - 2)) (pSv P0 C0) y_162) := hD
    have hw_162 : r_162 = C0.2.1 q_32 + 2 := hw
    subst hw_162
    have hc_162 : okC (cSt C0 q_32 ((nI q_157) - 2)) := okC_st hc (show -2 ≤ ((nI q_157) - 2) ∧ ((nI q_157) - 2) ≤ 2 from st5 hq_157)
    have hp_162 : okQ (pSv P0 C0) := okQ_sv hp
    rw [hQ]
    exact e_iret (v := C0.2.1 q_32 + 2) ((cSt C0 q_32 ((nI q_157) - 2)), (pSv P0 C0), y_162) hx hb hr hlocks (⟨nn_bend hc hq_32, hc_162, hp_162⟩) hK hP hD hS dL_does_165
  · skip
    refine lv_tableIn (x := nI 5) (off := 125) (tgt := 166) hx hb dL_does_41 (by decide) (by decide) rfl (by decide) ?_
    refine lv_aload_n hx hb dL_does_166 rfl (lv_at hl 4 rfl) ?_
    refine e_ci (w2 := fun (z : YS) => pW G a sa (cTu C0) (pSv P0 C0) z) hD hS hA (e_V (n := 0) (ci := 5) (q0 := 0) (As := []) (rest := []) hx hb hml hown hts hK hP hD hl (p_turn l G a sa C0 P0 y_32 H.size hc hp) gL_does_X5_turn rfl rfl rfl (by decide +kernel) rfl ⟨Nat.le_of_ble_eq_true rfl, Nat.le_of_ble_eq_true rfl⟩ rfl rfl rfl (Nat.le_of_ble_eq_true rfl) dL_does_167 ⟨Nat.le_of_ble_eq_true rfl, Nat.le_of_ble_eq_true rfl⟩) (fun r_167 y_167 H locs hw hP hD hS => ?_)
    have hP : va_P G.1 vwCl (pW G a sa (cTu C0) (pSv P0 C0) y_167) H := hP
    have hD : va_D A (pW G a sa (cTu C0) (pSv P0 C0) y_167) := hD
    have hw_167 : r_167 = sHT (cTu C0).2.1 C0.1 + 100 := hw
    subst hw_167
    have hc_167 : okC (cTu C0) := okC_tu hc
    have hp_167 : okQ (pSv P0 C0) := okQ_sv hp
    rw [hQ]
    exact e_iret (v := sHT (cTu C0).2.1 C0.1 + 100) ((cTu C0), (pSv P0 C0), y_167) hx hb hr hlocks (⟨nn_turn hc, hc_167, hp_167⟩) hK hP hD hS dL_does_170
  · skip
    refine lv_tableIn (x := nI 6) (off := 130) (tgt := 171) hx hb dL_does_41 (by decide) (by decide) rfl (by decide) ?_
    refine lv_aload_n hx hb dL_does_171 rfl (lv_at hl 4 rfl) ?_
    refine lv_iload_n hx hb dL_does_172 rfl (lv_at hl 2 rfl) ?_
    refine lv_iload_n hx hb dL_does_173 rfl (lv_at hl 5 rfl) ?_
    refine lv_bipush (v := 9) hx hb dL_does_174 (by decide) ?_
    refine lv_ishr hx hb dL_does_176 ?_
    refine lv_bipush (v := 100) hx hb dL_does_177 (by decide) ?_
    refine e_ci (w2 := fun (z : YS) => pW G a sa C0 P0 z) hD hS hA (e_S (n := 2) (As := [.int (v >>> (9 &&& 31)), .int 100]) (rest := [.int (nI q_12), .ref (a 0)]) hx hb hml hown hts hK hP hD hl (p_low l G a sa C0 P0 y_32 (v >>> (9 &&& 31)) 100 H.size hc hp (by first | assumption | omega | decide) (by first | assumption | omega | decide)) gL_does_L_low rfl rfl rfl (by decide +kernel) rfl ⟨Nat.le_of_ble_eq_true rfl, Nat.le_of_ble_eq_true rfl⟩ rfl (Nat.le_of_ble_eq_true rfl) dL_does_179 ⟨Nat.le_of_ble_eq_true rfl, Nat.le_of_ble_eq_true rfl⟩) (fun r_179 y_179 H locs hw hP hD hS => ?_)
    obtain ⟨y_179, e9⟩ : ∃ z, z = y_179 := ⟨_, rfl⟩; subst e9
    have hP : va_P G.1 vwCl (pW G a sa C0 P0 y_179) H := hP
    have hD : va_D A (pW G a sa C0 P0 y_179) := hD
    obtain ⟨q_179, hq_179, e9⟩ := hw
    subst e9
    refine e_ci (w2 := fun (z : YS) => pW G a sa (cWe C0 q_12 (nI q_179)) (pSv P0 C0) z) hD hS hA (e_V (n := 2) (ci := 5) (q0 := 0) (As := [.int (nI q_12), .int (nI q_179)]) (rest := []) hx hb hml hown hts hK hP hD hl (p_weight l G a sa C0 P0 y_179 q_12 (nI q_179) H.size hc hp (Nat.le_of_lt_succ hq_12) (nI_99 hq_179)) gL_does_X5_weight rfl rfl rfl (by decide +kernel) rfl ⟨Nat.le_of_ble_eq_true rfl, Nat.le_of_ble_eq_true rfl⟩ rfl rfl rfl (Nat.le_of_ble_eq_true rfl) dL_does_182 ⟨Nat.le_of_ble_eq_true rfl, Nat.le_of_ble_eq_true rfl⟩) (fun r_182 y_182 H locs hw hP hD hS => ?_)
    have hP : va_P G.1 vwCl (pW G a sa (cWe C0 q_12 (nI q_179)) (pSv P0 C0) y_182) H := hP
    have hD : va_D A (pW G a sa (cWe C0 q_12 (nI q_179)) (pSv P0 C0) y_182) := hD
    have hw_182 : r_182 = C0.2.2.1 q_12 := hw
    subst hw_182
    have hc_182 : okC (cWe C0 q_12 (nI q_179)) := okC_we hc (show 0 ≤ (nI q_179) ∧ (nI q_179) ≤ 99 from nI_99 hq_179)
    have hp_182 : okQ (pSv P0 C0) := okQ_sv hp
    rw [hQ]
    exact e_iret (v := C0.2.2.1 q_12) ((cWe C0 q_12 (nI q_179)), (pSv P0 C0), y_182) hx hb hr hlocks (⟨(nn_we hc (Nat.le_of_lt_succ hq_12)).1, hc_182, hp_182⟩) hK hP hD hS dL_does_185
  · skip
    refine lv_tableIn (x := nI 7) (off := 130) (tgt := 171) hx hb dL_does_41 (by decide) (by decide) rfl (by decide) ?_
    refine lv_aload_n hx hb dL_does_171 rfl (lv_at hl 4 rfl) ?_
    refine lv_iload_n hx hb dL_does_172 rfl (lv_at hl 2 rfl) ?_
    refine lv_iload_n hx hb dL_does_173 rfl (lv_at hl 5 rfl) ?_
    refine lv_bipush (v := 9) hx hb dL_does_174 (by decide) ?_
    refine lv_ishr hx hb dL_does_176 ?_
    refine lv_bipush (v := 100) hx hb dL_does_177 (by decide) ?_
    refine e_ci (w2 := fun (z : YS) => pW G a sa C0 P0 z) hD hS hA (e_S (n := 2) (As := [.int (v >>> (9 &&& 31)), .int 100]) (rest := [.int (nI q_12), .ref (a 0)]) hx hb hml hown hts hK hP hD hl (p_low l G a sa C0 P0 y_32 (v >>> (9 &&& 31)) 100 H.size hc hp (by first | assumption | omega | decide) (by first | assumption | omega | decide)) gL_does_L_low rfl rfl rfl (by decide +kernel) rfl ⟨Nat.le_of_ble_eq_true rfl, Nat.le_of_ble_eq_true rfl⟩ rfl (Nat.le_of_ble_eq_true rfl) dL_does_179 ⟨Nat.le_of_ble_eq_true rfl, Nat.le_of_ble_eq_true rfl⟩) (fun r_179 y_179 H locs hw hP hD hS => ?_)
    obtain ⟨y_179, e9⟩ : ∃ z, z = y_179 := ⟨_, rfl⟩; subst e9
    have hP : va_P G.1 vwCl (pW G a sa C0 P0 y_179) H := hP
    have hD : va_D A (pW G a sa C0 P0 y_179) := hD
    obtain ⟨q_179, hq_179, e9⟩ := hw
    subst e9
    refine e_ci (w2 := fun (z : YS) => pW G a sa (cWe C0 q_12 (nI q_179)) (pSv P0 C0) z) hD hS hA (e_V (n := 2) (ci := 5) (q0 := 0) (As := [.int (nI q_12), .int (nI q_179)]) (rest := []) hx hb hml hown hts hK hP hD hl (p_weight l G a sa C0 P0 y_179 q_12 (nI q_179) H.size hc hp (Nat.le_of_lt_succ hq_12) (nI_99 hq_179)) gL_does_X5_weight rfl rfl rfl (by decide +kernel) rfl ⟨Nat.le_of_ble_eq_true rfl, Nat.le_of_ble_eq_true rfl⟩ rfl rfl rfl (Nat.le_of_ble_eq_true rfl) dL_does_182 ⟨Nat.le_of_ble_eq_true rfl, Nat.le_of_ble_eq_true rfl⟩) (fun r_182 y_182 H locs hw hP hD hS => ?_)
    have hP : va_P G.1 vwCl (pW G a sa (cWe C0 q_12 (nI q_179)) (pSv P0 C0) y_182) H := hP
    have hD : va_D A (pW G a sa (cWe C0 q_12 (nI q_179)) (pSv P0 C0) y_182) := hD
    have hw_182 : r_182 = C0.2.2.1 q_12 := hw
    subst hw_182
    have hc_182 : okC (cWe C0 q_12 (nI q_179)) := okC_we hc (show 0 ≤ (nI q_179) ∧ (nI q_179) ≤ 99 from nI_99 hq_179)
    have hp_182 : okQ (pSv P0 C0) := okQ_sv hp
    rw [hQ]
    exact e_iret (v := C0.2.2.1 q_12) ((cWe C0 q_12 (nI q_179)), (pSv P0 C0), y_182) hx hb hr hlocks (⟨(nn_we hc (Nat.le_of_lt_succ hq_12)).1, hc_182, hp_182⟩) hK hP hD hS dL_does_185
  · skip
    refine lv_tableIn (x := nI 8) (off := 130) (tgt := 171) hx hb dL_does_41 (by decide) (by decide) rfl (by decide) ?_
    refine lv_aload_n hx hb dL_does_171 rfl (lv_at hl 4 rfl) ?_
    refine lv_iload_n hx hb dL_does_172 rfl (lv_at hl 2 rfl) ?_
    refine lv_iload_n hx hb dL_does_173 rfl (lv_at hl 5 rfl) ?_
    refine lv_bipush (v := 9) hx hb dL_does_174 (by decide) ?_
    refine lv_ishr hx hb dL_does_176 ?_
    refine lv_bipush (v := 100) hx hb dL_does_177 (by decide) ?_
    refine e_ci (w2 := fun (z : YS) => pW G a sa C0 P0 z) hD hS hA (e_S (n := 2) (As := [.int (v >>> (9 &&& 31)), .int 100]) (rest := [.int (nI q_12), .ref (a 0)]) hx hb hml hown hts hK hP hD hl (p_low l G a sa C0 P0 y_32 (v >>> (9 &&& 31)) 100 H.size hc hp (by first | assumption | omega | decide) (by first | assumption | omega | decide)) gL_does_L_low rfl rfl rfl (by decide +kernel) rfl ⟨Nat.le_of_ble_eq_true rfl, Nat.le_of_ble_eq_true rfl⟩ rfl (Nat.le_of_ble_eq_true rfl) dL_does_179 ⟨Nat.le_of_ble_eq_true rfl, Nat.le_of_ble_eq_true rfl⟩) (fun r_179 y_179 H locs hw hP hD hS => ?_)
    obtain ⟨y_179, e9⟩ : ∃ z, z = y_179 := ⟨_, rfl⟩; subst e9
    have hP : va_P G.1 vwCl (pW G a sa C0 P0 y_179) H := hP
    have hD : va_D A (pW G a sa C0 P0 y_179) := hD
    obtain ⟨q_179, hq_179, e9⟩ := hw
    subst e9
    refine e_ci (w2 := fun (z : YS) => pW G a sa (cWe C0 q_12 (nI q_179)) (pSv P0 C0) z) hD hS hA (e_V (n := 2) (ci := 5) (q0 := 0) (As := [.int (nI q_12), .int (nI q_179)]) (rest := []) hx hb hml hown hts hK hP hD hl (p_weight l G a sa C0 P0 y_179 q_12 (nI q_179) H.size hc hp (Nat.le_of_lt_succ hq_12) (nI_99 hq_179)) gL_does_X5_weight rfl rfl rfl (by decide +kernel) rfl ⟨Nat.le_of_ble_eq_true rfl, Nat.le_of_ble_eq_true rfl⟩ rfl rfl rfl (Nat.le_of_ble_eq_true rfl) dL_does_182 ⟨Nat.le_of_ble_eq_true rfl, Nat.le_of_ble_eq_true rfl⟩) (fun r_182 y_182 H locs hw hP hD hS => ?_)
    have hP : va_P G.1 vwCl (pW G a sa (cWe C0 q_12 (nI q_179)) (pSv P0 C0) y_182) H := hP
    have hD : va_D A (pW G a sa (cWe C0 q_12 (nI q_179)) (pSv P0 C0) y_182) := hD
    have hw_182 : r_182 = C0.2.2.1 q_12 := hw
    subst hw_182
    have hc_182 : okC (cWe C0 q_12 (nI q_179)) := okC_we hc (show 0 ≤ (nI q_179) ∧ (nI q_179) ≤ 99 from nI_99 hq_179)
    have hp_182 : okQ (pSv P0 C0) := okQ_sv hp
    rw [hQ]
    exact e_iret (v := C0.2.2.1 q_12) ((cWe C0 q_12 (nI q_179)), (pSv P0 C0), y_182) hx hb hr hlocks (⟨(nn_we hc (Nat.le_of_lt_succ hq_12)).1, hc_182, hp_182⟩) hK hP hD hS dL_does_185
  · skip
    refine lv_tableIn (x := nI 9) (off := 145) (tgt := 186) hx hb dL_does_41 (by decide) (by decide) rfl (by decide) ?_
    refine lv_aload_n hx hb dL_does_186 rfl (lv_at hl 4 rfl) ?_
    refine lv_iload_n hx hb dL_does_187 rfl (lv_at hl 2 rfl) ?_
    refine lv_iload_n hx hb dL_does_188 rfl (lv_at hl 5 rfl) ?_
    refine lv_bipush (v := 9) hx hb dL_does_189 (by decide) ?_
    refine lv_ishr hx hb dL_does_191 ?_
    refine lv_bipush (v := 60) hx hb dL_does_192 (by decide) ?_
    refine e_ci (w2 := fun (z : YS) => pW G a sa C0 P0 z) hD hS hA (e_S (n := 2) (As := [.int (v >>> (9 &&& 31)), .int 60]) (rest := [.int (nI q_12), .ref (a 0)]) hx hb hml hown hts hK hP hD hl (p_low l G a sa C0 P0 y_32 (v >>> (9 &&& 31)) 60 H.size hc hp (by first | assumption | omega | decide) (by first | assumption | omega | decide)) gL_does_L_low rfl rfl rfl (by decide +kernel) rfl ⟨Nat.le_of_ble_eq_true rfl, Nat.le_of_ble_eq_true rfl⟩ rfl (Nat.le_of_ble_eq_true rfl) dL_does_194 ⟨Nat.le_of_ble_eq_true rfl, Nat.le_of_ble_eq_true rfl⟩) (fun r_194 y_194 H locs hw hP hD hS => ?_)
    obtain ⟨y_194, e9⟩ : ∃ z, z = y_194 := ⟨_, rfl⟩; subst e9
    have hP : va_P G.1 vwCl (pW G a sa C0 P0 y_194) H := hP
    have hD : va_D A (pW G a sa C0 P0 y_194) := hD
    obtain ⟨q_194, hq_194, e9⟩ := hw
    subst e9
    refine e_ci (w2 := fun (z : YS) => pW G a sa (cHa C0 q_12 (nI q_194)) (pSv P0 C0) z) hD hS hA (e_V (n := 2) (ci := 5) (q0 := 0) (As := [.int (nI q_12), .int (nI q_194)]) (rest := []) hx hb hml hown hts hK hP hD hl (p_hanger l G a sa C0 P0 y_194 q_12 (nI q_194) H.size hc hp (Nat.le_of_lt_succ hq_12) (nI_99 (by omega))) gL_does_X5_hanger rfl rfl rfl (by decide +kernel) rfl ⟨Nat.le_of_ble_eq_true rfl, Nat.le_of_ble_eq_true rfl⟩ rfl rfl rfl (Nat.le_of_ble_eq_true rfl) dL_does_197 ⟨Nat.le_of_ble_eq_true rfl, Nat.le_of_ble_eq_true rfl⟩) (fun r_197 y_197 H locs hw hP hD hS => ?_)
    have hP : va_P G.1 vwCl (pW G a sa (cHa C0 q_12 (nI q_194)) (pSv P0 C0) y_197) H := hP
    have hD : va_D A (pW G a sa (cHa C0 q_12 (nI q_194)) (pSv P0 C0) y_197) := hD
    have hw_197 : r_197 = C0.2.2.2.1 q_12 := hw
    subst hw_197
    have hc_197 : okC (cHa C0 q_12 (nI q_194)) := okC_ha hc (show 0 ≤ (nI q_194) ∧ (nI q_194) ≤ 99 from nI_99 (by omega))
    have hp_197 : okQ (pSv P0 C0) := okQ_sv hp
    rw [hQ]
    exact e_iret (v := C0.2.2.2.1 q_12) ((cHa C0 q_12 (nI q_194)), (pSv P0 C0), y_197) hx hb hr hlocks (⟨(nn_ha hc (Nat.le_of_lt_succ hq_12)).1, hc_197, hp_197⟩) hK hP hD hS dL_does_200
  · skip
    refine lv_tableIn (x := nI 10) (off := 160) (tgt := 201) hx hb dL_does_41 (by decide) (by decide) rfl (by decide) ?_
    refine lv_aload_n hx hb dL_does_201 rfl (lv_at hl 4 rfl) ?_
    refine lv_iload_n hx hb dL_does_202 rfl (lv_at hl 2 rfl) ?_
    refine lv_iload_n hx hb dL_does_203 rfl (lv_at hl 5 rfl) ?_
    refine lv_bipush (v := 9) hx hb dL_does_204 (by decide) ?_
    refine lv_ishr hx hb dL_does_206 ?_
    refine lv_bipush (v := 60) hx hb dL_does_207 (by decide) ?_
    refine e_ci (w2 := fun (z : YS) => pW G a sa C0 P0 z) hD hS hA (e_S (n := 2) (As := [.int (v >>> (9 &&& 31)), .int 60]) (rest := [.int (nI q_12), .ref (a 0)]) hx hb hml hown hts hK hP hD hl (p_low l G a sa C0 P0 y_32 (v >>> (9 &&& 31)) 60 H.size hc hp (by first | assumption | omega | decide) (by first | assumption | omega | decide)) gL_does_L_low rfl rfl rfl (by decide +kernel) rfl ⟨Nat.le_of_ble_eq_true rfl, Nat.le_of_ble_eq_true rfl⟩ rfl (Nat.le_of_ble_eq_true rfl) dL_does_209 ⟨Nat.le_of_ble_eq_true rfl, Nat.le_of_ble_eq_true rfl⟩) (fun r_209 y_209 H locs hw hP hD hS => ?_)
    obtain ⟨y_209, e9⟩ : ∃ z, z = y_209 := ⟨_, rfl⟩; subst e9
    have hP : va_P G.1 vwCl (pW G a sa C0 P0 y_209) H := hP
    have hD : va_D A (pW G a sa C0 P0 y_209) := hD
    obtain ⟨q_209, hq_209, e9⟩ := hw
    subst e9
    refine e_ci (w2 := fun (z : YS) => pW G a sa (cPr C0 q_12 (nI q_209)) (pSv P0 C0) z) hD hS hA (e_V (n := 2) (ci := 5) (q0 := 0) (As := [.int (nI q_12), .int (nI q_209)]) (rest := []) hx hb hml hown hts hK hP hD hl (p_prop l G a sa C0 P0 y_209 q_12 (nI q_209) H.size hc hp (Nat.le_of_lt_succ hq_12) (nI_99 (by omega))) gL_does_X5_prop rfl rfl rfl (by decide +kernel) rfl ⟨Nat.le_of_ble_eq_true rfl, Nat.le_of_ble_eq_true rfl⟩ rfl rfl rfl (Nat.le_of_ble_eq_true rfl) dL_does_212 ⟨Nat.le_of_ble_eq_true rfl, Nat.le_of_ble_eq_true rfl⟩) (fun r_212 y_212 H locs hw hP hD hS => ?_)
    have hP : va_P G.1 vwCl (pW G a sa (cPr C0 q_12 (nI q_209)) (pSv P0 C0) y_212) H := hP
    have hD : va_D A (pW G a sa (cPr C0 q_12 (nI q_209)) (pSv P0 C0) y_212) := hD
    have hw_212 : r_212 = C0.2.2.2.2.1 q_12 := hw
    subst hw_212
    have hc_212 : okC (cPr C0 q_12 (nI q_209)) := okC_pr hc (show 0 ≤ (nI q_209) ∧ (nI q_209) ≤ 99 from nI_99 (by omega))
    have hp_212 : okQ (pSv P0 C0) := okQ_sv hp
    rw [hQ]
    exact e_iret (v := C0.2.2.2.2.1 q_12) ((cPr C0 q_12 (nI q_209)), (pSv P0 C0), y_212) hx hb hr hlocks (⟨(nn_pr hc (Nat.le_of_lt_succ hq_12)).1, hc_212, hp_212⟩) hK hP hD hS dL_does_215
  · skip
    refine lv_tableIn (x := nI 11) (off := 175) (tgt := 216) hx hb dL_does_41 (by decide) (by decide) rfl (by decide) ?_
    refine lv_iload_n hx hb dL_does_216 rfl (lv_at hl 2 rfl) ?_
    refine lv_iload hx hb dL_does_217 (lv_at hl 1 rfl) ?_
    refine g_icmp_ne (a := q_12) (b := q_23) (tgt := 226) hx hb (by omega) (by omega) dL_does_219 (by decide) (fun c_219 => ?_) (fun c_219 => ?_)
    · skip
      refine lv_aload_n hx hb dL_does_226 rfl (lv_at hl 4 rfl) ?_
      refine lv_iload_n hx hb dL_does_227 rfl (lv_at hl 2 rfl) ?_
      refine lv_iload hx hb dL_does_228 (lv_at hl 1 rfl) ?_
      refine e_ci (w2 := fun (z : YS) => pW G a sa (cMv C0 q_12 q_23) (pSv P0 C0) z) hD hS hA (e_V (n := 2) (ci := 5) (q0 := 0) (As := [.int (nI q_12), .int (nI q_23)]) (rest := []) hx hb hml hown hts hK hP hD hl (p_move l G a sa C0 P0 y_32 q_12 q_23 H.size hc hp (Nat.le_of_lt_succ hq_12) (Nat.le_of_lt_succ hq_23) (c_219)) gL_does_X5_move rfl rfl rfl (by decide +kernel) rfl ⟨Nat.le_of_ble_eq_true rfl, Nat.le_of_ble_eq_true rfl⟩ rfl rfl rfl (Nat.le_of_ble_eq_true rfl) dL_does_230 ⟨Nat.le_of_ble_eq_true rfl, Nat.le_of_ble_eq_true rfl⟩) (fun r_230 y_230 H locs hw hP hD hS => ?_)
      have hP : va_P G.1 vwCl (pW G a sa (cMv C0 q_12 q_23) (pSv P0 C0) y_230) H := hP
      have hD : va_D A (pW G a sa (cMv C0 q_12 q_23) (pSv P0 C0) y_230) := hD
      have hw_230 : r_230 = mvBy C0.2.2.1 q_12 q_23 := hw
      subst hw_230
      have hc_230 : okC (cMv C0 q_12 q_23) := okC_mv hc (show q_12 ≤ C0.1 from Nat.le_of_lt_succ hq_12) (show q_23 ≤ C0.1 from Nat.le_of_lt_succ hq_23) (show q_12 ≠ q_23 from c_219)
      have hp_230 : okQ (pSv P0 C0) := okQ_sv hp
      rw [hQ]
      exact e_iret (v := mvBy C0.2.2.1 q_12 q_23) ((cMv C0 q_12 q_23), (pSv P0 C0), y_230) hx hb hr hlocks (⟨by first | decide | exact nn_move hc (Nat.le_of_lt_succ hq_12) (Nat.le_of_lt_succ hq_23), hc_230, hp_230⟩) hK hP hD hS dL_does_233
    · skip
      refine lv_iconst (v := 0) hx hb dL_does_222 (by decide) ?_
      refine lv_goto (tgt := 233) hx hb dL_does_223 (by decide) ?_
      rw [hQ]
      exact e_iret (v := 0) (C0, P0, y_32) hx hb hr hlocks (⟨by first | decide | exact nn_move hc (Nat.le_of_lt_succ hq_12) (Nat.le_of_lt_succ hq_23), hc, hp⟩) hK hP hD hS dL_does_233
  · skip
    refine lv_tableOut (x := nI 12) (tgt := 234) hx hb dL_does_41 (by decide) (by decide) ?_
    refine lv_iload_n hx hb dL_does_234 rfl (lv_at hl 5 rfl) ?_
    refine lv_iconst (v := 4) hx hb dL_does_235 (by decide) ?_
    refine lv_ishr hx hb dL_does_236 ?_
    refine lv_iconst (v := 4) hx hb dL_does_237 (by decide) ?_
    refine e_ci (w2 := fun (z : YS) => pW G a sa C0 P0 z) hD hS hA (e_S (n := 2) (As := [.int (v >>> (4 &&& 31)), .int 4]) (rest := []) hx hb hml hown hts hK hP hD hl (p_low l G a sa C0 P0 y_32 (v >>> (4 &&& 31)) 4 H.size hc hp (by first | assumption | omega | decide) (by first | assumption | omega | decide)) gL_does_L_low rfl rfl rfl (by decide +kernel) rfl ⟨Nat.le_of_ble_eq_true rfl, Nat.le_of_ble_eq_true rfl⟩ rfl (Nat.le_of_ble_eq_true rfl) dL_does_238 ⟨Nat.le_of_ble_eq_true rfl, Nat.le_of_ble_eq_true rfl⟩) (fun r_238 y_238 H locs hw hP hD hS => ?_)
    obtain ⟨y_238, e9⟩ : ∃ z, z = y_238 := ⟨_, rfl⟩; subst e9
    have hP : va_P G.1 vwCl (pW G a sa C0 P0 y_238) H := hP
    have hD : va_D A (pW G a sa C0 P0 y_238) := hD
    obtain ⟨q_238, hq_238, e9⟩ := hw
    subst e9
    refine lv_istore (lv' := [(6, .int (nI q_238)), (5, .int (nI q_32)), (4, .int (nI q_23)), (3, .int (nI q_12)), (2, .int (nI C0.1)), (0, .ref (a 0)), (1, .int v)]) hx hb dL_does_241 hl (by decide) rfl (fun ls hl => ?_)
    refine lv_aload_n hx hb dL_does_243 rfl (lv_at hl 5 rfl) ?_
    refine lv_iload hx hb dL_does_244 (lv_at hl 0 rfl) ?_
    refine lv_iload hx hb dL_does_246 (lv_at hl 0 rfl) ?_
    refine lv_iconst (v := 1) hx hb dL_does_248 (by decide) ?_
    refine g_icmp_ne (a := q_238) (b := 1) (tgt := 267) hx hb (by omega) (by omega) dL_does_249 (by decide) (fun c_249 => ?_) (fun c_249 => ?_)
    · skip
      refine lv_iload hx hb dL_does_267 (lv_at hl 0 rfl) ?_
      refine lv_iconst (v := 3) hx hb dL_does_269 (by decide) ?_
      refine g_icmp_ne (a := q_238) (b := 3) (tgt := 288) hx hb (by omega) (by omega) dL_does_270 (by decide) (fun c_270 => ?_) (fun c_270 => ?_)
      · skip
        refine lv_iload_n hx hb dL_does_288 rfl (lv_at hl 6 rfl) ?_
        refine lv_bipush (v := 6) hx hb dL_does_289 (by decide) ?_
        refine lv_ishr hx hb dL_does_291 ?_
        refine lv_bipush (v := 21) hx hb dL_does_292 (by decide) ?_
        refine e_ci (w2 := fun (z : YS) => pW G a sa C0 P0 z) hD hS hA (e_S (n := 2) (As := [.int (v >>> (6 &&& 31)), .int 21]) (rest := [.int (nI q_238), .ref (a 0)]) hx hb hml hown hts hK hP hD hl (p_low l G a sa C0 P0 y_238 (v >>> (6 &&& 31)) 21 H.size hc hp (by first | assumption | omega | decide) (by first | assumption | omega | decide)) gL_does_L_low rfl rfl rfl (by decide +kernel) rfl ⟨Nat.le_of_ble_eq_true rfl, Nat.le_of_ble_eq_true rfl⟩ rfl (Nat.le_of_ble_eq_true rfl) dL_does_294 ⟨Nat.le_of_ble_eq_true rfl, Nat.le_of_ble_eq_true rfl⟩) (fun r_294 y_294 H locs hw hP hD hS => ?_)
        obtain ⟨y_294, e9⟩ : ∃ z, z = y_294 := ⟨_, rfl⟩; subst e9
        have hP : va_P G.1 vwCl (pW G a sa C0 P0 y_294) H := hP
        have hD : va_D A (pW G a sa C0 P0 y_294) := hD
        obtain ⟨q_294, hq_294, e9⟩ := hw
        subst e9
        refine e_ci (w2 := fun (z : YS) => pW G a sa (cSe C0 q_238 (nI q_294)) (pSv P0 C0) z) hD hS hA (e_V (n := 2) (ci := 5) (q0 := 0) (As := [.int (nI q_238), .int (nI q_294)]) (rest := []) hx hb hml hown hts hK hP hD hl (p_set l G a sa C0 P0 y_294 q_238 (nI q_294) H.size hc hp (by first | exact hq_238 | decide) (by first | exact set_1 hq_258 | exact set_3 hq_281 | exact set_o hq_238 c_249 c_270 hq_294)) gL_does_X5_set rfl rfl rfl (by decide +kernel) rfl ⟨Nat.le_of_ble_eq_true rfl, Nat.le_of_ble_eq_true rfl⟩ rfl rfl rfl (Nat.le_of_ble_eq_true rfl) dL_does_297 ⟨Nat.le_of_ble_eq_true rfl, Nat.le_of_ble_eq_true rfl⟩) (fun r_297 y_297 H locs hw hP hD hS => ?_)
        have hP : va_P G.1 vwCl (pW G a sa (cSe C0 q_238 (nI q_294)) (pSv P0 C0) y_297) H := hP
        have hD : va_D A (pW G a sa (cSe C0 q_238 (nI q_294)) (pSv P0 C0) y_297) := hD
        have hw_297 : r_297 = C0.2.2.2.2.2 q_238 + 100 := hw
        subst hw_297
        have hc_297 : okC (cSe C0 q_238 (nI q_294)) := okC_se hc (show sLow (nI q_238) ≤ (nI q_294) ∧ (nI q_294) ≤ sHigh (nI q_238) from by first | exact set_1 hq_258 | exact set_3 hq_281 | exact set_o hq_238 c_249 c_270 hq_294) (show q_238 < 4 from by first | exact hq_238 | decide)
        have hp_297 : okQ (pSv P0 C0) := okQ_sv hp
        rw [hQ]
        exact e_iret (v := C0.2.2.2.2.2 q_238 + 100) ((cSe C0 q_238 (nI q_294)), (pSv P0 C0), y_297) hx hb hr hlocks (⟨nn_set hc (by first | exact hq_238 | decide), hc_297, hp_297⟩) hK hP hD hS dL_does_300
      · skip
        subst c_270
        refine lv_iconst (v := 1) hx hb dL_does_273 (by decide) ?_
        refine lv_iload_n hx hb dL_does_274 rfl (lv_at hl 6 rfl) ?_
        refine lv_bipush (v := 6) hx hb dL_does_275 (by decide) ?_
        refine lv_ishr hx hb dL_does_277 ?_
        refine lv_sipush (v := 300) hx hb dL_does_278 (by decide) ?_
        refine e_ci (w2 := fun (z : YS) => pW G a sa C0 P0 z) hD hS hA (e_S (n := 2) (As := [.int (v >>> (6 &&& 31)), .int 300]) (rest := [.int 1, .int (nI 3), .ref (a 0)]) hx hb hml hown hts hK hP hD hl (p_low l G a sa C0 P0 y_238 (v >>> (6 &&& 31)) 300 H.size hc hp (by first | assumption | omega | decide) (by first | assumption | omega | decide)) gL_does_L_low rfl rfl rfl (by decide +kernel) rfl ⟨Nat.le_of_ble_eq_true rfl, Nat.le_of_ble_eq_true rfl⟩ rfl (Nat.le_of_ble_eq_true rfl) dL_does_281 ⟨Nat.le_of_ble_eq_true rfl, Nat.le_of_ble_eq_true rfl⟩) (fun r_281 y_281 H locs hw hP hD hS => ?_)
        obtain ⟨y_281, e9⟩ : ∃ z, z = y_281 := ⟨_, rfl⟩; subst e9
        have hP : va_P G.1 vwCl (pW G a sa C0 P0 y_281) H := hP
        have hD : va_D A (pW G a sa C0 P0 y_281) := hD
        obtain ⟨q_281, hq_281, e9⟩ := hw
        subst e9
        refine lv_iadd hx hb dL_does_284 ?_
        refine g_ti (y := nI (1 + q_281)) (nI_add (1) (q_281)) ?_
        refine lv_goto (tgt := 297) hx hb dL_does_285 (by decide) ?_
        refine e_ci (w2 := fun (z : YS) => pW G a sa (cSe C0 3 (nI (1 + q_281))) (pSv P0 C0) z) hD hS hA (e_V (n := 2) (ci := 5) (q0 := 0) (As := [.int (nI 3), .int (nI (1 + q_281))]) (rest := []) hx hb hml hown hts hK hP hD hl (p_set l G a sa C0 P0 y_281 3 (nI (1 + q_281)) H.size hc hp (by first | exact hq_238 | decide) (by first | exact set_1 hq_258 | exact set_3 hq_281 | exact set_o hq_238 c_249 c_270 hq_294)) gL_does_X5_set rfl rfl rfl (by decide +kernel) rfl ⟨Nat.le_of_ble_eq_true rfl, Nat.le_of_ble_eq_true rfl⟩ rfl rfl rfl (Nat.le_of_ble_eq_true rfl) dL_does_297 ⟨Nat.le_of_ble_eq_true rfl, Nat.le_of_ble_eq_true rfl⟩) (fun r_297 y_297 H locs hw hP hD hS => ?_)
        have hP : va_P G.1 vwCl (pW G a sa (cSe C0 3 (nI (1 + q_281))) (pSv P0 C0) y_297) H := hP
        have hD : va_D A (pW G a sa (cSe C0 3 (nI (1 + q_281))) (pSv P0 C0) y_297) := hD
        have hw_297 : r_297 = C0.2.2.2.2.2 3 + 100 := hw
        subst hw_297
        have hc_297 : okC (cSe C0 3 (nI (1 + q_281))) := okC_se hc (show sLow (nI 3) ≤ (nI (1 + q_281)) ∧ (nI (1 + q_281)) ≤ sHigh (nI 3) from by first | exact set_1 hq_258 | exact set_3 hq_281 | exact set_o hq_238 c_249 c_270 hq_294) (show 3 < 4 from by first | exact hq_238 | decide)
        have hp_297 : okQ (pSv P0 C0) := okQ_sv hp
        rw [hQ]
        exact e_iret (v := C0.2.2.2.2.2 3 + 100) ((cSe C0 3 (nI (1 + q_281))), (pSv P0 C0), y_297) hx hb hr hlocks (⟨nn_set hc (by first | exact hq_238 | decide), hc_297, hp_297⟩) hK hP hD hS dL_does_300
    · skip
      subst c_249
      refine lv_iload_n hx hb dL_does_252 rfl (lv_at hl 6 rfl) ?_
      refine lv_bipush (v := 6) hx hb dL_does_253 (by decide) ?_
      refine lv_ishr hx hb dL_does_255 ?_
      refine lv_bipush (v := 13) hx hb dL_does_256 (by decide) ?_
      refine e_ci (w2 := fun (z : YS) => pW G a sa C0 P0 z) hD hS hA (e_S (n := 2) (As := [.int (v >>> (6 &&& 31)), .int 13]) (rest := [.int (nI 1), .ref (a 0)]) hx hb hml hown hts hK hP hD hl (p_low l G a sa C0 P0 y_238 (v >>> (6 &&& 31)) 13 H.size hc hp (by first | assumption | omega | decide) (by first | assumption | omega | decide)) gL_does_L_low rfl rfl rfl (by decide +kernel) rfl ⟨Nat.le_of_ble_eq_true rfl, Nat.le_of_ble_eq_true rfl⟩ rfl (Nat.le_of_ble_eq_true rfl) dL_does_258 ⟨Nat.le_of_ble_eq_true rfl, Nat.le_of_ble_eq_true rfl⟩) (fun r_258 y_258 H locs hw hP hD hS => ?_)
      obtain ⟨y_258, e9⟩ : ∃ z, z = y_258 := ⟨_, rfl⟩; subst e9
      have hP : va_P G.1 vwCl (pW G a sa C0 P0 y_258) H := hP
      have hD : va_D A (pW G a sa C0 P0 y_258) := hD
      obtain ⟨q_258, hq_258, e9⟩ := hw
      subst e9
      refine lv_bipush (v := 6) hx hb dL_does_261 (by decide) ?_
      refine lv_isub hx hb dL_does_263 ?_
      refine lv_goto (tgt := 297) hx hb dL_does_264 (by decide) ?_
      refine e_ci (w2 := fun (z : YS) => pW G a sa (cSe C0 1 ((nI q_258) - 6)) (pSv P0 C0) z) hD hS hA (e_V (n := 2) (ci := 5) (q0 := 0) (As := [.int (nI 1), .int ((nI q_258) - 6)]) (rest := []) hx hb hml hown hts hK hP hD hl (p_set l G a sa C0 P0 y_258 1 ((nI q_258) - 6) H.size hc hp (by first | exact hq_238 | decide) (by first | exact set_1 hq_258 | exact set_3 hq_281 | exact set_o hq_238 c_249 c_270 hq_294)) gL_does_X5_set rfl rfl rfl (by decide +kernel) rfl ⟨Nat.le_of_ble_eq_true rfl, Nat.le_of_ble_eq_true rfl⟩ rfl rfl rfl (Nat.le_of_ble_eq_true rfl) dL_does_297 ⟨Nat.le_of_ble_eq_true rfl, Nat.le_of_ble_eq_true rfl⟩) (fun r_297 y_297 H locs hw hP hD hS => ?_)
      have hP : va_P G.1 vwCl (pW G a sa (cSe C0 1 ((nI q_258) - 6)) (pSv P0 C0) y_297) H := hP
      have hD : va_D A (pW G a sa (cSe C0 1 ((nI q_258) - 6)) (pSv P0 C0) y_297) := hD
      have hw_297 : r_297 = C0.2.2.2.2.2 1 + 100 := hw
      subst hw_297
      have hc_297 : okC (cSe C0 1 ((nI q_258) - 6)) := okC_se hc (show sLow (nI 1) ≤ ((nI q_258) - 6) ∧ ((nI q_258) - 6) ≤ sHigh (nI 1) from by first | exact set_1 hq_258 | exact set_3 hq_281 | exact set_o hq_238 c_249 c_270 hq_294) (show 1 < 4 from by first | exact hq_238 | decide)
      have hp_297 : okQ (pSv P0 C0) := okQ_sv hp
      rw [hQ]
      exact e_iret (v := C0.2.2.2.2.2 1 + 100) ((cSe C0 1 ((nI q_258) - 6)), (pSv P0 C0), y_297) hx hb hr hlocks (⟨nn_set hc (by first | exact hq_238 | decide), hc_297, hp_297⟩) hK hP hD hS dL_does_300
  · skip
    refine lv_tableOut (x := nI 13) (tgt := 234) hx hb dL_does_41 (by decide) (by decide) ?_
    refine lv_iload_n hx hb dL_does_234 rfl (lv_at hl 5 rfl) ?_
    refine lv_iconst (v := 4) hx hb dL_does_235 (by decide) ?_
    refine lv_ishr hx hb dL_does_236 ?_
    refine lv_iconst (v := 4) hx hb dL_does_237 (by decide) ?_
    refine e_ci (w2 := fun (z : YS) => pW G a sa C0 P0 z) hD hS hA (e_S (n := 2) (As := [.int (v >>> (4 &&& 31)), .int 4]) (rest := []) hx hb hml hown hts hK hP hD hl (p_low l G a sa C0 P0 y_32 (v >>> (4 &&& 31)) 4 H.size hc hp (by first | assumption | omega | decide) (by first | assumption | omega | decide)) gL_does_L_low rfl rfl rfl (by decide +kernel) rfl ⟨Nat.le_of_ble_eq_true rfl, Nat.le_of_ble_eq_true rfl⟩ rfl (Nat.le_of_ble_eq_true rfl) dL_does_238 ⟨Nat.le_of_ble_eq_true rfl, Nat.le_of_ble_eq_true rfl⟩) (fun r_238 y_238 H locs hw hP hD hS => ?_)
    obtain ⟨y_238, e9⟩ : ∃ z, z = y_238 := ⟨_, rfl⟩; subst e9
    have hP : va_P G.1 vwCl (pW G a sa C0 P0 y_238) H := hP
    have hD : va_D A (pW G a sa C0 P0 y_238) := hD
    obtain ⟨q_238, hq_238, e9⟩ := hw
    subst e9
    refine lv_istore (lv' := [(6, .int (nI q_238)), (5, .int (nI q_32)), (4, .int (nI q_23)), (3, .int (nI q_12)), (2, .int (nI C0.1)), (0, .ref (a 0)), (1, .int v)]) hx hb dL_does_241 hl (by decide) rfl (fun ls hl => ?_)
    refine lv_aload_n hx hb dL_does_243 rfl (lv_at hl 5 rfl) ?_
    refine lv_iload hx hb dL_does_244 (lv_at hl 0 rfl) ?_
    refine lv_iload hx hb dL_does_246 (lv_at hl 0 rfl) ?_
    refine lv_iconst (v := 1) hx hb dL_does_248 (by decide) ?_
    refine g_icmp_ne (a := q_238) (b := 1) (tgt := 267) hx hb (by omega) (by omega) dL_does_249 (by decide) (fun c_249 => ?_) (fun c_249 => ?_)
    · skip
      refine lv_iload hx hb dL_does_267 (lv_at hl 0 rfl) ?_
      refine lv_iconst (v := 3) hx hb dL_does_269 (by decide) ?_
      refine g_icmp_ne (a := q_238) (b := 3) (tgt := 288) hx hb (by omega) (by omega) dL_does_270 (by decide) (fun c_270 => ?_) (fun c_270 => ?_)
      · skip
        refine lv_iload_n hx hb dL_does_288 rfl (lv_at hl 6 rfl) ?_
        refine lv_bipush (v := 6) hx hb dL_does_289 (by decide) ?_
        refine lv_ishr hx hb dL_does_291 ?_
        refine lv_bipush (v := 21) hx hb dL_does_292 (by decide) ?_
        refine e_ci (w2 := fun (z : YS) => pW G a sa C0 P0 z) hD hS hA (e_S (n := 2) (As := [.int (v >>> (6 &&& 31)), .int 21]) (rest := [.int (nI q_238), .ref (a 0)]) hx hb hml hown hts hK hP hD hl (p_low l G a sa C0 P0 y_238 (v >>> (6 &&& 31)) 21 H.size hc hp (by first | assumption | omega | decide) (by first | assumption | omega | decide)) gL_does_L_low rfl rfl rfl (by decide +kernel) rfl ⟨Nat.le_of_ble_eq_true rfl, Nat.le_of_ble_eq_true rfl⟩ rfl (Nat.le_of_ble_eq_true rfl) dL_does_294 ⟨Nat.le_of_ble_eq_true rfl, Nat.le_of_ble_eq_true rfl⟩) (fun r_294 y_294 H locs hw hP hD hS => ?_)
        obtain ⟨y_294, e9⟩ : ∃ z, z = y_294 := ⟨_, rfl⟩; subst e9
        have hP : va_P G.1 vwCl (pW G a sa C0 P0 y_294) H := hP
        have hD : va_D A (pW G a sa C0 P0 y_294) := hD
        obtain ⟨q_294, hq_294, e9⟩ := hw
        subst e9
        refine e_ci (w2 := fun (z : YS) => pW G a sa (cSe C0 q_238 (nI q_294)) (pSv P0 C0) z) hD hS hA (e_V (n := 2) (ci := 5) (q0 := 0) (As := [.int (nI q_238), .int (nI q_294)]) (rest := []) hx hb hml hown hts hK hP hD hl (p_set l G a sa C0 P0 y_294 q_238 (nI q_294) H.size hc hp (by first | exact hq_238 | decide) (by first | exact set_1 hq_258 | exact set_3 hq_281 | exact set_o hq_238 c_249 c_270 hq_294)) gL_does_X5_set rfl rfl rfl (by decide +kernel) rfl ⟨Nat.le_of_ble_eq_true rfl, Nat.le_of_ble_eq_true rfl⟩ rfl rfl rfl (Nat.le_of_ble_eq_true rfl) dL_does_297 ⟨Nat.le_of_ble_eq_true rfl, Nat.le_of_ble_eq_true rfl⟩) (fun r_297 y_297 H locs hw hP hD hS => ?_)
        have hP : va_P G.1 vwCl (pW G a sa (cSe C0 q_238 (nI q_294)) (pSv P0 C0) y_297) H := hP
        have hD : va_D A (pW G a sa (cSe C0 q_238 (nI q_294)) (pSv P0 C0) y_297) := hD
        have hw_297 : r_297 = C0.2.2.2.2.2 q_238 + 100 := hw
        subst hw_297
        have hc_297 : okC (cSe C0 q_238 (nI q_294)) := okC_se hc (show sLow (nI q_238) ≤ (nI q_294) ∧ (nI q_294) ≤ sHigh (nI q_238) from by first | exact set_1 hq_258 | exact set_3 hq_281 | exact set_o hq_238 c_249 c_270 hq_294) (show q_238 < 4 from by first | exact hq_238 | decide)
        have hp_297 : okQ (pSv P0 C0) := okQ_sv hp
        rw [hQ]
        exact e_iret (v := C0.2.2.2.2.2 q_238 + 100) ((cSe C0 q_238 (nI q_294)), (pSv P0 C0), y_297) hx hb hr hlocks (⟨nn_set hc (by first | exact hq_238 | decide), hc_297, hp_297⟩) hK hP hD hS dL_does_300
      · skip
        subst c_270
        refine lv_iconst (v := 1) hx hb dL_does_273 (by decide) ?_
        refine lv_iload_n hx hb dL_does_274 rfl (lv_at hl 6 rfl) ?_
        refine lv_bipush (v := 6) hx hb dL_does_275 (by decide) ?_
        refine lv_ishr hx hb dL_does_277 ?_
        refine lv_sipush (v := 300) hx hb dL_does_278 (by decide) ?_
        refine e_ci (w2 := fun (z : YS) => pW G a sa C0 P0 z) hD hS hA (e_S (n := 2) (As := [.int (v >>> (6 &&& 31)), .int 300]) (rest := [.int 1, .int (nI 3), .ref (a 0)]) hx hb hml hown hts hK hP hD hl (p_low l G a sa C0 P0 y_238 (v >>> (6 &&& 31)) 300 H.size hc hp (by first | assumption | omega | decide) (by first | assumption | omega | decide)) gL_does_L_low rfl rfl rfl (by decide +kernel) rfl ⟨Nat.le_of_ble_eq_true rfl, Nat.le_of_ble_eq_true rfl⟩ rfl (Nat.le_of_ble_eq_true rfl) dL_does_281 ⟨Nat.le_of_ble_eq_true rfl, Nat.le_of_ble_eq_true rfl⟩) (fun r_281 y_281 H locs hw hP hD hS => ?_)
        obtain ⟨y_281, e9⟩ : ∃ z, z = y_281 := ⟨_, rfl⟩; subst e9
        have hP : va_P G.1 vwCl (pW G a sa C0 P0 y_281) H := hP
        have hD : va_D A (pW G a sa C0 P0 y_281) := hD
        obtain ⟨q_281, hq_281, e9⟩ := hw
        subst e9
        refine lv_iadd hx hb dL_does_284 ?_
        refine g_ti (y := nI (1 + q_281)) (nI_add (1) (q_281)) ?_
        refine lv_goto (tgt := 297) hx hb dL_does_285 (by decide) ?_
        refine e_ci (w2 := fun (z : YS) => pW G a sa (cSe C0 3 (nI (1 + q_281))) (pSv P0 C0) z) hD hS hA (e_V (n := 2) (ci := 5) (q0 := 0) (As := [.int (nI 3), .int (nI (1 + q_281))]) (rest := []) hx hb hml hown hts hK hP hD hl (p_set l G a sa C0 P0 y_281 3 (nI (1 + q_281)) H.size hc hp (by first | exact hq_238 | decide) (by first | exact set_1 hq_258 | exact set_3 hq_281 | exact set_o hq_238 c_249 c_270 hq_294)) gL_does_X5_set rfl rfl rfl (by decide +kernel) rfl ⟨Nat.le_of_ble_eq_true rfl, Nat.le_of_ble_eq_true rfl⟩ rfl rfl rfl (Nat.le_of_ble_eq_true rfl) dL_does_297 ⟨Nat.le_of_ble_eq_true rfl, Nat.le_of_ble_eq_true rfl⟩) (fun r_297 y_297 H locs hw hP hD hS => ?_)
        have hP : va_P G.1 vwCl (pW G a sa (cSe C0 3 (nI (1 + q_281))) (pSv P0 C0) y_297) H := hP
        have hD : va_D A (pW G a sa (cSe C0 3 (nI (1 + q_281))) (pSv P0 C0) y_297) := hD
        have hw_297 : r_297 = C0.2.2.2.2.2 3 + 100 := hw
        subst hw_297
        have hc_297 : okC (cSe C0 3 (nI (1 + q_281))) := okC_se hc (show sLow (nI 3) ≤ (nI (1 + q_281)) ∧ (nI (1 + q_281)) ≤ sHigh (nI 3) from by first | exact set_1 hq_258 | exact set_3 hq_281 | exact set_o hq_238 c_249 c_270 hq_294) (show 3 < 4 from by first | exact hq_238 | decide)
        have hp_297 : okQ (pSv P0 C0) := okQ_sv hp
        rw [hQ]
        exact e_iret (v := C0.2.2.2.2.2 3 + 100) ((cSe C0 3 (nI (1 + q_281))), (pSv P0 C0), y_297) hx hb hr hlocks (⟨nn_set hc (by first | exact hq_238 | decide), hc_297, hp_297⟩) hK hP hD hS dL_does_300
    · skip
      subst c_249
      refine lv_iload_n hx hb dL_does_252 rfl (lv_at hl 6 rfl) ?_
      refine lv_bipush (v := 6) hx hb dL_does_253 (by decide) ?_
      refine lv_ishr hx hb dL_does_255 ?_
      refine lv_bipush (v := 13) hx hb dL_does_256 (by decide) ?_
      refine e_ci (w2 := fun (z : YS) => pW G a sa C0 P0 z) hD hS hA (e_S (n := 2) (As := [.int (v >>> (6 &&& 31)), .int 13]) (rest := [.int (nI 1), .ref (a 0)]) hx hb hml hown hts hK hP hD hl (p_low l G a sa C0 P0 y_238 (v >>> (6 &&& 31)) 13 H.size hc hp (by first | assumption | omega | decide) (by first | assumption | omega | decide)) gL_does_L_low rfl rfl rfl (by decide +kernel) rfl ⟨Nat.le_of_ble_eq_true rfl, Nat.le_of_ble_eq_true rfl⟩ rfl (Nat.le_of_ble_eq_true rfl) dL_does_258 ⟨Nat.le_of_ble_eq_true rfl, Nat.le_of_ble_eq_true rfl⟩) (fun r_258 y_258 H locs hw hP hD hS => ?_)
      obtain ⟨y_258, e9⟩ : ∃ z, z = y_258 := ⟨_, rfl⟩; subst e9
      have hP : va_P G.1 vwCl (pW G a sa C0 P0 y_258) H := hP
      have hD : va_D A (pW G a sa C0 P0 y_258) := hD
      obtain ⟨q_258, hq_258, e9⟩ := hw
      subst e9
      refine lv_bipush (v := 6) hx hb dL_does_261 (by decide) ?_
      refine lv_isub hx hb dL_does_263 ?_
      refine lv_goto (tgt := 297) hx hb dL_does_264 (by decide) ?_
      refine e_ci (w2 := fun (z : YS) => pW G a sa (cSe C0 1 ((nI q_258) - 6)) (pSv P0 C0) z) hD hS hA (e_V (n := 2) (ci := 5) (q0 := 0) (As := [.int (nI 1), .int ((nI q_258) - 6)]) (rest := []) hx hb hml hown hts hK hP hD hl (p_set l G a sa C0 P0 y_258 1 ((nI q_258) - 6) H.size hc hp (by first | exact hq_238 | decide) (by first | exact set_1 hq_258 | exact set_3 hq_281 | exact set_o hq_238 c_249 c_270 hq_294)) gL_does_X5_set rfl rfl rfl (by decide +kernel) rfl ⟨Nat.le_of_ble_eq_true rfl, Nat.le_of_ble_eq_true rfl⟩ rfl rfl rfl (Nat.le_of_ble_eq_true rfl) dL_does_297 ⟨Nat.le_of_ble_eq_true rfl, Nat.le_of_ble_eq_true rfl⟩) (fun r_297 y_297 H locs hw hP hD hS => ?_)
      have hP : va_P G.1 vwCl (pW G a sa (cSe C0 1 ((nI q_258) - 6)) (pSv P0 C0) y_297) H := hP
      have hD : va_D A (pW G a sa (cSe C0 1 ((nI q_258) - 6)) (pSv P0 C0) y_297) := hD
      have hw_297 : r_297 = C0.2.2.2.2.2 1 + 100 := hw
      subst hw_297
      have hc_297 : okC (cSe C0 1 ((nI q_258) - 6)) := okC_se hc (show sLow (nI 1) ≤ ((nI q_258) - 6) ∧ ((nI q_258) - 6) ≤ sHigh (nI 1) from by first | exact set_1 hq_258 | exact set_3 hq_281 | exact set_o hq_238 c_249 c_270 hq_294) (show 1 < 4 from by first | exact hq_238 | decide)
      have hp_297 : okQ (pSv P0 C0) := okQ_sv hp
      rw [hQ]
      exact e_iret (v := C0.2.2.2.2.2 1 + 100) ((cSe C0 1 ((nI q_258) - 6)), (pSv P0 C0), y_297) hx hb hr hlocks (⟨nn_set hc (by first | exact hq_238 | decide), hc_297, hp_297⟩) hK hP hD hS dL_does_300
  · skip
    refine lv_tableOut (x := nI 14) (tgt := 234) hx hb dL_does_41 (by decide) (by decide) ?_
    refine lv_iload_n hx hb dL_does_234 rfl (lv_at hl 5 rfl) ?_
    refine lv_iconst (v := 4) hx hb dL_does_235 (by decide) ?_
    refine lv_ishr hx hb dL_does_236 ?_
    refine lv_iconst (v := 4) hx hb dL_does_237 (by decide) ?_
    refine e_ci (w2 := fun (z : YS) => pW G a sa C0 P0 z) hD hS hA (e_S (n := 2) (As := [.int (v >>> (4 &&& 31)), .int 4]) (rest := []) hx hb hml hown hts hK hP hD hl (p_low l G a sa C0 P0 y_32 (v >>> (4 &&& 31)) 4 H.size hc hp (by first | assumption | omega | decide) (by first | assumption | omega | decide)) gL_does_L_low rfl rfl rfl (by decide +kernel) rfl ⟨Nat.le_of_ble_eq_true rfl, Nat.le_of_ble_eq_true rfl⟩ rfl (Nat.le_of_ble_eq_true rfl) dL_does_238 ⟨Nat.le_of_ble_eq_true rfl, Nat.le_of_ble_eq_true rfl⟩) (fun r_238 y_238 H locs hw hP hD hS => ?_)
    obtain ⟨y_238, e9⟩ : ∃ z, z = y_238 := ⟨_, rfl⟩; subst e9
    have hP : va_P G.1 vwCl (pW G a sa C0 P0 y_238) H := hP
    have hD : va_D A (pW G a sa C0 P0 y_238) := hD
    obtain ⟨q_238, hq_238, e9⟩ := hw
    subst e9
    refine lv_istore (lv' := [(6, .int (nI q_238)), (5, .int (nI q_32)), (4, .int (nI q_23)), (3, .int (nI q_12)), (2, .int (nI C0.1)), (0, .ref (a 0)), (1, .int v)]) hx hb dL_does_241 hl (by decide) rfl (fun ls hl => ?_)
    refine lv_aload_n hx hb dL_does_243 rfl (lv_at hl 5 rfl) ?_
    refine lv_iload hx hb dL_does_244 (lv_at hl 0 rfl) ?_
    refine lv_iload hx hb dL_does_246 (lv_at hl 0 rfl) ?_
    refine lv_iconst (v := 1) hx hb dL_does_248 (by decide) ?_
    refine g_icmp_ne (a := q_238) (b := 1) (tgt := 267) hx hb (by omega) (by omega) dL_does_249 (by decide) (fun c_249 => ?_) (fun c_249 => ?_)
    · skip
      refine lv_iload hx hb dL_does_267 (lv_at hl 0 rfl) ?_
      refine lv_iconst (v := 3) hx hb dL_does_269 (by decide) ?_
      refine g_icmp_ne (a := q_238) (b := 3) (tgt := 288) hx hb (by omega) (by omega) dL_does_270 (by decide) (fun c_270 => ?_) (fun c_270 => ?_)
      · skip
        refine lv_iload_n hx hb dL_does_288 rfl (lv_at hl 6 rfl) ?_
        refine lv_bipush (v := 6) hx hb dL_does_289 (by decide) ?_
        refine lv_ishr hx hb dL_does_291 ?_
        refine lv_bipush (v := 21) hx hb dL_does_292 (by decide) ?_
        refine e_ci (w2 := fun (z : YS) => pW G a sa C0 P0 z) hD hS hA (e_S (n := 2) (As := [.int (v >>> (6 &&& 31)), .int 21]) (rest := [.int (nI q_238), .ref (a 0)]) hx hb hml hown hts hK hP hD hl (p_low l G a sa C0 P0 y_238 (v >>> (6 &&& 31)) 21 H.size hc hp (by first | assumption | omega | decide) (by first | assumption | omega | decide)) gL_does_L_low rfl rfl rfl (by decide +kernel) rfl ⟨Nat.le_of_ble_eq_true rfl, Nat.le_of_ble_eq_true rfl⟩ rfl (Nat.le_of_ble_eq_true rfl) dL_does_294 ⟨Nat.le_of_ble_eq_true rfl, Nat.le_of_ble_eq_true rfl⟩) (fun r_294 y_294 H locs hw hP hD hS => ?_)
        obtain ⟨y_294, e9⟩ : ∃ z, z = y_294 := ⟨_, rfl⟩; subst e9
        have hP : va_P G.1 vwCl (pW G a sa C0 P0 y_294) H := hP
        have hD : va_D A (pW G a sa C0 P0 y_294) := hD
        obtain ⟨q_294, hq_294, e9⟩ := hw
        subst e9
        refine e_ci (w2 := fun (z : YS) => pW G a sa (cSe C0 q_238 (nI q_294)) (pSv P0 C0) z) hD hS hA (e_V (n := 2) (ci := 5) (q0 := 0) (As := [.int (nI q_238), .int (nI q_294)]) (rest := []) hx hb hml hown hts hK hP hD hl (p_set l G a sa C0 P0 y_294 q_238 (nI q_294) H.size hc hp (by first | exact hq_238 | decide) (by first | exact set_1 hq_258 | exact set_3 hq_281 | exact set_o hq_238 c_249 c_270 hq_294)) gL_does_X5_set rfl rfl rfl (by decide +kernel) rfl ⟨Nat.le_of_ble_eq_true rfl, Nat.le_of_ble_eq_true rfl⟩ rfl rfl rfl (Nat.le_of_ble_eq_true rfl) dL_does_297 ⟨Nat.le_of_ble_eq_true rfl, Nat.le_of_ble_eq_true rfl⟩) (fun r_297 y_297 H locs hw hP hD hS => ?_)
        have hP : va_P G.1 vwCl (pW G a sa (cSe C0 q_238 (nI q_294)) (pSv P0 C0) y_297) H := hP
        have hD : va_D A (pW G a sa (cSe C0 q_238 (nI q_294)) (pSv P0 C0) y_297) := hD
        have hw_297 : r_297 = C0.2.2.2.2.2 q_238 + 100 := hw
        subst hw_297
        have hc_297 : okC (cSe C0 q_238 (nI q_294)) := okC_se hc (show sLow (nI q_238) ≤ (nI q_294) ∧ (nI q_294) ≤ sHigh (nI q_238) from by first | exact set_1 hq_258 | exact set_3 hq_281 | exact set_o hq_238 c_249 c_270 hq_294) (show q_238 < 4 from by first | exact hq_238 | decide)
        have hp_297 : okQ (pSv P0 C0) := okQ_sv hp
        rw [hQ]
        exact e_iret (v := C0.2.2.2.2.2 q_238 + 100) ((cSe C0 q_238 (nI q_294)), (pSv P0 C0), y_297) hx hb hr hlocks (⟨nn_set hc (by first | exact hq_238 | decide), hc_297, hp_297⟩) hK hP hD hS dL_does_300
      · skip
        subst c_270
        refine lv_iconst (v := 1) hx hb dL_does_273 (by decide) ?_
        refine lv_iload_n hx hb dL_does_274 rfl (lv_at hl 6 rfl) ?_
        refine lv_bipush (v := 6) hx hb dL_does_275 (by decide) ?_
        refine lv_ishr hx hb dL_does_277 ?_
        refine lv_sipush (v := 300) hx hb dL_does_278 (by decide) ?_
        refine e_ci (w2 := fun (z : YS) => pW G a sa C0 P0 z) hD hS hA (e_S (n := 2) (As := [.int (v >>> (6 &&& 31)), .int 300]) (rest := [.int 1, .int (nI 3), .ref (a 0)]) hx hb hml hown hts hK hP hD hl (p_low l G a sa C0 P0 y_238 (v >>> (6 &&& 31)) 300 H.size hc hp (by first | assumption | omega | decide) (by first | assumption | omega | decide)) gL_does_L_low rfl rfl rfl (by decide +kernel) rfl ⟨Nat.le_of_ble_eq_true rfl, Nat.le_of_ble_eq_true rfl⟩ rfl (Nat.le_of_ble_eq_true rfl) dL_does_281 ⟨Nat.le_of_ble_eq_true rfl, Nat.le_of_ble_eq_true rfl⟩) (fun r_281 y_281 H locs hw hP hD hS => ?_)
        obtain ⟨y_281, e9⟩ : ∃ z, z = y_281 := ⟨_, rfl⟩; subst e9
        have hP : va_P G.1 vwCl (pW G a sa C0 P0 y_281) H := hP
        have hD : va_D A (pW G a sa C0 P0 y_281) := hD
        obtain ⟨q_281, hq_281, e9⟩ := hw
        subst e9
        refine lv_iadd hx hb dL_does_284 ?_
        refine g_ti (y := nI (1 + q_281)) (nI_add (1) (q_281)) ?_
        refine lv_goto (tgt := 297) hx hb dL_does_285 (by decide) ?_
        refine e_ci (w2 := fun (z : YS) => pW G a sa (cSe C0 3 (nI (1 + q_281))) (pSv P0 C0) z) hD hS hA (e_V (n := 2) (ci := 5) (q0 := 0) (As := [.int (nI 3), .int (nI (1 + q_281))]) (rest := []) hx hb hml hown hts hK hP hD hl (p_set l G a sa C0 P0 y_281 3 (nI (1 + q_281)) H.size hc hp (by first | exact hq_238 | decide) (by first | exact set_1 hq_258 | exact set_3 hq_281 | exact set_o hq_238 c_249 c_270 hq_294)) gL_does_X5_set rfl rfl rfl (by decide +kernel) rfl ⟨Nat.le_of_ble_eq_true rfl, Nat.le_of_ble_eq_true rfl⟩ rfl rfl rfl (Nat.le_of_ble_eq_true rfl) dL_does_297 ⟨Nat.le_of_ble_eq_true rfl, Nat.le_of_ble_eq_true rfl⟩) (fun r_297 y_297 H locs hw hP hD hS => ?_)
        have hP : va_P G.1 vwCl (pW G a sa (cSe C0 3 (nI (1 + q_281))) (pSv P0 C0) y_297) H := hP
        have hD : va_D A (pW G a sa (cSe C0 3 (nI (1 + q_281))) (pSv P0 C0) y_297) := hD
        have hw_297 : r_297 = C0.2.2.2.2.2 3 + 100 := hw
        subst hw_297
        have hc_297 : okC (cSe C0 3 (nI (1 + q_281))) := okC_se hc (show sLow (nI 3) ≤ (nI (1 + q_281)) ∧ (nI (1 + q_281)) ≤ sHigh (nI 3) from by first | exact set_1 hq_258 | exact set_3 hq_281 | exact set_o hq_238 c_249 c_270 hq_294) (show 3 < 4 from by first | exact hq_238 | decide)
        have hp_297 : okQ (pSv P0 C0) := okQ_sv hp
        rw [hQ]
        exact e_iret (v := C0.2.2.2.2.2 3 + 100) ((cSe C0 3 (nI (1 + q_281))), (pSv P0 C0), y_297) hx hb hr hlocks (⟨nn_set hc (by first | exact hq_238 | decide), hc_297, hp_297⟩) hK hP hD hS dL_does_300
    · skip
      subst c_249
      refine lv_iload_n hx hb dL_does_252 rfl (lv_at hl 6 rfl) ?_
      refine lv_bipush (v := 6) hx hb dL_does_253 (by decide) ?_
      refine lv_ishr hx hb dL_does_255 ?_
      refine lv_bipush (v := 13) hx hb dL_does_256 (by decide) ?_
      refine e_ci (w2 := fun (z : YS) => pW G a sa C0 P0 z) hD hS hA (e_S (n := 2) (As := [.int (v >>> (6 &&& 31)), .int 13]) (rest := [.int (nI 1), .ref (a 0)]) hx hb hml hown hts hK hP hD hl (p_low l G a sa C0 P0 y_238 (v >>> (6 &&& 31)) 13 H.size hc hp (by first | assumption | omega | decide) (by first | assumption | omega | decide)) gL_does_L_low rfl rfl rfl (by decide +kernel) rfl ⟨Nat.le_of_ble_eq_true rfl, Nat.le_of_ble_eq_true rfl⟩ rfl (Nat.le_of_ble_eq_true rfl) dL_does_258 ⟨Nat.le_of_ble_eq_true rfl, Nat.le_of_ble_eq_true rfl⟩) (fun r_258 y_258 H locs hw hP hD hS => ?_)
      obtain ⟨y_258, e9⟩ : ∃ z, z = y_258 := ⟨_, rfl⟩; subst e9
      have hP : va_P G.1 vwCl (pW G a sa C0 P0 y_258) H := hP
      have hD : va_D A (pW G a sa C0 P0 y_258) := hD
      obtain ⟨q_258, hq_258, e9⟩ := hw
      subst e9
      refine lv_bipush (v := 6) hx hb dL_does_261 (by decide) ?_
      refine lv_isub hx hb dL_does_263 ?_
      refine lv_goto (tgt := 297) hx hb dL_does_264 (by decide) ?_
      refine e_ci (w2 := fun (z : YS) => pW G a sa (cSe C0 1 ((nI q_258) - 6)) (pSv P0 C0) z) hD hS hA (e_V (n := 2) (ci := 5) (q0 := 0) (As := [.int (nI 1), .int ((nI q_258) - 6)]) (rest := []) hx hb hml hown hts hK hP hD hl (p_set l G a sa C0 P0 y_258 1 ((nI q_258) - 6) H.size hc hp (by first | exact hq_238 | decide) (by first | exact set_1 hq_258 | exact set_3 hq_281 | exact set_o hq_238 c_249 c_270 hq_294)) gL_does_X5_set rfl rfl rfl (by decide +kernel) rfl ⟨Nat.le_of_ble_eq_true rfl, Nat.le_of_ble_eq_true rfl⟩ rfl rfl rfl (Nat.le_of_ble_eq_true rfl) dL_does_297 ⟨Nat.le_of_ble_eq_true rfl, Nat.le_of_ble_eq_true rfl⟩) (fun r_297 y_297 H locs hw hP hD hS => ?_)
      have hP : va_P G.1 vwCl (pW G a sa (cSe C0 1 ((nI q_258) - 6)) (pSv P0 C0) y_297) H := hP
      have hD : va_D A (pW G a sa (cSe C0 1 ((nI q_258) - 6)) (pSv P0 C0) y_297) := hD
      have hw_297 : r_297 = C0.2.2.2.2.2 1 + 100 := hw
      subst hw_297
      have hc_297 : okC (cSe C0 1 ((nI q_258) - 6)) := okC_se hc (show sLow (nI 1) ≤ ((nI q_258) - 6) ∧ ((nI q_258) - 6) ≤ sHigh (nI 1) from by first | exact set_1 hq_258 | exact set_3 hq_281 | exact set_o hq_238 c_249 c_270 hq_294) (show 1 < 4 from by first | exact hq_238 | decide)
      have hp_297 : okQ (pSv P0 C0) := okQ_sv hp
      rw [hQ]
      exact e_iret (v := C0.2.2.2.2.2 1 + 100) ((cSe C0 1 ((nI q_258) - 6)), (pSv P0 C0), y_297) hx hb hr hlocks (⟨nn_set hc (by first | exact hq_238 | decide), hc_297, hp_297⟩) hK hP hD hS dL_does_300
  · skip
    refine lv_tableOut (x := nI 15) (tgt := 234) hx hb dL_does_41 (by decide) (by decide) ?_
    refine lv_iload_n hx hb dL_does_234 rfl (lv_at hl 5 rfl) ?_
    refine lv_iconst (v := 4) hx hb dL_does_235 (by decide) ?_
    refine lv_ishr hx hb dL_does_236 ?_
    refine lv_iconst (v := 4) hx hb dL_does_237 (by decide) ?_
    refine e_ci (w2 := fun (z : YS) => pW G a sa C0 P0 z) hD hS hA (e_S (n := 2) (As := [.int (v >>> (4 &&& 31)), .int 4]) (rest := []) hx hb hml hown hts hK hP hD hl (p_low l G a sa C0 P0 y_32 (v >>> (4 &&& 31)) 4 H.size hc hp (by first | assumption | omega | decide) (by first | assumption | omega | decide)) gL_does_L_low rfl rfl rfl (by decide +kernel) rfl ⟨Nat.le_of_ble_eq_true rfl, Nat.le_of_ble_eq_true rfl⟩ rfl (Nat.le_of_ble_eq_true rfl) dL_does_238 ⟨Nat.le_of_ble_eq_true rfl, Nat.le_of_ble_eq_true rfl⟩) (fun r_238 y_238 H locs hw hP hD hS => ?_)
    obtain ⟨y_238, e9⟩ : ∃ z, z = y_238 := ⟨_, rfl⟩; subst e9
    have hP : va_P G.1 vwCl (pW G a sa C0 P0 y_238) H := hP
    have hD : va_D A (pW G a sa C0 P0 y_238) := hD
    obtain ⟨q_238, hq_238, e9⟩ := hw
    subst e9
    refine lv_istore (lv' := [(6, .int (nI q_238)), (5, .int (nI q_32)), (4, .int (nI q_23)), (3, .int (nI q_12)), (2, .int (nI C0.1)), (0, .ref (a 0)), (1, .int v)]) hx hb dL_does_241 hl (by decide) rfl (fun ls hl => ?_)
    refine lv_aload_n hx hb dL_does_243 rfl (lv_at hl 5 rfl) ?_
    refine lv_iload hx hb dL_does_244 (lv_at hl 0 rfl) ?_
    refine lv_iload hx hb dL_does_246 (lv_at hl 0 rfl) ?_
    refine lv_iconst (v := 1) hx hb dL_does_248 (by decide) ?_
    refine g_icmp_ne (a := q_238) (b := 1) (tgt := 267) hx hb (by omega) (by omega) dL_does_249 (by decide) (fun c_249 => ?_) (fun c_249 => ?_)
    · skip
      refine lv_iload hx hb dL_does_267 (lv_at hl 0 rfl) ?_
      refine lv_iconst (v := 3) hx hb dL_does_269 (by decide) ?_
      refine g_icmp_ne (a := q_238) (b := 3) (tgt := 288) hx hb (by omega) (by omega) dL_does_270 (by decide) (fun c_270 => ?_) (fun c_270 => ?_)
      · skip
        refine lv_iload_n hx hb dL_does_288 rfl (lv_at hl 6 rfl) ?_
        refine lv_bipush (v := 6) hx hb dL_does_289 (by decide) ?_
        refine lv_ishr hx hb dL_does_291 ?_
        refine lv_bipush (v := 21) hx hb dL_does_292 (by decide) ?_
        refine e_ci (w2 := fun (z : YS) => pW G a sa C0 P0 z) hD hS hA (e_S (n := 2) (As := [.int (v >>> (6 &&& 31)), .int 21]) (rest := [.int (nI q_238), .ref (a 0)]) hx hb hml hown hts hK hP hD hl (p_low l G a sa C0 P0 y_238 (v >>> (6 &&& 31)) 21 H.size hc hp (by first | assumption | omega | decide) (by first | assumption | omega | decide)) gL_does_L_low rfl rfl rfl (by decide +kernel) rfl ⟨Nat.le_of_ble_eq_true rfl, Nat.le_of_ble_eq_true rfl⟩ rfl (Nat.le_of_ble_eq_true rfl) dL_does_294 ⟨Nat.le_of_ble_eq_true rfl, Nat.le_of_ble_eq_true rfl⟩) (fun r_294 y_294 H locs hw hP hD hS => ?_)
        obtain ⟨y_294, e9⟩ : ∃ z, z = y_294 := ⟨_, rfl⟩; subst e9
        have hP : va_P G.1 vwCl (pW G a sa C0 P0 y_294) H := hP
        have hD : va_D A (pW G a sa C0 P0 y_294) := hD
        obtain ⟨q_294, hq_294, e9⟩ := hw
        subst e9
        refine e_ci (w2 := fun (z : YS) => pW G a sa (cSe C0 q_238 (nI q_294)) (pSv P0 C0) z) hD hS hA (e_V (n := 2) (ci := 5) (q0 := 0) (As := [.int (nI q_238), .int (nI q_294)]) (rest := []) hx hb hml hown hts hK hP hD hl (p_set l G a sa C0 P0 y_294 q_238 (nI q_294) H.size hc hp (by first | exact hq_238 | decide) (by first | exact set_1 hq_258 | exact set_3 hq_281 | exact set_o hq_238 c_249 c_270 hq_294)) gL_does_X5_set rfl rfl rfl (by decide +kernel) rfl ⟨Nat.le_of_ble_eq_true rfl, Nat.le_of_ble_eq_true rfl⟩ rfl rfl rfl (Nat.le_of_ble_eq_true rfl) dL_does_297 ⟨Nat.le_of_ble_eq_true rfl, Nat.le_of_ble_eq_true rfl⟩) (fun r_297 y_297 H locs hw hP hD hS => ?_)
        have hP : va_P G.1 vwCl (pW G a sa (cSe C0 q_238 (nI q_294)) (pSv P0 C0) y_297) H := hP
        have hD : va_D A (pW G a sa (cSe C0 q_238 (nI q_294)) (pSv P0 C0) y_297) := hD
        have hw_297 : r_297 = C0.2.2.2.2.2 q_238 + 100 := hw
        subst hw_297
        have hc_297 : okC (cSe C0 q_238 (nI q_294)) := okC_se hc (show sLow (nI q_238) ≤ (nI q_294) ∧ (nI q_294) ≤ sHigh (nI q_238) from by first | exact set_1 hq_258 | exact set_3 hq_281 | exact set_o hq_238 c_249 c_270 hq_294) (show q_238 < 4 from by first | exact hq_238 | decide)
        have hp_297 : okQ (pSv P0 C0) := okQ_sv hp
        rw [hQ]
        exact e_iret (v := C0.2.2.2.2.2 q_238 + 100) ((cSe C0 q_238 (nI q_294)), (pSv P0 C0), y_297) hx hb hr hlocks (⟨nn_set hc (by first | exact hq_238 | decide), hc_297, hp_297⟩) hK hP hD hS dL_does_300
      · skip
        subst c_270
        refine lv_iconst (v := 1) hx hb dL_does_273 (by decide) ?_
        refine lv_iload_n hx hb dL_does_274 rfl (lv_at hl 6 rfl) ?_
        refine lv_bipush (v := 6) hx hb dL_does_275 (by decide) ?_
        refine lv_ishr hx hb dL_does_277 ?_
        refine lv_sipush (v := 300) hx hb dL_does_278 (by decide) ?_
        refine e_ci (w2 := fun (z : YS) => pW G a sa C0 P0 z) hD hS hA (e_S (n := 2) (As := [.int (v >>> (6 &&& 31)), .int 300]) (rest := [.int 1, .int (nI 3), .ref (a 0)]) hx hb hml hown hts hK hP hD hl (p_low l G a sa C0 P0 y_238 (v >>> (6 &&& 31)) 300 H.size hc hp (by first | assumption | omega | decide) (by first | assumption | omega | decide)) gL_does_L_low rfl rfl rfl (by decide +kernel) rfl ⟨Nat.le_of_ble_eq_true rfl, Nat.le_of_ble_eq_true rfl⟩ rfl (Nat.le_of_ble_eq_true rfl) dL_does_281 ⟨Nat.le_of_ble_eq_true rfl, Nat.le_of_ble_eq_true rfl⟩) (fun r_281 y_281 H locs hw hP hD hS => ?_)
        obtain ⟨y_281, e9⟩ : ∃ z, z = y_281 := ⟨_, rfl⟩; subst e9
        have hP : va_P G.1 vwCl (pW G a sa C0 P0 y_281) H := hP
        have hD : va_D A (pW G a sa C0 P0 y_281) := hD
        obtain ⟨q_281, hq_281, e9⟩ := hw
        subst e9
        refine lv_iadd hx hb dL_does_284 ?_
        refine g_ti (y := nI (1 + q_281)) (nI_add (1) (q_281)) ?_
        refine lv_goto (tgt := 297) hx hb dL_does_285 (by decide) ?_
        refine e_ci (w2 := fun (z : YS) => pW G a sa (cSe C0 3 (nI (1 + q_281))) (pSv P0 C0) z) hD hS hA (e_V (n := 2) (ci := 5) (q0 := 0) (As := [.int (nI 3), .int (nI (1 + q_281))]) (rest := []) hx hb hml hown hts hK hP hD hl (p_set l G a sa C0 P0 y_281 3 (nI (1 + q_281)) H.size hc hp (by first | exact hq_238 | decide) (by first | exact set_1 hq_258 | exact set_3 hq_281 | exact set_o hq_238 c_249 c_270 hq_294)) gL_does_X5_set rfl rfl rfl (by decide +kernel) rfl ⟨Nat.le_of_ble_eq_true rfl, Nat.le_of_ble_eq_true rfl⟩ rfl rfl rfl (Nat.le_of_ble_eq_true rfl) dL_does_297 ⟨Nat.le_of_ble_eq_true rfl, Nat.le_of_ble_eq_true rfl⟩) (fun r_297 y_297 H locs hw hP hD hS => ?_)
        have hP : va_P G.1 vwCl (pW G a sa (cSe C0 3 (nI (1 + q_281))) (pSv P0 C0) y_297) H := hP
        have hD : va_D A (pW G a sa (cSe C0 3 (nI (1 + q_281))) (pSv P0 C0) y_297) := hD
        have hw_297 : r_297 = C0.2.2.2.2.2 3 + 100 := hw
        subst hw_297
        have hc_297 : okC (cSe C0 3 (nI (1 + q_281))) := okC_se hc (show sLow (nI 3) ≤ (nI (1 + q_281)) ∧ (nI (1 + q_281)) ≤ sHigh (nI 3) from by first | exact set_1 hq_258 | exact set_3 hq_281 | exact set_o hq_238 c_249 c_270 hq_294) (show 3 < 4 from by first | exact hq_238 | decide)
        have hp_297 : okQ (pSv P0 C0) := okQ_sv hp
        rw [hQ]
        exact e_iret (v := C0.2.2.2.2.2 3 + 100) ((cSe C0 3 (nI (1 + q_281))), (pSv P0 C0), y_297) hx hb hr hlocks (⟨nn_set hc (by first | exact hq_238 | decide), hc_297, hp_297⟩) hK hP hD hS dL_does_300
    · skip
      subst c_249
      refine lv_iload_n hx hb dL_does_252 rfl (lv_at hl 6 rfl) ?_
      refine lv_bipush (v := 6) hx hb dL_does_253 (by decide) ?_
      refine lv_ishr hx hb dL_does_255 ?_
      refine lv_bipush (v := 13) hx hb dL_does_256 (by decide) ?_
      refine e_ci (w2 := fun (z : YS) => pW G a sa C0 P0 z) hD hS hA (e_S (n := 2) (As := [.int (v >>> (6 &&& 31)), .int 13]) (rest := [.int (nI 1), .ref (a 0)]) hx hb hml hown hts hK hP hD hl (p_low l G a sa C0 P0 y_238 (v >>> (6 &&& 31)) 13 H.size hc hp (by first | assumption | omega | decide) (by first | assumption | omega | decide)) gL_does_L_low rfl rfl rfl (by decide +kernel) rfl ⟨Nat.le_of_ble_eq_true rfl, Nat.le_of_ble_eq_true rfl⟩ rfl (Nat.le_of_ble_eq_true rfl) dL_does_258 ⟨Nat.le_of_ble_eq_true rfl, Nat.le_of_ble_eq_true rfl⟩) (fun r_258 y_258 H locs hw hP hD hS => ?_)
      obtain ⟨y_258, e9⟩ : ∃ z, z = y_258 := ⟨_, rfl⟩; subst e9
      have hP : va_P G.1 vwCl (pW G a sa C0 P0 y_258) H := hP
      have hD : va_D A (pW G a sa C0 P0 y_258) := hD
      obtain ⟨q_258, hq_258, e9⟩ := hw
      subst e9
      refine lv_bipush (v := 6) hx hb dL_does_261 (by decide) ?_
      refine lv_isub hx hb dL_does_263 ?_
      refine lv_goto (tgt := 297) hx hb dL_does_264 (by decide) ?_
      refine e_ci (w2 := fun (z : YS) => pW G a sa (cSe C0 1 ((nI q_258) - 6)) (pSv P0 C0) z) hD hS hA (e_V (n := 2) (ci := 5) (q0 := 0) (As := [.int (nI 1), .int ((nI q_258) - 6)]) (rest := []) hx hb hml hown hts hK hP hD hl (p_set l G a sa C0 P0 y_258 1 ((nI q_258) - 6) H.size hc hp (by first | exact hq_238 | decide) (by first | exact set_1 hq_258 | exact set_3 hq_281 | exact set_o hq_238 c_249 c_270 hq_294)) gL_does_X5_set rfl rfl rfl (by decide +kernel) rfl ⟨Nat.le_of_ble_eq_true rfl, Nat.le_of_ble_eq_true rfl⟩ rfl rfl rfl (Nat.le_of_ble_eq_true rfl) dL_does_297 ⟨Nat.le_of_ble_eq_true rfl, Nat.le_of_ble_eq_true rfl⟩) (fun r_297 y_297 H locs hw hP hD hS => ?_)
      have hP : va_P G.1 vwCl (pW G a sa (cSe C0 1 ((nI q_258) - 6)) (pSv P0 C0) y_297) H := hP
      have hD : va_D A (pW G a sa (cSe C0 1 ((nI q_258) - 6)) (pSv P0 C0) y_297) := hD
      have hw_297 : r_297 = C0.2.2.2.2.2 1 + 100 := hw
      subst hw_297
      have hc_297 : okC (cSe C0 1 ((nI q_258) - 6)) := okC_se hc (show sLow (nI 1) ≤ ((nI q_258) - 6) ∧ ((nI q_258) - 6) ≤ sHigh (nI 1) from by first | exact set_1 hq_258 | exact set_3 hq_281 | exact set_o hq_238 c_249 c_270 hq_294) (show 1 < 4 from by first | exact hq_238 | decide)
      have hp_297 : okQ (pSv P0 C0) := okQ_sv hp
      rw [hQ]
      exact e_iret (v := C0.2.2.2.2.2 1 + 100) ((cSe C0 1 ((nI q_258) - 6)), (pSv P0 C0), y_297) hx hb hr hlocks (⟨nn_set hc (by first | exact hq_238 | decide), hc_297, hp_297⟩) hK hP hD hS dL_does_300
