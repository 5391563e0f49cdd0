set_option maxHeartbeats 4000000 in
set_option maxRecDepth 100000 in
theorem c_L_isBestSo (l : Launch) (G : kG) (a : Nat → Nat) (sa : Nat → Nat → Nat) (C0 : CV) (P0 : PS) (y0 : YS) (i : Nat) (h : Nat) (j : Nat) (sz : Nat) (hc : okC C0) (hp : okQ P0) (hi : i < C0.1) (hh : h < 50) (hj : j ≤ C0.1) : kMet l yL_isBestSo wsL_isBestSo ({ frames := 6, cells := 0, slots := 0, locals := 132 } : Room) G [.ref (a 0), .int (nI i), .int (nI h), .int (nI j)] (pW G a sa C0 P0 y0) sz (kQi G (fun (r : Int32) (u : PS × YS) => r = 1 ∧ okQ u.1) (fun (u : PS × YS) => pW G a sa C0 u.1 u.2)) 0 0 := by
  refine k_entry (cc := cL_isBestSo) (maxL := 13) (ret := (some .boolean)) (by decide) rfl (Nat.le_of_ble_eq_true rfl) ?_
  intro p e s m args below meth c A ls H locs Q hQ hx hb hml hr hts hown hlocks hin hA hP hK hD hS hl
  have hown : s.vm.findClass RL = some m.cls := hown
  have hn1 := hc.1
  have hn := hc.2.1
  have hl : lv_has ls 13 [(0, .ref (a 0)), (1, .int (nI i)), (2, .int (nI h)), (3, .int (nI j))] := hl
  have hh99 := nI_99 (show h < 100 by omega)
  refine lv_aload_n hx hb dL_isBestSo_0 rfl (lv_at hl 0 rfl) ?_
  refine lv_iconst (v := 0) hx hb dL_isBestSo_1 (by decide) ?_
  refine e_ci (w2 := fun (z : YS) => pW G a sa C0 P0 z) hD hS hA (e_V (n := 1) (ci := 5) (q0 := 0) (As := [.int 0]) (rest := []) hx hb hml hown hts hK hP hD hl (p_count l G a sa C0 P0 y0 0 H.size hc hp (by first | assumption | omega | decide)) gL_isBestSo_X5_count rfl rfl rfl (by decide +kernel) rfl ⟨Nat.le_of_ble_eq_true rfl, Nat.le_of_ble_eq_true rfl⟩ rfl rfl rfl (Nat.le_of_ble_eq_true rfl) dL_isBestSo_2 ⟨Nat.le_of_ble_eq_true rfl, Nat.le_of_ble_eq_true rfl⟩) (fun r_2 y_2 H locs hw hP hD hS => ?_)
  have hP : va_P G.1 vwCl (pW G a sa C0 P0 y_2) H := hP
  have hD : va_D A (pW G a sa C0 P0 y_2) := hD
  have hw_2 : r_2 = CT C0 P0.2.2 0 := hw
  subst hw_2
  refine g_ti (y := nI C0.1) (rfl) ?_
  refine lv_istore (lv' := [(4, .int (nI C0.1)), (0, .ref (a 0)), (1, .int (nI i)), (2, .int (nI h)), (3, .int (nI j))]) hx hb dL_isBestSo_5 hl (by decide) rfl (fun ls hl => ?_)
  refine lv_aload_n hx hb dL_isBestSo_7 rfl (lv_at hl 1 rfl) ?_
  refine lv_iload_n hx hb dL_isBestSo_8 rfl (lv_at hl 2 rfl) ?_
  refine e_ci (w2 := fun (z : YS) => pW G a sa C0 P0 z) hD hS hA (e_V (n := 1) (ci := 5) (q0 := 0) (As := [.int (nI i)]) (rest := []) hx hb hml hown hts hK hP hD hl (p_bestStep l G a sa C0 P0 y_2 i H.size hc hp (by first | assumption | omega | decide)) gL_isBestSo_X5_bestStep rfl rfl rfl (by decide +kernel) rfl ⟨Nat.le_of_ble_eq_true rfl, Nat.le_of_ble_eq_true rfl⟩ rfl rfl rfl (Nat.le_of_ble_eq_true rfl) dL_isBestSo_9 ⟨Nat.le_of_ble_eq_true rfl, Nat.le_of_ble_eq_true rfl⟩) (fun r_9 y_9 H locs hw hP hD hS => ?_)
  have hP : va_P G.1 vwCl (pW G a sa C0 P0 y_9) H := hP
  have hD : va_D A (pW G a sa C0 P0 y_9) := hD
  have hw_9 : r_9 = (bsp (gSp C0.1 C0.2.1 C0.2.2.1 C0.2.2.2.1 C0.2.2.2.2.1 C0.2.2.2.2.2 i) 5).1 + 2 := hw
  subst hw_9
  refine lv_iconst (v := 2) hx hb dL_isBestSo_12 (by decide) ?_
  refine lv_isub hx hb dL_isBestSo_13 ?_
  refine g_ti (y := BSp C0 i) (i32_as _ _) ?_
  refine lv_istore (lv' := [(5, .int (BSp C0 i)), (4, .int (nI C0.1)), (0, .ref (a 0)), (1, .int (nI i)), (2, .int (nI h)), (3, .int (nI j))]) hx hb dL_isBestSo_14 hl (by decide) rfl (fun ls hl => ?_)
  refine lv_aload_n hx hb dL_isBestSo_16 rfl (lv_at hl 2 rfl) ?_
  refine lv_iload_n hx hb dL_isBestSo_17 rfl (lv_at hl 3 rfl) ?_
  refine lv_iload hx hb dL_isBestSo_18 (lv_at hl 0 rfl) ?_
  refine e_ci (w2 := fun (z : YS) => pW G a sa (cSt C0 i (BSp C0 i)) (pSv P0 C0) z) hD hS hA (e_V (n := 2) (ci := 5) (q0 := 0) (As := [.int (nI i), .int (BSp C0 i)]) (rest := []) hx hb hml hown hts hK hP hD hl (p_bend l G a sa C0 P0 y_9 i (BSp C0 i) H.size hc hp (by first | assumption | omega | decide) (bs_r)) gL_isBestSo_X5_bend rfl rfl rfl (by decide +kernel) rfl ⟨Nat.le_of_ble_eq_true rfl, Nat.le_of_ble_eq_true rfl⟩ rfl rfl rfl (Nat.le_of_ble_eq_true rfl) dL_isBestSo_20 ⟨Nat.le_of_ble_eq_true rfl, Nat.le_of_ble_eq_true rfl⟩) (fun r_20 y_20 H locs hw hP hD hS => ?_)
  have hP : va_P G.1 vwCl (pW G a sa (cSt C0 i (BSp C0 i)) (pSv P0 C0) y_20) H := hP
  have hD : va_D A (pW G a sa (cSt C0 i (BSp C0 i)) (pSv P0 C0) y_20) := hD
  have hw_20 : r_20 = C0.2.1 i + 2 := hw
  subst hw_20
  have hc_20 : okC (cSt C0 i (BSp C0 i)) := okC_st hc (show -2 ≤ (BSp C0 i) ∧ (BSp C0 i) ≤ 2 from bs_r)
  have hp_20 : okQ (pSv P0 C0) := okQ_sv hp
  refine lv_istore (lv' := [(6, .int (C0.2.1 i + 2)), (5, .int (BSp C0 i)), (4, .int (nI C0.1)), (0, .ref (a 0)), (1, .int (nI i)), (2, .int (nI h)), (3, .int (nI j))]) hx hb dL_isBestSo_23 hl (by decide) rfl (fun ls hl => ?_)
  refine lv_aload_n hx hb dL_isBestSo_25 rfl (lv_at hl 3 rfl) ?_
  refine lv_iconst (v := 5) hx hb dL_isBestSo_26 (by decide) ?_
  refine e_ci (w2 := fun (z : YS) => pW G a sa (cSt C0 i (BSp C0 i)) (pSv P0 C0) z) hD hS hA (e_V (n := 1) (ci := 5) (q0 := 0) (As := [.int 5]) (rest := []) hx hb hml hown hts hK hP hD hl (p_count l G a sa (cSt C0 i (BSp C0 i)) (pSv P0 C0) y_20 5 H.size hc_20 hp_20 (by first | assumption | omega | decide)) gL_isBestSo_X5_count rfl rfl rfl (by decide +kernel) rfl ⟨Nat.le_of_ble_eq_true rfl, Nat.le_of_ble_eq_true rfl⟩ rfl rfl rfl (Nat.le_of_ble_eq_true rfl) dL_isBestSo_27 ⟨Nat.le_of_ble_eq_true rfl, Nat.le_of_ble_eq_true rfl⟩) (fun r_27 y_27 H locs hw hP hD hS => ?_)
  have hP : va_P G.1 vwCl (pW G a sa (cSt C0 i (BSp C0 i)) (pSv P0 C0) y_27) H := hP
  have hD : va_D A (pW G a sa (cSt C0 i (BSp C0 i)) (pSv P0 C0) y_27) := hD
  have hw_27 : r_27 = CT (cSt C0 i (BSp C0 i)) (pSv P0 C0).2.2 5 := hw
  subst hw_27
  refine g_ti (y := GR (cSt C0 i (BSp C0 i))) (rfl) ?_
  refine lv_istore (lv' := [(7, .int (GR (cSt C0 i (BSp C0 i)))), (6, .int (C0.2.1 i + 2)), (5, .int (BSp C0 i)), (4, .int (nI C0.1)), (0, .ref (a 0)), (1, .int (nI i)), (2, .int (nI h)), (3, .int (nI j))]) hx hb dL_isBestSo_30 hl (by decide) rfl (fun ls hl => ?_)
  refine lv_aload_n hx hb dL_isBestSo_32 rfl (lv_at hl 4 rfl) ?_
  refine e_ci (w2 := fun (z : YS) => pW G a sa ((pSv P0 C0).1 (pj (pSv P0 C0).2.1 (pSv P0 C0).2.2)) (pUn (pSv P0 C0)) z) hD hS hA (e_V (n := 0) (ci := 5) (q0 := 0) (As := []) (rest := []) hx hb hml hown hts hK hP hD hl (p_undo l G a sa (cSt C0 i (BSp C0 i)) (pSv P0 C0) y_27 H.size hc_20 hp_20 (okQ_kp)) gL_isBestSo_X5_undo rfl rfl rfl (by decide +kernel) rfl ⟨Nat.le_of_ble_eq_true rfl, Nat.le_of_ble_eq_true rfl⟩ rfl rfl rfl (Nat.le_of_ble_eq_true rfl) dL_isBestSo_33 ⟨Nat.le_of_ble_eq_true rfl, Nat.le_of_ble_eq_true rfl⟩) (fun r_33 y_33 H locs hw hP hD hS => ?_)
  have hP : va_P G.1 vwCl (pW G a sa ((pSv P0 C0).1 (pj (pSv P0 C0).2.1 (pSv P0 C0).2.2)) (pUn (pSv P0 C0)) y_33) H := hP
  have hD : va_D A (pW G a sa ((pSv P0 C0).1 (pj (pSv P0 C0).2.1 (pSv P0 C0).2.2)) (pUn (pSv P0 C0)) y_33) := hD
  have hw_33 : r_33 = nI ((pSv P0 C0).2.2 - 1) := hw
  obtain ⟨lf_33, hlf_33, e9⟩ : ∃ k, k < 7 ∧ r_33 = nI k := ⟨_, un_lt hp, hw_33⟩
  subst e9
  rw [pSv_top] at hP hD
  have hp_33 := okQ_un (okQ_sv (c := C0) hp)
  generalize pUn (pSv P0 C0) = p_33 at hP hD hp_33
  have hP : va_P G.1 vwCl (pW G a sa C0 p_33 y_33) H := hP
  have hD : va_D A (pW G a sa C0 p_33 y_33) := hD
  refine lv_istore (lv' := [(8, .int (nI lf_33)), (7, .int (GR (cSt C0 i (BSp C0 i)))), (6, .int (C0.2.1 i + 2)), (5, .int (BSp C0 i)), (4, .int (nI C0.1)), (0, .ref (a 0)), (1, .int (nI i)), (2, .int (nI h)), (3, .int (nI j))]) hx hb dL_isBestSo_36 hl (by decide) rfl (fun ls hl => ?_)
  refine lv_iload hx hb dL_isBestSo_38 (lv_at hl 3 rfl) ?_
  refine lv_bipush (v := (-2)) hx hb dL_isBestSo_40 (by decide) ?_
  refine lv_icmp_lt (tgt := 66) hx hb dL_isBestSo_42 (by decide) (fun c_42 => ?_) (fun c_42 => ?_)
  · exact absurd c_42 (Int32.not_lt.mpr bs_r.1)
  · skip
    refine lv_iload hx hb dL_isBestSo_45 (lv_at hl 3 rfl) ?_
    refine lv_iconst (v := 2) hx hb dL_isBestSo_47 (by decide) ?_
    refine lv_icmp_gt (tgt := 66) hx hb dL_isBestSo_48 (by decide) (fun c_48 => ?_) (fun c_48 => ?_)
    · exact absurd c_48 (Int32.not_lt.mpr bs_r.2)
    · skip
      refine lv_iload hx hb dL_isBestSo_51 (lv_at hl 2 rfl) ?_
      refine lv_aload_n hx hb dL_isBestSo_53 rfl (lv_at hl 5 rfl) ?_
      refine lv_iload_n hx hb dL_isBestSo_54 rfl (lv_at hl 6 rfl) ?_
      refine lv_iconst (v := 0) hx hb dL_isBestSo_55 (by decide) ?_
      refine e_ci (w2 := fun (z : YS) => pW G a sa C0 p_33 z) hD hS hA (e_V (n := 2) (ci := 5) (q0 := 0) (As := [.int (nI i), .int 0]) (rest := [.int (C0.2.1 i + 2)]) hx hb hml hown hts hK hP hD hl (p_linkOf l G a sa C0 p_33 y_33 i 0 H.size hc hp_33 (by first | assumption | omega | decide) (by first | assumption | omega | decide)) gL_isBestSo_X5_linkOf rfl rfl rfl (by decide +kernel) rfl ⟨Nat.le_of_ble_eq_true rfl, Nat.le_of_ble_eq_true rfl⟩ rfl rfl rfl (Nat.le_of_ble_eq_true rfl) dL_isBestSo_56 ⟨Nat.le_of_ble_eq_true rfl, Nat.le_of_ble_eq_true rfl⟩) (fun r_56 y_56 H locs hw hP hD hS => ?_)
      have hP : va_P G.1 vwCl (pW G a sa C0 p_33 y_56) H := hP
      have hD : va_D A (pW G a sa C0 p_33 y_56) := hD
      have hw_56 : r_56 = LK C0 i 0 := hw
      subst hw_56
      refine lv_icmp_ne (tgt := 66) hx hb dL_isBestSo_59 (by decide) (fun c_59 => ?_) (fun c_59 => ?_)
      · exact absurd rfl c_59
      · skip
        refine lv_iconst (v := 1) hx hb dL_isBestSo_62 (by decide) ?_
        refine lv_goto (tgt := 67) hx hb dL_isBestSo_63 (by decide) ?_
        refine lv_istore (lv' := [(9, .int 1), (8, .int (nI lf_33)), (7, .int (GR (cSt C0 i (BSp C0 i)))), (6, .int (C0.2.1 i + 2)), (5, .int (BSp C0 i)), (4, .int (nI C0.1)), (0, .ref (a 0)), (1, .int (nI i)), (2, .int (nI h)), (3, .int (nI j))]) hx hb dL_isBestSo_67 hl (by decide) rfl (fun ls hl => ?_)
        refine lv_bipush (v := (-2)) hx hb dL_isBestSo_69 (by decide) ?_
        refine lv_istore (lv' := [(10, .int (-2)), (9, .int 1), (8, .int (nI lf_33)), (7, .int (GR (cSt C0 i (BSp C0 i)))), (6, .int (C0.2.1 i + 2)), (5, .int (BSp C0 i)), (4, .int (nI C0.1)), (0, .ref (a 0)), (1, .int (nI i)), (2, .int (nI h)), (3, .int (nI j))]) hx hb dL_isBestSo_71 hl (by decide) rfl (fun ls hl => ?_)
        have L73 : ∀ (n9 : Nat) (q : Nat) (p3 : PS) (y3 : YS) (lf3 : Nat), (q ≤ 5) → (okQ p3) → (lf3 < 7) → (5 - q < n9) → ∀ (H : Heap) (locs : List Loc) (ls : Array Slot), va_P G.1 vwCl (pW G a sa C0 p3 y3) H → va_D A (pW G a sa C0 p3 y3) → va_S A s.heap H locs → lv_has ls 13 [(10, .int (stI q)), (9, .int 1), (8, .int (nI lf3)), (7, .int (GR (cSt C0 i (BSp C0 i)))), (5, .int (BSp C0 i)), (4, .int (nI C0.1)), (0, .ref (a 0)), (1, .int (nI i)), (2, .int (nI h)), (3, .int (nI j))] → W p l e ({ frames := 6, cells := 0, slots := 0, locals := 132 } : Room) s m args below meth c H locs 0 0 Q (F0 m 73 ls []) := by
          intro n9
          induction n9 with
          | zero =>
            intro q p3 y3 lf3 hq hp3 hlf3 hm9 H locs ls hP hD hS hl
            exact absurd hm9 (Nat.not_lt_zero _)
          | succ n9 ih73 =>
            intro q p3 y3 lf3 hq hp3 hlf3 hm9 H locs ls hP hD hS hl
            refine lv_iload hx hb dL_isBestSo_73 (lv_at hl 0 rfl) ?_
            refine lv_iconst (v := 3) hx hb dL_isBestSo_75 (by decide) ?_
            refine lv_icmp_ge (tgt := 139) hx hb dL_isBestSo_76 (by decide) (fun c_76 => ?_) (fun c_76 => ?_)
            · skip
              have e5 := stI_3t hq c_76
              subst e5
              refine lv_aload_n hx hb dL_isBestSo_139 rfl (lv_at hl 6 rfl) ?_
              refine lv_iload_n hx hb dL_isBestSo_140 rfl (lv_at hl 8 rfl) ?_
              refine e_ci (w2 := fun (z : YS) => pW G a sa C0 p3 z) hD hS hA (e_V (n := 1) (ci := 5) (q0 := 0) (As := [.int (nI h)]) (rest := []) hx hb hml hown hts hK hP hD hl (p_bestHanger l G a sa C0 p3 y3 (nI h) H.size hc hp3 (hh99)) gL_isBestSo_X5_bestHanger rfl rfl rfl (by decide +kernel) rfl ⟨Nat.le_of_ble_eq_true rfl, Nat.le_of_ble_eq_true rfl⟩ rfl rfl rfl (Nat.le_of_ble_eq_true rfl) dL_isBestSo_141 ⟨Nat.le_of_ble_eq_true rfl, Nat.le_of_ble_eq_true rfl⟩) (fun r_141 y_141 H locs hw hP hD hS => ?_)
              have hP : va_P G.1 vwCl (pW G a sa C0 p3 y_141) H := hP
              have hD : va_D A (pW G a sa C0 p3 y_141) := hD
              have hw_141 : r_141 = (bsh (gHg C0.1 C0.2.1 C0.2.2.1 C0.2.2.2.1 C0.2.2.2.2.1 C0.2.2.2.2.2 (nI h)) (C0.1 - 1)).1 := hw
              subst hw_141
              refine g_ti (y := BH C0 (nI h)) (rfl) ?_
              refine lv_istore (lv' := [(10, .int (BH C0 (nI h))), (9, .int 1), (8, .int (nI lf3)), (7, .int (GR (cSt C0 i (BSp C0 i)))), (5, .int (BSp C0 i)), (4, .int (nI C0.1)), (0, .ref (a 0)), (1, .int (nI i)), (2, .int (nI h)), (3, .int (nI j))]) hx hb dL_isBestSo_144 hl (by decide) rfl (fun ls hl => ?_)
              refine lv_iload hx hb dL_isBestSo_146 (lv_at hl 1 rfl) ?_
              refine g_if_eq (a := 1) (tgt := 197) hx hb (by omega) dL_isBestSo_148 (by decide) (fun c_148 => ?_) (fun c_148 => ?_)
              · exact absurd c_148 (by decide)
              · skip
                have J151 : ∀ x_1 : Int32, x_1 = oN C0 → W p l e ({ frames := 6, cells := 0, slots := 0, locals := 132 } : Room) s m args below meth c H locs 0 0 Q (F0 m 162 ls [.int x_1]) := by
                  intro x_1 ex_1
                  subst ex_1
                  have J162 : ∀ x_2 : Int32, x_2 = oN C0 → W p l e ({ frames := 6, cells := 0, slots := 0, locals := 132 } : Room) s m args below meth c H locs 0 0 Q (F0 m 173 ls [.int x_2, .int (oN C0)]) := by
                    intro x_2 ex_2
                    subst ex_2
                    refine lv_icmp_ne (tgt := 197) hx hb dL_isBestSo_173 (by decide) (fun c_173 => ?_) (fun c_173 => ?_)
                    · exact absurd rfl c_173
                    · skip
                      have L193 : ∀ (H : Heap) (locs : List Loc) (ls : Array Slot), va_P G.1 vwCl (pW G a sa C0 p3 y_141) H → va_D A (pW G a sa C0 p3 y_141) → va_S A s.heap H locs → lv_has ls 13 [(10, .int (BH C0 (nI h))), (9, .int 1), (8, .int (nI lf3)), (7, .int (GR (cSt C0 i (BSp C0 i)))), (5, .int (BSp C0 i)), (4, .int (nI C0.1)), (0, .ref (a 0)), (1, .int (nI i)), (2, .int (nI h)), (3, .int (nI j))] → W p l e ({ frames := 6, cells := 0, slots := 0, locals := 132 } : Room) s m args below meth c H locs 0 0 Q (F0 m 193 ls []) := by
                        intro H locs ls hP hD hS hl
                        refine lv_iconst (v := 1) hx hb dL_isBestSo_193 (by decide) ?_
                        refine lv_goto (tgt := 198) hx hb dL_isBestSo_194 (by decide) ?_
                        refine lv_istore (lv' := [(9, .int 1), (10, .int (BH C0 (nI h))), (8, .int (nI lf3)), (7, .int (GR (cSt C0 i (BSp C0 i)))), (5, .int (BSp C0 i)), (4, .int (nI C0.1)), (0, .ref (a 0)), (1, .int (nI i)), (2, .int (nI h)), (3, .int (nI j))]) hx hb dL_isBestSo_198 hl (by decide) rfl (fun ls hl => ?_)
                        have L336 : ∀ (p6 : PS) (y6 : YS) (lf6 : Nat), (okQ p6) → (lf6 < 7) → ∀ (H : Heap) (locs : List Loc) (ls : Array Slot), va_P G.1 vwCl (pW G a sa C0 p6 y6) H → va_D A (pW G a sa C0 p6 y6) → va_S A s.heap H locs → lv_has ls 13 [(9, .int 1), (8, .int (nI lf6)), (0, .ref (a 0))] → W p l e ({ frames := 6, cells := 0, slots := 0, locals := 132 } : Room) s m args below meth c H locs 0 0 Q (F0 m 336 ls []) := by
                          intro p6 y6 lf6 hp6 hlf6 H locs ls hP hD hS hl
                          refine lv_iload hx hb dL_isBestSo_336 (lv_at hl 0 rfl) ?_
                          refine g_if_eq (a := 1) (tgt := 350) hx hb (by omega) dL_isBestSo_338 (by decide) (fun c_338 => ?_) (fun c_338 => ?_)
                          · exact absurd c_338 (by decide)
                          · skip
                            refine lv_iload hx hb dL_isBestSo_341 (lv_at hl 1 rfl) ?_
                            refine g_if_lt (a := lf6) (tgt := 350) hx hb (by omega) dL_isBestSo_343 (by decide) ?_
                            refine lv_iconst (v := 1) hx hb dL_isBestSo_346 (by decide) ?_
                            refine lv_goto (tgt := 351) hx hb dL_isBestSo_347 (by decide) ?_
                            rw [hQ]
                            exact e_zret (v := 1) (p6, y6) hx hb hr hlocks (by first | exact Or.inl rfl | exact Or.inr rfl) (⟨rfl, hp6⟩) hK hP hD hS dL_isBestSo_351
                        refine lv_iload hx hb dL_isBestSo_200 (lv_at hl 1 rfl) ?_
                        refine lv_if_le (tgt := 336) hx hb dL_isBestSo_202 (by decide) (fun c_202 => ?_) (fun c_202 => ?_)
                        · skip
                          exact L336 p3 y_141 lf3 (hp3) (hlf3) _ _ _ hP hD hS (lv_sub hl [0, 2, 6] rfl)
                        · skip
                          refine lv_iload_n hx hb dL_isBestSo_205 rfl (lv_at hl 9 rfl) ?_
                          refine g_if_le (a := j) (tgt := 336) hx hb (by omega) dL_isBestSo_206 (by decide) (fun c_206 => ?_) (fun c_206 => ?_)
                          · skip
                            exact L336 p3 y_141 lf3 (hp3) (hlf3) _ _ _ hP hD hS (lv_sub hl [0, 2, 6] rfl)
                          · skip
                            refine lv_iload_n hx hb dL_isBestSo_209 rfl (lv_at hl 9 rfl) ?_
                            refine lv_iload hx hb dL_isBestSo_210 (lv_at hl 5 rfl) ?_
                            refine g_icmp_ge (a := j) (b := C0.1) (tgt := 336) hx hb (by omega) (by omega) dL_isBestSo_212 (by decide) (fun c_212 => ?_) (fun c_212 => ?_)
                            · skip
                              exact L336 p3 y_141 lf3 (hp3) (hlf3) _ _ _ hP hD hS (lv_sub hl [0, 2, 6] rfl)
                            · skip
                              obtain ⟨b, hb1, hb2, hb3, hb4⟩ := bh_ex hc (fun z => c_202 (Int32.le_of_lt z))
                              · skip
                                have hl : lv_has ls 13 [(9, .int 1), (10, .int (nI b)), (8, .int (nI lf3)), (7, .int (GR (cSt C0 i (BSp C0 i)))), (5, .int (BSp C0 i)), (4, .int (nI C0.1)), (0, .ref (a 0)), (1, .int (nI i)), (2, .int (nI h)), (3, .int (nI j))] := by rw [← hb3]; exact hl
                                have hbn : b ≤ C0.1 := Nat.le_of_lt hb2
                                refine lv_aload_n hx hb dL_isBestSo_215 rfl (lv_at hl 6 rfl) ?_
                                refine lv_iload hx hb dL_isBestSo_216 (lv_at hl 1 rfl) ?_
                                refine lv_iconst (v := 2) hx hb dL_isBestSo_218 (by decide) ?_
                                refine e_ci (w2 := fun (z : YS) => pW G a sa C0 p3 z) hD hS hA (e_V (n := 2) (ci := 5) (q0 := 0) (As := [.int (nI b), .int 2]) (rest := []) hx hb hml hown hts hK hP hD hl (p_joint l G a sa C0 p3 y_141 b 2 H.size hc hp3 (hbn) (by first | assumption | omega | decide)) gL_isBestSo_X5_joint rfl rfl rfl (by decide +kernel) rfl ⟨Nat.le_of_ble_eq_true rfl, Nat.le_of_ble_eq_true rfl⟩ rfl rfl rfl (Nat.le_of_ble_eq_true rfl) dL_isBestSo_219 ⟨Nat.le_of_ble_eq_true rfl, Nat.le_of_ble_eq_true rfl⟩) (fun r_219 y_219 H locs hw hP hD hS => ?_)
                                have hP : va_P G.1 vwCl (pW G a sa C0 p3 y_219) H := hP
                                have hD : va_D A (pW G a sa C0 p3 y_219) := hD
                                have hw_219 : r_219 = JT C0 b 2 := hw
                                subst hw_219
                                refine g_ti (y := C0.2.2.2.1 b) (rfl) ?_
                                refine lv_iload_n hx hb dL_isBestSo_222 rfl (lv_at hl 8 rfl) ?_
                                refine lv_iadd hx hb dL_isBestSo_223 ?_
                                refine lv_istore (lv' := [(11, .int ((C0.2.2.2.1 b) + (nI h))), (9, .int 1), (10, .int (nI b)), (8, .int (nI lf3)), (7, .int (GR (cSt C0 i (BSp C0 i)))), (5, .int (BSp C0 i)), (4, .int (nI C0.1)), (0, .ref (a 0)), (1, .int (nI i)), (2, .int (nI h)), (3, .int (nI j))]) hx hb dL_isBestSo_224 hl (by decide) rfl (fun ls hl => ?_)
                                refine lv_aload_n hx hb dL_isBestSo_226 rfl (lv_at hl 7 rfl) ?_
                                refine lv_iload hx hb dL_isBestSo_227 (lv_at hl 2 rfl) ?_
                                have J229 : ∀ x_3 : Int32, x_3 = mn 99 (C0.2.2.2.1 b + nI h) → W p l e ({ frames := 6, cells := 0, slots := 0, locals := 132 } : Room) s m args below meth c H locs 0 0 Q (F0 m 243 ls [.int x_3, .int (nI b), .ref (a 0)]) := by
                                  intro x_3 ex_3
                                  subst ex_3
                                  refine e_ci (w2 := fun (z : YS) => pW G a sa (cHa C0 b (mn 99 (C0.2.2.2.1 b + nI h))) (pSv p3 C0) z) hD hS hA (e_V (n := 2) (ci := 5) (q0 := 0) (As := [.int (nI b), .int (mn 99 (C0.2.2.2.1 b + nI h))]) (rest := []) hx hb hml hown hts hK hP hD hl (p_hanger l G a sa C0 p3 y_219 b (mn 99 (C0.2.2.2.1 b + nI h)) H.size hc hp3 (hbn) (ha_r hc hbn hh99)) gL_isBestSo_X5_hanger rfl rfl rfl (by decide +kernel) rfl ⟨Nat.le_of_ble_eq_true rfl, Nat.le_of_ble_eq_true rfl⟩ rfl rfl rfl (Nat.le_of_ble_eq_true rfl) dL_isBestSo_243 ⟨Nat.le_of_ble_eq_true rfl, Nat.le_of_ble_eq_true rfl⟩) (fun r_243 y_243 H locs hw hP hD hS => ?_)
                                  have hP : va_P G.1 vwCl (pW G a sa (cHa C0 b (mn 99 (C0.2.2.2.1 b + nI h))) (pSv p3 C0) y_243) H := hP
                                  have hD : va_D A (pW G a sa (cHa C0 b (mn 99 (C0.2.2.2.1 b + nI h))) (pSv p3 C0) y_243) := hD
                                  have hw_243 : r_243 = C0.2.2.2.1 b := hw
                                  subst hw_243
                                  have hc_243 : okC (cHa C0 b (mn 99 (C0.2.2.2.1 b + nI h))) := okC_ha hc (show 0 ≤ (mn 99 (C0.2.2.2.1 b + nI h)) ∧ (mn 99 (C0.2.2.2.1 b + nI h)) ≤ 99 from ha_r hc hbn hh99)
                                  have hp_243 : okQ (pSv p3 C0) := okQ_sv hp3
                                  refine lv_istore (lv' := [(6, .int (C0.2.2.2.1 b)), (11, .int ((C0.2.2.2.1 b) + (nI h))), (9, .int 1), (10, .int (nI b)), (8, .int (nI lf3)), (7, .int (GR (cSt C0 i (BSp C0 i)))), (5, .int (BSp C0 i)), (4, .int (nI C0.1)), (0, .ref (a 0)), (1, .int (nI i)), (2, .int (nI h)), (3, .int (nI j))]) hx hb dL_isBestSo_246 hl (by decide) rfl (fun ls hl => ?_)
                                  refine lv_aload_n hx hb dL_isBestSo_248 rfl (lv_at hl 8 rfl) ?_
                                  refine lv_iconst (v := 5) hx hb dL_isBestSo_249 (by decide) ?_
                                  refine e_ci (w2 := fun (z : YS) => pW G a sa (cHa C0 b (mn 99 (C0.2.2.2.1 b + nI h))) (pSv p3 C0) z) hD hS hA (e_V (n := 1) (ci := 5) (q0 := 0) (As := [.int 5]) (rest := []) hx hb hml hown hts hK hP hD hl (p_count l G a sa (cHa C0 b (mn 99 (C0.2.2.2.1 b + nI h))) (pSv p3 C0) y_243 5 H.size hc_243 hp_243 (by first | assumption | omega | decide)) gL_isBestSo_X5_count rfl rfl rfl (by decide +kernel) rfl ⟨Nat.le_of_ble_eq_true rfl, Nat.le_of_ble_eq_true rfl⟩ rfl rfl rfl (Nat.le_of_ble_eq_true rfl) dL_isBestSo_250 ⟨Nat.le_of_ble_eq_true rfl, Nat.le_of_ble_eq_true rfl⟩) (fun r_250 y_250 H locs hw hP hD hS => ?_)
                                  have hP : va_P G.1 vwCl (pW G a sa (cHa C0 b (mn 99 (C0.2.2.2.1 b + nI h))) (pSv p3 C0) y_250) H := hP
                                  have hD : va_D A (pW G a sa (cHa C0 b (mn 99 (C0.2.2.2.1 b + nI h))) (pSv p3 C0) y_250) := hD
                                  have hw_250 : r_250 = CT (cHa C0 b (mn 99 (C0.2.2.2.1 b + nI h))) (pSv p3 C0).2.2 5 := hw
                                  subst hw_250
                                  refine g_ti (y := GR (cHa C0 b (mn 99 (C0.2.2.2.1 b + nI h)))) (rfl) ?_
                                  refine lv_istore (lv' := [(12, .int (GR (cHa C0 b (mn 99 (C0.2.2.2.1 b + nI h))))), (6, .int (C0.2.2.2.1 b)), (11, .int ((C0.2.2.2.1 b) + (nI h))), (9, .int 1), (10, .int (nI b)), (8, .int (nI lf3)), (7, .int (GR (cSt C0 i (BSp C0 i)))), (5, .int (BSp C0 i)), (4, .int (nI C0.1)), (0, .ref (a 0)), (1, .int (nI i)), (2, .int (nI h)), (3, .int (nI j))]) hx hb dL_isBestSo_253 hl (by decide) rfl (fun ls hl => ?_)
                                  refine lv_aload_n hx hb dL_isBestSo_255 rfl (lv_at hl 9 rfl) ?_
                                  refine e_ci (w2 := fun (z : YS) => pW G a sa ((pSv p3 C0).1 (pj (pSv p3 C0).2.1 (pSv p3 C0).2.2)) (pUn (pSv p3 C0)) z) hD hS hA (e_V (n := 0) (ci := 5) (q0 := 0) (As := []) (rest := []) hx hb hml hown hts hK hP hD hl (p_undo l G a sa (cHa C0 b (mn 99 (C0.2.2.2.1 b + nI h))) (pSv p3 C0) y_250 H.size hc_243 hp_243 (okQ_kp)) gL_isBestSo_X5_undo rfl rfl rfl (by decide +kernel) rfl ⟨Nat.le_of_ble_eq_true rfl, Nat.le_of_ble_eq_true rfl⟩ rfl rfl rfl (Nat.le_of_ble_eq_true rfl) dL_isBestSo_256 ⟨Nat.le_of_ble_eq_true rfl, Nat.le_of_ble_eq_true rfl⟩) (fun r_256 y_256 H locs hw hP hD hS => ?_)
                                  have hP : va_P G.1 vwCl (pW G a sa ((pSv p3 C0).1 (pj (pSv p3 C0).2.1 (pSv p3 C0).2.2)) (pUn (pSv p3 C0)) y_256) H := hP
                                  have hD : va_D A (pW G a sa ((pSv p3 C0).1 (pj (pSv p3 C0).2.1 (pSv p3 C0).2.2)) (pUn (pSv p3 C0)) y_256) := hD
                                  have hw_256 : r_256 = nI ((pSv p3 C0).2.2 - 1) := hw
                                  obtain ⟨lf_256, hlf_256, e9⟩ : ∃ k, k < 7 ∧ r_256 = nI k := ⟨_, un_lt hp3, hw_256⟩
                                  subst e9
                                  rw [pSv_top] at hP hD
                                  have hp_256 := okQ_un (okQ_sv (c := C0) hp3)
                                  generalize pUn (pSv p3 C0) = p_256 at hP hD hp_256
                                  have hP : va_P G.1 vwCl (pW G a sa C0 p_256 y_256) H := hP
                                  have hD : va_D A (pW G a sa C0 p_256 y_256) := hD
                                  refine lv_istore (lv' := [(8, .int (nI lf_256)), (12, .int (GR (cHa C0 b (mn 99 (C0.2.2.2.1 b + nI h))))), (6, .int (C0.2.2.2.1 b)), (11, .int ((C0.2.2.2.1 b) + (nI h))), (9, .int 1), (10, .int (nI b)), (7, .int (GR (cSt C0 i (BSp C0 i)))), (5, .int (BSp C0 i)), (4, .int (nI C0.1)), (0, .ref (a 0)), (1, .int (nI i)), (2, .int (nI h)), (3, .int (nI j))]) hx hb dL_isBestSo_259 hl (by decide) rfl (fun ls hl => ?_)
                                  refine lv_aload_n hx hb dL_isBestSo_261 rfl (lv_at hl 9 rfl) ?_
                                  refine lv_iload_n hx hb dL_isBestSo_262 rfl (lv_at hl 12 rfl) ?_
                                  refine lv_iconst (v := 2) hx hb dL_isBestSo_263 (by decide) ?_
                                  refine e_ci (w2 := fun (z : YS) => pW G a sa C0 p_256 z) hD hS hA (e_V (n := 2) (ci := 5) (q0 := 0) (As := [.int (nI j), .int 2]) (rest := []) hx hb hml hown hts hK hP hD hl (p_joint l G a sa C0 p_256 y_256 j 2 H.size hc hp_256 (hj) (by first | assumption | omega | decide)) gL_isBestSo_X5_joint rfl rfl rfl (by decide +kernel) rfl ⟨Nat.le_of_ble_eq_true rfl, Nat.le_of_ble_eq_true rfl⟩ rfl rfl rfl (Nat.le_of_ble_eq_true rfl) dL_isBestSo_264 ⟨Nat.le_of_ble_eq_true rfl, Nat.le_of_ble_eq_true rfl⟩) (fun r_264 y_264 H locs hw hP hD hS => ?_)
                                  have hP : va_P G.1 vwCl (pW G a sa C0 p_256 y_264) H := hP
                                  have hD : va_D A (pW G a sa C0 p_256 y_264) := hD
                                  have hw_264 : r_264 = JT C0 j 2 := hw
                                  subst hw_264
                                  refine g_ti (y := C0.2.2.2.1 j) (rfl) ?_
                                  refine lv_iload_n hx hb dL_isBestSo_267 rfl (lv_at hl 11 rfl) ?_
                                  refine lv_iadd hx hb dL_isBestSo_268 ?_
                                  refine lv_istore (lv' := [(11, .int ((C0.2.2.2.1 j) + (nI h))), (8, .int (nI lf_256)), (12, .int (GR (cHa C0 b (mn 99 (C0.2.2.2.1 b + nI h))))), (6, .int (C0.2.2.2.1 b)), (9, .int 1), (10, .int (nI b)), (7, .int (GR (cSt C0 i (BSp C0 i)))), (5, .int (BSp C0 i)), (4, .int (nI C0.1)), (0, .ref (a 0)), (1, .int (nI i)), (2, .int (nI h)), (3, .int (nI j))]) hx hb dL_isBestSo_269 hl (by decide) rfl (fun ls hl => ?_)
                                  refine lv_aload_n hx hb dL_isBestSo_271 rfl (lv_at hl 9 rfl) ?_
                                  refine lv_iload_n hx hb dL_isBestSo_272 rfl (lv_at hl 12 rfl) ?_
                                  have J273 : ∀ x_4 : Int32, x_4 = mn 99 (C0.2.2.2.1 j + nI h) → W p l e ({ frames := 6, cells := 0, slots := 0, locals := 132 } : Room) s m args below meth c H locs 0 0 Q (F0 m 287 ls [.int x_4, .int (nI j), .ref (a 0)]) := by
                                    intro x_4 ex_4
                                    subst ex_4
                                    refine e_ci (w2 := fun (z : YS) => pW G a sa (cHa C0 j (mn 99 (C0.2.2.2.1 j + nI h))) (pSv p_256 C0) z) hD hS hA (e_V (n := 2) (ci := 5) (q0 := 0) (As := [.int (nI j), .int (mn 99 (C0.2.2.2.1 j + nI h))]) (rest := []) hx hb hml hown hts hK hP hD hl (p_hanger l G a sa C0 p_256 y_264 j (mn 99 (C0.2.2.2.1 j + nI h)) H.size hc hp_256 (hj) (ha_r hc hj hh99)) gL_isBestSo_X5_hanger rfl rfl rfl (by decide +kernel) rfl ⟨Nat.le_of_ble_eq_true rfl, Nat.le_of_ble_eq_true rfl⟩ rfl rfl rfl (Nat.le_of_ble_eq_true rfl) dL_isBestSo_287 ⟨Nat.le_of_ble_eq_true rfl, Nat.le_of_ble_eq_true rfl⟩) (fun r_287 y_287 H locs hw hP hD hS => ?_)
                                    have hP : va_P G.1 vwCl (pW G a sa (cHa C0 j (mn 99 (C0.2.2.2.1 j + nI h))) (pSv p_256 C0) y_287) H := hP
                                    have hD : va_D A (pW G a sa (cHa C0 j (mn 99 (C0.2.2.2.1 j + nI h))) (pSv p_256 C0) y_287) := hD
                                    have hw_287 : r_287 = C0.2.2.2.1 j := hw
                                    subst hw_287
                                    have hc_287 : okC (cHa C0 j (mn 99 (C0.2.2.2.1 j + nI h))) := okC_ha hc (show 0 ≤ (mn 99 (C0.2.2.2.1 j + nI h)) ∧ (mn 99 (C0.2.2.2.1 j + nI h)) ≤ 99 from ha_r hc hj hh99)
                                    have hp_287 : okQ (pSv p_256 C0) := okQ_sv hp_256
                                    refine lv_istore (lv' := [(6, .int (C0.2.2.2.1 j)), (11, .int ((C0.2.2.2.1 j) + (nI h))), (8, .int (nI lf_256)), (12, .int (GR (cHa C0 b (mn 99 (C0.2.2.2.1 b + nI h))))), (9, .int 1), (10, .int (nI b)), (7, .int (GR (cSt C0 i (BSp C0 i)))), (5, .int (BSp C0 i)), (4, .int (nI C0.1)), (0, .ref (a 0)), (1, .int (nI i)), (2, .int (nI h)), (3, .int (nI j))]) hx hb dL_isBestSo_290 hl (by decide) rfl (fun ls hl => ?_)
                                    refine lv_iload hx hb dL_isBestSo_292 (lv_at hl 4 rfl) ?_
                                    refine g_if_eq (a := 1) (tgt := 327) hx hb (by omega) dL_isBestSo_294 (by decide) (fun c_294 => ?_) (fun c_294 => ?_)
                                    · exact absurd c_294 (by decide)
                                    · skip
                                      have L323 : ∀ (y9 : YS), ∀ (H : Heap) (locs : List Loc) (ls : Array Slot), va_P G.1 vwCl (pW G a sa (cHa C0 j (mn 99 (C0.2.2.2.1 j + nI h))) (pSv p_256 C0) y9) H → va_D A (pW G a sa (cHa C0 j (mn 99 (C0.2.2.2.1 j + nI h))) (pSv p_256 C0) y9) → va_S A s.heap H locs → lv_has ls 13 [(6, .int (C0.2.2.2.1 j)), (11, .int ((C0.2.2.2.1 j) + (nI h))), (8, .int (nI lf_256)), (12, .int (GR (cHa C0 b (mn 99 (C0.2.2.2.1 b + nI h))))), (9, .int 1), (10, .int (nI b)), (7, .int (GR (cSt C0 i (BSp C0 i)))), (5, .int (BSp C0 i)), (4, .int (nI C0.1)), (0, .ref (a 0)), (1, .int (nI i)), (2, .int (nI h)), (3, .int (nI j))] → W p l e ({ frames := 6, cells := 0, slots := 0, locals := 132 } : Room) s m args below meth c H locs 0 0 Q (F0 m 323 ls []) := by
                                        intro y9 H locs ls hP hD hS hl
                                        refine lv_iconst (v := 1) hx hb dL_isBestSo_323 (by decide) ?_
                                        refine lv_goto (tgt := 328) hx hb dL_isBestSo_324 (by decide) ?_
                                        refine lv_istore (lv' := [(9, .int 1), (6, .int (C0.2.2.2.1 j)), (11, .int ((C0.2.2.2.1 j) + (nI h))), (8, .int (nI lf_256)), (12, .int (GR (cHa C0 b (mn 99 (C0.2.2.2.1 b + nI h))))), (10, .int (nI b)), (7, .int (GR (cSt C0 i (BSp C0 i)))), (5, .int (BSp C0 i)), (4, .int (nI C0.1)), (0, .ref (a 0)), (1, .int (nI i)), (2, .int (nI h)), (3, .int (nI j))]) hx hb dL_isBestSo_328 hl (by decide) rfl (fun ls hl => ?_)
                                        refine lv_aload_n hx hb dL_isBestSo_330 rfl (lv_at hl 9 rfl) ?_
                                        refine e_ci (w2 := fun (z : YS) => pW G a sa ((pSv p_256 C0).1 (pj (pSv p_256 C0).2.1 (pSv p_256 C0).2.2)) (pUn (pSv p_256 C0)) z) hD hS hA (e_V (n := 0) (ci := 5) (q0 := 0) (As := []) (rest := []) hx hb hml hown hts hK hP hD hl (p_undo l G a sa (cHa C0 j (mn 99 (C0.2.2.2.1 j + nI h))) (pSv p_256 C0) y9 H.size hc_287 hp_287 (okQ_kp)) gL_isBestSo_X5_undo rfl rfl rfl (by decide +kernel) rfl ⟨Nat.le_of_ble_eq_true rfl, Nat.le_of_ble_eq_true rfl⟩ rfl rfl rfl (Nat.le_of_ble_eq_true rfl) dL_isBestSo_331 ⟨Nat.le_of_ble_eq_true rfl, Nat.le_of_ble_eq_true rfl⟩) (fun r_331 y_331 H locs hw hP hD hS => ?_)
                                        have hP : va_P G.1 vwCl (pW G a sa ((pSv p_256 C0).1 (pj (pSv p_256 C0).2.1 (pSv p_256 C0).2.2)) (pUn (pSv p_256 C0)) y_331) H := hP
                                        have hD : va_D A (pW G a sa ((pSv p_256 C0).1 (pj (pSv p_256 C0).2.1 (pSv p_256 C0).2.2)) (pUn (pSv p_256 C0)) y_331) := hD
                                        have hw_331 : r_331 = nI ((pSv p_256 C0).2.2 - 1) := hw
                                        obtain ⟨lf_331, hlf_331, e9⟩ : ∃ k, k < 7 ∧ r_331 = nI k := ⟨_, un_lt hp_256, hw_331⟩
                                        subst e9
                                        rw [pSv_top] at hP hD
                                        have hp_331 := okQ_un (okQ_sv (c := C0) hp_256)
                                        generalize pUn (pSv p_256 C0) = p_331 at hP hD hp_331
                                        have hP : va_P G.1 vwCl (pW G a sa C0 p_331 y_331) H := hP
                                        have hD : va_D A (pW G a sa C0 p_331 y_331) := hD
                                        refine lv_istore (lv' := [(8, .int (nI lf_331)), (9, .int 1), (6, .int (C0.2.2.2.1 j)), (11, .int ((C0.2.2.2.1 j) + (nI h))), (12, .int (GR (cHa C0 b (mn 99 (C0.2.2.2.1 b + nI h))))), (10, .int (nI b)), (7, .int (GR (cSt C0 i (BSp C0 i)))), (5, .int (BSp C0 i)), (4, .int (nI C0.1)), (0, .ref (a 0)), (1, .int (nI i)), (2, .int (nI h)), (3, .int (nI j))]) hx hb dL_isBestSo_334 hl (by decide) rfl (fun ls hl => ?_)
                                        exact L336 p_331 y_331 lf_331 (hp_331) (hlf_331) _ _ _ hP hD hS (lv_sub hl [1, 0, 9] rfl)
                                      refine lv_iload hx hb dL_isBestSo_297 (lv_at hl 3 rfl) ?_
                                      refine lv_aload_n hx hb dL_isBestSo_299 rfl (lv_at hl 9 rfl) ?_
                                      refine lv_iconst (v := 5) hx hb dL_isBestSo_300 (by decide) ?_
                                      refine e_ci (w2 := fun (z : YS) => pW G a sa (cHa C0 j (mn 99 (C0.2.2.2.1 j + nI h))) (pSv p_256 C0) z) hD hS hA (e_V (n := 1) (ci := 5) (q0 := 0) (As := [.int 5]) (rest := [.int (GR (cHa C0 b (mn 99 (C0.2.2.2.1 b + nI h))))]) hx hb hml hown hts hK hP hD hl (p_count l G a sa (cHa C0 j (mn 99 (C0.2.2.2.1 j + nI h))) (pSv p_256 C0) y_287 5 H.size hc_287 hp_287 (by first | assumption | omega | decide)) gL_isBestSo_X5_count rfl rfl rfl (by decide +kernel) rfl ⟨Nat.le_of_ble_eq_true rfl, Nat.le_of_ble_eq_true rfl⟩ rfl rfl rfl (Nat.le_of_ble_eq_true rfl) dL_isBestSo_301 ⟨Nat.le_of_ble_eq_true rfl, Nat.le_of_ble_eq_true rfl⟩) (fun r_301 y_301 H locs hw hP hD hS => ?_)
                                      have hP : va_P G.1 vwCl (pW G a sa (cHa C0 j (mn 99 (C0.2.2.2.1 j + nI h))) (pSv p_256 C0) y_301) H := hP
                                      have hD : va_D A (pW G a sa (cHa C0 j (mn 99 (C0.2.2.2.1 j + nI h))) (pSv p_256 C0) y_301) := hD
                                      have hw_301 : r_301 = CT (cHa C0 j (mn 99 (C0.2.2.2.1 j + nI h))) (pSv p_256 C0).2.2 5 := hw
                                      subst hw_301
                                      refine g_ti (y := GR (cHa C0 j (mn 99 (C0.2.2.2.1 j + nI h)))) (rfl) ?_
                                      refine lv_icmp_lt (tgt := 323) hx hb dL_isBestSo_304 (by decide) (fun c_304 => ?_) (fun c_304 => ?_)
                                      · skip
                                        exact L323 y_301 _ _ _ hP hD hS (lv_sub hl [0, 1, 2, 3, 4, 5, 6, 7, 8, 9, 10, 11, 12] rfl)
                                      · skip
                                        refine lv_iload hx hb dL_isBestSo_307 (lv_at hl 3 rfl) ?_
                                        refine lv_aload_n hx hb dL_isBestSo_309 rfl (lv_at hl 9 rfl) ?_
                                        refine lv_iconst (v := 5) hx hb dL_isBestSo_310 (by decide) ?_
                                        refine e_ci (w2 := fun (z : YS) => pW G a sa (cHa C0 j (mn 99 (C0.2.2.2.1 j + nI h))) (pSv p_256 C0) z) hD hS hA (e_V (n := 1) (ci := 5) (q0 := 0) (As := [.int 5]) (rest := [.int (GR (cHa C0 b (mn 99 (C0.2.2.2.1 b + nI h))))]) hx hb hml hown hts hK hP hD hl (p_count l G a sa (cHa C0 j (mn 99 (C0.2.2.2.1 j + nI h))) (pSv p_256 C0) y_301 5 H.size hc_287 hp_287 (by first | assumption | omega | decide)) gL_isBestSo_X5_count rfl rfl rfl (by decide +kernel) rfl ⟨Nat.le_of_ble_eq_true rfl, Nat.le_of_ble_eq_true rfl⟩ rfl rfl rfl (Nat.le_of_ble_eq_true rfl) dL_isBestSo_311 ⟨Nat.le_of_ble_eq_true rfl, Nat.le_of_ble_eq_true rfl⟩) (fun r_311 y_311 H locs hw hP hD hS => ?_)
                                        have hP : va_P G.1 vwCl (pW G a sa (cHa C0 j (mn 99 (C0.2.2.2.1 j + nI h))) (pSv p_256 C0) y_311) H := hP
                                        have hD : va_D A (pW G a sa (cHa C0 j (mn 99 (C0.2.2.2.1 j + nI h))) (pSv p_256 C0) y_311) := hD
                                        have hw_311 : r_311 = CT (cHa C0 j (mn 99 (C0.2.2.2.1 j + nI h))) (pSv p_256 C0).2.2 5 := hw
                                        subst hw_311
                                        refine g_ti (y := GR (cHa C0 j (mn 99 (C0.2.2.2.1 j + nI h)))) (rfl) ?_
                                        refine lv_icmp_ne (tgt := 327) hx hb dL_isBestSo_314 (by decide) (fun c_314 => ?_) (fun c_314 => ?_)
                                        · exact absurd (Int32.le_antisymm (hb4 j c_206 c_212).1 (Int32.not_lt.mp c_304)) c_314
                                        · skip
                                          refine lv_iload hx hb dL_isBestSo_317 (lv_at hl 5 rfl) ?_
                                          refine lv_iload_n hx hb dL_isBestSo_319 rfl (lv_at hl 12 rfl) ?_
                                          refine g_icmp_gt (a := b) (b := j) (tgt := 327) hx hb (by omega) (by omega) dL_isBestSo_320 (by decide) (fun c_320 => ?_) (fun c_320 => ?_)
                                          · exact absurd ((hb4 j c_206 c_212).2 c_320) c_304
                                          · skip
                                            exact L323 y_311 _ _ _ hP hD hS (lv_sub hl [0, 1, 2, 3, 4, 5, 6, 7, 8, 9, 10, 11, 12] rfl)
                                  refine lv_iload hx hb dL_isBestSo_273 (lv_at hl 0 rfl) ?_
                                  refine lv_bipush (v := 99) hx hb dL_isBestSo_275 (by decide) ?_
                                  refine lv_icmp_le (tgt := 285) hx hb dL_isBestSo_277 (by decide) (fun c_277 => ?_) (fun c_277 => ?_)
                                  · skip
                                    refine lv_iload hx hb dL_isBestSo_285 (lv_at hl 0 rfl) ?_
                                    exact J273 ((C0.2.2.2.1 j) + (nI h)) ((mn99_k c_277).symm)
                                  · skip
                                    refine lv_bipush (v := 99) hx hb dL_isBestSo_280 (by decide) ?_
                                    refine lv_goto (tgt := 287) hx hb dL_isBestSo_282 (by decide) ?_
                                    exact J273 99 ((mn99_l c_277).symm)
                                refine lv_iload hx hb dL_isBestSo_229 (lv_at hl 0 rfl) ?_
                                refine lv_bipush (v := 99) hx hb dL_isBestSo_231 (by decide) ?_
                                refine lv_icmp_le (tgt := 241) hx hb dL_isBestSo_233 (by decide) (fun c_233 => ?_) (fun c_233 => ?_)
                                · skip
                                  refine lv_iload hx hb dL_isBestSo_241 (lv_at hl 0 rfl) ?_
                                  exact J229 ((C0.2.2.2.1 b) + (nI h)) ((mn99_k c_233).symm)
                                · skip
                                  refine lv_bipush (v := 99) hx hb dL_isBestSo_236 (by decide) ?_
                                  refine lv_goto (tgt := 243) hx hb dL_isBestSo_238 (by decide) ?_
                                  exact J229 99 ((mn99_l c_233).symm)
                      refine lv_iload hx hb dL_isBestSo_176 (lv_at hl 0 rfl) ?_
                      refine lv_if_lt (tgt := 193) hx hb dL_isBestSo_178 (by decide) (fun c_178 => ?_) (fun c_178 => ?_)
                      · skip
                        exact L193  _ _ _ hP hD hS (lv_sub hl [0, 1, 2, 3, 4, 5, 6, 7, 8, 9] rfl)
                      · skip
                        refine lv_iload hx hb dL_isBestSo_181 (lv_at hl 0 rfl) ?_
                        refine lv_if_le (tgt := 197) hx hb dL_isBestSo_183 (by decide) (fun c_183 => ?_) (fun c_183 => ?_)
                        · exact absurd c_183 (bh_pos hc c_178)
                        · skip
                          refine lv_iload hx hb dL_isBestSo_186 (lv_at hl 0 rfl) ?_
                          refine lv_iload hx hb dL_isBestSo_188 (lv_at hl 5 rfl) ?_
                          refine lv_icmp_ge (tgt := 197) hx hb dL_isBestSo_190 (by decide) (fun c_190 => ?_) (fun c_190 => ?_)
                          · exact absurd c_190 (bh_n hc c_178)
                          · skip
                            exact L193  _ _ _ hP hD hS (lv_sub hl [0, 1, 2, 3, 4, 5, 6, 7, 8, 9] rfl)
                  refine lv_iload hx hb dL_isBestSo_162 (lv_at hl 5 rfl) ?_
                  refine lv_iconst (v := 1) hx hb dL_isBestSo_164 (by decide) ?_
                  refine g_icmp_ne (a := C0.1) (b := 1) (tgt := 172) hx hb (by omega) (by omega) dL_isBestSo_165 (by decide) (fun c_165 => ?_) (fun c_165 => ?_)
                  · skip
                    refine lv_iconst (v := 0) hx hb dL_isBestSo_172 (by decide) ?_
                    exact J162 0 (on_0 c_165)
                  · skip
                    refine lv_iconst (v := 1) hx hb dL_isBestSo_168 (by decide) ?_
                    refine lv_goto (tgt := 173) hx hb dL_isBestSo_169 (by decide) ?_
                    exact J162 1 (on_1 c_165)
                refine lv_iload hx hb dL_isBestSo_151 (lv_at hl 0 rfl) ?_
                refine lv_iconst (v := (-1)) hx hb dL_isBestSo_153 (by decide) ?_
                refine lv_icmp_ne (tgt := 161) hx hb dL_isBestSo_154 (by decide) (fun c_154 => ?_) (fun c_154 => ?_)
                · skip
                  refine lv_iconst (v := 0) hx hb dL_isBestSo_161 (by decide) ?_
                  exact J151 0 (on_f c_154)
                · skip
                  refine lv_iconst (v := 1) hx hb dL_isBestSo_157 (by decide) ?_
                  refine lv_goto (tgt := 162) hx hb dL_isBestSo_158 (by decide) ?_
                  exact J151 1 (on_t hc c_154)
            · skip
              have hq5 := stI_3f hq c_76
              refine lv_aload_n hx hb dL_isBestSo_79 rfl (lv_at hl 6 rfl) ?_
              refine lv_iload_n hx hb dL_isBestSo_80 rfl (lv_at hl 7 rfl) ?_
              refine lv_iload hx hb dL_isBestSo_81 (lv_at hl 0 rfl) ?_
              refine e_ci (w2 := fun (z : YS) => pW G a sa (cSt C0 i (stI q)) (pSv p3 C0) z) hD hS hA (e_V (n := 2) (ci := 5) (q0 := 0) (As := [.int (nI i), .int (stI q)]) (rest := []) hx hb hml hown hts hK hP hD hl (p_bend l G a sa C0 p3 y3 i (stI q) H.size hc hp3 (hi) (stI_r hq5)) gL_isBestSo_X5_bend rfl rfl rfl (by decide +kernel) rfl ⟨Nat.le_of_ble_eq_true rfl, Nat.le_of_ble_eq_true rfl⟩ rfl rfl rfl (Nat.le_of_ble_eq_true rfl) dL_isBestSo_83 ⟨Nat.le_of_ble_eq_true rfl, Nat.le_of_ble_eq_true rfl⟩) (fun r_83 y_83 H locs hw hP hD hS => ?_)
              have hP : va_P G.1 vwCl (pW G a sa (cSt C0 i (stI q)) (pSv p3 C0) y_83) H := hP
              have hD : va_D A (pW G a sa (cSt C0 i (stI q)) (pSv p3 C0) y_83) := hD
              have hw_83 : r_83 = C0.2.1 i + 2 := hw
              subst hw_83
              have hc_83 : okC (cSt C0 i (stI q)) := okC_st hc (show -2 ≤ (stI q) ∧ (stI q) ≤ 2 from stI_r hq5)
              have hp_83 : okQ (pSv p3 C0) := okQ_sv hp3
              refine lv_istore (lv' := [(6, .int (C0.2.1 i + 2)), (10, .int (stI q)), (9, .int 1), (8, .int (nI lf3)), (7, .int (GR (cSt C0 i (BSp C0 i)))), (5, .int (BSp C0 i)), (4, .int (nI C0.1)), (0, .ref (a 0)), (1, .int (nI i)), (2, .int (nI h)), (3, .int (nI j))]) hx hb dL_isBestSo_86 hl (by decide) rfl (fun ls hl => ?_)
              refine lv_iload hx hb dL_isBestSo_88 (lv_at hl 2 rfl) ?_
              refine g_if_eq (a := 1) (tgt := 124) hx hb (by omega) dL_isBestSo_90 (by decide) (fun c_90 => ?_) (fun c_90 => ?_)
              · exact absurd c_90 (by decide)
              · skip
                have L120 : ∀ (y4 : YS), ∀ (H : Heap) (locs : List Loc) (ls : Array Slot), va_P G.1 vwCl (pW G a sa (cSt C0 i (stI q)) (pSv p3 C0) y4) H → va_D A (pW G a sa (cSt C0 i (stI q)) (pSv p3 C0) y4) → va_S A s.heap H locs → lv_has ls 13 [(6, .int (C0.2.1 i + 2)), (10, .int (stI q)), (9, .int 1), (8, .int (nI lf3)), (7, .int (GR (cSt C0 i (BSp C0 i)))), (5, .int (BSp C0 i)), (4, .int (nI C0.1)), (0, .ref (a 0)), (1, .int (nI i)), (2, .int (nI h)), (3, .int (nI j))] → W p l e ({ frames := 6, cells := 0, slots := 0, locals := 132 } : Room) s m args below meth c H locs 0 0 Q (F0 m 120 ls []) := by
                  intro y4 H locs ls hP hD hS hl
                  refine lv_iconst (v := 1) hx hb dL_isBestSo_120 (by decide) ?_
                  refine lv_goto (tgt := 125) hx hb dL_isBestSo_121 (by decide) ?_
                  refine lv_istore (lv' := [(9, .int 1), (6, .int (C0.2.1 i + 2)), (10, .int (stI q)), (8, .int (nI lf3)), (7, .int (GR (cSt C0 i (BSp C0 i)))), (5, .int (BSp C0 i)), (4, .int (nI C0.1)), (0, .ref (a 0)), (1, .int (nI i)), (2, .int (nI h)), (3, .int (nI j))]) hx hb dL_isBestSo_125 hl (by decide) rfl (fun ls hl => ?_)
                  refine lv_aload_n hx hb dL_isBestSo_127 rfl (lv_at hl 7 rfl) ?_
                  refine e_ci (w2 := fun (z : YS) => pW G a sa ((pSv p3 C0).1 (pj (pSv p3 C0).2.1 (pSv p3 C0).2.2)) (pUn (pSv p3 C0)) z) hD hS hA (e_V (n := 0) (ci := 5) (q0 := 0) (As := []) (rest := []) hx hb hml hown hts hK hP hD hl (p_undo l G a sa (cSt C0 i (stI q)) (pSv p3 C0) y4 H.size hc_83 hp_83 (okQ_kp)) gL_isBestSo_X5_undo rfl rfl rfl (by decide +kernel) rfl ⟨Nat.le_of_ble_eq_true rfl, Nat.le_of_ble_eq_true rfl⟩ rfl rfl rfl (Nat.le_of_ble_eq_true rfl) dL_isBestSo_128 ⟨Nat.le_of_ble_eq_true rfl, Nat.le_of_ble_eq_true rfl⟩) (fun r_128 y_128 H locs hw hP hD hS => ?_)
                  have hP : va_P G.1 vwCl (pW G a sa ((pSv p3 C0).1 (pj (pSv p3 C0).2.1 (pSv p3 C0).2.2)) (pUn (pSv p3 C0)) y_128) H := hP
                  have hD : va_D A (pW G a sa ((pSv p3 C0).1 (pj (pSv p3 C0).2.1 (pSv p3 C0).2.2)) (pUn (pSv p3 C0)) y_128) := hD
                  have hw_128 : r_128 = nI ((pSv p3 C0).2.2 - 1) := hw
                  obtain ⟨lf_128, hlf_128, e9⟩ : ∃ k, k < 7 ∧ r_128 = nI k := ⟨_, un_lt hp3, hw_128⟩
                  subst e9
                  rw [pSv_top] at hP hD
                  have hp_128 := okQ_un (okQ_sv (c := C0) hp3)
                  generalize pUn (pSv p3 C0) = p_128 at hP hD hp_128
                  have hP : va_P G.1 vwCl (pW G a sa C0 p_128 y_128) H := hP
                  have hD : va_D A (pW G a sa C0 p_128 y_128) := hD
                  refine lv_istore (lv' := [(8, .int (nI lf_128)), (9, .int 1), (6, .int (C0.2.1 i + 2)), (10, .int (stI q)), (7, .int (GR (cSt C0 i (BSp C0 i)))), (5, .int (BSp C0 i)), (4, .int (nI C0.1)), (0, .ref (a 0)), (1, .int (nI i)), (2, .int (nI h)), (3, .int (nI j))]) hx hb dL_isBestSo_131 hl (by decide) rfl (fun ls hl => ?_)
                  refine lv_iinc (v := stI (q + 1)) (lv' := [(10, .int (stI (q + 1))), (8, .int (nI lf_128)), (9, .int 1), (6, .int (C0.2.1 i + 2)), (7, .int (GR (cSt C0 i (BSp C0 i)))), (5, .int (BSp C0 i)), (4, .int (nI C0.1)), (0, .ref (a 0)), (1, .int (nI i)), (2, .int (nI h)), (3, .int (nI j))]) hx hb dL_isBestSo_133 hl (k := 3) rfl (stI_S q) (by decide) rfl (fun ls hl => ?_)
                  refine lv_goto (tgt := 73) hx hb dL_isBestSo_136 (by decide) ?_
                  exact ih73 (q + 1) p_128 y_128 lf_128 (by first | assumption | omega) (hp_128) (hlf_128) (by omega) _ _ _ hP hD hS (lv_sub hl [0, 2, 1, 4, 5, 6, 7, 8, 9, 10] rfl)
                refine lv_aload_n hx hb dL_isBestSo_93 rfl (lv_at hl 7 rfl) ?_
                refine lv_iconst (v := 5) hx hb dL_isBestSo_94 (by decide) ?_
                refine e_ci (w2 := fun (z : YS) => pW G a sa (cSt C0 i (stI q)) (pSv p3 C0) z) hD hS hA (e_V (n := 1) (ci := 5) (q0 := 0) (As := [.int 5]) (rest := []) hx hb hml hown hts hK hP hD hl (p_count l G a sa (cSt C0 i (stI q)) (pSv p3 C0) y_83 5 H.size hc_83 hp_83 (by first | assumption | omega | decide)) gL_isBestSo_X5_count rfl rfl rfl (by decide +kernel) rfl ⟨Nat.le_of_ble_eq_true rfl, Nat.le_of_ble_eq_true rfl⟩ rfl rfl rfl (Nat.le_of_ble_eq_true rfl) dL_isBestSo_95 ⟨Nat.le_of_ble_eq_true rfl, Nat.le_of_ble_eq_true rfl⟩) (fun r_95 y_95 H locs hw hP hD hS => ?_)
                have hP : va_P G.1 vwCl (pW G a sa (cSt C0 i (stI q)) (pSv p3 C0) y_95) H := hP
                have hD : va_D A (pW G a sa (cSt C0 i (stI q)) (pSv p3 C0) y_95) := hD
                have hw_95 : r_95 = CT (cSt C0 i (stI q)) (pSv p3 C0).2.2 5 := hw
                subst hw_95
                refine g_ti (y := GR (cSt C0 i (stI q))) (rfl) ?_
                refine lv_iload hx hb dL_isBestSo_98 (lv_at hl 4 rfl) ?_
                refine lv_icmp_gt (tgt := 120) hx hb dL_isBestSo_100 (by decide) (fun c_100 => ?_) (fun c_100 => ?_)
                · skip
                  exact L120 y_95 _ _ _ hP hD hS (lv_sub hl [0, 1, 2, 3, 4, 5, 6, 7, 8, 9, 10] rfl)
                · skip
                  refine lv_aload_n hx hb dL_isBestSo_103 rfl (lv_at hl 7 rfl) ?_
                  refine lv_iconst (v := 5) hx hb dL_isBestSo_104 (by decide) ?_
                  refine e_ci (w2 := fun (z : YS) => pW G a sa (cSt C0 i (stI q)) (pSv p3 C0) z) hD hS hA (e_V (n := 1) (ci := 5) (q0 := 0) (As := [.int 5]) (rest := []) hx hb hml hown hts hK hP hD hl (p_count l G a sa (cSt C0 i (stI q)) (pSv p3 C0) y_95 5 H.size hc_83 hp_83 (by first | assumption | omega | decide)) gL_isBestSo_X5_count rfl rfl rfl (by decide +kernel) rfl ⟨Nat.le_of_ble_eq_true rfl, Nat.le_of_ble_eq_true rfl⟩ rfl rfl rfl (Nat.le_of_ble_eq_true rfl) dL_isBestSo_105 ⟨Nat.le_of_ble_eq_true rfl, Nat.le_of_ble_eq_true rfl⟩) (fun r_105 y_105 H locs hw hP hD hS => ?_)
                  have hP : va_P G.1 vwCl (pW G a sa (cSt C0 i (stI q)) (pSv p3 C0) y_105) H := hP
                  have hD : va_D A (pW G a sa (cSt C0 i (stI q)) (pSv p3 C0) y_105) := hD
                  have hw_105 : r_105 = CT (cSt C0 i (stI q)) (pSv p3 C0).2.2 5 := hw
                  subst hw_105
                  refine g_ti (y := GR (cSt C0 i (stI q))) (rfl) ?_
                  refine lv_iload hx hb dL_isBestSo_108 (lv_at hl 4 rfl) ?_
                  refine lv_icmp_ne (tgt := 124) hx hb dL_isBestSo_110 (by decide) (fun c_110 => ?_) (fun c_110 => ?_)
                  · exact absurd (bs_eq hq5 c_100) c_110
                  · skip
                    refine lv_iload hx hb dL_isBestSo_113 (lv_at hl 1 rfl) ?_
                    refine lv_iload hx hb dL_isBestSo_115 (lv_at hl 5 rfl) ?_
                    refine lv_icmp_lt (tgt := 124) hx hb dL_isBestSo_117 (by decide) (fun c_117 => ?_) (fun c_117 => ?_)
                    · exact absurd c_117 (bs_lt hq5 c_100)
                    · skip
                      exact L120 y_105 _ _ _ hP hD hS (lv_sub hl [0, 1, 2, 3, 4, 5, 6, 7, 8, 9, 10] rfl)
        exact L73 (5 - 0 + 1) 0 p_33 y_56 lf_33 (by first | assumption | omega) (hp_33) (hlf_33) (Nat.lt_succ_self _) _ _ _ hP hD hS (lv_sub hl [0, 1, 2, 3, 5, 6, 7, 8, 9, 10] rfl)
