set_option maxHeartbeats 4000000 in
set_option maxRecDepth 100000 in
theorem c_L_areIfsSo (l : Launch) (G : kG) (a : Nat → Nat) (sa : Nat → Nat → Nat) (C0 : CV) (P0 : PS) (y0 : YS) (j : Nat) (w : Nat) (o : Nat) (sz : Nat) (hc : okC C0) (hp : okQ P0) (hj : j ≤ C0.1) (hw0 : w < 100) (ho : o ≤ C0.1) : kMet l yL_areIfsSo wsL_areIfsSo ({ frames := 6, cells := 0, slots := 0, locals := 132 } : Room) G [.ref (a 0), .int (nI j), .int (nI w), .int (nI o)] (pW G a sa C0 P0 y0) sz (kQi G (fun (r : Int32) (u : PS × YS) => r = 1 ∧ okQ u.1) (fun (u : PS × YS) => pW G a sa C0 u.1 u.2)) 0 0 := by
  refine k_entry (cc := cL_areIfsSo) (maxL := 13) (ret := (some .boolean)) (by decide) rfl (Nat.le_of_ble_eq_true rfl) ?_
  intro p e s m args below meth c A ls H locs Q hQ hx hb hml hr hts hown hlocks hin hA hP hK hD hS hl
  have hown : s.vm.findClass RL = some m.cls := hown
  have hn1 := hc.1
  have hn := hc.2.1
  have hl : lv_has ls 13 [(0, .ref (a 0)), (1, .int (nI j)), (2, .int (nI w)), (3, .int (nI o))] := hl
  have hw99 := nI_99 hw0
  refine lv_aload_n hx hb dL_areIfsSo_0 rfl (lv_at hl 0 rfl) ?_
  refine lv_iload_n hx hb dL_areIfsSo_1 rfl (lv_at hl 1 rfl) ?_
  refine e_ci (w2 := fun (z : YS) => pW G a sa C0 P0 z) hD hS hA (e_V (n := 1) (ci := 5) (q0 := 0) (As := [.int (nI j)]) (rest := []) hx hb hml hown hts hK hP hD hl (p_mostWeight l G a sa C0 P0 y0 j H.size hc hp (by first | assumption | omega | decide)) gL_areIfsSo_X5_mostWeight rfl rfl rfl (by decide +kernel) rfl ⟨Nat.le_of_ble_eq_true rfl, Nat.le_of_ble_eq_true rfl⟩ rfl rfl rfl (Nat.le_of_ble_eq_true rfl) dL_areIfsSo_2 ⟨Nat.le_of_ble_eq_true rfl, Nat.le_of_ble_eq_true rfl⟩) (fun r_2 y_2 H locs hw hP hD hS => ?_)
  have hP : va_P G.1 vwCl (pW G a sa C0 P0 y_2) H := hP
  have hD : va_D A (pW G a sa C0 P0 y_2) := hD
  have hw_2 : r_2 = hvI (pWe C0.1 C0.2.1 C0.2.2.1 C0.2.2.2.1 C0.2.2.2.2.1 C0.2.2.2.2.2 j) 100 := hw
  subst hw_2
  refine g_ti (y := MW C0 j) (rfl) ?_
  refine lv_istore (lv' := [(4, .int (MW C0 j)), (0, .ref (a 0)), (1, .int (nI j)), (2, .int (nI w)), (3, .int (nI o))]) hx hb dL_areIfsSo_5 hl (by decide) rfl (fun ls hl => ?_)
  refine lv_aload_n hx hb dL_areIfsSo_7 rfl (lv_at hl 1 rfl) ?_
  refine lv_iload_n hx hb dL_areIfsSo_8 rfl (lv_at hl 2 rfl) ?_
  refine lv_iload_n hx hb dL_areIfsSo_9 rfl (lv_at hl 3 rfl) ?_
  refine e_ci (w2 := fun (z : YS) => pW G a sa C0 P0 z) hD hS hA (e_V (n := 2) (ci := 5) (q0 := 0) (As := [.int (nI j), .int (nI w)]) (rest := []) hx hb hml hown hts hK hP hD hl (p_ifWeight l G a sa C0 P0 y_2 j (nI w) H.size hc hp (by first | assumption | omega | decide) (hw99)) gL_areIfsSo_X5_ifWeight rfl rfl rfl (by decide +kernel) rfl ⟨Nat.le_of_ble_eq_true rfl, Nat.le_of_ble_eq_true rfl⟩ rfl rfl rfl (Nat.le_of_ble_eq_true rfl) dL_areIfsSo_10 ⟨Nat.le_of_ble_eq_true rfl, Nat.le_of_ble_eq_true rfl⟩) (fun r_10 y_10 H locs hw hP hD hS => ?_)
  have hP : va_P G.1 vwCl (pW G a sa C0 P0 y_10) H := hP
  have hD : va_D A (pW G a sa C0 P0 y_10) := hD
  have hw_10 : r_10 = GR (cWe C0 j (nI w)) := hw
  subst hw_10
  refine lv_istore (lv' := [(5, .int (GR (cWe C0 j (nI w)))), (4, .int (MW C0 j)), (0, .ref (a 0)), (1, .int (nI j)), (2, .int (nI w)), (3, .int (nI o))]) hx hb dL_areIfsSo_13 hl (by decide) rfl (fun ls hl => ?_)
  refine lv_aload_n hx hb dL_areIfsSo_15 rfl (lv_at hl 2 rfl) ?_
  refine lv_iload_n hx hb dL_areIfsSo_16 rfl (lv_at hl 3 rfl) ?_
  refine lv_iload_n hx hb dL_areIfsSo_17 rfl (lv_at hl 4 rfl) ?_
  refine e_ci (w2 := fun (z : YS) => pW G a sa (cWe C0 j (nI w)) (pSv P0 C0) z) hD hS hA (e_V (n := 2) (ci := 5) (q0 := 0) (As := [.int (nI j), .int (nI w)]) (rest := []) hx hb hml hown hts hK hP hD hl (p_weight l G a sa C0 P0 y_10 j (nI w) H.size hc hp (by first | assumption | omega | decide) (hw99)) gL_areIfsSo_X5_weight rfl rfl rfl (by decide +kernel) rfl ⟨Nat.le_of_ble_eq_true rfl, Nat.le_of_ble_eq_true rfl⟩ rfl rfl rfl (Nat.le_of_ble_eq_true rfl) dL_areIfsSo_18 ⟨Nat.le_of_ble_eq_true rfl, Nat.le_of_ble_eq_true rfl⟩) (fun r_18 y_18 H locs hw hP hD hS => ?_)
  have hP : va_P G.1 vwCl (pW G a sa (cWe C0 j (nI w)) (pSv P0 C0) y_18) H := hP
  have hD : va_D A (pW G a sa (cWe C0 j (nI w)) (pSv P0 C0) y_18) := hD
  have hw_18 : r_18 = C0.2.2.1 j := hw
  subst hw_18
  have hc_18 : okC (cWe C0 j (nI w)) := okC_we hc (show 0 ≤ (nI w) ∧ (nI w) ≤ 99 from hw99)
  have hp_18 : okQ (pSv P0 C0) := okQ_sv hp
  refine lv_istore (lv' := [(6, .int (C0.2.2.1 j)), (5, .int (GR (cWe C0 j (nI w)))), (4, .int (MW C0 j)), (0, .ref (a 0)), (1, .int (nI j)), (2, .int (nI w)), (3, .int (nI o))]) hx hb dL_areIfsSo_21 hl (by decide) rfl (fun ls hl => ?_)
  refine lv_aload_n hx hb dL_areIfsSo_23 rfl (lv_at hl 3 rfl) ?_
  refine lv_iconst (v := 5) hx hb dL_areIfsSo_24 (by decide) ?_
  refine e_ci (w2 := fun (z : YS) => pW G a sa (cWe C0 j (nI w)) (pSv P0 C0) z) hD hS hA (e_V (n := 1) (ci := 5) (q0 := 0) (As := [.int 5]) (rest := []) hx hb hml hown hts hK hP hD hl (p_count l G a sa (cWe C0 j (nI w)) (pSv P0 C0) y_18 5 H.size hc_18 hp_18 (by first | assumption | omega | decide)) gL_areIfsSo_X5_count rfl rfl rfl (by decide +kernel) rfl ⟨Nat.le_of_ble_eq_true rfl, Nat.le_of_ble_eq_true rfl⟩ rfl rfl rfl (Nat.le_of_ble_eq_true rfl) dL_areIfsSo_25 ⟨Nat.le_of_ble_eq_true rfl, Nat.le_of_ble_eq_true rfl⟩) (fun r_25 y_25 H locs hw hP hD hS => ?_)
  have hP : va_P G.1 vwCl (pW G a sa (cWe C0 j (nI w)) (pSv P0 C0) y_25) H := hP
  have hD : va_D A (pW G a sa (cWe C0 j (nI w)) (pSv P0 C0) y_25) := hD
  have hw_25 : r_25 = CT (cWe C0 j (nI w)) (pSv P0 C0).2.2 5 := hw
  subst hw_25
  refine g_ti (y := GR (cWe C0 j (nI w))) (rfl) ?_
  refine lv_iload hx hb dL_areIfsSo_28 (lv_at hl 1 rfl) ?_
  refine lv_icmp_ne (tgt := 63) hx hb dL_areIfsSo_30 (by decide) (fun c_30 => ?_) (fun c_30 => ?_)
  · exact absurd rfl c_30
  · skip
    refine lv_aload_n hx hb dL_areIfsSo_33 rfl (lv_at hl 3 rfl) ?_
    refine lv_bipush (v := 7) hx hb dL_areIfsSo_34 (by decide) ?_
    refine e_ci (w2 := fun (z : YS) => pW G a sa (cWe C0 j (nI w)) (pSv P0 C0) z) hD hS hA (e_V (n := 1) (ci := 5) (q0 := 0) (As := [.int 7]) (rest := []) hx hb hml hown hts hK hP hD hl (p_count l G a sa (cWe C0 j (nI w)) (pSv P0 C0) y_25 7 H.size hc_18 hp_18 (by first | assumption | omega | decide)) gL_areIfsSo_X5_count rfl rfl rfl (by decide +kernel) rfl ⟨Nat.le_of_ble_eq_true rfl, Nat.le_of_ble_eq_true rfl⟩ rfl rfl rfl (Nat.le_of_ble_eq_true rfl) dL_areIfsSo_36 ⟨Nat.le_of_ble_eq_true rfl, Nat.le_of_ble_eq_true rfl⟩) (fun r_36 y_36 H locs hw hP hD hS => ?_)
    have hP : va_P G.1 vwCl (pW G a sa (cWe C0 j (nI w)) (pSv P0 C0) y_36) H := hP
    have hD : va_D A (pW G a sa (cWe C0 j (nI w)) (pSv P0 C0) y_36) := hD
    have hw_36 : r_36 = CT (cWe C0 j (nI w)) (pSv P0 C0).2.2 7 := hw
    subst hw_36
    have L48 : ∀ (H : Heap) (locs : List Loc) (ls : Array Slot), va_P G.1 vwCl (pW G a sa (cWe C0 j (nI w)) (pSv P0 C0) y_36) H → va_D A (pW G a sa (cWe C0 j (nI w)) (pSv P0 C0) y_36) → va_S A s.heap H locs → lv_has ls 13 [(6, .int (C0.2.2.1 j)), (5, .int (GR (cWe C0 j (nI w)))), (4, .int (MW C0 j)), (0, .ref (a 0)), (1, .int (nI j)), (2, .int (nI w)), (3, .int (nI o))] → W p l e ({ frames := 6, cells := 0, slots := 0, locals := 132 } : Room) s m args below meth c H locs 0 0 Q (F0 m 48 ls []) := by
      intro H locs ls hP hD hS hl
      refine lv_aload_n hx hb dL_areIfsSo_48 rfl (lv_at hl 3 rfl) ?_
      refine lv_iload_n hx hb dL_areIfsSo_49 rfl (lv_at hl 4 rfl) ?_
      refine lv_iload_n hx hb dL_areIfsSo_50 rfl (lv_at hl 5 rfl) ?_
      refine e_ci (w2 := fun (z : YS) => pW G a sa (cWe C0 j (nI w)) (pSv P0 C0) z) hD hS hA (e_V (n := 2) (ci := 5) (q0 := 0) (As := [.int (nI j), .int (nI w)]) (rest := []) hx hb hml hown hts hK hP hD hl (p_ifWeight l G a sa (cWe C0 j (nI w)) (pSv P0 C0) y_36 j (nI w) H.size hc_18 hp_18 (by first | assumption | omega | decide) (hw99)) gL_areIfsSo_X5_ifWeight rfl rfl rfl (by decide +kernel) rfl ⟨Nat.le_of_ble_eq_true rfl, Nat.le_of_ble_eq_true rfl⟩ rfl rfl rfl (Nat.le_of_ble_eq_true rfl) dL_areIfsSo_51 ⟨Nat.le_of_ble_eq_true rfl, Nat.le_of_ble_eq_true rfl⟩) (fun r_51 y_51 H locs hw hP hD hS => ?_)
      have hP : va_P G.1 vwCl (pW G a sa (cWe C0 j (nI w)) (pSv P0 C0) y_51) H := hP
      have hD : va_D A (pW G a sa (cWe C0 j (nI w)) (pSv P0 C0) y_51) := hD
      have hw_51 : r_51 = GR (cWe (cWe C0 j (nI w)) j (nI w)) := hw
      subst hw_51
      refine g_ti (y := GR (cWe C0 j (nI w))) (congrArg GR cWe_2) ?_
      refine lv_iload hx hb dL_areIfsSo_54 (lv_at hl 1 rfl) ?_
      refine lv_icmp_ne (tgt := 63) hx hb dL_areIfsSo_56 (by decide) (fun c_56 => ?_) (fun c_56 => ?_)
      · exact absurd rfl c_56
      · skip
        refine lv_iconst (v := 1) hx hb dL_areIfsSo_59 (by decide) ?_
        refine lv_goto (tgt := 64) hx hb dL_areIfsSo_60 (by decide) ?_
        refine lv_istore (lv' := [(7, .int 1), (6, .int (C0.2.2.1 j)), (5, .int (GR (cWe C0 j (nI w)))), (4, .int (MW C0 j)), (0, .ref (a 0)), (1, .int (nI j)), (2, .int (nI w)), (3, .int (nI o))]) hx hb dL_areIfsSo_64 hl (by decide) rfl (fun ls hl => ?_)
        refine lv_aload_n hx hb dL_areIfsSo_66 rfl (lv_at hl 4 rfl) ?_
        refine e_ci (w2 := fun (z : YS) => pW G a sa ((pSv P0 C0).1 (pj (pSv P0 C0).2.1 (pSv P0 C0).2.2)) (pUn (pSv P0 C0)) z) hD hS hA (e_V (n := 0) (ci := 5) (q0 := 0) (As := []) (rest := []) hx hb hml hown hts hK hP hD hl (p_undo l G a sa (cWe C0 j (nI w)) (pSv P0 C0) y_51 H.size hc_18 hp_18 (okQ_kp)) gL_areIfsSo_X5_undo rfl rfl rfl (by decide +kernel) rfl ⟨Nat.le_of_ble_eq_true rfl, Nat.le_of_ble_eq_true rfl⟩ rfl rfl rfl (Nat.le_of_ble_eq_true rfl) dL_areIfsSo_67 ⟨Nat.le_of_ble_eq_true rfl, Nat.le_of_ble_eq_true rfl⟩) (fun r_67 y_67 H locs hw hP hD hS => ?_)
        have hP : va_P G.1 vwCl (pW G a sa ((pSv P0 C0).1 (pj (pSv P0 C0).2.1 (pSv P0 C0).2.2)) (pUn (pSv P0 C0)) y_67) H := hP
        have hD : va_D A (pW G a sa ((pSv P0 C0).1 (pj (pSv P0 C0).2.1 (pSv P0 C0).2.2)) (pUn (pSv P0 C0)) y_67) := hD
        have hw_67 : r_67 = nI ((pSv P0 C0).2.2 - 1) := hw
        obtain ⟨lf_67, hlf_67, e9⟩ : ∃ k, k < 7 ∧ r_67 = nI k := ⟨_, un_lt hp, hw_67⟩
        subst e9
        rw [pSv_top] at hP hD
        have hp_67 := okQ_un (okQ_sv (c := C0) hp)
        generalize pUn (pSv P0 C0) = p_67 at hP hD hp_67
        have hP : va_P G.1 vwCl (pW G a sa C0 p_67 y_67) H := hP
        have hD : va_D A (pW G a sa C0 p_67 y_67) := hD
        refine lv_istore (lv' := [(8, .int (nI lf_67)), (7, .int 1), (6, .int (C0.2.2.1 j)), (5, .int (GR (cWe C0 j (nI w)))), (4, .int (MW C0 j)), (0, .ref (a 0)), (1, .int (nI j)), (2, .int (nI w)), (3, .int (nI o))]) hx hb dL_areIfsSo_70 hl (by decide) rfl (fun ls hl => ?_)
        refine lv_iload hx hb dL_areIfsSo_72 (lv_at hl 1 rfl) ?_
        refine g_if_eq (a := 1) (tgt := 96) hx hb (by omega) dL_areIfsSo_74 (by decide) (fun c_74 => ?_) (fun c_74 => ?_)
        · exact absurd c_74 (by decide)
        · skip
          refine lv_aload_n hx hb dL_areIfsSo_77 rfl (lv_at hl 5 rfl) ?_
          refine lv_iload_n hx hb dL_areIfsSo_78 rfl (lv_at hl 6 rfl) ?_
          refine lv_iload hx hb dL_areIfsSo_79 (lv_at hl 2 rfl) ?_
          refine e_ci (w2 := fun (z : YS) => pW G a sa C0 p_67 z) hD hS hA (e_V (n := 2) (ci := 5) (q0 := 0) (As := [.int (nI j), .int (C0.2.2.1 j)]) (rest := []) hx hb hml hown hts hK hP hD hl (p_ifWeight l G a sa C0 p_67 y_67 j (C0.2.2.1 j) H.size hc hp_67 (by first | assumption | omega | decide) (nn_we hc hj)) gL_areIfsSo_X5_ifWeight rfl rfl rfl (by decide +kernel) rfl ⟨Nat.le_of_ble_eq_true rfl, Nat.le_of_ble_eq_true rfl⟩ rfl rfl rfl (Nat.le_of_ble_eq_true rfl) dL_areIfsSo_81 ⟨Nat.le_of_ble_eq_true rfl, Nat.le_of_ble_eq_true rfl⟩) (fun r_81 y_81 H locs hw hP hD hS => ?_)
          have hP : va_P G.1 vwCl (pW G a sa C0 p_67 y_81) H := hP
          have hD : va_D A (pW G a sa C0 p_67 y_81) := hD
          have hw_81 : r_81 = GR (cWe C0 j (C0.2.2.1 j)) := hw
          subst hw_81
          refine g_ti (y := GR C0) (congrArg GR cWe_s) ?_
          refine lv_aload_n hx hb dL_areIfsSo_84 rfl (lv_at hl 5 rfl) ?_
          refine lv_iconst (v := 5) hx hb dL_areIfsSo_85 (by decide) ?_
          refine e_ci (w2 := fun (z : YS) => pW G a sa C0 p_67 z) hD hS hA (e_V (n := 1) (ci := 5) (q0 := 0) (As := [.int 5]) (rest := [.int (GR C0)]) hx hb hml hown hts hK hP hD hl (p_count l G a sa C0 p_67 y_81 5 H.size hc hp_67 (by first | assumption | omega | decide)) gL_areIfsSo_X5_count rfl rfl rfl (by decide +kernel) rfl ⟨Nat.le_of_ble_eq_true rfl, Nat.le_of_ble_eq_true rfl⟩ rfl rfl rfl (Nat.le_of_ble_eq_true rfl) dL_areIfsSo_86 ⟨Nat.le_of_ble_eq_true rfl, Nat.le_of_ble_eq_true rfl⟩) (fun r_86 y_86 H locs hw hP hD hS => ?_)
          have hP : va_P G.1 vwCl (pW G a sa C0 p_67 y_86) H := hP
          have hD : va_D A (pW G a sa C0 p_67 y_86) := hD
          have hw_86 : r_86 = CT C0 p_67.2.2 5 := hw
          subst hw_86
          refine g_ti (y := GR C0) (rfl) ?_
          refine lv_icmp_ne (tgt := 96) hx hb dL_areIfsSo_89 (by decide) (fun c_89 => ?_) (fun c_89 => ?_)
          · exact absurd rfl c_89
          · skip
            refine lv_iconst (v := 1) hx hb dL_areIfsSo_92 (by decide) ?_
            refine lv_goto (tgt := 97) hx hb dL_areIfsSo_93 (by decide) ?_
            refine lv_istore (lv' := [(7, .int 1), (8, .int (nI lf_67)), (6, .int (C0.2.2.1 j)), (5, .int (GR (cWe C0 j (nI w)))), (4, .int (MW C0 j)), (0, .ref (a 0)), (1, .int (nI j)), (2, .int (nI w)), (3, .int (nI o))]) hx hb dL_areIfsSo_97 hl (by decide) rfl (fun ls hl => ?_)
            have L142 : ∀ (p5 : PS) (y5 : YS) (lf5 : Nat), (okQ p5) → (lf5 < 7) → ∀ (H : Heap) (locs : List Loc) (ls : Array Slot), va_P G.1 vwCl (pW G a sa C0 p5 y5) H → va_D A (pW G a sa C0 p5 y5) → va_S A s.heap H locs → lv_has ls 13 [(7, .int 1), (8, .int (nI lf5)), (4, .int (MW C0 j)), (0, .ref (a 0)), (1, .int (nI j)), (2, .int (nI w)), (3, .int (nI o))] → W p l e ({ frames := 6, cells := 0, slots := 0, locals := 132 } : Room) s m args below meth c H locs 0 0 Q (F0 m 142 ls []) := by
              intro p5 y5 lf5 hp5 hlf5 H locs ls hP hD hS hl
              refine lv_aload_n hx hb dL_areIfsSo_142 rfl (lv_at hl 3 rfl) ?_
              refine lv_iload_n hx hb dL_areIfsSo_143 rfl (lv_at hl 4 rfl) ?_
              refine e_ci (w2 := fun (z : YS) => pW G a sa C0 p5 z) hD hS hA (e_V (n := 1) (ci := 5) (q0 := 0) (As := [.int (nI j)]) (rest := []) hx hb hml hown hts hK hP hD hl (p_bestMove l G a sa C0 p5 y5 j H.size hc hp5 (by first | assumption | omega | decide)) gL_areIfsSo_X5_bestMove rfl rfl rfl (by decide +kernel) rfl ⟨Nat.le_of_ble_eq_true rfl, Nat.le_of_ble_eq_true rfl⟩ rfl rfl rfl (Nat.le_of_ble_eq_true rfl) dL_areIfsSo_144 ⟨Nat.le_of_ble_eq_true rfl, Nat.le_of_ble_eq_true rfl⟩) (fun r_144 y_144 H locs hw hP hD hS => ?_)
              have hP : va_P G.1 vwCl (pW G a sa C0 p5 y_144) H := hP
              have hD : va_D A (pW G a sa C0 p5 y_144) := hD
              have hw_144 : r_144 = bTo C0.1 C0.2.1 C0.2.2.1 C0.2.2.2.1 C0.2.2.2.2.1 C0.2.2.2.2.2 j := hw
              subst hw_144
              refine g_ti (y := BM C0 j) (rfl) ?_
              refine lv_istore (lv' := [(9, .int (BM C0 j)), (7, .int 1), (8, .int (nI lf5)), (4, .int (MW C0 j)), (0, .ref (a 0)), (1, .int (nI j)), (2, .int (nI w)), (3, .int (nI o))]) hx hb dL_areIfsSo_147 hl (by decide) rfl (fun ls hl => ?_)
              refine lv_iload hx hb dL_areIfsSo_149 (lv_at hl 1 rfl) ?_
              refine g_if_eq (a := 1) (tgt := 186) hx hb (by omega) dL_areIfsSo_151 (by decide) (fun c_151 => ?_) (fun c_151 => ?_)
              · exact absurd c_151 (by decide)
              · skip
                have J154 : ∀ x_1 : Int32, x_1 = nM C0 j → W p l e ({ frames := 6, cells := 0, slots := 0, locals := 132 } : Room) s m args below meth c H locs 0 0 Q (F0 m 165 ls [.int x_1]) := by
                  intro x_1 ex_1
                  subst ex_1
                  refine lv_aload_n hx hb dL_areIfsSo_165 rfl (lv_at hl 4 rfl) ?_
                  refine lv_iload_n hx hb dL_areIfsSo_166 rfl (lv_at hl 5 rfl) ?_
                  refine lv_iconst (v := 1) hx hb dL_areIfsSo_167 (by decide) ?_
                  refine e_ci (w2 := fun (z : YS) => pW G a sa C0 p5 z) hD hS hA (e_V (n := 2) (ci := 5) (q0 := 0) (As := [.int (nI j), .int 1]) (rest := [.int (nM C0 j)]) hx hb hml hown hts hK hP hD hl (p_joint l G a sa C0 p5 y_144 j 1 H.size hc hp5 (by first | assumption | omega | decide) (by first | assumption | omega | decide)) gL_areIfsSo_X5_joint rfl rfl rfl (by decide +kernel) rfl ⟨Nat.le_of_ble_eq_true rfl, Nat.le_of_ble_eq_true rfl⟩ rfl rfl rfl (Nat.le_of_ble_eq_true rfl) dL_areIfsSo_168 ⟨Nat.le_of_ble_eq_true rfl, Nat.le_of_ble_eq_true rfl⟩) (fun r_168 y_168 H locs hw hP hD hS => ?_)
                  have hP : va_P G.1 vwCl (pW G a sa C0 p5 y_168) H := hP
                  have hD : va_D A (pW G a sa C0 p5 y_168) := hD
                  have hw_168 : r_168 = JT C0 j 1 := hw
                  subst hw_168
                  have J171 : ∀ x_2 : Int32, x_2 = nM C0 j → W p l e ({ frames := 6, cells := 0, slots := 0, locals := 132 } : Room) s m args below meth c H locs 0 0 Q (F0 m 179 ls [.int x_2, .int (nM C0 j)]) := by
                    intro x_2 ex_2
                    subst ex_2
                    refine lv_icmp_ne (tgt := 186) hx hb dL_areIfsSo_179 (by decide) (fun c_179 => ?_) (fun c_179 => ?_)
                    · exact absurd rfl c_179
                    · skip
                      refine lv_iconst (v := 1) hx hb dL_areIfsSo_182 (by decide) ?_
                      refine lv_goto (tgt := 187) hx hb dL_areIfsSo_183 (by decide) ?_
                      refine lv_istore (lv' := [(7, .int 1), (9, .int (BM C0 j)), (8, .int (nI lf5)), (4, .int (MW C0 j)), (0, .ref (a 0)), (1, .int (nI j)), (2, .int (nI w)), (3, .int (nI o))]) hx hb dL_areIfsSo_187 hl (by decide) rfl (fun ls hl => ?_)
                      have L285 : ∀ (p6 : PS) (y6 : YS) (lf6 : Nat), (okQ p6) → (lf6 < 7) → ∀ (H : Heap) (locs : List Loc) (ls : Array Slot), va_P G.1 vwCl (pW G a sa C0 p6 y6) H → va_D A (pW G a sa C0 p6 y6) → va_S A s.heap H locs → lv_has ls 13 [(7, .int 1), (8, .int (nI lf6)), (0, .ref (a 0))] → W p l e ({ frames := 6, cells := 0, slots := 0, locals := 132 } : Room) s m args below meth c H locs 0 0 Q (F0 m 285 ls []) := by
                        intro p6 y6 lf6 hp6 hlf6 H locs ls hP hD hS hl
                        refine lv_iload hx hb dL_areIfsSo_285 (lv_at hl 0 rfl) ?_
                        refine g_if_eq (a := 1) (tgt := 299) hx hb (by omega) dL_areIfsSo_287 (by decide) (fun c_287 => ?_) (fun c_287 => ?_)
                        · exact absurd c_287 (by decide)
                        · skip
                          refine lv_iload hx hb dL_areIfsSo_290 (lv_at hl 1 rfl) ?_
                          refine g_if_lt (a := lf6) (tgt := 299) hx hb (by omega) dL_areIfsSo_292 (by decide) ?_
                          refine lv_iconst (v := 1) hx hb dL_areIfsSo_295 (by decide) ?_
                          refine lv_goto (tgt := 300) hx hb dL_areIfsSo_296 (by decide) ?_
                          rw [hQ]
                          exact e_zret (v := 1) (p6, y6) hx hb hr hlocks (by first | exact Or.inl rfl | exact Or.inr rfl) (⟨rfl, hp6⟩) hK hP hD hS dL_areIfsSo_300
                      refine lv_iload hx hb dL_areIfsSo_189 (lv_at hl 1 rfl) ?_
                      refine lv_if_lt (tgt := 285) hx hb dL_areIfsSo_191 (by decide) (fun c_191 => ?_) (fun c_191 => ?_)
                      · skip
                        exact L285 p5 y_168 lf5 (hp5) (hlf5) _ _ _ hP hD hS (lv_sub hl [0, 2, 4] rfl)
                      · skip
                        refine lv_iload_n hx hb dL_areIfsSo_194 rfl (lv_at hl 7 rfl) ?_
                        refine lv_iload_n hx hb dL_areIfsSo_195 rfl (lv_at hl 5 rfl) ?_
                        refine g_icmp_eq (a := o) (b := j) (tgt := 285) hx hb (by omega) (by omega) dL_areIfsSo_196 (by decide) (fun c_196 => ?_) (fun c_196 => ?_)
                        · skip
                          exact L285 p5 y_168 lf5 (hp5) (hlf5) _ _ _ hP hD hS (lv_sub hl [0, 2, 4] rfl)
                        · skip
                          obtain ⟨b, hb1, hb2, hb3, hb4⟩ := bm_ex hc c_191
                          · skip
                            have hl : lv_has ls 13 [(7, .int 1), (9, .int (nI b)), (8, .int (nI lf5)), (4, .int (MW C0 j)), (0, .ref (a 0)), (1, .int (nI j)), (2, .int (nI w)), (3, .int (nI o))] := by rw [← hb3]; exact hl
                            refine lv_aload_n hx hb dL_areIfsSo_199 rfl (lv_at hl 4 rfl) ?_
                            refine lv_iload_n hx hb dL_areIfsSo_200 rfl (lv_at hl 5 rfl) ?_
                            refine lv_iload hx hb dL_areIfsSo_201 (lv_at hl 1 rfl) ?_
                            refine e_ci (w2 := fun (z : YS) => pW G a sa (cMv C0 j b) (pSv p5 C0) z) hD hS hA (e_V (n := 2) (ci := 5) (q0 := 0) (As := [.int (nI j), .int (nI b)]) (rest := []) hx hb hml hown hts hK hP hD hl (p_move l G a sa C0 p5 y_168 j b H.size hc hp5 (by first | assumption | omega | decide) (hb1) (Ne.symm hb2)) gL_areIfsSo_X5_move rfl rfl rfl (by decide +kernel) rfl ⟨Nat.le_of_ble_eq_true rfl, Nat.le_of_ble_eq_true rfl⟩ rfl rfl rfl (Nat.le_of_ble_eq_true rfl) dL_areIfsSo_203 ⟨Nat.le_of_ble_eq_true rfl, Nat.le_of_ble_eq_true rfl⟩) (fun r_203 y_203 H locs hw hP hD hS => ?_)
                            have hP : va_P G.1 vwCl (pW G a sa (cMv C0 j b) (pSv p5 C0) y_203) H := hP
                            have hD : va_D A (pW G a sa (cMv C0 j b) (pSv p5 C0) y_203) := hD
                            have hw_203 : r_203 = mvBy C0.2.2.1 j b := hw
                            subst hw_203
                            have hc_203 : okC (cMv C0 j b) := okC_mv hc (show j ≤ C0.1 from by first | assumption | omega | decide) (show b ≤ C0.1 from hb1) (show j ≠ b from Ne.symm hb2)
                            have hp_203 : okQ (pSv p5 C0) := okQ_sv hp5
                            refine lv_istore (lv' := [(10, .int (mvBy C0.2.2.1 j b)), (7, .int 1), (9, .int (nI b)), (8, .int (nI lf5)), (4, .int (MW C0 j)), (0, .ref (a 0)), (1, .int (nI j)), (2, .int (nI w)), (3, .int (nI o))]) hx hb dL_areIfsSo_206 hl (by decide) rfl (fun ls hl => ?_)
                            refine lv_aload_n hx hb dL_areIfsSo_208 rfl (lv_at hl 5 rfl) ?_
                            refine lv_iconst (v := 5) hx hb dL_areIfsSo_209 (by decide) ?_
                            refine e_ci (w2 := fun (z : YS) => pW G a sa (cMv C0 j b) (pSv p5 C0) z) hD hS hA (e_V (n := 1) (ci := 5) (q0 := 0) (As := [.int 5]) (rest := []) hx hb hml hown hts hK hP hD hl (p_count l G a sa (cMv C0 j b) (pSv p5 C0) y_203 5 H.size hc_203 hp_203 (by first | assumption | omega | decide)) gL_areIfsSo_X5_count rfl rfl rfl (by decide +kernel) rfl ⟨Nat.le_of_ble_eq_true rfl, Nat.le_of_ble_eq_true rfl⟩ rfl rfl rfl (Nat.le_of_ble_eq_true rfl) dL_areIfsSo_210 ⟨Nat.le_of_ble_eq_true rfl, Nat.le_of_ble_eq_true rfl⟩) (fun r_210 y_210 H locs hw hP hD hS => ?_)
                            have hP : va_P G.1 vwCl (pW G a sa (cMv C0 j b) (pSv p5 C0) y_210) H := hP
                            have hD : va_D A (pW G a sa (cMv C0 j b) (pSv p5 C0) y_210) := hD
                            have hw_210 : r_210 = CT (cMv C0 j b) (pSv p5 C0).2.2 5 := hw
                            subst hw_210
                            refine g_ti (y := GR (cMv C0 j b)) (rfl) ?_
                            refine lv_istore (lv' := [(11, .int (GR (cMv C0 j b))), (10, .int (mvBy C0.2.2.1 j b)), (7, .int 1), (9, .int (nI b)), (8, .int (nI lf5)), (4, .int (MW C0 j)), (0, .ref (a 0)), (1, .int (nI j)), (2, .int (nI w)), (3, .int (nI o))]) hx hb dL_areIfsSo_213 hl (by decide) rfl (fun ls hl => ?_)
                            refine lv_aload_n hx hb dL_areIfsSo_215 rfl (lv_at hl 6 rfl) ?_
                            refine e_ci (w2 := fun (z : YS) => pW G a sa ((pSv p5 C0).1 (pj (pSv p5 C0).2.1 (pSv p5 C0).2.2)) (pUn (pSv p5 C0)) z) hD hS hA (e_V (n := 0) (ci := 5) (q0 := 0) (As := []) (rest := []) hx hb hml hown hts hK hP hD hl (p_undo l G a sa (cMv C0 j b) (pSv p5 C0) y_210 H.size hc_203 hp_203 (okQ_kp)) gL_areIfsSo_X5_undo rfl rfl rfl (by decide +kernel) rfl ⟨Nat.le_of_ble_eq_true rfl, Nat.le_of_ble_eq_true rfl⟩ rfl rfl rfl (Nat.le_of_ble_eq_true rfl) dL_areIfsSo_216 ⟨Nat.le_of_ble_eq_true rfl, Nat.le_of_ble_eq_true rfl⟩) (fun r_216 y_216 H locs hw hP hD hS => ?_)
                            have hP : va_P G.1 vwCl (pW G a sa ((pSv p5 C0).1 (pj (pSv p5 C0).2.1 (pSv p5 C0).2.2)) (pUn (pSv p5 C0)) y_216) H := hP
                            have hD : va_D A (pW G a sa ((pSv p5 C0).1 (pj (pSv p5 C0).2.1 (pSv p5 C0).2.2)) (pUn (pSv p5 C0)) y_216) := hD
                            have hw_216 : r_216 = nI ((pSv p5 C0).2.2 - 1) := hw
                            obtain ⟨lf_216, hlf_216, e9⟩ : ∃ k, k < 7 ∧ r_216 = nI k := ⟨_, un_lt hp5, hw_216⟩
                            subst e9
                            rw [pSv_top] at hP hD
                            have hp_216 := okQ_un (okQ_sv (c := C0) hp5)
                            generalize pUn (pSv p5 C0) = p_216 at hP hD hp_216
                            have hP : va_P G.1 vwCl (pW G a sa C0 p_216 y_216) H := hP
                            have hD : va_D A (pW G a sa C0 p_216 y_216) := hD
                            refine lv_istore (lv' := [(8, .int (nI lf_216)), (11, .int (GR (cMv C0 j b))), (10, .int (mvBy C0.2.2.1 j b)), (7, .int 1), (9, .int (nI b)), (4, .int (MW C0 j)), (0, .ref (a 0)), (1, .int (nI j)), (2, .int (nI w)), (3, .int (nI o))]) hx hb dL_areIfsSo_219 hl (by decide) rfl (fun ls hl => ?_)
                            refine lv_aload_n hx hb dL_areIfsSo_221 rfl (lv_at hl 6 rfl) ?_
                            refine lv_iload_n hx hb dL_areIfsSo_222 rfl (lv_at hl 7 rfl) ?_
                            refine lv_iload_n hx hb dL_areIfsSo_223 rfl (lv_at hl 9 rfl) ?_
                            refine e_ci (w2 := fun (z : YS) => pW G a sa (cMv C0 j o) (pSv p_216 C0) z) hD hS hA (e_V (n := 2) (ci := 5) (q0 := 0) (As := [.int (nI j), .int (nI o)]) (rest := []) hx hb hml hown hts hK hP hD hl (p_move l G a sa C0 p_216 y_216 j o H.size hc hp_216 (by first | assumption | omega | decide) (ho) (Ne.symm c_196)) gL_areIfsSo_X5_move rfl rfl rfl (by decide +kernel) rfl ⟨Nat.le_of_ble_eq_true rfl, Nat.le_of_ble_eq_true rfl⟩ rfl rfl rfl (Nat.le_of_ble_eq_true rfl) dL_areIfsSo_224 ⟨Nat.le_of_ble_eq_true rfl, Nat.le_of_ble_eq_true rfl⟩) (fun r_224 y_224 H locs hw hP hD hS => ?_)
                            have hP : va_P G.1 vwCl (pW G a sa (cMv C0 j o) (pSv p_216 C0) y_224) H := hP
                            have hD : va_D A (pW G a sa (cMv C0 j o) (pSv p_216 C0) y_224) := hD
                            have hw_224 : r_224 = mvBy C0.2.2.1 j o := hw
                            subst hw_224
                            have hc_224 : okC (cMv C0 j o) := okC_mv hc (show j ≤ C0.1 from by first | assumption | omega | decide) (show o ≤ C0.1 from ho) (show j ≠ o from Ne.symm c_196)
                            have hp_224 : okQ (pSv p_216 C0) := okQ_sv hp_216
                            refine lv_istore (lv' := [(10, .int (mvBy C0.2.2.1 j o)), (8, .int (nI lf_216)), (11, .int (GR (cMv C0 j b))), (7, .int 1), (9, .int (nI b)), (4, .int (MW C0 j)), (0, .ref (a 0)), (1, .int (nI j)), (2, .int (nI w)), (3, .int (nI o))]) hx hb dL_areIfsSo_227 hl (by decide) rfl (fun ls hl => ?_)
                            refine lv_aload_n hx hb dL_areIfsSo_229 rfl (lv_at hl 6 rfl) ?_
                            refine lv_iconst (v := 5) hx hb dL_areIfsSo_230 (by decide) ?_
                            refine e_ci (w2 := fun (z : YS) => pW G a sa (cMv C0 j o) (pSv p_216 C0) z) hD hS hA (e_V (n := 1) (ci := 5) (q0 := 0) (As := [.int 5]) (rest := []) hx hb hml hown hts hK hP hD hl (p_count l G a sa (cMv C0 j o) (pSv p_216 C0) y_224 5 H.size hc_224 hp_224 (by first | assumption | omega | decide)) gL_areIfsSo_X5_count rfl rfl rfl (by decide +kernel) rfl ⟨Nat.le_of_ble_eq_true rfl, Nat.le_of_ble_eq_true rfl⟩ rfl rfl rfl (Nat.le_of_ble_eq_true rfl) dL_areIfsSo_231 ⟨Nat.le_of_ble_eq_true rfl, Nat.le_of_ble_eq_true rfl⟩) (fun r_231 y_231 H locs hw hP hD hS => ?_)
                            have hP : va_P G.1 vwCl (pW G a sa (cMv C0 j o) (pSv p_216 C0) y_231) H := hP
                            have hD : va_D A (pW G a sa (cMv C0 j o) (pSv p_216 C0) y_231) := hD
                            have hw_231 : r_231 = CT (cMv C0 j o) (pSv p_216 C0).2.2 5 := hw
                            subst hw_231
                            refine g_ti (y := GR (cMv C0 j o)) (rfl) ?_
                            refine lv_istore (lv' := [(12, .int (GR (cMv C0 j o))), (10, .int (mvBy C0.2.2.1 j o)), (8, .int (nI lf_216)), (11, .int (GR (cMv C0 j b))), (7, .int 1), (9, .int (nI b)), (4, .int (MW C0 j)), (0, .ref (a 0)), (1, .int (nI j)), (2, .int (nI w)), (3, .int (nI o))]) hx hb dL_areIfsSo_234 hl (by decide) rfl (fun ls hl => ?_)
                            refine lv_aload_n hx hb dL_areIfsSo_236 rfl (lv_at hl 7 rfl) ?_
                            refine e_ci (w2 := fun (z : YS) => pW G a sa ((pSv p_216 C0).1 (pj (pSv p_216 C0).2.1 (pSv p_216 C0).2.2)) (pUn (pSv p_216 C0)) z) hD hS hA (e_V (n := 0) (ci := 5) (q0 := 0) (As := []) (rest := []) hx hb hml hown hts hK hP hD hl (p_undo l G a sa (cMv C0 j o) (pSv p_216 C0) y_231 H.size hc_224 hp_224 (okQ_kp)) gL_areIfsSo_X5_undo rfl rfl rfl (by decide +kernel) rfl ⟨Nat.le_of_ble_eq_true rfl, Nat.le_of_ble_eq_true rfl⟩ rfl rfl rfl (Nat.le_of_ble_eq_true rfl) dL_areIfsSo_237 ⟨Nat.le_of_ble_eq_true rfl, Nat.le_of_ble_eq_true rfl⟩) (fun r_237 y_237 H locs hw hP hD hS => ?_)
                            have hP : va_P G.1 vwCl (pW G a sa ((pSv p_216 C0).1 (pj (pSv p_216 C0).2.1 (pSv p_216 C0).2.2)) (pUn (pSv p_216 C0)) y_237) H := hP
                            have hD : va_D A (pW G a sa ((pSv p_216 C0).1 (pj (pSv p_216 C0).2.1 (pSv p_216 C0).2.2)) (pUn (pSv p_216 C0)) y_237) := hD
                            have hw_237 : r_237 = nI ((pSv p_216 C0).2.2 - 1) := hw
                            obtain ⟨lf_237, hlf_237, e9⟩ : ∃ k, k < 7 ∧ r_237 = nI k := ⟨_, un_lt hp_216, hw_237⟩
                            subst e9
                            rw [pSv_top] at hP hD
                            have hp_237 := okQ_un (okQ_sv (c := C0) hp_216)
                            generalize pUn (pSv p_216 C0) = p_237 at hP hD hp_237
                            have hP : va_P G.1 vwCl (pW G a sa C0 p_237 y_237) H := hP
                            have hD : va_D A (pW G a sa C0 p_237 y_237) := hD
                            refine lv_istore (lv' := [(8, .int (nI lf_237)), (12, .int (GR (cMv C0 j o))), (10, .int (mvBy C0.2.2.1 j o)), (11, .int (GR (cMv C0 j b))), (7, .int 1), (9, .int (nI b)), (4, .int (MW C0 j)), (0, .ref (a 0)), (1, .int (nI j)), (2, .int (nI w)), (3, .int (nI o))]) hx hb dL_areIfsSo_240 hl (by decide) rfl (fun ls hl => ?_)
                            refine lv_iload hx hb dL_areIfsSo_242 (lv_at hl 4 rfl) ?_
                            refine g_if_eq (a := 1) (tgt := 282) hx hb (by omega) dL_areIfsSo_244 (by decide) (fun c_244 => ?_) (fun c_244 => ?_)
                            · exact absurd c_244 (by decide)
                            · skip
                              refine lv_iload hx hb dL_areIfsSo_247 (lv_at hl 5 rfl) ?_
                              refine lv_iload_n hx hb dL_areIfsSo_249 rfl (lv_at hl 8 rfl) ?_
                              refine g_icmp_eq (a := b) (b := j) (tgt := 282) hx hb (by omega) (by omega) dL_areIfsSo_250 (by decide) (fun c_250 => ?_) (fun c_250 => ?_)
                              · exact absurd c_250 hb2
                              · skip
                                have L273 : ∀ (H : Heap) (locs : List Loc) (ls : Array Slot), va_P G.1 vwCl (pW G a sa C0 p_237 y_237) H → va_D A (pW G a sa C0 p_237 y_237) → va_S A s.heap H locs → lv_has ls 13 [(8, .int (nI lf_237)), (12, .int (GR (cMv C0 j o))), (10, .int (mvBy C0.2.2.1 j o)), (11, .int (GR (cMv C0 j b))), (7, .int 1), (9, .int (nI b)), (4, .int (MW C0 j)), (0, .ref (a 0)), (1, .int (nI j)), (2, .int (nI w)), (3, .int (nI o))] → W p l e ({ frames := 6, cells := 0, slots := 0, locals := 132 } : Room) s m args below meth c H locs 0 0 Q (F0 m 273 ls []) := by
                                  intro H locs ls hP hD hS hl
                                  refine lv_iload hx hb dL_areIfsSo_273 (lv_at hl 2 rfl) ?_
                                  refine lv_if_lt (tgt := 282) hx hb dL_areIfsSo_275 (by decide) (fun c_275 => ?_) (fun c_275 => ?_)
                                  · exact absurd c_275 (Int32.not_lt.mpr (nn_move hc hj ho))
                                  · skip
                                    refine lv_iconst (v := 1) hx hb dL_areIfsSo_278 (by decide) ?_
                                    refine lv_goto (tgt := 283) hx hb dL_areIfsSo_279 (by decide) ?_
                                    refine lv_istore (lv' := [(7, .int 1), (8, .int (nI lf_237)), (12, .int (GR (cMv C0 j o))), (10, .int (mvBy C0.2.2.1 j o)), (11, .int (GR (cMv C0 j b))), (9, .int (nI b)), (4, .int (MW C0 j)), (0, .ref (a 0)), (1, .int (nI j)), (2, .int (nI w)), (3, .int (nI o))]) hx hb dL_areIfsSo_283 hl (by decide) rfl (fun ls hl => ?_)
                                    exact L285 p_237 y_237 lf_237 (hp_237) (hlf_237) _ _ _ hP hD hS (lv_sub hl [0, 1, 7] rfl)
                                refine lv_iload hx hb dL_areIfsSo_253 (lv_at hl 3 rfl) ?_
                                refine lv_iload hx hb dL_areIfsSo_255 (lv_at hl 1 rfl) ?_
                                refine lv_icmp_lt (tgt := 273) hx hb dL_areIfsSo_257 (by decide) (fun c_257 => ?_) (fun c_257 => ?_)
                                · skip
                                  exact L273  _ _ _ hP hD hS (lv_sub hl [0, 1, 2, 3, 4, 5, 6, 7, 8, 9, 10] rfl)
                                · skip
                                  refine lv_iload hx hb dL_areIfsSo_260 (lv_at hl 3 rfl) ?_
                                  refine lv_iload hx hb dL_areIfsSo_262 (lv_at hl 1 rfl) ?_
                                  refine lv_icmp_ne (tgt := 282) hx hb dL_areIfsSo_264 (by decide) (fun c_264 => ?_) (fun c_264 => ?_)
                                  · exact absurd (Int32.le_antisymm (hb4 o ho c_196).1 (Int32.not_lt.mp c_257)) c_264
                                  · skip
                                    refine lv_iload hx hb dL_areIfsSo_267 (lv_at hl 5 rfl) ?_
                                    refine lv_iload_n hx hb dL_areIfsSo_269 rfl (lv_at hl 10 rfl) ?_
                                    refine g_icmp_gt (a := b) (b := o) (tgt := 282) hx hb (by omega) (by omega) dL_areIfsSo_270 (by decide) (fun c_270 => ?_) (fun c_270 => ?_)
                                    · exact absurd ((hb4 o ho c_196).2 c_270) c_257
                                    · skip
                                      exact L273  _ _ _ hP hD hS (lv_sub hl [0, 1, 2, 3, 4, 5, 6, 7, 8, 9, 10] rfl)
                  refine lv_if_ne (tgt := 178) hx hb dL_areIfsSo_171 (by decide) (fun c_171 => ?_) (fun c_171 => ?_)
                  · skip
                    refine lv_iconst (v := 0) hx hb dL_areIfsSo_178 (by decide) ?_
                    exact J171 0 (nm_0 c_171)
                  · skip
                    refine lv_iconst (v := 1) hx hb dL_areIfsSo_174 (by decide) ?_
                    refine lv_goto (tgt := 179) hx hb dL_areIfsSo_175 (by decide) ?_
                    exact J171 1 (nm_1 c_171)
                refine lv_iload hx hb dL_areIfsSo_154 (lv_at hl 0 rfl) ?_
                refine lv_iconst (v := (-1)) hx hb dL_areIfsSo_156 (by decide) ?_
                refine lv_icmp_ne (tgt := 164) hx hb dL_areIfsSo_157 (by decide) (fun c_157 => ?_) (fun c_157 => ?_)
                · skip
                  refine lv_iconst (v := 0) hx hb dL_areIfsSo_164 (by decide) ?_
                  exact J154 0 (nm_f c_157)
                · skip
                  refine lv_iconst (v := 1) hx hb dL_areIfsSo_160 (by decide) ?_
                  refine lv_goto (tgt := 165) hx hb dL_areIfsSo_161 (by decide) ?_
                  exact J154 1 (nm_t hc c_157)
            refine lv_iload hx hb dL_areIfsSo_99 (lv_at hl 4 rfl) ?_
            refine lv_iconst (v := (-1)) hx hb dL_areIfsSo_101 (by decide) ?_
            refine lv_icmp_eq (tgt := 142) hx hb dL_areIfsSo_102 (by decide) (fun c_102 => ?_) (fun c_102 => ?_)
            · skip
              exact L142 p_67 y_86 lf_67 (hp_67) (hlf_67) _ _ _ hP hD hS (lv_sub hl [0, 1, 4, 5, 6, 7, 8] rfl)
            · skip
              refine lv_aload_n hx hb dL_areIfsSo_105 rfl (lv_at hl 5 rfl) ?_
              refine lv_iload_n hx hb dL_areIfsSo_106 rfl (lv_at hl 6 rfl) ?_
              refine lv_iload hx hb dL_areIfsSo_107 (lv_at hl 4 rfl) ?_
              refine e_ci (w2 := fun (z : YS) => pW G a sa (cWe C0 j (MW C0 j)) (pSv p_67 C0) z) hD hS hA (e_V (n := 2) (ci := 5) (q0 := 0) (As := [.int (nI j), .int (MW C0 j)]) (rest := []) hx hb hml hown hts hK hP hD hl (p_weight l G a sa C0 p_67 y_86 j (MW C0 j) H.size hc hp_67 (by first | assumption | omega | decide) (mw_99 c_102)) gL_areIfsSo_X5_weight rfl rfl rfl (by decide +kernel) rfl ⟨Nat.le_of_ble_eq_true rfl, Nat.le_of_ble_eq_true rfl⟩ rfl rfl rfl (Nat.le_of_ble_eq_true rfl) dL_areIfsSo_109 ⟨Nat.le_of_ble_eq_true rfl, Nat.le_of_ble_eq_true rfl⟩) (fun r_109 y_109 H locs hw hP hD hS => ?_)
              have hP : va_P G.1 vwCl (pW G a sa (cWe C0 j (MW C0 j)) (pSv p_67 C0) y_109) H := hP
              have hD : va_D A (pW G a sa (cWe C0 j (MW C0 j)) (pSv p_67 C0) y_109) := hD
              have hw_109 : r_109 = C0.2.2.1 j := hw
              subst hw_109
              have hc_109 : okC (cWe C0 j (MW C0 j)) := okC_we hc (show 0 ≤ (MW C0 j) ∧ (MW C0 j) ≤ 99 from mw_99 c_102)
              have hp_109 : okQ (pSv p_67 C0) := okQ_sv hp_67
              refine lv_istore (lv' := [(6, .int (C0.2.2.1 j)), (7, .int 1), (8, .int (nI lf_67)), (5, .int (GR (cWe C0 j (nI w)))), (4, .int (MW C0 j)), (0, .ref (a 0)), (1, .int (nI j)), (2, .int (nI w)), (3, .int (nI o))]) hx hb dL_areIfsSo_112 hl (by decide) rfl (fun ls hl => ?_)
              refine lv_iload hx hb dL_areIfsSo_114 (lv_at hl 1 rfl) ?_
              refine g_if_eq (a := 1) (tgt := 133) hx hb (by omega) dL_areIfsSo_116 (by decide) (fun c_116 => ?_) (fun c_116 => ?_)
              · exact absurd c_116 (by decide)
              · skip
                refine lv_aload_n hx hb dL_areIfsSo_119 rfl (lv_at hl 5 rfl) ?_
                refine lv_bipush (v := 7) hx hb dL_areIfsSo_120 (by decide) ?_
                refine e_ci (w2 := fun (z : YS) => pW G a sa (cWe C0 j (MW C0 j)) (pSv p_67 C0) z) hD hS hA (e_V (n := 1) (ci := 5) (q0 := 0) (As := [.int 7]) (rest := []) hx hb hml hown hts hK hP hD hl (p_count l G a sa (cWe C0 j (MW C0 j)) (pSv p_67 C0) y_109 7 H.size hc_109 hp_109 (by first | assumption | omega | decide)) gL_areIfsSo_X5_count rfl rfl rfl (by decide +kernel) rfl ⟨Nat.le_of_ble_eq_true rfl, Nat.le_of_ble_eq_true rfl⟩ rfl rfl rfl (Nat.le_of_ble_eq_true rfl) dL_areIfsSo_122 ⟨Nat.le_of_ble_eq_true rfl, Nat.le_of_ble_eq_true rfl⟩) (fun r_122 y_122 H locs hw hP hD hS => ?_)
                have hP : va_P G.1 vwCl (pW G a sa (cWe C0 j (MW C0 j)) (pSv p_67 C0) y_122) H := hP
                have hD : va_D A (pW G a sa (cWe C0 j (MW C0 j)) (pSv p_67 C0) y_122) := hD
                have hw_122 : r_122 = CT (cWe C0 j (MW C0 j)) (pSv p_67 C0).2.2 7 := hw
                subst hw_122
                refine lv_iconst (v := 1) hx hb dL_areIfsSo_125 (by decide) ?_
                refine lv_icmp_ne (tgt := 133) hx hb dL_areIfsSo_126 (by decide) (fun c_126 => ?_) (fun c_126 => ?_)
                · exact absurd (mw_ho c_102) c_126
                · skip
                  refine lv_iconst (v := 1) hx hb dL_areIfsSo_129 (by decide) ?_
                  refine lv_goto (tgt := 134) hx hb dL_areIfsSo_130 (by decide) ?_
                  refine lv_istore (lv' := [(7, .int 1), (6, .int (C0.2.2.1 j)), (8, .int (nI lf_67)), (5, .int (GR (cWe C0 j (nI w)))), (4, .int (MW C0 j)), (0, .ref (a 0)), (1, .int (nI j)), (2, .int (nI w)), (3, .int (nI o))]) hx hb dL_areIfsSo_134 hl (by decide) rfl (fun ls hl => ?_)
                  refine lv_aload_n hx hb dL_areIfsSo_136 rfl (lv_at hl 5 rfl) ?_
                  refine e_ci (w2 := fun (z : YS) => pW G a sa ((pSv p_67 C0).1 (pj (pSv p_67 C0).2.1 (pSv p_67 C0).2.2)) (pUn (pSv p_67 C0)) z) hD hS hA (e_V (n := 0) (ci := 5) (q0 := 0) (As := []) (rest := []) hx hb hml hown hts hK hP hD hl (p_undo l G a sa (cWe C0 j (MW C0 j)) (pSv p_67 C0) y_122 H.size hc_109 hp_109 (okQ_kp)) gL_areIfsSo_X5_undo rfl rfl rfl (by decide +kernel) rfl ⟨Nat.le_of_ble_eq_true rfl, Nat.le_of_ble_eq_true rfl⟩ rfl rfl rfl (Nat.le_of_ble_eq_true rfl) dL_areIfsSo_137 ⟨Nat.le_of_ble_eq_true rfl, Nat.le_of_ble_eq_true rfl⟩) (fun r_137 y_137 H locs hw hP hD hS => ?_)
                  have hP : va_P G.1 vwCl (pW G a sa ((pSv p_67 C0).1 (pj (pSv p_67 C0).2.1 (pSv p_67 C0).2.2)) (pUn (pSv p_67 C0)) y_137) H := hP
                  have hD : va_D A (pW G a sa ((pSv p_67 C0).1 (pj (pSv p_67 C0).2.1 (pSv p_67 C0).2.2)) (pUn (pSv p_67 C0)) y_137) := hD
                  have hw_137 : r_137 = nI ((pSv p_67 C0).2.2 - 1) := hw
                  obtain ⟨lf_137, hlf_137, e9⟩ : ∃ k, k < 7 ∧ r_137 = nI k := ⟨_, un_lt hp_67, hw_137⟩
                  subst e9
                  rw [pSv_top] at hP hD
                  have hp_137 := okQ_un (okQ_sv (c := C0) hp_67)
                  generalize pUn (pSv p_67 C0) = p_137 at hP hD hp_137
                  have hP : va_P G.1 vwCl (pW G a sa C0 p_137 y_137) H := hP
                  have hD : va_D A (pW G a sa C0 p_137 y_137) := hD
                  refine lv_istore (lv' := [(8, .int (nI lf_137)), (7, .int 1), (6, .int (C0.2.2.1 j)), (5, .int (GR (cWe C0 j (nI w)))), (4, .int (MW C0 j)), (0, .ref (a 0)), (1, .int (nI j)), (2, .int (nI w)), (3, .int (nI o))]) hx hb dL_areIfsSo_140 hl (by decide) rfl (fun ls hl => ?_)
                  exact L142 p_137 y_137 lf_137 (hp_137) (hlf_137) _ _ _ hP hD hS (lv_sub hl [1, 0, 4, 5, 6, 7, 8] rfl)
    refine lv_if_eq (tgt := 48) hx hb dL_areIfsSo_39 (by decide) (fun c_39 => ?_) (fun c_39 => ?_)
    · skip
      exact L48  _ _ _ hP hD hS (lv_sub hl [0, 1, 2, 3, 4, 5, 6] rfl)
    · skip
      refine lv_iload hx hb dL_areIfsSo_42 (lv_at hl 2 rfl) ?_
      refine lv_iload_n hx hb dL_areIfsSo_44 rfl (lv_at hl 5 rfl) ?_
      refine lv_icmp_lt (tgt := 63) hx hb dL_areIfsSo_45 (by decide) (fun c_45 => ?_) (fun c_45 => ?_)
      · exact absurd c_45 (mw_ge hw0 c_39)
      · skip
        exact L48  _ _ _ hP hD hS (lv_sub hl [0, 1, 2, 3, 4, 5, 6] rfl)
