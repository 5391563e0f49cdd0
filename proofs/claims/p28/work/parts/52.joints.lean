set_option maxHeartbeats 4000000 in
set_option maxRecDepth 100000 in
theorem c_L_areJointsSo (l : Launch) (G : kG) (a : Nat → Nat) (sa : Nat → Nat → Nat) (C0 : CV) (P0 : PS) (y0 : YS) (sz : Nat) (hc : okC C0) (hp : okQ P0) : kMet l yL_areJointsSo wsL_areJointsSo ({ frames := 4, cells := 0, slots := 0, locals := 102 } : Room) G [.ref (a 0)] (pW G a sa C0 P0 y0) sz (kQi G (fun (r : Int32) (u : YS) => r = 1) (fun (u : YS) => pW G a sa C0 P0 u)) 0 0 := by
  refine k_entry (cc := cL_areJointsSo) (maxL := 10) (ret := (some .boolean)) (by decide) rfl (Nat.le_of_ble_eq_true rfl) ?_
  intro p e s m args below meth c A ls H locs Q hQ hx hb hml hr hts hown hlocks hin hA hP hK hD hS hl
  have hown : s.vm.findClass RL = some m.cls := hown
  have hn1 := hc.1
  have hn := hc.2.1
  have hl : lv_has ls 10 [(0, .ref (a 0))] := hl
  refine lv_aload_n hx hb dL_areJointsSo_0 rfl (lv_at hl 0 rfl) ?_
  refine lv_iconst (v := 0) hx hb dL_areJointsSo_1 (by decide) ?_
  refine e_ci (w2 := fun (z : YS) => pW G a sa C0 P0 z) hD hS hA (e_V (n := 1) (ci := 5) (q0 := 0) (As := [.int 0]) (rest := []) hx hb hml hown hts hK hP hD hl (p_count l G a sa C0 P0 y0 0 H.size hc hp (by first | assumption | omega | decide)) gL_areJointsSo_X5_count rfl rfl rfl (by decide +kernel) rfl ⟨Nat.le_of_ble_eq_true rfl, Nat.le_of_ble_eq_true rfl⟩ rfl rfl rfl (Nat.le_of_ble_eq_true rfl) dL_areJointsSo_2 ⟨Nat.le_of_ble_eq_true rfl, Nat.le_of_ble_eq_true rfl⟩) (fun r_2 y_2 H locs hw hP hD hS => ?_)
  have hP : va_P G.1 vwCl (pW G a sa C0 P0 y_2) H := hP
  have hD : va_D A (pW G a sa C0 P0 y_2) := hD
  have hw_2 : r_2 = CT C0 P0.2.2 0 := hw
  subst hw_2
  refine g_ti (y := nI C0.1) (rfl) ?_
  refine lv_istore_n (lv' := [(1, .int (nI C0.1)), (0, .ref (a 0))]) hx hb dL_areJointsSo_5 rfl hl (by decide) rfl (fun ls hl => ?_)
  refine lv_iconst (v := 0) hx hb dL_areJointsSo_6 (by decide) ?_
  refine lv_istore_n (lv' := [(2, .int 0), (1, .int (nI C0.1)), (0, .ref (a 0))]) hx hb dL_areJointsSo_7 rfl hl (by decide) rfl (fun ls hl => ?_)
  refine lv_iconst (v := 0) hx hb dL_areJointsSo_8 (by decide) ?_
  refine lv_istore_n (lv' := [(3, .int 0), (2, .int 0), (1, .int (nI C0.1)), (0, .ref (a 0))]) hx hb dL_areJointsSo_9 rfl hl (by decide) rfl (fun ls hl => ?_)
  refine lv_iconst (v := 0) hx hb dL_areJointsSo_10 (by decide) ?_
  refine lv_istore (lv' := [(4, .int 0), (3, .int 0), (2, .int 0), (1, .int (nI C0.1)), (0, .ref (a 0))]) hx hb dL_areJointsSo_11 hl (by decide) rfl (fun ls hl => ?_)
  refine lv_iconst (v := 0) hx hb dL_areJointsSo_13 (by decide) ?_
  refine lv_istore (lv' := [(5, .int 0), (4, .int 0), (3, .int 0), (2, .int 0), (1, .int (nI C0.1)), (0, .ref (a 0))]) hx hb dL_areJointsSo_14 hl (by decide) rfl (fun ls hl => ?_)
  refine lv_aload_n hx hb dL_areJointsSo_16 rfl (lv_at hl 5 rfl) ?_
  refine lv_iconst (v := 0) hx hb dL_areJointsSo_17 (by decide) ?_
  refine lv_iconst (v := 0) hx hb dL_areJointsSo_18 (by decide) ?_
  refine e_ci (w2 := fun (z : YS) => pW G a sa C0 P0 z) hD hS hA (e_V (n := 2) (ci := 5) (q0 := 0) (As := [.int 0, .int 0]) (rest := []) hx hb hml hown hts hK hP hD hl (p_joint l G a sa C0 P0 y_2 0 0 H.size hc hp (by first | assumption | omega | decide) (by first | assumption | omega | decide)) gL_areJointsSo_X5_joint rfl rfl rfl (by decide +kernel) rfl ⟨Nat.le_of_ble_eq_true rfl, Nat.le_of_ble_eq_true rfl⟩ rfl rfl rfl (Nat.le_of_ble_eq_true rfl) dL_areJointsSo_19 ⟨Nat.le_of_ble_eq_true rfl, Nat.le_of_ble_eq_true rfl⟩) (fun r_19 y_19 H locs hw hP hD hS => ?_)
  have hP : va_P G.1 vwCl (pW G a sa C0 P0 y_19) H := hP
  have hD : va_D A (pW G a sa C0 P0 y_19) := hD
  have hw_19 : r_19 = JT C0 0 0 := hw
  subst hw_19
  refine lv_bipush (v := 100) hx hb dL_areJointsSo_22 (by decide) ?_
  refine lv_icmp_ne (tgt := 31) hx hb dL_areJointsSo_24 (by decide) (fun c_24 => ?_) (fun c_24 => ?_)
  · exact absurd jt_00 c_24
  · skip
    refine lv_iconst (v := 1) hx hb dL_areJointsSo_27 (by decide) ?_
    refine lv_goto (tgt := 32) hx hb dL_areJointsSo_28 (by decide) ?_
    refine lv_istore (lv' := [(6, .int 1), (5, .int 0), (4, .int 0), (3, .int 0), (2, .int 0), (1, .int (nI C0.1)), (0, .ref (a 0))]) hx hb dL_areJointsSo_32 hl (by decide) rfl (fun ls hl => ?_)
    refine lv_iconst (v := 0) hx hb dL_areJointsSo_34 (by decide) ?_
    refine lv_istore (lv' := [(7, .int 0), (6, .int 1), (5, .int 0), (4, .int 0), (3, .int 0), (2, .int 0), (1, .int (nI C0.1)), (0, .ref (a 0))]) hx hb dL_areJointsSo_35 hl (by decide) rfl (fun ls hl => ?_)
    have L37 : ∀ (n9 : Nat) (k : Nat) (y3 : YS), (k ≤ C0.1 + 1) → (C0.1 + 1 - k < n9) → ∀ (H : Heap) (locs : List Loc) (ls : Array Slot), va_P G.1 vwCl (pW G a sa C0 P0 y3) H → va_D A (pW G a sa C0 P0 y3) → va_S A s.heap H locs → lv_has ls 10 [(7, .int (nI k)), (6, .int 1), (5, .int (nI (lwN C0 k))), (4, .int (faN C0 k)), (3, .int (sumN (LD C0) k)), (2, .int (sumN C0.2.2.1 k)), (1, .int (nI C0.1)), (0, .ref (a 0))] → W p l e ({ frames := 4, cells := 0, slots := 0, locals := 102 } : Room) s m args below meth c H locs 0 0 Q (F0 m 37 ls []) := by
      intro n9
      induction n9 with
      | zero =>
        intro k y3 hk hm9 H locs ls hP hD hS hl
        exact absurd hm9 (Nat.not_lt_zero _)
      | succ n9 ih37 =>
        intro k y3 hk hm9 H locs ls hP hD hS hl
        refine lv_iload hx hb dL_areJointsSo_37 (lv_at hl 0 rfl) ?_
        refine lv_iload_n hx hb dL_areJointsSo_39 rfl (lv_at hl 6 rfl) ?_
        refine g_icmp_gt (a := k) (b := C0.1) (tgt := 383) hx hb (by omega) (by omega) dL_areJointsSo_40 (by decide) (fun c_40 => ?_) (fun c_40 => ?_)
        · skip
          have e9 : C0.1 + 1 = k := by omega
          subst e9
          refine lv_iload hx hb dL_areJointsSo_383 (lv_at hl 1 rfl) ?_
          refine g_if_eq (a := 1) (tgt := 459) hx hb (by omega) dL_areJointsSo_385 (by decide) (fun c_385 => ?_) (fun c_385 => ?_)
          · exact absurd c_385 (by decide)
          · skip
            refine lv_iload_n hx hb dL_areJointsSo_388 rfl (lv_at hl 5 rfl) ?_
            refine lv_aload_n hx hb dL_areJointsSo_389 rfl (lv_at hl 7 rfl) ?_
            refine lv_iconst (v := 1) hx hb dL_areJointsSo_390 (by decide) ?_
            refine e_ci (w2 := fun (z : YS) => pW G a sa C0 P0 z) hD hS hA (e_V (n := 1) (ci := 5) (q0 := 0) (As := [.int 1]) (rest := [.int (sumN C0.2.2.1 (C0.1 + 1))]) hx hb hml hown hts hK hP hD hl (p_count l G a sa C0 P0 y3 1 H.size hc hp (by first | assumption | omega | decide)) gL_areJointsSo_X5_count rfl rfl rfl (by decide +kernel) rfl ⟨Nat.le_of_ble_eq_true rfl, Nat.le_of_ble_eq_true rfl⟩ rfl rfl rfl (Nat.le_of_ble_eq_true rfl) dL_areJointsSo_391 ⟨Nat.le_of_ble_eq_true rfl, Nat.le_of_ble_eq_true rfl⟩) (fun r_391 y_391 H locs hw hP hD hS => ?_)
            have hP : va_P G.1 vwCl (pW G a sa C0 P0 y_391) H := hP
            have hD : va_D A (pW G a sa C0 P0 y_391) := hD
            have hw_391 : r_391 = CT C0 P0.2.2 1 := hw
            subst hw_391
            refine lv_icmp_ne (tgt := 459) hx hb dL_areJointsSo_394 (by decide) (fun c_394 => ?_) (fun c_394 => ?_)
            · exact absurd rfl c_394
            · skip
              refine lv_iload_n hx hb dL_areJointsSo_397 rfl (lv_at hl 4 rfl) ?_
              refine lv_aload_n hx hb dL_areJointsSo_398 rfl (lv_at hl 7 rfl) ?_
              refine lv_iconst (v := 2) hx hb dL_areJointsSo_399 (by decide) ?_
              refine e_ci (w2 := fun (z : YS) => pW G a sa C0 P0 z) hD hS hA (e_V (n := 1) (ci := 5) (q0 := 0) (As := [.int 2]) (rest := [.int (sumN (LD C0) (C0.1 + 1))]) hx hb hml hown hts hK hP hD hl (p_count l G a sa C0 P0 y_391 2 H.size hc hp (by first | assumption | omega | decide)) gL_areJointsSo_X5_count rfl rfl rfl (by decide +kernel) rfl ⟨Nat.le_of_ble_eq_true rfl, Nat.le_of_ble_eq_true rfl⟩ rfl rfl rfl (Nat.le_of_ble_eq_true rfl) dL_areJointsSo_400 ⟨Nat.le_of_ble_eq_true rfl, Nat.le_of_ble_eq_true rfl⟩) (fun r_400 y_400 H locs hw hP hD hS => ?_)
              have hP : va_P G.1 vwCl (pW G a sa C0 P0 y_400) H := hP
              have hD : va_D A (pW G a sa C0 P0 y_400) := hD
              have hw_400 : r_400 = CT C0 P0.2.2 2 := hw
              subst hw_400
              refine lv_icmp_ne (tgt := 459) hx hb dL_areJointsSo_403 (by decide) (fun c_403 => ?_) (fun c_403 => ?_)
              · exact absurd rfl c_403
              · skip
                refine lv_iload hx hb dL_areJointsSo_406 (lv_at hl 3 rfl) ?_
                refine lv_aload_n hx hb dL_areJointsSo_408 rfl (lv_at hl 7 rfl) ?_
                refine lv_iconst (v := 4) hx hb dL_areJointsSo_409 (by decide) ?_
                refine e_ci (w2 := fun (z : YS) => pW G a sa C0 P0 z) hD hS hA (e_V (n := 1) (ci := 5) (q0 := 0) (As := [.int 4]) (rest := [.int (faN C0 (C0.1 + 1))]) hx hb hml hown hts hK hP hD hl (p_count l G a sa C0 P0 y_400 4 H.size hc hp (by first | assumption | omega | decide)) gL_areJointsSo_X5_count rfl rfl rfl (by decide +kernel) rfl ⟨Nat.le_of_ble_eq_true rfl, Nat.le_of_ble_eq_true rfl⟩ rfl rfl rfl (Nat.le_of_ble_eq_true rfl) dL_areJointsSo_410 ⟨Nat.le_of_ble_eq_true rfl, Nat.le_of_ble_eq_true rfl⟩) (fun r_410 y_410 H locs hw hP hD hS => ?_)
                have hP : va_P G.1 vwCl (pW G a sa C0 P0 y_410) H := hP
                have hD : va_D A (pW G a sa C0 P0 y_410) := hD
                have hw_410 : r_410 = CT C0 P0.2.2 4 := hw
                subst hw_410
                refine lv_icmp_ne (tgt := 459) hx hb dL_areJointsSo_413 (by decide) (fun c_413 => ?_) (fun c_413 => ?_)
                · exact absurd (fa_be hc P0.2.2) c_413
                · skip
                  refine lv_iload_n hx hb dL_areJointsSo_416 rfl (lv_at hl 4 rfl) ?_
                  refine lv_iload hx hb dL_areJointsSo_417 (lv_at hl 3 rfl) ?_
                  refine lv_isub hx hb dL_areJointsSo_419 ?_
                  refine lv_aload_n hx hb dL_areJointsSo_420 rfl (lv_at hl 7 rfl) ?_
                  refine lv_iconst (v := 3) hx hb dL_areJointsSo_421 (by decide) ?_
                  refine e_ci (w2 := fun (z : YS) => pW G a sa C0 P0 z) hD hS hA (e_V (n := 1) (ci := 5) (q0 := 0) (As := [.int 3]) (rest := [.int ((sumN (LD C0) (C0.1 + 1)) - (faN C0 (C0.1 + 1)))]) hx hb hml hown hts hK hP hD hl (p_count l G a sa C0 P0 y_410 3 H.size hc hp (by first | assumption | omega | decide)) gL_areJointsSo_X5_count rfl rfl rfl (by decide +kernel) rfl ⟨Nat.le_of_ble_eq_true rfl, Nat.le_of_ble_eq_true rfl⟩ rfl rfl rfl (Nat.le_of_ble_eq_true rfl) dL_areJointsSo_422 ⟨Nat.le_of_ble_eq_true rfl, Nat.le_of_ble_eq_true rfl⟩) (fun r_422 y_422 H locs hw hP hD hS => ?_)
                  have hP : va_P G.1 vwCl (pW G a sa C0 P0 y_422) H := hP
                  have hD : va_D A (pW G a sa C0 P0 y_422) := hD
                  have hw_422 : r_422 = CT C0 P0.2.2 3 := hw
                  subst hw_422
                  refine lv_icmp_ne (tgt := 459) hx hb dL_areJointsSo_425 (by decide) (fun c_425 => ?_) (fun c_425 => ?_)
                  · exact absurd (fa_ah hc P0.2.2) c_425
                  · skip
                    refine lv_iload hx hb dL_areJointsSo_428 (lv_at hl 2 rfl) ?_
                    refine lv_aload_n hx hb dL_areJointsSo_430 rfl (lv_at hl 7 rfl) ?_
                    refine lv_bipush (v := 8) hx hb dL_areJointsSo_431 (by decide) ?_
                    refine e_ci (w2 := fun (z : YS) => pW G a sa C0 P0 z) hD hS hA (e_V (n := 1) (ci := 5) (q0 := 0) (As := [.int 8]) (rest := [.int (nI (lwN C0 (C0.1 + 1)))]) hx hb hml hown hts hK hP hD hl (p_count l G a sa C0 P0 y_422 8 H.size hc hp (by first | assumption | omega | decide)) gL_areJointsSo_X5_count rfl rfl rfl (by decide +kernel) rfl ⟨Nat.le_of_ble_eq_true rfl, Nat.le_of_ble_eq_true rfl⟩ rfl rfl rfl (Nat.le_of_ble_eq_true rfl) dL_areJointsSo_433 ⟨Nat.le_of_ble_eq_true rfl, Nat.le_of_ble_eq_true rfl⟩) (fun r_433 y_433 H locs hw hP hD hS => ?_)
                    have hP : va_P G.1 vwCl (pW G a sa C0 P0 y_433) H := hP
                    have hD : va_D A (pW G a sa C0 P0 y_433) := hD
                    have hw_433 : r_433 = CT C0 P0.2.2 8 := hw
                    subst hw_433
                    refine lv_icmp_ne (tgt := 459) hx hb dL_areJointsSo_436 (by decide) (fun c_436 => ?_) (fun c_436 => ?_)
                    · exact absurd rfl c_436
                    · skip
                      refine lv_aload_n hx hb dL_areJointsSo_439 rfl (lv_at hl 7 rfl) ?_
                      refine lv_iload hx hb dL_areJointsSo_440 (lv_at hl 2 rfl) ?_
                      refine lv_iconst (v := 0) hx hb dL_areJointsSo_442 (by decide) ?_
                      refine e_ci (w2 := fun (z : YS) => pW G a sa C0 P0 z) hD hS hA (e_V (n := 2) (ci := 5) (q0 := 0) (As := [.int (nI (lwN C0 (C0.1 + 1))), .int 0]) (rest := []) hx hb hml hown hts hK hP hD hl (p_joint l G a sa C0 P0 y_433 (lwN C0 (C0.1 + 1)) 0 H.size hc hp (lwN_le _ (Nat.le_refl _)) (by first | assumption | omega | decide)) gL_areJointsSo_X5_joint rfl rfl rfl (by decide +kernel) rfl ⟨Nat.le_of_ble_eq_true rfl, Nat.le_of_ble_eq_true rfl⟩ rfl rfl rfl (Nat.le_of_ble_eq_true rfl) dL_areJointsSo_443 ⟨Nat.le_of_ble_eq_true rfl, Nat.le_of_ble_eq_true rfl⟩) (fun r_443 y_443 H locs hw hP hD hS => ?_)
                      have hP : va_P G.1 vwCl (pW G a sa C0 P0 y_443) H := hP
                      have hD : va_D A (pW G a sa C0 P0 y_443) := hD
                      have hw_443 : r_443 = JT C0 (lwN C0 (C0.1 + 1)) 0 := hw
                      subst hw_443
                      refine lv_aload_n hx hb dL_areJointsSo_446 rfl (lv_at hl 7 rfl) ?_
                      refine lv_bipush (v := 9) hx hb dL_areJointsSo_447 (by decide) ?_
                      refine e_ci (w2 := fun (z : YS) => pW G a sa C0 P0 z) hD hS hA (e_V (n := 1) (ci := 5) (q0 := 0) (As := [.int 9]) (rest := [.int (JT C0 (lwN C0 (C0.1 + 1)) 0)]) hx hb hml hown hts hK hP hD hl (p_count l G a sa C0 P0 y_443 9 H.size hc hp (by first | assumption | omega | decide)) gL_areJointsSo_X5_count rfl rfl rfl (by decide +kernel) rfl ⟨Nat.le_of_ble_eq_true rfl, Nat.le_of_ble_eq_true rfl⟩ rfl rfl rfl (Nat.le_of_ble_eq_true rfl) dL_areJointsSo_449 ⟨Nat.le_of_ble_eq_true rfl, Nat.le_of_ble_eq_true rfl⟩) (fun r_449 y_449 H locs hw hP hD hS => ?_)
                      have hP : va_P G.1 vwCl (pW G a sa C0 P0 y_449) H := hP
                      have hD : va_D A (pW G a sa C0 P0 y_449) := hD
                      have hw_449 : r_449 = CT C0 P0.2.2 9 := hw
                      subst hw_449
                      refine lv_icmp_ne (tgt := 459) hx hb dL_areJointsSo_452 (by decide) (fun c_452 => ?_) (fun c_452 => ?_)
                      · exact absurd rfl c_452
                      · skip
                        refine lv_iconst (v := 1) hx hb dL_areJointsSo_455 (by decide) ?_
                        refine lv_goto (tgt := 460) hx hb dL_areJointsSo_456 (by decide) ?_
                        rw [hQ]
                        exact e_zret (v := 1) y_449 hx hb hr hlocks (by first | exact Or.inl rfl | exact Or.inr rfl) (rfl) hK hP hD hS dL_areJointsSo_460
        · skip
          have hkn : k ≤ C0.1 := c_40
          refine lv_aload_n hx hb dL_areJointsSo_43 rfl (lv_at hl 7 rfl) ?_
          refine lv_iload hx hb dL_areJointsSo_44 (lv_at hl 0 rfl) ?_
          refine lv_iconst (v := 4) hx hb dL_areJointsSo_46 (by decide) ?_
          refine e_ci (w2 := fun (z : YS) => pW G a sa C0 P0 z) hD hS hA (e_V (n := 2) (ci := 5) (q0 := 0) (As := [.int (nI k), .int 4]) (rest := []) hx hb hml hown hts hK hP hD hl (p_joint l G a sa C0 P0 y3 k 4 H.size hc hp (by first | assumption | omega | decide) (by first | assumption | omega | decide)) gL_areJointsSo_X5_joint rfl rfl rfl (by decide +kernel) rfl ⟨Nat.le_of_ble_eq_true rfl, Nat.le_of_ble_eq_true rfl⟩ rfl rfl rfl (Nat.le_of_ble_eq_true rfl) dL_areJointsSo_47 ⟨Nat.le_of_ble_eq_true rfl, Nat.le_of_ble_eq_true rfl⟩) (fun r_47 y_47 H locs hw hP hD hS => ?_)
          have hP : va_P G.1 vwCl (pW G a sa C0 P0 y_47) H := hP
          have hD : va_D A (pW G a sa C0 P0 y_47) := hD
          have hw_47 : r_47 = JT C0 k 4 := hw
          subst hw_47
          refine lv_istore (lv' := [(8, .int (JT C0 k 4)), (7, .int (nI k)), (6, .int 1), (5, .int (nI (lwN C0 k))), (4, .int (faN C0 k)), (3, .int (sumN (LD C0) k)), (2, .int (sumN C0.2.2.1 k)), (1, .int (nI C0.1)), (0, .ref (a 0))]) hx hb dL_areJointsSo_50 hl (by decide) rfl (fun ls hl => ?_)
          have J52 : ∀ x_1 : Int32, x_1 = isF C0 k → W p l e ({ frames := 4, cells := 0, slots := 0, locals := 102 } : Room) s m args below meth c H locs 0 0 Q (F0 m 68 ls [.int x_1]) := by
            intro x_1 ex_1
            subst ex_1
            refine lv_istore (lv' := [(9, .int (isF C0 k)), (8, .int (JT C0 k 4)), (7, .int (nI k)), (6, .int 1), (5, .int (nI (lwN C0 k))), (4, .int (faN C0 k)), (3, .int (sumN (LD C0) k)), (2, .int (sumN C0.2.2.1 k)), (1, .int (nI C0.1)), (0, .ref (a 0))]) hx hb dL_areJointsSo_68 hl (by decide) rfl (fun ls hl => ?_)
            refine lv_iload_n hx hb dL_areJointsSo_70 rfl (lv_at hl 7 rfl) ?_
            refine lv_aload_n hx hb dL_areJointsSo_71 rfl (lv_at hl 9 rfl) ?_
            refine lv_iload hx hb dL_areJointsSo_72 (lv_at hl 2 rfl) ?_
            refine lv_iconst (v := 1) hx hb dL_areJointsSo_74 (by decide) ?_
            refine e_ci (w2 := fun (z : YS) => pW G a sa C0 P0 z) hD hS hA (e_V (n := 2) (ci := 5) (q0 := 0) (As := [.int (nI k), .int 1]) (rest := [.int (sumN C0.2.2.1 k)]) hx hb hml hown hts hK hP hD hl (p_joint l G a sa C0 P0 y_47 k 1 H.size hc hp (by first | assumption | omega | decide) (by first | assumption | omega | decide)) gL_areJointsSo_X5_joint rfl rfl rfl (by decide +kernel) rfl ⟨Nat.le_of_ble_eq_true rfl, Nat.le_of_ble_eq_true rfl⟩ rfl rfl rfl (Nat.le_of_ble_eq_true rfl) dL_areJointsSo_75 ⟨Nat.le_of_ble_eq_true rfl, Nat.le_of_ble_eq_true rfl⟩) (fun r_75 y_75 H locs hw hP hD hS => ?_)
            have hP : va_P G.1 vwCl (pW G a sa C0 P0 y_75) H := hP
            have hD : va_D A (pW G a sa C0 P0 y_75) := hD
            have hw_75 : r_75 = JT C0 k 1 := hw
            subst hw_75
            refine lv_iadd hx hb dL_areJointsSo_78 ?_
            refine lv_istore_n (lv' := [(2, .int ((sumN C0.2.2.1 k) + (JT C0 k 1))), (9, .int (isF C0 k)), (8, .int (JT C0 k 4)), (7, .int (nI k)), (6, .int 1), (5, .int (nI (lwN C0 k))), (4, .int (faN C0 k)), (3, .int (sumN (LD C0) k)), (1, .int (nI C0.1)), (0, .ref (a 0))]) hx hb dL_areJointsSo_79 rfl hl (by decide) rfl (fun ls hl => ?_)
            refine lv_iload_n hx hb dL_areJointsSo_80 rfl (lv_at hl 7 rfl) ?_
            refine lv_aload_n hx hb dL_areJointsSo_81 rfl (lv_at hl 9 rfl) ?_
            refine lv_iload hx hb dL_areJointsSo_82 (lv_at hl 3 rfl) ?_
            refine lv_bipush (v := 7) hx hb dL_areJointsSo_84 (by decide) ?_
            refine e_ci (w2 := fun (z : YS) => pW G a sa C0 P0 z) hD hS hA (e_V (n := 2) (ci := 5) (q0 := 0) (As := [.int (nI k), .int 7]) (rest := [.int (sumN (LD C0) k)]) hx hb hml hown hts hK hP hD hl (p_joint l G a sa C0 P0 y_75 k 7 H.size hc hp (by first | assumption | omega | decide) (by first | assumption | omega | decide)) gL_areJointsSo_X5_joint rfl rfl rfl (by decide +kernel) rfl ⟨Nat.le_of_ble_eq_true rfl, Nat.le_of_ble_eq_true rfl⟩ rfl rfl rfl (Nat.le_of_ble_eq_true rfl) dL_areJointsSo_86 ⟨Nat.le_of_ble_eq_true rfl, Nat.le_of_ble_eq_true rfl⟩) (fun r_86 y_86 H locs hw hP hD hS => ?_)
            have hP : va_P G.1 vwCl (pW G a sa C0 P0 y_86) H := hP
            have hD : va_D A (pW G a sa C0 P0 y_86) := hD
            have hw_86 : r_86 = JT C0 k 7 := hw
            subst hw_86
            refine lv_iadd hx hb dL_areJointsSo_89 ?_
            refine lv_istore_n (lv' := [(3, .int ((sumN (LD C0) k) + (JT C0 k 7))), (2, .int ((sumN C0.2.2.1 k) + (JT C0 k 1))), (9, .int (isF C0 k)), (8, .int (JT C0 k 4)), (7, .int (nI k)), (6, .int 1), (5, .int (nI (lwN C0 k))), (4, .int (faN C0 k)), (1, .int (nI C0.1)), (0, .ref (a 0))]) hx hb dL_areJointsSo_90 rfl hl (by decide) rfl (fun ls hl => ?_)
            refine lv_iload hx hb dL_areJointsSo_91 (lv_at hl 7 rfl) ?_
            refine lv_aload_n hx hb dL_areJointsSo_93 rfl (lv_at hl 9 rfl) ?_
            refine lv_iload hx hb dL_areJointsSo_94 (lv_at hl 4 rfl) ?_
            refine lv_bipush (v := 7) hx hb dL_areJointsSo_96 (by decide) ?_
            refine e_ci (w2 := fun (z : YS) => pW G a sa C0 P0 z) hD hS hA (e_V (n := 2) (ci := 5) (q0 := 0) (As := [.int (nI k), .int 7]) (rest := [.int (faN C0 k)]) hx hb hml hown hts hK hP hD hl (p_joint l G a sa C0 P0 y_86 k 7 H.size hc hp (by first | assumption | omega | decide) (by first | assumption | omega | decide)) gL_areJointsSo_X5_joint rfl rfl rfl (by decide +kernel) rfl ⟨Nat.le_of_ble_eq_true rfl, Nat.le_of_ble_eq_true rfl⟩ rfl rfl rfl (Nat.le_of_ble_eq_true rfl) dL_areJointsSo_98 ⟨Nat.le_of_ble_eq_true rfl, Nat.le_of_ble_eq_true rfl⟩) (fun r_98 y_98 H locs hw hP hD hS => ?_)
            have hP : va_P G.1 vwCl (pW G a sa C0 P0 y_98) H := hP
            have hD : va_D A (pW G a sa C0 P0 y_98) := hD
            have hw_98 : r_98 = JT C0 k 7 := hw
            subst hw_98
            refine lv_iload hx hb dL_areJointsSo_101 (lv_at hl 4 rfl) ?_
            refine lv_imul hx hb dL_areJointsSo_103 ?_
            refine lv_iload_n hx hb dL_areJointsSo_104 rfl (lv_at hl 8 rfl) ?_
            refine lv_idiv hx hb dL_areJointsSo_105 (nI_ne0 (by omega) (by omega)) ?_
            refine lv_iadd hx hb dL_areJointsSo_106 ?_
            refine lv_istore (lv' := [(4, .int ((faN C0 k) + (((JT C0 k 7) * (nI k)) / (nI C0.1)))), (3, .int ((sumN (LD C0) k) + (JT C0 k 7))), (2, .int ((sumN C0.2.2.1 k) + (JT C0 k 1))), (9, .int (isF C0 k)), (8, .int (JT C0 k 4)), (7, .int (nI k)), (6, .int 1), (5, .int (nI (lwN C0 k))), (1, .int (nI C0.1)), (0, .ref (a 0))]) hx hb dL_areJointsSo_107 hl (by decide) rfl (fun ls hl => ?_)
            refine lv_aload_n hx hb dL_areJointsSo_109 rfl (lv_at hl 9 rfl) ?_
            refine lv_iload hx hb dL_areJointsSo_110 (lv_at hl 5 rfl) ?_
            refine lv_iconst (v := 0) hx hb dL_areJointsSo_112 (by decide) ?_
            refine e_ci (w2 := fun (z : YS) => pW G a sa C0 P0 z) hD hS hA (e_V (n := 2) (ci := 5) (q0 := 0) (As := [.int (nI k), .int 0]) (rest := []) hx hb hml hown hts hK hP hD hl (p_joint l G a sa C0 P0 y_98 k 0 H.size hc hp (by first | assumption | omega | decide) (by first | assumption | omega | decide)) gL_areJointsSo_X5_joint rfl rfl rfl (by decide +kernel) rfl ⟨Nat.le_of_ble_eq_true rfl, Nat.le_of_ble_eq_true rfl⟩ rfl rfl rfl (Nat.le_of_ble_eq_true rfl) dL_areJointsSo_113 ⟨Nat.le_of_ble_eq_true rfl, Nat.le_of_ble_eq_true rfl⟩) (fun r_113 y_113 H locs hw hP hD hS => ?_)
            have hP : va_P G.1 vwCl (pW G a sa C0 P0 y_113) H := hP
            have hD : va_D A (pW G a sa C0 P0 y_113) := hD
            have hw_113 : r_113 = JT C0 k 0 := hw
            subst hw_113
            refine lv_aload_n hx hb dL_areJointsSo_116 rfl (lv_at hl 9 rfl) ?_
            refine lv_iload hx hb dL_areJointsSo_117 (lv_at hl 7 rfl) ?_
            refine lv_iconst (v := 0) hx hb dL_areJointsSo_119 (by decide) ?_
            refine e_ci (w2 := fun (z : YS) => pW G a sa C0 P0 z) hD hS hA (e_V (n := 2) (ci := 5) (q0 := 0) (As := [.int (nI (lwN C0 k)), .int 0]) (rest := [.int (JT C0 k 0)]) hx hb hml hown hts hK hP hD hl (p_joint l G a sa C0 P0 y_113 (lwN C0 k) 0 H.size hc hp (lwN_le k hk) (by first | assumption | omega | decide)) gL_areJointsSo_X5_joint rfl rfl rfl (by decide +kernel) rfl ⟨Nat.le_of_ble_eq_true rfl, Nat.le_of_ble_eq_true rfl⟩ rfl rfl rfl (Nat.le_of_ble_eq_true rfl) dL_areJointsSo_120 ⟨Nat.le_of_ble_eq_true rfl, Nat.le_of_ble_eq_true rfl⟩) (fun r_120 y_120 H locs hw hP hD hS => ?_)
            have hP : va_P G.1 vwCl (pW G a sa C0 P0 y_120) H := hP
            have hD : va_D A (pW G a sa C0 P0 y_120) := hD
            have hw_120 : r_120 = JT C0 (lwN C0 k) 0 := hw
            subst hw_120
            have J123 : ∀ x_2 : Int32, x_2 = nI (lwN C0 (k + 1)) → W p l e ({ frames := 4, cells := 0, slots := 0, locals := 102 } : Room) s m args below meth c H locs 0 0 Q (F0 m 133 ls [.int x_2]) := by
              intro x_2 ex_2
              subst ex_2
              refine lv_istore (lv' := [(5, .int (nI (lwN C0 (k + 1)))), (4, .int ((faN C0 k) + (((JT C0 k 7) * (nI k)) / (nI C0.1)))), (3, .int ((sumN (LD C0) k) + (JT C0 k 7))), (2, .int ((sumN C0.2.2.1 k) + (JT C0 k 1))), (9, .int (isF C0 k)), (8, .int (JT C0 k 4)), (7, .int (nI k)), (6, .int 1), (1, .int (nI C0.1)), (0, .ref (a 0))]) hx hb dL_areJointsSo_133 hl (by decide) rfl (fun ls hl => ?_)
              refine lv_iload hx hb dL_areJointsSo_135 (lv_at hl 7 rfl) ?_
              refine g_if_eq (a := 1) (tgt := 374) hx hb (by omega) dL_areJointsSo_137 (by decide) (fun c_137 => ?_) (fun c_137 => ?_)
              · exact absurd c_137 (by decide)
              · skip
                have L169 : ∀ (x9 : Int32) (y4 : YS), (x9 = JT C0 k 4) → ∀ (H : Heap) (locs : List Loc) (ls : Array Slot), va_P G.1 vwCl (pW G a sa C0 P0 y4) H → va_D A (pW G a sa C0 P0 y4) → va_S A s.heap H locs → lv_has ls 10 [(5, .int (nI (lwN C0 (k + 1)))), (4, .int ((faN C0 k) + (((JT C0 k 7) * (nI k)) / (nI C0.1)))), (3, .int ((sumN (LD C0) k) + (JT C0 k 7))), (2, .int ((sumN C0.2.2.1 k) + (JT C0 k 1))), (9, .int (isF C0 k)), (8, .int (JT C0 k 4)), (7, .int (nI k)), (6, .int 1), (1, .int (nI C0.1)), (0, .ref (a 0))] → W p l e ({ frames := 4, cells := 0, slots := 0, locals := 102 } : Room) s m args below meth c H locs 0 0 Q (F0 m 169 ls [.int x9, .int (JT C0 k 4)]) := by
                  intro x9 y4 hx9 H locs ls hP hD hS hl
                  refine lv_icmp_ne (tgt := 374) hx hb dL_areJointsSo_169 (by decide) (fun c_169 => ?_) (fun c_169 => ?_)
                  · exact absurd hx9.symm c_169
                  · skip
                    refine lv_iload hx hb dL_areJointsSo_172 (lv_at hl 5 rfl) ?_
                    refine lv_aload_n hx hb dL_areJointsSo_174 rfl (lv_at hl 9 rfl) ?_
                    refine lv_iload hx hb dL_areJointsSo_175 (lv_at hl 6 rfl) ?_
                    refine lv_iconst (v := 5) hx hb dL_areJointsSo_177 (by decide) ?_
                    refine e_ci (w2 := fun (z : YS) => pW G a sa C0 P0 z) hD hS hA (e_V (n := 2) (ci := 5) (q0 := 0) (As := [.int (nI k), .int 5]) (rest := [.int (JT C0 k 4)]) hx hb hml hown hts hK hP hD hl (p_joint l G a sa C0 P0 y4 k 5 H.size hc hp (by first | assumption | omega | decide) (by first | assumption | omega | decide)) gL_areJointsSo_X5_joint rfl rfl rfl (by decide +kernel) rfl ⟨Nat.le_of_ble_eq_true rfl, Nat.le_of_ble_eq_true rfl⟩ rfl rfl rfl (Nat.le_of_ble_eq_true rfl) dL_areJointsSo_178 ⟨Nat.le_of_ble_eq_true rfl, Nat.le_of_ble_eq_true rfl⟩) (fun r_178 y_178 H locs hw hP hD hS => ?_)
                    have hP : va_P G.1 vwCl (pW G a sa C0 P0 y_178) H := hP
                    have hD : va_D A (pW G a sa C0 P0 y_178) := hD
                    have hw_178 : r_178 = JT C0 k 5 := hw
                    subst hw_178
                    refine lv_aload_n hx hb dL_areJointsSo_181 rfl (lv_at hl 9 rfl) ?_
                    refine lv_iload hx hb dL_areJointsSo_182 (lv_at hl 6 rfl) ?_
                    refine lv_bipush (v := 6) hx hb dL_areJointsSo_184 (by decide) ?_
                    refine e_ci (w2 := fun (z : YS) => pW G a sa C0 P0 z) hD hS hA (e_V (n := 2) (ci := 5) (q0 := 0) (As := [.int (nI k), .int 6]) (rest := [.int (JT C0 k 5), .int (JT C0 k 4)]) hx hb hml hown hts hK hP hD hl (p_joint l G a sa C0 P0 y_178 k 6 H.size hc hp (by first | assumption | omega | decide) (by first | assumption | omega | decide)) gL_areJointsSo_X5_joint rfl rfl rfl (by decide +kernel) rfl ⟨Nat.le_of_ble_eq_true rfl, Nat.le_of_ble_eq_true rfl⟩ rfl rfl rfl (Nat.le_of_ble_eq_true rfl) dL_areJointsSo_186 ⟨Nat.le_of_ble_eq_true rfl, Nat.le_of_ble_eq_true rfl⟩) (fun r_186 y_186 H locs hw hP hD hS => ?_)
                    have hP : va_P G.1 vwCl (pW G a sa C0 P0 y_186) H := hP
                    have hD : va_D A (pW G a sa C0 P0 y_186) := hD
                    have hw_186 : r_186 = JT C0 k 6 := hw
                    subst hw_186
                    refine lv_iadd hx hb dL_areJointsSo_189 ?_
                    refine lv_aload_n hx hb dL_areJointsSo_190 rfl (lv_at hl 9 rfl) ?_
                    refine lv_iload hx hb dL_areJointsSo_191 (lv_at hl 6 rfl) ?_
                    refine lv_bipush (v := 7) hx hb dL_areJointsSo_193 (by decide) ?_
                    refine e_ci (w2 := fun (z : YS) => pW G a sa C0 P0 z) hD hS hA (e_V (n := 2) (ci := 5) (q0 := 0) (As := [.int (nI k), .int 7]) (rest := [.int ((JT C0 k 5) + (JT C0 k 6)), .int (JT C0 k 4)]) hx hb hml hown hts hK hP hD hl (p_joint l G a sa C0 P0 y_186 k 7 H.size hc hp (by first | assumption | omega | decide) (by first | assumption | omega | decide)) gL_areJointsSo_X5_joint rfl rfl rfl (by decide +kernel) rfl ⟨Nat.le_of_ble_eq_true rfl, Nat.le_of_ble_eq_true rfl⟩ rfl rfl rfl (Nat.le_of_ble_eq_true rfl) dL_areJointsSo_195 ⟨Nat.le_of_ble_eq_true rfl, Nat.le_of_ble_eq_true rfl⟩) (fun r_195 y_195 H locs hw hP hD hS => ?_)
                    have hP : va_P G.1 vwCl (pW G a sa C0 P0 y_195) H := hP
                    have hD : va_D A (pW G a sa C0 P0 y_195) := hD
                    have hw_195 : r_195 = JT C0 k 7 := hw
                    subst hw_195
                    refine lv_iadd hx hb dL_areJointsSo_198 ?_
                    refine lv_icmp_ne (tgt := 374) hx hb dL_areJointsSo_199 (by decide) (fun c_199 => ?_) (fun c_199 => ?_)
                    · exact absurd (jt_sum hc hkn) c_199
                    · skip
                      refine lv_aload_n hx hb dL_areJointsSo_202 rfl (lv_at hl 9 rfl) ?_
                      refine lv_iload hx hb dL_areJointsSo_203 (lv_at hl 6 rfl) ?_
                      refine lv_iconst (v := 5) hx hb dL_areJointsSo_205 (by decide) ?_
                      refine e_ci (w2 := fun (z : YS) => pW G a sa C0 P0 z) hD hS hA (e_V (n := 2) (ci := 5) (q0 := 0) (As := [.int (nI k), .int 5]) (rest := []) hx hb hml hown hts hK hP hD hl (p_joint l G a sa C0 P0 y_195 k 5 H.size hc hp (by first | assumption | omega | decide) (by first | assumption | omega | decide)) gL_areJointsSo_X5_joint rfl rfl rfl (by decide +kernel) rfl ⟨Nat.le_of_ble_eq_true rfl, Nat.le_of_ble_eq_true rfl⟩ rfl rfl rfl (Nat.le_of_ble_eq_true rfl) dL_areJointsSo_206 ⟨Nat.le_of_ble_eq_true rfl, Nat.le_of_ble_eq_true rfl⟩) (fun r_206 y_206 H locs hw hP hD hS => ?_)
                      have hP : va_P G.1 vwCl (pW G a sa C0 P0 y_206) H := hP
                      have hD : va_D A (pW G a sa C0 P0 y_206) := hD
                      have hw_206 : r_206 = JT C0 k 5 := hw
                      subst hw_206
                      refine lv_aload_n hx hb dL_areJointsSo_209 rfl (lv_at hl 9 rfl) ?_
                      refine lv_iload hx hb dL_areJointsSo_210 (lv_at hl 6 rfl) ?_
                      refine lv_iconst (v := 2) hx hb dL_areJointsSo_212 (by decide) ?_
                      refine e_ci (w2 := fun (z : YS) => pW G a sa C0 P0 z) hD hS hA (e_V (n := 2) (ci := 5) (q0 := 0) (As := [.int (nI k), .int 2]) (rest := [.int (JT C0 k 5)]) hx hb hml hown hts hK hP hD hl (p_joint l G a sa C0 P0 y_206 k 2 H.size hc hp (by first | assumption | omega | decide) (by first | assumption | omega | decide)) gL_areJointsSo_X5_joint rfl rfl rfl (by decide +kernel) rfl ⟨Nat.le_of_ble_eq_true rfl, Nat.le_of_ble_eq_true rfl⟩ rfl rfl rfl (Nat.le_of_ble_eq_true rfl) dL_areJointsSo_213 ⟨Nat.le_of_ble_eq_true rfl, Nat.le_of_ble_eq_true rfl⟩) (fun r_213 y_213 H locs hw hP hD hS => ?_)
                      have hP : va_P G.1 vwCl (pW G a sa C0 P0 y_213) H := hP
                      have hD : va_D A (pW G a sa C0 P0 y_213) := hD
                      have hw_213 : r_213 = JT C0 k 2 := hw
                      subst hw_213
                      refine lv_icmp_gt (tgt := 374) hx hb dL_areJointsSo_216 (by decide) (fun c_216 => ?_) (fun c_216 => ?_)
                      · exact absurd c_216 (i32_nlt (jt_52 hc hkn))
                      · skip
                        refine lv_aload_n hx hb dL_areJointsSo_219 rfl (lv_at hl 9 rfl) ?_
                        refine lv_iload hx hb dL_areJointsSo_220 (lv_at hl 6 rfl) ?_
                        refine lv_bipush (v := 6) hx hb dL_areJointsSo_222 (by decide) ?_
                        refine e_ci (w2 := fun (z : YS) => pW G a sa C0 P0 z) hD hS hA (e_V (n := 2) (ci := 5) (q0 := 0) (As := [.int (nI k), .int 6]) (rest := []) hx hb hml hown hts hK hP hD hl (p_joint l G a sa C0 P0 y_213 k 6 H.size hc hp (by first | assumption | omega | decide) (by first | assumption | omega | decide)) gL_areJointsSo_X5_joint rfl rfl rfl (by decide +kernel) rfl ⟨Nat.le_of_ble_eq_true rfl, Nat.le_of_ble_eq_true rfl⟩ rfl rfl rfl (Nat.le_of_ble_eq_true rfl) dL_areJointsSo_224 ⟨Nat.le_of_ble_eq_true rfl, Nat.le_of_ble_eq_true rfl⟩) (fun r_224 y_224 H locs hw hP hD hS => ?_)
                        have hP : va_P G.1 vwCl (pW G a sa C0 P0 y_224) H := hP
                        have hD : va_D A (pW G a sa C0 P0 y_224) := hD
                        have hw_224 : r_224 = JT C0 k 6 := hw
                        subst hw_224
                        refine lv_aload_n hx hb dL_areJointsSo_227 rfl (lv_at hl 9 rfl) ?_
                        refine lv_iload hx hb dL_areJointsSo_228 (lv_at hl 6 rfl) ?_
                        refine lv_iconst (v := 3) hx hb dL_areJointsSo_230 (by decide) ?_
                        refine e_ci (w2 := fun (z : YS) => pW G a sa C0 P0 z) hD hS hA (e_V (n := 2) (ci := 5) (q0 := 0) (As := [.int (nI k), .int 3]) (rest := [.int (JT C0 k 6)]) hx hb hml hown hts hK hP hD hl (p_joint l G a sa C0 P0 y_224 k 3 H.size hc hp (by first | assumption | omega | decide) (by first | assumption | omega | decide)) gL_areJointsSo_X5_joint rfl rfl rfl (by decide +kernel) rfl ⟨Nat.le_of_ble_eq_true rfl, Nat.le_of_ble_eq_true rfl⟩ rfl rfl rfl (Nat.le_of_ble_eq_true rfl) dL_areJointsSo_231 ⟨Nat.le_of_ble_eq_true rfl, Nat.le_of_ble_eq_true rfl⟩) (fun r_231 y_231 H locs hw hP hD hS => ?_)
                        have hP : va_P G.1 vwCl (pW G a sa C0 P0 y_231) H := hP
                        have hD : va_D A (pW G a sa C0 P0 y_231) := hD
                        have hw_231 : r_231 = JT C0 k 3 := hw
                        subst hw_231
                        refine lv_icmp_gt (tgt := 374) hx hb dL_areJointsSo_234 (by decide) (fun c_234 => ?_) (fun c_234 => ?_)
                        · exact absurd c_234 (i32_nlt (jt_63 hc hkn))
                        · skip
                          have L263 : ∀ (y5 : YS), ∀ (H : Heap) (locs : List Loc) (ls : Array Slot), va_P G.1 vwCl (pW G a sa C0 P0 y5) H → va_D A (pW G a sa C0 P0 y5) → va_S A s.heap H locs → lv_has ls 10 [(5, .int (nI (lwN C0 (k + 1)))), (4, .int ((faN C0 k) + (((JT C0 k 7) * (nI k)) / (nI C0.1)))), (3, .int ((sumN (LD C0) k) + (JT C0 k 7))), (2, .int ((sumN C0.2.2.1 k) + (JT C0 k 1))), (9, .int (isF C0 k)), (8, .int (JT C0 k 4)), (7, .int (nI k)), (6, .int 1), (1, .int (nI C0.1)), (0, .ref (a 0))] → W p l e ({ frames := 4, cells := 0, slots := 0, locals := 102 } : Room) s m args below meth c H locs 0 0 Q (F0 m 263 ls []) := by
                            intro y5 H locs ls hP hD hS hl
                            have L291 : ∀ (y6 : YS), ∀ (H : Heap) (locs : List Loc) (ls : Array Slot), va_P G.1 vwCl (pW G a sa C0 P0 y6) H → va_D A (pW G a sa C0 P0 y6) → va_S A s.heap H locs → lv_has ls 10 [(5, .int (nI (lwN C0 (k + 1)))), (4, .int ((faN C0 k) + (((JT C0 k 7) * (nI k)) / (nI C0.1)))), (3, .int ((sumN (LD C0) k) + (JT C0 k 7))), (2, .int ((sumN C0.2.2.1 k) + (JT C0 k 1))), (9, .int (isF C0 k)), (8, .int (JT C0 k 4)), (7, .int (nI k)), (6, .int 1), (1, .int (nI C0.1)), (0, .ref (a 0))] → W p l e ({ frames := 4, cells := 0, slots := 0, locals := 102 } : Room) s m args below meth c H locs 0 0 Q (F0 m 291 ls []) := by
                              intro y6 H locs ls hP hD hS hl
                              have L335 : ∀ (y7 : YS), ∀ (H : Heap) (locs : List Loc) (ls : Array Slot), va_P G.1 vwCl (pW G a sa C0 P0 y7) H → va_D A (pW G a sa C0 P0 y7) → va_S A s.heap H locs → lv_has ls 10 [(5, .int (nI (lwN C0 (k + 1)))), (4, .int ((faN C0 k) + (((JT C0 k 7) * (nI k)) / (nI C0.1)))), (3, .int ((sumN (LD C0) k) + (JT C0 k 7))), (2, .int ((sumN C0.2.2.1 k) + (JT C0 k 1))), (9, .int (isF C0 k)), (8, .int (JT C0 k 4)), (7, .int (nI k)), (6, .int 1), (1, .int (nI C0.1)), (0, .ref (a 0))] → W p l e ({ frames := 4, cells := 0, slots := 0, locals := 102 } : Room) s m args below meth c H locs 0 0 Q (F0 m 335 ls []) := by
                                intro y7 H locs ls hP hD hS hl
                                have L370 : ∀ (y8 : YS), ∀ (H : Heap) (locs : List Loc) (ls : Array Slot), va_P G.1 vwCl (pW G a sa C0 P0 y8) H → va_D A (pW G a sa C0 P0 y8) → va_S A s.heap H locs → lv_has ls 10 [(5, .int (nI (lwN C0 (k + 1)))), (4, .int ((faN C0 k) + (((JT C0 k 7) * (nI k)) / (nI C0.1)))), (3, .int ((sumN (LD C0) k) + (JT C0 k 7))), (2, .int ((sumN C0.2.2.1 k) + (JT C0 k 1))), (9, .int (isF C0 k)), (8, .int (JT C0 k 4)), (7, .int (nI k)), (6, .int 1), (1, .int (nI C0.1)), (0, .ref (a 0))] → W p l e ({ frames := 4, cells := 0, slots := 0, locals := 102 } : Room) s m args below meth c H locs 0 0 Q (F0 m 370 ls []) := by
                                  intro y8 H locs ls hP hD hS hl
                                  refine lv_iconst (v := 1) hx hb dL_areJointsSo_370 (by decide) ?_
                                  refine lv_goto (tgt := 375) hx hb dL_areJointsSo_371 (by decide) ?_
                                  refine lv_istore (lv' := [(6, .int 1), (5, .int (nI (lwN C0 (k + 1)))), (4, .int ((faN C0 k) + (((JT C0 k 7) * (nI k)) / (nI C0.1)))), (3, .int ((sumN (LD C0) k) + (JT C0 k 7))), (2, .int ((sumN C0.2.2.1 k) + (JT C0 k 1))), (9, .int (isF C0 k)), (8, .int (JT C0 k 4)), (7, .int (nI k)), (1, .int (nI C0.1)), (0, .ref (a 0))]) hx hb dL_areJointsSo_375 hl (by decide) rfl (fun ls hl => ?_)
                                  refine lv_iinc (v := nI (k + 1)) (lv' := [(7, .int (nI (k + 1))), (6, .int 1), (5, .int (nI (lwN C0 (k + 1)))), (4, .int ((faN C0 k) + (((JT C0 k 7) * (nI k)) / (nI C0.1)))), (3, .int ((sumN (LD C0) k) + (JT C0 k 7))), (2, .int ((sumN C0.2.2.1 k) + (JT C0 k 1))), (9, .int (isF C0 k)), (8, .int (JT C0 k 4)), (1, .int (nI C0.1)), (0, .ref (a 0))]) hx hb dL_areJointsSo_377 hl (k := 7) rfl (nI_add (k) 1) (by decide) rfl (fun ls hl => ?_)
                                  refine lv_goto (tgt := 37) hx hb dL_areJointsSo_380 (by decide) ?_
                                  exact ih37 (k + 1) y8 (by first | assumption | omega) (by omega) _ _ _ hP hD hS (lv_sub hl [0, 1, 2, 3, 4, 5, 8, 9] rfl)
                                refine lv_iload hx hb dL_areJointsSo_335 (lv_at hl 6 rfl) ?_
                                refine lv_iload_n hx hb dL_areJointsSo_337 rfl (lv_at hl 8 rfl) ?_
                                refine g_icmp_eq (a := k) (b := C0.1) (tgt := 370) hx hb (by omega) (by omega) dL_areJointsSo_338 (by decide) (fun c_338 => ?_) (fun c_338 => ?_)
                                · skip
                                  exact L370 y7 _ _ _ hP hD hS (lv_sub hl [0, 1, 2, 3, 4, 5, 6, 7, 8, 9] rfl)
                                · skip
                                  refine lv_aload_n hx hb dL_areJointsSo_341 rfl (lv_at hl 9 rfl) ?_
                                  refine lv_iload hx hb dL_areJointsSo_342 (lv_at hl 6 rfl) ?_
                                  refine lv_iconst (v := 1) hx hb dL_areJointsSo_344 (by decide) ?_
                                  refine lv_iadd hx hb dL_areJointsSo_345 ?_
                                  refine g_ti (y := nI (k + 1)) (nI_add (k) (1)) ?_
                                  refine lv_iconst (v := 0) hx hb dL_areJointsSo_346 (by decide) ?_
                                  refine e_ci (w2 := fun (z : YS) => pW G a sa C0 P0 z) hD hS hA (e_V (n := 2) (ci := 5) (q0 := 0) (As := [.int (nI (k + 1)), .int 0]) (rest := []) hx hb hml hown hts hK hP hD hl (p_joint l G a sa C0 P0 y7 (k + 1) 0 H.size hc hp (by omega) (by first | assumption | omega | decide)) gL_areJointsSo_X5_joint rfl rfl rfl (by decide +kernel) rfl ⟨Nat.le_of_ble_eq_true rfl, Nat.le_of_ble_eq_true rfl⟩ rfl rfl rfl (Nat.le_of_ble_eq_true rfl) dL_areJointsSo_347 ⟨Nat.le_of_ble_eq_true rfl, Nat.le_of_ble_eq_true rfl⟩) (fun r_347 y_347 H locs hw hP hD hS => ?_)
                                  have hP : va_P G.1 vwCl (pW G a sa C0 P0 y_347) H := hP
                                  have hD : va_D A (pW G a sa C0 P0 y_347) := hD
                                  have hw_347 : r_347 = JT C0 (k + 1) 0 := hw
                                  subst hw_347
                                  refine lv_aload_n hx hb dL_areJointsSo_350 rfl (lv_at hl 9 rfl) ?_
                                  refine lv_iload hx hb dL_areJointsSo_351 (lv_at hl 6 rfl) ?_
                                  refine lv_iconst (v := 0) hx hb dL_areJointsSo_353 (by decide) ?_
                                  refine e_ci (w2 := fun (z : YS) => pW G a sa C0 P0 z) hD hS hA (e_V (n := 2) (ci := 5) (q0 := 0) (As := [.int (nI k), .int 0]) (rest := [.int (JT C0 (k + 1) 0)]) hx hb hml hown hts hK hP hD hl (p_joint l G a sa C0 P0 y_347 k 0 H.size hc hp (by first | assumption | omega | decide) (by first | assumption | omega | decide)) gL_areJointsSo_X5_joint rfl rfl rfl (by decide +kernel) rfl ⟨Nat.le_of_ble_eq_true rfl, Nat.le_of_ble_eq_true rfl⟩ rfl rfl rfl (Nat.le_of_ble_eq_true rfl) dL_areJointsSo_354 ⟨Nat.le_of_ble_eq_true rfl, Nat.le_of_ble_eq_true rfl⟩) (fun r_354 y_354 H locs hw hP hD hS => ?_)
                                  have hP : va_P G.1 vwCl (pW G a sa C0 P0 y_354) H := hP
                                  have hD : va_D A (pW G a sa C0 P0 y_354) := hD
                                  have hw_354 : r_354 = JT C0 k 0 := hw
                                  subst hw_354
                                  refine lv_aload_n hx hb dL_areJointsSo_357 rfl (lv_at hl 9 rfl) ?_
                                  refine lv_iload hx hb dL_areJointsSo_358 (lv_at hl 6 rfl) ?_
                                  refine lv_iconst (v := 0) hx hb dL_areJointsSo_360 (by decide) ?_
                                  refine e_ci (w2 := fun (z : YS) => pW G a sa C0 P0 z) hD hS hA (e_V (n := 2) (ci := 5) (q0 := 0) (As := [.int (nI k), .int 0]) (rest := [.int (JT C0 k 0), .int (JT C0 (k + 1) 0)]) hx hb hml hown hts hK hP hD hl (p_linkOf l G a sa C0 P0 y_354 k 0 H.size hc hp (by omega) (by first | assumption | omega | decide)) gL_areJointsSo_X5_linkOf rfl rfl rfl (by decide +kernel) rfl ⟨Nat.le_of_ble_eq_true rfl, Nat.le_of_ble_eq_true rfl⟩ rfl rfl rfl (Nat.le_of_ble_eq_true rfl) dL_areJointsSo_361 ⟨Nat.le_of_ble_eq_true rfl, Nat.le_of_ble_eq_true rfl⟩) (fun r_361 y_361 H locs hw hP hD hS => ?_)
                                  have hP : va_P G.1 vwCl (pW G a sa C0 P0 y_361) H := hP
                                  have hD : va_D A (pW G a sa C0 P0 y_361) := hD
                                  have hw_361 : r_361 = LK C0 k 0 := hw
                                  subst hw_361
                                  refine lv_iadd hx hb dL_areJointsSo_364 ?_
                                  refine lv_iconst (v := 2) hx hb dL_areJointsSo_365 (by decide) ?_
                                  refine lv_isub hx hb dL_areJointsSo_366 ?_
                                  refine lv_icmp_ne (tgt := 374) hx hb dL_areJointsSo_367 (by decide) (fun c_367 => ?_) (fun c_367 => ?_)
                                  · exact absurd jt_st c_367
                                  · skip
                                    exact L370 y_361 _ _ _ hP hD hS (lv_sub hl [0, 1, 2, 3, 4, 5, 6, 7, 8, 9] rfl)
                              refine lv_aload_n hx hb dL_areJointsSo_291 rfl (lv_at hl 9 rfl) ?_
                              refine lv_iload hx hb dL_areJointsSo_292 (lv_at hl 6 rfl) ?_
                              refine lv_bipush (v := 7) hx hb dL_areJointsSo_294 (by decide) ?_
                              refine e_ci (w2 := fun (z : YS) => pW G a sa C0 P0 z) hD hS hA (e_V (n := 2) (ci := 5) (q0 := 0) (As := [.int (nI k), .int 7]) (rest := []) hx hb hml hown hts hK hP hD hl (p_joint l G a sa C0 P0 y6 k 7 H.size hc hp (by first | assumption | omega | decide) (by first | assumption | omega | decide)) gL_areJointsSo_X5_joint rfl rfl rfl (by decide +kernel) rfl ⟨Nat.le_of_ble_eq_true rfl, Nat.le_of_ble_eq_true rfl⟩ rfl rfl rfl (Nat.le_of_ble_eq_true rfl) dL_areJointsSo_296 ⟨Nat.le_of_ble_eq_true rfl, Nat.le_of_ble_eq_true rfl⟩) (fun r_296 y_296 H locs hw hP hD hS => ?_)
                              have hP : va_P G.1 vwCl (pW G a sa C0 P0 y_296) H := hP
                              have hD : va_D A (pW G a sa C0 P0 y_296) := hD
                              have hw_296 : r_296 = JT C0 k 7 := hw
                              subst hw_296
                              refine lv_if_eq (tgt := 335) hx hb dL_areJointsSo_299 (by decide) (fun c_299 => ?_) (fun c_299 => ?_)
                              · skip
                                exact L335 y_296 _ _ _ hP hD hS (lv_sub hl [0, 1, 2, 3, 4, 5, 6, 7, 8, 9] rfl)
                              · skip
                                refine lv_aload_n hx hb dL_areJointsSo_302 rfl (lv_at hl 9 rfl) ?_
                                refine lv_iload hx hb dL_areJointsSo_303 (lv_at hl 6 rfl) ?_
                                refine lv_iconst (v := 0) hx hb dL_areJointsSo_305 (by decide) ?_
                                refine e_ci (w2 := fun (z : YS) => pW G a sa C0 P0 z) hD hS hA (e_V (n := 2) (ci := 5) (q0 := 0) (As := [.int (nI k), .int 0]) (rest := []) hx hb hml hown hts hK hP hD hl (p_joint l G a sa C0 P0 y_296 k 0 H.size hc hp (by first | assumption | omega | decide) (by first | assumption | omega | decide)) gL_areJointsSo_X5_joint rfl rfl rfl (by decide +kernel) rfl ⟨Nat.le_of_ble_eq_true rfl, Nat.le_of_ble_eq_true rfl⟩ rfl rfl rfl (Nat.le_of_ble_eq_true rfl) dL_areJointsSo_306 ⟨Nat.le_of_ble_eq_true rfl, Nat.le_of_ble_eq_true rfl⟩) (fun r_306 y_306 H locs hw hP hD hS => ?_)
                                have hP : va_P G.1 vwCl (pW G a sa C0 P0 y_306) H := hP
                                have hD : va_D A (pW G a sa C0 P0 y_306) := hD
                                have hw_306 : r_306 = JT C0 k 0 := hw
                                subst hw_306
                                refine lv_aload_n hx hb dL_areJointsSo_309 rfl (lv_at hl 9 rfl) ?_
                                refine lv_iconst (v := 1) hx hb dL_areJointsSo_310 (by decide) ?_
                                refine e_ci (w2 := fun (z : YS) => pW G a sa C0 P0 z) hD hS hA (e_V (n := 1) (ci := 5) (q0 := 0) (As := [.int 1]) (rest := [.int (JT C0 k 0)]) hx hb hml hown hts hK hP hD hl (p_setting l G a sa C0 P0 y_306 1 H.size hc hp (by first | assumption | omega | decide)) gL_areJointsSo_X5_setting rfl rfl rfl (by decide +kernel) rfl ⟨Nat.le_of_ble_eq_true rfl, Nat.le_of_ble_eq_true rfl⟩ rfl rfl rfl (Nat.le_of_ble_eq_true rfl) dL_areJointsSo_311 ⟨Nat.le_of_ble_eq_true rfl, Nat.le_of_ble_eq_true rfl⟩) (fun r_311 y_311 H locs hw hP hD hS => ?_)
                                have hP : va_P G.1 vwCl (pW G a sa C0 P0 y_311) H := hP
                                have hD : va_D A (pW G a sa C0 P0 y_311) := hD
                                have hw_311 : r_311 = C0.2.2.2.2.2 1 + 100 := hw
                                subst hw_311
                                refine lv_icmp_gt (tgt := 335) hx hb dL_areJointsSo_314 (by decide) (fun c_314 => ?_) (fun c_314 => ?_)
                                · skip
                                  exact L335 y_311 _ _ _ hP hD hS (lv_sub hl [0, 1, 2, 3, 4, 5, 6, 7, 8, 9] rfl)
                                · skip
                                  refine lv_aload_n hx hb dL_areJointsSo_317 rfl (lv_at hl 9 rfl) ?_
                                  refine lv_iload hx hb dL_areJointsSo_318 (lv_at hl 6 rfl) ?_
                                  refine lv_bipush (v := 6) hx hb dL_areJointsSo_320 (by decide) ?_
                                  refine e_ci (w2 := fun (z : YS) => pW G a sa C0 P0 z) hD hS hA (e_V (n := 2) (ci := 5) (q0 := 0) (As := [.int (nI k), .int 6]) (rest := []) hx hb hml hown hts hK hP hD hl (p_joint l G a sa C0 P0 y_311 k 6 H.size hc hp (by first | assumption | omega | decide) (by first | assumption | omega | decide)) gL_areJointsSo_X5_joint rfl rfl rfl (by decide +kernel) rfl ⟨Nat.le_of_ble_eq_true rfl, Nat.le_of_ble_eq_true rfl⟩ rfl rfl rfl (Nat.le_of_ble_eq_true rfl) dL_areJointsSo_322 ⟨Nat.le_of_ble_eq_true rfl, Nat.le_of_ble_eq_true rfl⟩) (fun r_322 y_322 H locs hw hP hD hS => ?_)
                                  have hP : va_P G.1 vwCl (pW G a sa C0 P0 y_322) H := hP
                                  have hD : va_D A (pW G a sa C0 P0 y_322) := hD
                                  have hw_322 : r_322 = JT C0 k 6 := hw
                                  subst hw_322
                                  refine lv_aload_n hx hb dL_areJointsSo_325 rfl (lv_at hl 9 rfl) ?_
                                  refine lv_iload hx hb dL_areJointsSo_326 (lv_at hl 6 rfl) ?_
                                  refine lv_iconst (v := 3) hx hb dL_areJointsSo_328 (by decide) ?_
                                  refine e_ci (w2 := fun (z : YS) => pW G a sa C0 P0 z) hD hS hA (e_V (n := 2) (ci := 5) (q0 := 0) (As := [.int (nI k), .int 3]) (rest := [.int (JT C0 k 6)]) hx hb hml hown hts hK hP hD hl (p_joint l G a sa C0 P0 y_322 k 3 H.size hc hp (by first | assumption | omega | decide) (by first | assumption | omega | decide)) gL_areJointsSo_X5_joint rfl rfl rfl (by decide +kernel) rfl ⟨Nat.le_of_ble_eq_true rfl, Nat.le_of_ble_eq_true rfl⟩ rfl rfl rfl (Nat.le_of_ble_eq_true rfl) dL_areJointsSo_329 ⟨Nat.le_of_ble_eq_true rfl, Nat.le_of_ble_eq_true rfl⟩) (fun r_329 y_329 H locs hw hP hD hS => ?_)
                                  have hP : va_P G.1 vwCl (pW G a sa C0 P0 y_329) H := hP
                                  have hD : va_D A (pW G a sa C0 P0 y_329) := hD
                                  have hw_329 : r_329 = JT C0 k 3 := hw
                                  subst hw_329
                                  refine lv_icmp_ne (tgt := 374) hx hb dL_areJointsSo_332 (by decide) (fun c_332 => ?_) (fun c_332 => ?_)
                                  · exact absurd (jt_76 hc hkn c_299 c_314) c_332
                                  · skip
                                    exact L335 y_329 _ _ _ hP hD hS (lv_sub hl [0, 1, 2, 3, 4, 5, 6, 7, 8, 9] rfl)
                            refine lv_aload_n hx hb dL_areJointsSo_263 rfl (lv_at hl 9 rfl) ?_
                            refine lv_iload hx hb dL_areJointsSo_264 (lv_at hl 6 rfl) ?_
                            refine lv_bipush (v := 7) hx hb dL_areJointsSo_266 (by decide) ?_
                            refine e_ci (w2 := fun (z : YS) => pW G a sa C0 P0 z) hD hS hA (e_V (n := 2) (ci := 5) (q0 := 0) (As := [.int (nI k), .int 7]) (rest := []) hx hb hml hown hts hK hP hD hl (p_joint l G a sa C0 P0 y5 k 7 H.size hc hp (by first | assumption | omega | decide) (by first | assumption | omega | decide)) gL_areJointsSo_X5_joint rfl rfl rfl (by decide +kernel) rfl ⟨Nat.le_of_ble_eq_true rfl, Nat.le_of_ble_eq_true rfl⟩ rfl rfl rfl (Nat.le_of_ble_eq_true rfl) dL_areJointsSo_268 ⟨Nat.le_of_ble_eq_true rfl, Nat.le_of_ble_eq_true rfl⟩) (fun r_268 y_268 H locs hw hP hD hS => ?_)
                            have hP : va_P G.1 vwCl (pW G a sa C0 P0 y_268) H := hP
                            have hD : va_D A (pW G a sa C0 P0 y_268) := hD
                            have hw_268 : r_268 = JT C0 k 7 := hw
                            subst hw_268
                            refine lv_if_eq (tgt := 291) hx hb dL_areJointsSo_271 (by decide) (fun c_271 => ?_) (fun c_271 => ?_)
                            · skip
                              exact L291 y_268 _ _ _ hP hD hS (lv_sub hl [0, 1, 2, 3, 4, 5, 6, 7, 8, 9] rfl)
                            · skip
                              refine lv_aload_n hx hb dL_areJointsSo_274 rfl (lv_at hl 9 rfl) ?_
                              refine lv_iload hx hb dL_areJointsSo_275 (lv_at hl 6 rfl) ?_
                              refine lv_iconst (v := 5) hx hb dL_areJointsSo_277 (by decide) ?_
                              refine e_ci (w2 := fun (z : YS) => pW G a sa C0 P0 z) hD hS hA (e_V (n := 2) (ci := 5) (q0 := 0) (As := [.int (nI k), .int 5]) (rest := []) hx hb hml hown hts hK hP hD hl (p_joint l G a sa C0 P0 y_268 k 5 H.size hc hp (by first | assumption | omega | decide) (by first | assumption | omega | decide)) gL_areJointsSo_X5_joint rfl rfl rfl (by decide +kernel) rfl ⟨Nat.le_of_ble_eq_true rfl, Nat.le_of_ble_eq_true rfl⟩ rfl rfl rfl (Nat.le_of_ble_eq_true rfl) dL_areJointsSo_278 ⟨Nat.le_of_ble_eq_true rfl, Nat.le_of_ble_eq_true rfl⟩) (fun r_278 y_278 H locs hw hP hD hS => ?_)
                              have hP : va_P G.1 vwCl (pW G a sa C0 P0 y_278) H := hP
                              have hD : va_D A (pW G a sa C0 P0 y_278) := hD
                              have hw_278 : r_278 = JT C0 k 5 := hw
                              subst hw_278
                              refine lv_aload_n hx hb dL_areJointsSo_281 rfl (lv_at hl 9 rfl) ?_
                              refine lv_iload hx hb dL_areJointsSo_282 (lv_at hl 6 rfl) ?_
                              refine lv_iconst (v := 2) hx hb dL_areJointsSo_284 (by decide) ?_
                              refine e_ci (w2 := fun (z : YS) => pW G a sa C0 P0 z) hD hS hA (e_V (n := 2) (ci := 5) (q0 := 0) (As := [.int (nI k), .int 2]) (rest := [.int (JT C0 k 5)]) hx hb hml hown hts hK hP hD hl (p_joint l G a sa C0 P0 y_278 k 2 H.size hc hp (by first | assumption | omega | decide) (by first | assumption | omega | decide)) gL_areJointsSo_X5_joint rfl rfl rfl (by decide +kernel) rfl ⟨Nat.le_of_ble_eq_true rfl, Nat.le_of_ble_eq_true rfl⟩ rfl rfl rfl (Nat.le_of_ble_eq_true rfl) dL_areJointsSo_285 ⟨Nat.le_of_ble_eq_true rfl, Nat.le_of_ble_eq_true rfl⟩) (fun r_285 y_285 H locs hw hP hD hS => ?_)
                              have hP : va_P G.1 vwCl (pW G a sa C0 P0 y_285) H := hP
                              have hD : va_D A (pW G a sa C0 P0 y_285) := hD
                              have hw_285 : r_285 = JT C0 k 2 := hw
                              subst hw_285
                              refine lv_icmp_ne (tgt := 374) hx hb dL_areJointsSo_288 (by decide) (fun c_288 => ?_) (fun c_288 => ?_)
                              · exact absurd (jt_75 hc hkn c_271) c_288
                              · skip
                                exact L291 y_285 _ _ _ hP hD hS (lv_sub hl [0, 1, 2, 3, 4, 5, 6, 7, 8, 9] rfl)
                          refine lv_aload_n hx hb dL_areJointsSo_237 rfl (lv_at hl 9 rfl) ?_
                          refine lv_iload hx hb dL_areJointsSo_238 (lv_at hl 6 rfl) ?_
                          refine lv_iconst (v := 0) hx hb dL_areJointsSo_240 (by decide) ?_
                          refine e_ci (w2 := fun (z : YS) => pW G a sa C0 P0 z) hD hS hA (e_V (n := 2) (ci := 5) (q0 := 0) (As := [.int (nI k), .int 0]) (rest := []) hx hb hml hown hts hK hP hD hl (p_joint l G a sa C0 P0 y_231 k 0 H.size hc hp (by first | assumption | omega | decide) (by first | assumption | omega | decide)) gL_areJointsSo_X5_joint rfl rfl rfl (by decide +kernel) rfl ⟨Nat.le_of_ble_eq_true rfl, Nat.le_of_ble_eq_true rfl⟩ rfl rfl rfl (Nat.le_of_ble_eq_true rfl) dL_areJointsSo_241 ⟨Nat.le_of_ble_eq_true rfl, Nat.le_of_ble_eq_true rfl⟩) (fun r_241 y_241 H locs hw hP hD hS => ?_)
                          have hP : va_P G.1 vwCl (pW G a sa C0 P0 y_241) H := hP
                          have hD : va_D A (pW G a sa C0 P0 y_241) := hD
                          have hw_241 : r_241 = JT C0 k 0 := hw
                          subst hw_241
                          refine lv_aload_n hx hb dL_areJointsSo_244 rfl (lv_at hl 9 rfl) ?_
                          refine lv_iconst (v := 1) hx hb dL_areJointsSo_245 (by decide) ?_
                          refine e_ci (w2 := fun (z : YS) => pW G a sa C0 P0 z) hD hS hA (e_V (n := 1) (ci := 5) (q0 := 0) (As := [.int 1]) (rest := [.int (JT C0 k 0)]) hx hb hml hown hts hK hP hD hl (p_setting l G a sa C0 P0 y_241 1 H.size hc hp (by first | assumption | omega | decide)) gL_areJointsSo_X5_setting rfl rfl rfl (by decide +kernel) rfl ⟨Nat.le_of_ble_eq_true rfl, Nat.le_of_ble_eq_true rfl⟩ rfl rfl rfl (Nat.le_of_ble_eq_true rfl) dL_areJointsSo_246 ⟨Nat.le_of_ble_eq_true rfl, Nat.le_of_ble_eq_true rfl⟩) (fun r_246 y_246 H locs hw hP hD hS => ?_)
                          have hP : va_P G.1 vwCl (pW G a sa C0 P0 y_246) H := hP
                          have hD : va_D A (pW G a sa C0 P0 y_246) := hD
                          have hw_246 : r_246 = C0.2.2.2.2.2 1 + 100 := hw
                          subst hw_246
                          refine lv_icmp_le (tgt := 263) hx hb dL_areJointsSo_249 (by decide) (fun c_249 => ?_) (fun c_249 => ?_)
                          · skip
                            exact L263 y_246 _ _ _ hP hD hS (lv_sub hl [0, 1, 2, 3, 4, 5, 6, 7, 8, 9] rfl)
                          · skip
                            refine lv_aload_n hx hb dL_areJointsSo_252 rfl (lv_at hl 9 rfl) ?_
                            refine lv_iload hx hb dL_areJointsSo_253 (lv_at hl 6 rfl) ?_
                            refine lv_bipush (v := 6) hx hb dL_areJointsSo_255 (by decide) ?_
                            refine e_ci (w2 := fun (z : YS) => pW G a sa C0 P0 z) hD hS hA (e_V (n := 2) (ci := 5) (q0 := 0) (As := [.int (nI k), .int 6]) (rest := []) hx hb hml hown hts hK hP hD hl (p_joint l G a sa C0 P0 y_246 k 6 H.size hc hp (by first | assumption | omega | decide) (by first | assumption | omega | decide)) gL_areJointsSo_X5_joint rfl rfl rfl (by decide +kernel) rfl ⟨Nat.le_of_ble_eq_true rfl, Nat.le_of_ble_eq_true rfl⟩ rfl rfl rfl (Nat.le_of_ble_eq_true rfl) dL_areJointsSo_257 ⟨Nat.le_of_ble_eq_true rfl, Nat.le_of_ble_eq_true rfl⟩) (fun r_257 y_257 H locs hw hP hD hS => ?_)
                            have hP : va_P G.1 vwCl (pW G a sa C0 P0 y_257) H := hP
                            have hD : va_D A (pW G a sa C0 P0 y_257) := hD
                            have hw_257 : r_257 = JT C0 k 6 := hw
                            subst hw_257
                            refine lv_if_ne (tgt := 374) hx hb dL_areJointsSo_260 (by decide) (fun c_260 => ?_) (fun c_260 => ?_)
                            · exact absurd (jt_6 hc hkn c_249) c_260
                            · skip
                              exact L263 y_257 _ _ _ hP hD hS (lv_sub hl [0, 1, 2, 3, 4, 5, 6, 7, 8, 9] rfl)
                refine lv_iload hx hb dL_areJointsSo_140 (lv_at hl 5 rfl) ?_
                refine lv_iload hx hb dL_areJointsSo_142 (lv_at hl 4 rfl) ?_
                refine lv_if_eq (tgt := 168) hx hb dL_areJointsSo_144 (by decide) (fun c_144 => ?_) (fun c_144 => ?_)
                · skip
                  refine lv_iconst (v := 0) hx hb dL_areJointsSo_168 (by decide) ?_
                  exact L169 0 y_120 (bu_f hkn c_144) _ _ _ hP hD hS (lv_sub hl [0, 1, 2, 3, 4, 5, 6, 7, 8, 9] rfl)
                · skip
                  refine lv_aload_n hx hb dL_areJointsSo_147 rfl (lv_at hl 9 rfl) ?_
                  refine lv_iload hx hb dL_areJointsSo_148 (lv_at hl 6 rfl) ?_
                  refine lv_iconst (v := 1) hx hb dL_areJointsSo_150 (by decide) ?_
                  refine e_ci (w2 := fun (z : YS) => pW G a sa C0 P0 z) hD hS hA (e_V (n := 2) (ci := 5) (q0 := 0) (As := [.int (nI k), .int 1]) (rest := [.int (JT C0 k 4)]) hx hb hml hown hts hK hP hD hl (p_joint l G a sa C0 P0 y_120 k 1 H.size hc hp (by first | assumption | omega | decide) (by first | assumption | omega | decide)) gL_areJointsSo_X5_joint rfl rfl rfl (by decide +kernel) rfl ⟨Nat.le_of_ble_eq_true rfl, Nat.le_of_ble_eq_true rfl⟩ rfl rfl rfl (Nat.le_of_ble_eq_true rfl) dL_areJointsSo_151 ⟨Nat.le_of_ble_eq_true rfl, Nat.le_of_ble_eq_true rfl⟩) (fun r_151 y_151 H locs hw hP hD hS => ?_)
                  have hP : va_P G.1 vwCl (pW G a sa C0 P0 y_151) H := hP
                  have hD : va_D A (pW G a sa C0 P0 y_151) := hD
                  have hw_151 : r_151 = JT C0 k 1 := hw
                  subst hw_151
                  refine lv_iconst (v := 2) hx hb dL_areJointsSo_154 (by decide) ?_
                  refine lv_aload_n hx hb dL_areJointsSo_155 rfl (lv_at hl 9 rfl) ?_
                  refine lv_iconst (v := 0) hx hb dL_areJointsSo_156 (by decide) ?_
                  refine e_ci (w2 := fun (z : YS) => pW G a sa C0 P0 z) hD hS hA (e_V (n := 1) (ci := 5) (q0 := 0) (As := [.int 0]) (rest := [.int 2, .int (JT C0 k 1), .int (JT C0 k 4)]) hx hb hml hown hts hK hP hD hl (p_setting l G a sa C0 P0 y_151 0 H.size hc hp (by first | assumption | omega | decide)) gL_areJointsSo_X5_setting rfl rfl rfl (by decide +kernel) rfl ⟨Nat.le_of_ble_eq_true rfl, Nat.le_of_ble_eq_true rfl⟩ rfl rfl rfl (Nat.le_of_ble_eq_true rfl) dL_areJointsSo_157 ⟨Nat.le_of_ble_eq_true rfl, Nat.le_of_ble_eq_true rfl⟩) (fun r_157 y_157 H locs hw hP hD hS => ?_)
                  have hP : va_P G.1 vwCl (pW G a sa C0 P0 y_157) H := hP
                  have hD : va_D A (pW G a sa C0 P0 y_157) := hD
                  have hw_157 : r_157 = C0.2.2.2.2.2 0 + 100 := hw
                  subst hw_157
                  refine lv_bipush (v := 100) hx hb dL_areJointsSo_160 (by decide) ?_
                  refine lv_isub hx hb dL_areJointsSo_162 ?_
                  refine lv_imul hx hb dL_areJointsSo_163 ?_
                  refine lv_iadd hx hb dL_areJointsSo_164 ?_
                  refine lv_goto (tgt := 169) hx hb dL_areJointsSo_165 (by decide) ?_
                  exact L169 ((JT C0 k 1) + (2 * ((C0.2.2.2.2.2 0 + 100) - 100))) y_157 (bu_t c_144) _ _ _ hP hD hS (lv_sub hl [0, 1, 2, 3, 4, 5, 6, 7, 8, 9] rfl)
            refine lv_icmp_ge (tgt := 131) hx hb dL_areJointsSo_123 (by decide) (fun c_123 => ?_) (fun c_123 => ?_)
            · skip
              refine lv_iload hx hb dL_areJointsSo_131 (lv_at hl 7 rfl) ?_
              exact J123 (nI (lwN C0 k)) (lwN_f hc hkn c_123)
            · skip
              refine lv_iload hx hb dL_areJointsSo_126 (lv_at hl 5 rfl) ?_
              refine lv_goto (tgt := 133) hx hb dL_areJointsSo_128 (by decide) ?_
              exact J123 (nI k) (lwN_t hc hkn c_123)
          refine lv_iload hx hb dL_areJointsSo_52 (lv_at hl 1 rfl) ?_
          refine g_if_le (a := k) (tgt := 67) hx hb (by omega) dL_areJointsSo_54 (by decide) (fun c_54 => ?_) (fun c_54 => ?_)
          · skip
            refine lv_iconst (v := 0) hx hb dL_areJointsSo_67 (by decide) ?_
            exact J52 0 (by first | exact isF_0 c_54 | exact isF_n c_60)
          · skip
            refine lv_iload hx hb dL_areJointsSo_57 (lv_at hl 1 rfl) ?_
            refine lv_iload_n hx hb dL_areJointsSo_59 rfl (lv_at hl 7 rfl) ?_
            refine g_icmp_ge (a := k) (b := C0.1) (tgt := 67) hx hb (by omega) (by omega) dL_areJointsSo_60 (by decide) (fun c_60 => ?_) (fun c_60 => ?_)
            · skip
              refine lv_iconst (v := 0) hx hb dL_areJointsSo_67 (by decide) ?_
              exact J52 0 (by first | exact isF_0 c_54 | exact isF_n c_60)
            · skip
              refine lv_iconst (v := 1) hx hb dL_areJointsSo_63 (by decide) ?_
              refine lv_goto (tgt := 68) hx hb dL_areJointsSo_64 (by decide) ?_
              exact J52 1 (isF_t c_54 c_60)
    exact L37 (C0.1 + 1 - 0 + 1) 0 y_19 (by first | assumption | omega) (Nat.lt_succ_self _) _ _ _ hP hD hS (lv_sub hl [0, 1, 2, 3, 4, 5, 6, 7] rfl)
