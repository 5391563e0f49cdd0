set_option maxHeartbeats 4000000 in
set_option maxRecDepth 100000 in
theorem c_L_areLinksSo (l : Launch) (G : kG) (a : Nat → Nat) (sa : Nat → Nat → Nat) (C0 : CV) (P0 : PS) (y0 : YS) (sz : Nat) (hc : okC C0) (hp : okQ P0) : kMet l yL_areLinksSo wsL_areLinksSo ({ frames := 4, cells := 0, slots := 0, locals := 102 } : Room) G [.ref (a 0)] (pW G a sa C0 P0 y0) sz (kQi G (fun (r : Int32) (u : YS) => r = 1) (fun (u : YS) => pW G a sa C0 P0 u)) 0 0 := by
  refine k_entry (cc := cL_areLinksSo) (maxL := 9) (ret := (some .boolean)) (by decide) rfl (Nat.le_of_ble_eq_true rfl) ?_
  intro p e s m args below meth c A ls H locs Q hQ hx hb hml hr hts hown hlocks hin hA hP hK hD hS hl
  have hown : s.vm.findClass RL = some m.cls := hown
  have hn1 := hc.1
  have hn := hc.2.1
  have hl : lv_has ls 9 [(0, .ref (a 0))] := hl
  refine lv_aload_n hx hb dL_areLinksSo_0 rfl (lv_at hl 0 rfl) ?_
  refine lv_iconst (v := 0) hx hb dL_areLinksSo_1 (by decide) ?_
  refine e_ci (w2 := fun (z : YS) => pW G a sa C0 P0 z) hD hS hA (e_V (n := 1) (ci := 5) (q0 := 0) (As := [.int 0]) (rest := []) hx hb hml hown hts hK hP hD hl (p_count l G a sa C0 P0 y0 0 H.size hc hp (by first | assumption | omega | decide)) gL_areLinksSo_X5_count rfl rfl rfl (by decide +kernel) rfl ⟨Nat.le_of_ble_eq_true rfl, Nat.le_of_ble_eq_true rfl⟩ rfl rfl rfl (Nat.le_of_ble_eq_true rfl) dL_areLinksSo_2 ⟨Nat.le_of_ble_eq_true rfl, Nat.le_of_ble_eq_true rfl⟩) (fun r_2 y_2 H locs hw hP hD hS => ?_)
  have hP : va_P G.1 vwCl (pW G a sa C0 P0 y_2) H := hP
  have hD : va_D A (pW G a sa C0 P0 y_2) := hD
  have hw_2 : r_2 = CT C0 P0.2.2 0 := hw
  subst hw_2
  refine g_ti (y := nI C0.1) (rfl) ?_
  refine lv_istore_n (lv' := [(1, .int (nI C0.1)), (0, .ref (a 0))]) hx hb dL_areLinksSo_5 rfl hl (by decide) rfl (fun ls hl => ?_)
  refine lv_aload_n hx hb dL_areLinksSo_6 rfl (lv_at hl 1 rfl) ?_
  refine lv_iconst (v := 3) hx hb dL_areLinksSo_7 (by decide) ?_
  refine e_ci (w2 := fun (z : YS) => pW G a sa C0 P0 z) hD hS hA (e_V (n := 1) (ci := 5) (q0 := 0) (As := [.int 3]) (rest := []) hx hb hml hown hts hK hP hD hl (p_count l G a sa C0 P0 y_2 3 H.size hc hp (by first | assumption | omega | decide)) gL_areLinksSo_X5_count rfl rfl rfl (by decide +kernel) rfl ⟨Nat.le_of_ble_eq_true rfl, Nat.le_of_ble_eq_true rfl⟩ rfl rfl rfl (Nat.le_of_ble_eq_true rfl) dL_areLinksSo_8 ⟨Nat.le_of_ble_eq_true rfl, Nat.le_of_ble_eq_true rfl⟩) (fun r_8 y_8 H locs hw hP hD hS => ?_)
  have hP : va_P G.1 vwCl (pW G a sa C0 P0 y_8) H := hP
  have hD : va_D A (pW G a sa C0 P0 y_8) := hD
  have hw_8 : r_8 = CT C0 P0.2.2 3 := hw
  subst hw_8
  refine lv_istore_n (lv' := [(2, .int (CT C0 P0.2.2 3)), (1, .int (nI C0.1)), (0, .ref (a 0))]) hx hb dL_areLinksSo_11 rfl hl (by decide) rfl (fun ls hl => ?_)
  refine lv_iconst (v := 0) hx hb dL_areLinksSo_12 (by decide) ?_
  refine lv_istore_n (lv' := [(3, .int 0), (2, .int (CT C0 P0.2.2 3)), (1, .int (nI C0.1)), (0, .ref (a 0))]) hx hb dL_areLinksSo_13 rfl hl (by decide) rfl (fun ls hl => ?_)
  refine lv_iconst (v := 0) hx hb dL_areLinksSo_14 (by decide) ?_
  refine lv_istore (lv' := [(4, .int 0), (3, .int 0), (2, .int (CT C0 P0.2.2 3)), (1, .int (nI C0.1)), (0, .ref (a 0))]) hx hb dL_areLinksSo_15 hl (by decide) rfl (fun ls hl => ?_)
  refine lv_iconst (v := 1) hx hb dL_areLinksSo_17 (by decide) ?_
  refine lv_istore (lv' := [(5, .int 1), (4, .int 0), (3, .int 0), (2, .int (CT C0 P0.2.2 3)), (1, .int (nI C0.1)), (0, .ref (a 0))]) hx hb dL_areLinksSo_18 hl (by decide) rfl (fun ls hl => ?_)
  refine lv_iconst (v := 0) hx hb dL_areLinksSo_20 (by decide) ?_
  refine lv_istore (lv' := [(6, .int 0), (5, .int 1), (4, .int 0), (3, .int 0), (2, .int (CT C0 P0.2.2 3)), (1, .int (nI C0.1)), (0, .ref (a 0))]) hx hb dL_areLinksSo_21 hl (by decide) rfl (fun ls hl => ?_)
  have L23 : ∀ (n9 : Nat) (k : Nat) (y3 : YS), (k ≤ C0.1) → (C0.1 - k < n9) → ∀ (H : Heap) (locs : List Loc) (ls : Array Slot), va_P G.1 vwCl (pW G a sa C0 P0 y3) H → va_D A (pW G a sa C0 P0 y3) → va_S A s.heap H locs → lv_has ls 9 [(6, .int (nI k)), (5, .int 1), (4, .int (nI (brN (FO C0) (C0.2.2.2.2.2 3) k))), (3, .int (gM (FO C0) k)), (2, .int (LF C0 k)), (1, .int (nI C0.1)), (0, .ref (a 0))] → W p l e ({ frames := 4, cells := 0, slots := 0, locals := 102 } : Room) s m args below meth c H locs 0 0 Q (F0 m 23 ls []) := by
    intro n9
    induction n9 with
    | zero =>
      intro k y3 hk hm9 H locs ls hP hD hS hl
      exact absurd hm9 (Nat.not_lt_zero _)
    | succ n9 ih23 =>
      intro k y3 hk hm9 H locs ls hP hD hS hl
      refine lv_iload hx hb dL_areLinksSo_23 (lv_at hl 0 rfl) ?_
      refine lv_iload_n hx hb dL_areLinksSo_25 rfl (lv_at hl 5 rfl) ?_
      refine g_icmp_ge (a := k) (b := C0.1) (tgt := 178) hx hb (by omega) (by omega) dL_areLinksSo_26 (by decide) (fun c_26 => ?_) (fun c_26 => ?_)
      · skip
        have e9 : C0.1 = k := by omega
        subst e9
        obtain ⟨kE, hev⟩ := ev_c hc
        refine lv_iload hx hb dL_areLinksSo_178 (lv_at hl 1 rfl) ?_
        refine g_if_eq (a := 1) (tgt := 263) hx hb (by omega) dL_areLinksSo_180 (by decide) (fun c_180 => ?_) (fun c_180 => ?_)
        · exact absurd c_180 (by decide)
        · skip
          refine lv_aload_n hx hb dL_areLinksSo_183 rfl (lv_at hl 6 rfl) ?_
          refine e_cd (w2 := fun (z : YS) => pW G a sa C0 P0 z) hD hS hA (e_V (n := 0) (ci := 5) (q0 := 0) (As := []) (rest := []) hx hb hml hown hts hK hP hD hl (p_evenness l G a sa C0 P0 y3 kE H.size hc hp (hev)) gL_areLinksSo_X5_evenness rfl rfl rfl (by decide +kernel) rfl ⟨Nat.le_of_ble_eq_true rfl, Nat.le_of_ble_eq_true rfl⟩ rfl rfl rfl (Nat.le_of_ble_eq_true rfl) dL_areLinksSo_184 ⟨Nat.le_of_ble_eq_true rfl, Nat.le_of_ble_eq_true rfl⟩) (fun r_184 y_184 H locs hw hP hD hS => ?_)
          have hP : va_P G.1 vwCl (pW G a sa C0 P0 y_184) H := hP
          have hD : va_D A (pW G a sa C0 P0 y_184) := hD
          have hw_184 : r_184 = evn (cAH C0.1 C0.2.1 C0.2.2.1 C0.2.2.2.1 C0.2.2.2.2.1 C0.2.2.2.2.2) (cBE C0.1 C0.2.1 C0.2.2.1 C0.2.2.2.1 C0.2.2.2.2.1 C0.2.2.2.2.2) := hw
          subst hw_184
          refine lv_dconst0 hx hb dL_areLinksSo_187 ?_
          refine lv_dcmp hx hb dL_areLinksSo_188 ?_
          refine lv_if_lt (tgt := 263) hx hb dL_areLinksSo_189 (by decide) (fun c_189 => ?_) (fun c_189 => ?_)
          · exact absurd c_189 (ev_0 hc)
          · skip
            refine lv_aload_n hx hb dL_areLinksSo_192 rfl (lv_at hl 6 rfl) ?_
            refine e_cd (w2 := fun (z : YS) => pW G a sa C0 P0 z) hD hS hA (e_V (n := 0) (ci := 5) (q0 := 0) (As := []) (rest := []) hx hb hml hown hts hK hP hD hl (p_evenness l G a sa C0 P0 y_184 kE H.size hc hp (hev)) gL_areLinksSo_X5_evenness rfl rfl rfl (by decide +kernel) rfl ⟨Nat.le_of_ble_eq_true rfl, Nat.le_of_ble_eq_true rfl⟩ rfl rfl rfl (Nat.le_of_ble_eq_true rfl) dL_areLinksSo_193 ⟨Nat.le_of_ble_eq_true rfl, Nat.le_of_ble_eq_true rfl⟩) (fun r_193 y_193 H locs hw hP hD hS => ?_)
            have hP : va_P G.1 vwCl (pW G a sa C0 P0 y_193) H := hP
            have hD : va_D A (pW G a sa C0 P0 y_193) := hD
            have hw_193 : r_193 = evn (cAH C0.1 C0.2.1 C0.2.2.1 C0.2.2.2.1 C0.2.2.2.2.1 C0.2.2.2.2.2) (cBE C0.1 C0.2.1 C0.2.2.1 C0.2.2.2.1 C0.2.2.2.2.1 C0.2.2.2.2.2) := hw
            subst hw_193
            refine lv_dconst1 hx hb dL_areLinksSo_196 ?_
            refine lv_dcmp hx hb dL_areLinksSo_197 ?_
            refine lv_if_gt (tgt := 263) hx hb dL_areLinksSo_198 (by decide) (fun c_198 => ?_) (fun c_198 => ?_)
            · exact absurd c_198 (ev_1 hc)
            · skip
              refine lv_iload_n hx hb dL_areLinksSo_201 rfl (lv_at hl 4 rfl) ?_
              refine lv_ineg hx hb dL_areLinksSo_202 ?_
              refine lv_aload_n hx hb dL_areLinksSo_203 rfl (lv_at hl 6 rfl) ?_
              refine lv_iconst (v := 4) hx hb dL_areLinksSo_204 (by decide) ?_
              refine e_ci (w2 := fun (z : YS) => pW G a sa C0 P0 z) hD hS hA (e_V (n := 1) (ci := 5) (q0 := 0) (As := [.int 4]) (rest := [.int (-(LF C0 C0.1))]) hx hb hml hown hts hK hP hD hl (p_count l G a sa C0 P0 y_193 4 H.size hc hp (by first | assumption | omega | decide)) gL_areLinksSo_X5_count rfl rfl rfl (by decide +kernel) rfl ⟨Nat.le_of_ble_eq_true rfl, Nat.le_of_ble_eq_true rfl⟩ rfl rfl rfl (Nat.le_of_ble_eq_true rfl) dL_areLinksSo_205 ⟨Nat.le_of_ble_eq_true rfl, Nat.le_of_ble_eq_true rfl⟩) (fun r_205 y_205 H locs hw hP hD hS => ?_)
              have hP : va_P G.1 vwCl (pW G a sa C0 P0 y_205) H := hP
              have hD : va_D A (pW G a sa C0 P0 y_205) := hD
              have hw_205 : r_205 = CT C0 P0.2.2 4 := hw
              subst hw_205
              refine lv_icmp_ne (tgt := 263) hx hb dL_areLinksSo_208 (by decide) (fun c_208 => ?_) (fun c_208 => ?_)
              · exact absurd (lf_end hc P0.2.2) c_208
              · skip
                refine lv_iload_n hx hb dL_areLinksSo_211 rfl (lv_at hl 3 rfl) ?_
                refine lv_aload_n hx hb dL_areLinksSo_212 rfl (lv_at hl 6 rfl) ?_
                refine lv_iconst (v := 5) hx hb dL_areLinksSo_213 (by decide) ?_
                refine e_ci (w2 := fun (z : YS) => pW G a sa C0 P0 z) hD hS hA (e_V (n := 1) (ci := 5) (q0 := 0) (As := [.int 5]) (rest := [.int (gM (FO C0) C0.1)]) hx hb hml hown hts hK hP hD hl (p_count l G a sa C0 P0 y_205 5 H.size hc hp (by first | assumption | omega | decide)) gL_areLinksSo_X5_count rfl rfl rfl (by decide +kernel) rfl ⟨Nat.le_of_ble_eq_true rfl, Nat.le_of_ble_eq_true rfl⟩ rfl rfl rfl (Nat.le_of_ble_eq_true rfl) dL_areLinksSo_214 ⟨Nat.le_of_ble_eq_true rfl, Nat.le_of_ble_eq_true rfl⟩) (fun r_214 y_214 H locs hw hP hD hS => ?_)
                have hP : va_P G.1 vwCl (pW G a sa C0 P0 y_214) H := hP
                have hD : va_D A (pW G a sa C0 P0 y_214) := hD
                have hw_214 : r_214 = CT C0 P0.2.2 5 := hw
                subst hw_214
                refine g_ti (y := GR C0) (rfl) ?_
                refine lv_icmp_ne (tgt := 263) hx hb dL_areLinksSo_217 (by decide) (fun c_217 => ?_) (fun c_217 => ?_)
                · exact absurd rfl c_217
                · skip
                  refine lv_iload hx hb dL_areLinksSo_220 (lv_at hl 2 rfl) ?_
                  refine lv_aload_n hx hb dL_areLinksSo_222 rfl (lv_at hl 6 rfl) ?_
                  refine lv_bipush (v := 6) hx hb dL_areLinksSo_223 (by decide) ?_
                  refine e_ci (w2 := fun (z : YS) => pW G a sa C0 P0 z) hD hS hA (e_V (n := 1) (ci := 5) (q0 := 0) (As := [.int 6]) (rest := [.int (nI (brN (FO C0) (C0.2.2.2.2.2 3) C0.1))]) hx hb hml hown hts hK hP hD hl (p_count l G a sa C0 P0 y_214 6 H.size hc hp (by first | assumption | omega | decide)) gL_areLinksSo_X5_count rfl rfl rfl (by decide +kernel) rfl ⟨Nat.le_of_ble_eq_true rfl, Nat.le_of_ble_eq_true rfl⟩ rfl rfl rfl (Nat.le_of_ble_eq_true rfl) dL_areLinksSo_225 ⟨Nat.le_of_ble_eq_true rfl, Nat.le_of_ble_eq_true rfl⟩) (fun r_225 y_225 H locs hw hP hD hS => ?_)
                  have hP : va_P G.1 vwCl (pW G a sa C0 P0 y_225) H := hP
                  have hD : va_D A (pW G a sa C0 P0 y_225) := hD
                  have hw_225 : r_225 = CT C0 P0.2.2 6 := hw
                  subst hw_225
                  refine lv_icmp_ne (tgt := 263) hx hb dL_areLinksSo_228 (by decide) (fun c_228 => ?_) (fun c_228 => ?_)
                  · exact absurd rfl c_228
                  · skip
                    refine lv_aload_n hx hb dL_areLinksSo_231 rfl (lv_at hl 6 rfl) ?_
                    refine lv_bipush (v := 7) hx hb dL_areLinksSo_232 (by decide) ?_
                    refine e_ci (w2 := fun (z : YS) => pW G a sa C0 P0 z) hD hS hA (e_V (n := 1) (ci := 5) (q0 := 0) (As := [.int 7]) (rest := []) hx hb hml hown hts hK hP hD hl (p_count l G a sa C0 P0 y_225 7 H.size hc hp (by first | assumption | omega | decide)) gL_areLinksSo_X5_count rfl rfl rfl (by decide +kernel) rfl ⟨Nat.le_of_ble_eq_true rfl, Nat.le_of_ble_eq_true rfl⟩ rfl rfl rfl (Nat.le_of_ble_eq_true rfl) dL_areLinksSo_234 ⟨Nat.le_of_ble_eq_true rfl, Nat.le_of_ble_eq_true rfl⟩) (fun r_234 y_234 H locs hw hP hD hS => ?_)
                    have hP : va_P G.1 vwCl (pW G a sa C0 P0 y_234) H := hP
                    have hD : va_D A (pW G a sa C0 P0 y_234) := hD
                    have hw_234 : r_234 = CT C0 P0.2.2 7 := hw
                    subst hw_234
                    have J237 : ∀ x_1 : Int32, x_1 = CT C0 P0.2.2 7 → W p l e ({ frames := 4, cells := 0, slots := 0, locals := 102 } : Room) s m args below meth c H locs 0 0 Q (F0 m 246 ls [.int x_1]) := by
                      intro x_1 ex_1
                      subst ex_1
                      have J246 : ∀ x_2 : Int32, x_2 = CT C0 P0.2.2 7 → W p l e ({ frames := 4, cells := 0, slots := 0, locals := 102 } : Room) s m args below meth c H locs 0 0 Q (F0 m 256 ls [.int x_2, .int (CT C0 P0.2.2 7)]) := by
                        intro x_2 ex_2
                        subst ex_2
                        refine lv_icmp_ne (tgt := 263) hx hb dL_areLinksSo_256 (by decide) (fun c_256 => ?_) (fun c_256 => ?_)
                        · exact absurd rfl c_256
                        · skip
                          refine lv_iconst (v := 1) hx hb dL_areLinksSo_259 (by decide) ?_
                          refine lv_goto (tgt := 264) hx hb dL_areLinksSo_260 (by decide) ?_
                          rw [hQ]
                          exact e_zret (v := 1) y_234 hx hb hr hlocks (by first | exact Or.inl rfl | exact Or.inr rfl) (rfl) hK hP hD hS dL_areLinksSo_264
                      refine lv_iload hx hb dL_areLinksSo_246 (lv_at hl 2 rfl) ?_
                      refine g_if_ne (a := brN (FO C0) (C0.2.2.2.2.2 3) C0.1) (tgt := 255) hx hb (brN_lt hc _ (Nat.le_refl _)) dL_areLinksSo_248 (by decide) (fun c_248 => ?_) (fun c_248 => ?_)
                      · skip
                        refine lv_iconst (v := 0) hx hb dL_areLinksSo_255 (by decide) ?_
                        exact J246 0 (ho_f hc c_248)
                      · skip
                        refine lv_iconst (v := 1) hx hb dL_areLinksSo_251 (by decide) ?_
                        refine lv_goto (tgt := 256) hx hb dL_areLinksSo_252 (by decide) ?_
                        exact J246 1 (ho_t hc c_248)
                    refine lv_iconst (v := 1) hx hb dL_areLinksSo_237 (by decide) ?_
                    refine lv_icmp_ne (tgt := 245) hx hb dL_areLinksSo_238 (by decide) (fun c_238 => ?_) (fun c_238 => ?_)
                    · skip
                      refine lv_iconst (v := 0) hx hb dL_areLinksSo_245 (by decide) ?_
                      exact J237 0 (ho_0 c_238)
                    · skip
                      refine lv_iconst (v := 1) hx hb dL_areLinksSo_241 (by decide) ?_
                      refine lv_goto (tgt := 246) hx hb dL_areLinksSo_242 (by decide) ?_
                      exact J237 1 (c_238.symm)
      · skip
        have hkn : k < C0.1 := c_26
        have hkl : k ≤ C0.1 := hk
        refine lv_aload_n hx hb dL_areLinksSo_29 rfl (lv_at hl 6 rfl) ?_
        refine lv_iload hx hb dL_areLinksSo_30 (lv_at hl 0 rfl) ?_
        refine lv_iconst (v := 0) hx hb dL_areLinksSo_32 (by decide) ?_
        refine e_ci (w2 := fun (z : YS) => pW G a sa C0 P0 z) hD hS hA (e_V (n := 2) (ci := 5) (q0 := 0) (As := [.int (nI k), .int 0]) (rest := []) hx hb hml hown hts hK hP hD hl (p_linkOf l G a sa C0 P0 y3 k 0 H.size hc hp (by first | assumption | omega | decide) (by first | assumption | omega | decide)) gL_areLinksSo_X5_linkOf rfl rfl rfl (by decide +kernel) rfl ⟨Nat.le_of_ble_eq_true rfl, Nat.le_of_ble_eq_true rfl⟩ rfl rfl rfl (Nat.le_of_ble_eq_true rfl) dL_areLinksSo_33 ⟨Nat.le_of_ble_eq_true rfl, Nat.le_of_ble_eq_true rfl⟩) (fun r_33 y_33 H locs hw hP hD hS => ?_)
        have hP : va_P G.1 vwCl (pW G a sa C0 P0 y_33) H := hP
        have hD : va_D A (pW G a sa C0 P0 y_33) := hD
        have hw_33 : r_33 = LK C0 k 0 := hw
        subst hw_33
        refine lv_iconst (v := 2) hx hb dL_areLinksSo_36 (by decide) ?_
        refine lv_isub hx hb dL_areLinksSo_37 ?_
        refine g_ti (y := C0.2.1 k) (lk_0) ?_
        refine lv_istore (lv' := [(7, .int (C0.2.1 k)), (6, .int (nI k)), (5, .int 1), (4, .int (nI (brN (FO C0) (C0.2.2.2.2.2 3) k))), (3, .int (gM (FO C0) k)), (2, .int (LF C0 k)), (1, .int (nI C0.1)), (0, .ref (a 0))]) hx hb dL_areLinksSo_38 hl (by decide) rfl (fun ls hl => ?_)
        refine lv_aload_n hx hb dL_areLinksSo_40 rfl (lv_at hl 7 rfl) ?_
        refine lv_iload hx hb dL_areLinksSo_41 (lv_at hl 1 rfl) ?_
        refine lv_iconst (v := 1) hx hb dL_areLinksSo_43 (by decide) ?_
        refine e_ci (w2 := fun (z : YS) => pW G a sa C0 P0 z) hD hS hA (e_V (n := 2) (ci := 5) (q0 := 0) (As := [.int (nI k), .int 1]) (rest := []) hx hb hml hown hts hK hP hD hl (p_linkOf l G a sa C0 P0 y_33 k 1 H.size hc hp (by first | assumption | omega | decide) (by first | assumption | omega | decide)) gL_areLinksSo_X5_linkOf rfl rfl rfl (by decide +kernel) rfl ⟨Nat.le_of_ble_eq_true rfl, Nat.le_of_ble_eq_true rfl⟩ rfl rfl rfl (Nat.le_of_ble_eq_true rfl) dL_areLinksSo_44 ⟨Nat.le_of_ble_eq_true rfl, Nat.le_of_ble_eq_true rfl⟩) (fun r_44 y_44 H locs hw hP hD hS => ?_)
        have hP : va_P G.1 vwCl (pW G a sa C0 P0 y_44) H := hP
        have hD : va_D A (pW G a sa C0 P0 y_44) := hD
        have hw_44 : r_44 = LK C0 k 1 := hw
        subst hw_44
        refine lv_istore (lv' := [(8, .int (LK C0 k 1)), (7, .int (C0.2.1 k)), (6, .int (nI k)), (5, .int 1), (4, .int (nI (brN (FO C0) (C0.2.2.2.2.2 3) k))), (3, .int (gM (FO C0) k)), (2, .int (LF C0 k)), (1, .int (nI C0.1)), (0, .ref (a 0))]) hx hb dL_areLinksSo_47 hl (by decide) rfl (fun ls hl => ?_)
        refine lv_iload_n hx hb dL_areLinksSo_49 rfl (lv_at hl 6 rfl) ?_
        refine lv_aload_n hx hb dL_areLinksSo_50 rfl (lv_at hl 8 rfl) ?_
        refine lv_iload hx hb dL_areLinksSo_51 (lv_at hl 2 rfl) ?_
        refine lv_bipush (v := 7) hx hb dL_areLinksSo_53 (by decide) ?_
        refine e_ci (w2 := fun (z : YS) => pW G a sa C0 P0 z) hD hS hA (e_V (n := 2) (ci := 5) (q0 := 0) (As := [.int (nI k), .int 7]) (rest := [.int (LF C0 k)]) hx hb hml hown hts hK hP hD hl (p_joint l G a sa C0 P0 y_44 k 7 H.size hc hp (by first | assumption | omega | decide) (by first | assumption | omega | decide)) gL_areLinksSo_X5_joint rfl rfl rfl (by decide +kernel) rfl ⟨Nat.le_of_ble_eq_true rfl, Nat.le_of_ble_eq_true rfl⟩ rfl rfl rfl (Nat.le_of_ble_eq_true rfl) dL_areLinksSo_55 ⟨Nat.le_of_ble_eq_true rfl, Nat.le_of_ble_eq_true rfl⟩) (fun r_55 y_55 H locs hw hP hD hS => ?_)
        have hP : va_P G.1 vwCl (pW G a sa C0 P0 y_55) H := hP
        have hD : va_D A (pW G a sa C0 P0 y_55) := hD
        have hw_55 : r_55 = JT C0 k 7 := hw
        subst hw_55
        refine lv_isub hx hb dL_areLinksSo_58 ?_
        refine g_ti (y := LF C0 (k + 1)) (rfl) ?_
        refine lv_istore_n (lv' := [(2, .int (LF C0 (k + 1))), (8, .int (LK C0 k 1)), (7, .int (C0.2.1 k)), (6, .int (nI k)), (5, .int 1), (4, .int (nI (brN (FO C0) (C0.2.2.2.2.2 3) k))), (3, .int (gM (FO C0) k)), (1, .int (nI C0.1)), (0, .ref (a 0))]) hx hb dL_areLinksSo_59 rfl hl (by decide) rfl (fun ls hl => ?_)
        have J60 : ∀ x_3 : Int32, x_3 = gM (FO C0) (k + 1) → W p l e ({ frames := 4, cells := 0, slots := 0, locals := 102 } : Room) s m args below meth c H locs 0 0 Q (F0 m 72 ls [.int x_3]) := by
          intro x_3 ex_3
          subst ex_3
          refine lv_istore_n (lv' := [(3, .int (gM (FO C0) (k + 1))), (2, .int (LF C0 (k + 1))), (8, .int (LK C0 k 1)), (7, .int (C0.2.1 k)), (6, .int (nI k)), (5, .int 1), (4, .int (nI (brN (FO C0) (C0.2.2.2.2.2 3) k))), (1, .int (nI C0.1)), (0, .ref (a 0))]) hx hb dL_areLinksSo_72 rfl hl (by decide) rfl (fun ls hl => ?_)
          refine lv_iload hx hb dL_areLinksSo_73 (lv_at hl 6 rfl) ?_
          refine lv_aload_n hx hb dL_areLinksSo_75 rfl (lv_at hl 8 rfl) ?_
          refine lv_iload hx hb dL_areLinksSo_76 (lv_at hl 4 rfl) ?_
          refine lv_iconst (v := 2) hx hb dL_areLinksSo_78 (by decide) ?_
          refine e_ci (w2 := fun (z : YS) => pW G a sa C0 P0 z) hD hS hA (e_V (n := 2) (ci := 5) (q0 := 0) (As := [.int (nI k), .int 2]) (rest := [.int (nI (brN (FO C0) (C0.2.2.2.2.2 3) k))]) hx hb hml hown hts hK hP hD hl (p_linkOf l G a sa C0 P0 y_55 k 2 H.size hc hp (by first | assumption | omega | decide) (by first | assumption | omega | decide)) gL_areLinksSo_X5_linkOf rfl rfl rfl (by decide +kernel) rfl ⟨Nat.le_of_ble_eq_true rfl, Nat.le_of_ble_eq_true rfl⟩ rfl rfl rfl (Nat.le_of_ble_eq_true rfl) dL_areLinksSo_79 ⟨Nat.le_of_ble_eq_true rfl, Nat.le_of_ble_eq_true rfl⟩) (fun r_79 y_79 H locs hw hP hD hS => ?_)
          have hP : va_P G.1 vwCl (pW G a sa C0 P0 y_79) H := hP
          have hD : va_D A (pW G a sa C0 P0 y_79) := hD
          have hw_79 : r_79 = LK C0 k 2 := hw
          subst hw_79
          refine lv_iadd hx hb dL_areLinksSo_82 ?_
          refine g_ti (y := nI (brN (FO C0) (C0.2.2.2.2.2 3) (k + 1))) (br_S) ?_
          refine lv_istore (lv' := [(4, .int (nI (brN (FO C0) (C0.2.2.2.2.2 3) (k + 1)))), (3, .int (gM (FO C0) (k + 1))), (2, .int (LF C0 (k + 1))), (8, .int (LK C0 k 1)), (7, .int (C0.2.1 k)), (6, .int (nI k)), (5, .int 1), (1, .int (nI C0.1)), (0, .ref (a 0))]) hx hb dL_areLinksSo_83 hl (by decide) rfl (fun ls hl => ?_)
          refine lv_iload hx hb dL_areLinksSo_85 (lv_at hl 6 rfl) ?_
          refine g_if_eq (a := 1) (tgt := 169) hx hb (by omega) dL_areLinksSo_87 (by decide) (fun c_87 => ?_) (fun c_87 => ?_)
          · exact absurd c_87 (by decide)
          · skip
            refine lv_iload hx hb dL_areLinksSo_90 (lv_at hl 3 rfl) ?_
            have J92 : ∀ x_4 : Int32, x_4 = ab (LF C0 (k + 1)) → W p l e ({ frames := 4, cells := 0, slots := 0, locals := 102 } : Room) s m args below meth c H locs 0 0 Q (F0 m 102 ls [.int x_4, .int (LK C0 k 1)]) := by
              intro x_4 ex_4
              subst ex_4
              have J102 : ∀ x_5 : Int32, x_5 = ab (C0.2.1 k) → W p l e ({ frames := 4, cells := 0, slots := 0, locals := 102 } : Room) s m args below meth c H locs 0 0 Q (F0 m 115 ls [.int x_5, .int (ab (LF C0 (k + 1))), .int (LK C0 k 1)]) := by
                intro x_5 ex_5
                subst ex_5
                refine lv_aload_n hx hb dL_areLinksSo_115 rfl (lv_at hl 8 rfl) ?_
                refine lv_iconst (v := 2) hx hb dL_areLinksSo_116 (by decide) ?_
                refine e_ci (w2 := fun (z : YS) => pW G a sa C0 P0 z) hD hS hA (e_V (n := 1) (ci := 5) (q0 := 0) (As := [.int 2]) (rest := [.int (ab (C0.2.1 k)), .int (ab (LF C0 (k + 1))), .int (LK C0 k 1)]) hx hb hml hown hts hK hP hD hl (p_setting l G a sa C0 P0 y_79 2 H.size hc hp (by first | assumption | omega | decide)) gL_areLinksSo_X5_setting rfl rfl rfl (by decide +kernel) rfl ⟨Nat.le_of_ble_eq_true rfl, Nat.le_of_ble_eq_true rfl⟩ rfl rfl rfl (Nat.le_of_ble_eq_true rfl) dL_areLinksSo_117 ⟨Nat.le_of_ble_eq_true rfl, Nat.le_of_ble_eq_true rfl⟩) (fun r_117 y_117 H locs hw hP hD hS => ?_)
                have hP : va_P G.1 vwCl (pW G a sa C0 P0 y_117) H := hP
                have hD : va_D A (pW G a sa C0 P0 y_117) := hD
                have hw_117 : r_117 = C0.2.2.2.2.2 2 + 100 := hw
                subst hw_117
                refine lv_bipush (v := 100) hx hb dL_areLinksSo_120 (by decide) ?_
                refine lv_isub hx hb dL_areLinksSo_122 ?_
                refine lv_imul hx hb dL_areLinksSo_123 ?_
                refine lv_iadd hx hb dL_areLinksSo_124 ?_
                refine lv_icmp_ne (tgt := 169) hx hb dL_areLinksSo_125 (by decide) (fun c_125 => ?_) (fun c_125 => ?_)
                · exact absurd fo_eq c_125
                · skip
                  refine lv_aload_n hx hb dL_areLinksSo_128 rfl (lv_at hl 8 rfl) ?_
                  refine lv_iload hx hb dL_areLinksSo_129 (lv_at hl 5 rfl) ?_
                  refine lv_iconst (v := 2) hx hb dL_areLinksSo_131 (by decide) ?_
                  refine e_ci (w2 := fun (z : YS) => pW G a sa C0 P0 z) hD hS hA (e_V (n := 2) (ci := 5) (q0 := 0) (As := [.int (nI k), .int 2]) (rest := []) hx hb hml hown hts hK hP hD hl (p_linkOf l G a sa C0 P0 y_117 k 2 H.size hc hp (by first | assumption | omega | decide) (by first | assumption | omega | decide)) gL_areLinksSo_X5_linkOf rfl rfl rfl (by decide +kernel) rfl ⟨Nat.le_of_ble_eq_true rfl, Nat.le_of_ble_eq_true rfl⟩ rfl rfl rfl (Nat.le_of_ble_eq_true rfl) dL_areLinksSo_132 ⟨Nat.le_of_ble_eq_true rfl, Nat.le_of_ble_eq_true rfl⟩) (fun r_132 y_132 H locs hw hP hD hS => ?_)
                  have hP : va_P G.1 vwCl (pW G a sa C0 P0 y_132) H := hP
                  have hD : va_D A (pW G a sa C0 P0 y_132) := hD
                  have hw_132 : r_132 = LK C0 k 2 := hw
                  subst hw_132
                  have J135 : ∀ x_6 : Int32, x_6 = LK C0 k 2 → W p l e ({ frames := 4, cells := 0, slots := 0, locals := 102 } : Room) s m args below meth c H locs 0 0 Q (F0 m 144 ls [.int x_6]) := by
                    intro x_6 ex_6
                    subst ex_6
                    refine lv_iload hx hb dL_areLinksSo_144 (lv_at hl 3 rfl) ?_
                    refine lv_aload_n hx hb dL_areLinksSo_146 rfl (lv_at hl 8 rfl) ?_
                    refine lv_iconst (v := 3) hx hb dL_areLinksSo_147 (by decide) ?_
                    refine e_ci (w2 := fun (z : YS) => pW G a sa C0 P0 z) hD hS hA (e_V (n := 1) (ci := 5) (q0 := 0) (As := [.int 3]) (rest := [.int (LK C0 k 1), .int (LK C0 k 2)]) hx hb hml hown hts hK hP hD hl (p_setting l G a sa C0 P0 y_132 3 H.size hc hp (by first | assumption | omega | decide)) gL_areLinksSo_X5_setting rfl rfl rfl (by decide +kernel) rfl ⟨Nat.le_of_ble_eq_true rfl, Nat.le_of_ble_eq_true rfl⟩ rfl rfl rfl (Nat.le_of_ble_eq_true rfl) dL_areLinksSo_148 ⟨Nat.le_of_ble_eq_true rfl, Nat.le_of_ble_eq_true rfl⟩) (fun r_148 y_148 H locs hw hP hD hS => ?_)
                    have hP : va_P G.1 vwCl (pW G a sa C0 P0 y_148) H := hP
                    have hD : va_D A (pW G a sa C0 P0 y_148) := hD
                    have hw_148 : r_148 = C0.2.2.2.2.2 3 + 100 := hw
                    subst hw_148
                    refine lv_bipush (v := 100) hx hb dL_areLinksSo_151 (by decide) ?_
                    refine lv_isub hx hb dL_areLinksSo_153 ?_
                    have J154 : ∀ x_7 : Int32, x_7 = LK C0 k 2 → W p l e ({ frames := 4, cells := 0, slots := 0, locals := 102 } : Room) s m args below meth c H locs 0 0 Q (F0 m 162 ls [.int x_7, .int (LK C0 k 2)]) := by
                      intro x_7 ex_7
                      subst ex_7
                      refine lv_icmp_ne (tgt := 169) hx hb dL_areLinksSo_162 (by decide) (fun c_162 => ?_) (fun c_162 => ?_)
                      · exact absurd rfl c_162
                      · skip
                        refine lv_iconst (v := 1) hx hb dL_areLinksSo_165 (by decide) ?_
                        refine lv_goto (tgt := 170) hx hb dL_areLinksSo_166 (by decide) ?_
                        refine lv_istore (lv' := [(5, .int 1), (4, .int (nI (brN (FO C0) (C0.2.2.2.2.2 3) (k + 1)))), (3, .int (gM (FO C0) (k + 1))), (2, .int (LF C0 (k + 1))), (8, .int (LK C0 k 1)), (7, .int (C0.2.1 k)), (6, .int (nI k)), (1, .int (nI C0.1)), (0, .ref (a 0))]) hx hb dL_areLinksSo_170 hl (by decide) rfl (fun ls hl => ?_)
                        refine lv_iinc (v := nI (k + 1)) (lv' := [(6, .int (nI (k + 1))), (5, .int 1), (4, .int (nI (brN (FO C0) (C0.2.2.2.2.2 3) (k + 1)))), (3, .int (gM (FO C0) (k + 1))), (2, .int (LF C0 (k + 1))), (8, .int (LK C0 k 1)), (7, .int (C0.2.1 k)), (1, .int (nI C0.1)), (0, .ref (a 0))]) hx hb dL_areLinksSo_172 hl (k := 6) rfl (nI_add (k) 1) (by decide) rfl (fun ls hl => ?_)
                        refine lv_goto (tgt := 23) hx hb dL_areLinksSo_175 (by decide) ?_
                        exact ih23 (k + 1) y_148 (by first | assumption | omega) (by omega) _ _ _ hP hD hS (lv_sub hl [0, 1, 2, 3, 4, 7, 8] rfl)
                    refine lv_icmp_le (tgt := 161) hx hb dL_areLinksSo_154 (by decide) (fun c_154 => ?_) (fun c_154 => ?_)
                    · skip
                      refine lv_iconst (v := 0) hx hb dL_areLinksSo_161 (by decide) ?_
                      exact J154 0 (lk2_f c_154)
                    · skip
                      refine lv_iconst (v := 1) hx hb dL_areLinksSo_157 (by decide) ?_
                      refine lv_goto (tgt := 162) hx hb dL_areLinksSo_158 (by decide) ?_
                      exact J154 1 (lk2_t c_154)
                  refine lv_iconst (v := 1) hx hb dL_areLinksSo_135 (by decide) ?_
                  refine lv_icmp_ne (tgt := 143) hx hb dL_areLinksSo_136 (by decide) (fun c_136 => ?_) (fun c_136 => ?_)
                  · skip
                    refine lv_iconst (v := 0) hx hb dL_areLinksSo_143 (by decide) ?_
                    exact J135 0 (lk2_0 c_136)
                  · skip
                    refine lv_iconst (v := 1) hx hb dL_areLinksSo_139 (by decide) ?_
                    refine lv_goto (tgt := 144) hx hb dL_areLinksSo_140 (by decide) ?_
                    exact J135 1 (c_136.symm)
              refine lv_iload hx hb dL_areLinksSo_102 (lv_at hl 4 rfl) ?_
              refine lv_if_ge (tgt := 113) hx hb dL_areLinksSo_104 (by decide) (fun c_104 => ?_) (fun c_104 => ?_)
              · skip
                refine lv_iload hx hb dL_areLinksSo_113 (lv_at hl 4 rfl) ?_
                exact J102 (C0.2.1 k) (ab_t c_104)
              · skip
                refine lv_iload hx hb dL_areLinksSo_107 (lv_at hl 4 rfl) ?_
                refine lv_ineg hx hb dL_areLinksSo_109 ?_
                refine lv_goto (tgt := 115) hx hb dL_areLinksSo_110 (by decide) ?_
                exact J102 (-(C0.2.1 k)) (ab_f c_104)
            refine lv_iload_n hx hb dL_areLinksSo_92 rfl (lv_at hl 2 rfl) ?_
            refine lv_if_ge (tgt := 101) hx hb dL_areLinksSo_93 (by decide) (fun c_93 => ?_) (fun c_93 => ?_)
            · skip
              refine lv_iload_n hx hb dL_areLinksSo_101 rfl (lv_at hl 2 rfl) ?_
              exact J92 (LF C0 (k + 1)) (ab_t c_93)
            · skip
              refine lv_iload_n hx hb dL_areLinksSo_96 rfl (lv_at hl 2 rfl) ?_
              refine lv_ineg hx hb dL_areLinksSo_97 ?_
              refine lv_goto (tgt := 102) hx hb dL_areLinksSo_98 (by decide) ?_
              exact J92 (-(LF C0 (k + 1))) (ab_f c_93)
        refine lv_iload hx hb dL_areLinksSo_60 (lv_at hl 1 rfl) ?_
        refine lv_iload_n hx hb dL_areLinksSo_62 rfl (lv_at hl 6 rfl) ?_
        refine lv_icmp_le (tgt := 71) hx hb dL_areLinksSo_63 (by decide) (fun c_63 => ?_) (fun c_63 => ?_)
        · skip
          refine lv_iload_n hx hb dL_areLinksSo_71 rfl (lv_at hl 6 rfl) ?_
          exact J60 (gM (FO C0) k) (gm_t c_63)
        · skip
          refine lv_iload hx hb dL_areLinksSo_66 (lv_at hl 1 rfl) ?_
          refine lv_goto (tgt := 72) hx hb dL_areLinksSo_68 (by decide) ?_
          exact J60 (LK C0 k 1) (gm_f c_63)
  exact L23 (C0.1 - 0 + 1) 0 y_8 (by first | assumption | omega) (Nat.lt_succ_self _) _ _ _ hP hD hS (lv_sub hl [0, 1, 2, 3, 4, 5, 6] rfl)
