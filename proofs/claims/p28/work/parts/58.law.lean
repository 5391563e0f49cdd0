/-! # the law's body: a cell of the script, the loop, the start (wip/p28/s58_law.py) -/
def cePre (G : kG) (b L : Nat) (xs : Nat → Int32) (sz : Nat) (U : State) : Prop := kPre G [] sz U ∧ va_X b L xs U U.heap ∧ b < sz
set_option maxHeartbeats 4000000 in
theorem c_L_cell (l : Launch) (G : kG) (b L : Nat) (xs : Nat → Int32) (k sz : Nat) (hk : k < 2 ^ 30) (hL : L < 2 ^ 30) : Met l yL_cell wsL_cell ({ frames := 0, cells := 0, slots := 0, locals := 0 } : Room) (va_Pc [.ref b, .int (nI k)] (cePre G b L xs sz)) (kQi G (fun (_ : Int32) (_ : Unit) => True) (fun _ => []) (va_A [] sz)) 0 0 (va_A [] sz) := by
  refine Met.ofW (cc := cL_cell) (maxL := 2) (ret := some .int) (by decide) rfl ?_
  intro p e s m args below meth c s₁ B hml hv
  obtain ⟨rfl, ⟨hsz, hP, hK, hD0⟩, hX, hbl⟩ := hv
  have hx := B.exec
  have hb := B.bytes
  have hr := B.returns
  have hlocks := B.notSynchronized
  subst hsz
  have hD := hD0.self (sz := s.heap.size)
  have hl : lv_has _ 2 [(0, .ref b), (1, .int (nI k))] := lv_entry [Value.ref b, .int (nI k)] (n := 2) (Nat.le_of_ble_eq_true rfl)
  rw [lg_entry_eq]
  have hS : va_S (va_A [] s.heap.size) s.heap s.heap [] := va_S.rf
  have hbA : ¬ va_A [] s.heap.size b := fun q => q.elim (fun ⟨_, _, h⟩ => by simp at h) (fun h => absurd hbl (Nat.not_lt.mpr h))
  refine lv_iload_n hx hb dL_cell_0 rfl (lv_at hl 1 rfl) ?_
  refine lv_aload_n hx hb dL_cell_1 rfl (lv_at hl 0 rfl) ?_
  refine va_slen hx hb hX hbl hbA hS dL_cell_2 ?_
  refine g_icmp_ge (a := k) (b := L) (tgt := 12) hx hb (by omega) (by omega) dL_cell_3 (by decide) (fun c3 => ?_) (fun c3 => ?_)
  · refine lv_sipush (v := 7919) hx hb dL_cell_12 (by decide) ?_
    refine lv_iload_n hx hb dL_cell_15 rfl (lv_at hl 1 rfl) ?_
    refine lv_iconst (v := 3) hx hb dL_cell_16 (by decide) ?_
    refine lv_iadd hx hb dL_cell_17 ?_
    refine lv_imul hx hb dL_cell_18 ?_
    refine lv_iload_n hx hb dL_cell_19 rfl (lv_at hl 1 rfl) ?_
    refine lv_bipush (v := 11) hx hb dL_cell_20 (by decide) ?_
    refine lv_iadd hx hb dL_cell_22 ?_
    refine lv_imul hx hb dL_cell_23 ?_
    exact k_iret () [] hx hb hr hlocks trivial hK hP hD hS rfl (by decide) dL_cell_24
  · refine lv_aload_n hx hb dL_cell_6 rfl (lv_at hl 0 rfl) ?_
    refine lv_iload_n hx hb dL_cell_7 rfl (lv_at hl 1 rfl) ?_
    refine va_sld hx hb hX hbl hbA hS (vp_in_nI c3 (by omega)) dL_cell_8 ?_
    refine lv_goto (tgt := 24) hx hb dL_cell_9 (by decide) ?_
    exact k_iret () [] hx hb hr hlocks trivial hK hP hD hS rfl (by decide) dL_cell_24
theorem ce_blind {G : kG} {b L sz : Nat} {xs : Nat → Int32} {av : List Value} : FrameBlind (va_Pc av (cePre G b L xs sz)) := fun a U g mk q => by
  obtain ⟨q0, ⟨q1, qP, qK, qD⟩, qX, qb⟩ := q
  exact ⟨q0, ⟨q1, qP, va_K.moved (u := U) (U := U.calling g mk a) (Vm.Alike.refl U.vm) qK, qD⟩, va_X.moved (u := U) (U := U.calling g mk a) (Vm.Alike.refl U.vm) qX, qb⟩
theorem ce_P {G : kG} {H : Heap} : va_P G.1 vwCl [] H := fun k q h => by simp at h
theorem ce_D {A : Nat → Prop} : va_D A [] := ⟨fun i j p q h => by simp at h, fun k q h => by simp at h⟩
set_option maxHeartbeats 4000000 in
set_option maxRecDepth 100000 in
theorem e_cell {p : Program} {l : Launch} {e : Env} {R : Room} {s : State} {m : MethodId} {args : Array Value} {below : List Frame} {meth : Method} {c : Code} {H : Heap} {locs : List Loc} {cells slots pc k : Nat} {Q : State → Prop} {ls : Array Slot} {lv : List (Nat × Value)} {rest : List Value} {G : kG} {A : Nat → Prop} {a : Nat → Nat} {sa : Nat → Nat → Nat} {C0 : CV} {P0 : PS} {y0 : YS} {sb L : Nat} {xs : Nat → Int32} {cc : ByteArray} {nL : Nat}
    (hx : p.tables.exec = Jvm.exec) (hb : c.code = cc) (hml : c.maxLocals = nL) (hown : s.vm.findClass RL = some m.cls) (hts : ∀ w ∈ wsL_law, w.before args s = true) (hK : va_K G.1 vwCl (kT G) s) (hA : ∀ q, s.heap.size ≤ q → A q) (hX : va_X sb L xs s s.heap) (hbl : sb < s.heap.size) (hbA : ¬ A sb) (hk : k < 2 ^ 30) (hL : L < 2 ^ 30)
    (hP : va_P G.1 vwCl (pW G a sa C0 P0 y0) H) (hD : va_D A (pW G a sa C0 P0 y0)) (hS : va_S A s.heap H locs) (hl : lv_has ls nL lv) (hR : 1 ≤ R.frames ∧ 21 ≤ R.locals) (hf : cells ≤ R.cells ∧ slots ≤ R.slots) (hW : (rest.map fun v => v.category).sum ≤ 8) (hdg : decode cc pc = .ok (.invokestatic 80, 3))
    (kk : ∀ (r : Int32) (H : Heap) (locs : List Loc), va_P G.1 vwCl (pW G a sa C0 P0 y0) H → va_D A (pW G a sa C0 P0 y0) → va_S A s.heap H locs → W p l e R s m args below meth c H locs cells slots Q (F0 m (pc + 3) ls (.int r :: rest))) :
    W p l e R s m args below meth c H locs cells slots Q (F0 m pc ls (.int (nI k) :: .ref sb :: rest)) := by
  refine k_ci (wc := []) (wr := pW G a sa C0 P0 y0) (mc := 0) (ms := 0) (S := Unit) (post := fun _ _ => True) (w2 := fun _ => []) (a := [Value.ref sb, .int (nI k)].toArray) [0, 1, 2, 3, 4, 5, 6, 7, 8, 9, 10, 11, 12, 13, 14, 15, 16, 17, 18, 19, 20, 21, 22, 23, 24, 25, 26, 27, 28, 29, 30, 31, 32, 33, 34, 35, 36, 37, 38, 39, 40, 41, 42, 43, 44, 45, 46, 47, 48, 49, 50, 51, 52, 53, 54, 55, 56, 57, 58, 59, 60, 61, 62, 63, 64, 65, 66, 67, 68, 69, 70, 71, 72, 73, 74, 75, 76, 77, 78, 79, 80, 81, 82, 83, 84, 85, 86, 87, 88, 89, 90, 91, 92, 93, 94, 95, 96, 97, 98, 99, 100, 101, 102, 103, 104, 105, 106, 107, 108, 109, 110] rfl (by decide +kernel) [] rfl (by decide +kernel) hP hD hS hA
    (va_runS (As := [.ref sb, .int (nI k)]) (rest := rest) ⟨hx, hb, hml, hown, hts⟩ (c_L_cell l G sb L xs k H.size hk hL) (va_cwS 2 hts gL_law_L_cell rfl rfl rfl (by decide +kernel) hR) ⟨ce_blind, fun U hU hWm => ⟨rfl, ⟨by rw [hU], ce_P, va_K.moved hWm.alike hK, ce_D⟩, by rw [hU]; exact (va_X.moved hWm.alike hX).kept (hS.2.1 sb hbl hbA), Nat.lt_of_lt_of_le hbl hS.1⟩⟩ rfl rfl hl.1 rfl (lv_room hW) hdg hf)
    (fun r u H1 locs1 _ hP1 hD1 hS1 => ?_)
  rw [List.append_nil] at hP1 hD1
  exact kk r H1 locs1 hP1 hD1 hS1
set_option maxHeartbeats 4000000 in
set_option maxRecDepth 100000 in
theorem law_loop {p : Program} {l : Launch} {e : Env} {s : State} {m : MethodId} {args : Array Value} {below : List Frame} {meth : Method} {c : Code} {A : Nat → Prop} {G : kG} {a : Nat → Nat} {sa : Nat → Nat → Nat} {sb L : Nat} {xs : Nat → Int32} {Q : State → Prop} {C0 : CV} {P0 : PS} {y0 : YS}
    (hx : p.tables.exec = Jvm.exec) (hb : c.code = cL_law) (hml : c.maxLocals = 6) (hown : s.vm.findClass RL = some m.cls) (hts : ∀ w ∈ wsL_law, w.before args s = true) (hK : va_K G.1 vwCl (kT G) s) (hA : ∀ q, s.heap.size ≤ q → A q) (hX : va_X sb L xs s s.heap) (hbl : sb < s.heap.size) (hbA : ¬ A sb) (hL : L ≤ 260)
    (hend : ∀ (H : Heap) (locs : List Loc) (ls : Array Slot), va_S A s.heap H locs → W p l e room_1 s m args below meth c H locs 111 1048 Q (F0 m 150 ls []))
    (hc : okC C0) (hp : okQ P0) (H : Heap) (locs : List Loc) (ls : Array Slot) (hP : va_P G.1 vwCl (pW G a sa C0 P0 y0) H) (hD : va_D A (pW G a sa C0 P0 y0)) (hS : va_S A s.heap H locs) (hl : lv_has ls 6 [(0, .ref sb), (1, .ref (a 0)), (2, .int 0)]) : W p l e room_1 s m args below meth c H locs 111 1048 Q (F0 m 10 ls []) := by
    have L10 : ∀ (n9 : Nat) (ee : Nat) (C1 : CV) (P1 : PS) (y1 : YS), (ee ≤ 58) → (okC C1) → (okQ P1) → (58 - ee < n9) → ∀ (H : Heap) (locs : List Loc) (ls : Array Slot), va_P G.1 vwCl (pW G a sa C1 P1 y1) H → va_D A (pW G a sa C1 P1 y1) → va_S A s.heap H locs → lv_has ls 6 [(0, .ref sb), (1, .ref (a 0)), (2, .int (nI ee))] → W p l e room_1 s m args below meth c H locs 111 1048 Q (F0 m 10 ls []) := by
      intro n9
      induction n9 with
      | zero =>
        intro ee C1 P1 y1 he9 hc1 hp1 hm9 H locs ls hP hD hS hl
        exact absurd hm9 (Nat.not_lt_zero _)
      | succ n9 ih10 =>
        intro ee C1 P1 y1 he9 hc1 hp1 hm9 H locs ls hP hD hS hl
        refine lv_iload_n hx hb dL_law_10 rfl (lv_at hl 2 rfl) ?_
        refine lv_bipush (v := 58) hx hb dL_law_11 (by decide) ?_
        refine g_icmp_ge (a := ee) (b := 58) (tgt := 150) hx hb (by omega) (by omega) dL_law_13 (by decide) (fun c_13 => ?_) (fun c_13 => ?_)
        · skip
          exact hend H locs ls hS
        · skip
          refine lv_aload_n hx hb dL_law_16 rfl (lv_at hl 0 rfl) ?_
          refine lv_iload_n hx hb dL_law_17 rfl (lv_at hl 2 rfl) ?_
          refine e_cell (k := ee) (rest := []) hx hb hml hown hts hK hA hX hbl hbA (by omega) (by omega) hP hD hS hl ⟨Nat.le_of_ble_eq_true rfl, Nat.le_of_ble_eq_true rfl⟩ ⟨Nat.le_of_ble_eq_true rfl, Nat.le_of_ble_eq_true rfl⟩ (by decide) dL_law_18 (fun r_18 H locs hP hD hS => ?_)
          refine lv_istore_n (lv' := [(3, .int r_18), (0, .ref sb), (1, .ref (a 0)), (2, .int (nI ee))]) hx hb dL_law_21 rfl hl (by decide) rfl (fun ls hl => ?_)
          refine lv_aload_n hx hb dL_law_22 rfl (lv_at hl 2 rfl) ?_
          refine lv_iload_n hx hb dL_law_23 rfl (lv_at hl 0 rfl) ?_
          refine e_ci (w2 := fun (z : CV × PS × YS) => pW G a sa z.1 z.2.1 z.2.2) hD hS hA (e_S (n := 2) (As := [.ref (a 0), .int r_18]) (rest := []) hx hb hml hown hts hK hP hD hl (c_L_does l G a sa C1 P1 y1 r_18 H.size hc1 hp1) gL_law_L_does rfl rfl rfl (by decide +kernel) rfl ⟨Nat.le_of_ble_eq_true rfl, Nat.le_of_ble_eq_true rfl⟩ rfl (Nat.le_of_ble_eq_true rfl) dL_law_24 ⟨Nat.le_of_ble_eq_true rfl, Nat.le_of_ble_eq_true rfl⟩) (fun r_24 y_24 H locs hw hP hD hS => ?_)
          obtain ⟨C_24, P_24, y_24⟩ := y_24
          have hP : va_P G.1 vwCl (pW G a sa C_24 P_24 y_24) H := hP
          have hD : va_D A (pW G a sa C_24 P_24 y_24) := hD
          obtain ⟨hg_24, hc_24, hp_24⟩ : 0 ≤ r_24 ∧ okC C_24 ∧ okQ P_24 := hw
          have hn1 := hc_24.1
          have hn := hc_24.2.1
          refine lv_istore (lv' := [(4, .int r_24), (3, .int r_18), (0, .ref sb), (1, .ref (a 0)), (2, .int (nI ee))]) hx hb dL_law_27 hl (by decide) rfl (fun ls hl => ?_)
          refine lv_aload_n hx hb dL_law_29 rfl (lv_at hl 3 rfl) ?_
          refine lv_iconst (v := 0) hx hb dL_law_30 (by decide) ?_
          refine e_ci (w2 := fun (z : YS) => pW G a sa C_24 P_24 z) hD hS hA (e_V (n := 1) (ci := 5) (q0 := 0) (As := [.int 0]) (rest := []) hx hb hml hown hts hK hP hD hl (p_count l G a sa C_24 P_24 y_24 0 H.size hc_24 hp_24 (by first | assumption | omega | decide)) gL_law_X5_count rfl rfl rfl (by decide +kernel) rfl ⟨Nat.le_of_ble_eq_true rfl, Nat.le_of_ble_eq_true rfl⟩ rfl rfl rfl (Nat.le_of_ble_eq_true rfl) dL_law_31 ⟨Nat.le_of_ble_eq_true rfl, Nat.le_of_ble_eq_true rfl⟩) (fun r_31 y_31 H locs hw hP hD hS => ?_)
          have hP : va_P G.1 vwCl (pW G a sa C_24 P_24 y_31) H := hP
          have hD : va_D A (pW G a sa C_24 P_24 y_31) := hD
          have hw_31 : r_31 = CT C_24 P_24.2.2 0 := hw
          subst hw_31
          refine g_ti (y := nI C_24.1) (rfl) ?_
          refine lv_istore (lv' := [(5, .int (nI C_24.1)), (4, .int r_24), (3, .int r_18), (0, .ref sb), (1, .ref (a 0)), (2, .int (nI ee))]) hx hb dL_law_34 hl (by decide) rfl (fun ls hl => ?_)
          refine lv_iload hx hb dL_law_36 (lv_at hl 1 rfl) ?_
          refine lv_if_lt (tgt := 142) hx hb dL_law_38 (by decide) (fun c_38 => ?_) (fun c_38 => ?_)
          · exact absurd c_38 (Int32.not_lt.mpr hg_24)
          · skip
            refine lv_aload_n hx hb dL_law_41 rfl (lv_at hl 4 rfl) ?_
            refine e_ci (w2 := fun (z : YS) => pW G a sa C_24 P_24 z) hD hS hA (e_S (n := 1) (As := [.ref (a 0)]) (rest := []) hx hb hml hown hts hK hP hD hl (c_L_areJointsSo l G a sa C_24 P_24 y_31 H.size hc_24 hp_24) gL_law_L_areJointsSo rfl rfl rfl (by decide +kernel) rfl ⟨Nat.le_of_ble_eq_true rfl, Nat.le_of_ble_eq_true rfl⟩ rfl (Nat.le_of_ble_eq_true rfl) dL_law_42 ⟨Nat.le_of_ble_eq_true rfl, Nat.le_of_ble_eq_true rfl⟩) (fun r_42 y_42 H locs hw hP hD hS => ?_)
            obtain ⟨y_42, e9⟩ : ∃ z, z = y_42 := ⟨_, rfl⟩; subst e9
            have hP : va_P G.1 vwCl (pW G a sa C_24 P_24 y_42) H := hP
            have hD : va_D A (pW G a sa C_24 P_24 y_42) := hD
            have e9 : r_42 = 1 := hw
            subst e9
            refine g_if_eq (a := 1) (tgt := 142) hx hb (by omega) dL_law_45 (by decide) (fun c_45 => ?_) (fun c_45 => ?_)
            · exact absurd c_45 (by decide)
            · skip
              refine lv_aload_n hx hb dL_law_48 rfl (lv_at hl 4 rfl) ?_
              refine e_ci (w2 := fun (z : YS) => pW G a sa C_24 P_24 z) hD hS hA (e_S (n := 1) (As := [.ref (a 0)]) (rest := []) hx hb hml hown hts hK hP hD hl (c_L_areLinksSo l G a sa C_24 P_24 y_42 H.size hc_24 hp_24) gL_law_L_areLinksSo rfl rfl rfl (by decide +kernel) rfl ⟨Nat.le_of_ble_eq_true rfl, Nat.le_of_ble_eq_true rfl⟩ rfl (Nat.le_of_ble_eq_true rfl) dL_law_49 ⟨Nat.le_of_ble_eq_true rfl, Nat.le_of_ble_eq_true rfl⟩) (fun r_49 y_49 H locs hw hP hD hS => ?_)
              obtain ⟨y_49, e9⟩ : ∃ z, z = y_49 := ⟨_, rfl⟩; subst e9
              have hP : va_P G.1 vwCl (pW G a sa C_24 P_24 y_49) H := hP
              have hD : va_D A (pW G a sa C_24 P_24 y_49) := hD
              have e9 : r_49 = 1 := hw
              subst e9
              refine g_if_eq (a := 1) (tgt := 142) hx hb (by omega) dL_law_52 (by decide) (fun c_52 => ?_) (fun c_52 => ?_)
              · exact absurd c_52 (by decide)
              · skip
                have L99 : ∀ (P2 : PS) (y2 : YS), (okQ P2) → ∀ (H : Heap) (locs : List Loc) (ls : Array Slot), va_P G.1 vwCl (pW G a sa C_24 P2 y2) H → va_D A (pW G a sa C_24 P2 y2) → va_S A s.heap H locs → lv_has ls 6 [(5, .int (nI C_24.1)), (4, .int r_24), (3, .int r_18), (0, .ref sb), (1, .ref (a 0)), (2, .int (nI ee))] → W p l e room_1 s m args below meth c H locs 111 1048 Q (F0 m 99 ls []) := by
                  intro P2 y2 hp2 H locs ls hP hD hS hl
                  have L144 : ∀ (P3 : PS) (y3 : YS), (okQ P3) → ∀ (H : Heap) (locs : List Loc) (ls : Array Slot), va_P G.1 vwCl (pW G a sa C_24 P3 y3) H → va_D A (pW G a sa C_24 P3 y3) → va_S A s.heap H locs → lv_has ls 6 [(5, .int (nI C_24.1)), (4, .int r_24), (3, .int r_18), (0, .ref sb), (1, .ref (a 0)), (2, .int (nI ee))] → W p l e room_1 s m args below meth c H locs 111 1048 Q (F0 m 144 ls []) := by
                    intro P3 y3 hp3 H locs ls hP hD hS hl
                    refine lv_iinc (v := nI (ee + 1)) (lv' := [(2, .int (nI (ee + 1))), (5, .int (nI C_24.1)), (4, .int r_24), (3, .int r_18), (0, .ref sb), (1, .ref (a 0))]) hx hb dL_law_144 hl (k := 5) rfl (nI_add (ee) 1) (by decide) rfl (fun ls hl => ?_)
                    refine lv_goto (tgt := 10) hx hb dL_law_147 (by decide) ?_
                    exact ih10 (ee + 1) C_24 P3 y3 (by first | assumption | omega) (hc_24) (hp3) (by omega) _ _ _ hP hD hS (lv_sub hl [4, 5, 0] rfl)
                  refine lv_iload_n hx hb dL_law_99 rfl (lv_at hl 5 rfl) ?_
                  refine lv_iconst (v := 5) hx hb dL_law_100 (by decide) ?_
                  refine lv_irem hx hb dL_law_101 (by decide) ?_
                  refine g_ti (y := nI (ee % 5)) (pk_rem (a := ee) (d := 5) (by omega) (by omega) (by omega)) ?_
                  refine lv_iconst (v := 2) hx hb dL_law_102 (by decide) ?_
                  refine g_icmp_ne (a := ee % 5) (b := 2) (tgt := 144) hx hb (by omega) (by omega) dL_law_103 (by decide) (fun c_103 => ?_) (fun c_103 => ?_)
                  · skip
                    exact L144 P2 y2 (hp2) _ _ _ hP hD hS (lv_sub hl [0, 1, 2, 3, 4, 5] rfl)
                  · skip
                    refine lv_aload_n hx hb dL_law_106 rfl (lv_at hl 4 rfl) ?_
                    refine lv_iload_n hx hb dL_law_107 rfl (lv_at hl 2 rfl) ?_
                    refine lv_bipush (v := 6) hx hb dL_law_108 (by decide) ?_
                    refine lv_ishr hx hb dL_law_110 ?_
                    refine lv_iload hx hb dL_law_111 (lv_at hl 0 rfl) ?_
                    refine e_ci (w2 := fun (z : YS) => pW G a sa C_24 P2 z) hD hS hA (e_S (n := 2) (As := [.int (r_18 >>> (6 &&& 31)), .int (nI C_24.1)]) (rest := [.ref (a 0)]) hx hb hml hown hts hK hP hD hl (p_low l G a sa C_24 P2 y2 (r_18 >>> (6 &&& 31)) C_24.1 H.size hc_24 hp2 (by first | assumption | omega | decide) (by first | assumption | omega | decide)) gL_law_L_low rfl rfl rfl (by decide +kernel) rfl ⟨Nat.le_of_ble_eq_true rfl, Nat.le_of_ble_eq_true rfl⟩ rfl (Nat.le_of_ble_eq_true rfl) dL_law_113 ⟨Nat.le_of_ble_eq_true rfl, Nat.le_of_ble_eq_true rfl⟩) (fun r_113 y_113 H locs hw hP hD hS => ?_)
                    obtain ⟨y_113, e9⟩ : ∃ z, z = y_113 := ⟨_, rfl⟩; subst e9
                    have hP : va_P G.1 vwCl (pW G a sa C_24 P2 y_113) H := hP
                    have hD : va_D A (pW G a sa C_24 P2 y_113) := hD
                    obtain ⟨q_113, hq_113, e9⟩ := hw
                    subst e9
                    refine lv_iload_n hx hb dL_law_116 rfl (lv_at hl 2 rfl) ?_
                    refine lv_bipush (v := 9) hx hb dL_law_117 (by decide) ?_
                    refine lv_ishr hx hb dL_law_119 ?_
                    refine lv_bipush (v := 50) hx hb dL_law_120 (by decide) ?_
                    refine e_ci (w2 := fun (z : YS) => pW G a sa C_24 P2 z) hD hS hA (e_S (n := 2) (As := [.int (r_18 >>> (9 &&& 31)), .int 50]) (rest := [.int (nI q_113), .ref (a 0)]) hx hb hml hown hts hK hP hD hl (p_low l G a sa C_24 P2 y_113 (r_18 >>> (9 &&& 31)) 50 H.size hc_24 hp2 (by first | assumption | omega | decide) (by first | assumption | omega | decide)) gL_law_L_low rfl rfl rfl (by decide +kernel) rfl ⟨Nat.le_of_ble_eq_true rfl, Nat.le_of_ble_eq_true rfl⟩ rfl (Nat.le_of_ble_eq_true rfl) dL_law_122 ⟨Nat.le_of_ble_eq_true rfl, Nat.le_of_ble_eq_true rfl⟩) (fun r_122 y_122 H locs hw hP hD hS => ?_)
                    obtain ⟨y_122, e9⟩ : ∃ z, z = y_122 := ⟨_, rfl⟩; subst e9
                    have hP : va_P G.1 vwCl (pW G a sa C_24 P2 y_122) H := hP
                    have hD : va_D A (pW G a sa C_24 P2 y_122) := hD
                    obtain ⟨q_122, hq_122, e9⟩ := hw
                    subst e9
                    refine lv_iload_n hx hb dL_law_125 rfl (lv_at hl 2 rfl) ?_
                    refine lv_bipush (v := 7) hx hb dL_law_126 (by decide) ?_
                    refine lv_ishr hx hb dL_law_128 ?_
                    refine lv_iload hx hb dL_law_129 (lv_at hl 0 rfl) ?_
                    refine lv_iconst (v := 1) hx hb dL_law_131 (by decide) ?_
                    refine lv_iadd hx hb dL_law_132 ?_
                    refine g_ti (y := nI (C_24.1 + 1)) (nI_add (C_24.1) (1)) ?_
                    refine e_ci (w2 := fun (z : YS) => pW G a sa C_24 P2 z) hD hS hA (e_S (n := 2) (As := [.int (r_18 >>> (7 &&& 31)), .int (nI (C_24.1 + 1))]) (rest := [.int (nI q_122), .int (nI q_113), .ref (a 0)]) hx hb hml hown hts hK hP hD hl (p_low l G a sa C_24 P2 y_122 (r_18 >>> (7 &&& 31)) (C_24.1 + 1) H.size hc_24 hp2 (by first | assumption | omega | decide) (by first | assumption | omega | decide)) gL_law_L_low rfl rfl rfl (by decide +kernel) rfl ⟨Nat.le_of_ble_eq_true rfl, Nat.le_of_ble_eq_true rfl⟩ rfl (Nat.le_of_ble_eq_true rfl) dL_law_133 ⟨Nat.le_of_ble_eq_true rfl, Nat.le_of_ble_eq_true rfl⟩) (fun r_133 y_133 H locs hw hP hD hS => ?_)
                    obtain ⟨y_133, e9⟩ : ∃ z, z = y_133 := ⟨_, rfl⟩; subst e9
                    have hP : va_P G.1 vwCl (pW G a sa C_24 P2 y_133) H := hP
                    have hD : va_D A (pW G a sa C_24 P2 y_133) := hD
                    obtain ⟨q_133, hq_133, e9⟩ := hw
                    subst e9
                    refine e_ci (w2 := fun (z : PS × YS) => pW G a sa C_24 z.1 z.2) hD hS hA (e_S (n := 4) (As := [.ref (a 0), .int (nI q_113), .int (nI q_122), .int (nI q_133)]) (rest := []) hx hb hml hown hts hK hP hD hl (c_L_isBestSo l G a sa C_24 P2 y_133 q_113 q_122 q_133 H.size hc_24 hp2 (hq_113) (hq_122) (Nat.le_of_lt_succ hq_133)) gL_law_L_isBestSo rfl rfl rfl (by decide +kernel) rfl ⟨Nat.le_of_ble_eq_true rfl, Nat.le_of_ble_eq_true rfl⟩ rfl (Nat.le_of_ble_eq_true rfl) dL_law_136 ⟨Nat.le_of_ble_eq_true rfl, Nat.le_of_ble_eq_true rfl⟩) (fun r_136 y_136 H locs hw hP hD hS => ?_)
                    obtain ⟨P_136, y_136⟩ := y_136
                    have hP : va_P G.1 vwCl (pW G a sa C_24 P_136 y_136) H := hP
                    have hD : va_D A (pW G a sa C_24 P_136 y_136) := hD
                    obtain ⟨e9, hp_136⟩ : r_136 = 1 ∧ okQ P_136 := hw
                    subst e9
                    refine g_if_ne (a := 1) (tgt := 144) hx hb (by omega) dL_law_139 (by decide) (fun c_139 => ?_) (fun c_139 => ?_)
                    · skip
                      exact L144 P_136 y_136 (hp_136) _ _ _ hP hD hS (lv_sub hl [0, 1, 2, 3, 4, 5] rfl)
                    · exact absurd c_139 (by decide)
                refine lv_iload_n hx hb dL_law_55 rfl (lv_at hl 5 rfl) ?_
                refine lv_iconst (v := 3) hx hb dL_law_56 (by decide) ?_
                refine lv_irem hx hb dL_law_57 (by decide) ?_
                refine g_ti (y := nI (ee % 3)) (pk_rem (a := ee) (d := 3) (by omega) (by omega) (by omega)) ?_
                refine lv_iconst (v := 1) hx hb dL_law_58 (by decide) ?_
                refine g_icmp_ne (a := ee % 3) (b := 1) (tgt := 99) hx hb (by omega) (by omega) dL_law_59 (by decide) (fun c_59 => ?_) (fun c_59 => ?_)
                · skip
                  exact L99 P_24 y_49 (hp_24) _ _ _ hP hD hS (lv_sub hl [0, 1, 2, 3, 4, 5] rfl)
                · skip
                  refine lv_aload_n hx hb dL_law_62 rfl (lv_at hl 4 rfl) ?_
                  refine lv_iload_n hx hb dL_law_63 rfl (lv_at hl 2 rfl) ?_
                  refine lv_iconst (v := 5) hx hb dL_law_64 (by decide) ?_
                  refine lv_ishr hx hb dL_law_65 ?_
                  refine lv_iload hx hb dL_law_66 (lv_at hl 0 rfl) ?_
                  refine lv_iconst (v := 1) hx hb dL_law_68 (by decide) ?_
                  refine lv_iadd hx hb dL_law_69 ?_
                  refine g_ti (y := nI (C_24.1 + 1)) (nI_add (C_24.1) (1)) ?_
                  refine e_ci (w2 := fun (z : YS) => pW G a sa C_24 P_24 z) hD hS hA (e_S (n := 2) (As := [.int (r_18 >>> (5 &&& 31)), .int (nI (C_24.1 + 1))]) (rest := [.ref (a 0)]) hx hb hml hown hts hK hP hD hl (p_low l G a sa C_24 P_24 y_49 (r_18 >>> (5 &&& 31)) (C_24.1 + 1) H.size hc_24 hp_24 (by first | assumption | omega | decide) (by first | assumption | omega | decide)) gL_law_L_low rfl rfl rfl (by decide +kernel) rfl ⟨Nat.le_of_ble_eq_true rfl, Nat.le_of_ble_eq_true rfl⟩ rfl (Nat.le_of_ble_eq_true rfl) dL_law_70 ⟨Nat.le_of_ble_eq_true rfl, Nat.le_of_ble_eq_true rfl⟩) (fun r_70 y_70 H locs hw hP hD hS => ?_)
                  obtain ⟨y_70, e9⟩ : ∃ z, z = y_70 := ⟨_, rfl⟩; subst e9
                  have hP : va_P G.1 vwCl (pW G a sa C_24 P_24 y_70) H := hP
                  have hD : va_D A (pW G a sa C_24 P_24 y_70) := hD
                  obtain ⟨q_70, hq_70, e9⟩ := hw
                  subst e9
                  refine lv_iload_n hx hb dL_law_73 rfl (lv_at hl 2 rfl) ?_
                  refine lv_bipush (v := 10) hx hb dL_law_74 (by decide) ?_
                  refine lv_ishr hx hb dL_law_76 ?_
                  refine lv_bipush (v := 100) hx hb dL_law_77 (by decide) ?_
                  refine e_ci (w2 := fun (z : YS) => pW G a sa C_24 P_24 z) hD hS hA (e_S (n := 2) (As := [.int (r_18 >>> (10 &&& 31)), .int 100]) (rest := [.int (nI q_70), .ref (a 0)]) hx hb hml hown hts hK hP hD hl (p_low l G a sa C_24 P_24 y_70 (r_18 >>> (10 &&& 31)) 100 H.size hc_24 hp_24 (by first | assumption | omega | decide) (by first | assumption | omega | decide)) gL_law_L_low rfl rfl rfl (by decide +kernel) rfl ⟨Nat.le_of_ble_eq_true rfl, Nat.le_of_ble_eq_true rfl⟩ rfl (Nat.le_of_ble_eq_true rfl) dL_law_79 ⟨Nat.le_of_ble_eq_true rfl, Nat.le_of_ble_eq_true rfl⟩) (fun r_79 y_79 H locs hw hP hD hS => ?_)
                  obtain ⟨y_79, e9⟩ : ∃ z, z = y_79 := ⟨_, rfl⟩; subst e9
                  have hP : va_P G.1 vwCl (pW G a sa C_24 P_24 y_79) H := hP
                  have hD : va_D A (pW G a sa C_24 P_24 y_79) := hD
                  obtain ⟨q_79, hq_79, e9⟩ := hw
                  subst e9
                  refine lv_iload_n hx hb dL_law_82 rfl (lv_at hl 2 rfl) ?_
                  refine lv_bipush (v := 8) hx hb dL_law_83 (by decide) ?_
                  refine lv_ishr hx hb dL_law_85 ?_
                  refine lv_iload hx hb dL_law_86 (lv_at hl 0 rfl) ?_
                  refine lv_iconst (v := 1) hx hb dL_law_88 (by decide) ?_
                  refine lv_iadd hx hb dL_law_89 ?_
                  refine g_ti (y := nI (C_24.1 + 1)) (nI_add (C_24.1) (1)) ?_
                  refine e_ci (w2 := fun (z : YS) => pW G a sa C_24 P_24 z) hD hS hA (e_S (n := 2) (As := [.int (r_18 >>> (8 &&& 31)), .int (nI (C_24.1 + 1))]) (rest := [.int (nI q_79), .int (nI q_70), .ref (a 0)]) hx hb hml hown hts hK hP hD hl (p_low l G a sa C_24 P_24 y_79 (r_18 >>> (8 &&& 31)) (C_24.1 + 1) H.size hc_24 hp_24 (by first | assumption | omega | decide) (by first | assumption | omega | decide)) gL_law_L_low rfl rfl rfl (by decide +kernel) rfl ⟨Nat.le_of_ble_eq_true rfl, Nat.le_of_ble_eq_true rfl⟩ rfl (Nat.le_of_ble_eq_true rfl) dL_law_90 ⟨Nat.le_of_ble_eq_true rfl, Nat.le_of_ble_eq_true rfl⟩) (fun r_90 y_90 H locs hw hP hD hS => ?_)
                  obtain ⟨y_90, e9⟩ : ∃ z, z = y_90 := ⟨_, rfl⟩; subst e9
                  have hP : va_P G.1 vwCl (pW G a sa C_24 P_24 y_90) H := hP
                  have hD : va_D A (pW G a sa C_24 P_24 y_90) := hD
                  obtain ⟨q_90, hq_90, e9⟩ := hw
                  subst e9
                  refine e_ci (w2 := fun (z : PS × YS) => pW G a sa C_24 z.1 z.2) hD hS hA (e_S (n := 4) (As := [.ref (a 0), .int (nI q_70), .int (nI q_79), .int (nI q_90)]) (rest := []) hx hb hml hown hts hK hP hD hl (c_L_areIfsSo l G a sa C_24 P_24 y_90 q_70 q_79 q_90 H.size hc_24 hp_24 (Nat.le_of_lt_succ hq_70) (hq_79) (Nat.le_of_lt_succ hq_90)) gL_law_L_areIfsSo rfl rfl rfl (by decide +kernel) rfl ⟨Nat.le_of_ble_eq_true rfl, Nat.le_of_ble_eq_true rfl⟩ rfl (Nat.le_of_ble_eq_true rfl) dL_law_93 ⟨Nat.le_of_ble_eq_true rfl, Nat.le_of_ble_eq_true rfl⟩) (fun r_93 y_93 H locs hw hP hD hS => ?_)
                  obtain ⟨P_93, y_93⟩ := y_93
                  have hP : va_P G.1 vwCl (pW G a sa C_24 P_93 y_93) H := hP
                  have hD : va_D A (pW G a sa C_24 P_93 y_93) := hD
                  obtain ⟨e9, hp_93⟩ : r_93 = 1 ∧ okQ P_93 := hw
                  subst e9
                  refine g_if_eq (a := 1) (tgt := 142) hx hb (by omega) dL_law_96 (by decide) (fun c_96 => ?_) (fun c_96 => ?_)
                  · exact absurd c_96 (by decide)
                  · skip
                    exact L99 P_93 y_93 (hp_93) _ _ _ hP hD hS (lv_sub hl [0, 1, 2, 3, 4, 5] rfl)
    exact L10 (58 - 0 + 1) 0 C0 P0 y0 (by first | assumption | omega) (hc) (hp) (Nat.lt_succ_self _) _ _ _ hP hD hS (lv_sub hl [0, 1, 2] rfl)
def lwA (s : State) : Nat → Prop := fun q => s.heap.size ≤ q
set_option maxHeartbeats 4000000 in
set_option maxRecDepth 100000 in
theorem law_known {s : State} {args : Array Value} (hts : ∀ w ∈ lw_tbl, w.before args s = true) : ∃ G : kG, va_K G.1 vwCl (kT G) s := by
  obtain ⟨c0, i0, h0⟩ := u_known (C := RX0) (T := TX0) (N := 9) (n := 9) hts inX0 (hts (.instantiable RX0 9) (by decide +kernel))
  obtain ⟨c1, i1, h1⟩ := u_known (C := RX1) (T := TX1) (N := 6) (n := 6) hts inX1 (hts (.instantiable RX1 6) (by decide +kernel))
  obtain ⟨c2, i2, h2⟩ := u_known (C := RX2) (T := TX2) (N := 3) (n := 3) hts inX2 (hts (.instantiable RX2 3) (by decide +kernel))
  obtain ⟨c3, i3, h3⟩ := u_known (C := RX3) (T := TX3) (N := 1) (n := 1) hts inX3 (hts (.instantiable RX3 1) (by decide +kernel))
  obtain ⟨c4, i4, h4⟩ := u_known (C := RX4) (T := TX4) (N := 4) (n := 4) hts inX4 (hts (.instantiable RX4 4) (by decide +kernel))
  obtain ⟨c5, i5, h5⟩ := u_known (C := RX5) (T := TX5) (N := 7) (n := 7) hts inX5 (hts (.instantiable RX5 7) (by decide +kernel))
  obtain ⟨cI, kI, pI, q1, q2, q3⟩ := Cond.arrayClass_spec (hts (.arrayClass .int) (by decide +kernel))
  obtain ⟨comp, cQ, kQ, r1, -, r2, r3, r4⟩ := Cond.arrayOver_spec (hts (.arrayOver (.object "HangingChain$Chain")) (by decide +kernel))
  refine ⟨((fun k => match k with | 0 => c0 | 1 => c1 | 2 => c2 | 3 => c3 | 4 => c4 | _ => c5, fun k => match k with | 0 => i0 | 1 => i1 | 2 => i2 | 3 => i3 | 4 => i4 | _ => i5), (cI, cQ, cI)), fun k q hq => ?_, fun k q hq => ?_⟩
  · have hk : k < 6 := (List.getElem?_eq_some_iff.mp hq).1
    rcases (show k = 0 ∨ k = 1 ∨ k = 2 ∨ k = 3 ∨ k = 4 ∨ k = 5 by omega) with e | e | e | e | e | e <;> subst e
    · obtain rfl : ((RX0, TX0, 9) : vw_C) = q := Option.some.inj hq
      exact h0
    · obtain rfl : ((RX1, TX1, 6) : vw_C) = q := Option.some.inj hq
      exact h1
    · obtain rfl : ((RX2, TX2, 3) : vw_C) = q := Option.some.inj hq
      exact h2
    · obtain rfl : ((RX3, TX3, 1) : vw_C) = q := Option.some.inj hq
      exact h3
    · obtain rfl : ((RX4, TX4, 4) : vw_C) = q := Option.some.inj hq
      exact h4
    · obtain rfl : ((RX5, TX5, 7) : vw_C) = q := Option.some.inj hq
      exact h5
  · have hk : k < 2 := (List.getElem?_eq_some_iff.mp hq).1
    rcases (show k = 0 ∨ k = 1 by omega) with e | e <;> subst e
    · obtain rfl : ((cI, .int) : ClassId × FieldType) = q := Option.some.inj hq
      exact ⟨fun n z => ⟨(fun k h => by cases h), kI, q2, pI, q3⟩, q1⟩
    · obtain rfl : ((cQ, .object "HangingChain$Chain") : ClassId × FieldType) = q := Option.some.inj hq
      exact ⟨fun n z => ⟨(fun k h => by cases h), kQ, r2, comp, r3⟩, kQ, comp, r2, r3, r1, r4⟩
set_option maxHeartbeats 4000000 in
set_option maxRecDepth 100000 in
theorem law_kOb {s : State} {args : Array Value} (hts : ∀ w ∈ lw_tbl, w.before args s = true) : kOb s := by
  refine ⟨va_AO.of (hts (.arrayOver (.object "HangingChain$Chain")) (by decide +kernel)), fun w hw => ?_⟩
  simp only [kNb, List.mem_cons, List.not_mem_nil, or_false] at hw
  rcases hw with rfl | rfl
  · exact va_Nw.of (by decide +kernel) (hts (.methodLinkNest RX5 21 yX0_init RX5) (by decide +kernel))
  · exact va_Nw.of (by decide +kernel) (hts (.methodLinkNest RX5 44 yX4_init RX5) (by decide +kernel))
/-- the object's beginning -/
def lwC0 : CV := (1, (fun _ => 0), (fun _ => 0), (fun _ => 0), (fun _ => 0), set0)
def lwP0 : PS := (svI, 0, 0)
def lwY0 : YS := ((1, (fun _ => 0), (fun _ => 0), (fun _ => 0), (fun _ => 0), set0), ((fun _ => 0), (fun _ => 0), (fun _ => 0), (fun _ => 0), (fun _ => 0), (fun _ => 0), 0, 0, 0), (0, (fun _ => 0)), (0, 0, (fun _ => 0), (fun _ => 0)))
theorem lw_ok : okC lwC0 := ⟨Nat.le_refl 1, Nat.le_of_ble_eq_true rfl, ⟨fun _ _ => ⟨show (-2 : Int32) ≤ 0 by decide, show (0 : Int32) ≤ 2 by decide⟩, fun _ _ => ⟨r99_0, r99_0, r99_0⟩, by decide, by decide, by decide, by decide, by decide, by decide⟩, by decide, by decide⟩
theorem lw_okP : okQ lwP0 := ⟨Nat.le_of_ble_eq_true rfl, Nat.le_of_ble_eq_true rfl⟩
set_option maxHeartbeats 4000000 in
set_option maxRecDepth 100000 in
theorem law_start {p : Program} {e : Env} {s : State} {m : MethodId} {below : List Frame} {meth : Method} {c : Code} (l : Launch) (hflags : l.flags = flags0) {sb L : Nat} {xs : Nat → Int32} {Q : State → Prop} (hL : L ≤ 260)
    (hx : p.tables.exec = Jvm.exec) (hb : c.code = cL_law) (hml : c.maxLocals = 6) (hown : s.vm.findClass RL = some m.cls) (hts0 : ∀ w ∈ lw_tbl, w.before #[Value.ref sb] s = true) (hX : va_X sb L xs s s.heap) (hbl : sb < s.heap.size) (hgv : (Jvm.Cond.and given_1 narrow_1).before #[Value.ref sb] s = true)
    (hend : ∀ (H : Heap) (ls : Array Slot), W p l e room_1 s m #[Value.ref sb] below meth c H [] 600172 7300668 Q (F0 m 151 ls [.int 1])) :
    W p l e room_1 s m #[Value.ref sb] below meth c s.heap [] 0 0 Q (entryFrame m ([Value.ref sb] : List Value).toArray 6) := by
  obtain ⟨G, hK⟩ := law_known hts0
  have hO := law_kOb hts0
  have hA : ∀ q, s.heap.size ≤ q → lwA s q := fun _ h => h
  have hbA : ¬ lwA s sb := Nat.not_le.mpr hbl
  have hS : va_S (lwA s) s.heap s.heap [] := va_S.rf
  have hP : va_P G.1 vwCl [] s.heap := ce_P
  have hD : va_D (lwA s) [] := ce_D
  have hts : ∀ w ∈ wsL_law, w.before #[Value.ref sb] s = true := fun w h => hts0 w (wsL_law_in w h)
  have hl : lv_has _ 6 [(0, .ref sb)] := lv_entry [Value.ref sb] (n := 6) (Nat.le_of_ble_eq_true rfl)
  rw [lg_entry_eq]
  refine va_new (ci := 5) (fs := [.null, .null, .null, .null, .null, .null, .int 0]) (C := RX5) (T := TX5) (N := 7) hx hb hts0 inX5 tyX5 tyX5_ok hown (hts0 (.classLink RL 9 RX5) (by decide +kernel)) (hts0 (.instantiable RX5 7) (by decide +kernel)) (hts0 (.initialized RX5) (by decide +kernel)) hK hP hD hS hA rfl (fun j hj => by rcases (show j = 0 ∨ j = 1 ∨ j = 2 ∨ j = 3 ∨ j = 4 ∨ j = 5 ∨ j = 6 by omega) with rfl | rfl | rfl | rfl | rfl | rfl | rfl <;> rfl) (Nat.le_of_ble_eq_true rfl) (Nat.le_of_ble_eq_true rfl) dL_law_0 (fun x0 H hP hD hS => ?_)
  refine lv_dup hx hb dL_law_3 rfl ?_
  refine k_cv (wr := []) [] rfl (by decide) [0] rfl (by decide) hP hD hS hA (o_I (n := 0) (As := []) (rest := [.ref x0]) (wc := [(x0, .inr (5, [.null, .null, .null, .null, .null, .null, .int 0]))]) hx hb hml hown hts hO hK hP hD hl (c_X5_init l G x0 H.size) [0] rfl (by decide) gL_law_X5_init rfl rfl rfl (hts0 (.initialized RX5) (by decide +kernel)) (hts0 (.methodLink RL 79 yX5_init) (by decide +kernel)) (hts0 (.instanceMethod yX5_init) (by decide +kernel)) rfl (by decide +kernel) rfl ⟨Nat.le_of_ble_eq_true rfl, Nat.le_of_ble_eq_true rfl⟩ rfl (Nat.le_of_ble_eq_true rfl) dL_law_4 ⟨Nat.le_of_ble_eq_true rfl, Nat.le_of_ble_eq_true rfl⟩) (fun z H1 locs1 hw hP1 hD1 hS1 => ?_)
  obtain ⟨a, sa⟩ := z
  have hw : a 0 = x0 := hw
  subst hw
  have hP : va_P G.1 vwCl (pW G a sa lwC0 lwP0 lwY0) H1 := hP1
  have hD : va_D (lwA s) (pW G a sa lwC0 lwP0 lwY0) := hD1
  have hS : va_S (lwA s) s.heap H1 locs1 := hS1
  refine lv_astore_n (lv' := [(1, .ref (a 0)), (0, .ref sb)]) hx hb dL_law_7 rfl hl (by decide) rfl (fun ls hl => ?_)
  refine lv_iconst (v := 0) hx hb dL_law_8 (by decide) ?_
  refine lv_istore_n (lv' := [(2, .int 0), (1, .ref (a 0)), (0, .ref sb)]) hx hb dL_law_9 rfl hl (by decide) rfl (fun ls hl => ?_)
  refine W.widen (k := 111) (n := 1048) (Nat.le_of_ble_eq_true rfl) (Nat.le_of_ble_eq_true rfl) ?_
  refine law_loop (xs := xs) hx hb hml hown hts hK hA hX hbl hbA hL (fun H locs ls hS => ?_) lw_ok lw_okP H1 locs1 ls hP hD hS (lv_sub hl [2, 1, 0] rfl)
  refine lv_iconst (v := 1) hx hb dL_law_150 (by decide) ?_
  refine va_forget (fun q hq => hS.2.2 q hq) ?_
  refine W.widen (k := 600172) (n := 7300668) (Nat.le_of_ble_eq_true rfl) (Nat.le_of_ble_eq_true rfl) ?_
  exact hend H ls
