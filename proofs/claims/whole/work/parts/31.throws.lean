/-! # HangingChain (X5): the calls that throw. Laid by wip/whole/gen.py, s31_throws.py. -/
theorem isN_no {k : Int32} {n : Nat} (h : isN k n = false) (hn : n < 2 ^ 30) (c1 : ¬ k < 0) (c2 : k < nI n) : False := by
  have h1 := of_decide_eq_false h
  have e1 := Int32.le_iff_toInt_le.mp (i32_le c1)
  have e2 := Int32.lt_iff_toInt_lt.mp c2
  rw [nI_toInt (by omega)] at e2
  exact h1 ⟨e1, e2⟩
theorem isN_noJ {k : Int32} {n : Nat} (h : isN k (n + 1) = false) (hn : n < 2 ^ 30) (c1 : ¬ k < 0) (c2 : k ≤ nI n) : False := by
  have h1 := of_decide_eq_false h
  have e1 := Int32.le_iff_toInt_le.mp (i32_le c1)
  have e2 := Int32.le_iff_toInt_le.mp c2
  rw [nI_toInt (by omega)] at e2
  refine h1 ⟨e1, ?_⟩
  omega
theorem rdK_e {tx : Fn} {ln k : Nat} (h : rdK tx ln k) (c : ln ≤ k) : k = ln := by
  have h1 := h.1
  omega
theorem rdK_g {tx : Fn} {ln k z l9 : Nat} {a b : Fn} (hG : ¬ pG tx ln) (h : rdK tx ln k ∧ rdS tx k = (z, l9, a, b)) (e : k = ln) (c : ¬ (if cmpl z then (1 : Int32) else 0) = 0) : False := by
  subst e
  refine hG ⟨h.1, ?_⟩
  rw [h.2]
  by_cases q : cmpl z
  · exact q
  · rw [if_neg q] at c
    exact absurd rfl c
theorem o2_IA : ∀ w ∈ Cond.classLink RX5 121 kIA :: Cond.initialized kIA :: vx_atS RX5 125 kIA kRE, vx_ot w = true := by decide +kernel
theorem o2_IS : ∀ w ∈ Cond.classLink RX5 59 kIS :: Cond.initialized kIS :: vx_atS RX5 63 kIS kRE, vx_ot w = true := by decide +kernel
theorem o2_IO : ∀ w ∈ Cond.classLink RX5 284 kIO :: Cond.initialized kIO :: vx_atS RX5 288 kIO kRE, vx_ot w = true := by decide +kernel
set_option maxHeartbeats 4000000 in
set_option maxRecDepth 100000 in
theorem c_X5_requireLink_t (l : Launch) (G : kG) (x0 : Nat) (c0 : Nat) (t0 : Nat) (b0 : Nat) (po : Nat) (kr : Nat) (r0 : Nat) (ln : Nat) (crs : Nat) (crw : Nat) (crh : Nat) (crp : Nat) (crz : Nat) (n : Nat) (k : Int32) (sz : Nat) (hfl : l.stackTraces = false) (hn : n ≤ 20) (h1 : isN k n = false) : xMet l yX5_requireLink wsX5_requireLink ({ frames := 6, cells := 1, slots := 6, locals := 82 } : Room) G [.ref x0, .int k] [(x0, .inr (5, [.ref c0, .ref t0, .ref b0, .ref po, .ref kr, .ref r0, .int (nI (ln))])), (c0, .inr (1, [.ref crs, .ref crw, .ref crh, .ref crp, .ref crz, .int (nI (n))]))] sz kIO (fun (u : Unit) => [(x0, .inr (5, [.ref c0, .ref t0, .ref b0, .ref po, .ref kr, .ref r0, .int (nI (ln))])), (c0, .inr (1, [.ref crs, .ref crw, .ref crh, .ref crp, .ref crz, .int (nI (n))]))]) 1 6 := by
  refine x_entry (cc := cX5_requireLink) (maxL := 2) (ret := none) (by decide) rfl (Nat.le_of_ble_eq_true rfl) ?_
  intro p e s m args below meth c A ls H locs Q hQ hx hb hml hout hX hts hown hlocks hA hP hK hD hS hl
  have hown : s.vm.findClass RX5 = some m.cls := hown
  have hl : lv_has ls 2 [(0, .ref x0), (1, .int k)] := hl
  have hf10 := hts (.fieldLink RX5 10 "HangingChain" "chain" "LHangingChain$Chain;") (by decide +kernel)
  have hinX5 : ∀ w ∈ wsX50, w ∈ wsX5_requireLink := by decide +kernel
  have hf56 := hts (.fieldLink RX5 56 "HangingChain$Chain" "links" "I") (by decide +kernel)
  have hinX1 : ∀ w ∈ wsX10, w ∈ wsX5_requireLink := by decide +kernel
  refine lv_iload_n hx hb dX5_requireLink_0 rfl (lv_at hl 1 rfl) ?_
  refine lv_if_lt (tgt := 15) hx hb dX5_requireLink_1 (by decide) (fun c_1 => ?_) (fun c_1 => ?_)
  · skip
    rw [hQ]
    exact x_thrW (ik := 284) (is := 286) (ic := 288) (text := "there is no such link") hx hb hfl hown (by decide +kernel) hts (by decide +kernel) t_IO o2_IO (by decide +kernel) hX hK hP hD hS (by rw [hml]; exact hl.1) dX5_requireLink_15 dX5_requireLink_18 dX5_requireLink_19 dX5_requireLink_22 dX5_requireLink_25 hout (Nat.le_of_ble_eq_true rfl) (Nat.le_of_ble_eq_true rfl) (Nat.le_of_ble_eq_true rfl) (Nat.le_of_ble_eq_true rfl) hlocks () [0, 1] rfl rfl (by decide) (Nat.le_of_ble_eq_true rfl) (Nat.le_of_ble_eq_true rfl)
  · skip
    refine lv_iload_n hx hb dX5_requireLink_4 rfl (lv_at hl 1 rfl) ?_
    refine lv_aload_n hx hb dX5_requireLink_5 rfl (lv_at hl 0 rfl) ?_
    refine va_get (D := G.1) (ci := 5) (v := .ref c0) (C := RX5) (T := TX5) (N := 7) hx hb hts hinX5 hown hK hP 0 rfl rfl 0 (by decide) hf10 (fun _ h9 => h9) rfl dX5_requireLink_6 ?_
    refine va_get (D := G.1) (ci := 1) (v := .int (nI (n))) (C := RX1) (T := TX1) (N := 6) hx hb hts hinX1 hown hK hP 1 rfl rfl 5 (by decide) hf56 (fun _ h9 => h9) rfl dX5_requireLink_9 ?_
    refine lv_icmp_lt (tgt := 26) hx hb dX5_requireLink_12 (by decide) (fun c_12 => ?_) (fun c_12 => ?_)
    · exact (isN_no h1 (by omega) c_1 c_12).elim
    · skip
      rw [hQ]
      exact x_thrW (ik := 284) (is := 286) (ic := 288) (text := "there is no such link") hx hb hfl hown (by decide +kernel) hts (by decide +kernel) t_IO o2_IO (by decide +kernel) hX hK hP hD hS (by rw [hml]; exact hl.1) dX5_requireLink_15 dX5_requireLink_18 dX5_requireLink_19 dX5_requireLink_22 dX5_requireLink_25 hout (Nat.le_of_ble_eq_true rfl) (Nat.le_of_ble_eq_true rfl) (Nat.le_of_ble_eq_true rfl) (Nat.le_of_ble_eq_true rfl) hlocks () [0, 1] rfl rfl (by decide) (Nat.le_of_ble_eq_true rfl) (Nat.le_of_ble_eq_true rfl)
set_option maxHeartbeats 4000000 in
set_option maxRecDepth 100000 in
theorem c_X5_requireJoint_t (l : Launch) (G : kG) (x0 : Nat) (c0 : Nat) (t0 : Nat) (b0 : Nat) (po : Nat) (kr : Nat) (r0 : Nat) (ln : Nat) (crs : Nat) (crw : Nat) (crh : Nat) (crp : Nat) (crz : Nat) (n : Nat) (k : Int32) (sz : Nat) (hfl : l.stackTraces = false) (hn : n ≤ 20) (h1 : isN k (n + 1) = false) : xMet l yX5_requireJoint wsX5_requireJoint ({ frames := 6, cells := 1, slots := 6, locals := 82 } : Room) G [.ref x0, .int k] [(x0, .inr (5, [.ref c0, .ref t0, .ref b0, .ref po, .ref kr, .ref r0, .int (nI (ln))])), (c0, .inr (1, [.ref crs, .ref crw, .ref crh, .ref crp, .ref crz, .int (nI (n))]))] sz kIO (fun (u : Unit) => [(x0, .inr (5, [.ref c0, .ref t0, .ref b0, .ref po, .ref kr, .ref r0, .int (nI (ln))])), (c0, .inr (1, [.ref crs, .ref crw, .ref crh, .ref crp, .ref crz, .int (nI (n))]))]) 1 6 := by
  refine x_entry (cc := cX5_requireJoint) (maxL := 2) (ret := none) (by decide) rfl (Nat.le_of_ble_eq_true rfl) ?_
  intro p e s m args below meth c A ls H locs Q hQ hx hb hml hout hX hts hown hlocks hA hP hK hD hS hl
  have hown : s.vm.findClass RX5 = some m.cls := hown
  have hl : lv_has ls 2 [(0, .ref x0), (1, .int k)] := hl
  have hf10 := hts (.fieldLink RX5 10 "HangingChain" "chain" "LHangingChain$Chain;") (by decide +kernel)
  have hinX5 : ∀ w ∈ wsX50, w ∈ wsX5_requireJoint := by decide +kernel
  have hf56 := hts (.fieldLink RX5 56 "HangingChain$Chain" "links" "I") (by decide +kernel)
  have hinX1 : ∀ w ∈ wsX10, w ∈ wsX5_requireJoint := by decide +kernel
  refine lv_iload_n hx hb dX5_requireJoint_0 rfl (lv_at hl 1 rfl) ?_
  refine lv_if_lt (tgt := 15) hx hb dX5_requireJoint_1 (by decide) (fun c_1 => ?_) (fun c_1 => ?_)
  · skip
    rw [hQ]
    exact x_thrW (ik := 284) (is := 289) (ic := 288) (text := "there is no such joint") hx hb hfl hown (by decide +kernel) hts (by decide +kernel) t_IO o2_IO (by decide +kernel) hX hK hP hD hS (by rw [hml]; exact hl.1) dX5_requireJoint_15 dX5_requireJoint_18 dX5_requireJoint_19 dX5_requireJoint_22 dX5_requireJoint_25 hout (Nat.le_of_ble_eq_true rfl) (Nat.le_of_ble_eq_true rfl) (Nat.le_of_ble_eq_true rfl) (Nat.le_of_ble_eq_true rfl) hlocks () [0, 1] rfl rfl (by decide) (Nat.le_of_ble_eq_true rfl) (Nat.le_of_ble_eq_true rfl)
  · skip
    refine lv_iload_n hx hb dX5_requireJoint_4 rfl (lv_at hl 1 rfl) ?_
    refine lv_aload_n hx hb dX5_requireJoint_5 rfl (lv_at hl 0 rfl) ?_
    refine va_get (D := G.1) (ci := 5) (v := .ref c0) (C := RX5) (T := TX5) (N := 7) hx hb hts hinX5 hown hK hP 0 rfl rfl 0 (by decide) hf10 (fun _ h9 => h9) rfl dX5_requireJoint_6 ?_
    refine va_get (D := G.1) (ci := 1) (v := .int (nI (n))) (C := RX1) (T := TX1) (N := 6) hx hb hts hinX1 hown hK hP 1 rfl rfl 5 (by decide) hf56 (fun _ h9 => h9) rfl dX5_requireJoint_9 ?_
    refine lv_icmp_le (tgt := 26) hx hb dX5_requireJoint_12 (by decide) (fun c_12 => ?_) (fun c_12 => ?_)
    · exact (isN_noJ h1 (by omega) c_1 c_12).elim
    · skip
      rw [hQ]
      exact x_thrW (ik := 284) (is := 289) (ic := 288) (text := "there is no such joint") hx hb hfl hown (by decide +kernel) hts (by decide +kernel) t_IO o2_IO (by decide +kernel) hX hK hP hD hS (by rw [hml]; exact hl.1) dX5_requireJoint_15 dX5_requireJoint_18 dX5_requireJoint_19 dX5_requireJoint_22 dX5_requireJoint_25 hout (Nat.le_of_ble_eq_true rfl) (Nat.le_of_ble_eq_true rfl) (Nat.le_of_ble_eq_true rfl) (Nat.le_of_ble_eq_true rfl) hlocks () [0, 1] rfl rfl (by decide) (Nat.le_of_ble_eq_true rfl) (Nat.le_of_ble_eq_true rfl)
set_option maxHeartbeats 4000000 in
set_option maxRecDepth 100000 in
theorem c_X5_requireSetting_t (l : Launch) (G : kG) (k : Int32) (sz : Nat) (hfl : l.stackTraces = false) (h1 : isN k 4 = false) : xMet l yX5_requireSetting wsX5_requireSetting ({ frames := 6, cells := 1, slots := 6, locals := 82 } : Room) G [.int k] [] sz kIO (fun (u : Unit) => []) 1 6 := by
  refine x_entry (cc := cX5_requireSetting) (maxL := 1) (ret := none) (by decide) rfl (Nat.le_of_ble_eq_true rfl) ?_
  intro p e s m args below meth c A ls H locs Q hQ hx hb hml hout hX hts hown hlocks hA hP hK hD hS hl
  have hown : s.vm.findClass RX5 = some m.cls := hown
  have hl : lv_has ls 1 [(0, .int k)] := hl
  refine lv_iload_n hx hb dX5_requireSetting_0 rfl (lv_at hl 0 rfl) ?_
  refine lv_if_lt (tgt := 9) hx hb dX5_requireSetting_1 (by decide) (fun c_1 => ?_) (fun c_1 => ?_)
  · skip
    rw [hQ]
    exact x_thrW (ik := 284) (is := 291) (ic := 288) (text := "there is no such setting") hx hb hfl hown (by decide +kernel) hts (by decide +kernel) t_IO o2_IO (by decide +kernel) hX hK hP hD hS (by rw [hml]; exact hl.1) dX5_requireSetting_9 dX5_requireSetting_12 dX5_requireSetting_13 dX5_requireSetting_16 dX5_requireSetting_19 hout (Nat.le_of_ble_eq_true rfl) (Nat.le_of_ble_eq_true rfl) (Nat.le_of_ble_eq_true rfl) (Nat.le_of_ble_eq_true rfl) hlocks () [] rfl rfl (by decide) (Nat.le_of_ble_eq_true rfl) (Nat.le_of_ble_eq_true rfl)
  · skip
    refine lv_iload_n hx hb dX5_requireSetting_4 rfl (lv_at hl 0 rfl) ?_
    refine lv_iconst (v := 4) hx hb dX5_requireSetting_5 (by decide) ?_
    refine lv_icmp_lt (tgt := 20) hx hb dX5_requireSetting_6 (by decide) (fun c_6 => ?_) (fun c_6 => ?_)
    · exact (isN_no h1 (by omega) c_1 c_6).elim
    · skip
      rw [hQ]
      exact x_thrW (ik := 284) (is := 291) (ic := 288) (text := "there is no such setting") hx hb hfl hown (by decide +kernel) hts (by decide +kernel) t_IO o2_IO (by decide +kernel) hX hK hP hD hS (by rw [hml]; exact hl.1) dX5_requireSetting_9 dX5_requireSetting_12 dX5_requireSetting_13 dX5_requireSetting_16 dX5_requireSetting_19 hout (Nat.le_of_ble_eq_true rfl) (Nat.le_of_ble_eq_true rfl) (Nat.le_of_ble_eq_true rfl) (Nat.le_of_ble_eq_true rfl) hlocks () [] rfl rfl (by decide) (Nat.le_of_ble_eq_true rfl) (Nat.le_of_ble_eq_true rfl)
set_option maxHeartbeats 4000000 in
set_option maxRecDepth 100000 in
theorem c_X5_requireStep_t (l : Launch) (G : kG) (v : Int32) (sz : Nat) (hfl : l.stackTraces = false) (h2 : ¬ (-2 ≤ v ∧ v ≤ 2)) : xMet l yX5_requireStep wsX5_requireStep ({ frames := 6, cells := 1, slots := 6, locals := 82 } : Room) G [.int v] [] sz kIA (fun (u : Unit) => []) 1 6 := by
  refine x_entry (cc := cX5_requireStep) (maxL := 1) (ret := none) (by decide) rfl (Nat.le_of_ble_eq_true rfl) ?_
  intro p e s m args below meth c A ls H locs Q hQ hx hb hml hout hX hts hown hlocks hA hP hK hD hS hl
  have hown : s.vm.findClass RX5 = some m.cls := hown
  have hl : lv_has ls 1 [(0, .int v)] := hl
  refine lv_iload_n hx hb dX5_requireStep_0 rfl (lv_at hl 0 rfl) ?_
  refine lv_bipush (v := (-2)) hx hb dX5_requireStep_1 (by decide) ?_
  refine lv_icmp_lt (tgt := 11) hx hb dX5_requireStep_3 (by decide) (fun c_3 => ?_) (fun c_3 => ?_)
  · skip
    rw [hQ]
    exact x_thrW (ik := 121) (is := 293) (ic := 125) (text := "the step is not -2 to 2") hx hb hfl hown (by decide +kernel) hts (by decide +kernel) t_IA o2_IA (by decide +kernel) hX hK hP hD hS (by rw [hml]; exact hl.1) dX5_requireStep_11 dX5_requireStep_14 dX5_requireStep_15 dX5_requireStep_18 dX5_requireStep_21 hout (Nat.le_of_ble_eq_true rfl) (Nat.le_of_ble_eq_true rfl) (Nat.le_of_ble_eq_true rfl) (Nat.le_of_ble_eq_true rfl) hlocks () [] rfl rfl (by decide) (Nat.le_of_ble_eq_true rfl) (Nat.le_of_ble_eq_true rfl)
  · skip
    refine lv_iload_n hx hb dX5_requireStep_6 rfl (lv_at hl 0 rfl) ?_
    refine lv_iconst (v := 2) hx hb dX5_requireStep_7 (by decide) ?_
    refine lv_icmp_le (tgt := 22) hx hb dX5_requireStep_8 (by decide) (fun c_8 => ?_) (fun c_8 => ?_)
    · exact (h2 ⟨i32_le c_3, c_8⟩).elim
    · skip
      rw [hQ]
      exact x_thrW (ik := 121) (is := 293) (ic := 125) (text := "the step is not -2 to 2") hx hb hfl hown (by decide +kernel) hts (by decide +kernel) t_IA o2_IA (by decide +kernel) hX hK hP hD hS (by rw [hml]; exact hl.1) dX5_requireStep_11 dX5_requireStep_14 dX5_requireStep_15 dX5_requireStep_18 dX5_requireStep_21 hout (Nat.le_of_ble_eq_true rfl) (Nat.le_of_ble_eq_true rfl) (Nat.le_of_ble_eq_true rfl) (Nat.le_of_ble_eq_true rfl) hlocks () [] rfl rfl (by decide) (Nat.le_of_ble_eq_true rfl) (Nat.le_of_ble_eq_true rfl)
set_option maxHeartbeats 4000000 in
set_option maxRecDepth 100000 in
theorem c_X5_requireAmount_t (l : Launch) (G : kG) (v : Int32) (sz : Nat) (hfl : l.stackTraces = false) (h2 : ¬ (0 ≤ v ∧ v ≤ 99)) : xMet l yX5_requireAmount wsX5_requireAmount ({ frames := 6, cells := 1, slots := 6, locals := 82 } : Room) G [.int v] [] sz kIA (fun (u : Unit) => []) 1 6 := by
  refine x_entry (cc := cX5_requireAmount) (maxL := 1) (ret := none) (by decide) rfl (Nat.le_of_ble_eq_true rfl) ?_
  intro p e s m args below meth c A ls H locs Q hQ hx hb hml hout hX hts hown hlocks hA hP hK hD hS hl
  have hown : s.vm.findClass RX5 = some m.cls := hown
  have hl : lv_has ls 1 [(0, .int v)] := hl
  refine lv_iload_n hx hb dX5_requireAmount_0 rfl (lv_at hl 0 rfl) ?_
  refine lv_if_lt (tgt := 10) hx hb dX5_requireAmount_1 (by decide) (fun c_1 => ?_) (fun c_1 => ?_)
  · skip
    rw [hQ]
    exact x_thrW (ik := 121) (is := 295) (ic := 125) (text := "the amount is not 0 to 99") hx hb hfl hown (by decide +kernel) hts (by decide +kernel) t_IA o2_IA (by decide +kernel) hX hK hP hD hS (by rw [hml]; exact hl.1) dX5_requireAmount_10 dX5_requireAmount_13 dX5_requireAmount_14 dX5_requireAmount_17 dX5_requireAmount_20 hout (Nat.le_of_ble_eq_true rfl) (Nat.le_of_ble_eq_true rfl) (Nat.le_of_ble_eq_true rfl) (Nat.le_of_ble_eq_true rfl) hlocks () [] rfl rfl (by decide) (Nat.le_of_ble_eq_true rfl) (Nat.le_of_ble_eq_true rfl)
  · skip
    refine lv_iload_n hx hb dX5_requireAmount_4 rfl (lv_at hl 0 rfl) ?_
    refine lv_bipush (v := 99) hx hb dX5_requireAmount_5 (by decide) ?_
    refine lv_icmp_le (tgt := 21) hx hb dX5_requireAmount_7 (by decide) (fun c_7 => ?_) (fun c_7 => ?_)
    · exact (h2 ⟨i32_le c_1, c_7⟩).elim
    · skip
      rw [hQ]
      exact x_thrW (ik := 121) (is := 295) (ic := 125) (text := "the amount is not 0 to 99") hx hb hfl hown (by decide +kernel) hts (by decide +kernel) t_IA o2_IA (by decide +kernel) hX hK hP hD hS (by rw [hml]; exact hl.1) dX5_requireAmount_10 dX5_requireAmount_13 dX5_requireAmount_14 dX5_requireAmount_17 dX5_requireAmount_20 hout (Nat.le_of_ble_eq_true rfl) (Nat.le_of_ble_eq_true rfl) (Nat.le_of_ble_eq_true rfl) (Nat.le_of_ble_eq_true rfl) hlocks () [] rfl rfl (by decide) (Nat.le_of_ble_eq_true rfl) (Nat.le_of_ble_eq_true rfl)
set_option maxHeartbeats 4000000 in
set_option maxRecDepth 100000 in
theorem c_X5_requireWhat_t (l : Launch) (G : kG) (v : Int32) (b : Nat) (sz : Nat) (hfl : l.stackTraces = false) (h2 : isN v b = false) (hb9 : b < 2 ^ 30) : xMet l yX5_requireWhat wsX5_requireWhat ({ frames := 6, cells := 1, slots := 6, locals := 82 } : Room) G [.int v, .int (nI (b))] [] sz kIA (fun (u : Unit) => []) 1 6 := by
  refine x_entry (cc := cX5_requireWhat) (maxL := 2) (ret := none) (by decide) rfl (Nat.le_of_ble_eq_true rfl) ?_
  intro p e s m args below meth c A ls H locs Q hQ hx hb hml hout hX hts hown hlocks hA hP hK hD hS hl
  have hown : s.vm.findClass RX5 = some m.cls := hown
  have hl : lv_has ls 2 [(0, .int v), (1, .int (nI (b)))] := hl
  refine lv_iload_n hx hb dX5_requireWhat_0 rfl (lv_at hl 0 rfl) ?_
  refine lv_if_lt (tgt := 9) hx hb dX5_requireWhat_1 (by decide) (fun c_1 => ?_) (fun c_1 => ?_)
  · skip
    rw [hQ]
    exact x_thrW (ik := 121) (is := 297) (ic := 125) (text := "there is no such number") hx hb hfl hown (by decide +kernel) hts (by decide +kernel) t_IA o2_IA (by decide +kernel) hX hK hP hD hS (by rw [hml]; exact hl.1) dX5_requireWhat_9 dX5_requireWhat_12 dX5_requireWhat_13 dX5_requireWhat_16 dX5_requireWhat_19 hout (Nat.le_of_ble_eq_true rfl) (Nat.le_of_ble_eq_true rfl) (Nat.le_of_ble_eq_true rfl) (Nat.le_of_ble_eq_true rfl) hlocks () [] rfl rfl (by decide) (Nat.le_of_ble_eq_true rfl) (Nat.le_of_ble_eq_true rfl)
  · skip
    refine lv_iload_n hx hb dX5_requireWhat_4 rfl (lv_at hl 0 rfl) ?_
    refine lv_iload_n hx hb dX5_requireWhat_5 rfl (lv_at hl 1 rfl) ?_
    refine lv_icmp_lt (tgt := 20) hx hb dX5_requireWhat_6 (by decide) (fun c_6 => ?_) (fun c_6 => ?_)
    · exact (isN_no h2 (by omega) c_1 c_6).elim
    · skip
      rw [hQ]
      exact x_thrW (ik := 121) (is := 297) (ic := 125) (text := "there is no such number") hx hb hfl hown (by decide +kernel) hts (by decide +kernel) t_IA o2_IA (by decide +kernel) hX hK hP hD hS (by rw [hml]; exact hl.1) dX5_requireWhat_9 dX5_requireWhat_12 dX5_requireWhat_13 dX5_requireWhat_16 dX5_requireWhat_19 hout (Nat.le_of_ble_eq_true rfl) (Nat.le_of_ble_eq_true rfl) (Nat.le_of_ble_eq_true rfl) (Nat.le_of_ble_eq_true rfl) hlocks () [] rfl rfl (by decide) (Nat.le_of_ble_eq_true rfl) (Nat.le_of_ble_eq_true rfl)
set_option maxHeartbeats 4000000 in
set_option maxRecDepth 100000 in
theorem c_X5_link_t1 (l : Launch) (G : kG) (x0 : Nat) (c0 : Nat) (t0 : Nat) (b0 : Nat) (po : Nat) (kr : Nat) (r0 : Nat) (ln : Nat) (crs : Nat) (crw : Nat) (crh : Nat) (crp : Nat) (crz : Nat) (n : Nat) (v : Int32) (sz : Nat) (hfl : l.stackTraces = false) (hn1 : 1 ≤ n) (hn : n ≤ 20) (h2 : ¬ (-2 ≤ v ∧ v ≤ 2)) : xMet l yX5_link wsX5_link ({ frames := 7, cells := 1, slots := 6, locals := 102 } : Room) G [.ref x0, .int v] [(x0, .inr (5, [.ref c0, .ref t0, .ref b0, .ref po, .ref kr, .ref r0, .int (nI (ln))])), (c0, .inr (1, [.ref crs, .ref crw, .ref crh, .ref crp, .ref crz, .int (nI (n))]))] sz kIA (fun (u : Unit) => [(x0, .inr (5, [.ref c0, .ref t0, .ref b0, .ref po, .ref kr, .ref r0, .int (nI (ln))])), (c0, .inr (1, [.ref crs, .ref crw, .ref crh, .ref crp, .ref crz, .int (nI (n))]))]) 1 6 := by
  refine x_entry (cc := cX5_link) (maxL := 2) (ret := (some .int)) (by decide) rfl (Nat.le_of_ble_eq_true rfl) ?_
  intro p e s m args below meth c A ls H locs Q hQ hx hb hml hout hX hts hown hlocks hA hP hK hD hS hl
  have hown : s.vm.findClass RX5 = some m.cls := hown
  have hl : lv_has ls 2 [(0, .ref x0), (1, .int v)] := hl
  refine lv_iload_n hx hb dX5_link_0 rfl (lv_at hl 1 rfl) ?_
  refine x_call (wr := [(x0, .inr (5, [.ref c0, .ref t0, .ref b0, .ref po, .ref kr, .ref r0, .int (nI (ln))])), (c0, .inr (1, [.ref crs, .ref crw, .ref crh, .ref crp, .ref crz, .int (nI (n))]))]) [0, 1] rfl (by decide) [] rfl (by decide) hP hD hS hA (x_S (n := 1) (As := [.int v]) (rest := []) (wc := []) hx hb hml hown hts hX hS hA hK hP hD hl (c_X5_requireStep_t l G v H.size hfl (by first | assumption | omega)) [] rfl (by decide) gX5_link_X5_requireStep rfl rfl rfl (by decide +kernel) rfl ⟨Nat.le_of_ble_eq_true rfl, Nat.le_of_ble_eq_true rfl⟩ rfl (Nat.le_of_ble_eq_true rfl) dX5_link_1 ⟨Nat.le_of_ble_eq_true rfl, Nat.le_of_ble_eq_true rfl⟩) (fun u ce9 q9 H locs hP hD hS hce hcv hcl => ?_)
  have hP : va_P G.1 vwCl [(x0, .inr (5, [.ref c0, .ref t0, .ref b0, .ref po, .ref kr, .ref r0, .int (nI (ln))])), (c0, .inr (1, [.ref crs, .ref crw, .ref crh, .ref crp, .ref crz, .int (nI (n))]))] H := hP
  have hD : va_D A [(x0, .inr (5, [.ref c0, .ref t0, .ref b0, .ref po, .ref kr, .ref r0, .int (nI (ln))])), (c0, .inr (1, [.ref crs, .ref crw, .ref crh, .ref crp, .ref crz, .int (nI (n))]))] := hD
  rw [hQ]
  exact x_out hout hlocks hce hcv hcl hK hP hD hS () [0, 1] rfl rfl (by decide) (Nat.le_of_ble_eq_true rfl) (Nat.le_of_ble_eq_true rfl)
set_option maxHeartbeats 4000000 in
set_option maxRecDepth 100000 in
theorem c_X5_link_t2 (l : Launch) (G : kG) (x0 : Nat) (c0 : Nat) (t0 : Nat) (b0 : Nat) (po : Nat) (kr : Nat) (r0 : Nat) (ln : Nat) (crs : Nat) (crw : Nat) (crh : Nat) (crp : Nat) (crz : Nat) (n : Nat) (v : Int32) (sz : Nat) (hfl : l.stackTraces = false) (hn1 : 1 ≤ n) (hn : n ≤ 20) (h1 : -2 ≤ v ∧ v ≤ 2) (h2 : n = 20) : xMet l yX5_link wsX5_link ({ frames := 6, cells := 1, slots := 6, locals := 86 } : Room) G [.ref x0, .int v] [(x0, .inr (5, [.ref c0, .ref t0, .ref b0, .ref po, .ref kr, .ref r0, .int (nI (ln))])), (c0, .inr (1, [.ref crs, .ref crw, .ref crh, .ref crp, .ref crz, .int (nI (n))]))] sz kIS (fun (u : Unit) => [(x0, .inr (5, [.ref c0, .ref t0, .ref b0, .ref po, .ref kr, .ref r0, .int (nI (ln))])), (c0, .inr (1, [.ref crs, .ref crw, .ref crh, .ref crp, .ref crz, .int (nI (n))]))]) 1 6 := by
  refine x_entry (cc := cX5_link) (maxL := 2) (ret := (some .int)) (by decide) rfl (Nat.le_of_ble_eq_true rfl) ?_
  intro p e s m args below meth c A ls H locs Q hQ hx hb hml hout hX hts hown hlocks hA hP hK hD hS hl
  have hown : s.vm.findClass RX5 = some m.cls := hown
  have hl : lv_has ls 2 [(0, .ref x0), (1, .int v)] := hl
  have hf10 := hts (.fieldLink RX5 10 "HangingChain" "chain" "LHangingChain$Chain;") (by decide +kernel)
  have hinX5 : ∀ w ∈ wsX50, w ∈ wsX5_link := by decide +kernel
  have hf56 := hts (.fieldLink RX5 56 "HangingChain$Chain" "links" "I") (by decide +kernel)
  have hinX1 : ∀ w ∈ wsX10, w ∈ wsX5_link := by decide +kernel
  refine lv_iload_n hx hb dX5_link_0 rfl (lv_at hl 1 rfl) ?_
  refine k_cv (wr := [(x0, .inr (5, [.ref c0, .ref t0, .ref b0, .ref po, .ref kr, .ref r0, .int (nI (ln))])), (c0, .inr (1, [.ref crs, .ref crw, .ref crh, .ref crp, .ref crz, .int (nI (n))]))]) [0, 1] rfl (by decide) [] rfl (by decide) hP hD hS hA (k_S (n := 1) (As := [.int v]) (rest := []) (wc := []) hx hb hml hown hts hK hP hD hl (c_X5_requireStep_0 l G v H.size (by first | assumption | omega)) [] rfl (by decide) gX5_link_X5_requireStep rfl rfl rfl (by decide +kernel) rfl ⟨Nat.le_of_ble_eq_true rfl, Nat.le_of_ble_eq_true rfl⟩ rfl (Nat.le_of_ble_eq_true rfl) dX5_link_1 ⟨Nat.le_of_ble_eq_true rfl, Nat.le_of_ble_eq_true rfl⟩) (fun u H locs hw hP hD hS => ?_)
  have hw_1 : True := hw
  have hP : va_P G.1 vwCl [(x0, .inr (5, [.ref c0, .ref t0, .ref b0, .ref po, .ref kr, .ref r0, .int (nI (ln))])), (c0, .inr (1, [.ref crs, .ref crw, .ref crh, .ref crp, .ref crz, .int (nI (n))]))] H := hP
  have hD : va_D A [(x0, .inr (5, [.ref c0, .ref t0, .ref b0, .ref po, .ref kr, .ref r0, .int (nI (ln))])), (c0, .inr (1, [.ref crs, .ref crw, .ref crh, .ref crp, .ref crz, .int (nI (n))]))] := hD
  refine lv_aload_n hx hb dX5_link_4 rfl (lv_at hl 0 rfl) ?_
  refine va_get (D := G.1) (ci := 5) (v := .ref c0) (C := RX5) (T := TX5) (N := 7) hx hb hts hinX5 hown hK hP 0 rfl rfl 0 (by decide) hf10 (fun _ h9 => h9) rfl dX5_link_5 ?_
  refine va_get (D := G.1) (ci := 1) (v := .int (nI (n))) (C := RX1) (T := TX1) (N := 6) hx hb hts hinX1 hown hK hP 1 rfl rfl 5 (by decide) hf56 (fun _ h9 => h9) rfl dX5_link_8 ?_
  refine lv_bipush (v := 20) hx hb dX5_link_11 (by decide) ?_
  refine g_icmp_lt (a := n) (b := 20) (tgt := 26) hx hb (by omega) (by omega) dX5_link_13 (by decide) (fun c_13 => ?_) (fun c_13 => ?_)
  · omega
  · skip
    rw [hQ]
    exact x_thr (ik := 59) (is := 61) (ic := 63) (text := "the chain has 20 links") hx hb hfl hown (by decide +kernel) hts (by decide +kernel) t_IS o2_IS (by decide +kernel) hX hK hP hD hS (by rw [hml]; exact hl.1) dX5_link_16 dX5_link_19 dX5_link_20 dX5_link_22 dX5_link_25 hout (Nat.le_of_ble_eq_true rfl) (Nat.le_of_ble_eq_true rfl) (Nat.le_of_ble_eq_true rfl) (Nat.le_of_ble_eq_true rfl) hlocks () [0, 1] rfl rfl (by decide) (Nat.le_of_ble_eq_true rfl) (Nat.le_of_ble_eq_true rfl)
set_option maxHeartbeats 4000000 in
set_option maxRecDepth 100000 in
theorem c_X5_cut_t1 (l : Launch) (G : kG) (x0 : Nat) (c0 : Nat) (t0 : Nat) (b0 : Nat) (po : Nat) (kr : Nat) (r0 : Nat) (ln : Nat) (crs : Nat) (crw : Nat) (crh : Nat) (crp : Nat) (crz : Nat) (n : Nat) (k : Int32) (sz : Nat) (hfl : l.stackTraces = false) (hn1 : 1 ≤ n) (hn : n ≤ 20) (h1 : isN k n = false) : xMet l yX5_cut wsX5_cut ({ frames := 7, cells := 1, slots := 6, locals := 103 } : Room) G [.ref x0, .int k] [(x0, .inr (5, [.ref c0, .ref t0, .ref b0, .ref po, .ref kr, .ref r0, .int (nI (ln))])), (c0, .inr (1, [.ref crs, .ref crw, .ref crh, .ref crp, .ref crz, .int (nI (n))]))] sz kIO (fun (u : Unit) => [(x0, .inr (5, [.ref c0, .ref t0, .ref b0, .ref po, .ref kr, .ref r0, .int (nI (ln))])), (c0, .inr (1, [.ref crs, .ref crw, .ref crh, .ref crp, .ref crz, .int (nI (n))]))]) 1 6 := by
  refine x_entry (cc := cX5_cut) (maxL := 2) (ret := (some .int)) (by decide) rfl (Nat.le_of_ble_eq_true rfl) ?_
  intro p e s m args below meth c A ls H locs Q hQ hx hb hml hout hX hts hown hlocks hA hP hK hD hS hl
  have hown : s.vm.findClass RX5 = some m.cls := hown
  have hl : lv_has ls 2 [(0, .ref x0), (1, .int k)] := hl
  refine lv_aload_n hx hb dX5_cut_0 rfl (lv_at hl 0 rfl) ?_
  refine lv_iload_n hx hb dX5_cut_1 rfl (lv_at hl 1 rfl) ?_
  refine x_call (wr := []) [] rfl (by decide) [0, 1] rfl (by decide) hP hD hS hA (x_V (n := 1) (ci := 5) (As := [.int k]) (rest := []) (wc := [(x0, .inr (5, [.ref c0, .ref t0, .ref b0, .ref po, .ref kr, .ref r0, .int (nI (ln))])), (c0, .inr (1, [.ref crs, .ref crw, .ref crh, .ref crp, .ref crz, .int (nI (n))]))]) hx hb hml hown hts hX hS hA hK hP hD hl (c_X5_requireLink_t l G x0 c0 t0 b0 po kr r0 ln crs crw crh crp crz n k H.size hfl (by first | assumption | omega) (by first | assumption | omega)) [0, 1] rfl (by decide) gX5_cut_X5_requireLink rfl rfl rfl (by decide +kernel) rfl ⟨Nat.le_of_ble_eq_true rfl, Nat.le_of_ble_eq_true rfl⟩ rfl rfl rfl (Nat.le_of_ble_eq_true rfl) dX5_cut_2 ⟨Nat.le_of_ble_eq_true rfl, Nat.le_of_ble_eq_true rfl⟩) (fun u ce9 q9 H locs hP hD hS hce hcv hcl => ?_)
  have hP : va_P G.1 vwCl [(x0, .inr (5, [.ref c0, .ref t0, .ref b0, .ref po, .ref kr, .ref r0, .int (nI (ln))])), (c0, .inr (1, [.ref crs, .ref crw, .ref crh, .ref crp, .ref crz, .int (nI (n))]))] H := hP
  have hD : va_D A [(x0, .inr (5, [.ref c0, .ref t0, .ref b0, .ref po, .ref kr, .ref r0, .int (nI (ln))])), (c0, .inr (1, [.ref crs, .ref crw, .ref crh, .ref crp, .ref crz, .int (nI (n))]))] := hD
  rw [hQ]
  exact x_out hout hlocks hce hcv hcl hK hP hD hS () [0, 1] rfl rfl (by decide) (Nat.le_of_ble_eq_true rfl) (Nat.le_of_ble_eq_true rfl)
set_option maxHeartbeats 4000000 in
set_option maxRecDepth 100000 in
theorem c_X5_cut_t2 (l : Launch) (G : kG) (x0 : Nat) (c0 : Nat) (t0 : Nat) (b0 : Nat) (po : Nat) (kr : Nat) (r0 : Nat) (ln : Nat) (crs : Nat) (crw : Nat) (crh : Nat) (crp : Nat) (crz : Nat) (n : Nat) (j : Nat) (sz : Nat) (hfl : l.stackTraces = false) (hn1 : 1 ≤ n) (hn : n ≤ 20) (hj : j < n) (h2 : n = 1) : xMet l yX5_cut wsX5_cut ({ frames := 6, cells := 1, slots := 6, locals := 86 } : Room) G [.ref x0, .int (nI (j))] [(x0, .inr (5, [.ref c0, .ref t0, .ref b0, .ref po, .ref kr, .ref r0, .int (nI (ln))])), (c0, .inr (1, [.ref crs, .ref crw, .ref crh, .ref crp, .ref crz, .int (nI (n))]))] sz kIS (fun (u : Unit) => [(x0, .inr (5, [.ref c0, .ref t0, .ref b0, .ref po, .ref kr, .ref r0, .int (nI (ln))])), (c0, .inr (1, [.ref crs, .ref crw, .ref crh, .ref crp, .ref crz, .int (nI (n))]))]) 1 6 := by
  refine x_entry (cc := cX5_cut) (maxL := 2) (ret := (some .int)) (by decide) rfl (Nat.le_of_ble_eq_true rfl) ?_
  intro p e s m args below meth c A ls H locs Q hQ hx hb hml hout hX hts hown hlocks hA hP hK hD hS hl
  have hown : s.vm.findClass RX5 = some m.cls := hown
  have hl : lv_has ls 2 [(0, .ref x0), (1, .int (nI (j)))] := hl
  have hf10 := hts (.fieldLink RX5 10 "HangingChain" "chain" "LHangingChain$Chain;") (by decide +kernel)
  have hinX5 : ∀ w ∈ wsX50, w ∈ wsX5_cut := by decide +kernel
  have hf56 := hts (.fieldLink RX5 56 "HangingChain$Chain" "links" "I") (by decide +kernel)
  have hinX1 : ∀ w ∈ wsX10, w ∈ wsX5_cut := by decide +kernel
  refine lv_aload_n hx hb dX5_cut_0 rfl (lv_at hl 0 rfl) ?_
  refine lv_iload_n hx hb dX5_cut_1 rfl (lv_at hl 1 rfl) ?_
  refine k_cv (wr := []) [] rfl (by decide) [0, 1] rfl (by decide) hP hD hS hA (k_V (n := 1) (ci := 5) (As := [.int (nI (j))]) (rest := []) (wc := [(x0, .inr (5, [.ref c0, .ref t0, .ref b0, .ref po, .ref kr, .ref r0, .int (nI (ln))])), (c0, .inr (1, [.ref crs, .ref crw, .ref crh, .ref crp, .ref crz, .int (nI (n))]))]) hx hb hml hown hts hK hP hD hl (c_X5_requireLink_0 l G x0 c0 t0 b0 po kr r0 ln crs crw crh crp crz n j H.size (by first | assumption | omega) (by first | assumption | omega)) [0, 1] rfl (by decide) gX5_cut_X5_requireLink rfl rfl rfl (by decide +kernel) rfl ⟨Nat.le_of_ble_eq_true rfl, Nat.le_of_ble_eq_true rfl⟩ rfl rfl rfl (Nat.le_of_ble_eq_true rfl) dX5_cut_2 ⟨Nat.le_of_ble_eq_true rfl, Nat.le_of_ble_eq_true rfl⟩) (fun u H locs hw hP hD hS => ?_)
  have hw_2 : True := hw
  have hP : va_P G.1 vwCl [(x0, .inr (5, [.ref c0, .ref t0, .ref b0, .ref po, .ref kr, .ref r0, .int (nI (ln))])), (c0, .inr (1, [.ref crs, .ref crw, .ref crh, .ref crp, .ref crz, .int (nI (n))]))] H := hP
  have hD : va_D A [(x0, .inr (5, [.ref c0, .ref t0, .ref b0, .ref po, .ref kr, .ref r0, .int (nI (ln))])), (c0, .inr (1, [.ref crs, .ref crw, .ref crh, .ref crp, .ref crz, .int (nI (n))]))] := hD
  refine lv_aload_n hx hb dX5_cut_5 rfl (lv_at hl 0 rfl) ?_
  refine va_get (D := G.1) (ci := 5) (v := .ref c0) (C := RX5) (T := TX5) (N := 7) hx hb hts hinX5 hown hK hP 0 rfl rfl 0 (by decide) hf10 (fun _ h9 => h9) rfl dX5_cut_6 ?_
  refine va_get (D := G.1) (ci := 1) (v := .int (nI (n))) (C := RX1) (T := TX1) (N := 6) hx hb hts hinX1 hown hK hP 1 rfl rfl 5 (by decide) hf56 (fun _ h9 => h9) rfl dX5_cut_9 ?_
  refine lv_iconst (v := 1) hx hb dX5_cut_12 (by decide) ?_
  refine g_icmp_gt (a := n) (b := 1) (tgt := 26) hx hb (by omega) (by omega) dX5_cut_13 (by decide) (fun c_13 => ?_) (fun c_13 => ?_)
  · omega
  · skip
    rw [hQ]
    exact x_thr (ik := 59) (is := 76) (ic := 63) (text := "the chain has only one link") hx hb hfl hown (by decide +kernel) hts (by decide +kernel) t_IS o2_IS (by decide +kernel) hX hK hP hD hS (by rw [hml]; exact hl.1) dX5_cut_16 dX5_cut_19 dX5_cut_20 dX5_cut_22 dX5_cut_25 hout (Nat.le_of_ble_eq_true rfl) (Nat.le_of_ble_eq_true rfl) (Nat.le_of_ble_eq_true rfl) (Nat.le_of_ble_eq_true rfl) hlocks () [0, 1] rfl rfl (by decide) (Nat.le_of_ble_eq_true rfl) (Nat.le_of_ble_eq_true rfl)
set_option maxHeartbeats 4000000 in
set_option maxRecDepth 100000 in
theorem c_X5_bend_t1 (l : Launch) (G : kG) (x0 : Nat) (c0 : Nat) (t0 : Nat) (b0 : Nat) (po : Nat) (kr : Nat) (r0 : Nat) (ln : Nat) (crs : Nat) (crw : Nat) (crh : Nat) (crp : Nat) (crz : Nat) (n : Nat) (k : Int32) (v : Int32) (sz : Nat) (hfl : l.stackTraces = false) (hn1 : 1 ≤ n) (hn : n ≤ 20) (h1 : isN k n = false) : xMet l yX5_bend wsX5_bend ({ frames := 7, cells := 1, slots := 6, locals := 103 } : Room) G [.ref x0, .int k, .int v] [(x0, .inr (5, [.ref c0, .ref t0, .ref b0, .ref po, .ref kr, .ref r0, .int (nI (ln))])), (c0, .inr (1, [.ref crs, .ref crw, .ref crh, .ref crp, .ref crz, .int (nI (n))]))] sz kIO (fun (u : Unit) => [(x0, .inr (5, [.ref c0, .ref t0, .ref b0, .ref po, .ref kr, .ref r0, .int (nI (ln))])), (c0, .inr (1, [.ref crs, .ref crw, .ref crh, .ref crp, .ref crz, .int (nI (n))]))]) 1 6 := by
  refine x_entry (cc := cX5_bend) (maxL := 4) (ret := (some .int)) (by decide) rfl (Nat.le_of_ble_eq_true rfl) ?_
  intro p e s m args below meth c A ls H locs Q hQ hx hb hml hout hX hts hown hlocks hA hP hK hD hS hl
  have hown : s.vm.findClass RX5 = some m.cls := hown
  have hl : lv_has ls 4 [(0, .ref x0), (1, .int k), (2, .int v)] := hl
  refine lv_aload_n hx hb dX5_bend_0 rfl (lv_at hl 0 rfl) ?_
  refine lv_iload_n hx hb dX5_bend_1 rfl (lv_at hl 1 rfl) ?_
  refine x_call (wr := []) [] rfl (by decide) [0, 1] rfl (by decide) hP hD hS hA (x_V (n := 1) (ci := 5) (As := [.int k]) (rest := []) (wc := [(x0, .inr (5, [.ref c0, .ref t0, .ref b0, .ref po, .ref kr, .ref r0, .int (nI (ln))])), (c0, .inr (1, [.ref crs, .ref crw, .ref crh, .ref crp, .ref crz, .int (nI (n))]))]) hx hb hml hown hts hX hS hA hK hP hD hl (c_X5_requireLink_t l G x0 c0 t0 b0 po kr r0 ln crs crw crh crp crz n k H.size hfl (by first | assumption | omega) (by first | assumption | omega)) [0, 1] rfl (by decide) gX5_bend_X5_requireLink rfl rfl rfl (by decide +kernel) rfl ⟨Nat.le_of_ble_eq_true rfl, Nat.le_of_ble_eq_true rfl⟩ rfl rfl rfl (Nat.le_of_ble_eq_true rfl) dX5_bend_2 ⟨Nat.le_of_ble_eq_true rfl, Nat.le_of_ble_eq_true rfl⟩) (fun u ce9 q9 H locs hP hD hS hce hcv hcl => ?_)
  have hP : va_P G.1 vwCl [(x0, .inr (5, [.ref c0, .ref t0, .ref b0, .ref po, .ref kr, .ref r0, .int (nI (ln))])), (c0, .inr (1, [.ref crs, .ref crw, .ref crh, .ref crp, .ref crz, .int (nI (n))]))] H := hP
  have hD : va_D A [(x0, .inr (5, [.ref c0, .ref t0, .ref b0, .ref po, .ref kr, .ref r0, .int (nI (ln))])), (c0, .inr (1, [.ref crs, .ref crw, .ref crh, .ref crp, .ref crz, .int (nI (n))]))] := hD
  rw [hQ]
  exact x_out hout hlocks hce hcv hcl hK hP hD hS () [0, 1] rfl rfl (by decide) (Nat.le_of_ble_eq_true rfl) (Nat.le_of_ble_eq_true rfl)
set_option maxHeartbeats 4000000 in
set_option maxRecDepth 100000 in
theorem c_X5_bend_t2 (l : Launch) (G : kG) (x0 : Nat) (c0 : Nat) (t0 : Nat) (b0 : Nat) (po : Nat) (kr : Nat) (r0 : Nat) (ln : Nat) (crs : Nat) (crw : Nat) (crh : Nat) (crp : Nat) (crz : Nat) (n : Nat) (j : Nat) (v : Int32) (sz : Nat) (hfl : l.stackTraces = false) (hn1 : 1 ≤ n) (hn : n ≤ 20) (hj : j < n) (h2 : ¬ (-2 ≤ v ∧ v ≤ 2)) : xMet l yX5_bend wsX5_bend ({ frames := 7, cells := 1, slots := 6, locals := 102 } : Room) G [.ref x0, .int (nI (j)), .int v] [(x0, .inr (5, [.ref c0, .ref t0, .ref b0, .ref po, .ref kr, .ref r0, .int (nI (ln))])), (c0, .inr (1, [.ref crs, .ref crw, .ref crh, .ref crp, .ref crz, .int (nI (n))]))] sz kIA (fun (u : Unit) => [(x0, .inr (5, [.ref c0, .ref t0, .ref b0, .ref po, .ref kr, .ref r0, .int (nI (ln))])), (c0, .inr (1, [.ref crs, .ref crw, .ref crh, .ref crp, .ref crz, .int (nI (n))]))]) 1 6 := by
  refine x_entry (cc := cX5_bend) (maxL := 4) (ret := (some .int)) (by decide) rfl (Nat.le_of_ble_eq_true rfl) ?_
  intro p e s m args below meth c A ls H locs Q hQ hx hb hml hout hX hts hown hlocks hA hP hK hD hS hl
  have hown : s.vm.findClass RX5 = some m.cls := hown
  have hl : lv_has ls 4 [(0, .ref x0), (1, .int (nI (j))), (2, .int v)] := hl
  refine lv_aload_n hx hb dX5_bend_0 rfl (lv_at hl 0 rfl) ?_
  refine lv_iload_n hx hb dX5_bend_1 rfl (lv_at hl 1 rfl) ?_
  refine k_cv (wr := []) [] rfl (by decide) [0, 1] rfl (by decide) hP hD hS hA (k_V (n := 1) (ci := 5) (As := [.int (nI (j))]) (rest := []) (wc := [(x0, .inr (5, [.ref c0, .ref t0, .ref b0, .ref po, .ref kr, .ref r0, .int (nI (ln))])), (c0, .inr (1, [.ref crs, .ref crw, .ref crh, .ref crp, .ref crz, .int (nI (n))]))]) hx hb hml hown hts hK hP hD hl (c_X5_requireLink_0 l G x0 c0 t0 b0 po kr r0 ln crs crw crh crp crz n j H.size (by first | assumption | omega) (by first | assumption | omega)) [0, 1] rfl (by decide) gX5_bend_X5_requireLink rfl rfl rfl (by decide +kernel) rfl ⟨Nat.le_of_ble_eq_true rfl, Nat.le_of_ble_eq_true rfl⟩ rfl rfl rfl (Nat.le_of_ble_eq_true rfl) dX5_bend_2 ⟨Nat.le_of_ble_eq_true rfl, Nat.le_of_ble_eq_true rfl⟩) (fun u H locs hw hP hD hS => ?_)
  have hw_2 : True := hw
  have hP : va_P G.1 vwCl [(x0, .inr (5, [.ref c0, .ref t0, .ref b0, .ref po, .ref kr, .ref r0, .int (nI (ln))])), (c0, .inr (1, [.ref crs, .ref crw, .ref crh, .ref crp, .ref crz, .int (nI (n))]))] H := hP
  have hD : va_D A [(x0, .inr (5, [.ref c0, .ref t0, .ref b0, .ref po, .ref kr, .ref r0, .int (nI (ln))])), (c0, .inr (1, [.ref crs, .ref crw, .ref crh, .ref crp, .ref crz, .int (nI (n))]))] := hD
  refine lv_iload_n hx hb dX5_bend_5 rfl (lv_at hl 2 rfl) ?_
  refine x_call (wr := [(x0, .inr (5, [.ref c0, .ref t0, .ref b0, .ref po, .ref kr, .ref r0, .int (nI (ln))])), (c0, .inr (1, [.ref crs, .ref crw, .ref crh, .ref crp, .ref crz, .int (nI (n))]))]) [0, 1] rfl (by decide) [] rfl (by decide) hP hD hS hA (x_S (n := 1) (As := [.int v]) (rest := []) (wc := []) hx hb hml hown hts hX hS hA hK hP hD hl (c_X5_requireStep_t l G v H.size hfl (by first | assumption | omega)) [] rfl (by decide) gX5_bend_X5_requireStep rfl rfl rfl (by decide +kernel) rfl ⟨Nat.le_of_ble_eq_true rfl, Nat.le_of_ble_eq_true rfl⟩ rfl (Nat.le_of_ble_eq_true rfl) dX5_bend_6 ⟨Nat.le_of_ble_eq_true rfl, Nat.le_of_ble_eq_true rfl⟩) (fun u ce9 q9 H locs hP hD hS hce hcv hcl => ?_)
  have hP : va_P G.1 vwCl [(x0, .inr (5, [.ref c0, .ref t0, .ref b0, .ref po, .ref kr, .ref r0, .int (nI (ln))])), (c0, .inr (1, [.ref crs, .ref crw, .ref crh, .ref crp, .ref crz, .int (nI (n))]))] H := hP
  have hD : va_D A [(x0, .inr (5, [.ref c0, .ref t0, .ref b0, .ref po, .ref kr, .ref r0, .int (nI (ln))])), (c0, .inr (1, [.ref crs, .ref crw, .ref crh, .ref crp, .ref crz, .int (nI (n))]))] := hD
  rw [hQ]
  exact x_out hout hlocks hce hcv hcl hK hP hD hS () [0, 1] rfl rfl (by decide) (Nat.le_of_ble_eq_true rfl) (Nat.le_of_ble_eq_true rfl)
set_option maxHeartbeats 4000000 in
set_option maxRecDepth 100000 in
theorem c_X5_weight_t1 (l : Launch) (G : kG) (x0 : Nat) (c0 : Nat) (t0 : Nat) (b0 : Nat) (po : Nat) (kr : Nat) (r0 : Nat) (ln : Nat) (crs : Nat) (crw : Nat) (crh : Nat) (crp : Nat) (crz : Nat) (n : Nat) (k : Int32) (v : Int32) (sz : Nat) (hfl : l.stackTraces = false) (hn1 : 1 ≤ n) (hn : n ≤ 20) (h1 : isN k (n + 1) = false) : xMet l yX5_weight wsX5_weight ({ frames := 7, cells := 1, slots := 6, locals := 103 } : Room) G [.ref x0, .int k, .int v] [(x0, .inr (5, [.ref c0, .ref t0, .ref b0, .ref po, .ref kr, .ref r0, .int (nI (ln))])), (c0, .inr (1, [.ref crs, .ref crw, .ref crh, .ref crp, .ref crz, .int (nI (n))]))] sz kIO (fun (u : Unit) => [(x0, .inr (5, [.ref c0, .ref t0, .ref b0, .ref po, .ref kr, .ref r0, .int (nI (ln))])), (c0, .inr (1, [.ref crs, .ref crw, .ref crh, .ref crp, .ref crz, .int (nI (n))]))]) 1 6 := by
  refine x_entry (cc := cX5_weight) (maxL := 3) (ret := (some .int)) (by decide) rfl (Nat.le_of_ble_eq_true rfl) ?_
  intro p e s m args below meth c A ls H locs Q hQ hx hb hml hout hX hts hown hlocks hA hP hK hD hS hl
  have hown : s.vm.findClass RX5 = some m.cls := hown
  have hl : lv_has ls 3 [(0, .ref x0), (1, .int k), (2, .int v)] := hl
  refine lv_aload_n hx hb dX5_weight_0 rfl (lv_at hl 0 rfl) ?_
  refine lv_iload_n hx hb dX5_weight_1 rfl (lv_at hl 1 rfl) ?_
  refine x_call (wr := []) [] rfl (by decide) [0, 1] rfl (by decide) hP hD hS hA (x_V (n := 1) (ci := 5) (As := [.int k]) (rest := []) (wc := [(x0, .inr (5, [.ref c0, .ref t0, .ref b0, .ref po, .ref kr, .ref r0, .int (nI (ln))])), (c0, .inr (1, [.ref crs, .ref crw, .ref crh, .ref crp, .ref crz, .int (nI (n))]))]) hx hb hml hown hts hX hS hA hK hP hD hl (c_X5_requireJoint_t l G x0 c0 t0 b0 po kr r0 ln crs crw crh crp crz n k H.size hfl (by first | assumption | omega) (by first | assumption | omega)) [0, 1] rfl (by decide) gX5_weight_X5_requireJoint rfl rfl rfl (by decide +kernel) rfl ⟨Nat.le_of_ble_eq_true rfl, Nat.le_of_ble_eq_true rfl⟩ rfl rfl rfl (Nat.le_of_ble_eq_true rfl) dX5_weight_2 ⟨Nat.le_of_ble_eq_true rfl, Nat.le_of_ble_eq_true rfl⟩) (fun u ce9 q9 H locs hP hD hS hce hcv hcl => ?_)
  have hP : va_P G.1 vwCl [(x0, .inr (5, [.ref c0, .ref t0, .ref b0, .ref po, .ref kr, .ref r0, .int (nI (ln))])), (c0, .inr (1, [.ref crs, .ref crw, .ref crh, .ref crp, .ref crz, .int (nI (n))]))] H := hP
  have hD : va_D A [(x0, .inr (5, [.ref c0, .ref t0, .ref b0, .ref po, .ref kr, .ref r0, .int (nI (ln))])), (c0, .inr (1, [.ref crs, .ref crw, .ref crh, .ref crp, .ref crz, .int (nI (n))]))] := hD
  rw [hQ]
  exact x_out hout hlocks hce hcv hcl hK hP hD hS () [0, 1] rfl rfl (by decide) (Nat.le_of_ble_eq_true rfl) (Nat.le_of_ble_eq_true rfl)
set_option maxHeartbeats 4000000 in
set_option maxRecDepth 100000 in
theorem c_X5_weight_t2 (l : Launch) (G : kG) (x0 : Nat) (c0 : Nat) (t0 : Nat) (b0 : Nat) (po : Nat) (kr : Nat) (r0 : Nat) (ln : Nat) (crs : Nat) (crw : Nat) (crh : Nat) (crp : Nat) (crz : Nat) (n : Nat) (j : Nat) (v : Int32) (sz : Nat) (hfl : l.stackTraces = false) (hn1 : 1 ≤ n) (hn : n ≤ 20) (hj : j ≤ n) (h2 : ¬ (0 ≤ v ∧ v ≤ 99)) : xMet l yX5_weight wsX5_weight ({ frames := 7, cells := 1, slots := 6, locals := 102 } : Room) G [.ref x0, .int (nI (j)), .int v] [(x0, .inr (5, [.ref c0, .ref t0, .ref b0, .ref po, .ref kr, .ref r0, .int (nI (ln))])), (c0, .inr (1, [.ref crs, .ref crw, .ref crh, .ref crp, .ref crz, .int (nI (n))]))] sz kIA (fun (u : Unit) => [(x0, .inr (5, [.ref c0, .ref t0, .ref b0, .ref po, .ref kr, .ref r0, .int (nI (ln))])), (c0, .inr (1, [.ref crs, .ref crw, .ref crh, .ref crp, .ref crz, .int (nI (n))]))]) 1 6 := by
  refine x_entry (cc := cX5_weight) (maxL := 3) (ret := (some .int)) (by decide) rfl (Nat.le_of_ble_eq_true rfl) ?_
  intro p e s m args below meth c A ls H locs Q hQ hx hb hml hout hX hts hown hlocks hA hP hK hD hS hl
  have hown : s.vm.findClass RX5 = some m.cls := hown
  have hl : lv_has ls 3 [(0, .ref x0), (1, .int (nI (j))), (2, .int v)] := hl
  refine lv_aload_n hx hb dX5_weight_0 rfl (lv_at hl 0 rfl) ?_
  refine lv_iload_n hx hb dX5_weight_1 rfl (lv_at hl 1 rfl) ?_
  refine k_cv (wr := []) [] rfl (by decide) [0, 1] rfl (by decide) hP hD hS hA (k_V (n := 1) (ci := 5) (As := [.int (nI (j))]) (rest := []) (wc := [(x0, .inr (5, [.ref c0, .ref t0, .ref b0, .ref po, .ref kr, .ref r0, .int (nI (ln))])), (c0, .inr (1, [.ref crs, .ref crw, .ref crh, .ref crp, .ref crz, .int (nI (n))]))]) hx hb hml hown hts hK hP hD hl (c_X5_requireJoint_0 l G x0 c0 t0 b0 po kr r0 ln crs crw crh crp crz n j H.size (by first | assumption | omega) (by first | assumption | omega)) [0, 1] rfl (by decide) gX5_weight_X5_requireJoint rfl rfl rfl (by decide +kernel) rfl ⟨Nat.le_of_ble_eq_true rfl, Nat.le_of_ble_eq_true rfl⟩ rfl rfl rfl (Nat.le_of_ble_eq_true rfl) dX5_weight_2 ⟨Nat.le_of_ble_eq_true rfl, Nat.le_of_ble_eq_true rfl⟩) (fun u H locs hw hP hD hS => ?_)
  have hw_2 : True := hw
  have hP : va_P G.1 vwCl [(x0, .inr (5, [.ref c0, .ref t0, .ref b0, .ref po, .ref kr, .ref r0, .int (nI (ln))])), (c0, .inr (1, [.ref crs, .ref crw, .ref crh, .ref crp, .ref crz, .int (nI (n))]))] H := hP
  have hD : va_D A [(x0, .inr (5, [.ref c0, .ref t0, .ref b0, .ref po, .ref kr, .ref r0, .int (nI (ln))])), (c0, .inr (1, [.ref crs, .ref crw, .ref crh, .ref crp, .ref crz, .int (nI (n))]))] := hD
  refine lv_iload_n hx hb dX5_weight_5 rfl (lv_at hl 2 rfl) ?_
  refine x_call (wr := [(x0, .inr (5, [.ref c0, .ref t0, .ref b0, .ref po, .ref kr, .ref r0, .int (nI (ln))])), (c0, .inr (1, [.ref crs, .ref crw, .ref crh, .ref crp, .ref crz, .int (nI (n))]))]) [0, 1] rfl (by decide) [] rfl (by decide) hP hD hS hA (x_S (n := 1) (As := [.int v]) (rest := []) (wc := []) hx hb hml hown hts hX hS hA hK hP hD hl (c_X5_requireAmount_t l G v H.size hfl (by first | assumption | omega)) [] rfl (by decide) gX5_weight_X5_requireAmount rfl rfl rfl (by decide +kernel) rfl ⟨Nat.le_of_ble_eq_true rfl, Nat.le_of_ble_eq_true rfl⟩ rfl (Nat.le_of_ble_eq_true rfl) dX5_weight_6 ⟨Nat.le_of_ble_eq_true rfl, Nat.le_of_ble_eq_true rfl⟩) (fun u ce9 q9 H locs hP hD hS hce hcv hcl => ?_)
  have hP : va_P G.1 vwCl [(x0, .inr (5, [.ref c0, .ref t0, .ref b0, .ref po, .ref kr, .ref r0, .int (nI (ln))])), (c0, .inr (1, [.ref crs, .ref crw, .ref crh, .ref crp, .ref crz, .int (nI (n))]))] H := hP
  have hD : va_D A [(x0, .inr (5, [.ref c0, .ref t0, .ref b0, .ref po, .ref kr, .ref r0, .int (nI (ln))])), (c0, .inr (1, [.ref crs, .ref crw, .ref crh, .ref crp, .ref crz, .int (nI (n))]))] := hD
  rw [hQ]
  exact x_out hout hlocks hce hcv hcl hK hP hD hS () [0, 1] rfl rfl (by decide) (Nat.le_of_ble_eq_true rfl) (Nat.le_of_ble_eq_true rfl)
set_option maxHeartbeats 4000000 in
set_option maxRecDepth 100000 in
theorem c_X5_hanger_t1 (l : Launch) (G : kG) (x0 : Nat) (c0 : Nat) (t0 : Nat) (b0 : Nat) (po : Nat) (kr : Nat) (r0 : Nat) (ln : Nat) (crs : Nat) (crw : Nat) (crh : Nat) (crp : Nat) (crz : Nat) (n : Nat) (k : Int32) (v : Int32) (sz : Nat) (hfl : l.stackTraces = false) (hn1 : 1 ≤ n) (hn : n ≤ 20) (h1 : isN k (n + 1) = false) : xMet l yX5_hanger wsX5_hanger ({ frames := 7, cells := 1, slots := 6, locals := 103 } : Room) G [.ref x0, .int k, .int v] [(x0, .inr (5, [.ref c0, .ref t0, .ref b0, .ref po, .ref kr, .ref r0, .int (nI (ln))])), (c0, .inr (1, [.ref crs, .ref crw, .ref crh, .ref crp, .ref crz, .int (nI (n))]))] sz kIO (fun (u : Unit) => [(x0, .inr (5, [.ref c0, .ref t0, .ref b0, .ref po, .ref kr, .ref r0, .int (nI (ln))])), (c0, .inr (1, [.ref crs, .ref crw, .ref crh, .ref crp, .ref crz, .int (nI (n))]))]) 1 6 := by
  refine x_entry (cc := cX5_hanger) (maxL := 3) (ret := (some .int)) (by decide) rfl (Nat.le_of_ble_eq_true rfl) ?_
  intro p e s m args below meth c A ls H locs Q hQ hx hb hml hout hX hts hown hlocks hA hP hK hD hS hl
  have hown : s.vm.findClass RX5 = some m.cls := hown
  have hl : lv_has ls 3 [(0, .ref x0), (1, .int k), (2, .int v)] := hl
  refine lv_aload_n hx hb dX5_hanger_0 rfl (lv_at hl 0 rfl) ?_
  refine lv_iload_n hx hb dX5_hanger_1 rfl (lv_at hl 1 rfl) ?_
  refine x_call (wr := []) [] rfl (by decide) [0, 1] rfl (by decide) hP hD hS hA (x_V (n := 1) (ci := 5) (As := [.int k]) (rest := []) (wc := [(x0, .inr (5, [.ref c0, .ref t0, .ref b0, .ref po, .ref kr, .ref r0, .int (nI (ln))])), (c0, .inr (1, [.ref crs, .ref crw, .ref crh, .ref crp, .ref crz, .int (nI (n))]))]) hx hb hml hown hts hX hS hA hK hP hD hl (c_X5_requireJoint_t l G x0 c0 t0 b0 po kr r0 ln crs crw crh crp crz n k H.size hfl (by first | assumption | omega) (by first | assumption | omega)) [0, 1] rfl (by decide) gX5_hanger_X5_requireJoint rfl rfl rfl (by decide +kernel) rfl ⟨Nat.le_of_ble_eq_true rfl, Nat.le_of_ble_eq_true rfl⟩ rfl rfl rfl (Nat.le_of_ble_eq_true rfl) dX5_hanger_2 ⟨Nat.le_of_ble_eq_true rfl, Nat.le_of_ble_eq_true rfl⟩) (fun u ce9 q9 H locs hP hD hS hce hcv hcl => ?_)
  have hP : va_P G.1 vwCl [(x0, .inr (5, [.ref c0, .ref t0, .ref b0, .ref po, .ref kr, .ref r0, .int (nI (ln))])), (c0, .inr (1, [.ref crs, .ref crw, .ref crh, .ref crp, .ref crz, .int (nI (n))]))] H := hP
  have hD : va_D A [(x0, .inr (5, [.ref c0, .ref t0, .ref b0, .ref po, .ref kr, .ref r0, .int (nI (ln))])), (c0, .inr (1, [.ref crs, .ref crw, .ref crh, .ref crp, .ref crz, .int (nI (n))]))] := hD
  rw [hQ]
  exact x_out hout hlocks hce hcv hcl hK hP hD hS () [0, 1] rfl rfl (by decide) (Nat.le_of_ble_eq_true rfl) (Nat.le_of_ble_eq_true rfl)
set_option maxHeartbeats 4000000 in
set_option maxRecDepth 100000 in
theorem c_X5_hanger_t2 (l : Launch) (G : kG) (x0 : Nat) (c0 : Nat) (t0 : Nat) (b0 : Nat) (po : Nat) (kr : Nat) (r0 : Nat) (ln : Nat) (crs : Nat) (crw : Nat) (crh : Nat) (crp : Nat) (crz : Nat) (n : Nat) (j : Nat) (v : Int32) (sz : Nat) (hfl : l.stackTraces = false) (hn1 : 1 ≤ n) (hn : n ≤ 20) (hj : j ≤ n) (h2 : ¬ (0 ≤ v ∧ v ≤ 99)) : xMet l yX5_hanger wsX5_hanger ({ frames := 7, cells := 1, slots := 6, locals := 102 } : Room) G [.ref x0, .int (nI (j)), .int v] [(x0, .inr (5, [.ref c0, .ref t0, .ref b0, .ref po, .ref kr, .ref r0, .int (nI (ln))])), (c0, .inr (1, [.ref crs, .ref crw, .ref crh, .ref crp, .ref crz, .int (nI (n))]))] sz kIA (fun (u : Unit) => [(x0, .inr (5, [.ref c0, .ref t0, .ref b0, .ref po, .ref kr, .ref r0, .int (nI (ln))])), (c0, .inr (1, [.ref crs, .ref crw, .ref crh, .ref crp, .ref crz, .int (nI (n))]))]) 1 6 := by
  refine x_entry (cc := cX5_hanger) (maxL := 3) (ret := (some .int)) (by decide) rfl (Nat.le_of_ble_eq_true rfl) ?_
  intro p e s m args below meth c A ls H locs Q hQ hx hb hml hout hX hts hown hlocks hA hP hK hD hS hl
  have hown : s.vm.findClass RX5 = some m.cls := hown
  have hl : lv_has ls 3 [(0, .ref x0), (1, .int (nI (j))), (2, .int v)] := hl
  refine lv_aload_n hx hb dX5_hanger_0 rfl (lv_at hl 0 rfl) ?_
  refine lv_iload_n hx hb dX5_hanger_1 rfl (lv_at hl 1 rfl) ?_
  refine k_cv (wr := []) [] rfl (by decide) [0, 1] rfl (by decide) hP hD hS hA (k_V (n := 1) (ci := 5) (As := [.int (nI (j))]) (rest := []) (wc := [(x0, .inr (5, [.ref c0, .ref t0, .ref b0, .ref po, .ref kr, .ref r0, .int (nI (ln))])), (c0, .inr (1, [.ref crs, .ref crw, .ref crh, .ref crp, .ref crz, .int (nI (n))]))]) hx hb hml hown hts hK hP hD hl (c_X5_requireJoint_0 l G x0 c0 t0 b0 po kr r0 ln crs crw crh crp crz n j H.size (by first | assumption | omega) (by first | assumption | omega)) [0, 1] rfl (by decide) gX5_hanger_X5_requireJoint rfl rfl rfl (by decide +kernel) rfl ⟨Nat.le_of_ble_eq_true rfl, Nat.le_of_ble_eq_true rfl⟩ rfl rfl rfl (Nat.le_of_ble_eq_true rfl) dX5_hanger_2 ⟨Nat.le_of_ble_eq_true rfl, Nat.le_of_ble_eq_true rfl⟩) (fun u H locs hw hP hD hS => ?_)
  have hw_2 : True := hw
  have hP : va_P G.1 vwCl [(x0, .inr (5, [.ref c0, .ref t0, .ref b0, .ref po, .ref kr, .ref r0, .int (nI (ln))])), (c0, .inr (1, [.ref crs, .ref crw, .ref crh, .ref crp, .ref crz, .int (nI (n))]))] H := hP
  have hD : va_D A [(x0, .inr (5, [.ref c0, .ref t0, .ref b0, .ref po, .ref kr, .ref r0, .int (nI (ln))])), (c0, .inr (1, [.ref crs, .ref crw, .ref crh, .ref crp, .ref crz, .int (nI (n))]))] := hD
  refine lv_iload_n hx hb dX5_hanger_5 rfl (lv_at hl 2 rfl) ?_
  refine x_call (wr := [(x0, .inr (5, [.ref c0, .ref t0, .ref b0, .ref po, .ref kr, .ref r0, .int (nI (ln))])), (c0, .inr (1, [.ref crs, .ref crw, .ref crh, .ref crp, .ref crz, .int (nI (n))]))]) [0, 1] rfl (by decide) [] rfl (by decide) hP hD hS hA (x_S (n := 1) (As := [.int v]) (rest := []) (wc := []) hx hb hml hown hts hX hS hA hK hP hD hl (c_X5_requireAmount_t l G v H.size hfl (by first | assumption | omega)) [] rfl (by decide) gX5_hanger_X5_requireAmount rfl rfl rfl (by decide +kernel) rfl ⟨Nat.le_of_ble_eq_true rfl, Nat.le_of_ble_eq_true rfl⟩ rfl (Nat.le_of_ble_eq_true rfl) dX5_hanger_6 ⟨Nat.le_of_ble_eq_true rfl, Nat.le_of_ble_eq_true rfl⟩) (fun u ce9 q9 H locs hP hD hS hce hcv hcl => ?_)
  have hP : va_P G.1 vwCl [(x0, .inr (5, [.ref c0, .ref t0, .ref b0, .ref po, .ref kr, .ref r0, .int (nI (ln))])), (c0, .inr (1, [.ref crs, .ref crw, .ref crh, .ref crp, .ref crz, .int (nI (n))]))] H := hP
  have hD : va_D A [(x0, .inr (5, [.ref c0, .ref t0, .ref b0, .ref po, .ref kr, .ref r0, .int (nI (ln))])), (c0, .inr (1, [.ref crs, .ref crw, .ref crh, .ref crp, .ref crz, .int (nI (n))]))] := hD
  rw [hQ]
  exact x_out hout hlocks hce hcv hcl hK hP hD hS () [0, 1] rfl rfl (by decide) (Nat.le_of_ble_eq_true rfl) (Nat.le_of_ble_eq_true rfl)
set_option maxHeartbeats 4000000 in
set_option maxRecDepth 100000 in
theorem c_X5_prop_t1 (l : Launch) (G : kG) (x0 : Nat) (c0 : Nat) (t0 : Nat) (b0 : Nat) (po : Nat) (kr : Nat) (r0 : Nat) (ln : Nat) (crs : Nat) (crw : Nat) (crh : Nat) (crp : Nat) (crz : Nat) (n : Nat) (k : Int32) (v : Int32) (sz : Nat) (hfl : l.stackTraces = false) (hn1 : 1 ≤ n) (hn : n ≤ 20) (h1 : isN k (n + 1) = false) : xMet l yX5_prop wsX5_prop ({ frames := 7, cells := 1, slots := 6, locals := 103 } : Room) G [.ref x0, .int k, .int v] [(x0, .inr (5, [.ref c0, .ref t0, .ref b0, .ref po, .ref kr, .ref r0, .int (nI (ln))])), (c0, .inr (1, [.ref crs, .ref crw, .ref crh, .ref crp, .ref crz, .int (nI (n))]))] sz kIO (fun (u : Unit) => [(x0, .inr (5, [.ref c0, .ref t0, .ref b0, .ref po, .ref kr, .ref r0, .int (nI (ln))])), (c0, .inr (1, [.ref crs, .ref crw, .ref crh, .ref crp, .ref crz, .int (nI (n))]))]) 1 6 := by
  refine x_entry (cc := cX5_prop) (maxL := 3) (ret := (some .int)) (by decide) rfl (Nat.le_of_ble_eq_true rfl) ?_
  intro p e s m args below meth c A ls H locs Q hQ hx hb hml hout hX hts hown hlocks hA hP hK hD hS hl
  have hown : s.vm.findClass RX5 = some m.cls := hown
  have hl : lv_has ls 3 [(0, .ref x0), (1, .int k), (2, .int v)] := hl
  refine lv_aload_n hx hb dX5_prop_0 rfl (lv_at hl 0 rfl) ?_
  refine lv_iload_n hx hb dX5_prop_1 rfl (lv_at hl 1 rfl) ?_
  refine x_call (wr := []) [] rfl (by decide) [0, 1] rfl (by decide) hP hD hS hA (x_V (n := 1) (ci := 5) (As := [.int k]) (rest := []) (wc := [(x0, .inr (5, [.ref c0, .ref t0, .ref b0, .ref po, .ref kr, .ref r0, .int (nI (ln))])), (c0, .inr (1, [.ref crs, .ref crw, .ref crh, .ref crp, .ref crz, .int (nI (n))]))]) hx hb hml hown hts hX hS hA hK hP hD hl (c_X5_requireJoint_t l G x0 c0 t0 b0 po kr r0 ln crs crw crh crp crz n k H.size hfl (by first | assumption | omega) (by first | assumption | omega)) [0, 1] rfl (by decide) gX5_prop_X5_requireJoint rfl rfl rfl (by decide +kernel) rfl ⟨Nat.le_of_ble_eq_true rfl, Nat.le_of_ble_eq_true rfl⟩ rfl rfl rfl (Nat.le_of_ble_eq_true rfl) dX5_prop_2 ⟨Nat.le_of_ble_eq_true rfl, Nat.le_of_ble_eq_true rfl⟩) (fun u ce9 q9 H locs hP hD hS hce hcv hcl => ?_)
  have hP : va_P G.1 vwCl [(x0, .inr (5, [.ref c0, .ref t0, .ref b0, .ref po, .ref kr, .ref r0, .int (nI (ln))])), (c0, .inr (1, [.ref crs, .ref crw, .ref crh, .ref crp, .ref crz, .int (nI (n))]))] H := hP
  have hD : va_D A [(x0, .inr (5, [.ref c0, .ref t0, .ref b0, .ref po, .ref kr, .ref r0, .int (nI (ln))])), (c0, .inr (1, [.ref crs, .ref crw, .ref crh, .ref crp, .ref crz, .int (nI (n))]))] := hD
  rw [hQ]
  exact x_out hout hlocks hce hcv hcl hK hP hD hS () [0, 1] rfl rfl (by decide) (Nat.le_of_ble_eq_true rfl) (Nat.le_of_ble_eq_true rfl)
set_option maxHeartbeats 4000000 in
set_option maxRecDepth 100000 in
theorem c_X5_prop_t2 (l : Launch) (G : kG) (x0 : Nat) (c0 : Nat) (t0 : Nat) (b0 : Nat) (po : Nat) (kr : Nat) (r0 : Nat) (ln : Nat) (crs : Nat) (crw : Nat) (crh : Nat) (crp : Nat) (crz : Nat) (n : Nat) (j : Nat) (v : Int32) (sz : Nat) (hfl : l.stackTraces = false) (hn1 : 1 ≤ n) (hn : n ≤ 20) (hj : j ≤ n) (h2 : ¬ (0 ≤ v ∧ v ≤ 99)) : xMet l yX5_prop wsX5_prop ({ frames := 7, cells := 1, slots := 6, locals := 102 } : Room) G [.ref x0, .int (nI (j)), .int v] [(x0, .inr (5, [.ref c0, .ref t0, .ref b0, .ref po, .ref kr, .ref r0, .int (nI (ln))])), (c0, .inr (1, [.ref crs, .ref crw, .ref crh, .ref crp, .ref crz, .int (nI (n))]))] sz kIA (fun (u : Unit) => [(x0, .inr (5, [.ref c0, .ref t0, .ref b0, .ref po, .ref kr, .ref r0, .int (nI (ln))])), (c0, .inr (1, [.ref crs, .ref crw, .ref crh, .ref crp, .ref crz, .int (nI (n))]))]) 1 6 := by
  refine x_entry (cc := cX5_prop) (maxL := 3) (ret := (some .int)) (by decide) rfl (Nat.le_of_ble_eq_true rfl) ?_
  intro p e s m args below meth c A ls H locs Q hQ hx hb hml hout hX hts hown hlocks hA hP hK hD hS hl
  have hown : s.vm.findClass RX5 = some m.cls := hown
  have hl : lv_has ls 3 [(0, .ref x0), (1, .int (nI (j))), (2, .int v)] := hl
  refine lv_aload_n hx hb dX5_prop_0 rfl (lv_at hl 0 rfl) ?_
  refine lv_iload_n hx hb dX5_prop_1 rfl (lv_at hl 1 rfl) ?_
  refine k_cv (wr := []) [] rfl (by decide) [0, 1] rfl (by decide) hP hD hS hA (k_V (n := 1) (ci := 5) (As := [.int (nI (j))]) (rest := []) (wc := [(x0, .inr (5, [.ref c0, .ref t0, .ref b0, .ref po, .ref kr, .ref r0, .int (nI (ln))])), (c0, .inr (1, [.ref crs, .ref crw, .ref crh, .ref crp, .ref crz, .int (nI (n))]))]) hx hb hml hown hts hK hP hD hl (c_X5_requireJoint_0 l G x0 c0 t0 b0 po kr r0 ln crs crw crh crp crz n j H.size (by first | assumption | omega) (by first | assumption | omega)) [0, 1] rfl (by decide) gX5_prop_X5_requireJoint rfl rfl rfl (by decide +kernel) rfl ⟨Nat.le_of_ble_eq_true rfl, Nat.le_of_ble_eq_true rfl⟩ rfl rfl rfl (Nat.le_of_ble_eq_true rfl) dX5_prop_2 ⟨Nat.le_of_ble_eq_true rfl, Nat.le_of_ble_eq_true rfl⟩) (fun u H locs hw hP hD hS => ?_)
  have hw_2 : True := hw
  have hP : va_P G.1 vwCl [(x0, .inr (5, [.ref c0, .ref t0, .ref b0, .ref po, .ref kr, .ref r0, .int (nI (ln))])), (c0, .inr (1, [.ref crs, .ref crw, .ref crh, .ref crp, .ref crz, .int (nI (n))]))] H := hP
  have hD : va_D A [(x0, .inr (5, [.ref c0, .ref t0, .ref b0, .ref po, .ref kr, .ref r0, .int (nI (ln))])), (c0, .inr (1, [.ref crs, .ref crw, .ref crh, .ref crp, .ref crz, .int (nI (n))]))] := hD
  refine lv_iload_n hx hb dX5_prop_5 rfl (lv_at hl 2 rfl) ?_
  refine x_call (wr := [(x0, .inr (5, [.ref c0, .ref t0, .ref b0, .ref po, .ref kr, .ref r0, .int (nI (ln))])), (c0, .inr (1, [.ref crs, .ref crw, .ref crh, .ref crp, .ref crz, .int (nI (n))]))]) [0, 1] rfl (by decide) [] rfl (by decide) hP hD hS hA (x_S (n := 1) (As := [.int v]) (rest := []) (wc := []) hx hb hml hown hts hX hS hA hK hP hD hl (c_X5_requireAmount_t l G v H.size hfl (by first | assumption | omega)) [] rfl (by decide) gX5_prop_X5_requireAmount rfl rfl rfl (by decide +kernel) rfl ⟨Nat.le_of_ble_eq_true rfl, Nat.le_of_ble_eq_true rfl⟩ rfl (Nat.le_of_ble_eq_true rfl) dX5_prop_6 ⟨Nat.le_of_ble_eq_true rfl, Nat.le_of_ble_eq_true rfl⟩) (fun u ce9 q9 H locs hP hD hS hce hcv hcl => ?_)
  have hP : va_P G.1 vwCl [(x0, .inr (5, [.ref c0, .ref t0, .ref b0, .ref po, .ref kr, .ref r0, .int (nI (ln))])), (c0, .inr (1, [.ref crs, .ref crw, .ref crh, .ref crp, .ref crz, .int (nI (n))]))] H := hP
  have hD : va_D A [(x0, .inr (5, [.ref c0, .ref t0, .ref b0, .ref po, .ref kr, .ref r0, .int (nI (ln))])), (c0, .inr (1, [.ref crs, .ref crw, .ref crh, .ref crp, .ref crz, .int (nI (n))]))] := hD
  rw [hQ]
  exact x_out hout hlocks hce hcv hcl hK hP hD hS () [0, 1] rfl rfl (by decide) (Nat.le_of_ble_eq_true rfl) (Nat.le_of_ble_eq_true rfl)
set_option maxHeartbeats 4000000 in
set_option maxRecDepth 100000 in
theorem c_X5_ifWeight_t1 (l : Launch) (G : kG) (x0 : Nat) (c0 : Nat) (t0 : Nat) (b0 : Nat) (po : Nat) (kr : Nat) (r0 : Nat) (ln : Nat) (crs : Nat) (crw : Nat) (crh : Nat) (crp : Nat) (crz : Nat) (n : Nat) (k : Int32) (v : Int32) (sz : Nat) (hfl : l.stackTraces = false) (hn1 : 1 ≤ n) (hn : n ≤ 20) (h1 : isN k (n + 1) = false) : xMet l yX5_ifWeight wsX5_ifWeight ({ frames := 7, cells := 1, slots := 6, locals := 103 } : Room) G [.ref x0, .int k, .int v] [(x0, .inr (5, [.ref c0, .ref t0, .ref b0, .ref po, .ref kr, .ref r0, .int (nI (ln))])), (c0, .inr (1, [.ref crs, .ref crw, .ref crh, .ref crp, .ref crz, .int (nI (n))]))] sz kIO (fun (u : Unit) => [(x0, .inr (5, [.ref c0, .ref t0, .ref b0, .ref po, .ref kr, .ref r0, .int (nI (ln))])), (c0, .inr (1, [.ref crs, .ref crw, .ref crh, .ref crp, .ref crz, .int (nI (n))]))]) 1 6 := by
  refine x_entry (cc := cX5_ifWeight) (maxL := 3) (ret := (some .int)) (by decide) rfl (Nat.le_of_ble_eq_true rfl) ?_
  intro p e s m args below meth c A ls H locs Q hQ hx hb hml hout hX hts hown hlocks hA hP hK hD hS hl
  have hown : s.vm.findClass RX5 = some m.cls := hown
  have hl : lv_has ls 3 [(0, .ref x0), (1, .int k), (2, .int v)] := hl
  refine lv_aload_n hx hb dX5_ifWeight_0 rfl (lv_at hl 0 rfl) ?_
  refine lv_iload_n hx hb dX5_ifWeight_1 rfl (lv_at hl 1 rfl) ?_
  refine x_call (wr := []) [] rfl (by decide) [0, 1] rfl (by decide) hP hD hS hA (x_V (n := 1) (ci := 5) (As := [.int k]) (rest := []) (wc := [(x0, .inr (5, [.ref c0, .ref t0, .ref b0, .ref po, .ref kr, .ref r0, .int (nI (ln))])), (c0, .inr (1, [.ref crs, .ref crw, .ref crh, .ref crp, .ref crz, .int (nI (n))]))]) hx hb hml hown hts hX hS hA hK hP hD hl (c_X5_requireJoint_t l G x0 c0 t0 b0 po kr r0 ln crs crw crh crp crz n k H.size hfl (by first | assumption | omega) (by first | assumption | omega)) [0, 1] rfl (by decide) gX5_ifWeight_X5_requireJoint rfl rfl rfl (by decide +kernel) rfl ⟨Nat.le_of_ble_eq_true rfl, Nat.le_of_ble_eq_true rfl⟩ rfl rfl rfl (Nat.le_of_ble_eq_true rfl) dX5_ifWeight_2 ⟨Nat.le_of_ble_eq_true rfl, Nat.le_of_ble_eq_true rfl⟩) (fun u ce9 q9 H locs hP hD hS hce hcv hcl => ?_)
  have hP : va_P G.1 vwCl [(x0, .inr (5, [.ref c0, .ref t0, .ref b0, .ref po, .ref kr, .ref r0, .int (nI (ln))])), (c0, .inr (1, [.ref crs, .ref crw, .ref crh, .ref crp, .ref crz, .int (nI (n))]))] H := hP
  have hD : va_D A [(x0, .inr (5, [.ref c0, .ref t0, .ref b0, .ref po, .ref kr, .ref r0, .int (nI (ln))])), (c0, .inr (1, [.ref crs, .ref crw, .ref crh, .ref crp, .ref crz, .int (nI (n))]))] := hD
  rw [hQ]
  exact x_out hout hlocks hce hcv hcl hK hP hD hS () [0, 1] rfl rfl (by decide) (Nat.le_of_ble_eq_true rfl) (Nat.le_of_ble_eq_true rfl)
set_option maxHeartbeats 4000000 in
set_option maxRecDepth 100000 in
theorem c_X5_ifWeight_t2 (l : Launch) (G : kG) (x0 : Nat) (c0 : Nat) (t0 : Nat) (b0 : Nat) (po : Nat) (kr : Nat) (r0 : Nat) (ln : Nat) (crs : Nat) (crw : Nat) (crh : Nat) (crp : Nat) (crz : Nat) (n : Nat) (j : Nat) (v : Int32) (sz : Nat) (hfl : l.stackTraces = false) (hn1 : 1 ≤ n) (hn : n ≤ 20) (hj : j ≤ n) (h2 : ¬ (0 ≤ v ∧ v ≤ 99)) : xMet l yX5_ifWeight wsX5_ifWeight ({ frames := 7, cells := 1, slots := 6, locals := 102 } : Room) G [.ref x0, .int (nI (j)), .int v] [(x0, .inr (5, [.ref c0, .ref t0, .ref b0, .ref po, .ref kr, .ref r0, .int (nI (ln))])), (c0, .inr (1, [.ref crs, .ref crw, .ref crh, .ref crp, .ref crz, .int (nI (n))]))] sz kIA (fun (u : Unit) => [(x0, .inr (5, [.ref c0, .ref t0, .ref b0, .ref po, .ref kr, .ref r0, .int (nI (ln))])), (c0, .inr (1, [.ref crs, .ref crw, .ref crh, .ref crp, .ref crz, .int (nI (n))]))]) 1 6 := by
  refine x_entry (cc := cX5_ifWeight) (maxL := 3) (ret := (some .int)) (by decide) rfl (Nat.le_of_ble_eq_true rfl) ?_
  intro p e s m args below meth c A ls H locs Q hQ hx hb hml hout hX hts hown hlocks hA hP hK hD hS hl
  have hown : s.vm.findClass RX5 = some m.cls := hown
  have hl : lv_has ls 3 [(0, .ref x0), (1, .int (nI (j))), (2, .int v)] := hl
  refine lv_aload_n hx hb dX5_ifWeight_0 rfl (lv_at hl 0 rfl) ?_
  refine lv_iload_n hx hb dX5_ifWeight_1 rfl (lv_at hl 1 rfl) ?_
  refine k_cv (wr := []) [] rfl (by decide) [0, 1] rfl (by decide) hP hD hS hA (k_V (n := 1) (ci := 5) (As := [.int (nI (j))]) (rest := []) (wc := [(x0, .inr (5, [.ref c0, .ref t0, .ref b0, .ref po, .ref kr, .ref r0, .int (nI (ln))])), (c0, .inr (1, [.ref crs, .ref crw, .ref crh, .ref crp, .ref crz, .int (nI (n))]))]) hx hb hml hown hts hK hP hD hl (c_X5_requireJoint_0 l G x0 c0 t0 b0 po kr r0 ln crs crw crh crp crz n j H.size (by first | assumption | omega) (by first | assumption | omega)) [0, 1] rfl (by decide) gX5_ifWeight_X5_requireJoint rfl rfl rfl (by decide +kernel) rfl ⟨Nat.le_of_ble_eq_true rfl, Nat.le_of_ble_eq_true rfl⟩ rfl rfl rfl (Nat.le_of_ble_eq_true rfl) dX5_ifWeight_2 ⟨Nat.le_of_ble_eq_true rfl, Nat.le_of_ble_eq_true rfl⟩) (fun u H locs hw hP hD hS => ?_)
  have hw_2 : True := hw
  have hP : va_P G.1 vwCl [(x0, .inr (5, [.ref c0, .ref t0, .ref b0, .ref po, .ref kr, .ref r0, .int (nI (ln))])), (c0, .inr (1, [.ref crs, .ref crw, .ref crh, .ref crp, .ref crz, .int (nI (n))]))] H := hP
  have hD : va_D A [(x0, .inr (5, [.ref c0, .ref t0, .ref b0, .ref po, .ref kr, .ref r0, .int (nI (ln))])), (c0, .inr (1, [.ref crs, .ref crw, .ref crh, .ref crp, .ref crz, .int (nI (n))]))] := hD
  refine lv_iload_n hx hb dX5_ifWeight_5 rfl (lv_at hl 2 rfl) ?_
  refine x_call (wr := [(x0, .inr (5, [.ref c0, .ref t0, .ref b0, .ref po, .ref kr, .ref r0, .int (nI (ln))])), (c0, .inr (1, [.ref crs, .ref crw, .ref crh, .ref crp, .ref crz, .int (nI (n))]))]) [0, 1] rfl (by decide) [] rfl (by decide) hP hD hS hA (x_S (n := 1) (As := [.int v]) (rest := []) (wc := []) hx hb hml hown hts hX hS hA hK hP hD hl (c_X5_requireAmount_t l G v H.size hfl (by first | assumption | omega)) [] rfl (by decide) gX5_ifWeight_X5_requireAmount rfl rfl rfl (by decide +kernel) rfl ⟨Nat.le_of_ble_eq_true rfl, Nat.le_of_ble_eq_true rfl⟩ rfl (Nat.le_of_ble_eq_true rfl) dX5_ifWeight_6 ⟨Nat.le_of_ble_eq_true rfl, Nat.le_of_ble_eq_true rfl⟩) (fun u ce9 q9 H locs hP hD hS hce hcv hcl => ?_)
  have hP : va_P G.1 vwCl [(x0, .inr (5, [.ref c0, .ref t0, .ref b0, .ref po, .ref kr, .ref r0, .int (nI (ln))])), (c0, .inr (1, [.ref crs, .ref crw, .ref crh, .ref crp, .ref crz, .int (nI (n))]))] H := hP
  have hD : va_D A [(x0, .inr (5, [.ref c0, .ref t0, .ref b0, .ref po, .ref kr, .ref r0, .int (nI (ln))])), (c0, .inr (1, [.ref crs, .ref crw, .ref crh, .ref crp, .ref crz, .int (nI (n))]))] := hD
  rw [hQ]
  exact x_out hout hlocks hce hcv hcl hK hP hD hS () [0, 1] rfl rfl (by decide) (Nat.le_of_ble_eq_true rfl) (Nat.le_of_ble_eq_true rfl)
set_option maxHeartbeats 4000000 in
set_option maxRecDepth 100000 in
theorem c_X5_move_t1 (l : Launch) (G : kG) (x0 : Nat) (c0 : Nat) (t0 : Nat) (b0 : Nat) (po : Nat) (kr : Nat) (r0 : Nat) (ln : Nat) (crs : Nat) (crw : Nat) (crh : Nat) (crp : Nat) (crz : Nat) (n : Nat) (k : Int32) (v : Int32) (sz : Nat) (hfl : l.stackTraces = false) (hn1 : 1 ≤ n) (hn : n ≤ 20) (h1 : isN k (n + 1) = false) : xMet l yX5_move wsX5_move ({ frames := 7, cells := 1, slots := 6, locals := 103 } : Room) G [.ref x0, .int k, .int v] [(x0, .inr (5, [.ref c0, .ref t0, .ref b0, .ref po, .ref kr, .ref r0, .int (nI (ln))])), (c0, .inr (1, [.ref crs, .ref crw, .ref crh, .ref crp, .ref crz, .int (nI (n))]))] sz kIO (fun (u : Unit) => [(x0, .inr (5, [.ref c0, .ref t0, .ref b0, .ref po, .ref kr, .ref r0, .int (nI (ln))])), (c0, .inr (1, [.ref crs, .ref crw, .ref crh, .ref crp, .ref crz, .int (nI (n))]))]) 1 6 := by
  refine x_entry (cc := cX5_move) (maxL := 3) (ret := (some .int)) (by decide) rfl (Nat.le_of_ble_eq_true rfl) ?_
  intro p e s m args below meth c A ls H locs Q hQ hx hb hml hout hX hts hown hlocks hA hP hK hD hS hl
  have hown : s.vm.findClass RX5 = some m.cls := hown
  have hl : lv_has ls 3 [(0, .ref x0), (1, .int k), (2, .int v)] := hl
  refine lv_aload_n hx hb dX5_move_0 rfl (lv_at hl 0 rfl) ?_
  refine lv_iload_n hx hb dX5_move_1 rfl (lv_at hl 1 rfl) ?_
  refine x_call (wr := []) [] rfl (by decide) [0, 1] rfl (by decide) hP hD hS hA (x_V (n := 1) (ci := 5) (As := [.int k]) (rest := []) (wc := [(x0, .inr (5, [.ref c0, .ref t0, .ref b0, .ref po, .ref kr, .ref r0, .int (nI (ln))])), (c0, .inr (1, [.ref crs, .ref crw, .ref crh, .ref crp, .ref crz, .int (nI (n))]))]) hx hb hml hown hts hX hS hA hK hP hD hl (c_X5_requireJoint_t l G x0 c0 t0 b0 po kr r0 ln crs crw crh crp crz n k H.size hfl (by first | assumption | omega) (by first | assumption | omega)) [0, 1] rfl (by decide) gX5_move_X5_requireJoint rfl rfl rfl (by decide +kernel) rfl ⟨Nat.le_of_ble_eq_true rfl, Nat.le_of_ble_eq_true rfl⟩ rfl rfl rfl (Nat.le_of_ble_eq_true rfl) dX5_move_2 ⟨Nat.le_of_ble_eq_true rfl, Nat.le_of_ble_eq_true rfl⟩) (fun u ce9 q9 H locs hP hD hS hce hcv hcl => ?_)
  have hP : va_P G.1 vwCl [(x0, .inr (5, [.ref c0, .ref t0, .ref b0, .ref po, .ref kr, .ref r0, .int (nI (ln))])), (c0, .inr (1, [.ref crs, .ref crw, .ref crh, .ref crp, .ref crz, .int (nI (n))]))] H := hP
  have hD : va_D A [(x0, .inr (5, [.ref c0, .ref t0, .ref b0, .ref po, .ref kr, .ref r0, .int (nI (ln))])), (c0, .inr (1, [.ref crs, .ref crw, .ref crh, .ref crp, .ref crz, .int (nI (n))]))] := hD
  rw [hQ]
  exact x_out hout hlocks hce hcv hcl hK hP hD hS () [0, 1] rfl rfl (by decide) (Nat.le_of_ble_eq_true rfl) (Nat.le_of_ble_eq_true rfl)
set_option maxHeartbeats 4000000 in
set_option maxRecDepth 100000 in
theorem c_X5_move_t3 (l : Launch) (G : kG) (x0 : Nat) (c0 : Nat) (t0 : Nat) (b0 : Nat) (po : Nat) (kr : Nat) (r0 : Nat) (ln : Nat) (crs : Nat) (crw : Nat) (crh : Nat) (crp : Nat) (crz : Nat) (n : Nat) (j : Nat) (k : Int32) (sz : Nat) (hfl : l.stackTraces = false) (hn1 : 1 ≤ n) (hn : n ≤ 20) (hj : j ≤ n) (h1 : isN k (n + 1) = false) : xMet l yX5_move wsX5_move ({ frames := 7, cells := 1, slots := 6, locals := 103 } : Room) G [.ref x0, .int (nI (j)), .int k] [(x0, .inr (5, [.ref c0, .ref t0, .ref b0, .ref po, .ref kr, .ref r0, .int (nI (ln))])), (c0, .inr (1, [.ref crs, .ref crw, .ref crh, .ref crp, .ref crz, .int (nI (n))]))] sz kIO (fun (u : Unit) => [(x0, .inr (5, [.ref c0, .ref t0, .ref b0, .ref po, .ref kr, .ref r0, .int (nI (ln))])), (c0, .inr (1, [.ref crs, .ref crw, .ref crh, .ref crp, .ref crz, .int (nI (n))]))]) 1 6 := by
  refine x_entry (cc := cX5_move) (maxL := 3) (ret := (some .int)) (by decide) rfl (Nat.le_of_ble_eq_true rfl) ?_
  intro p e s m args below meth c A ls H locs Q hQ hx hb hml hout hX hts hown hlocks hA hP hK hD hS hl
  have hown : s.vm.findClass RX5 = some m.cls := hown
  have hl : lv_has ls 3 [(0, .ref x0), (1, .int (nI (j))), (2, .int k)] := hl
  refine lv_aload_n hx hb dX5_move_0 rfl (lv_at hl 0 rfl) ?_
  refine lv_iload_n hx hb dX5_move_1 rfl (lv_at hl 1 rfl) ?_
  refine k_cv (wr := []) [] rfl (by decide) [0, 1] rfl (by decide) hP hD hS hA (k_V (n := 1) (ci := 5) (As := [.int (nI (j))]) (rest := []) (wc := [(x0, .inr (5, [.ref c0, .ref t0, .ref b0, .ref po, .ref kr, .ref r0, .int (nI (ln))])), (c0, .inr (1, [.ref crs, .ref crw, .ref crh, .ref crp, .ref crz, .int (nI (n))]))]) hx hb hml hown hts hK hP hD hl (c_X5_requireJoint_0 l G x0 c0 t0 b0 po kr r0 ln crs crw crh crp crz n j H.size (by first | assumption | omega) (by first | assumption | omega)) [0, 1] rfl (by decide) gX5_move_X5_requireJoint rfl rfl rfl (by decide +kernel) rfl ⟨Nat.le_of_ble_eq_true rfl, Nat.le_of_ble_eq_true rfl⟩ rfl rfl rfl (Nat.le_of_ble_eq_true rfl) dX5_move_2 ⟨Nat.le_of_ble_eq_true rfl, Nat.le_of_ble_eq_true rfl⟩) (fun u H locs hw hP hD hS => ?_)
  have hw_2 : True := hw
  have hP : va_P G.1 vwCl [(x0, .inr (5, [.ref c0, .ref t0, .ref b0, .ref po, .ref kr, .ref r0, .int (nI (ln))])), (c0, .inr (1, [.ref crs, .ref crw, .ref crh, .ref crp, .ref crz, .int (nI (n))]))] H := hP
  have hD : va_D A [(x0, .inr (5, [.ref c0, .ref t0, .ref b0, .ref po, .ref kr, .ref r0, .int (nI (ln))])), (c0, .inr (1, [.ref crs, .ref crw, .ref crh, .ref crp, .ref crz, .int (nI (n))]))] := hD
  refine lv_aload_n hx hb dX5_move_5 rfl (lv_at hl 0 rfl) ?_
  refine lv_iload_n hx hb dX5_move_6 rfl (lv_at hl 2 rfl) ?_
  refine x_call (wr := []) [] rfl (by decide) [0, 1] rfl (by decide) hP hD hS hA (x_V (n := 1) (ci := 5) (As := [.int k]) (rest := []) (wc := [(x0, .inr (5, [.ref c0, .ref t0, .ref b0, .ref po, .ref kr, .ref r0, .int (nI (ln))])), (c0, .inr (1, [.ref crs, .ref crw, .ref crh, .ref crp, .ref crz, .int (nI (n))]))]) hx hb hml hown hts hX hS hA hK hP hD hl (c_X5_requireJoint_t l G x0 c0 t0 b0 po kr r0 ln crs crw crh crp crz n k H.size hfl (by first | assumption | omega) (by first | assumption | omega)) [0, 1] rfl (by decide) gX5_move_X5_requireJoint rfl rfl rfl (by decide +kernel) rfl ⟨Nat.le_of_ble_eq_true rfl, Nat.le_of_ble_eq_true rfl⟩ rfl rfl rfl (Nat.le_of_ble_eq_true rfl) dX5_move_7 ⟨Nat.le_of_ble_eq_true rfl, Nat.le_of_ble_eq_true rfl⟩) (fun u ce9 q9 H locs hP hD hS hce hcv hcl => ?_)
  have hP : va_P G.1 vwCl [(x0, .inr (5, [.ref c0, .ref t0, .ref b0, .ref po, .ref kr, .ref r0, .int (nI (ln))])), (c0, .inr (1, [.ref crs, .ref crw, .ref crh, .ref crp, .ref crz, .int (nI (n))]))] H := hP
  have hD : va_D A [(x0, .inr (5, [.ref c0, .ref t0, .ref b0, .ref po, .ref kr, .ref r0, .int (nI (ln))])), (c0, .inr (1, [.ref crs, .ref crw, .ref crh, .ref crp, .ref crz, .int (nI (n))]))] := hD
  rw [hQ]
  exact x_out hout hlocks hce hcv hcl hK hP hD hS () [0, 1] rfl rfl (by decide) (Nat.le_of_ble_eq_true rfl) (Nat.le_of_ble_eq_true rfl)
set_option maxHeartbeats 4000000 in
set_option maxRecDepth 100000 in
theorem c_X5_move_t2 (l : Launch) (G : kG) (x0 : Nat) (c0 : Nat) (t0 : Nat) (b0 : Nat) (po : Nat) (kr : Nat) (r0 : Nat) (ln : Nat) (crs : Nat) (crw : Nat) (crh : Nat) (crp : Nat) (crz : Nat) (n : Nat) (j : Nat) (sz : Nat) (hfl : l.stackTraces = false) (hn1 : 1 ≤ n) (hn : n ≤ 20) (hj : j ≤ n) : xMet l yX5_move wsX5_move ({ frames := 6, cells := 1, slots := 6, locals := 86 } : Room) G [.ref x0, .int (nI (j)), .int (nI (j))] [(x0, .inr (5, [.ref c0, .ref t0, .ref b0, .ref po, .ref kr, .ref r0, .int (nI (ln))])), (c0, .inr (1, [.ref crs, .ref crw, .ref crh, .ref crp, .ref crz, .int (nI (n))]))] sz kIA (fun (u : Unit) => [(x0, .inr (5, [.ref c0, .ref t0, .ref b0, .ref po, .ref kr, .ref r0, .int (nI (ln))])), (c0, .inr (1, [.ref crs, .ref crw, .ref crh, .ref crp, .ref crz, .int (nI (n))]))]) 1 6 := by
  refine x_entry (cc := cX5_move) (maxL := 3) (ret := (some .int)) (by decide) rfl (Nat.le_of_ble_eq_true rfl) ?_
  intro p e s m args below meth c A ls H locs Q hQ hx hb hml hout hX hts hown hlocks hA hP hK hD hS hl
  have hown : s.vm.findClass RX5 = some m.cls := hown
  have hl : lv_has ls 3 [(0, .ref x0), (1, .int (nI (j))), (2, .int (nI (j)))] := hl
  refine lv_aload_n hx hb dX5_move_0 rfl (lv_at hl 0 rfl) ?_
  refine lv_iload_n hx hb dX5_move_1 rfl (lv_at hl 1 rfl) ?_
  refine k_cv (wr := []) [] rfl (by decide) [0, 1] rfl (by decide) hP hD hS hA (k_V (n := 1) (ci := 5) (As := [.int (nI (j))]) (rest := []) (wc := [(x0, .inr (5, [.ref c0, .ref t0, .ref b0, .ref po, .ref kr, .ref r0, .int (nI (ln))])), (c0, .inr (1, [.ref crs, .ref crw, .ref crh, .ref crp, .ref crz, .int (nI (n))]))]) hx hb hml hown hts hK hP hD hl (c_X5_requireJoint_0 l G x0 c0 t0 b0 po kr r0 ln crs crw crh crp crz n j H.size (by first | assumption | omega) (by first | assumption | omega)) [0, 1] rfl (by decide) gX5_move_X5_requireJoint rfl rfl rfl (by decide +kernel) rfl ⟨Nat.le_of_ble_eq_true rfl, Nat.le_of_ble_eq_true rfl⟩ rfl rfl rfl (Nat.le_of_ble_eq_true rfl) dX5_move_2 ⟨Nat.le_of_ble_eq_true rfl, Nat.le_of_ble_eq_true rfl⟩) (fun u H locs hw hP hD hS => ?_)
  have hw_2 : True := hw
  have hP : va_P G.1 vwCl [(x0, .inr (5, [.ref c0, .ref t0, .ref b0, .ref po, .ref kr, .ref r0, .int (nI (ln))])), (c0, .inr (1, [.ref crs, .ref crw, .ref crh, .ref crp, .ref crz, .int (nI (n))]))] H := hP
  have hD : va_D A [(x0, .inr (5, [.ref c0, .ref t0, .ref b0, .ref po, .ref kr, .ref r0, .int (nI (ln))])), (c0, .inr (1, [.ref crs, .ref crw, .ref crh, .ref crp, .ref crz, .int (nI (n))]))] := hD
  refine lv_aload_n hx hb dX5_move_5 rfl (lv_at hl 0 rfl) ?_
  refine lv_iload_n hx hb dX5_move_6 rfl (lv_at hl 2 rfl) ?_
  refine k_cv (wr := []) [] rfl (by decide) [0, 1] rfl (by decide) hP hD hS hA (k_V (n := 1) (ci := 5) (As := [.int (nI (j))]) (rest := []) (wc := [(x0, .inr (5, [.ref c0, .ref t0, .ref b0, .ref po, .ref kr, .ref r0, .int (nI (ln))])), (c0, .inr (1, [.ref crs, .ref crw, .ref crh, .ref crp, .ref crz, .int (nI (n))]))]) hx hb hml hown hts hK hP hD hl (c_X5_requireJoint_0 l G x0 c0 t0 b0 po kr r0 ln crs crw crh crp crz n j H.size (by first | assumption | omega) (by first | assumption | omega)) [0, 1] rfl (by decide) gX5_move_X5_requireJoint rfl rfl rfl (by decide +kernel) rfl ⟨Nat.le_of_ble_eq_true rfl, Nat.le_of_ble_eq_true rfl⟩ rfl rfl rfl (Nat.le_of_ble_eq_true rfl) dX5_move_7 ⟨Nat.le_of_ble_eq_true rfl, Nat.le_of_ble_eq_true rfl⟩) (fun u H locs hw hP hD hS => ?_)
  have hw_7 : True := hw
  have hP : va_P G.1 vwCl [(x0, .inr (5, [.ref c0, .ref t0, .ref b0, .ref po, .ref kr, .ref r0, .int (nI (ln))])), (c0, .inr (1, [.ref crs, .ref crw, .ref crh, .ref crp, .ref crz, .int (nI (n))]))] H := hP
  have hD : va_D A [(x0, .inr (5, [.ref c0, .ref t0, .ref b0, .ref po, .ref kr, .ref r0, .int (nI (ln))])), (c0, .inr (1, [.ref crs, .ref crw, .ref crh, .ref crp, .ref crz, .int (nI (n))]))] := hD
  refine lv_iload_n hx hb dX5_move_10 rfl (lv_at hl 1 rfl) ?_
  refine lv_iload_n hx hb dX5_move_11 rfl (lv_at hl 2 rfl) ?_
  refine g_icmp_ne (a := j) (b := j) (tgt := 25) hx hb (by omega) (by omega) dX5_move_12 (by decide) (fun c_12 => ?_) (fun c_12 => ?_)
  · exact absurd rfl c_12
  · skip
    rw [hQ]
    exact x_thr (ik := 121) (is := 123) (ic := 125) (text := "both joints are the same") hx hb hfl hown (by decide +kernel) hts (by decide +kernel) t_IA o2_IA (by decide +kernel) hX hK hP hD hS (by rw [hml]; exact hl.1) dX5_move_15 dX5_move_18 dX5_move_19 dX5_move_21 dX5_move_24 hout (Nat.le_of_ble_eq_true rfl) (Nat.le_of_ble_eq_true rfl) (Nat.le_of_ble_eq_true rfl) (Nat.le_of_ble_eq_true rfl) hlocks () [0, 1] rfl rfl (by decide) (Nat.le_of_ble_eq_true rfl) (Nat.le_of_ble_eq_true rfl)
set_option maxHeartbeats 4000000 in
set_option maxRecDepth 100000 in
theorem c_X5_set_t1 (l : Launch) (G : kG) (x0 : Nat) (c0 : Nat) (t0 : Nat) (b0 : Nat) (po : Nat) (kr : Nat) (r0 : Nat) (ln : Nat) (crs : Nat) (crw : Nat) (crh : Nat) (crp : Nat) (crz : Nat) (n : Nat) (k : Int32) (v : Int32) (sz : Nat) (hfl : l.stackTraces = false) (hn1 : 1 ≤ n) (hn : n ≤ 20) (h1 : isN k 4 = false) : xMet l yX5_set wsX5_set ({ frames := 7, cells := 1, slots := 6, locals := 102 } : Room) G [.ref x0, .int k, .int v] [(x0, .inr (5, [.ref c0, .ref t0, .ref b0, .ref po, .ref kr, .ref r0, .int (nI (ln))])), (c0, .inr (1, [.ref crs, .ref crw, .ref crh, .ref crp, .ref crz, .int (nI (n))]))] sz kIO (fun (u : Unit) => [(x0, .inr (5, [.ref c0, .ref t0, .ref b0, .ref po, .ref kr, .ref r0, .int (nI (ln))])), (c0, .inr (1, [.ref crs, .ref crw, .ref crh, .ref crp, .ref crz, .int (nI (n))]))]) 1 6 := by
  refine x_entry (cc := cX5_set) (maxL := 3) (ret := (some .int)) (by decide) rfl (Nat.le_of_ble_eq_true rfl) ?_
  intro p e s m args below meth c A ls H locs Q hQ hx hb hml hout hX hts hown hlocks hA hP hK hD hS hl
  have hown : s.vm.findClass RX5 = some m.cls := hown
  have hl : lv_has ls 3 [(0, .ref x0), (1, .int k), (2, .int v)] := hl
  refine lv_iload_n hx hb dX5_set_0 rfl (lv_at hl 1 rfl) ?_
  refine x_call (wr := [(x0, .inr (5, [.ref c0, .ref t0, .ref b0, .ref po, .ref kr, .ref r0, .int (nI (ln))])), (c0, .inr (1, [.ref crs, .ref crw, .ref crh, .ref crp, .ref crz, .int (nI (n))]))]) [0, 1] rfl (by decide) [] rfl (by decide) hP hD hS hA (x_S (n := 1) (As := [.int k]) (rest := []) (wc := []) hx hb hml hown hts hX hS hA hK hP hD hl (c_X5_requireSetting_t l G k H.size hfl (by first | assumption | omega)) [] rfl (by decide) gX5_set_X5_requireSetting rfl rfl rfl (by decide +kernel) rfl ⟨Nat.le_of_ble_eq_true rfl, Nat.le_of_ble_eq_true rfl⟩ rfl (Nat.le_of_ble_eq_true rfl) dX5_set_1 ⟨Nat.le_of_ble_eq_true rfl, Nat.le_of_ble_eq_true rfl⟩) (fun u ce9 q9 H locs hP hD hS hce hcv hcl => ?_)
  have hP : va_P G.1 vwCl [(x0, .inr (5, [.ref c0, .ref t0, .ref b0, .ref po, .ref kr, .ref r0, .int (nI (ln))])), (c0, .inr (1, [.ref crs, .ref crw, .ref crh, .ref crp, .ref crz, .int (nI (n))]))] H := hP
  have hD : va_D A [(x0, .inr (5, [.ref c0, .ref t0, .ref b0, .ref po, .ref kr, .ref r0, .int (nI (ln))])), (c0, .inr (1, [.ref crs, .ref crw, .ref crh, .ref crp, .ref crz, .int (nI (n))]))] := hD
  rw [hQ]
  exact x_out hout hlocks hce hcv hcl hK hP hD hS () [0, 1] rfl rfl (by decide) (Nat.le_of_ble_eq_true rfl) (Nat.le_of_ble_eq_true rfl)
set_option maxHeartbeats 4000000 in
set_option maxRecDepth 100000 in
theorem c_X5_set_t2 (l : Launch) (G : kG) (x0 : Nat) (c0 : Nat) (t0 : Nat) (b0 : Nat) (po : Nat) (kr : Nat) (r0 : Nat) (ln : Nat) (crs : Nat) (crw : Nat) (crh : Nat) (crp : Nat) (crz : Nat) (n : Nat) (j : Nat) (v : Int32) (sz : Nat) (hfl : l.stackTraces = false) (hn1 : 1 ≤ n) (hn : n ≤ 20) (hj : j < 4) (h2 : ¬ (sLow (nI j) ≤ v ∧ v ≤ sHigh (nI j))) : xMet l yX5_set wsX5_set ({ frames := 6, cells := 1, slots := 6, locals := 82 } : Room) G [.ref x0, .int (nI (j)), .int v] [(x0, .inr (5, [.ref c0, .ref t0, .ref b0, .ref po, .ref kr, .ref r0, .int (nI (ln))])), (c0, .inr (1, [.ref crs, .ref crw, .ref crh, .ref crp, .ref crz, .int (nI (n))]))] sz kIA (fun (u : Unit) => [(x0, .inr (5, [.ref c0, .ref t0, .ref b0, .ref po, .ref kr, .ref r0, .int (nI (ln))])), (c0, .inr (1, [.ref crs, .ref crw, .ref crh, .ref crp, .ref crz, .int (nI (n))]))]) 1 6 := by
  refine x_entry (cc := cX5_set) (maxL := 3) (ret := (some .int)) (by decide) rfl (Nat.le_of_ble_eq_true rfl) ?_
  intro p e s m args below meth c A ls H locs Q hQ hx hb hml hout hX hts hown hlocks hA hP hK hD hS hl
  have hown : s.vm.findClass RX5 = some m.cls := hown
  have hl : lv_has ls 3 [(0, .ref x0), (1, .int (nI (j))), (2, .int v)] := hl
  refine lv_iload_n hx hb dX5_set_0 rfl (lv_at hl 1 rfl) ?_
  refine k_cv (wr := [(x0, .inr (5, [.ref c0, .ref t0, .ref b0, .ref po, .ref kr, .ref r0, .int (nI (ln))])), (c0, .inr (1, [.ref crs, .ref crw, .ref crh, .ref crp, .ref crz, .int (nI (n))]))]) [0, 1] rfl (by decide) [] rfl (by decide) hP hD hS hA (k_S (n := 1) (As := [.int (nI (j))]) (rest := []) (wc := []) hx hb hml hown hts hK hP hD hl (c_X5_requireSetting_0 l G j H.size (by first | assumption | omega)) [] rfl (by decide) gX5_set_X5_requireSetting rfl rfl rfl (by decide +kernel) rfl ⟨Nat.le_of_ble_eq_true rfl, Nat.le_of_ble_eq_true rfl⟩ rfl (Nat.le_of_ble_eq_true rfl) dX5_set_1 ⟨Nat.le_of_ble_eq_true rfl, Nat.le_of_ble_eq_true rfl⟩) (fun u H locs hw hP hD hS => ?_)
  have hw_1 : True := hw
  have hP : va_P G.1 vwCl [(x0, .inr (5, [.ref c0, .ref t0, .ref b0, .ref po, .ref kr, .ref r0, .int (nI (ln))])), (c0, .inr (1, [.ref crs, .ref crw, .ref crh, .ref crp, .ref crz, .int (nI (n))]))] H := hP
  have hD : va_D A [(x0, .inr (5, [.ref c0, .ref t0, .ref b0, .ref po, .ref kr, .ref r0, .int (nI (ln))])), (c0, .inr (1, [.ref crs, .ref crw, .ref crh, .ref crp, .ref crz, .int (nI (n))]))] := hD
  refine lv_iload_n hx hb dX5_set_4 rfl (lv_at hl 2 rfl) ?_
  refine lv_iload_n hx hb dX5_set_5 rfl (lv_at hl 1 rfl) ?_
  refine k_ci (wr := [(x0, .inr (5, [.ref c0, .ref t0, .ref b0, .ref po, .ref kr, .ref r0, .int (nI (ln))])), (c0, .inr (1, [.ref crs, .ref crw, .ref crh, .ref crp, .ref crz, .int (nI (n))]))]) [0, 1] rfl (by decide) [] rfl (by decide) hP hD hS hA (k_S (n := 1) (As := [.int (nI (j))]) (rest := [.int v]) (wc := []) hx hb hml hown hts hK hP hD hl (c_X5_leastOf_0 l G j H.size (by first | assumption | omega)) [] rfl (by decide) gX5_set_X5_leastOf rfl rfl rfl (by decide +kernel) rfl ⟨Nat.le_of_ble_eq_true rfl, Nat.le_of_ble_eq_true rfl⟩ rfl (Nat.le_of_ble_eq_true rfl) dX5_set_6 ⟨Nat.le_of_ble_eq_true rfl, Nat.le_of_ble_eq_true rfl⟩) (fun r_6 u H locs hw hP hD hS => ?_)
  have hw_6 : r_6 = sLow (nI j) := hw
  have hP : va_P G.1 vwCl [(x0, .inr (5, [.ref c0, .ref t0, .ref b0, .ref po, .ref kr, .ref r0, .int (nI (ln))])), (c0, .inr (1, [.ref crs, .ref crw, .ref crh, .ref crp, .ref crz, .int (nI (n))]))] H := hP
  have hD : va_D A [(x0, .inr (5, [.ref c0, .ref t0, .ref b0, .ref po, .ref kr, .ref r0, .int (nI (ln))])), (c0, .inr (1, [.ref crs, .ref crw, .ref crh, .ref crp, .ref crz, .int (nI (n))]))] := hD
  subst hw_6
  refine lv_icmp_lt (tgt := 20) hx hb dX5_set_9 (by decide) (fun c_9 => ?_) (fun c_9 => ?_)
  · skip
    rw [hQ]
    exact x_thr (ik := 121) (is := 139) (ic := 125) (text := "the value is out of range") hx hb hfl hown (by decide +kernel) hts (by decide +kernel) t_IA o2_IA (by decide +kernel) hX hK hP hD hS (by rw [hml]; exact hl.1) dX5_set_20 dX5_set_23 dX5_set_24 dX5_set_26 dX5_set_29 hout (Nat.le_of_ble_eq_true rfl) (Nat.le_of_ble_eq_true rfl) (Nat.le_of_ble_eq_true rfl) (Nat.le_of_ble_eq_true rfl) hlocks () [0, 1] rfl rfl (by decide) (Nat.le_of_ble_eq_true rfl) (Nat.le_of_ble_eq_true rfl)
  · skip
    refine lv_iload_n hx hb dX5_set_12 rfl (lv_at hl 2 rfl) ?_
    refine lv_iload_n hx hb dX5_set_13 rfl (lv_at hl 1 rfl) ?_
    refine k_ci (wr := [(x0, .inr (5, [.ref c0, .ref t0, .ref b0, .ref po, .ref kr, .ref r0, .int (nI (ln))])), (c0, .inr (1, [.ref crs, .ref crw, .ref crh, .ref crp, .ref crz, .int (nI (n))]))]) [0, 1] rfl (by decide) [] rfl (by decide) hP hD hS hA (k_S (n := 1) (As := [.int (nI (j))]) (rest := [.int v]) (wc := []) hx hb hml hown hts hK hP hD hl (c_X5_mostOf_0 l G j H.size (by first | assumption | omega)) [] rfl (by decide) gX5_set_X5_mostOf rfl rfl rfl (by decide +kernel) rfl ⟨Nat.le_of_ble_eq_true rfl, Nat.le_of_ble_eq_true rfl⟩ rfl (Nat.le_of_ble_eq_true rfl) dX5_set_14 ⟨Nat.le_of_ble_eq_true rfl, Nat.le_of_ble_eq_true rfl⟩) (fun r_14 u H locs hw hP hD hS => ?_)
    have hw_14 : r_14 = sHigh (nI j) := hw
    have hP : va_P G.1 vwCl [(x0, .inr (5, [.ref c0, .ref t0, .ref b0, .ref po, .ref kr, .ref r0, .int (nI (ln))])), (c0, .inr (1, [.ref crs, .ref crw, .ref crh, .ref crp, .ref crz, .int (nI (n))]))] H := hP
    have hD : va_D A [(x0, .inr (5, [.ref c0, .ref t0, .ref b0, .ref po, .ref kr, .ref r0, .int (nI (ln))])), (c0, .inr (1, [.ref crs, .ref crw, .ref crh, .ref crp, .ref crz, .int (nI (n))]))] := hD
    subst hw_14
    refine lv_icmp_le (tgt := 30) hx hb dX5_set_17 (by decide) (fun c_17 => ?_) (fun c_17 => ?_)
    · exact (h2 ⟨i32_le c_9, c_17⟩).elim
    · skip
      rw [hQ]
      exact x_thr (ik := 121) (is := 139) (ic := 125) (text := "the value is out of range") hx hb hfl hown (by decide +kernel) hts (by decide +kernel) t_IA o2_IA (by decide +kernel) hX hK hP hD hS (by rw [hml]; exact hl.1) dX5_set_20 dX5_set_23 dX5_set_24 dX5_set_26 dX5_set_29 hout (Nat.le_of_ble_eq_true rfl) (Nat.le_of_ble_eq_true rfl) (Nat.le_of_ble_eq_true rfl) (Nat.le_of_ble_eq_true rfl) hlocks () [0, 1] rfl rfl (by decide) (Nat.le_of_ble_eq_true rfl) (Nat.le_of_ble_eq_true rfl)
set_option maxHeartbeats 4000000 in
set_option maxRecDepth 100000 in
theorem c_X5_append_t1 (l : Launch) (G : kG) (x0 : Nat) (c0 : Nat) (t0 : Nat) (b0 : Nat) (po : Nat) (kr : Nat) (r0 : Nat) (ln : Nat) (v : Int32) (sz : Nat) (hfl : l.stackTraces = false) (h1 : ¬ (33 ≤ v ∧ v ≤ 126)) : xMet l yX5_append wsX5_append ({ frames := 6, cells := 1, slots := 6, locals := 82 } : Room) G [.ref x0, .int v] [(x0, .inr (5, [.ref c0, .ref t0, .ref b0, .ref po, .ref kr, .ref r0, .int (nI (ln))]))] sz kIA (fun (u : Unit) => [(x0, .inr (5, [.ref c0, .ref t0, .ref b0, .ref po, .ref kr, .ref r0, .int (nI (ln))]))]) 1 6 := by
  refine x_entry (cc := cX5_append) (maxL := 2) (ret := (some .int)) (by decide) rfl (Nat.le_of_ble_eq_true rfl) ?_
  intro p e s m args below meth c A ls H locs Q hQ hx hb hml hout hX hts hown hlocks hA hP hK hD hS hl
  have hown : s.vm.findClass RX5 = some m.cls := hown
  have hl : lv_has ls 2 [(0, .ref x0), (1, .int v)] := hl
  refine lv_iload_n hx hb dX5_append_0 rfl (lv_at hl 1 rfl) ?_
  refine lv_bipush (v := 33) hx hb dX5_append_1 (by decide) ?_
  refine lv_icmp_lt (tgt := 12) hx hb dX5_append_3 (by decide) (fun c_3 => ?_) (fun c_3 => ?_)
  · skip
    rw [hQ]
    exact x_thr (ik := 121) (is := 144) (ic := 125) (text := "the code is not 33 to 126") hx hb hfl hown (by decide +kernel) hts (by decide +kernel) t_IA o2_IA (by decide +kernel) hX hK hP hD hS (by rw [hml]; exact hl.1) dX5_append_12 dX5_append_15 dX5_append_16 dX5_append_18 dX5_append_21 hout (Nat.le_of_ble_eq_true rfl) (Nat.le_of_ble_eq_true rfl) (Nat.le_of_ble_eq_true rfl) (Nat.le_of_ble_eq_true rfl) hlocks () [0] rfl rfl (by decide) (Nat.le_of_ble_eq_true rfl) (Nat.le_of_ble_eq_true rfl)
  · skip
    refine lv_iload_n hx hb dX5_append_6 rfl (lv_at hl 1 rfl) ?_
    refine lv_bipush (v := 126) hx hb dX5_append_7 (by decide) ?_
    refine lv_icmp_le (tgt := 22) hx hb dX5_append_9 (by decide) (fun c_9 => ?_) (fun c_9 => ?_)
    · exact (h1 ⟨i32_le c_3, c_9⟩).elim
    · skip
      rw [hQ]
      exact x_thr (ik := 121) (is := 144) (ic := 125) (text := "the code is not 33 to 126") hx hb hfl hown (by decide +kernel) hts (by decide +kernel) t_IA o2_IA (by decide +kernel) hX hK hP hD hS (by rw [hml]; exact hl.1) dX5_append_12 dX5_append_15 dX5_append_16 dX5_append_18 dX5_append_21 hout (Nat.le_of_ble_eq_true rfl) (Nat.le_of_ble_eq_true rfl) (Nat.le_of_ble_eq_true rfl) (Nat.le_of_ble_eq_true rfl) hlocks () [0] rfl rfl (by decide) (Nat.le_of_ble_eq_true rfl) (Nat.le_of_ble_eq_true rfl)
set_option maxHeartbeats 4000000 in
set_option maxRecDepth 100000 in
theorem c_X5_append_t2 (l : Launch) (G : kG) (x0 : Nat) (c0 : Nat) (t0 : Nat) (b0 : Nat) (po : Nat) (kr : Nat) (r0 : Nat) (ln : Nat) (v : Int32) (sz : Nat) (hfl : l.stackTraces = false) (h1 : 33 ≤ v ∧ v ≤ 126) (h2 : ln = 60) : xMet l yX5_append wsX5_append ({ frames := 6, cells := 1, slots := 6, locals := 82 } : Room) G [.ref x0, .int v] [(x0, .inr (5, [.ref c0, .ref t0, .ref b0, .ref po, .ref kr, .ref r0, .int (nI (ln))]))] sz kIS (fun (u : Unit) => [(x0, .inr (5, [.ref c0, .ref t0, .ref b0, .ref po, .ref kr, .ref r0, .int (nI (ln))]))]) 1 6 := by
  refine x_entry (cc := cX5_append) (maxL := 2) (ret := (some .int)) (by decide) rfl (Nat.le_of_ble_eq_true rfl) ?_
  intro p e s m args below meth c A ls H locs Q hQ hx hb hml hout hX hts hown hlocks hA hP hK hD hS hl
  have hown : s.vm.findClass RX5 = some m.cls := hown
  have hl : lv_has ls 2 [(0, .ref x0), (1, .int v)] := hl
  have hf49 := hts (.fieldLink RX5 49 "HangingChain" "length" "I") (by decide +kernel)
  have hinX5 : ∀ w ∈ wsX50, w ∈ wsX5_append := by decide +kernel
  refine lv_iload_n hx hb dX5_append_0 rfl (lv_at hl 1 rfl) ?_
  refine lv_bipush (v := 33) hx hb dX5_append_1 (by decide) ?_
  refine lv_icmp_lt (tgt := 12) hx hb dX5_append_3 (by decide) (fun c_3 => ?_) (fun c_3 => ?_)
  · exact absurd c_3 (Int32.not_lt.mpr h1.1)
  · skip
    refine lv_iload_n hx hb dX5_append_6 rfl (lv_at hl 1 rfl) ?_
    refine lv_bipush (v := 126) hx hb dX5_append_7 (by decide) ?_
    refine lv_icmp_le (tgt := 22) hx hb dX5_append_9 (by decide) (fun c_9 => ?_) (fun c_9 => ?_)
    · skip
      refine lv_aload_n hx hb dX5_append_22 rfl (lv_at hl 0 rfl) ?_
      refine va_get (D := G.1) (ci := 5) (v := .int (nI (ln))) (C := RX5) (T := TX5) (N := 7) hx hb hts hinX5 hown hK hP 0 rfl rfl 6 (by decide) hf49 (fun _ h9 => h9) rfl dX5_append_23 ?_
      refine lv_bipush (v := 60) hx hb dX5_append_26 (by decide) ?_
      refine g_icmp_lt (a := ln) (b := 60) (tgt := 41) hx hb (by omega) (by omega) dX5_append_28 (by decide) (fun c_28 => ?_) (fun c_28 => ?_)
      · omega
      · skip
        rw [hQ]
        exact x_thr (ik := 59) (is := 146) (ic := 63) (text := "the buffer has 60 characters") hx hb hfl hown (by decide +kernel) hts (by decide +kernel) t_IS o2_IS (by decide +kernel) hX hK hP hD hS (by rw [hml]; exact hl.1) dX5_append_31 dX5_append_34 dX5_append_35 dX5_append_37 dX5_append_40 hout (Nat.le_of_ble_eq_true rfl) (Nat.le_of_ble_eq_true rfl) (Nat.le_of_ble_eq_true rfl) (Nat.le_of_ble_eq_true rfl) hlocks () [0] rfl rfl (by decide) (Nat.le_of_ble_eq_true rfl) (Nat.le_of_ble_eq_true rfl)
    · exact absurd h1.2 c_9
set_option maxHeartbeats 4000000 in
set_option maxRecDepth 100000 in
theorem c_X5_shape_t1 (l : Launch) (G : kG) (x0 : Nat) (c0 : Nat) (t0 : Nat) (b0 : Nat) (po : Nat) (kr : Nat) (r0 : Nat) (ln : Nat) (ka : Nat) (rrs : Nat) (ras : Nat) (rrw : Nat) (raw : Nat) (lk : Nat) (z : Nat) (rst : Fn) (rwe : Fn) (tx : Fn) (sz : Nat) (hfl : l.stackTraces = false) (hl60 : ln ≤ 60) (hG : ¬ pG tx ln) : xMet l yX5_shape wsX5_shape ({ frames := 6, cells := 1, slots := 6, locals := 88 } : Room) G [.ref x0] [(x0, .inr (5, [.ref c0, .ref t0, .ref b0, .ref po, .ref kr, .ref r0, .int (nI (ln))])), (kr, .inr (3, [.ref ka])), (ka, .inl (G.2.1, 60, .inl tx)), (r0, .inr (4, [.ref rrs, .ref rrw, .int (nI (lk)), .int (nI (z))])), (rrs, .inr (3, [.ref ras])), (ras, .inl (G.2.1, 20, .inl rst)), (rrw, .inr (3, [.ref raw])), (raw, .inl (G.2.1, 21, .inl rwe))] sz kIA (fun (u : Nat × Nat × Fn × Fn) => [(x0, .inr (5, [.ref c0, .ref t0, .ref b0, .ref po, .ref kr, .ref r0, .int (nI (ln))])), (kr, .inr (3, [.ref ka])), (ka, .inl (G.2.1, 60, .inl tx)), (r0, .inr (4, [.ref rrs, .ref rrw, .int (nI (u.1)), .int (nI (u.2.1))])), (rrs, .inr (3, [.ref ras])), (ras, .inl (G.2.1, 20, .inl u.2.2.1)), (rrw, .inr (3, [.ref raw])), (raw, .inl (G.2.1, 21, .inl u.2.2.2))]) 1 6 := by
  refine x_entry (cc := cX5_shape) (maxL := 3) (ret := (some .int)) (by decide) rfl (Nat.le_of_ble_eq_true rfl) ?_
  intro p e s m args below meth c A ls H locs Q hQ hx hb hml hout hX hts hown hlocks hA hP hK hD hS hl
  have hown : s.vm.findClass RX5 = some m.cls := hown
  have hl : lv_has ls 3 [(0, .ref x0)] := hl
  have hf45 := hts (.fieldLink RX5 45 "HangingChain" "reader" "LHangingChain$ShapeReader;") (by decide +kernel)
  have hinX5 : ∀ w ∈ wsX50, w ∈ wsX5_shape := by decide +kernel
  have hf38 := hts (.fieldLink RX5 38 "HangingChain" "codes" "LHangingChain$Row;") (by decide +kernel)
  have hf49 := hts (.fieldLink RX5 49 "HangingChain" "length" "I") (by decide +kernel)
  refine lv_aload_n hx hb dX5_shape_0 rfl (lv_at hl 0 rfl) ?_
  refine va_get (D := G.1) (ci := 5) (v := .ref r0) (C := RX5) (T := TX5) (N := 7) hx hb hts hinX5 hown hK hP 0 rfl rfl 5 (by decide) hf45 (fun _ h9 => h9) rfl dX5_shape_1 ?_
  refine lv_aload_n hx hb dX5_shape_4 rfl (lv_at hl 0 rfl) ?_
  refine va_get (D := G.1) (ci := 5) (v := .ref kr) (C := RX5) (T := TX5) (N := 7) hx hb hts hinX5 hown hK hP 0 rfl rfl 4 (by decide) hf38 (fun _ h9 => h9) rfl dX5_shape_5 ?_
  refine lv_aload_n hx hb dX5_shape_8 rfl (lv_at hl 0 rfl) ?_
  refine va_get (D := G.1) (ci := 5) (v := .int (nI (ln))) (C := RX5) (T := TX5) (N := 7) hx hb hts hinX5 hown hK hP 0 rfl rfl 6 (by decide) hf49 (fun _ h9 => h9) rfl dX5_shape_9 ?_
  refine k_ci (wr := [(x0, .inr (5, [.ref c0, .ref t0, .ref b0, .ref po, .ref kr, .ref r0, .int (nI (ln))]))]) [0] rfl (by decide) [3, 4, 5, 6, 7, 1, 2] rfl (by decide) hP hD hS hA (k_V (n := 2) (ci := 4) (As := [.ref kr, .int (nI (ln))]) (rest := []) (wc := [(r0, .inr (4, [.ref rrs, .ref rrw, .int (nI (lk)), .int (nI (z))])), (rrs, .inr (3, [.ref ras])), (ras, .inl (G.2.1, 20, .inl rst)), (rrw, .inr (3, [.ref raw])), (raw, .inl (G.2.1, 21, .inl rwe)), (kr, .inr (3, [.ref ka])), (ka, .inl (G.2.1, 60, .inl tx))]) hx hb hml hown hts hK hP hD hl (c_X4_read l G r0 rrs ras rrw raw lk z rst rwe kr ka tx ln H.size (by first | assumption | omega)) [3, 4, 5, 6, 7, 1, 2] rfl (by decide) gX5_shape_X4_read rfl rfl rfl (by decide +kernel) rfl ⟨Nat.le_of_ble_eq_true rfl, Nat.le_of_ble_eq_true rfl⟩ rfl rfl rfl (Nat.le_of_ble_eq_true rfl) dX5_shape_12 ⟨Nat.le_of_ble_eq_true rfl, Nat.le_of_ble_eq_true rfl⟩) (fun r_12 u H locs hw hP hD hS => ?_)
  obtain ⟨k_12, lk2_12, z2_12, st2_12, we2_12⟩ := u
  have hw_12 : r_12 = nI k_12 ∧ rdK tx ln k_12 ∧ rdS tx k_12 = (z2_12, lk2_12, st2_12, we2_12) := hw
  have hP : va_P G.1 vwCl [(x0, .inr (5, [.ref c0, .ref t0, .ref b0, .ref po, .ref kr, .ref r0, .int (nI (ln))])), (r0, .inr (4, [.ref rrs, .ref rrw, .int (nI (lk2_12)), .int (nI (z2_12))])), (rrs, .inr (3, [.ref ras])), (ras, .inl (G.2.1, 20, .inl st2_12)), (rrw, .inr (3, [.ref raw])), (raw, .inl (G.2.1, 21, .inl we2_12)), (kr, .inr (3, [.ref ka])), (ka, .inl (G.2.1, 60, .inl tx))] H := hP
  have hD : va_D A [(x0, .inr (5, [.ref c0, .ref t0, .ref b0, .ref po, .ref kr, .ref r0, .int (nI (ln))])), (r0, .inr (4, [.ref rrs, .ref rrw, .int (nI (lk2_12)), .int (nI (z2_12))])), (rrs, .inr (3, [.ref ras])), (ras, .inl (G.2.1, 20, .inl st2_12)), (rrw, .inr (3, [.ref raw])), (raw, .inl (G.2.1, 21, .inl we2_12)), (kr, .inr (3, [.ref ka])), (ka, .inl (G.2.1, 60, .inl tx))] := hD
  obtain ⟨rfl, hw_12⟩ := hw_12
  obtain ⟨hv1, hv2, hv3⟩ := rdS_inv hw_12.2
  have hk12 := hw_12.1.1
  refine lv_istore_n (lv' := [(1, .int (nI k_12)), (0, .ref x0)]) hx hb dX5_shape_15 rfl hl (by decide) rfl (fun ls hl => ?_)
  refine lv_iload_n hx hb dX5_shape_16 rfl (lv_at hl 0 rfl) ?_
  refine lv_aload_n hx hb dX5_shape_17 rfl (lv_at hl 1 rfl) ?_
  refine va_get (D := G.1) (ci := 5) (v := .int (nI (ln))) (C := RX5) (T := TX5) (N := 7) hx hb hts hinX5 hown hK hP 0 rfl rfl 6 (by decide) hf49 (fun _ h9 => h9) rfl dX5_shape_18 ?_
  refine g_icmp_lt (a := k_12) (b := ln) (tgt := 34) hx hb (by omega) (by omega) dX5_shape_21 (by decide) (fun c_21 => ?_) (fun c_21 => ?_)
  · skip
    rw [hQ]
    exact x_thr (ik := 121) (is := 156) (ic := 125) (text := "the buffer is not a complete shape") hx hb hfl hown (by decide +kernel) hts (by decide +kernel) t_IA o2_IA (by decide +kernel) hX hK hP hD hS (by rw [hml]; exact hl.1) dX5_shape_34 dX5_shape_37 dX5_shape_38 dX5_shape_40 dX5_shape_43 hout (Nat.le_of_ble_eq_true rfl) (Nat.le_of_ble_eq_true rfl) (Nat.le_of_ble_eq_true rfl) (Nat.le_of_ble_eq_true rfl) hlocks (lk2_12, z2_12, st2_12, we2_12) [0, 6, 7, 1, 2, 3, 4, 5] rfl rfl (by decide) (Nat.le_of_ble_eq_true rfl) (Nat.le_of_ble_eq_true rfl)
  · skip
    have ek := rdK_e hw_12.1 c_21
    refine lv_aload_n hx hb dX5_shape_24 rfl (lv_at hl 1 rfl) ?_
    refine va_get (D := G.1) (ci := 5) (v := .ref r0) (C := RX5) (T := TX5) (N := 7) hx hb hts hinX5 hown hK hP 0 rfl rfl 5 (by decide) hf45 (fun _ h9 => h9) rfl dX5_shape_25 ?_
    refine k_ci (wr := [(x0, .inr (5, [.ref c0, .ref t0, .ref b0, .ref po, .ref kr, .ref r0, .int (nI (ln))])), (kr, .inr (3, [.ref ka])), (ka, .inl (G.2.1, 60, .inl tx))]) [0, 6, 7] rfl (by decide) [1, 2, 3, 4, 5] rfl (by decide) hP hD hS hA (k_V (n := 0) (ci := 4) (As := []) (rest := []) (wc := [(r0, .inr (4, [.ref rrs, .ref rrw, .int (nI (lk2_12)), .int (nI (z2_12))])), (rrs, .inr (3, [.ref ras])), (ras, .inl (G.2.1, 20, .inl st2_12)), (rrw, .inr (3, [.ref raw])), (raw, .inl (G.2.1, 21, .inl we2_12))]) hx hb hml hown hts hK hP hD hl (c_X4_isComplete l G r0 rrs ras rrw raw lk2_12 z2_12 st2_12 we2_12 H.size (by first | assumption | omega)) [1, 2, 3, 4, 5] rfl (by decide) gX5_shape_X4_isComplete rfl rfl rfl (by decide +kernel) rfl ⟨Nat.le_of_ble_eq_true rfl, Nat.le_of_ble_eq_true rfl⟩ rfl rfl rfl (Nat.le_of_ble_eq_true rfl) dX5_shape_28 ⟨Nat.le_of_ble_eq_true rfl, Nat.le_of_ble_eq_true rfl⟩) (fun r_28 u H locs hw hP hD hS => ?_)
    have hw_28 : r_28 = (if cmpl z2_12 then 1 else 0) := hw
    have hP : va_P G.1 vwCl [(x0, .inr (5, [.ref c0, .ref t0, .ref b0, .ref po, .ref kr, .ref r0, .int (nI (ln))])), (kr, .inr (3, [.ref ka])), (ka, .inl (G.2.1, 60, .inl tx)), (r0, .inr (4, [.ref rrs, .ref rrw, .int (nI (lk2_12)), .int (nI (z2_12))])), (rrs, .inr (3, [.ref ras])), (ras, .inl (G.2.1, 20, .inl st2_12)), (rrw, .inr (3, [.ref raw])), (raw, .inl (G.2.1, 21, .inl we2_12))] H := hP
    have hD : va_D A [(x0, .inr (5, [.ref c0, .ref t0, .ref b0, .ref po, .ref kr, .ref r0, .int (nI (ln))])), (kr, .inr (3, [.ref ka])), (ka, .inl (G.2.1, 60, .inl tx)), (r0, .inr (4, [.ref rrs, .ref rrw, .int (nI (lk2_12)), .int (nI (z2_12))])), (rrs, .inr (3, [.ref ras])), (ras, .inl (G.2.1, 20, .inl st2_12)), (rrw, .inr (3, [.ref raw])), (raw, .inl (G.2.1, 21, .inl we2_12))] := hD
    subst hw_28
    refine lv_if_ne (tgt := 44) hx hb dX5_shape_31 (by decide) (fun c_31 => ?_) (fun c_31 => ?_)
    · exact (rdK_g hG hw_12 ek c_31).elim
    · skip
      rw [hQ]
      exact x_thr (ik := 121) (is := 156) (ic := 125) (text := "the buffer is not a complete shape") hx hb hfl hown (by decide +kernel) hts (by decide +kernel) t_IA o2_IA (by decide +kernel) hX hK hP hD hS (by rw [hml]; exact hl.1) dX5_shape_34 dX5_shape_37 dX5_shape_38 dX5_shape_40 dX5_shape_43 hout (Nat.le_of_ble_eq_true rfl) (Nat.le_of_ble_eq_true rfl) (Nat.le_of_ble_eq_true rfl) (Nat.le_of_ble_eq_true rfl) hlocks (lk2_12, z2_12, st2_12, we2_12) [0, 1, 2, 3, 4, 5, 6, 7] rfl rfl (by decide) (Nat.le_of_ble_eq_true rfl) (Nat.le_of_ble_eq_true rfl)
set_option maxHeartbeats 4000000 in
set_option maxRecDepth 100000 in
theorem c_X5_undo_t1 (l : Launch) (G : kG) (x0 : Nat) (c0 : Nat) (t0 : Nat) (b0 : Nat) (po : Nat) (kr : Nat) (r0 : Nat) (ln : Nat) (sl : Nat) (old : Nat) (kp : Nat) (sz : Nat) (hfl : l.stackTraces = false) (h1 : kp = 0) : xMet l yX5_undo wsX5_undo ({ frames := 6, cells := 1, slots := 6, locals := 86 } : Room) G [.ref x0] [(x0, .inr (5, [.ref c0, .ref t0, .ref b0, .ref po, .ref kr, .ref r0, .int (nI (ln))])), (po, .inr (2, [.ref sl, .int (nI (old)), .int (nI (kp))]))] sz kIS (fun (u : Unit) => [(x0, .inr (5, [.ref c0, .ref t0, .ref b0, .ref po, .ref kr, .ref r0, .int (nI (ln))])), (po, .inr (2, [.ref sl, .int (nI (old)), .int (nI (kp))]))]) 1 6 := by
  refine x_entry (cc := cX5_undo) (maxL := 1) (ret := (some .int)) (by decide) rfl (Nat.le_of_ble_eq_true rfl) ?_
  intro p e s m args below meth c A ls H locs Q hQ hx hb hml hout hX hts hown hlocks hA hP hK hD hS hl
  have hown : s.vm.findClass RX5 = some m.cls := hown
  have hl : lv_has ls 1 [(0, .ref x0)] := hl
  have hf29 := hts (.fieldLink RX5 29 "HangingChain" "past" "LHangingChain$Past;") (by decide +kernel)
  have hinX5 : ∀ w ∈ wsX50, w ∈ wsX5_undo := by decide +kernel
  have hf165 := hts (.fieldLink RX5 165 "HangingChain$Past" "kept" "I") (by decide +kernel)
  have hinX2 : ∀ w ∈ wsX20, w ∈ wsX5_undo := by decide +kernel
  refine lv_aload_n hx hb dX5_undo_0 rfl (lv_at hl 0 rfl) ?_
  refine va_get (D := G.1) (ci := 5) (v := .ref po) (C := RX5) (T := TX5) (N := 7) hx hb hts hinX5 hown hK hP 0 rfl rfl 3 (by decide) hf29 (fun _ h9 => h9) rfl dX5_undo_1 ?_
  refine va_get (D := G.1) (ci := 2) (v := .int (nI (kp))) (C := RX2) (T := TX2) (N := 3) hx hb hts hinX2 hown hK hP 1 rfl rfl 2 (by decide) hf165 (fun _ h9 => h9) rfl dX5_undo_4 ?_
  refine g_if_gt (a := kp) (tgt := 20) hx hb (by omega) dX5_undo_7 (by decide) (fun c_7 => ?_) (fun c_7 => ?_)
  · omega
  · skip
    rw [hQ]
    exact x_thr (ik := 59) (is := 168) (ic := 63) (text := "no state is saved") hx hb hfl hown (by decide +kernel) hts (by decide +kernel) t_IS o2_IS (by decide +kernel) hX hK hP hD hS (by rw [hml]; exact hl.1) dX5_undo_10 dX5_undo_13 dX5_undo_14 dX5_undo_16 dX5_undo_19 hout (Nat.le_of_ble_eq_true rfl) (Nat.le_of_ble_eq_true rfl) (Nat.le_of_ble_eq_true rfl) (Nat.le_of_ble_eq_true rfl) hlocks () [0, 1] rfl rfl (by decide) (Nat.le_of_ble_eq_true rfl) (Nat.le_of_ble_eq_true rfl)
set_option maxHeartbeats 4000000 in
set_option maxRecDepth 100000 in
theorem c_X5_linkOf_t1 (l : Launch) (G : kG) (x0 : Nat) (c0 : Nat) (t0 : Nat) (b0 : Nat) (po : Nat) (kr : Nat) (r0 : Nat) (ln : Nat) (crs : Nat) (crw : Nat) (crh : Nat) (crp : Nat) (crz : Nat) (n : Nat) (k : Int32) (v : Int32) (sz : Nat) (hfl : l.stackTraces = false) (hn1 : 1 ≤ n) (hn : n ≤ 20) (h1 : isN k n = false) : xMet l yX5_linkOf wsX5_linkOf ({ frames := 7, cells := 1, slots := 6, locals := 103 } : Room) G [.ref x0, .int k, .int v] [(x0, .inr (5, [.ref c0, .ref t0, .ref b0, .ref po, .ref kr, .ref r0, .int (nI (ln))])), (c0, .inr (1, [.ref crs, .ref crw, .ref crh, .ref crp, .ref crz, .int (nI (n))]))] sz kIO (fun (u : Unit) => [(x0, .inr (5, [.ref c0, .ref t0, .ref b0, .ref po, .ref kr, .ref r0, .int (nI (ln))])), (c0, .inr (1, [.ref crs, .ref crw, .ref crh, .ref crp, .ref crz, .int (nI (n))]))]) 1 6 := by
  refine x_entry (cc := cX5_linkOf) (maxL := 3) (ret := (some .int)) (by decide) rfl (Nat.le_of_ble_eq_true rfl) ?_
  intro p e s m args below meth c A ls H locs Q hQ hx hb hml hout hX hts hown hlocks hA hP hK hD hS hl
  have hown : s.vm.findClass RX5 = some m.cls := hown
  have hl : lv_has ls 3 [(0, .ref x0), (1, .int k), (2, .int v)] := hl
  refine lv_aload_n hx hb dX5_linkOf_0 rfl (lv_at hl 0 rfl) ?_
  refine lv_iload_n hx hb dX5_linkOf_1 rfl (lv_at hl 1 rfl) ?_
  refine x_call (wr := []) [] rfl (by decide) [0, 1] rfl (by decide) hP hD hS hA (x_V (n := 1) (ci := 5) (As := [.int k]) (rest := []) (wc := [(x0, .inr (5, [.ref c0, .ref t0, .ref b0, .ref po, .ref kr, .ref r0, .int (nI (ln))])), (c0, .inr (1, [.ref crs, .ref crw, .ref crh, .ref crp, .ref crz, .int (nI (n))]))]) hx hb hml hown hts hX hS hA hK hP hD hl (c_X5_requireLink_t l G x0 c0 t0 b0 po kr r0 ln crs crw crh crp crz n k H.size hfl (by first | assumption | omega) (by first | assumption | omega)) [0, 1] rfl (by decide) gX5_linkOf_X5_requireLink rfl rfl rfl (by decide +kernel) rfl ⟨Nat.le_of_ble_eq_true rfl, Nat.le_of_ble_eq_true rfl⟩ rfl rfl rfl (Nat.le_of_ble_eq_true rfl) dX5_linkOf_2 ⟨Nat.le_of_ble_eq_true rfl, Nat.le_of_ble_eq_true rfl⟩) (fun u ce9 q9 H locs hP hD hS hce hcv hcl => ?_)
  have hP : va_P G.1 vwCl [(x0, .inr (5, [.ref c0, .ref t0, .ref b0, .ref po, .ref kr, .ref r0, .int (nI (ln))])), (c0, .inr (1, [.ref crs, .ref crw, .ref crh, .ref crp, .ref crz, .int (nI (n))]))] H := hP
  have hD : va_D A [(x0, .inr (5, [.ref c0, .ref t0, .ref b0, .ref po, .ref kr, .ref r0, .int (nI (ln))])), (c0, .inr (1, [.ref crs, .ref crw, .ref crh, .ref crp, .ref crz, .int (nI (n))]))] := hD
  rw [hQ]
  exact x_out hout hlocks hce hcv hcl hK hP hD hS () [0, 1] rfl rfl (by decide) (Nat.le_of_ble_eq_true rfl) (Nat.le_of_ble_eq_true rfl)
set_option maxHeartbeats 4000000 in
set_option maxRecDepth 100000 in
theorem c_X5_linkOf_t2 (l : Launch) (G : kG) (x0 : Nat) (c0 : Nat) (t0 : Nat) (b0 : Nat) (po : Nat) (kr : Nat) (r0 : Nat) (ln : Nat) (crs : Nat) (crw : Nat) (crh : Nat) (crp : Nat) (crz : Nat) (n : Nat) (j : Nat) (v : Int32) (sz : Nat) (hfl : l.stackTraces = false) (hn1 : 1 ≤ n) (hn : n ≤ 20) (hj : j < n) (h2 : isN v 3 = false) : xMet l yX5_linkOf wsX5_linkOf ({ frames := 7, cells := 1, slots := 6, locals := 103 } : Room) G [.ref x0, .int (nI (j)), .int v] [(x0, .inr (5, [.ref c0, .ref t0, .ref b0, .ref po, .ref kr, .ref r0, .int (nI (ln))])), (c0, .inr (1, [.ref crs, .ref crw, .ref crh, .ref crp, .ref crz, .int (nI (n))]))] sz kIA (fun (u : Unit) => [(x0, .inr (5, [.ref c0, .ref t0, .ref b0, .ref po, .ref kr, .ref r0, .int (nI (ln))])), (c0, .inr (1, [.ref crs, .ref crw, .ref crh, .ref crp, .ref crz, .int (nI (n))]))]) 1 6 := by
  refine x_entry (cc := cX5_linkOf) (maxL := 3) (ret := (some .int)) (by decide) rfl (Nat.le_of_ble_eq_true rfl) ?_
  intro p e s m args below meth c A ls H locs Q hQ hx hb hml hout hX hts hown hlocks hA hP hK hD hS hl
  have hown : s.vm.findClass RX5 = some m.cls := hown
  have hl : lv_has ls 3 [(0, .ref x0), (1, .int (nI (j))), (2, .int v)] := hl
  refine lv_aload_n hx hb dX5_linkOf_0 rfl (lv_at hl 0 rfl) ?_
  refine lv_iload_n hx hb dX5_linkOf_1 rfl (lv_at hl 1 rfl) ?_
  refine k_cv (wr := []) [] rfl (by decide) [0, 1] rfl (by decide) hP hD hS hA (k_V (n := 1) (ci := 5) (As := [.int (nI (j))]) (rest := []) (wc := [(x0, .inr (5, [.ref c0, .ref t0, .ref b0, .ref po, .ref kr, .ref r0, .int (nI (ln))])), (c0, .inr (1, [.ref crs, .ref crw, .ref crh, .ref crp, .ref crz, .int (nI (n))]))]) hx hb hml hown hts hK hP hD hl (c_X5_requireLink_0 l G x0 c0 t0 b0 po kr r0 ln crs crw crh crp crz n j H.size (by first | assumption | omega) (by first | assumption | omega)) [0, 1] rfl (by decide) gX5_linkOf_X5_requireLink rfl rfl rfl (by decide +kernel) rfl ⟨Nat.le_of_ble_eq_true rfl, Nat.le_of_ble_eq_true rfl⟩ rfl rfl rfl (Nat.le_of_ble_eq_true rfl) dX5_linkOf_2 ⟨Nat.le_of_ble_eq_true rfl, Nat.le_of_ble_eq_true rfl⟩) (fun u H locs hw hP hD hS => ?_)
  have hw_2 : True := hw
  have hP : va_P G.1 vwCl [(x0, .inr (5, [.ref c0, .ref t0, .ref b0, .ref po, .ref kr, .ref r0, .int (nI (ln))])), (c0, .inr (1, [.ref crs, .ref crw, .ref crh, .ref crp, .ref crz, .int (nI (n))]))] H := hP
  have hD : va_D A [(x0, .inr (5, [.ref c0, .ref t0, .ref b0, .ref po, .ref kr, .ref r0, .int (nI (ln))])), (c0, .inr (1, [.ref crs, .ref crw, .ref crh, .ref crp, .ref crz, .int (nI (n))]))] := hD
  refine lv_iload_n hx hb dX5_linkOf_5 rfl (lv_at hl 2 rfl) ?_
  refine lv_iconst (v := 3) hx hb dX5_linkOf_6 (by decide) ?_
  refine x_call (wr := [(x0, .inr (5, [.ref c0, .ref t0, .ref b0, .ref po, .ref kr, .ref r0, .int (nI (ln))])), (c0, .inr (1, [.ref crs, .ref crw, .ref crh, .ref crp, .ref crz, .int (nI (n))]))]) [0, 1] rfl (by decide) [] rfl (by decide) hP hD hS hA (x_S (n := 2) (As := [.int v, .int 3]) (rest := []) (wc := []) hx hb hml hown hts hX hS hA hK hP hD hl (c_X5_requireWhat_t l G v 3 H.size hfl (by first | assumption | omega) (by first | assumption | omega)) [] rfl (by decide) gX5_linkOf_X5_requireWhat rfl rfl rfl (by decide +kernel) rfl ⟨Nat.le_of_ble_eq_true rfl, Nat.le_of_ble_eq_true rfl⟩ rfl (Nat.le_of_ble_eq_true rfl) dX5_linkOf_7 ⟨Nat.le_of_ble_eq_true rfl, Nat.le_of_ble_eq_true rfl⟩) (fun u ce9 q9 H locs hP hD hS hce hcv hcl => ?_)
  have hP : va_P G.1 vwCl [(x0, .inr (5, [.ref c0, .ref t0, .ref b0, .ref po, .ref kr, .ref r0, .int (nI (ln))])), (c0, .inr (1, [.ref crs, .ref crw, .ref crh, .ref crp, .ref crz, .int (nI (n))]))] H := hP
  have hD : va_D A [(x0, .inr (5, [.ref c0, .ref t0, .ref b0, .ref po, .ref kr, .ref r0, .int (nI (ln))])), (c0, .inr (1, [.ref crs, .ref crw, .ref crh, .ref crp, .ref crz, .int (nI (n))]))] := hD
  rw [hQ]
  exact x_out hout hlocks hce hcv hcl hK hP hD hS () [0, 1] rfl rfl (by decide) (Nat.le_of_ble_eq_true rfl) (Nat.le_of_ble_eq_true rfl)
set_option maxHeartbeats 4000000 in
set_option maxRecDepth 100000 in
theorem c_X5_joint_t1 (l : Launch) (G : kG) (x0 : Nat) (c0 : Nat) (t0 : Nat) (b0 : Nat) (po : Nat) (kr : Nat) (r0 : Nat) (ln : Nat) (crs : Nat) (crw : Nat) (crh : Nat) (crp : Nat) (crz : Nat) (n : Nat) (k : Int32) (v : Int32) (sz : Nat) (hfl : l.stackTraces = false) (hn1 : 1 ≤ n) (hn : n ≤ 20) (h1 : isN k (n + 1) = false) : xMet l yX5_joint wsX5_joint ({ frames := 7, cells := 1, slots := 6, locals := 103 } : Room) G [.ref x0, .int k, .int v] [(x0, .inr (5, [.ref c0, .ref t0, .ref b0, .ref po, .ref kr, .ref r0, .int (nI (ln))])), (c0, .inr (1, [.ref crs, .ref crw, .ref crh, .ref crp, .ref crz, .int (nI (n))]))] sz kIO (fun (u : Unit) => [(x0, .inr (5, [.ref c0, .ref t0, .ref b0, .ref po, .ref kr, .ref r0, .int (nI (ln))])), (c0, .inr (1, [.ref crs, .ref crw, .ref crh, .ref crp, .ref crz, .int (nI (n))]))]) 1 6 := by
  refine x_entry (cc := cX5_joint) (maxL := 3) (ret := (some .int)) (by decide) rfl (Nat.le_of_ble_eq_true rfl) ?_
  intro p e s m args below meth c A ls H locs Q hQ hx hb hml hout hX hts hown hlocks hA hP hK hD hS hl
  have hown : s.vm.findClass RX5 = some m.cls := hown
  have hl : lv_has ls 3 [(0, .ref x0), (1, .int k), (2, .int v)] := hl
  refine lv_aload_n hx hb dX5_joint_0 rfl (lv_at hl 0 rfl) ?_
  refine lv_iload_n hx hb dX5_joint_1 rfl (lv_at hl 1 rfl) ?_
  refine x_call (wr := []) [] rfl (by decide) [0, 1] rfl (by decide) hP hD hS hA (x_V (n := 1) (ci := 5) (As := [.int k]) (rest := []) (wc := [(x0, .inr (5, [.ref c0, .ref t0, .ref b0, .ref po, .ref kr, .ref r0, .int (nI (ln))])), (c0, .inr (1, [.ref crs, .ref crw, .ref crh, .ref crp, .ref crz, .int (nI (n))]))]) hx hb hml hown hts hX hS hA hK hP hD hl (c_X5_requireJoint_t l G x0 c0 t0 b0 po kr r0 ln crs crw crh crp crz n k H.size hfl (by first | assumption | omega) (by first | assumption | omega)) [0, 1] rfl (by decide) gX5_joint_X5_requireJoint rfl rfl rfl (by decide +kernel) rfl ⟨Nat.le_of_ble_eq_true rfl, Nat.le_of_ble_eq_true rfl⟩ rfl rfl rfl (Nat.le_of_ble_eq_true rfl) dX5_joint_2 ⟨Nat.le_of_ble_eq_true rfl, Nat.le_of_ble_eq_true rfl⟩) (fun u ce9 q9 H locs hP hD hS hce hcv hcl => ?_)
  have hP : va_P G.1 vwCl [(x0, .inr (5, [.ref c0, .ref t0, .ref b0, .ref po, .ref kr, .ref r0, .int (nI (ln))])), (c0, .inr (1, [.ref crs, .ref crw, .ref crh, .ref crp, .ref crz, .int (nI (n))]))] H := hP
  have hD : va_D A [(x0, .inr (5, [.ref c0, .ref t0, .ref b0, .ref po, .ref kr, .ref r0, .int (nI (ln))])), (c0, .inr (1, [.ref crs, .ref crw, .ref crh, .ref crp, .ref crz, .int (nI (n))]))] := hD
  rw [hQ]
  exact x_out hout hlocks hce hcv hcl hK hP hD hS () [0, 1] rfl rfl (by decide) (Nat.le_of_ble_eq_true rfl) (Nat.le_of_ble_eq_true rfl)
set_option maxHeartbeats 4000000 in
set_option maxRecDepth 100000 in
theorem c_X5_joint_t2 (l : Launch) (G : kG) (x0 : Nat) (c0 : Nat) (t0 : Nat) (b0 : Nat) (po : Nat) (kr : Nat) (r0 : Nat) (ln : Nat) (crs : Nat) (crw : Nat) (crh : Nat) (crp : Nat) (crz : Nat) (n : Nat) (j : Nat) (v : Int32) (sz : Nat) (hfl : l.stackTraces = false) (hn1 : 1 ≤ n) (hn : n ≤ 20) (hj : j ≤ n) (h2 : isN v 8 = false) : xMet l yX5_joint wsX5_joint ({ frames := 7, cells := 1, slots := 6, locals := 103 } : Room) G [.ref x0, .int (nI (j)), .int v] [(x0, .inr (5, [.ref c0, .ref t0, .ref b0, .ref po, .ref kr, .ref r0, .int (nI (ln))])), (c0, .inr (1, [.ref crs, .ref crw, .ref crh, .ref crp, .ref crz, .int (nI (n))]))] sz kIA (fun (u : Unit) => [(x0, .inr (5, [.ref c0, .ref t0, .ref b0, .ref po, .ref kr, .ref r0, .int (nI (ln))])), (c0, .inr (1, [.ref crs, .ref crw, .ref crh, .ref crp, .ref crz, .int (nI (n))]))]) 1 6 := by
  refine x_entry (cc := cX5_joint) (maxL := 3) (ret := (some .int)) (by decide) rfl (Nat.le_of_ble_eq_true rfl) ?_
  intro p e s m args below meth c A ls H locs Q hQ hx hb hml hout hX hts hown hlocks hA hP hK hD hS hl
  have hown : s.vm.findClass RX5 = some m.cls := hown
  have hl : lv_has ls 3 [(0, .ref x0), (1, .int (nI (j))), (2, .int v)] := hl
  refine lv_aload_n hx hb dX5_joint_0 rfl (lv_at hl 0 rfl) ?_
  refine lv_iload_n hx hb dX5_joint_1 rfl (lv_at hl 1 rfl) ?_
  refine k_cv (wr := []) [] rfl (by decide) [0, 1] rfl (by decide) hP hD hS hA (k_V (n := 1) (ci := 5) (As := [.int (nI (j))]) (rest := []) (wc := [(x0, .inr (5, [.ref c0, .ref t0, .ref b0, .ref po, .ref kr, .ref r0, .int (nI (ln))])), (c0, .inr (1, [.ref crs, .ref crw, .ref crh, .ref crp, .ref crz, .int (nI (n))]))]) hx hb hml hown hts hK hP hD hl (c_X5_requireJoint_0 l G x0 c0 t0 b0 po kr r0 ln crs crw crh crp crz n j H.size (by first | assumption | omega) (by first | assumption | omega)) [0, 1] rfl (by decide) gX5_joint_X5_requireJoint rfl rfl rfl (by decide +kernel) rfl ⟨Nat.le_of_ble_eq_true rfl, Nat.le_of_ble_eq_true rfl⟩ rfl rfl rfl (Nat.le_of_ble_eq_true rfl) dX5_joint_2 ⟨Nat.le_of_ble_eq_true rfl, Nat.le_of_ble_eq_true rfl⟩) (fun u H locs hw hP hD hS => ?_)
  have hw_2 : True := hw
  have hP : va_P G.1 vwCl [(x0, .inr (5, [.ref c0, .ref t0, .ref b0, .ref po, .ref kr, .ref r0, .int (nI (ln))])), (c0, .inr (1, [.ref crs, .ref crw, .ref crh, .ref crp, .ref crz, .int (nI (n))]))] H := hP
  have hD : va_D A [(x0, .inr (5, [.ref c0, .ref t0, .ref b0, .ref po, .ref kr, .ref r0, .int (nI (ln))])), (c0, .inr (1, [.ref crs, .ref crw, .ref crh, .ref crp, .ref crz, .int (nI (n))]))] := hD
  refine lv_iload_n hx hb dX5_joint_5 rfl (lv_at hl 2 rfl) ?_
  refine lv_bipush (v := 8) hx hb dX5_joint_6 (by decide) ?_
  refine x_call (wr := [(x0, .inr (5, [.ref c0, .ref t0, .ref b0, .ref po, .ref kr, .ref r0, .int (nI (ln))])), (c0, .inr (1, [.ref crs, .ref crw, .ref crh, .ref crp, .ref crz, .int (nI (n))]))]) [0, 1] rfl (by decide) [] rfl (by decide) hP hD hS hA (x_S (n := 2) (As := [.int v, .int 8]) (rest := []) (wc := []) hx hb hml hown hts hX hS hA hK hP hD hl (c_X5_requireWhat_t l G v 8 H.size hfl (by first | assumption | omega) (by first | assumption | omega)) [] rfl (by decide) gX5_joint_X5_requireWhat rfl rfl rfl (by decide +kernel) rfl ⟨Nat.le_of_ble_eq_true rfl, Nat.le_of_ble_eq_true rfl⟩ rfl (Nat.le_of_ble_eq_true rfl) dX5_joint_8 ⟨Nat.le_of_ble_eq_true rfl, Nat.le_of_ble_eq_true rfl⟩) (fun u ce9 q9 H locs hP hD hS hce hcv hcl => ?_)
  have hP : va_P G.1 vwCl [(x0, .inr (5, [.ref c0, .ref t0, .ref b0, .ref po, .ref kr, .ref r0, .int (nI (ln))])), (c0, .inr (1, [.ref crs, .ref crw, .ref crh, .ref crp, .ref crz, .int (nI (n))]))] H := hP
  have hD : va_D A [(x0, .inr (5, [.ref c0, .ref t0, .ref b0, .ref po, .ref kr, .ref r0, .int (nI (ln))])), (c0, .inr (1, [.ref crs, .ref crw, .ref crh, .ref crp, .ref crz, .int (nI (n))]))] := hD
  rw [hQ]
  exact x_out hout hlocks hce hcv hcl hK hP hD hS () [0, 1] rfl rfl (by decide) (Nat.le_of_ble_eq_true rfl) (Nat.le_of_ble_eq_true rfl)
set_option maxHeartbeats 4000000 in
set_option maxRecDepth 100000 in
theorem c_X5_count_t1 (l : Launch) (G : kG) (v : Int32) (x0 : Nat) (c0 : Nat) (t0 : Nat) (b0 : Nat) (po : Nat) (kr : Nat) (r0 : Nat) (ln : Nat) (sz : Nat) (hfl : l.stackTraces = false) (h2 : isN v 11 = false) : xMet l yX5_count wsX5_count ({ frames := 7, cells := 1, slots := 6, locals := 103 } : Room) G [.ref x0, .int v] [(x0, .inr (5, [.ref c0, .ref t0, .ref b0, .ref po, .ref kr, .ref r0, .int (nI (ln))]))] sz kIA (fun (u : Unit) => [(x0, .inr (5, [.ref c0, .ref t0, .ref b0, .ref po, .ref kr, .ref r0, .int (nI (ln))]))]) 1 6 := by
  refine x_entry (cc := cX5_count) (maxL := 2) (ret := (some .int)) (by decide) rfl (Nat.le_of_ble_eq_true rfl) ?_
  intro p e s m args below meth c A ls H locs Q hQ hx hb hml hout hX hts hown hlocks hA hP hK hD hS hl
  have hown : s.vm.findClass RX5 = some m.cls := hown
  have hl : lv_has ls 2 [(0, .ref x0), (1, .int v)] := hl
  refine lv_iload_n hx hb dX5_count_0 rfl (lv_at hl 1 rfl) ?_
  refine lv_bipush (v := 11) hx hb dX5_count_1 (by decide) ?_
  refine x_call (wr := [(x0, .inr (5, [.ref c0, .ref t0, .ref b0, .ref po, .ref kr, .ref r0, .int (nI (ln))]))]) [0] rfl (by decide) [] rfl (by decide) hP hD hS hA (x_S (n := 2) (As := [.int v, .int 11]) (rest := []) (wc := []) hx hb hml hown hts hX hS hA hK hP hD hl (c_X5_requireWhat_t l G v 11 H.size hfl (by first | assumption | omega) (by first | assumption | omega)) [] rfl (by decide) gX5_count_X5_requireWhat rfl rfl rfl (by decide +kernel) rfl ⟨Nat.le_of_ble_eq_true rfl, Nat.le_of_ble_eq_true rfl⟩ rfl (Nat.le_of_ble_eq_true rfl) dX5_count_3 ⟨Nat.le_of_ble_eq_true rfl, Nat.le_of_ble_eq_true rfl⟩) (fun u ce9 q9 H locs hP hD hS hce hcv hcl => ?_)
  have hP : va_P G.1 vwCl [(x0, .inr (5, [.ref c0, .ref t0, .ref b0, .ref po, .ref kr, .ref r0, .int (nI (ln))]))] H := hP
  have hD : va_D A [(x0, .inr (5, [.ref c0, .ref t0, .ref b0, .ref po, .ref kr, .ref r0, .int (nI (ln))]))] := hD
  rw [hQ]
  exact x_out hout hlocks hce hcv hcl hK hP hD hS () [0] rfl rfl (by decide) (Nat.le_of_ble_eq_true rfl) (Nat.le_of_ble_eq_true rfl)
set_option maxHeartbeats 4000000 in
set_option maxRecDepth 100000 in
theorem c_X5_setting_t1 (l : Launch) (G : kG) (x0 : Nat) (c0 : Nat) (t0 : Nat) (b0 : Nat) (po : Nat) (kr : Nat) (r0 : Nat) (ln : Nat) (k : Int32) (sz : Nat) (hfl : l.stackTraces = false) (h1 : isN k 4 = false) : xMet l yX5_setting wsX5_setting ({ frames := 7, cells := 1, slots := 6, locals := 102 } : Room) G [.ref x0, .int k] [(x0, .inr (5, [.ref c0, .ref t0, .ref b0, .ref po, .ref kr, .ref r0, .int (nI (ln))]))] sz kIO (fun (u : Unit) => [(x0, .inr (5, [.ref c0, .ref t0, .ref b0, .ref po, .ref kr, .ref r0, .int (nI (ln))]))]) 1 6 := by
  refine x_entry (cc := cX5_setting) (maxL := 2) (ret := (some .int)) (by decide) rfl (Nat.le_of_ble_eq_true rfl) ?_
  intro p e s m args below meth c A ls H locs Q hQ hx hb hml hout hX hts hown hlocks hA hP hK hD hS hl
  have hown : s.vm.findClass RX5 = some m.cls := hown
  have hl : lv_has ls 2 [(0, .ref x0), (1, .int k)] := hl
  refine lv_iload_n hx hb dX5_setting_0 rfl (lv_at hl 1 rfl) ?_
  refine x_call (wr := [(x0, .inr (5, [.ref c0, .ref t0, .ref b0, .ref po, .ref kr, .ref r0, .int (nI (ln))]))]) [0] rfl (by decide) [] rfl (by decide) hP hD hS hA (x_S (n := 1) (As := [.int k]) (rest := []) (wc := []) hx hb hml hown hts hX hS hA hK hP hD hl (c_X5_requireSetting_t l G k H.size hfl (by first | assumption | omega)) [] rfl (by decide) gX5_setting_X5_requireSetting rfl rfl rfl (by decide +kernel) rfl ⟨Nat.le_of_ble_eq_true rfl, Nat.le_of_ble_eq_true rfl⟩ rfl (Nat.le_of_ble_eq_true rfl) dX5_setting_1 ⟨Nat.le_of_ble_eq_true rfl, Nat.le_of_ble_eq_true rfl⟩) (fun u ce9 q9 H locs hP hD hS hce hcv hcl => ?_)
  have hP : va_P G.1 vwCl [(x0, .inr (5, [.ref c0, .ref t0, .ref b0, .ref po, .ref kr, .ref r0, .int (nI (ln))]))] H := hP
  have hD : va_D A [(x0, .inr (5, [.ref c0, .ref t0, .ref b0, .ref po, .ref kr, .ref r0, .int (nI (ln))]))] := hD
  rw [hQ]
  exact x_out hout hlocks hce hcv hcl hK hP hD hS () [0] rfl rfl (by decide) (Nat.le_of_ble_eq_true rfl) (Nat.le_of_ble_eq_true rfl)
set_option maxHeartbeats 4000000 in
set_option maxRecDepth 100000 in
theorem c_X5_mostWeight_t1 (l : Launch) (G : kG) (x0 : Nat) (c0 : Nat) (t0 : Nat) (b0 : Nat) (po : Nat) (kr : Nat) (r0 : Nat) (ln : Nat) (crs : Nat) (crw : Nat) (crh : Nat) (crp : Nat) (crz : Nat) (n : Nat) (k : Int32) (sz : Nat) (hfl : l.stackTraces = false) (hn1 : 1 ≤ n) (hn : n ≤ 20) (h1 : isN k (n + 1) = false) : xMet l yX5_mostWeight wsX5_mostWeight ({ frames := 7, cells := 1, slots := 6, locals := 103 } : Room) G [.ref x0, .int k] [(x0, .inr (5, [.ref c0, .ref t0, .ref b0, .ref po, .ref kr, .ref r0, .int (nI (ln))])), (c0, .inr (1, [.ref crs, .ref crw, .ref crh, .ref crp, .ref crz, .int (nI (n))]))] sz kIO (fun (u : Unit) => [(x0, .inr (5, [.ref c0, .ref t0, .ref b0, .ref po, .ref kr, .ref r0, .int (nI (ln))])), (c0, .inr (1, [.ref crs, .ref crw, .ref crh, .ref crp, .ref crz, .int (nI (n))]))]) 1 6 := by
  refine x_entry (cc := cX5_mostWeight) (maxL := 3) (ret := (some .int)) (by decide) rfl (Nat.le_of_ble_eq_true rfl) ?_
  intro p e s m args below meth c A ls H locs Q hQ hx hb hml hout hX hts hown hlocks hA hP hK hD hS hl
  have hown : s.vm.findClass RX5 = some m.cls := hown
  have hl : lv_has ls 3 [(0, .ref x0), (1, .int k)] := hl
  refine lv_aload_n hx hb dX5_mostWeight_0 rfl (lv_at hl 0 rfl) ?_
  refine lv_iload_n hx hb dX5_mostWeight_1 rfl (lv_at hl 1 rfl) ?_
  refine x_call (wr := []) [] rfl (by decide) [0, 1] rfl (by decide) hP hD hS hA (x_V (n := 1) (ci := 5) (As := [.int k]) (rest := []) (wc := [(x0, .inr (5, [.ref c0, .ref t0, .ref b0, .ref po, .ref kr, .ref r0, .int (nI (ln))])), (c0, .inr (1, [.ref crs, .ref crw, .ref crh, .ref crp, .ref crz, .int (nI (n))]))]) hx hb hml hown hts hX hS hA hK hP hD hl (c_X5_requireJoint_t l G x0 c0 t0 b0 po kr r0 ln crs crw crh crp crz n k H.size hfl (by first | assumption | omega) (by first | assumption | omega)) [0, 1] rfl (by decide) gX5_mostWeight_X5_requireJoint rfl rfl rfl (by decide +kernel) rfl ⟨Nat.le_of_ble_eq_true rfl, Nat.le_of_ble_eq_true rfl⟩ rfl rfl rfl (Nat.le_of_ble_eq_true rfl) dX5_mostWeight_2 ⟨Nat.le_of_ble_eq_true rfl, Nat.le_of_ble_eq_true rfl⟩) (fun u ce9 q9 H locs hP hD hS hce hcv hcl => ?_)
  have hP : va_P G.1 vwCl [(x0, .inr (5, [.ref c0, .ref t0, .ref b0, .ref po, .ref kr, .ref r0, .int (nI (ln))])), (c0, .inr (1, [.ref crs, .ref crw, .ref crh, .ref crp, .ref crz, .int (nI (n))]))] H := hP
  have hD : va_D A [(x0, .inr (5, [.ref c0, .ref t0, .ref b0, .ref po, .ref kr, .ref r0, .int (nI (ln))])), (c0, .inr (1, [.ref crs, .ref crw, .ref crh, .ref crp, .ref crz, .int (nI (n))]))] := hD
  rw [hQ]
  exact x_out hout hlocks hce hcv hcl hK hP hD hS () [0, 1] rfl rfl (by decide) (Nat.le_of_ble_eq_true rfl) (Nat.le_of_ble_eq_true rfl)
set_option maxHeartbeats 4000000 in
set_option maxRecDepth 100000 in
theorem c_X5_bestMove_t1 (l : Launch) (G : kG) (x0 : Nat) (c0 : Nat) (t0 : Nat) (b0 : Nat) (po : Nat) (kr : Nat) (r0 : Nat) (ln : Nat) (crs : Nat) (crw : Nat) (crh : Nat) (crp : Nat) (crz : Nat) (n : Nat) (k : Int32) (sz : Nat) (hfl : l.stackTraces = false) (hn1 : 1 ≤ n) (hn : n ≤ 20) (h1 : isN k (n + 1) = false) : xMet l yX5_bestMove wsX5_bestMove ({ frames := 7, cells := 1, slots := 6, locals := 103 } : Room) G [.ref x0, .int k] [(x0, .inr (5, [.ref c0, .ref t0, .ref b0, .ref po, .ref kr, .ref r0, .int (nI (ln))])), (c0, .inr (1, [.ref crs, .ref crw, .ref crh, .ref crp, .ref crz, .int (nI (n))]))] sz kIO (fun (u : Unit) => [(x0, .inr (5, [.ref c0, .ref t0, .ref b0, .ref po, .ref kr, .ref r0, .int (nI (ln))])), (c0, .inr (1, [.ref crs, .ref crw, .ref crh, .ref crp, .ref crz, .int (nI (n))]))]) 1 6 := by
  refine x_entry (cc := cX5_bestMove) (maxL := 6) (ret := (some .int)) (by decide) rfl (Nat.le_of_ble_eq_true rfl) ?_
  intro p e s m args below meth c A ls H locs Q hQ hx hb hml hout hX hts hown hlocks hA hP hK hD hS hl
  have hown : s.vm.findClass RX5 = some m.cls := hown
  have hl : lv_has ls 6 [(0, .ref x0), (1, .int k)] := hl
  refine lv_aload_n hx hb dX5_bestMove_0 rfl (lv_at hl 0 rfl) ?_
  refine lv_iload_n hx hb dX5_bestMove_1 rfl (lv_at hl 1 rfl) ?_
  refine x_call (wr := []) [] rfl (by decide) [0, 1] rfl (by decide) hP hD hS hA (x_V (n := 1) (ci := 5) (As := [.int k]) (rest := []) (wc := [(x0, .inr (5, [.ref c0, .ref t0, .ref b0, .ref po, .ref kr, .ref r0, .int (nI (ln))])), (c0, .inr (1, [.ref crs, .ref crw, .ref crh, .ref crp, .ref crz, .int (nI (n))]))]) hx hb hml hown hts hX hS hA hK hP hD hl (c_X5_requireJoint_t l G x0 c0 t0 b0 po kr r0 ln crs crw crh crp crz n k H.size hfl (by first | assumption | omega) (by first | assumption | omega)) [0, 1] rfl (by decide) gX5_bestMove_X5_requireJoint rfl rfl rfl (by decide +kernel) rfl ⟨Nat.le_of_ble_eq_true rfl, Nat.le_of_ble_eq_true rfl⟩ rfl rfl rfl (Nat.le_of_ble_eq_true rfl) dX5_bestMove_2 ⟨Nat.le_of_ble_eq_true rfl, Nat.le_of_ble_eq_true rfl⟩) (fun u ce9 q9 H locs hP hD hS hce hcv hcl => ?_)
  have hP : va_P G.1 vwCl [(x0, .inr (5, [.ref c0, .ref t0, .ref b0, .ref po, .ref kr, .ref r0, .int (nI (ln))])), (c0, .inr (1, [.ref crs, .ref crw, .ref crh, .ref crp, .ref crz, .int (nI (n))]))] H := hP
  have hD : va_D A [(x0, .inr (5, [.ref c0, .ref t0, .ref b0, .ref po, .ref kr, .ref r0, .int (nI (ln))])), (c0, .inr (1, [.ref crs, .ref crw, .ref crh, .ref crp, .ref crz, .int (nI (n))]))] := hD
  rw [hQ]
  exact x_out hout hlocks hce hcv hcl hK hP hD hS () [0, 1] rfl rfl (by decide) (Nat.le_of_ble_eq_true rfl) (Nat.le_of_ble_eq_true rfl)
set_option maxHeartbeats 4000000 in
set_option maxRecDepth 100000 in
theorem c_X5_bestHanger_t1 (l : Launch) (G : kG) (x0 : Nat) (c0 : Nat) (t0 : Nat) (b0 : Nat) (po : Nat) (kr : Nat) (r0 : Nat) (ln : Nat) (v : Int32) (sz : Nat) (hfl : l.stackTraces = false) (h2 : ¬ (0 ≤ v ∧ v ≤ 99)) : xMet l yX5_bestHanger wsX5_bestHanger ({ frames := 7, cells := 1, slots := 6, locals := 102 } : Room) G [.ref x0, .int v] [(x0, .inr (5, [.ref c0, .ref t0, .ref b0, .ref po, .ref kr, .ref r0, .int (nI (ln))]))] sz kIA (fun (u : Unit) => [(x0, .inr (5, [.ref c0, .ref t0, .ref b0, .ref po, .ref kr, .ref r0, .int (nI (ln))]))]) 1 6 := by
  refine x_entry (cc := cX5_bestHanger) (maxL := 6) (ret := (some .int)) (by decide) rfl (Nat.le_of_ble_eq_true rfl) ?_
  intro p e s m args below meth c A ls H locs Q hQ hx hb hml hout hX hts hown hlocks hA hP hK hD hS hl
  have hown : s.vm.findClass RX5 = some m.cls := hown
  have hl : lv_has ls 6 [(0, .ref x0), (1, .int v)] := hl
  refine lv_iload_n hx hb dX5_bestHanger_0 rfl (lv_at hl 1 rfl) ?_
  refine x_call (wr := [(x0, .inr (5, [.ref c0, .ref t0, .ref b0, .ref po, .ref kr, .ref r0, .int (nI (ln))]))]) [0] rfl (by decide) [] rfl (by decide) hP hD hS hA (x_S (n := 1) (As := [.int v]) (rest := []) (wc := []) hx hb hml hown hts hX hS hA hK hP hD hl (c_X5_requireAmount_t l G v H.size hfl (by first | assumption | omega)) [] rfl (by decide) gX5_bestHanger_X5_requireAmount rfl rfl rfl (by decide +kernel) rfl ⟨Nat.le_of_ble_eq_true rfl, Nat.le_of_ble_eq_true rfl⟩ rfl (Nat.le_of_ble_eq_true rfl) dX5_bestHanger_1 ⟨Nat.le_of_ble_eq_true rfl, Nat.le_of_ble_eq_true rfl⟩) (fun u ce9 q9 H locs hP hD hS hce hcv hcl => ?_)
  have hP : va_P G.1 vwCl [(x0, .inr (5, [.ref c0, .ref t0, .ref b0, .ref po, .ref kr, .ref r0, .int (nI (ln))]))] H := hP
  have hD : va_D A [(x0, .inr (5, [.ref c0, .ref t0, .ref b0, .ref po, .ref kr, .ref r0, .int (nI (ln))]))] := hD
  rw [hQ]
  exact x_out hout hlocks hce hcv hcl hK hP hD hS () [0] rfl rfl (by decide) (Nat.le_of_ble_eq_true rfl) (Nat.le_of_ble_eq_true rfl)
set_option maxHeartbeats 4000000 in
set_option maxRecDepth 100000 in
theorem c_X5_bestStep_t1 (l : Launch) (G : kG) (x0 : Nat) (c0 : Nat) (t0 : Nat) (b0 : Nat) (po : Nat) (kr : Nat) (r0 : Nat) (ln : Nat) (crs : Nat) (crw : Nat) (crh : Nat) (crp : Nat) (crz : Nat) (n : Nat) (k : Int32) (sz : Nat) (hfl : l.stackTraces = false) (hn1 : 1 ≤ n) (hn : n ≤ 20) (h1 : isN k n = false) : xMet l yX5_bestStep wsX5_bestStep ({ frames := 7, cells := 1, slots := 6, locals := 103 } : Room) G [.ref x0, .int k] [(x0, .inr (5, [.ref c0, .ref t0, .ref b0, .ref po, .ref kr, .ref r0, .int (nI (ln))])), (c0, .inr (1, [.ref crs, .ref crw, .ref crh, .ref crp, .ref crz, .int (nI (n))]))] sz kIO (fun (u : Unit) => [(x0, .inr (5, [.ref c0, .ref t0, .ref b0, .ref po, .ref kr, .ref r0, .int (nI (ln))])), (c0, .inr (1, [.ref crs, .ref crw, .ref crh, .ref crp, .ref crz, .int (nI (n))]))]) 1 6 := by
  refine x_entry (cc := cX5_bestStep) (maxL := 6) (ret := (some .int)) (by decide) rfl (Nat.le_of_ble_eq_true rfl) ?_
  intro p e s m args below meth c A ls H locs Q hQ hx hb hml hout hX hts hown hlocks hA hP hK hD hS hl
  have hown : s.vm.findClass RX5 = some m.cls := hown
  have hl : lv_has ls 6 [(0, .ref x0), (1, .int k)] := hl
  refine lv_aload_n hx hb dX5_bestStep_0 rfl (lv_at hl 0 rfl) ?_
  refine lv_iload_n hx hb dX5_bestStep_1 rfl (lv_at hl 1 rfl) ?_
  refine x_call (wr := []) [] rfl (by decide) [0, 1] rfl (by decide) hP hD hS hA (x_V (n := 1) (ci := 5) (As := [.int k]) (rest := []) (wc := [(x0, .inr (5, [.ref c0, .ref t0, .ref b0, .ref po, .ref kr, .ref r0, .int (nI (ln))])), (c0, .inr (1, [.ref crs, .ref crw, .ref crh, .ref crp, .ref crz, .int (nI (n))]))]) hx hb hml hown hts hX hS hA hK hP hD hl (c_X5_requireLink_t l G x0 c0 t0 b0 po kr r0 ln crs crw crh crp crz n k H.size hfl (by first | assumption | omega) (by first | assumption | omega)) [0, 1] rfl (by decide) gX5_bestStep_X5_requireLink rfl rfl rfl (by decide +kernel) rfl ⟨Nat.le_of_ble_eq_true rfl, Nat.le_of_ble_eq_true rfl⟩ rfl rfl rfl (Nat.le_of_ble_eq_true rfl) dX5_bestStep_2 ⟨Nat.le_of_ble_eq_true rfl, Nat.le_of_ble_eq_true rfl⟩) (fun u ce9 q9 H locs hP hD hS hce hcv hcl => ?_)
  have hP : va_P G.1 vwCl [(x0, .inr (5, [.ref c0, .ref t0, .ref b0, .ref po, .ref kr, .ref r0, .int (nI (ln))])), (c0, .inr (1, [.ref crs, .ref crw, .ref crh, .ref crp, .ref crz, .int (nI (n))]))] H := hP
  have hD : va_D A [(x0, .inr (5, [.ref c0, .ref t0, .ref b0, .ref po, .ref kr, .ref r0, .int (nI (ln))])), (c0, .inr (1, [.ref crs, .ref crw, .ref crh, .ref crp, .ref crz, .int (nI (n))]))] := hD
  rw [hQ]
  exact x_out hout hlocks hce hcv hcl hK hP hD hS () [0, 1] rfl rfl (by decide) (Nat.le_of_ble_eq_true rfl) (Nat.le_of_ble_eq_true rfl)
