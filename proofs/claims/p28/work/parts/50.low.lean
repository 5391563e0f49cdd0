set_option maxHeartbeats 4000000 in
set_option maxRecDepth 100000 in
theorem c_L_low (l : Launch) (G : kG) (v : Int32) (n : Nat) (sz : Nat) (h1 : 1 ≤ n) (h2 : n < 2 ^ 31) : kMet l yL_low wsL_low ({ frames := 0, cells := 0, slots := 0, locals := 0 } : Room) G [.int v, .int (nI (n))] [] sz (kQi G (fun (r : Int32) (u : Unit) => ∃ k, k < n ∧ r = nI k) (fun (u : Unit) => [])) 0 0 := by
  refine k_entry (cc := cL_low) (maxL := 2) (ret := (some .int)) (by decide) rfl (Nat.le_of_ble_eq_true rfl) ?_
  intro p e s m args below meth c A ls H locs Q hQ hx hb hml hr hts hown hlocks hin hA hP hK hD hS hl
  have hown : s.vm.findClass RL = some m.cls := hown
  have hl : lv_has ls 2 [(0, .int v), (1, .int (nI (n)))] := hl
  have hk7 := hts (.constant RL 7 2147483647) (by decide +kernel)
  refine lv_iload_n hx hb dL_low_0 rfl (lv_at hl 0 rfl) ?_
  refine lv_ldc (v := 2147483647) hx hb hown hk7 dL_low_1 ?_
  refine lv_iand hx hb dL_low_3 ?_
  refine g_ti (y := nI (v.toBitVec.toNat % 2 ^ 31)) (pk_and v 31 (by decide)) ?_
  refine lv_iload_n hx hb dL_low_4 rfl (lv_at hl 1 rfl) ?_
  refine lv_irem hx hb dL_low_5 (nI_ne0 (by omega) (by omega)) ?_
  refine g_ti (y := nI ((v.toBitVec.toNat % 2 ^ 31) % n)) (pk_rem (a := v.toBitVec.toNat % 2 ^ 31) (d := n) (by omega) (by omega) (by omega)) ?_
  rw [hQ]
  exact k_iret (v := nI ((v.toBitVec.toNat % 2 ^ 31) % n)) () [] hx hb hr hlocks (⟨_, Nat.mod_lt _ (by omega), rfl⟩) hK hP hD hS rfl (by decide) dL_low_6
set_option maxHeartbeats 4000000 in
set_option maxRecDepth 100000 in
theorem p_low (l : Launch) (G : kG) (a : Nat → Nat) (sa : Nat → Nat → Nat) (c : CV) (p : PS) (y : YS) (v : Int32) (n : Nat) (sz : Nat) (hc : okC c) (hp : okQ p) (h1 : 1 ≤ n) (h2 : n < 2 ^ 31) : kMet l yL_low wsL_low ({ frames := 0, cells := 0, slots := 0, locals := 0 } : Room) G [.int v, .int (nI n)] (pW G a sa c p y) sz (kQi G (fun (r : Int32) (_ : YS) => ∃ k, k < n ∧ r = nI k) (fun (z : YS) => pW G a sa c p z)) 0 0 :=
  k_hideI (fun (_ : Unit) => y) (post := fun r _ => ∃ k, k < n ∧ r = nI k) (k_frameI (wr := pW G a sa c p y) (ws2 := fun (_ : Unit) => pW G a sa c p y) [] [0, 1, 2, 3, 4, 5, 6, 7, 8, 9, 10, 11, 12, 13, 14, 15, 16, 17, 18, 19, 20, 21, 22, 23, 24, 25, 26, 27, 28, 29, 30, 31, 32, 33, 34, 35, 36, 37, 38, 39, 40, 41, 42, 43, 44, 45, 46, 47, 48, 49, 50, 51, 52, 53, 54, 55, 56, 57, 58, 59, 60, 61, 62, 63, 64, 65, 66, 67, 68, 69, 70, 71, 72, 73, 74, 75, 76, 77, 78, 79, 80, 81, 82, 83, 84, 85, 86, 87, 88, 89, 90, 91, 92, 93, 94, 95, 96, 97, 98, 99, 100, 101, 102, 103, 104, 105, 106, 107, 108, 109, 110] [0, 1, 2, 3, 4, 5, 6, 7, 8, 9, 10, 11, 12, 13, 14, 15, 16, 17, 18, 19, 20, 21, 22, 23, 24, 25, 26, 27, 28, 29, 30, 31, 32, 33, 34, 35, 36, 37, 38, 39, 40, 41, 42, 43, 44, 45, 46, 47, 48, 49, 50, 51, 52, 53, 54, 55, 56, 57, 58, 59, 60, 61, 62, 63, 64, 65, 66, 67, 68, 69, 70, 71, 72, 73, 74, 75, 76, 77, 78, 79, 80, 81, 82, 83, 84, 85, 86, 87, 88, 89, 90, 91, 92, 93, 94, 95, 96, 97, 98, 99, 100, 101, 102, 103, 104, 105, 106, 107, 108, 109, 110] (c_L_low l G v n sz h1 h2) rfl (by decide +kernel) rfl (by decide +kernel) (by decide +kernel) (fun _ => rfl) (by decide +kernel))
