/-! # the law: what binds the two sides at its loop's head, and what a case of it wants -/
def Rel (x : XS) (u : MS) : Prop := okP x.1 u.1.2.1 ∧ okV x.2.2.2.1.1 x.2.2.2.1.2.1 x.2.2.2.1.2.2 u.1.2.2.1 u.1.2.2.2.1 ∧ okT x.2.2.2.2.1.1 x.2.2.2.2.1.2 u.1.2.2.2.2.2 u.1.2.2.2.2.1
def lwC (p : Program) (l : Launch) (s : State) (m : MethodId) (args : Array Value) (c : Code) (A : Nat → Prop) (G : kG) (sb L : Nat) (xs : Nat → Int32) : Prop :=
  p.tables.exec = Jvm.exec ∧ c.code = cL_law ∧ c.maxLocals = 9 ∧ s.vm.findClass RL = some m.cls ∧ (∀ w ∈ wsL_law, w.before args s = true) ∧ va_X sb L xs s s.heap ∧ sb < s.heap.size ∧ ¬ A sb ∧ l.stackTraces = false ∧ kXs A s s.heap ∧ (∀ q ∈ kNc, va_Nc q.1 q.2 s) ∧ (∀ q, s.heap.size ≤ q → A q) ∧ va_K G.1 vwCl (kT G) s ∧ L ≤ 1536
def lwK (p : Program) (l : Launch) (e : Env) (s : State) (m : MethodId) (args : Array Value) (below : List Frame) (meth : Method) (c : Code) (A : Nat → Prop) (G : kG) (a : Nat → Nat) (sa : Nat → Nat → Nat) (b : Nat → Nat) (o sb i cells slots : Nat) (Q : State → Prop) : Prop :=
  ∀ (x : XS) (u : MS) (f : FnL) (H : Heap) (locs : List Loc) (ls : Array Slot), Rel x u → va_P G.1 vwCl (wL G a sa b o x u f) H → va_D A (wL G a sa b o x u f) → va_S A s.heap H locs → lv_has ls 9 [(4, .int (nI i)), (0, .ref sb), (1, .ref (a 0)), (2, .ref (b 0)), (3, .ref o)] →
    W p l e room_1 s m args below meth c H locs cells slots Q (F0 m 1450 ls [])
section LWB
variable {p : Program} {l : Launch} {e : Env} {R : Room} {s : State} {m : MethodId} {args : Array Value} {below : List Frame} {meth : Method} {c : Code} {H : Heap} {locs : List Loc} {cells slots : Nat} {Q : State → Prop}
variable {cc : ByteArray} {pc nL : Nat} {ls : Array Slot} {rest : List Value} {G : kG} {A : Nat → Prop} {ws : va_W}
theorem g_sld (hx : p.tables.exec = Jvm.exec) (hb : c.code = cc) {sb L : Nat} {xs : Nat → Int32} (hX : va_X sb L xs s s.heap) (hbl : sb < s.heap.size) (hbA : ¬ A sb) (hS : va_S A s.heap H locs) {k : Nat} (hk : k < L) (hL : L ≤ 1536) (hdg : decode cc pc = .ok (.iaload, 1))
    (kk : W p l e R s m args below meth c H locs cells slots Q (F0 m (pc + 1) ls (.int (xs k) :: rest))) : W p l e R s m args below meth c H locs cells slots Q (F0 m pc ls (.int (nI k) :: .ref sb :: rest)) := by
  refine va_sld hx hb hX hbl hbA hS (vp_in_nI hk (by omega)) hdg ?_
  rw [nI_clamp (by omega)]
  exact kk
theorem g_lald0 (hx : p.tables.exec = Jvm.exec) (hb : c.code = cc) (hK : va_K G.1 vwCl (kT G) s) (hP : va_P G.1 vwCl ws H) (q0 : Nat) {a : Nat} {f : FnL} (ha : ws[q0]? = some (a, .inl (G.2.2.2, 1, .inr (.inl f)))) (hdg : decode cc pc = .ok (.laload, 1))
    (kk : W p l e R s m args below meth c H locs cells slots Q (F0 m (pc + 1) ls (.long (f 0) :: rest))) : W p l e R s m args below meth c H locs cells slots Q (F0 m pc ls (.int 0 :: .ref a :: rest)) := by
  refine va_lald hx hb hK hP q0 2 ha rfl vp_in01 hdg ?_
  rw [show (0 : Int32).toNatClampNeg = 0 from rfl]
  exact kk
theorem and31 (x : Int32) : ∃ k : Nat, k < 32 ∧ x &&& 31 = nI k := by
  refine ⟨x.toBitVec.toNat % 32, Nat.mod_lt _ (by decide), ?_⟩
  apply Int32.toBitVec_inj.mp
  apply BitVec.eq_of_toNat_eq
  have h1 : (x &&& 31).toBitVec.toNat = x.toBitVec.toNat &&& 31 := by
    rw [Int32.toBitVec_and, BitVec.toNat_and]
    rfl
  have h2 : (nI (x.toBitVec.toNat % 32)).toBitVec.toNat = x.toBitVec.toNat % 32 := by
    show (BitVec.ofNat 32 (x.toBitVec.toNat % 32)).toNat = _
    rw [BitVec.toNat_ofNat]
    omega
  rw [h1, h2]
  exact Nat.and_two_pow_sub_one_eq_mod x.toBitVec.toNat 5
end LWB
theorem h6T : ({ frames := 0, cells := 0, slots := 0, locals := 0 } : Room).cells = 0 ∧ ({ frames := 0, cells := 0, slots := 0, locals := 0 } : Room).slots = 0 ∧ (({ frames := 0, cells := 0, slots := 0, locals := 0 } : Room).frames + 1 ≤ room_1.frames ∧ 8 + (1 + 11) + ({ frames := 0, cells := 0, slots := 0, locals := 0 } : Room).locals ≤ room_1.locals) := by decide +kernel
set_option maxHeartbeats 4000000 in
set_option maxRecDepth 100000 in
theorem lo_link {p : Program} {l : Launch} {e : Env} {s : State} {m : MethodId} {args : Array Value} {below : List Frame} {meth : Method} {c : Code} {H : Heap} {locs : List Loc} {cells slots : Nat} {Q : State → Prop} {ls : Array Slot} {A : Nat → Prop} {G : kG} {a : Nat → Nat} {sa : Nat → Nat → Nat} {b : Nat → Nat} {o sb L i : Nat} {xs : Nat → Int32} {x : XS} {u : MS} {f : FnL} {v1 : Int32} (C : lwC p l s m args c A G sb L xs) (hi : i + 3 ≤ L) (hc : cells + 1 ≤ room_1.cells ∧ slots + 6 ≤ room_1.slots) (hv1 : xs (i + 1) = v1) {UX UM : Type} {rmX rmM : Room} {mcX msX : Nat} {PX : Int32 → UX → Prop} {PM : Int32 → UM → Prop} {x2 : UX → XS} {f2 : UX → FnL} {u2 : UM → MS}
    (hX : ∀ sz, wMet l yL_link wsL_link rmX G [.ref (a 0), .int v1, .ref o] (wL G a sa b o x u f) sz (kQi G PX (fun v => wL G a sa b o (x2 v) u (f2 v))) mcX msX)
    (hM : ∀ (x : XS) (f : FnL) sz, wMet l yX6_link wsX6_link rmM G [.ref (b 0), .int v1] (wL G a sa b o x u f) sz (kQi G PM (fun v => wL G a sa b o x (u2 v) f)) 0 0)
    (hrX : rmX.cells = mcX ∧ rmX.slots = msX ∧ (rmX.frames + 1 ≤ room_1.frames ∧ 8 + (4 + 11) + rmX.locals ≤ room_1.locals)) (hrM : rmM.cells = 0 ∧ rmM.slots = 0 ∧ (rmM.frames + 1 ≤ room_1.frames ∧ 8 + (2 + 11) + rmM.locals ≤ room_1.locals)) (hmc : mcX ≤ 1 ∧ msX ≤ 6)
    (hrel : ∀ k v b9 w, PX k v → PM b9 w → nI (u2 w).1.1 = k ∧ (k = 0 → f2 v 0 = b9.toInt64) ∧ Rel (x2 v) (u2 w))
    (kk : lwK p l e s m args below meth c A G a sa b o sb i (cells + 1) (slots + 6) Q) (hP : va_P G.1 vwCl (wL G a sa b o x u f) H) (hD : va_D A (wL G a sa b o x u f)) (hS : va_S A s.heap H locs) (hl : lv_has ls 9 [(4, .int (nI i)), (0, .ref sb), (1, .ref (a 0)), (2, .ref (b 0)), (3, .ref o)]) : W p l e room_1 s m args below meth c H locs cells slots Q (F0 m 152 ls []) := by
  subst hv1
  obtain ⟨hx, hb, hml, hown, hts, hXs, hbl, hbA, hfl, hX0, hN, hA, hK, hL⟩ := C
  refine lv_aload_n hx hb dL_law_152 rfl (lv_at hl 2 rfl) ?_
  refine lv_aload_n hx hb dL_law_153 rfl (lv_at hl 1 rfl) ?_
  refine lv_iload hx hb dL_law_154 (lv_at hl 0 rfl) ?_
  refine lv_iconst (v := 1) hx hb dL_law_156 (by decide) ?_
  refine lv_iadd hx hb dL_law_157 ?_
  refine g_ti (y := nI (i + 1)) (nI_add i 1) ?_
  refine g_sld hx hb hXs hbl hbA hS (k := i + 1) (by omega) hL dL_law_158 ?_
  refine lv_aload_n hx hb dL_law_159 rfl (lv_at hl 4 rfl) ?_
  refine w_ci hD hS hA (w_S (n := 3) (As := [.ref (a 0), .int (xs (i + 1)), .ref o]) (rest := []) hx hb hml hown hts hX0 hN hS hA hK hP hD hl (hX _) gL_law_L_link rfl hrX.1 hrX.2.1 (by decide +kernel) rfl hrX.2.2 rfl (Nat.le_of_ble_eq_true rfl) dL_law_160 ⟨by omega, by omega⟩) (fun k v H locs hw1 hP hD hS => ?_)
  refine lv_istore (lv' := [(5, .int k), (4, .int (nI i)), (0, .ref sb), (1, .ref (a 0)), (2, .ref (b 0)), (3, .ref o)]) hx hb dL_law_163 hl (by decide) rfl (fun ls hl => ?_)
  refine lv_aload_n hx hb dL_law_165 rfl (lv_at hl 4 rfl) ?_
  refine lv_aload_n hx hb dL_law_166 rfl (lv_at hl 2 rfl) ?_
  refine lv_iload hx hb dL_law_167 (lv_at hl 1 rfl) ?_
  refine lv_iconst (v := 1) hx hb dL_law_169 (by decide) ?_
  refine lv_iadd hx hb dL_law_170 ?_
  refine g_ti (y := nI (i + 1)) (nI_add i 1) ?_
  refine g_sld hx hb hXs hbl hbA hS (k := i + 1) (by omega) hL dL_law_171 ?_
  refine w_ci hD hS hA (w_V (n := 1) (C := RX6) (T := TX6) (N := 17) (ci := 6) (q0 := 111) (As := [.int (xs (i + 1))]) (rest := []) hx hb hml hown hts hX0 hN hS hA hK hP hD hl (hM _ _ _) gL_law_X6_link rfl hrM.1 hrM.2.1 (by decide +kernel) rfl hrM.2.2 rfl rfl rfl (Nat.le_of_ble_eq_true rfl) dL_law_172 ⟨by omega, by omega⟩) (fun b9 w H locs hw2 hP hD hS => ?_)
  refine lv_istore (lv' := [(6, .int b9), (5, .int k), (4, .int (nI i)), (0, .ref sb), (1, .ref (a 0)), (2, .ref (b 0)), (3, .ref o)]) hx hb dL_law_175 hl (by decide) rfl (fun ls hl => ?_)
  refine lv_aload_n hx hb dL_law_177 rfl (lv_at hl 5 rfl) ?_
  refine w_ci hD hS hA (w_V (n := 0) (C := RX6) (T := TX6) (N := 17) (ci := 6) (q0 := 111) (As := []) (rest := []) hx hb hml hown hts hX0 hN hS hA hK hP hD hl (l_X6_thrown l G a sa b o (x2 v) (u2 w) (f2 v) _) gL_law_X6_thrown rfl h6T.1 h6T.2.1 (by decide +kernel) rfl h6T.2.2 rfl rfl rfl (Nat.le_of_ble_eq_true rfl) dL_law_178 ⟨by omega, by omega⟩) (fun k9 w9 H locs hw3 hP hD hS => ?_)
  have hw3 : k9 = nI (u2 w).1.1 := hw3
  have hP : va_P G.1 vwCl (wL G a sa b o (x2 v) (u2 w) (f2 v)) H := hP
  have hD : va_D A (wL G a sa b o (x2 v) (u2 w) (f2 v)) := hD
  obtain ⟨r1, r2, r3⟩ := hrel k v b9 w hw1 hw2
  refine lv_iload hx hb dL_law_181 (lv_at hl 1 rfl) ?_
  refine lv_icmp_eq (tgt := 188) hx hb dL_law_183 (by decide) (fun c_1 => ?_) (fun c_1 => ?_)
  · skip
    refine lv_iload hx hb dL_law_188 (lv_at hl 1 rfl) ?_
    refine lv_if_ne (tgt := 205) hx hb dL_law_190 (by decide) (fun c_2 => ?_) (fun c_2 => ?_)
    · skip
      refine lv_goto (tgt := 1450) hx hb dL_law_205 (by decide) ?_
      refine W.widen (k := cells + 1) (n := slots + 6) (by omega) (by omega) ?_
      exact kk (x2 v) (u2 w) (f2 v) H locs ls r3 hP hD hS (lv_sub hl [2, 3, 4, 5, 6] rfl)
    · skip
      refine lv_aload_n hx hb dL_law_193 rfl (lv_at hl 6 rfl) ?_
      refine lv_iconst (v := 0) hx hb dL_law_194 (by decide) ?_
      refine g_lald0 hx hb hK hP 121 rfl dL_law_195 ?_
      refine lv_iload hx hb dL_law_196 (lv_at hl 0 rfl) ?_
      refine lv_i2l (v := b9.toInt64) hx hb dL_law_198 rfl ?_
      refine W.lcmp hx hb dL_law_199 ?_
      refine lv_if_eq (tgt := 205) hx hb dL_law_200 (by decide) (fun c_3 => ?_) (fun c_3 => ?_)
      · skip
        refine lv_goto (tgt := 1450) hx hb dL_law_205 (by decide) ?_
        refine W.widen (k := cells + 1) (n := slots + 6) (by omega) (by omega) ?_
        exact kk (x2 v) (u2 w) (f2 v) H locs ls r3 hP hD hS (lv_sub hl [2, 3, 4, 5, 6] rfl)
      · exact absurd ((lg_cmp_eq _ _).mpr (r2 c_2)) c_3
  · exact absurd (hw3.trans r1) c_1
set_option maxHeartbeats 4000000 in
set_option maxRecDepth 100000 in
theorem lo_cut {p : Program} {l : Launch} {e : Env} {s : State} {m : MethodId} {args : Array Value} {below : List Frame} {meth : Method} {c : Code} {H : Heap} {locs : List Loc} {cells slots : Nat} {Q : State → Prop} {ls : Array Slot} {A : Nat → Prop} {G : kG} {a : Nat → Nat} {sa : Nat → Nat → Nat} {b : Nat → Nat} {o sb L i : Nat} {xs : Nat → Int32} {x : XS} {u : MS} {f : FnL} {v1 : Int32} (C : lwC p l s m args c A G sb L xs) (hi : i + 3 ≤ L) (hc : cells + 1 ≤ room_1.cells ∧ slots + 6 ≤ room_1.slots) (hv1 : xs (i + 1) = v1) {UX UM : Type} {rmX rmM : Room} {mcX msX : Nat} {PX : Int32 → UX → Prop} {PM : Int32 → UM → Prop} {x2 : UX → XS} {f2 : UX → FnL} {u2 : UM → MS}
    (hX : ∀ sz, wMet l yL_cut wsL_cut rmX G [.ref (a 0), .int v1, .ref o] (wL G a sa b o x u f) sz (kQi G PX (fun v => wL G a sa b o (x2 v) u (f2 v))) mcX msX)
    (hM : ∀ (x : XS) (f : FnL) sz, wMet l yX6_cut wsX6_cut rmM G [.ref (b 0), .int v1] (wL G a sa b o x u f) sz (kQi G PM (fun v => wL G a sa b o x (u2 v) f)) 0 0)
    (hrX : rmX.cells = mcX ∧ rmX.slots = msX ∧ (rmX.frames + 1 ≤ room_1.frames ∧ 8 + (4 + 11) + rmX.locals ≤ room_1.locals)) (hrM : rmM.cells = 0 ∧ rmM.slots = 0 ∧ (rmM.frames + 1 ≤ room_1.frames ∧ 8 + (3 + 11) + rmM.locals ≤ room_1.locals)) (hmc : mcX ≤ 1 ∧ msX ≤ 6)
    (hrel : ∀ k v b9 w, PX k v → PM b9 w → nI (u2 w).1.1 = k ∧ (k = 0 → f2 v 0 = b9.toInt64) ∧ Rel (x2 v) (u2 w))
    (kk : lwK p l e s m args below meth c A G a sa b o sb i (cells + 1) (slots + 6) Q) (hP : va_P G.1 vwCl (wL G a sa b o x u f) H) (hD : va_D A (wL G a sa b o x u f)) (hS : va_S A s.heap H locs) (hl : lv_has ls 9 [(4, .int (nI i)), (0, .ref sb), (1, .ref (a 0)), (2, .ref (b 0)), (3, .ref o)]) : W p l e room_1 s m args below meth c H locs cells slots Q (F0 m 208 ls []) := by
  subst hv1
  obtain ⟨hx, hb, hml, hown, hts, hXs, hbl, hbA, hfl, hX0, hN, hA, hK, hL⟩ := C
  refine lv_aload_n hx hb dL_law_208 rfl (lv_at hl 2 rfl) ?_
  refine lv_aload_n hx hb dL_law_209 rfl (lv_at hl 1 rfl) ?_
  refine lv_iload hx hb dL_law_210 (lv_at hl 0 rfl) ?_
  refine lv_iconst (v := 1) hx hb dL_law_212 (by decide) ?_
  refine lv_iadd hx hb dL_law_213 ?_
  refine g_ti (y := nI (i + 1)) (nI_add i 1) ?_
  refine g_sld hx hb hXs hbl hbA hS (k := i + 1) (by omega) hL dL_law_214 ?_
  refine lv_aload_n hx hb dL_law_215 rfl (lv_at hl 4 rfl) ?_
  refine w_ci hD hS hA (w_S (n := 3) (As := [.ref (a 0), .int (xs (i + 1)), .ref o]) (rest := []) hx hb hml hown hts hX0 hN hS hA hK hP hD hl (hX _) gL_law_L_cut rfl hrX.1 hrX.2.1 (by decide +kernel) rfl hrX.2.2 rfl (Nat.le_of_ble_eq_true rfl) dL_law_216 ⟨by omega, by omega⟩) (fun k v H locs hw1 hP hD hS => ?_)
  refine lv_istore (lv' := [(5, .int k), (4, .int (nI i)), (0, .ref sb), (1, .ref (a 0)), (2, .ref (b 0)), (3, .ref o)]) hx hb dL_law_219 hl (by decide) rfl (fun ls hl => ?_)
  refine lv_aload_n hx hb dL_law_221 rfl (lv_at hl 4 rfl) ?_
  refine lv_aload_n hx hb dL_law_222 rfl (lv_at hl 2 rfl) ?_
  refine lv_iload hx hb dL_law_223 (lv_at hl 1 rfl) ?_
  refine lv_iconst (v := 1) hx hb dL_law_225 (by decide) ?_
  refine lv_iadd hx hb dL_law_226 ?_
  refine g_ti (y := nI (i + 1)) (nI_add i 1) ?_
  refine g_sld hx hb hXs hbl hbA hS (k := i + 1) (by omega) hL dL_law_227 ?_
  refine w_ci hD hS hA (w_V (n := 1) (C := RX6) (T := TX6) (N := 17) (ci := 6) (q0 := 111) (As := [.int (xs (i + 1))]) (rest := []) hx hb hml hown hts hX0 hN hS hA hK hP hD hl (hM _ _ _) gL_law_X6_cut rfl hrM.1 hrM.2.1 (by decide +kernel) rfl hrM.2.2 rfl rfl rfl (Nat.le_of_ble_eq_true rfl) dL_law_228 ⟨by omega, by omega⟩) (fun b9 w H locs hw2 hP hD hS => ?_)
  refine lv_istore (lv' := [(6, .int b9), (5, .int k), (4, .int (nI i)), (0, .ref sb), (1, .ref (a 0)), (2, .ref (b 0)), (3, .ref o)]) hx hb dL_law_231 hl (by decide) rfl (fun ls hl => ?_)
  refine lv_aload_n hx hb dL_law_233 rfl (lv_at hl 5 rfl) ?_
  refine w_ci hD hS hA (w_V (n := 0) (C := RX6) (T := TX6) (N := 17) (ci := 6) (q0 := 111) (As := []) (rest := []) hx hb hml hown hts hX0 hN hS hA hK hP hD hl (l_X6_thrown l G a sa b o (x2 v) (u2 w) (f2 v) _) gL_law_X6_thrown rfl h6T.1 h6T.2.1 (by decide +kernel) rfl h6T.2.2 rfl rfl rfl (Nat.le_of_ble_eq_true rfl) dL_law_234 ⟨by omega, by omega⟩) (fun k9 w9 H locs hw3 hP hD hS => ?_)
  have hw3 : k9 = nI (u2 w).1.1 := hw3
  have hP : va_P G.1 vwCl (wL G a sa b o (x2 v) (u2 w) (f2 v)) H := hP
  have hD : va_D A (wL G a sa b o (x2 v) (u2 w) (f2 v)) := hD
  obtain ⟨r1, r2, r3⟩ := hrel k v b9 w hw1 hw2
  refine lv_iload hx hb dL_law_237 (lv_at hl 1 rfl) ?_
  refine lv_icmp_eq (tgt := 244) hx hb dL_law_239 (by decide) (fun c_1 => ?_) (fun c_1 => ?_)
  · skip
    refine lv_iload hx hb dL_law_244 (lv_at hl 1 rfl) ?_
    refine lv_if_ne (tgt := 261) hx hb dL_law_246 (by decide) (fun c_2 => ?_) (fun c_2 => ?_)
    · skip
      refine lv_goto (tgt := 1450) hx hb dL_law_261 (by decide) ?_
      refine W.widen (k := cells + 1) (n := slots + 6) (by omega) (by omega) ?_
      exact kk (x2 v) (u2 w) (f2 v) H locs ls r3 hP hD hS (lv_sub hl [2, 3, 4, 5, 6] rfl)
    · skip
      refine lv_aload_n hx hb dL_law_249 rfl (lv_at hl 6 rfl) ?_
      refine lv_iconst (v := 0) hx hb dL_law_250 (by decide) ?_
      refine g_lald0 hx hb hK hP 121 rfl dL_law_251 ?_
      refine lv_iload hx hb dL_law_252 (lv_at hl 0 rfl) ?_
      refine lv_i2l (v := b9.toInt64) hx hb dL_law_254 rfl ?_
      refine W.lcmp hx hb dL_law_255 ?_
      refine lv_if_eq (tgt := 261) hx hb dL_law_256 (by decide) (fun c_3 => ?_) (fun c_3 => ?_)
      · skip
        refine lv_goto (tgt := 1450) hx hb dL_law_261 (by decide) ?_
        refine W.widen (k := cells + 1) (n := slots + 6) (by omega) (by omega) ?_
        exact kk (x2 v) (u2 w) (f2 v) H locs ls r3 hP hD hS (lv_sub hl [2, 3, 4, 5, 6] rfl)
      · exact absurd ((lg_cmp_eq _ _).mpr (r2 c_2)) c_3
  · exact absurd (hw3.trans r1) c_1
set_option maxHeartbeats 4000000 in
set_option maxRecDepth 100000 in
theorem lo_bend {p : Program} {l : Launch} {e : Env} {s : State} {m : MethodId} {args : Array Value} {below : List Frame} {meth : Method} {c : Code} {H : Heap} {locs : List Loc} {cells slots : Nat} {Q : State → Prop} {ls : Array Slot} {A : Nat → Prop} {G : kG} {a : Nat → Nat} {sa : Nat → Nat → Nat} {b : Nat → Nat} {o sb L i : Nat} {xs : Nat → Int32} {x : XS} {u : MS} {f : FnL} {v1 : Int32} {v2 : Int32} (C : lwC p l s m args c A G sb L xs) (hi : i + 3 ≤ L) (hc : cells + 1 ≤ room_1.cells ∧ slots + 6 ≤ room_1.slots) (hv1 : xs (i + 1) = v1) (hv2 : xs (i + 2) = v2) {UX UM : Type} {rmX rmM : Room} {mcX msX : Nat} {PX : Int32 → UX → Prop} {PM : Int32 → UM → Prop} {x2 : UX → XS} {f2 : UX → FnL} {u2 : UM → MS}
    (hX : ∀ sz, wMet l yL_bend wsL_bend rmX G [.ref (a 0), .int v1, .int v2, .ref o] (wL G a sa b o x u f) sz (kQi G PX (fun v => wL G a sa b o (x2 v) u (f2 v))) mcX msX)
    (hM : ∀ (x : XS) (f : FnL) sz, wMet l yX6_bend wsX6_bend rmM G [.ref (b 0), .int v1, .int v2] (wL G a sa b o x u f) sz (kQi G PM (fun v => wL G a sa b o x (u2 v) f)) 0 0)
    (hrX : rmX.cells = mcX ∧ rmX.slots = msX ∧ (rmX.frames + 1 ≤ room_1.frames ∧ 8 + (5 + 11) + rmX.locals ≤ room_1.locals)) (hrM : rmM.cells = 0 ∧ rmM.slots = 0 ∧ (rmM.frames + 1 ≤ room_1.frames ∧ 8 + (3 + 11) + rmM.locals ≤ room_1.locals)) (hmc : mcX ≤ 1 ∧ msX ≤ 6)
    (hrel : ∀ k v b9 w, PX k v → PM b9 w → nI (u2 w).1.1 = k ∧ (k = 0 → f2 v 0 = b9.toInt64) ∧ Rel (x2 v) (u2 w))
    (kk : lwK p l e s m args below meth c A G a sa b o sb i (cells + 1) (slots + 6) Q) (hP : va_P G.1 vwCl (wL G a sa b o x u f) H) (hD : va_D A (wL G a sa b o x u f)) (hS : va_S A s.heap H locs) (hl : lv_has ls 9 [(4, .int (nI i)), (0, .ref sb), (1, .ref (a 0)), (2, .ref (b 0)), (3, .ref o)]) : W p l e room_1 s m args below meth c H locs cells slots Q (F0 m 264 ls []) := by
  subst hv1
  subst hv2
  obtain ⟨hx, hb, hml, hown, hts, hXs, hbl, hbA, hfl, hX0, hN, hA, hK, hL⟩ := C
  refine lv_aload_n hx hb dL_law_264 rfl (lv_at hl 2 rfl) ?_
  refine lv_aload_n hx hb dL_law_265 rfl (lv_at hl 1 rfl) ?_
  refine lv_iload hx hb dL_law_266 (lv_at hl 0 rfl) ?_
  refine lv_iconst (v := 1) hx hb dL_law_268 (by decide) ?_
  refine lv_iadd hx hb dL_law_269 ?_
  refine g_ti (y := nI (i + 1)) (nI_add i 1) ?_
  refine g_sld hx hb hXs hbl hbA hS (k := i + 1) (by omega) hL dL_law_270 ?_
  refine lv_aload_n hx hb dL_law_271 rfl (lv_at hl 1 rfl) ?_
  refine lv_iload hx hb dL_law_272 (lv_at hl 0 rfl) ?_
  refine lv_iconst (v := 2) hx hb dL_law_274 (by decide) ?_
  refine lv_iadd hx hb dL_law_275 ?_
  refine g_ti (y := nI (i + 2)) (nI_add i 2) ?_
  refine g_sld hx hb hXs hbl hbA hS (k := i + 2) (by omega) hL dL_law_276 ?_
  refine lv_aload_n hx hb dL_law_277 rfl (lv_at hl 4 rfl) ?_
  refine w_ci hD hS hA (w_S (n := 4) (As := [.ref (a 0), .int (xs (i + 1)), .int (xs (i + 2)), .ref o]) (rest := []) hx hb hml hown hts hX0 hN hS hA hK hP hD hl (hX _) gL_law_L_bend rfl hrX.1 hrX.2.1 (by decide +kernel) rfl hrX.2.2 rfl (Nat.le_of_ble_eq_true rfl) dL_law_278 ⟨by omega, by omega⟩) (fun k v H locs hw1 hP hD hS => ?_)
  refine lv_istore (lv' := [(5, .int k), (4, .int (nI i)), (0, .ref sb), (1, .ref (a 0)), (2, .ref (b 0)), (3, .ref o)]) hx hb dL_law_281 hl (by decide) rfl (fun ls hl => ?_)
  refine lv_aload_n hx hb dL_law_283 rfl (lv_at hl 4 rfl) ?_
  refine lv_aload_n hx hb dL_law_284 rfl (lv_at hl 2 rfl) ?_
  refine lv_iload hx hb dL_law_285 (lv_at hl 1 rfl) ?_
  refine lv_iconst (v := 1) hx hb dL_law_287 (by decide) ?_
  refine lv_iadd hx hb dL_law_288 ?_
  refine g_ti (y := nI (i + 1)) (nI_add i 1) ?_
  refine g_sld hx hb hXs hbl hbA hS (k := i + 1) (by omega) hL dL_law_289 ?_
  refine lv_aload_n hx hb dL_law_290 rfl (lv_at hl 2 rfl) ?_
  refine lv_iload hx hb dL_law_291 (lv_at hl 1 rfl) ?_
  refine lv_iconst (v := 2) hx hb dL_law_293 (by decide) ?_
  refine lv_iadd hx hb dL_law_294 ?_
  refine g_ti (y := nI (i + 2)) (nI_add i 2) ?_
  refine g_sld hx hb hXs hbl hbA hS (k := i + 2) (by omega) hL dL_law_295 ?_
  refine w_ci hD hS hA (w_V (n := 2) (C := RX6) (T := TX6) (N := 17) (ci := 6) (q0 := 111) (As := [.int (xs (i + 1)), .int (xs (i + 2))]) (rest := []) hx hb hml hown hts hX0 hN hS hA hK hP hD hl (hM _ _ _) gL_law_X6_bend rfl hrM.1 hrM.2.1 (by decide +kernel) rfl hrM.2.2 rfl rfl rfl (Nat.le_of_ble_eq_true rfl) dL_law_296 ⟨by omega, by omega⟩) (fun b9 w H locs hw2 hP hD hS => ?_)
  refine lv_istore (lv' := [(6, .int b9), (5, .int k), (4, .int (nI i)), (0, .ref sb), (1, .ref (a 0)), (2, .ref (b 0)), (3, .ref o)]) hx hb dL_law_299 hl (by decide) rfl (fun ls hl => ?_)
  refine lv_aload_n hx hb dL_law_301 rfl (lv_at hl 5 rfl) ?_
  refine w_ci hD hS hA (w_V (n := 0) (C := RX6) (T := TX6) (N := 17) (ci := 6) (q0 := 111) (As := []) (rest := []) hx hb hml hown hts hX0 hN hS hA hK hP hD hl (l_X6_thrown l G a sa b o (x2 v) (u2 w) (f2 v) _) gL_law_X6_thrown rfl h6T.1 h6T.2.1 (by decide +kernel) rfl h6T.2.2 rfl rfl rfl (Nat.le_of_ble_eq_true rfl) dL_law_302 ⟨by omega, by omega⟩) (fun k9 w9 H locs hw3 hP hD hS => ?_)
  have hw3 : k9 = nI (u2 w).1.1 := hw3
  have hP : va_P G.1 vwCl (wL G a sa b o (x2 v) (u2 w) (f2 v)) H := hP
  have hD : va_D A (wL G a sa b o (x2 v) (u2 w) (f2 v)) := hD
  obtain ⟨r1, r2, r3⟩ := hrel k v b9 w hw1 hw2
  refine lv_iload hx hb dL_law_305 (lv_at hl 1 rfl) ?_
  refine lv_icmp_eq (tgt := 312) hx hb dL_law_307 (by decide) (fun c_1 => ?_) (fun c_1 => ?_)
  · skip
    refine lv_iload hx hb dL_law_312 (lv_at hl 1 rfl) ?_
    refine lv_if_ne (tgt := 329) hx hb dL_law_314 (by decide) (fun c_2 => ?_) (fun c_2 => ?_)
    · skip
      refine lv_goto (tgt := 1450) hx hb dL_law_329 (by decide) ?_
      refine W.widen (k := cells + 1) (n := slots + 6) (by omega) (by omega) ?_
      exact kk (x2 v) (u2 w) (f2 v) H locs ls r3 hP hD hS (lv_sub hl [2, 3, 4, 5, 6] rfl)
    · skip
      refine lv_aload_n hx hb dL_law_317 rfl (lv_at hl 6 rfl) ?_
      refine lv_iconst (v := 0) hx hb dL_law_318 (by decide) ?_
      refine g_lald0 hx hb hK hP 121 rfl dL_law_319 ?_
      refine lv_iload hx hb dL_law_320 (lv_at hl 0 rfl) ?_
      refine lv_i2l (v := b9.toInt64) hx hb dL_law_322 rfl ?_
      refine W.lcmp hx hb dL_law_323 ?_
      refine lv_if_eq (tgt := 329) hx hb dL_law_324 (by decide) (fun c_3 => ?_) (fun c_3 => ?_)
      · skip
        refine lv_goto (tgt := 1450) hx hb dL_law_329 (by decide) ?_
        refine W.widen (k := cells + 1) (n := slots + 6) (by omega) (by omega) ?_
        exact kk (x2 v) (u2 w) (f2 v) H locs ls r3 hP hD hS (lv_sub hl [2, 3, 4, 5, 6] rfl)
      · exact absurd ((lg_cmp_eq _ _).mpr (r2 c_2)) c_3
  · exact absurd (hw3.trans r1) c_1
set_option maxHeartbeats 4000000 in
set_option maxRecDepth 100000 in
theorem lo_turn {p : Program} {l : Launch} {e : Env} {s : State} {m : MethodId} {args : Array Value} {below : List Frame} {meth : Method} {c : Code} {H : Heap} {locs : List Loc} {cells slots : Nat} {Q : State → Prop} {ls : Array Slot} {A : Nat → Prop} {G : kG} {a : Nat → Nat} {sa : Nat → Nat → Nat} {b : Nat → Nat} {o sb L i : Nat} {xs : Nat → Int32} {x : XS} {u : MS} {f : FnL} (C : lwC p l s m args c A G sb L xs) (hi : i + 3 ≤ L) (hc : cells + 1 ≤ room_1.cells ∧ slots + 6 ≤ room_1.slots) {UX UM : Type} {rmX rmM : Room} {mcX msX : Nat} {PX : Int32 → UX → Prop} {PM : Int32 → UM → Prop} {x2 : UX → XS} {u2 : UM → MS}
    (hX : ∀ sz, wMet l yX5_turn wsX5_turn rmX G [.ref (a 0)] (wL G a sa b o x u f) sz (kQi G PX (fun v => wL G a sa b o (x2 v) u f)) mcX msX)
    (hM : ∀ (x : XS) (f : FnL) sz, wMet l yX6_turn wsX6_turn rmM G [.ref (b 0)] (wL G a sa b o x u f) sz (kQi G PM (fun v => wL G a sa b o x (u2 v) f)) 0 0)
    (hrX : rmX.cells = mcX ∧ rmX.slots = msX ∧ (rmX.frames + 1 ≤ room_1.frames ∧ 8 + (1 + 11) + rmX.locals ≤ room_1.locals)) (hrM : rmM.cells = 0 ∧ rmM.slots = 0 ∧ (rmM.frames + 1 ≤ room_1.frames ∧ 8 + (3 + 11) + rmM.locals ≤ room_1.locals)) (hmc : mcX ≤ 1 ∧ msX ≤ 6)
    (hrel : ∀ k v b9 w, PX k v → PM b9 w → (k = b9) ∧ Rel (x2 v) (u2 w))
    (kk : lwK p l e s m args below meth c A G a sa b o sb i (cells + 1) (slots + 6) Q) (hP : va_P G.1 vwCl (wL G a sa b o x u f) H) (hD : va_D A (wL G a sa b o x u f)) (hS : va_S A s.heap H locs) (hl : lv_has ls 9 [(4, .int (nI i)), (0, .ref sb), (1, .ref (a 0)), (2, .ref (b 0)), (3, .ref o)]) : W p l e room_1 s m args below meth c H locs cells slots Q (F0 m 332 ls []) := by
  obtain ⟨hx, hb, hml, hown, hts, hXs, hbl, hbA, hfl, hX0, hN, hA, hK, hL⟩ := C
  refine lv_aload_n hx hb dL_law_332 rfl (lv_at hl 2 rfl) ?_
  refine w_ci hD hS hA (w_V (n := 0) (C := RX5) (T := TX5) (N := 7) (ci := 5) (q0 := 0) (As := []) (rest := []) hx hb hml hown hts hX0 hN hS hA hK hP hD hl (hX _) gL_law_X5_turn rfl hrX.1 hrX.2.1 (by decide +kernel) rfl hrX.2.2 rfl rfl rfl (Nat.le_of_ble_eq_true rfl) dL_law_333 ⟨by omega, by omega⟩) (fun k v H locs hw1 hP hD hS => ?_)
  refine lv_aload_n hx hb dL_law_336 rfl (lv_at hl 3 rfl) ?_
  refine w_ci hD hS hA (w_V (n := 0) (C := RX6) (T := TX6) (N := 17) (ci := 6) (q0 := 111) (As := []) (rest := [.int k]) hx hb hml hown hts hX0 hN hS hA hK hP hD hl (hM _ _ _) gL_law_X6_turn rfl hrM.1 hrM.2.1 (by decide +kernel) rfl hrM.2.2 rfl rfl rfl (Nat.le_of_ble_eq_true rfl) dL_law_337 ⟨by omega, by omega⟩) (fun b9 w H locs hw2 hP hD hS => ?_)
  obtain ⟨r1, r3⟩ := hrel k v b9 w hw1 hw2
  refine lv_icmp_eq (tgt := 1450) hx hb dL_law_340 (by decide) (fun c_1 => ?_) (fun c_1 => ?_)
  · skip
    refine W.widen (k := cells + 1) (n := slots + 6) (by omega) (by omega) ?_
    exact kk (x2 v) (u2 w) f H locs ls r3 hP hD hS (lv_sub hl [0, 1, 2, 3, 4] rfl)
  · exact absurd r1 c_1
set_option maxHeartbeats 4000000 in
set_option maxRecDepth 100000 in
theorem lo_weight {p : Program} {l : Launch} {e : Env} {s : State} {m : MethodId} {args : Array Value} {below : List Frame} {meth : Method} {c : Code} {H : Heap} {locs : List Loc} {cells slots : Nat} {Q : State → Prop} {ls : Array Slot} {A : Nat → Prop} {G : kG} {a : Nat → Nat} {sa : Nat → Nat → Nat} {b : Nat → Nat} {o sb L i : Nat} {xs : Nat → Int32} {x : XS} {u : MS} {f : FnL} {v1 : Int32} {v2 : Int32} (C : lwC p l s m args c A G sb L xs) (hi : i + 3 ≤ L) (hc : cells + 1 ≤ room_1.cells ∧ slots + 6 ≤ room_1.slots) (hv1 : xs (i + 1) = v1) (hv2 : xs (i + 2) = v2) {UX UM : Type} {rmX rmM : Room} {mcX msX : Nat} {PX : Int32 → UX → Prop} {PM : Int32 → UM → Prop} {x2 : UX → XS} {f2 : UX → FnL} {u2 : UM → MS}
    (hX : ∀ sz, wMet l yL_weight wsL_weight rmX G [.ref (a 0), .int v1, .int v2, .ref o] (wL G a sa b o x u f) sz (kQi G PX (fun v => wL G a sa b o (x2 v) u (f2 v))) mcX msX)
    (hM : ∀ (x : XS) (f : FnL) sz, wMet l yX6_weight wsX6_weight rmM G [.ref (b 0), .int v1, .int v2] (wL G a sa b o x u f) sz (kQi G PM (fun v => wL G a sa b o x (u2 v) f)) 0 0)
    (hrX : rmX.cells = mcX ∧ rmX.slots = msX ∧ (rmX.frames + 1 ≤ room_1.frames ∧ 8 + (5 + 11) + rmX.locals ≤ room_1.locals)) (hrM : rmM.cells = 0 ∧ rmM.slots = 0 ∧ (rmM.frames + 1 ≤ room_1.frames ∧ 8 + (3 + 11) + rmM.locals ≤ room_1.locals)) (hmc : mcX ≤ 1 ∧ msX ≤ 6)
    (hrel : ∀ k v b9 w, PX k v → PM b9 w → nI (u2 w).1.1 = k ∧ (k = 0 → f2 v 0 = b9.toInt64) ∧ Rel (x2 v) (u2 w))
    (kk : lwK p l e s m args below meth c A G a sa b o sb i (cells + 1) (slots + 6) Q) (hP : va_P G.1 vwCl (wL G a sa b o x u f) H) (hD : va_D A (wL G a sa b o x u f)) (hS : va_S A s.heap H locs) (hl : lv_has ls 9 [(4, .int (nI i)), (0, .ref sb), (1, .ref (a 0)), (2, .ref (b 0)), (3, .ref o)]) : W p l e room_1 s m args below meth c H locs cells slots Q (F0 m 345 ls []) := by
  subst hv1
  subst hv2
  obtain ⟨hx, hb, hml, hown, hts, hXs, hbl, hbA, hfl, hX0, hN, hA, hK, hL⟩ := C
  refine lv_aload_n hx hb dL_law_345 rfl (lv_at hl 2 rfl) ?_
  refine lv_aload_n hx hb dL_law_346 rfl (lv_at hl 1 rfl) ?_
  refine lv_iload hx hb dL_law_347 (lv_at hl 0 rfl) ?_
  refine lv_iconst (v := 1) hx hb dL_law_349 (by decide) ?_
  refine lv_iadd hx hb dL_law_350 ?_
  refine g_ti (y := nI (i + 1)) (nI_add i 1) ?_
  refine g_sld hx hb hXs hbl hbA hS (k := i + 1) (by omega) hL dL_law_351 ?_
  refine lv_aload_n hx hb dL_law_352 rfl (lv_at hl 1 rfl) ?_
  refine lv_iload hx hb dL_law_353 (lv_at hl 0 rfl) ?_
  refine lv_iconst (v := 2) hx hb dL_law_355 (by decide) ?_
  refine lv_iadd hx hb dL_law_356 ?_
  refine g_ti (y := nI (i + 2)) (nI_add i 2) ?_
  refine g_sld hx hb hXs hbl hbA hS (k := i + 2) (by omega) hL dL_law_357 ?_
  refine lv_aload_n hx hb dL_law_358 rfl (lv_at hl 4 rfl) ?_
  refine w_ci hD hS hA (w_S (n := 4) (As := [.ref (a 0), .int (xs (i + 1)), .int (xs (i + 2)), .ref o]) (rest := []) hx hb hml hown hts hX0 hN hS hA hK hP hD hl (hX _) gL_law_L_weight rfl hrX.1 hrX.2.1 (by decide +kernel) rfl hrX.2.2 rfl (Nat.le_of_ble_eq_true rfl) dL_law_359 ⟨by omega, by omega⟩) (fun k v H locs hw1 hP hD hS => ?_)
  refine lv_istore (lv' := [(5, .int k), (4, .int (nI i)), (0, .ref sb), (1, .ref (a 0)), (2, .ref (b 0)), (3, .ref o)]) hx hb dL_law_362 hl (by decide) rfl (fun ls hl => ?_)
  refine lv_aload_n hx hb dL_law_364 rfl (lv_at hl 4 rfl) ?_
  refine lv_aload_n hx hb dL_law_365 rfl (lv_at hl 2 rfl) ?_
  refine lv_iload hx hb dL_law_366 (lv_at hl 1 rfl) ?_
  refine lv_iconst (v := 1) hx hb dL_law_368 (by decide) ?_
  refine lv_iadd hx hb dL_law_369 ?_
  refine g_ti (y := nI (i + 1)) (nI_add i 1) ?_
  refine g_sld hx hb hXs hbl hbA hS (k := i + 1) (by omega) hL dL_law_370 ?_
  refine lv_aload_n hx hb dL_law_371 rfl (lv_at hl 2 rfl) ?_
  refine lv_iload hx hb dL_law_372 (lv_at hl 1 rfl) ?_
  refine lv_iconst (v := 2) hx hb dL_law_374 (by decide) ?_
  refine lv_iadd hx hb dL_law_375 ?_
  refine g_ti (y := nI (i + 2)) (nI_add i 2) ?_
  refine g_sld hx hb hXs hbl hbA hS (k := i + 2) (by omega) hL dL_law_376 ?_
  refine w_ci hD hS hA (w_V (n := 2) (C := RX6) (T := TX6) (N := 17) (ci := 6) (q0 := 111) (As := [.int (xs (i + 1)), .int (xs (i + 2))]) (rest := []) hx hb hml hown hts hX0 hN hS hA hK hP hD hl (hM _ _ _) gL_law_X6_weight rfl hrM.1 hrM.2.1 (by decide +kernel) rfl hrM.2.2 rfl rfl rfl (Nat.le_of_ble_eq_true rfl) dL_law_377 ⟨by omega, by omega⟩) (fun b9 w H locs hw2 hP hD hS => ?_)
  refine lv_istore (lv' := [(6, .int b9), (5, .int k), (4, .int (nI i)), (0, .ref sb), (1, .ref (a 0)), (2, .ref (b 0)), (3, .ref o)]) hx hb dL_law_380 hl (by decide) rfl (fun ls hl => ?_)
  refine lv_aload_n hx hb dL_law_382 rfl (lv_at hl 5 rfl) ?_
  refine w_ci hD hS hA (w_V (n := 0) (C := RX6) (T := TX6) (N := 17) (ci := 6) (q0 := 111) (As := []) (rest := []) hx hb hml hown hts hX0 hN hS hA hK hP hD hl (l_X6_thrown l G a sa b o (x2 v) (u2 w) (f2 v) _) gL_law_X6_thrown rfl h6T.1 h6T.2.1 (by decide +kernel) rfl h6T.2.2 rfl rfl rfl (Nat.le_of_ble_eq_true rfl) dL_law_383 ⟨by omega, by omega⟩) (fun k9 w9 H locs hw3 hP hD hS => ?_)
  have hw3 : k9 = nI (u2 w).1.1 := hw3
  have hP : va_P G.1 vwCl (wL G a sa b o (x2 v) (u2 w) (f2 v)) H := hP
  have hD : va_D A (wL G a sa b o (x2 v) (u2 w) (f2 v)) := hD
  obtain ⟨r1, r2, r3⟩ := hrel k v b9 w hw1 hw2
  refine lv_iload hx hb dL_law_386 (lv_at hl 1 rfl) ?_
  refine lv_icmp_eq (tgt := 393) hx hb dL_law_388 (by decide) (fun c_1 => ?_) (fun c_1 => ?_)
  · skip
    refine lv_iload hx hb dL_law_393 (lv_at hl 1 rfl) ?_
    refine lv_if_ne (tgt := 410) hx hb dL_law_395 (by decide) (fun c_2 => ?_) (fun c_2 => ?_)
    · skip
      refine lv_goto (tgt := 1450) hx hb dL_law_410 (by decide) ?_
      refine W.widen (k := cells + 1) (n := slots + 6) (by omega) (by omega) ?_
      exact kk (x2 v) (u2 w) (f2 v) H locs ls r3 hP hD hS (lv_sub hl [2, 3, 4, 5, 6] rfl)
    · skip
      refine lv_aload_n hx hb dL_law_398 rfl (lv_at hl 6 rfl) ?_
      refine lv_iconst (v := 0) hx hb dL_law_399 (by decide) ?_
      refine g_lald0 hx hb hK hP 121 rfl dL_law_400 ?_
      refine lv_iload hx hb dL_law_401 (lv_at hl 0 rfl) ?_
      refine lv_i2l (v := b9.toInt64) hx hb dL_law_403 rfl ?_
      refine W.lcmp hx hb dL_law_404 ?_
      refine lv_if_eq (tgt := 410) hx hb dL_law_405 (by decide) (fun c_3 => ?_) (fun c_3 => ?_)
      · skip
        refine lv_goto (tgt := 1450) hx hb dL_law_410 (by decide) ?_
        refine W.widen (k := cells + 1) (n := slots + 6) (by omega) (by omega) ?_
        exact kk (x2 v) (u2 w) (f2 v) H locs ls r3 hP hD hS (lv_sub hl [2, 3, 4, 5, 6] rfl)
      · exact absurd ((lg_cmp_eq _ _).mpr (r2 c_2)) c_3
  · exact absurd (hw3.trans r1) c_1
set_option maxHeartbeats 4000000 in
set_option maxRecDepth 100000 in
theorem lo_hanger {p : Program} {l : Launch} {e : Env} {s : State} {m : MethodId} {args : Array Value} {below : List Frame} {meth : Method} {c : Code} {H : Heap} {locs : List Loc} {cells slots : Nat} {Q : State → Prop} {ls : Array Slot} {A : Nat → Prop} {G : kG} {a : Nat → Nat} {sa : Nat → Nat → Nat} {b : Nat → Nat} {o sb L i : Nat} {xs : Nat → Int32} {x : XS} {u : MS} {f : FnL} {v1 : Int32} {v2 : Int32} (C : lwC p l s m args c A G sb L xs) (hi : i + 3 ≤ L) (hc : cells + 1 ≤ room_1.cells ∧ slots + 6 ≤ room_1.slots) (hv1 : xs (i + 1) = v1) (hv2 : xs (i + 2) = v2) {UX UM : Type} {rmX rmM : Room} {mcX msX : Nat} {PX : Int32 → UX → Prop} {PM : Int32 → UM → Prop} {x2 : UX → XS} {f2 : UX → FnL} {u2 : UM → MS}
    (hX : ∀ sz, wMet l yL_hanger wsL_hanger rmX G [.ref (a 0), .int v1, .int v2, .ref o] (wL G a sa b o x u f) sz (kQi G PX (fun v => wL G a sa b o (x2 v) u (f2 v))) mcX msX)
    (hM : ∀ (x : XS) (f : FnL) sz, wMet l yX6_hanger wsX6_hanger rmM G [.ref (b 0), .int v1, .int v2] (wL G a sa b o x u f) sz (kQi G PM (fun v => wL G a sa b o x (u2 v) f)) 0 0)
    (hrX : rmX.cells = mcX ∧ rmX.slots = msX ∧ (rmX.frames + 1 ≤ room_1.frames ∧ 8 + (5 + 11) + rmX.locals ≤ room_1.locals)) (hrM : rmM.cells = 0 ∧ rmM.slots = 0 ∧ (rmM.frames + 1 ≤ room_1.frames ∧ 8 + (3 + 11) + rmM.locals ≤ room_1.locals)) (hmc : mcX ≤ 1 ∧ msX ≤ 6)
    (hrel : ∀ k v b9 w, PX k v → PM b9 w → nI (u2 w).1.1 = k ∧ (k = 0 → f2 v 0 = b9.toInt64) ∧ Rel (x2 v) (u2 w))
    (kk : lwK p l e s m args below meth c A G a sa b o sb i (cells + 1) (slots + 6) Q) (hP : va_P G.1 vwCl (wL G a sa b o x u f) H) (hD : va_D A (wL G a sa b o x u f)) (hS : va_S A s.heap H locs) (hl : lv_has ls 9 [(4, .int (nI i)), (0, .ref sb), (1, .ref (a 0)), (2, .ref (b 0)), (3, .ref o)]) : W p l e room_1 s m args below meth c H locs cells slots Q (F0 m 413 ls []) := by
  subst hv1
  subst hv2
  obtain ⟨hx, hb, hml, hown, hts, hXs, hbl, hbA, hfl, hX0, hN, hA, hK, hL⟩ := C
  refine lv_aload_n hx hb dL_law_413 rfl (lv_at hl 2 rfl) ?_
  refine lv_aload_n hx hb dL_law_414 rfl (lv_at hl 1 rfl) ?_
  refine lv_iload hx hb dL_law_415 (lv_at hl 0 rfl) ?_
  refine lv_iconst (v := 1) hx hb dL_law_417 (by decide) ?_
  refine lv_iadd hx hb dL_law_418 ?_
  refine g_ti (y := nI (i + 1)) (nI_add i 1) ?_
  refine g_sld hx hb hXs hbl hbA hS (k := i + 1) (by omega) hL dL_law_419 ?_
  refine lv_aload_n hx hb dL_law_420 rfl (lv_at hl 1 rfl) ?_
  refine lv_iload hx hb dL_law_421 (lv_at hl 0 rfl) ?_
  refine lv_iconst (v := 2) hx hb dL_law_423 (by decide) ?_
  refine lv_iadd hx hb dL_law_424 ?_
  refine g_ti (y := nI (i + 2)) (nI_add i 2) ?_
  refine g_sld hx hb hXs hbl hbA hS (k := i + 2) (by omega) hL dL_law_425 ?_
  refine lv_aload_n hx hb dL_law_426 rfl (lv_at hl 4 rfl) ?_
  refine w_ci hD hS hA (w_S (n := 4) (As := [.ref (a 0), .int (xs (i + 1)), .int (xs (i + 2)), .ref o]) (rest := []) hx hb hml hown hts hX0 hN hS hA hK hP hD hl (hX _) gL_law_L_hanger rfl hrX.1 hrX.2.1 (by decide +kernel) rfl hrX.2.2 rfl (Nat.le_of_ble_eq_true rfl) dL_law_427 ⟨by omega, by omega⟩) (fun k v H locs hw1 hP hD hS => ?_)
  refine lv_istore (lv' := [(5, .int k), (4, .int (nI i)), (0, .ref sb), (1, .ref (a 0)), (2, .ref (b 0)), (3, .ref o)]) hx hb dL_law_430 hl (by decide) rfl (fun ls hl => ?_)
  refine lv_aload_n hx hb dL_law_432 rfl (lv_at hl 4 rfl) ?_
  refine lv_aload_n hx hb dL_law_433 rfl (lv_at hl 2 rfl) ?_
  refine lv_iload hx hb dL_law_434 (lv_at hl 1 rfl) ?_
  refine lv_iconst (v := 1) hx hb dL_law_436 (by decide) ?_
  refine lv_iadd hx hb dL_law_437 ?_
  refine g_ti (y := nI (i + 1)) (nI_add i 1) ?_
  refine g_sld hx hb hXs hbl hbA hS (k := i + 1) (by omega) hL dL_law_438 ?_
  refine lv_aload_n hx hb dL_law_439 rfl (lv_at hl 2 rfl) ?_
  refine lv_iload hx hb dL_law_440 (lv_at hl 1 rfl) ?_
  refine lv_iconst (v := 2) hx hb dL_law_442 (by decide) ?_
  refine lv_iadd hx hb dL_law_443 ?_
  refine g_ti (y := nI (i + 2)) (nI_add i 2) ?_
  refine g_sld hx hb hXs hbl hbA hS (k := i + 2) (by omega) hL dL_law_444 ?_
  refine w_ci hD hS hA (w_V (n := 2) (C := RX6) (T := TX6) (N := 17) (ci := 6) (q0 := 111) (As := [.int (xs (i + 1)), .int (xs (i + 2))]) (rest := []) hx hb hml hown hts hX0 hN hS hA hK hP hD hl (hM _ _ _) gL_law_X6_hanger rfl hrM.1 hrM.2.1 (by decide +kernel) rfl hrM.2.2 rfl rfl rfl (Nat.le_of_ble_eq_true rfl) dL_law_445 ⟨by omega, by omega⟩) (fun b9 w H locs hw2 hP hD hS => ?_)
  refine lv_istore (lv' := [(6, .int b9), (5, .int k), (4, .int (nI i)), (0, .ref sb), (1, .ref (a 0)), (2, .ref (b 0)), (3, .ref o)]) hx hb dL_law_448 hl (by decide) rfl (fun ls hl => ?_)
  refine lv_aload_n hx hb dL_law_450 rfl (lv_at hl 5 rfl) ?_
  refine w_ci hD hS hA (w_V (n := 0) (C := RX6) (T := TX6) (N := 17) (ci := 6) (q0 := 111) (As := []) (rest := []) hx hb hml hown hts hX0 hN hS hA hK hP hD hl (l_X6_thrown l G a sa b o (x2 v) (u2 w) (f2 v) _) gL_law_X6_thrown rfl h6T.1 h6T.2.1 (by decide +kernel) rfl h6T.2.2 rfl rfl rfl (Nat.le_of_ble_eq_true rfl) dL_law_451 ⟨by omega, by omega⟩) (fun k9 w9 H locs hw3 hP hD hS => ?_)
  have hw3 : k9 = nI (u2 w).1.1 := hw3
  have hP : va_P G.1 vwCl (wL G a sa b o (x2 v) (u2 w) (f2 v)) H := hP
  have hD : va_D A (wL G a sa b o (x2 v) (u2 w) (f2 v)) := hD
  obtain ⟨r1, r2, r3⟩ := hrel k v b9 w hw1 hw2
  refine lv_iload hx hb dL_law_454 (lv_at hl 1 rfl) ?_
  refine lv_icmp_eq (tgt := 461) hx hb dL_law_456 (by decide) (fun c_1 => ?_) (fun c_1 => ?_)
  · skip
    refine lv_iload hx hb dL_law_461 (lv_at hl 1 rfl) ?_
    refine lv_if_ne (tgt := 478) hx hb dL_law_463 (by decide) (fun c_2 => ?_) (fun c_2 => ?_)
    · skip
      refine lv_goto (tgt := 1450) hx hb dL_law_478 (by decide) ?_
      refine W.widen (k := cells + 1) (n := slots + 6) (by omega) (by omega) ?_
      exact kk (x2 v) (u2 w) (f2 v) H locs ls r3 hP hD hS (lv_sub hl [2, 3, 4, 5, 6] rfl)
    · skip
      refine lv_aload_n hx hb dL_law_466 rfl (lv_at hl 6 rfl) ?_
      refine lv_iconst (v := 0) hx hb dL_law_467 (by decide) ?_
      refine g_lald0 hx hb hK hP 121 rfl dL_law_468 ?_
      refine lv_iload hx hb dL_law_469 (lv_at hl 0 rfl) ?_
      refine lv_i2l (v := b9.toInt64) hx hb dL_law_471 rfl ?_
      refine W.lcmp hx hb dL_law_472 ?_
      refine lv_if_eq (tgt := 478) hx hb dL_law_473 (by decide) (fun c_3 => ?_) (fun c_3 => ?_)
      · skip
        refine lv_goto (tgt := 1450) hx hb dL_law_478 (by decide) ?_
        refine W.widen (k := cells + 1) (n := slots + 6) (by omega) (by omega) ?_
        exact kk (x2 v) (u2 w) (f2 v) H locs ls r3 hP hD hS (lv_sub hl [2, 3, 4, 5, 6] rfl)
      · exact absurd ((lg_cmp_eq _ _).mpr (r2 c_2)) c_3
  · exact absurd (hw3.trans r1) c_1
set_option maxHeartbeats 4000000 in
set_option maxRecDepth 100000 in
theorem lo_prop {p : Program} {l : Launch} {e : Env} {s : State} {m : MethodId} {args : Array Value} {below : List Frame} {meth : Method} {c : Code} {H : Heap} {locs : List Loc} {cells slots : Nat} {Q : State → Prop} {ls : Array Slot} {A : Nat → Prop} {G : kG} {a : Nat → Nat} {sa : Nat → Nat → Nat} {b : Nat → Nat} {o sb L i : Nat} {xs : Nat → Int32} {x : XS} {u : MS} {f : FnL} {v1 : Int32} {v2 : Int32} (C : lwC p l s m args c A G sb L xs) (hi : i + 3 ≤ L) (hc : cells + 1 ≤ room_1.cells ∧ slots + 6 ≤ room_1.slots) (hv1 : xs (i + 1) = v1) (hv2 : xs (i + 2) = v2) {UX UM : Type} {rmX rmM : Room} {mcX msX : Nat} {PX : Int32 → UX → Prop} {PM : Int32 → UM → Prop} {x2 : UX → XS} {f2 : UX → FnL} {u2 : UM → MS}
    (hX : ∀ sz, wMet l yL_prop wsL_prop rmX G [.ref (a 0), .int v1, .int v2, .ref o] (wL G a sa b o x u f) sz (kQi G PX (fun v => wL G a sa b o (x2 v) u (f2 v))) mcX msX)
    (hM : ∀ (x : XS) (f : FnL) sz, wMet l yX6_prop wsX6_prop rmM G [.ref (b 0), .int v1, .int v2] (wL G a sa b o x u f) sz (kQi G PM (fun v => wL G a sa b o x (u2 v) f)) 0 0)
    (hrX : rmX.cells = mcX ∧ rmX.slots = msX ∧ (rmX.frames + 1 ≤ room_1.frames ∧ 8 + (5 + 11) + rmX.locals ≤ room_1.locals)) (hrM : rmM.cells = 0 ∧ rmM.slots = 0 ∧ (rmM.frames + 1 ≤ room_1.frames ∧ 8 + (3 + 11) + rmM.locals ≤ room_1.locals)) (hmc : mcX ≤ 1 ∧ msX ≤ 6)
    (hrel : ∀ k v b9 w, PX k v → PM b9 w → nI (u2 w).1.1 = k ∧ (k = 0 → f2 v 0 = b9.toInt64) ∧ Rel (x2 v) (u2 w))
    (kk : lwK p l e s m args below meth c A G a sa b o sb i (cells + 1) (slots + 6) Q) (hP : va_P G.1 vwCl (wL G a sa b o x u f) H) (hD : va_D A (wL G a sa b o x u f)) (hS : va_S A s.heap H locs) (hl : lv_has ls 9 [(4, .int (nI i)), (0, .ref sb), (1, .ref (a 0)), (2, .ref (b 0)), (3, .ref o)]) : W p l e room_1 s m args below meth c H locs cells slots Q (F0 m 481 ls []) := by
  subst hv1
  subst hv2
  obtain ⟨hx, hb, hml, hown, hts, hXs, hbl, hbA, hfl, hX0, hN, hA, hK, hL⟩ := C
  refine lv_aload_n hx hb dL_law_481 rfl (lv_at hl 2 rfl) ?_
  refine lv_aload_n hx hb dL_law_482 rfl (lv_at hl 1 rfl) ?_
  refine lv_iload hx hb dL_law_483 (lv_at hl 0 rfl) ?_
  refine lv_iconst (v := 1) hx hb dL_law_485 (by decide) ?_
  refine lv_iadd hx hb dL_law_486 ?_
  refine g_ti (y := nI (i + 1)) (nI_add i 1) ?_
  refine g_sld hx hb hXs hbl hbA hS (k := i + 1) (by omega) hL dL_law_487 ?_
  refine lv_aload_n hx hb dL_law_488 rfl (lv_at hl 1 rfl) ?_
  refine lv_iload hx hb dL_law_489 (lv_at hl 0 rfl) ?_
  refine lv_iconst (v := 2) hx hb dL_law_491 (by decide) ?_
  refine lv_iadd hx hb dL_law_492 ?_
  refine g_ti (y := nI (i + 2)) (nI_add i 2) ?_
  refine g_sld hx hb hXs hbl hbA hS (k := i + 2) (by omega) hL dL_law_493 ?_
  refine lv_aload_n hx hb dL_law_494 rfl (lv_at hl 4 rfl) ?_
  refine w_ci hD hS hA (w_S (n := 4) (As := [.ref (a 0), .int (xs (i + 1)), .int (xs (i + 2)), .ref o]) (rest := []) hx hb hml hown hts hX0 hN hS hA hK hP hD hl (hX _) gL_law_L_prop rfl hrX.1 hrX.2.1 (by decide +kernel) rfl hrX.2.2 rfl (Nat.le_of_ble_eq_true rfl) dL_law_495 ⟨by omega, by omega⟩) (fun k v H locs hw1 hP hD hS => ?_)
  refine lv_istore (lv' := [(5, .int k), (4, .int (nI i)), (0, .ref sb), (1, .ref (a 0)), (2, .ref (b 0)), (3, .ref o)]) hx hb dL_law_498 hl (by decide) rfl (fun ls hl => ?_)
  refine lv_aload_n hx hb dL_law_500 rfl (lv_at hl 4 rfl) ?_
  refine lv_aload_n hx hb dL_law_501 rfl (lv_at hl 2 rfl) ?_
  refine lv_iload hx hb dL_law_502 (lv_at hl 1 rfl) ?_
  refine lv_iconst (v := 1) hx hb dL_law_504 (by decide) ?_
  refine lv_iadd hx hb dL_law_505 ?_
  refine g_ti (y := nI (i + 1)) (nI_add i 1) ?_
  refine g_sld hx hb hXs hbl hbA hS (k := i + 1) (by omega) hL dL_law_506 ?_
  refine lv_aload_n hx hb dL_law_507 rfl (lv_at hl 2 rfl) ?_
  refine lv_iload hx hb dL_law_508 (lv_at hl 1 rfl) ?_
  refine lv_iconst (v := 2) hx hb dL_law_510 (by decide) ?_
  refine lv_iadd hx hb dL_law_511 ?_
  refine g_ti (y := nI (i + 2)) (nI_add i 2) ?_
  refine g_sld hx hb hXs hbl hbA hS (k := i + 2) (by omega) hL dL_law_512 ?_
  refine w_ci hD hS hA (w_V (n := 2) (C := RX6) (T := TX6) (N := 17) (ci := 6) (q0 := 111) (As := [.int (xs (i + 1)), .int (xs (i + 2))]) (rest := []) hx hb hml hown hts hX0 hN hS hA hK hP hD hl (hM _ _ _) gL_law_X6_prop rfl hrM.1 hrM.2.1 (by decide +kernel) rfl hrM.2.2 rfl rfl rfl (Nat.le_of_ble_eq_true rfl) dL_law_513 ⟨by omega, by omega⟩) (fun b9 w H locs hw2 hP hD hS => ?_)
  refine lv_istore (lv' := [(6, .int b9), (5, .int k), (4, .int (nI i)), (0, .ref sb), (1, .ref (a 0)), (2, .ref (b 0)), (3, .ref o)]) hx hb dL_law_516 hl (by decide) rfl (fun ls hl => ?_)
  refine lv_aload_n hx hb dL_law_518 rfl (lv_at hl 5 rfl) ?_
  refine w_ci hD hS hA (w_V (n := 0) (C := RX6) (T := TX6) (N := 17) (ci := 6) (q0 := 111) (As := []) (rest := []) hx hb hml hown hts hX0 hN hS hA hK hP hD hl (l_X6_thrown l G a sa b o (x2 v) (u2 w) (f2 v) _) gL_law_X6_thrown rfl h6T.1 h6T.2.1 (by decide +kernel) rfl h6T.2.2 rfl rfl rfl (Nat.le_of_ble_eq_true rfl) dL_law_519 ⟨by omega, by omega⟩) (fun k9 w9 H locs hw3 hP hD hS => ?_)
  have hw3 : k9 = nI (u2 w).1.1 := hw3
  have hP : va_P G.1 vwCl (wL G a sa b o (x2 v) (u2 w) (f2 v)) H := hP
  have hD : va_D A (wL G a sa b o (x2 v) (u2 w) (f2 v)) := hD
  obtain ⟨r1, r2, r3⟩ := hrel k v b9 w hw1 hw2
  refine lv_iload hx hb dL_law_522 (lv_at hl 1 rfl) ?_
  refine lv_icmp_eq (tgt := 529) hx hb dL_law_524 (by decide) (fun c_1 => ?_) (fun c_1 => ?_)
  · skip
    refine lv_iload hx hb dL_law_529 (lv_at hl 1 rfl) ?_
    refine lv_if_ne (tgt := 546) hx hb dL_law_531 (by decide) (fun c_2 => ?_) (fun c_2 => ?_)
    · skip
      refine lv_goto (tgt := 1450) hx hb dL_law_546 (by decide) ?_
      refine W.widen (k := cells + 1) (n := slots + 6) (by omega) (by omega) ?_
      exact kk (x2 v) (u2 w) (f2 v) H locs ls r3 hP hD hS (lv_sub hl [2, 3, 4, 5, 6] rfl)
    · skip
      refine lv_aload_n hx hb dL_law_534 rfl (lv_at hl 6 rfl) ?_
      refine lv_iconst (v := 0) hx hb dL_law_535 (by decide) ?_
      refine g_lald0 hx hb hK hP 121 rfl dL_law_536 ?_
      refine lv_iload hx hb dL_law_537 (lv_at hl 0 rfl) ?_
      refine lv_i2l (v := b9.toInt64) hx hb dL_law_539 rfl ?_
      refine W.lcmp hx hb dL_law_540 ?_
      refine lv_if_eq (tgt := 546) hx hb dL_law_541 (by decide) (fun c_3 => ?_) (fun c_3 => ?_)
      · skip
        refine lv_goto (tgt := 1450) hx hb dL_law_546 (by decide) ?_
        refine W.widen (k := cells + 1) (n := slots + 6) (by omega) (by omega) ?_
        exact kk (x2 v) (u2 w) (f2 v) H locs ls r3 hP hD hS (lv_sub hl [2, 3, 4, 5, 6] rfl)
      · exact absurd ((lg_cmp_eq _ _).mpr (r2 c_2)) c_3
  · exact absurd (hw3.trans r1) c_1
set_option maxHeartbeats 4000000 in
set_option maxRecDepth 100000 in
theorem lo_move {p : Program} {l : Launch} {e : Env} {s : State} {m : MethodId} {args : Array Value} {below : List Frame} {meth : Method} {c : Code} {H : Heap} {locs : List Loc} {cells slots : Nat} {Q : State → Prop} {ls : Array Slot} {A : Nat → Prop} {G : kG} {a : Nat → Nat} {sa : Nat → Nat → Nat} {b : Nat → Nat} {o sb L i : Nat} {xs : Nat → Int32} {x : XS} {u : MS} {f : FnL} {v1 : Int32} {v2 : Int32} (C : lwC p l s m args c A G sb L xs) (hi : i + 3 ≤ L) (hc : cells + 1 ≤ room_1.cells ∧ slots + 6 ≤ room_1.slots) (hv1 : xs (i + 1) = v1) (hv2 : xs (i + 2) = v2) {UX UM : Type} {rmX rmM : Room} {mcX msX : Nat} {PX : Int32 → UX → Prop} {PM : Int32 → UM → Prop} {x2 : UX → XS} {f2 : UX → FnL} {u2 : UM → MS}
    (hX : ∀ sz, wMet l yL_move wsL_move rmX G [.ref (a 0), .int v1, .int v2, .ref o] (wL G a sa b o x u f) sz (kQi G PX (fun v => wL G a sa b o (x2 v) u (f2 v))) mcX msX)
    (hM : ∀ (x : XS) (f : FnL) sz, wMet l yX6_move wsX6_move rmM G [.ref (b 0), .int v1, .int v2] (wL G a sa b o x u f) sz (kQi G PM (fun v => wL G a sa b o x (u2 v) f)) 0 0)
    (hrX : rmX.cells = mcX ∧ rmX.slots = msX ∧ (rmX.frames + 1 ≤ room_1.frames ∧ 8 + (5 + 11) + rmX.locals ≤ room_1.locals)) (hrM : rmM.cells = 0 ∧ rmM.slots = 0 ∧ (rmM.frames + 1 ≤ room_1.frames ∧ 8 + (3 + 11) + rmM.locals ≤ room_1.locals)) (hmc : mcX ≤ 1 ∧ msX ≤ 6)
    (hrel : ∀ k v b9 w, PX k v → PM b9 w → nI (u2 w).1.1 = k ∧ (k = 0 → f2 v 0 = b9.toInt64) ∧ Rel (x2 v) (u2 w))
    (kk : lwK p l e s m args below meth c A G a sa b o sb i (cells + 1) (slots + 6) Q) (hP : va_P G.1 vwCl (wL G a sa b o x u f) H) (hD : va_D A (wL G a sa b o x u f)) (hS : va_S A s.heap H locs) (hl : lv_has ls 9 [(4, .int (nI i)), (0, .ref sb), (1, .ref (a 0)), (2, .ref (b 0)), (3, .ref o)]) : W p l e room_1 s m args below meth c H locs cells slots Q (F0 m 549 ls []) := by
  subst hv1
  subst hv2
  obtain ⟨hx, hb, hml, hown, hts, hXs, hbl, hbA, hfl, hX0, hN, hA, hK, hL⟩ := C
  refine lv_aload_n hx hb dL_law_549 rfl (lv_at hl 2 rfl) ?_
  refine lv_aload_n hx hb dL_law_550 rfl (lv_at hl 1 rfl) ?_
  refine lv_iload hx hb dL_law_551 (lv_at hl 0 rfl) ?_
  refine lv_iconst (v := 1) hx hb dL_law_553 (by decide) ?_
  refine lv_iadd hx hb dL_law_554 ?_
  refine g_ti (y := nI (i + 1)) (nI_add i 1) ?_
  refine g_sld hx hb hXs hbl hbA hS (k := i + 1) (by omega) hL dL_law_555 ?_
  refine lv_aload_n hx hb dL_law_556 rfl (lv_at hl 1 rfl) ?_
  refine lv_iload hx hb dL_law_557 (lv_at hl 0 rfl) ?_
  refine lv_iconst (v := 2) hx hb dL_law_559 (by decide) ?_
  refine lv_iadd hx hb dL_law_560 ?_
  refine g_ti (y := nI (i + 2)) (nI_add i 2) ?_
  refine g_sld hx hb hXs hbl hbA hS (k := i + 2) (by omega) hL dL_law_561 ?_
  refine lv_aload_n hx hb dL_law_562 rfl (lv_at hl 4 rfl) ?_
  refine w_ci hD hS hA (w_S (n := 4) (As := [.ref (a 0), .int (xs (i + 1)), .int (xs (i + 2)), .ref o]) (rest := []) hx hb hml hown hts hX0 hN hS hA hK hP hD hl (hX _) gL_law_L_move rfl hrX.1 hrX.2.1 (by decide +kernel) rfl hrX.2.2 rfl (Nat.le_of_ble_eq_true rfl) dL_law_563 ⟨by omega, by omega⟩) (fun k v H locs hw1 hP hD hS => ?_)
  refine lv_istore (lv' := [(5, .int k), (4, .int (nI i)), (0, .ref sb), (1, .ref (a 0)), (2, .ref (b 0)), (3, .ref o)]) hx hb dL_law_566 hl (by decide) rfl (fun ls hl => ?_)
  refine lv_aload_n hx hb dL_law_568 rfl (lv_at hl 4 rfl) ?_
  refine lv_aload_n hx hb dL_law_569 rfl (lv_at hl 2 rfl) ?_
  refine lv_iload hx hb dL_law_570 (lv_at hl 1 rfl) ?_
  refine lv_iconst (v := 1) hx hb dL_law_572 (by decide) ?_
  refine lv_iadd hx hb dL_law_573 ?_
  refine g_ti (y := nI (i + 1)) (nI_add i 1) ?_
  refine g_sld hx hb hXs hbl hbA hS (k := i + 1) (by omega) hL dL_law_574 ?_
  refine lv_aload_n hx hb dL_law_575 rfl (lv_at hl 2 rfl) ?_
  refine lv_iload hx hb dL_law_576 (lv_at hl 1 rfl) ?_
  refine lv_iconst (v := 2) hx hb dL_law_578 (by decide) ?_
  refine lv_iadd hx hb dL_law_579 ?_
  refine g_ti (y := nI (i + 2)) (nI_add i 2) ?_
  refine g_sld hx hb hXs hbl hbA hS (k := i + 2) (by omega) hL dL_law_580 ?_
  refine w_ci hD hS hA (w_V (n := 2) (C := RX6) (T := TX6) (N := 17) (ci := 6) (q0 := 111) (As := [.int (xs (i + 1)), .int (xs (i + 2))]) (rest := []) hx hb hml hown hts hX0 hN hS hA hK hP hD hl (hM _ _ _) gL_law_X6_move rfl hrM.1 hrM.2.1 (by decide +kernel) rfl hrM.2.2 rfl rfl rfl (Nat.le_of_ble_eq_true rfl) dL_law_581 ⟨by omega, by omega⟩) (fun b9 w H locs hw2 hP hD hS => ?_)
  refine lv_istore (lv' := [(6, .int b9), (5, .int k), (4, .int (nI i)), (0, .ref sb), (1, .ref (a 0)), (2, .ref (b 0)), (3, .ref o)]) hx hb dL_law_584 hl (by decide) rfl (fun ls hl => ?_)
  refine lv_aload_n hx hb dL_law_586 rfl (lv_at hl 5 rfl) ?_
  refine w_ci hD hS hA (w_V (n := 0) (C := RX6) (T := TX6) (N := 17) (ci := 6) (q0 := 111) (As := []) (rest := []) hx hb hml hown hts hX0 hN hS hA hK hP hD hl (l_X6_thrown l G a sa b o (x2 v) (u2 w) (f2 v) _) gL_law_X6_thrown rfl h6T.1 h6T.2.1 (by decide +kernel) rfl h6T.2.2 rfl rfl rfl (Nat.le_of_ble_eq_true rfl) dL_law_587 ⟨by omega, by omega⟩) (fun k9 w9 H locs hw3 hP hD hS => ?_)
  have hw3 : k9 = nI (u2 w).1.1 := hw3
  have hP : va_P G.1 vwCl (wL G a sa b o (x2 v) (u2 w) (f2 v)) H := hP
  have hD : va_D A (wL G a sa b o (x2 v) (u2 w) (f2 v)) := hD
  obtain ⟨r1, r2, r3⟩ := hrel k v b9 w hw1 hw2
  refine lv_iload hx hb dL_law_590 (lv_at hl 1 rfl) ?_
  refine lv_icmp_eq (tgt := 597) hx hb dL_law_592 (by decide) (fun c_1 => ?_) (fun c_1 => ?_)
  · skip
    refine lv_iload hx hb dL_law_597 (lv_at hl 1 rfl) ?_
    refine lv_if_ne (tgt := 614) hx hb dL_law_599 (by decide) (fun c_2 => ?_) (fun c_2 => ?_)
    · skip
      refine lv_goto (tgt := 1450) hx hb dL_law_614 (by decide) ?_
      refine W.widen (k := cells + 1) (n := slots + 6) (by omega) (by omega) ?_
      exact kk (x2 v) (u2 w) (f2 v) H locs ls r3 hP hD hS (lv_sub hl [2, 3, 4, 5, 6] rfl)
    · skip
      refine lv_aload_n hx hb dL_law_602 rfl (lv_at hl 6 rfl) ?_
      refine lv_iconst (v := 0) hx hb dL_law_603 (by decide) ?_
      refine g_lald0 hx hb hK hP 121 rfl dL_law_604 ?_
      refine lv_iload hx hb dL_law_605 (lv_at hl 0 rfl) ?_
      refine lv_i2l (v := b9.toInt64) hx hb dL_law_607 rfl ?_
      refine W.lcmp hx hb dL_law_608 ?_
      refine lv_if_eq (tgt := 614) hx hb dL_law_609 (by decide) (fun c_3 => ?_) (fun c_3 => ?_)
      · skip
        refine lv_goto (tgt := 1450) hx hb dL_law_614 (by decide) ?_
        refine W.widen (k := cells + 1) (n := slots + 6) (by omega) (by omega) ?_
        exact kk (x2 v) (u2 w) (f2 v) H locs ls r3 hP hD hS (lv_sub hl [2, 3, 4, 5, 6] rfl)
      · exact absurd ((lg_cmp_eq _ _).mpr (r2 c_2)) c_3
  · exact absurd (hw3.trans r1) c_1
set_option maxHeartbeats 4000000 in
set_option maxRecDepth 100000 in
theorem lo_set {p : Program} {l : Launch} {e : Env} {s : State} {m : MethodId} {args : Array Value} {below : List Frame} {meth : Method} {c : Code} {H : Heap} {locs : List Loc} {cells slots : Nat} {Q : State → Prop} {ls : Array Slot} {A : Nat → Prop} {G : kG} {a : Nat → Nat} {sa : Nat → Nat → Nat} {b : Nat → Nat} {o sb L i : Nat} {xs : Nat → Int32} {x : XS} {u : MS} {f : FnL} {v1 : Int32} {v2 : Int32} (C : lwC p l s m args c A G sb L xs) (hi : i + 3 ≤ L) (hc : cells + 1 ≤ room_1.cells ∧ slots + 6 ≤ room_1.slots) (hv1 : xs (i + 1) = v1) (hv2 : xs (i + 2) = v2) {UX UM : Type} {rmX rmM : Room} {mcX msX : Nat} {PX : Int32 → UX → Prop} {PM : Int32 → UM → Prop} {x2 : UX → XS} {f2 : UX → FnL} {u2 : UM → MS}
    (hX : ∀ sz, wMet l yL_set wsL_set rmX G [.ref (a 0), .int v1, .int v2, .ref o] (wL G a sa b o x u f) sz (kQi G PX (fun v => wL G a sa b o (x2 v) u (f2 v))) mcX msX)
    (hM : ∀ (x : XS) (f : FnL) sz, wMet l yX6_set wsX6_set rmM G [.ref (b 0), .int v1, .int v2] (wL G a sa b o x u f) sz (kQi G PM (fun v => wL G a sa b o x (u2 v) f)) 0 0)
    (hrX : rmX.cells = mcX ∧ rmX.slots = msX ∧ (rmX.frames + 1 ≤ room_1.frames ∧ 8 + (5 + 11) + rmX.locals ≤ room_1.locals)) (hrM : rmM.cells = 0 ∧ rmM.slots = 0 ∧ (rmM.frames + 1 ≤ room_1.frames ∧ 8 + (5 + 11) + rmM.locals ≤ room_1.locals)) (hmc : mcX ≤ 1 ∧ msX ≤ 6)
    (hrel : ∀ k v b9 w, PX k v → PM b9 w → nI (u2 w).1.1 = k ∧ (k = 0 → f2 v 0 = b9.toInt64) ∧ Rel (x2 v) (u2 w))
    (kk : lwK p l e s m args below meth c A G a sa b o sb i (cells + 1) (slots + 6) Q) (hP : va_P G.1 vwCl (wL G a sa b o x u f) H) (hD : va_D A (wL G a sa b o x u f)) (hS : va_S A s.heap H locs) (hl : lv_has ls 9 [(4, .int (nI i)), (0, .ref sb), (1, .ref (a 0)), (2, .ref (b 0)), (3, .ref o)]) : W p l e room_1 s m args below meth c H locs cells slots Q (F0 m 617 ls []) := by
  subst hv1
  subst hv2
  obtain ⟨hx, hb, hml, hown, hts, hXs, hbl, hbA, hfl, hX0, hN, hA, hK, hL⟩ := C
  refine lv_aload_n hx hb dL_law_617 rfl (lv_at hl 2 rfl) ?_
  refine lv_aload_n hx hb dL_law_618 rfl (lv_at hl 1 rfl) ?_
  refine lv_iload hx hb dL_law_619 (lv_at hl 0 rfl) ?_
  refine lv_iconst (v := 1) hx hb dL_law_621 (by decide) ?_
  refine lv_iadd hx hb dL_law_622 ?_
  refine g_ti (y := nI (i + 1)) (nI_add i 1) ?_
  refine g_sld hx hb hXs hbl hbA hS (k := i + 1) (by omega) hL dL_law_623 ?_
  refine lv_aload_n hx hb dL_law_624 rfl (lv_at hl 1 rfl) ?_
  refine lv_iload hx hb dL_law_625 (lv_at hl 0 rfl) ?_
  refine lv_iconst (v := 2) hx hb dL_law_627 (by decide) ?_
  refine lv_iadd hx hb dL_law_628 ?_
  refine g_ti (y := nI (i + 2)) (nI_add i 2) ?_
  refine g_sld hx hb hXs hbl hbA hS (k := i + 2) (by omega) hL dL_law_629 ?_
  refine lv_aload_n hx hb dL_law_630 rfl (lv_at hl 4 rfl) ?_
  refine w_ci hD hS hA (w_S (n := 4) (As := [.ref (a 0), .int (xs (i + 1)), .int (xs (i + 2)), .ref o]) (rest := []) hx hb hml hown hts hX0 hN hS hA hK hP hD hl (hX _) gL_law_L_set rfl hrX.1 hrX.2.1 (by decide +kernel) rfl hrX.2.2 rfl (Nat.le_of_ble_eq_true rfl) dL_law_631 ⟨by omega, by omega⟩) (fun k v H locs hw1 hP hD hS => ?_)
  refine lv_istore (lv' := [(5, .int k), (4, .int (nI i)), (0, .ref sb), (1, .ref (a 0)), (2, .ref (b 0)), (3, .ref o)]) hx hb dL_law_634 hl (by decide) rfl (fun ls hl => ?_)
  refine lv_aload_n hx hb dL_law_636 rfl (lv_at hl 4 rfl) ?_
  refine lv_aload_n hx hb dL_law_637 rfl (lv_at hl 2 rfl) ?_
  refine lv_iload hx hb dL_law_638 (lv_at hl 1 rfl) ?_
  refine lv_iconst (v := 1) hx hb dL_law_640 (by decide) ?_
  refine lv_iadd hx hb dL_law_641 ?_
  refine g_ti (y := nI (i + 1)) (nI_add i 1) ?_
  refine g_sld hx hb hXs hbl hbA hS (k := i + 1) (by omega) hL dL_law_642 ?_
  refine lv_aload_n hx hb dL_law_643 rfl (lv_at hl 2 rfl) ?_
  refine lv_iload hx hb dL_law_644 (lv_at hl 1 rfl) ?_
  refine lv_iconst (v := 2) hx hb dL_law_646 (by decide) ?_
  refine lv_iadd hx hb dL_law_647 ?_
  refine g_ti (y := nI (i + 2)) (nI_add i 2) ?_
  refine g_sld hx hb hXs hbl hbA hS (k := i + 2) (by omega) hL dL_law_648 ?_
  refine w_ci hD hS hA (w_V (n := 2) (C := RX6) (T := TX6) (N := 17) (ci := 6) (q0 := 111) (As := [.int (xs (i + 1)), .int (xs (i + 2))]) (rest := []) hx hb hml hown hts hX0 hN hS hA hK hP hD hl (hM _ _ _) gL_law_X6_set rfl hrM.1 hrM.2.1 (by decide +kernel) rfl hrM.2.2 rfl rfl rfl (Nat.le_of_ble_eq_true rfl) dL_law_649 ⟨by omega, by omega⟩) (fun b9 w H locs hw2 hP hD hS => ?_)
  refine lv_istore (lv' := [(6, .int b9), (5, .int k), (4, .int (nI i)), (0, .ref sb), (1, .ref (a 0)), (2, .ref (b 0)), (3, .ref o)]) hx hb dL_law_652 hl (by decide) rfl (fun ls hl => ?_)
  refine lv_aload_n hx hb dL_law_654 rfl (lv_at hl 5 rfl) ?_
  refine w_ci hD hS hA (w_V (n := 0) (C := RX6) (T := TX6) (N := 17) (ci := 6) (q0 := 111) (As := []) (rest := []) hx hb hml hown hts hX0 hN hS hA hK hP hD hl (l_X6_thrown l G a sa b o (x2 v) (u2 w) (f2 v) _) gL_law_X6_thrown rfl h6T.1 h6T.2.1 (by decide +kernel) rfl h6T.2.2 rfl rfl rfl (Nat.le_of_ble_eq_true rfl) dL_law_655 ⟨by omega, by omega⟩) (fun k9 w9 H locs hw3 hP hD hS => ?_)
  have hw3 : k9 = nI (u2 w).1.1 := hw3
  have hP : va_P G.1 vwCl (wL G a sa b o (x2 v) (u2 w) (f2 v)) H := hP
  have hD : va_D A (wL G a sa b o (x2 v) (u2 w) (f2 v)) := hD
  obtain ⟨r1, r2, r3⟩ := hrel k v b9 w hw1 hw2
  refine lv_iload hx hb dL_law_658 (lv_at hl 1 rfl) ?_
  refine lv_icmp_eq (tgt := 665) hx hb dL_law_660 (by decide) (fun c_1 => ?_) (fun c_1 => ?_)
  · skip
    refine lv_iload hx hb dL_law_665 (lv_at hl 1 rfl) ?_
    refine lv_if_ne (tgt := 682) hx hb dL_law_667 (by decide) (fun c_2 => ?_) (fun c_2 => ?_)
    · skip
      refine lv_goto (tgt := 1450) hx hb dL_law_682 (by decide) ?_
      refine W.widen (k := cells + 1) (n := slots + 6) (by omega) (by omega) ?_
      exact kk (x2 v) (u2 w) (f2 v) H locs ls r3 hP hD hS (lv_sub hl [2, 3, 4, 5, 6] rfl)
    · skip
      refine lv_aload_n hx hb dL_law_670 rfl (lv_at hl 6 rfl) ?_
      refine lv_iconst (v := 0) hx hb dL_law_671 (by decide) ?_
      refine g_lald0 hx hb hK hP 121 rfl dL_law_672 ?_
      refine lv_iload hx hb dL_law_673 (lv_at hl 0 rfl) ?_
      refine lv_i2l (v := b9.toInt64) hx hb dL_law_675 rfl ?_
      refine W.lcmp hx hb dL_law_676 ?_
      refine lv_if_eq (tgt := 682) hx hb dL_law_677 (by decide) (fun c_3 => ?_) (fun c_3 => ?_)
      · skip
        refine lv_goto (tgt := 1450) hx hb dL_law_682 (by decide) ?_
        refine W.widen (k := cells + 1) (n := slots + 6) (by omega) (by omega) ?_
        exact kk (x2 v) (u2 w) (f2 v) H locs ls r3 hP hD hS (lv_sub hl [2, 3, 4, 5, 6] rfl)
      · exact absurd ((lg_cmp_eq _ _).mpr (r2 c_2)) c_3
  · exact absurd (hw3.trans r1) c_1
set_option maxHeartbeats 4000000 in
set_option maxRecDepth 100000 in
theorem lo_append {p : Program} {l : Launch} {e : Env} {s : State} {m : MethodId} {args : Array Value} {below : List Frame} {meth : Method} {c : Code} {H : Heap} {locs : List Loc} {cells slots : Nat} {Q : State → Prop} {ls : Array Slot} {A : Nat → Prop} {G : kG} {a : Nat → Nat} {sa : Nat → Nat → Nat} {b : Nat → Nat} {o sb L i : Nat} {xs : Nat → Int32} {x : XS} {u : MS} {f : FnL} {v1 : Int32} (C : lwC p l s m args c A G sb L xs) (hi : i + 3 ≤ L) (hc : cells + 1 ≤ room_1.cells ∧ slots + 6 ≤ room_1.slots) (hv1 : xs (i + 1) = v1) {UX UM : Type} {rmX rmM : Room} {mcX msX : Nat} {PX : Int32 → UX → Prop} {PM : Int32 → UM → Prop} {x2 : UX → XS} {f2 : UX → FnL} {u2 : UM → MS}
    (hX : ∀ sz, wMet l yL_append wsL_append rmX G [.ref (a 0), .int v1, .ref o] (wL G a sa b o x u f) sz (kQi G PX (fun v => wL G a sa b o (x2 v) u (f2 v))) mcX msX)
    (hM : ∀ (x : XS) (f : FnL) sz, wMet l yX6_append wsX6_append rmM G [.ref (b 0), .int v1] (wL G a sa b o x u f) sz (kQi G PM (fun v => wL G a sa b o x (u2 v) f)) 0 0)
    (hrX : rmX.cells = mcX ∧ rmX.slots = msX ∧ (rmX.frames + 1 ≤ room_1.frames ∧ 8 + (4 + 11) + rmX.locals ≤ room_1.locals)) (hrM : rmM.cells = 0 ∧ rmM.slots = 0 ∧ (rmM.frames + 1 ≤ room_1.frames ∧ 8 + (2 + 11) + rmM.locals ≤ room_1.locals)) (hmc : mcX ≤ 1 ∧ msX ≤ 6)
    (hrel : ∀ k v b9 w, PX k v → PM b9 w → nI (u2 w).1.1 = k ∧ (k = 0 → f2 v 0 = b9.toInt64) ∧ Rel (x2 v) (u2 w))
    (kk : lwK p l e s m args below meth c A G a sa b o sb i (cells + 1) (slots + 6) Q) (hP : va_P G.1 vwCl (wL G a sa b o x u f) H) (hD : va_D A (wL G a sa b o x u f)) (hS : va_S A s.heap H locs) (hl : lv_has ls 9 [(4, .int (nI i)), (0, .ref sb), (1, .ref (a 0)), (2, .ref (b 0)), (3, .ref o)]) : W p l e room_1 s m args below meth c H locs cells slots Q (F0 m 685 ls []) := by
  subst hv1
  obtain ⟨hx, hb, hml, hown, hts, hXs, hbl, hbA, hfl, hX0, hN, hA, hK, hL⟩ := C
  refine lv_aload_n hx hb dL_law_685 rfl (lv_at hl 2 rfl) ?_
  refine lv_aload_n hx hb dL_law_686 rfl (lv_at hl 1 rfl) ?_
  refine lv_iload hx hb dL_law_687 (lv_at hl 0 rfl) ?_
  refine lv_iconst (v := 1) hx hb dL_law_689 (by decide) ?_
  refine lv_iadd hx hb dL_law_690 ?_
  refine g_ti (y := nI (i + 1)) (nI_add i 1) ?_
  refine g_sld hx hb hXs hbl hbA hS (k := i + 1) (by omega) hL dL_law_691 ?_
  refine lv_aload_n hx hb dL_law_692 rfl (lv_at hl 4 rfl) ?_
  refine w_ci hD hS hA (w_S (n := 3) (As := [.ref (a 0), .int (xs (i + 1)), .ref o]) (rest := []) hx hb hml hown hts hX0 hN hS hA hK hP hD hl (hX _) gL_law_L_append rfl hrX.1 hrX.2.1 (by decide +kernel) rfl hrX.2.2 rfl (Nat.le_of_ble_eq_true rfl) dL_law_693 ⟨by omega, by omega⟩) (fun k v H locs hw1 hP hD hS => ?_)
  refine lv_istore (lv' := [(5, .int k), (4, .int (nI i)), (0, .ref sb), (1, .ref (a 0)), (2, .ref (b 0)), (3, .ref o)]) hx hb dL_law_696 hl (by decide) rfl (fun ls hl => ?_)
  refine lv_aload_n hx hb dL_law_698 rfl (lv_at hl 4 rfl) ?_
  refine lv_aload_n hx hb dL_law_699 rfl (lv_at hl 2 rfl) ?_
  refine lv_iload hx hb dL_law_700 (lv_at hl 1 rfl) ?_
  refine lv_iconst (v := 1) hx hb dL_law_702 (by decide) ?_
  refine lv_iadd hx hb dL_law_703 ?_
  refine g_ti (y := nI (i + 1)) (nI_add i 1) ?_
  refine g_sld hx hb hXs hbl hbA hS (k := i + 1) (by omega) hL dL_law_704 ?_
  refine w_ci hD hS hA (w_V (n := 1) (C := RX6) (T := TX6) (N := 17) (ci := 6) (q0 := 111) (As := [.int (xs (i + 1))]) (rest := []) hx hb hml hown hts hX0 hN hS hA hK hP hD hl (hM _ _ _) gL_law_X6_append rfl hrM.1 hrM.2.1 (by decide +kernel) rfl hrM.2.2 rfl rfl rfl (Nat.le_of_ble_eq_true rfl) dL_law_705 ⟨by omega, by omega⟩) (fun b9 w H locs hw2 hP hD hS => ?_)
  refine lv_istore (lv' := [(6, .int b9), (5, .int k), (4, .int (nI i)), (0, .ref sb), (1, .ref (a 0)), (2, .ref (b 0)), (3, .ref o)]) hx hb dL_law_708 hl (by decide) rfl (fun ls hl => ?_)
  refine lv_aload_n hx hb dL_law_710 rfl (lv_at hl 5 rfl) ?_
  refine w_ci hD hS hA (w_V (n := 0) (C := RX6) (T := TX6) (N := 17) (ci := 6) (q0 := 111) (As := []) (rest := []) hx hb hml hown hts hX0 hN hS hA hK hP hD hl (l_X6_thrown l G a sa b o (x2 v) (u2 w) (f2 v) _) gL_law_X6_thrown rfl h6T.1 h6T.2.1 (by decide +kernel) rfl h6T.2.2 rfl rfl rfl (Nat.le_of_ble_eq_true rfl) dL_law_711 ⟨by omega, by omega⟩) (fun k9 w9 H locs hw3 hP hD hS => ?_)
  have hw3 : k9 = nI (u2 w).1.1 := hw3
  have hP : va_P G.1 vwCl (wL G a sa b o (x2 v) (u2 w) (f2 v)) H := hP
  have hD : va_D A (wL G a sa b o (x2 v) (u2 w) (f2 v)) := hD
  obtain ⟨r1, r2, r3⟩ := hrel k v b9 w hw1 hw2
  refine lv_iload hx hb dL_law_714 (lv_at hl 1 rfl) ?_
  refine lv_icmp_eq (tgt := 721) hx hb dL_law_716 (by decide) (fun c_1 => ?_) (fun c_1 => ?_)
  · skip
    refine lv_iload hx hb dL_law_721 (lv_at hl 1 rfl) ?_
    refine lv_if_ne (tgt := 738) hx hb dL_law_723 (by decide) (fun c_2 => ?_) (fun c_2 => ?_)
    · skip
      refine lv_goto (tgt := 1450) hx hb dL_law_738 (by decide) ?_
      refine W.widen (k := cells + 1) (n := slots + 6) (by omega) (by omega) ?_
      exact kk (x2 v) (u2 w) (f2 v) H locs ls r3 hP hD hS (lv_sub hl [2, 3, 4, 5, 6] rfl)
    · skip
      refine lv_aload_n hx hb dL_law_726 rfl (lv_at hl 6 rfl) ?_
      refine lv_iconst (v := 0) hx hb dL_law_727 (by decide) ?_
      refine g_lald0 hx hb hK hP 121 rfl dL_law_728 ?_
      refine lv_iload hx hb dL_law_729 (lv_at hl 0 rfl) ?_
      refine lv_i2l (v := b9.toInt64) hx hb dL_law_731 rfl ?_
      refine W.lcmp hx hb dL_law_732 ?_
      refine lv_if_eq (tgt := 738) hx hb dL_law_733 (by decide) (fun c_3 => ?_) (fun c_3 => ?_)
      · skip
        refine lv_goto (tgt := 1450) hx hb dL_law_738 (by decide) ?_
        refine W.widen (k := cells + 1) (n := slots + 6) (by omega) (by omega) ?_
        exact kk (x2 v) (u2 w) (f2 v) H locs ls r3 hP hD hS (lv_sub hl [2, 3, 4, 5, 6] rfl)
      · exact absurd ((lg_cmp_eq _ _).mpr (r2 c_2)) c_3
  · exact absurd (hw3.trans r1) c_1
set_option maxHeartbeats 4000000 in
set_option maxRecDepth 100000 in
theorem lo_clearBuffer {p : Program} {l : Launch} {e : Env} {s : State} {m : MethodId} {args : Array Value} {below : List Frame} {meth : Method} {c : Code} {H : Heap} {locs : List Loc} {cells slots : Nat} {Q : State → Prop} {ls : Array Slot} {A : Nat → Prop} {G : kG} {a : Nat → Nat} {sa : Nat → Nat → Nat} {b : Nat → Nat} {o sb L i : Nat} {xs : Nat → Int32} {x : XS} {u : MS} {f : FnL} (C : lwC p l s m args c A G sb L xs) (hi : i + 3 ≤ L) (hc : cells + 1 ≤ room_1.cells ∧ slots + 6 ≤ room_1.slots) {UX UM : Type} {rmX rmM : Room} {mcX msX : Nat} {PX : Int32 → UX → Prop} {PM : Int32 → UM → Prop} {x2 : UX → XS} {u2 : UM → MS}
    (hX : ∀ sz, wMet l yX5_clearBuffer wsX5_clearBuffer rmX G [.ref (a 0)] (wL G a sa b o x u f) sz (kQi G PX (fun v => wL G a sa b o (x2 v) u f)) mcX msX)
    (hM : ∀ (x : XS) (f : FnL) sz, wMet l yX6_clearBuffer wsX6_clearBuffer rmM G [.ref (b 0)] (wL G a sa b o x u f) sz (kQi G PM (fun v => wL G a sa b o x (u2 v) f)) 0 0)
    (hrX : rmX.cells = mcX ∧ rmX.slots = msX ∧ (rmX.frames + 1 ≤ room_1.frames ∧ 8 + (2 + 11) + rmX.locals ≤ room_1.locals)) (hrM : rmM.cells = 0 ∧ rmM.slots = 0 ∧ (rmM.frames + 1 ≤ room_1.frames ∧ 8 + (2 + 11) + rmM.locals ≤ room_1.locals)) (hmc : mcX ≤ 1 ∧ msX ≤ 6)
    (hrel : ∀ k v b9 w, PX k v → PM b9 w → (k = b9) ∧ Rel (x2 v) (u2 w))
    (kk : lwK p l e s m args below meth c A G a sa b o sb i (cells + 1) (slots + 6) Q) (hP : va_P G.1 vwCl (wL G a sa b o x u f) H) (hD : va_D A (wL G a sa b o x u f)) (hS : va_S A s.heap H locs) (hl : lv_has ls 9 [(4, .int (nI i)), (0, .ref sb), (1, .ref (a 0)), (2, .ref (b 0)), (3, .ref o)]) : W p l e room_1 s m args below meth c H locs cells slots Q (F0 m 741 ls []) := by
  obtain ⟨hx, hb, hml, hown, hts, hXs, hbl, hbA, hfl, hX0, hN, hA, hK, hL⟩ := C
  refine lv_aload_n hx hb dL_law_741 rfl (lv_at hl 2 rfl) ?_
  refine w_ci hD hS hA (w_V (n := 0) (C := RX5) (T := TX5) (N := 7) (ci := 5) (q0 := 0) (As := []) (rest := []) hx hb hml hown hts hX0 hN hS hA hK hP hD hl (hX _) gL_law_X5_clearBuffer rfl hrX.1 hrX.2.1 (by decide +kernel) rfl hrX.2.2 rfl rfl rfl (Nat.le_of_ble_eq_true rfl) dL_law_742 ⟨by omega, by omega⟩) (fun k v H locs hw1 hP hD hS => ?_)
  refine lv_aload_n hx hb dL_law_745 rfl (lv_at hl 3 rfl) ?_
  refine w_ci hD hS hA (w_V (n := 0) (C := RX6) (T := TX6) (N := 17) (ci := 6) (q0 := 111) (As := []) (rest := [.int k]) hx hb hml hown hts hX0 hN hS hA hK hP hD hl (hM _ _ _) gL_law_X6_clearBuffer rfl hrM.1 hrM.2.1 (by decide +kernel) rfl hrM.2.2 rfl rfl rfl (Nat.le_of_ble_eq_true rfl) dL_law_746 ⟨by omega, by omega⟩) (fun b9 w H locs hw2 hP hD hS => ?_)
  obtain ⟨r1, r3⟩ := hrel k v b9 w hw1 hw2
  refine lv_icmp_eq (tgt := 1450) hx hb dL_law_749 (by decide) (fun c_1 => ?_) (fun c_1 => ?_)
  · skip
    refine W.widen (k := cells + 1) (n := slots + 6) (by omega) (by omega) ?_
    exact kk (x2 v) (u2 w) f H locs ls r3 hP hD hS (lv_sub hl [0, 1, 2, 3, 4] rfl)
  · exact absurd r1 c_1
set_option maxHeartbeats 4000000 in
set_option maxRecDepth 100000 in
theorem lo_firstError {p : Program} {l : Launch} {e : Env} {s : State} {m : MethodId} {args : Array Value} {below : List Frame} {meth : Method} {c : Code} {H : Heap} {locs : List Loc} {cells slots : Nat} {Q : State → Prop} {ls : Array Slot} {A : Nat → Prop} {G : kG} {a : Nat → Nat} {sa : Nat → Nat → Nat} {b : Nat → Nat} {o sb L i : Nat} {xs : Nat → Int32} {x : XS} {u : MS} {f : FnL} (C : lwC p l s m args c A G sb L xs) (hi : i + 3 ≤ L) (hc : cells + 1 ≤ room_1.cells ∧ slots + 6 ≤ room_1.slots) {UX UM : Type} {rmX rmM : Room} {mcX msX : Nat} {PX : Int32 → UX → Prop} {PM : Int32 → UM → Prop} {x2 : UX → XS} {u2 : UM → MS}
    (hX : ∀ sz, wMet l yX5_firstError wsX5_firstError rmX G [.ref (a 0)] (wL G a sa b o x u f) sz (kQi G PX (fun v => wL G a sa b o (x2 v) u f)) mcX msX)
    (hM : ∀ (x : XS) (f : FnL) sz, wMet l yX6_firstError wsX6_firstError rmM G [.ref (b 0)] (wL G a sa b o x u f) sz (kQi G PM (fun v => wL G a sa b o x (u2 v) f)) 0 0)
    (hrX : rmX.cells = mcX ∧ rmX.slots = msX ∧ (rmX.frames + 1 ≤ room_1.frames ∧ 8 + (1 + 11) + rmX.locals ≤ room_1.locals)) (hrM : rmM.cells = 0 ∧ rmM.slots = 0 ∧ (rmM.frames + 1 ≤ room_1.frames ∧ 8 + (2 + 11) + rmM.locals ≤ room_1.locals)) (hmc : mcX ≤ 1 ∧ msX ≤ 6)
    (hrel : ∀ k v b9 w, PX k v → PM b9 w → (k = b9) ∧ Rel (x2 v) (u2 w))
    (kk : lwK p l e s m args below meth c A G a sa b o sb i (cells + 1) (slots + 6) Q) (hP : va_P G.1 vwCl (wL G a sa b o x u f) H) (hD : va_D A (wL G a sa b o x u f)) (hS : va_S A s.heap H locs) (hl : lv_has ls 9 [(4, .int (nI i)), (0, .ref sb), (1, .ref (a 0)), (2, .ref (b 0)), (3, .ref o)]) : W p l e room_1 s m args below meth c H locs cells slots Q (F0 m 754 ls []) := by
  obtain ⟨hx, hb, hml, hown, hts, hXs, hbl, hbA, hfl, hX0, hN, hA, hK, hL⟩ := C
  refine lv_aload_n hx hb dL_law_754 rfl (lv_at hl 2 rfl) ?_
  refine w_ci hD hS hA (w_V (n := 0) (C := RX5) (T := TX5) (N := 7) (ci := 5) (q0 := 0) (As := []) (rest := []) hx hb hml hown hts hX0 hN hS hA hK hP hD hl (hX _) gL_law_X5_firstError rfl hrX.1 hrX.2.1 (by decide +kernel) rfl hrX.2.2 rfl rfl rfl (Nat.le_of_ble_eq_true rfl) dL_law_755 ⟨by omega, by omega⟩) (fun k v H locs hw1 hP hD hS => ?_)
  refine lv_aload_n hx hb dL_law_758 rfl (lv_at hl 3 rfl) ?_
  refine w_ci hD hS hA (w_V (n := 0) (C := RX6) (T := TX6) (N := 17) (ci := 6) (q0 := 111) (As := []) (rest := [.int k]) hx hb hml hown hts hX0 hN hS hA hK hP hD hl (hM _ _ _) gL_law_X6_firstError rfl hrM.1 hrM.2.1 (by decide +kernel) rfl hrM.2.2 rfl rfl rfl (Nat.le_of_ble_eq_true rfl) dL_law_759 ⟨by omega, by omega⟩) (fun b9 w H locs hw2 hP hD hS => ?_)
  obtain ⟨r1, r3⟩ := hrel k v b9 w hw1 hw2
  refine lv_icmp_eq (tgt := 1450) hx hb dL_law_762 (by decide) (fun c_1 => ?_) (fun c_1 => ?_)
  · skip
    refine W.widen (k := cells + 1) (n := slots + 6) (by omega) (by omega) ?_
    exact kk (x2 v) (u2 w) f H locs ls r3 hP hD hS (lv_sub hl [0, 1, 2, 3, 4] rfl)
  · exact absurd r1 c_1
set_option maxHeartbeats 4000000 in
set_option maxRecDepth 100000 in
theorem lo_shape {p : Program} {l : Launch} {e : Env} {s : State} {m : MethodId} {args : Array Value} {below : List Frame} {meth : Method} {c : Code} {H : Heap} {locs : List Loc} {cells slots : Nat} {Q : State → Prop} {ls : Array Slot} {A : Nat → Prop} {G : kG} {a : Nat → Nat} {sa : Nat → Nat → Nat} {b : Nat → Nat} {o sb L i : Nat} {xs : Nat → Int32} {x : XS} {u : MS} {f : FnL} (C : lwC p l s m args c A G sb L xs) (hi : i + 3 ≤ L) (hc : cells + 1 ≤ room_1.cells ∧ slots + 6 ≤ room_1.slots) {UX UM : Type} {rmX rmM : Room} {mcX msX : Nat} {PX : Int32 → UX → Prop} {PM : Int32 → UM → Prop} {x2 : UX → XS} {f2 : UX → FnL} {u2 : UM → MS}
    (hX : ∀ sz, wMet l yL_shape wsL_shape rmX G [.ref (a 0), .ref o] (wL G a sa b o x u f) sz (kQi G PX (fun v => wL G a sa b o (x2 v) u (f2 v))) mcX msX)
    (hM : ∀ (x : XS) (f : FnL) sz, wMet l yX6_shape wsX6_shape rmM G [.ref (b 0)] (wL G a sa b o x u f) sz (kQi G PM (fun v => wL G a sa b o x (u2 v) f)) 0 0)
    (hrX : rmX.cells = mcX ∧ rmX.slots = msX ∧ (rmX.frames + 1 ≤ room_1.frames ∧ 8 + (3 + 11) + rmX.locals ≤ room_1.locals)) (hrM : rmM.cells = 0 ∧ rmM.slots = 0 ∧ (rmM.frames + 1 ≤ room_1.frames ∧ 8 + (3 + 11) + rmM.locals ≤ room_1.locals)) (hmc : mcX ≤ 1 ∧ msX ≤ 6)
    (hrel : ∀ k v b9 w, PX k v → PM b9 w → nI (u2 w).1.1 = k ∧ (k = 0 → f2 v 0 = b9.toInt64) ∧ Rel (x2 v) (u2 w))
    (kk : lwK p l e s m args below meth c A G a sa b o sb i (cells + 1) (slots + 6) Q) (hP : va_P G.1 vwCl (wL G a sa b o x u f) H) (hD : va_D A (wL G a sa b o x u f)) (hS : va_S A s.heap H locs) (hl : lv_has ls 9 [(4, .int (nI i)), (0, .ref sb), (1, .ref (a 0)), (2, .ref (b 0)), (3, .ref o)]) : W p l e room_1 s m args below meth c H locs cells slots Q (F0 m 767 ls []) := by
  obtain ⟨hx, hb, hml, hown, hts, hXs, hbl, hbA, hfl, hX0, hN, hA, hK, hL⟩ := C
  refine lv_aload_n hx hb dL_law_767 rfl (lv_at hl 2 rfl) ?_
  refine lv_aload_n hx hb dL_law_768 rfl (lv_at hl 4 rfl) ?_
  refine w_ci hD hS hA (w_S (n := 2) (As := [.ref (a 0), .ref o]) (rest := []) hx hb hml hown hts hX0 hN hS hA hK hP hD hl (hX _) gL_law_L_shape rfl hrX.1 hrX.2.1 (by decide +kernel) rfl hrX.2.2 rfl (Nat.le_of_ble_eq_true rfl) dL_law_769 ⟨by omega, by omega⟩) (fun k v H locs hw1 hP hD hS => ?_)
  refine lv_istore (lv' := [(5, .int k), (4, .int (nI i)), (0, .ref sb), (1, .ref (a 0)), (2, .ref (b 0)), (3, .ref o)]) hx hb dL_law_772 hl (by decide) rfl (fun ls hl => ?_)
  refine lv_aload_n hx hb dL_law_774 rfl (lv_at hl 4 rfl) ?_
  refine w_ci hD hS hA (w_V (n := 0) (C := RX6) (T := TX6) (N := 17) (ci := 6) (q0 := 111) (As := []) (rest := []) hx hb hml hown hts hX0 hN hS hA hK hP hD hl (hM _ _ _) gL_law_X6_shape rfl hrM.1 hrM.2.1 (by decide +kernel) rfl hrM.2.2 rfl rfl rfl (Nat.le_of_ble_eq_true rfl) dL_law_775 ⟨by omega, by omega⟩) (fun b9 w H locs hw2 hP hD hS => ?_)
  refine lv_istore (lv' := [(6, .int b9), (5, .int k), (4, .int (nI i)), (0, .ref sb), (1, .ref (a 0)), (2, .ref (b 0)), (3, .ref o)]) hx hb dL_law_778 hl (by decide) rfl (fun ls hl => ?_)
  refine lv_aload_n hx hb dL_law_780 rfl (lv_at hl 5 rfl) ?_
  refine w_ci hD hS hA (w_V (n := 0) (C := RX6) (T := TX6) (N := 17) (ci := 6) (q0 := 111) (As := []) (rest := []) hx hb hml hown hts hX0 hN hS hA hK hP hD hl (l_X6_thrown l G a sa b o (x2 v) (u2 w) (f2 v) _) gL_law_X6_thrown rfl h6T.1 h6T.2.1 (by decide +kernel) rfl h6T.2.2 rfl rfl rfl (Nat.le_of_ble_eq_true rfl) dL_law_781 ⟨by omega, by omega⟩) (fun k9 w9 H locs hw3 hP hD hS => ?_)
  have hw3 : k9 = nI (u2 w).1.1 := hw3
  have hP : va_P G.1 vwCl (wL G a sa b o (x2 v) (u2 w) (f2 v)) H := hP
  have hD : va_D A (wL G a sa b o (x2 v) (u2 w) (f2 v)) := hD
  obtain ⟨r1, r2, r3⟩ := hrel k v b9 w hw1 hw2
  refine lv_iload hx hb dL_law_784 (lv_at hl 1 rfl) ?_
  refine lv_icmp_eq (tgt := 791) hx hb dL_law_786 (by decide) (fun c_1 => ?_) (fun c_1 => ?_)
  · skip
    refine lv_iload hx hb dL_law_791 (lv_at hl 1 rfl) ?_
    refine lv_if_ne (tgt := 808) hx hb dL_law_793 (by decide) (fun c_2 => ?_) (fun c_2 => ?_)
    · skip
      refine lv_goto (tgt := 1450) hx hb dL_law_808 (by decide) ?_
      refine W.widen (k := cells + 1) (n := slots + 6) (by omega) (by omega) ?_
      exact kk (x2 v) (u2 w) (f2 v) H locs ls r3 hP hD hS (lv_sub hl [2, 3, 4, 5, 6] rfl)
    · skip
      refine lv_aload_n hx hb dL_law_796 rfl (lv_at hl 6 rfl) ?_
      refine lv_iconst (v := 0) hx hb dL_law_797 (by decide) ?_
      refine g_lald0 hx hb hK hP 121 rfl dL_law_798 ?_
      refine lv_iload hx hb dL_law_799 (lv_at hl 0 rfl) ?_
      refine lv_i2l (v := b9.toInt64) hx hb dL_law_801 rfl ?_
      refine W.lcmp hx hb dL_law_802 ?_
      refine lv_if_eq (tgt := 808) hx hb dL_law_803 (by decide) (fun c_3 => ?_) (fun c_3 => ?_)
      · skip
        refine lv_goto (tgt := 1450) hx hb dL_law_808 (by decide) ?_
        refine W.widen (k := cells + 1) (n := slots + 6) (by omega) (by omega) ?_
        exact kk (x2 v) (u2 w) (f2 v) H locs ls r3 hP hD hS (lv_sub hl [2, 3, 4, 5, 6] rfl)
      · exact absurd ((lg_cmp_eq _ _).mpr (r2 c_2)) c_3
  · exact absurd (hw3.trans r1) c_1
set_option maxHeartbeats 4000000 in
set_option maxRecDepth 100000 in
theorem lo_undo {p : Program} {l : Launch} {e : Env} {s : State} {m : MethodId} {args : Array Value} {below : List Frame} {meth : Method} {c : Code} {H : Heap} {locs : List Loc} {cells slots : Nat} {Q : State → Prop} {ls : Array Slot} {A : Nat → Prop} {G : kG} {a : Nat → Nat} {sa : Nat → Nat → Nat} {b : Nat → Nat} {o sb L i : Nat} {xs : Nat → Int32} {x : XS} {u : MS} {f : FnL} (C : lwC p l s m args c A G sb L xs) (hi : i + 3 ≤ L) (hc : cells + 1 ≤ room_1.cells ∧ slots + 6 ≤ room_1.slots) {UX UM : Type} {rmX rmM : Room} {mcX msX : Nat} {PX : Int32 → UX → Prop} {PM : Int32 → UM → Prop} {x2 : UX → XS} {f2 : UX → FnL} {u2 : UM → MS}
    (hX : ∀ sz, wMet l yL_undo wsL_undo rmX G [.ref (a 0), .ref o] (wL G a sa b o x u f) sz (kQi G PX (fun v => wL G a sa b o (x2 v) u (f2 v))) mcX msX)
    (hM : ∀ (x : XS) (f : FnL) sz, wMet l yX6_undo wsX6_undo rmM G [.ref (b 0)] (wL G a sa b o x u f) sz (kQi G PM (fun v => wL G a sa b o x (u2 v) f)) 0 0)
    (hrX : rmX.cells = mcX ∧ rmX.slots = msX ∧ (rmX.frames + 1 ≤ room_1.frames ∧ 8 + (3 + 11) + rmX.locals ≤ room_1.locals)) (hrM : rmM.cells = 0 ∧ rmM.slots = 0 ∧ (rmM.frames + 1 ≤ room_1.frames ∧ 8 + (2 + 11) + rmM.locals ≤ room_1.locals)) (hmc : mcX ≤ 1 ∧ msX ≤ 6)
    (hrel : ∀ k v b9 w, PX k v → PM b9 w → nI (u2 w).1.1 = k ∧ (k = 0 → f2 v 0 = b9.toInt64) ∧ Rel (x2 v) (u2 w))
    (kk : lwK p l e s m args below meth c A G a sa b o sb i (cells + 1) (slots + 6) Q) (hP : va_P G.1 vwCl (wL G a sa b o x u f) H) (hD : va_D A (wL G a sa b o x u f)) (hS : va_S A s.heap H locs) (hl : lv_has ls 9 [(4, .int (nI i)), (0, .ref sb), (1, .ref (a 0)), (2, .ref (b 0)), (3, .ref o)]) : W p l e room_1 s m args below meth c H locs cells slots Q (F0 m 811 ls []) := by
  obtain ⟨hx, hb, hml, hown, hts, hXs, hbl, hbA, hfl, hX0, hN, hA, hK, hL⟩ := C
  refine lv_aload_n hx hb dL_law_811 rfl (lv_at hl 2 rfl) ?_
  refine lv_aload_n hx hb dL_law_812 rfl (lv_at hl 4 rfl) ?_
  refine w_ci hD hS hA (w_S (n := 2) (As := [.ref (a 0), .ref o]) (rest := []) hx hb hml hown hts hX0 hN hS hA hK hP hD hl (hX _) gL_law_L_undo rfl hrX.1 hrX.2.1 (by decide +kernel) rfl hrX.2.2 rfl (Nat.le_of_ble_eq_true rfl) dL_law_813 ⟨by omega, by omega⟩) (fun k v H locs hw1 hP hD hS => ?_)
  refine lv_istore (lv' := [(5, .int k), (4, .int (nI i)), (0, .ref sb), (1, .ref (a 0)), (2, .ref (b 0)), (3, .ref o)]) hx hb dL_law_816 hl (by decide) rfl (fun ls hl => ?_)
  refine lv_aload_n hx hb dL_law_818 rfl (lv_at hl 4 rfl) ?_
  refine w_ci hD hS hA (w_V (n := 0) (C := RX6) (T := TX6) (N := 17) (ci := 6) (q0 := 111) (As := []) (rest := []) hx hb hml hown hts hX0 hN hS hA hK hP hD hl (hM _ _ _) gL_law_X6_undo rfl hrM.1 hrM.2.1 (by decide +kernel) rfl hrM.2.2 rfl rfl rfl (Nat.le_of_ble_eq_true rfl) dL_law_819 ⟨by omega, by omega⟩) (fun b9 w H locs hw2 hP hD hS => ?_)
  refine lv_istore (lv' := [(6, .int b9), (5, .int k), (4, .int (nI i)), (0, .ref sb), (1, .ref (a 0)), (2, .ref (b 0)), (3, .ref o)]) hx hb dL_law_822 hl (by decide) rfl (fun ls hl => ?_)
  refine lv_aload_n hx hb dL_law_824 rfl (lv_at hl 5 rfl) ?_
  refine w_ci hD hS hA (w_V (n := 0) (C := RX6) (T := TX6) (N := 17) (ci := 6) (q0 := 111) (As := []) (rest := []) hx hb hml hown hts hX0 hN hS hA hK hP hD hl (l_X6_thrown l G a sa b o (x2 v) (u2 w) (f2 v) _) gL_law_X6_thrown rfl h6T.1 h6T.2.1 (by decide +kernel) rfl h6T.2.2 rfl rfl rfl (Nat.le_of_ble_eq_true rfl) dL_law_825 ⟨by omega, by omega⟩) (fun k9 w9 H locs hw3 hP hD hS => ?_)
  have hw3 : k9 = nI (u2 w).1.1 := hw3
  have hP : va_P G.1 vwCl (wL G a sa b o (x2 v) (u2 w) (f2 v)) H := hP
  have hD : va_D A (wL G a sa b o (x2 v) (u2 w) (f2 v)) := hD
  obtain ⟨r1, r2, r3⟩ := hrel k v b9 w hw1 hw2
  refine lv_iload hx hb dL_law_828 (lv_at hl 1 rfl) ?_
  refine lv_icmp_eq (tgt := 835) hx hb dL_law_830 (by decide) (fun c_1 => ?_) (fun c_1 => ?_)
  · skip
    refine lv_iload hx hb dL_law_835 (lv_at hl 1 rfl) ?_
    refine lv_if_ne (tgt := 852) hx hb dL_law_837 (by decide) (fun c_2 => ?_) (fun c_2 => ?_)
    · skip
      refine lv_goto (tgt := 1450) hx hb dL_law_852 (by decide) ?_
      refine W.widen (k := cells + 1) (n := slots + 6) (by omega) (by omega) ?_
      exact kk (x2 v) (u2 w) (f2 v) H locs ls r3 hP hD hS (lv_sub hl [2, 3, 4, 5, 6] rfl)
    · skip
      refine lv_aload_n hx hb dL_law_840 rfl (lv_at hl 6 rfl) ?_
      refine lv_iconst (v := 0) hx hb dL_law_841 (by decide) ?_
      refine g_lald0 hx hb hK hP 121 rfl dL_law_842 ?_
      refine lv_iload hx hb dL_law_843 (lv_at hl 0 rfl) ?_
      refine lv_i2l (v := b9.toInt64) hx hb dL_law_845 rfl ?_
      refine W.lcmp hx hb dL_law_846 ?_
      refine lv_if_eq (tgt := 852) hx hb dL_law_847 (by decide) (fun c_3 => ?_) (fun c_3 => ?_)
      · skip
        refine lv_goto (tgt := 1450) hx hb dL_law_852 (by decide) ?_
        refine W.widen (k := cells + 1) (n := slots + 6) (by omega) (by omega) ?_
        exact kk (x2 v) (u2 w) (f2 v) H locs ls r3 hP hD hS (lv_sub hl [2, 3, 4, 5, 6] rfl)
      · exact absurd ((lg_cmp_eq _ _).mpr (r2 c_2)) c_3
  · exact absurd (hw3.trans r1) c_1
set_option maxHeartbeats 4000000 in
set_option maxRecDepth 100000 in
theorem lo_linkOf {p : Program} {l : Launch} {e : Env} {s : State} {m : MethodId} {args : Array Value} {below : List Frame} {meth : Method} {c : Code} {H : Heap} {locs : List Loc} {cells slots : Nat} {Q : State → Prop} {ls : Array Slot} {A : Nat → Prop} {G : kG} {a : Nat → Nat} {sa : Nat → Nat → Nat} {b : Nat → Nat} {o sb L i : Nat} {xs : Nat → Int32} {x : XS} {u : MS} {f : FnL} {v1 : Int32} {v2 : Int32} (C : lwC p l s m args c A G sb L xs) (hi : i + 3 ≤ L) (hc : cells + 1 ≤ room_1.cells ∧ slots + 6 ≤ room_1.slots) (hv1 : xs (i + 1) = v1) (hv2 : xs (i + 2) = v2) {UX UM : Type} {rmX rmM : Room} {mcX msX : Nat} {PX : Int32 → UX → Prop} {PM : Int32 → UM → Prop} {x2 : UX → XS} {f2 : UX → FnL} {u2 : UM → MS}
    (hX : ∀ sz, wMet l yL_linkOf wsL_linkOf rmX G [.ref (a 0), .int v1, .int v2, .ref o] (wL G a sa b o x u f) sz (kQi G PX (fun v => wL G a sa b o (x2 v) u (f2 v))) mcX msX)
    (hM : ∀ (x : XS) (f : FnL) sz, wMet l yX6_linkOf wsX6_linkOf rmM G [.ref (b 0), .int v1, .int v2] (wL G a sa b o x u f) sz (kQi G PM (fun v => wL G a sa b o x (u2 v) f)) 0 0)
    (hrX : rmX.cells = mcX ∧ rmX.slots = msX ∧ (rmX.frames + 1 ≤ room_1.frames ∧ 8 + (5 + 11) + rmX.locals ≤ room_1.locals)) (hrM : rmM.cells = 0 ∧ rmM.slots = 0 ∧ (rmM.frames + 1 ≤ room_1.frames ∧ 8 + (3 + 11) + rmM.locals ≤ room_1.locals)) (hmc : mcX ≤ 1 ∧ msX ≤ 6)
    (hrel : ∀ k v b9 w, PX k v → PM b9 w → nI (u2 w).1.1 = k ∧ (k = 0 → f2 v 0 = b9.toInt64) ∧ Rel (x2 v) (u2 w))
    (kk : lwK p l e s m args below meth c A G a sa b o sb i (cells + 1) (slots + 6) Q) (hP : va_P G.1 vwCl (wL G a sa b o x u f) H) (hD : va_D A (wL G a sa b o x u f)) (hS : va_S A s.heap H locs) (hl : lv_has ls 9 [(4, .int (nI i)), (0, .ref sb), (1, .ref (a 0)), (2, .ref (b 0)), (3, .ref o)]) : W p l e room_1 s m args below meth c H locs cells slots Q (F0 m 855 ls []) := by
  subst hv1
  subst hv2
  obtain ⟨hx, hb, hml, hown, hts, hXs, hbl, hbA, hfl, hX0, hN, hA, hK, hL⟩ := C
  refine lv_aload_n hx hb dL_law_855 rfl (lv_at hl 2 rfl) ?_
  refine lv_aload_n hx hb dL_law_856 rfl (lv_at hl 1 rfl) ?_
  refine lv_iload hx hb dL_law_857 (lv_at hl 0 rfl) ?_
  refine lv_iconst (v := 1) hx hb dL_law_859 (by decide) ?_
  refine lv_iadd hx hb dL_law_860 ?_
  refine g_ti (y := nI (i + 1)) (nI_add i 1) ?_
  refine g_sld hx hb hXs hbl hbA hS (k := i + 1) (by omega) hL dL_law_861 ?_
  refine lv_aload_n hx hb dL_law_862 rfl (lv_at hl 1 rfl) ?_
  refine lv_iload hx hb dL_law_863 (lv_at hl 0 rfl) ?_
  refine lv_iconst (v := 2) hx hb dL_law_865 (by decide) ?_
  refine lv_iadd hx hb dL_law_866 ?_
  refine g_ti (y := nI (i + 2)) (nI_add i 2) ?_
  refine g_sld hx hb hXs hbl hbA hS (k := i + 2) (by omega) hL dL_law_867 ?_
  refine lv_aload_n hx hb dL_law_868 rfl (lv_at hl 4 rfl) ?_
  refine w_ci hD hS hA (w_S (n := 4) (As := [.ref (a 0), .int (xs (i + 1)), .int (xs (i + 2)), .ref o]) (rest := []) hx hb hml hown hts hX0 hN hS hA hK hP hD hl (hX _) gL_law_L_linkOf rfl hrX.1 hrX.2.1 (by decide +kernel) rfl hrX.2.2 rfl (Nat.le_of_ble_eq_true rfl) dL_law_869 ⟨by omega, by omega⟩) (fun k v H locs hw1 hP hD hS => ?_)
  refine lv_istore (lv' := [(5, .int k), (4, .int (nI i)), (0, .ref sb), (1, .ref (a 0)), (2, .ref (b 0)), (3, .ref o)]) hx hb dL_law_872 hl (by decide) rfl (fun ls hl => ?_)
  refine lv_aload_n hx hb dL_law_874 rfl (lv_at hl 4 rfl) ?_
  refine lv_aload_n hx hb dL_law_875 rfl (lv_at hl 2 rfl) ?_
  refine lv_iload hx hb dL_law_876 (lv_at hl 1 rfl) ?_
  refine lv_iconst (v := 1) hx hb dL_law_878 (by decide) ?_
  refine lv_iadd hx hb dL_law_879 ?_
  refine g_ti (y := nI (i + 1)) (nI_add i 1) ?_
  refine g_sld hx hb hXs hbl hbA hS (k := i + 1) (by omega) hL dL_law_880 ?_
  refine lv_aload_n hx hb dL_law_881 rfl (lv_at hl 2 rfl) ?_
  refine lv_iload hx hb dL_law_882 (lv_at hl 1 rfl) ?_
  refine lv_iconst (v := 2) hx hb dL_law_884 (by decide) ?_
  refine lv_iadd hx hb dL_law_885 ?_
  refine g_ti (y := nI (i + 2)) (nI_add i 2) ?_
  refine g_sld hx hb hXs hbl hbA hS (k := i + 2) (by omega) hL dL_law_886 ?_
  refine w_ci hD hS hA (w_V (n := 2) (C := RX6) (T := TX6) (N := 17) (ci := 6) (q0 := 111) (As := [.int (xs (i + 1)), .int (xs (i + 2))]) (rest := []) hx hb hml hown hts hX0 hN hS hA hK hP hD hl (hM _ _ _) gL_law_X6_linkOf rfl hrM.1 hrM.2.1 (by decide +kernel) rfl hrM.2.2 rfl rfl rfl (Nat.le_of_ble_eq_true rfl) dL_law_887 ⟨by omega, by omega⟩) (fun b9 w H locs hw2 hP hD hS => ?_)
  refine lv_istore (lv' := [(6, .int b9), (5, .int k), (4, .int (nI i)), (0, .ref sb), (1, .ref (a 0)), (2, .ref (b 0)), (3, .ref o)]) hx hb dL_law_890 hl (by decide) rfl (fun ls hl => ?_)
  refine lv_aload_n hx hb dL_law_892 rfl (lv_at hl 5 rfl) ?_
  refine w_ci hD hS hA (w_V (n := 0) (C := RX6) (T := TX6) (N := 17) (ci := 6) (q0 := 111) (As := []) (rest := []) hx hb hml hown hts hX0 hN hS hA hK hP hD hl (l_X6_thrown l G a sa b o (x2 v) (u2 w) (f2 v) _) gL_law_X6_thrown rfl h6T.1 h6T.2.1 (by decide +kernel) rfl h6T.2.2 rfl rfl rfl (Nat.le_of_ble_eq_true rfl) dL_law_893 ⟨by omega, by omega⟩) (fun k9 w9 H locs hw3 hP hD hS => ?_)
  have hw3 : k9 = nI (u2 w).1.1 := hw3
  have hP : va_P G.1 vwCl (wL G a sa b o (x2 v) (u2 w) (f2 v)) H := hP
  have hD : va_D A (wL G a sa b o (x2 v) (u2 w) (f2 v)) := hD
  obtain ⟨r1, r2, r3⟩ := hrel k v b9 w hw1 hw2
  refine lv_iload hx hb dL_law_896 (lv_at hl 1 rfl) ?_
  refine lv_icmp_eq (tgt := 903) hx hb dL_law_898 (by decide) (fun c_1 => ?_) (fun c_1 => ?_)
  · skip
    refine lv_iload hx hb dL_law_903 (lv_at hl 1 rfl) ?_
    refine lv_if_ne (tgt := 920) hx hb dL_law_905 (by decide) (fun c_2 => ?_) (fun c_2 => ?_)
    · skip
      refine lv_goto (tgt := 1450) hx hb dL_law_920 (by decide) ?_
      refine W.widen (k := cells + 1) (n := slots + 6) (by omega) (by omega) ?_
      exact kk (x2 v) (u2 w) (f2 v) H locs ls r3 hP hD hS (lv_sub hl [2, 3, 4, 5, 6] rfl)
    · skip
      refine lv_aload_n hx hb dL_law_908 rfl (lv_at hl 6 rfl) ?_
      refine lv_iconst (v := 0) hx hb dL_law_909 (by decide) ?_
      refine g_lald0 hx hb hK hP 121 rfl dL_law_910 ?_
      refine lv_iload hx hb dL_law_911 (lv_at hl 0 rfl) ?_
      refine lv_i2l (v := b9.toInt64) hx hb dL_law_913 rfl ?_
      refine W.lcmp hx hb dL_law_914 ?_
      refine lv_if_eq (tgt := 920) hx hb dL_law_915 (by decide) (fun c_3 => ?_) (fun c_3 => ?_)
      · skip
        refine lv_goto (tgt := 1450) hx hb dL_law_920 (by decide) ?_
        refine W.widen (k := cells + 1) (n := slots + 6) (by omega) (by omega) ?_
        exact kk (x2 v) (u2 w) (f2 v) H locs ls r3 hP hD hS (lv_sub hl [2, 3, 4, 5, 6] rfl)
      · exact absurd ((lg_cmp_eq _ _).mpr (r2 c_2)) c_3
  · exact absurd (hw3.trans r1) c_1
set_option maxHeartbeats 4000000 in
set_option maxRecDepth 100000 in
theorem lo_joint {p : Program} {l : Launch} {e : Env} {s : State} {m : MethodId} {args : Array Value} {below : List Frame} {meth : Method} {c : Code} {H : Heap} {locs : List Loc} {cells slots : Nat} {Q : State → Prop} {ls : Array Slot} {A : Nat → Prop} {G : kG} {a : Nat → Nat} {sa : Nat → Nat → Nat} {b : Nat → Nat} {o sb L i : Nat} {xs : Nat → Int32} {x : XS} {u : MS} {f : FnL} {v1 : Int32} {v2 : Int32} (C : lwC p l s m args c A G sb L xs) (hi : i + 3 ≤ L) (hc : cells + 1 ≤ room_1.cells ∧ slots + 6 ≤ room_1.slots) (hv1 : xs (i + 1) = v1) (hv2 : xs (i + 2) = v2) {UX UM : Type} {rmX rmM : Room} {mcX msX : Nat} {PX : Int32 → UX → Prop} {PM : Int32 → UM → Prop} {x2 : UX → XS} {f2 : UX → FnL} {u2 : UM → MS}
    (hX : ∀ sz, wMet l yL_joint wsL_joint rmX G [.ref (a 0), .int v1, .int v2, .ref o] (wL G a sa b o x u f) sz (kQi G PX (fun v => wL G a sa b o (x2 v) u (f2 v))) mcX msX)
    (hM : ∀ (x : XS) (f : FnL) sz, wMet l yX6_joint wsX6_joint rmM G [.ref (b 0), .int v1, .int v2] (wL G a sa b o x u f) sz (kQi G PM (fun v => wL G a sa b o x (u2 v) f)) 0 0)
    (hrX : rmX.cells = mcX ∧ rmX.slots = msX ∧ (rmX.frames + 1 ≤ room_1.frames ∧ 8 + (5 + 11) + rmX.locals ≤ room_1.locals)) (hrM : rmM.cells = 0 ∧ rmM.slots = 0 ∧ (rmM.frames + 1 ≤ room_1.frames ∧ 8 + (3 + 11) + rmM.locals ≤ room_1.locals)) (hmc : mcX ≤ 1 ∧ msX ≤ 6)
    (hrel : ∀ k v b9 w, PX k v → PM b9 w → nI (u2 w).1.1 = k ∧ (k = 0 → f2 v 0 = b9.toInt64) ∧ Rel (x2 v) (u2 w))
    (kk : lwK p l e s m args below meth c A G a sa b o sb i (cells + 1) (slots + 6) Q) (hP : va_P G.1 vwCl (wL G a sa b o x u f) H) (hD : va_D A (wL G a sa b o x u f)) (hS : va_S A s.heap H locs) (hl : lv_has ls 9 [(4, .int (nI i)), (0, .ref sb), (1, .ref (a 0)), (2, .ref (b 0)), (3, .ref o)]) : W p l e room_1 s m args below meth c H locs cells slots Q (F0 m 923 ls []) := by
  subst hv1
  subst hv2
  obtain ⟨hx, hb, hml, hown, hts, hXs, hbl, hbA, hfl, hX0, hN, hA, hK, hL⟩ := C
  refine lv_aload_n hx hb dL_law_923 rfl (lv_at hl 2 rfl) ?_
  refine lv_aload_n hx hb dL_law_924 rfl (lv_at hl 1 rfl) ?_
  refine lv_iload hx hb dL_law_925 (lv_at hl 0 rfl) ?_
  refine lv_iconst (v := 1) hx hb dL_law_927 (by decide) ?_
  refine lv_iadd hx hb dL_law_928 ?_
  refine g_ti (y := nI (i + 1)) (nI_add i 1) ?_
  refine g_sld hx hb hXs hbl hbA hS (k := i + 1) (by omega) hL dL_law_929 ?_
  refine lv_aload_n hx hb dL_law_930 rfl (lv_at hl 1 rfl) ?_
  refine lv_iload hx hb dL_law_931 (lv_at hl 0 rfl) ?_
  refine lv_iconst (v := 2) hx hb dL_law_933 (by decide) ?_
  refine lv_iadd hx hb dL_law_934 ?_
  refine g_ti (y := nI (i + 2)) (nI_add i 2) ?_
  refine g_sld hx hb hXs hbl hbA hS (k := i + 2) (by omega) hL dL_law_935 ?_
  refine lv_aload_n hx hb dL_law_936 rfl (lv_at hl 4 rfl) ?_
  refine w_ci hD hS hA (w_S (n := 4) (As := [.ref (a 0), .int (xs (i + 1)), .int (xs (i + 2)), .ref o]) (rest := []) hx hb hml hown hts hX0 hN hS hA hK hP hD hl (hX _) gL_law_L_joint rfl hrX.1 hrX.2.1 (by decide +kernel) rfl hrX.2.2 rfl (Nat.le_of_ble_eq_true rfl) dL_law_937 ⟨by omega, by omega⟩) (fun k v H locs hw1 hP hD hS => ?_)
  refine lv_istore (lv' := [(5, .int k), (4, .int (nI i)), (0, .ref sb), (1, .ref (a 0)), (2, .ref (b 0)), (3, .ref o)]) hx hb dL_law_940 hl (by decide) rfl (fun ls hl => ?_)
  refine lv_aload_n hx hb dL_law_942 rfl (lv_at hl 4 rfl) ?_
  refine lv_aload_n hx hb dL_law_943 rfl (lv_at hl 2 rfl) ?_
  refine lv_iload hx hb dL_law_944 (lv_at hl 1 rfl) ?_
  refine lv_iconst (v := 1) hx hb dL_law_946 (by decide) ?_
  refine lv_iadd hx hb dL_law_947 ?_
  refine g_ti (y := nI (i + 1)) (nI_add i 1) ?_
  refine g_sld hx hb hXs hbl hbA hS (k := i + 1) (by omega) hL dL_law_948 ?_
  refine lv_aload_n hx hb dL_law_949 rfl (lv_at hl 2 rfl) ?_
  refine lv_iload hx hb dL_law_950 (lv_at hl 1 rfl) ?_
  refine lv_iconst (v := 2) hx hb dL_law_952 (by decide) ?_
  refine lv_iadd hx hb dL_law_953 ?_
  refine g_ti (y := nI (i + 2)) (nI_add i 2) ?_
  refine g_sld hx hb hXs hbl hbA hS (k := i + 2) (by omega) hL dL_law_954 ?_
  refine w_ci hD hS hA (w_V (n := 2) (C := RX6) (T := TX6) (N := 17) (ci := 6) (q0 := 111) (As := [.int (xs (i + 1)), .int (xs (i + 2))]) (rest := []) hx hb hml hown hts hX0 hN hS hA hK hP hD hl (hM _ _ _) gL_law_X6_joint rfl hrM.1 hrM.2.1 (by decide +kernel) rfl hrM.2.2 rfl rfl rfl (Nat.le_of_ble_eq_true rfl) dL_law_955 ⟨by omega, by omega⟩) (fun b9 w H locs hw2 hP hD hS => ?_)
  refine lv_istore (lv' := [(6, .int b9), (5, .int k), (4, .int (nI i)), (0, .ref sb), (1, .ref (a 0)), (2, .ref (b 0)), (3, .ref o)]) hx hb dL_law_958 hl (by decide) rfl (fun ls hl => ?_)
  refine lv_aload_n hx hb dL_law_960 rfl (lv_at hl 5 rfl) ?_
  refine w_ci hD hS hA (w_V (n := 0) (C := RX6) (T := TX6) (N := 17) (ci := 6) (q0 := 111) (As := []) (rest := []) hx hb hml hown hts hX0 hN hS hA hK hP hD hl (l_X6_thrown l G a sa b o (x2 v) (u2 w) (f2 v) _) gL_law_X6_thrown rfl h6T.1 h6T.2.1 (by decide +kernel) rfl h6T.2.2 rfl rfl rfl (Nat.le_of_ble_eq_true rfl) dL_law_961 ⟨by omega, by omega⟩) (fun k9 w9 H locs hw3 hP hD hS => ?_)
  have hw3 : k9 = nI (u2 w).1.1 := hw3
  have hP : va_P G.1 vwCl (wL G a sa b o (x2 v) (u2 w) (f2 v)) H := hP
  have hD : va_D A (wL G a sa b o (x2 v) (u2 w) (f2 v)) := hD
  obtain ⟨r1, r2, r3⟩ := hrel k v b9 w hw1 hw2
  refine lv_iload hx hb dL_law_964 (lv_at hl 1 rfl) ?_
  refine lv_icmp_eq (tgt := 971) hx hb dL_law_966 (by decide) (fun c_1 => ?_) (fun c_1 => ?_)
  · skip
    refine lv_iload hx hb dL_law_971 (lv_at hl 1 rfl) ?_
    refine lv_if_ne (tgt := 988) hx hb dL_law_973 (by decide) (fun c_2 => ?_) (fun c_2 => ?_)
    · skip
      refine lv_goto (tgt := 1450) hx hb dL_law_988 (by decide) ?_
      refine W.widen (k := cells + 1) (n := slots + 6) (by omega) (by omega) ?_
      exact kk (x2 v) (u2 w) (f2 v) H locs ls r3 hP hD hS (lv_sub hl [2, 3, 4, 5, 6] rfl)
    · skip
      refine lv_aload_n hx hb dL_law_976 rfl (lv_at hl 6 rfl) ?_
      refine lv_iconst (v := 0) hx hb dL_law_977 (by decide) ?_
      refine g_lald0 hx hb hK hP 121 rfl dL_law_978 ?_
      refine lv_iload hx hb dL_law_979 (lv_at hl 0 rfl) ?_
      refine lv_i2l (v := b9.toInt64) hx hb dL_law_981 rfl ?_
      refine W.lcmp hx hb dL_law_982 ?_
      refine lv_if_eq (tgt := 988) hx hb dL_law_983 (by decide) (fun c_3 => ?_) (fun c_3 => ?_)
      · skip
        refine lv_goto (tgt := 1450) hx hb dL_law_988 (by decide) ?_
        refine W.widen (k := cells + 1) (n := slots + 6) (by omega) (by omega) ?_
        exact kk (x2 v) (u2 w) (f2 v) H locs ls r3 hP hD hS (lv_sub hl [2, 3, 4, 5, 6] rfl)
      · exact absurd ((lg_cmp_eq _ _).mpr (r2 c_2)) c_3
  · exact absurd (hw3.trans r1) c_1
set_option maxHeartbeats 4000000 in
set_option maxRecDepth 100000 in
theorem lo_count {p : Program} {l : Launch} {e : Env} {s : State} {m : MethodId} {args : Array Value} {below : List Frame} {meth : Method} {c : Code} {H : Heap} {locs : List Loc} {cells slots : Nat} {Q : State → Prop} {ls : Array Slot} {A : Nat → Prop} {G : kG} {a : Nat → Nat} {sa : Nat → Nat → Nat} {b : Nat → Nat} {o sb L i : Nat} {xs : Nat → Int32} {x : XS} {u : MS} {f : FnL} {v1 : Int32} (C : lwC p l s m args c A G sb L xs) (hi : i + 3 ≤ L) (hc : cells + 1 ≤ room_1.cells ∧ slots + 6 ≤ room_1.slots) (hv1 : xs (i + 1) = v1) {UX UM : Type} {rmX rmM : Room} {mcX msX : Nat} {PX : Int32 → UX → Prop} {PM : Int32 → UM → Prop} {x2 : UX → XS} {f2 : UX → FnL} {u2 : UM → MS}
    (hX : ∀ sz, wMet l yL_count wsL_count rmX G [.ref (a 0), .int v1, .ref o] (wL G a sa b o x u f) sz (kQi G PX (fun v => wL G a sa b o (x2 v) u (f2 v))) mcX msX)
    (hM : ∀ (x : XS) (f : FnL) sz, wMet l yX6_count wsX6_count rmM G [.ref (b 0), .int v1] (wL G a sa b o x u f) sz (kQi G PM (fun v => wL G a sa b o x (u2 v) f)) 0 0)
    (hrX : rmX.cells = mcX ∧ rmX.slots = msX ∧ (rmX.frames + 1 ≤ room_1.frames ∧ 8 + (4 + 11) + rmX.locals ≤ room_1.locals)) (hrM : rmM.cells = 0 ∧ rmM.slots = 0 ∧ (rmM.frames + 1 ≤ room_1.frames ∧ 8 + (2 + 11) + rmM.locals ≤ room_1.locals)) (hmc : mcX ≤ 1 ∧ msX ≤ 6)
    (hrel : ∀ k v b9 w, PX k v → PM b9 w → nI (u2 w).1.1 = k ∧ (k = 0 → f2 v 0 = b9.toInt64) ∧ Rel (x2 v) (u2 w))
    (kk : lwK p l e s m args below meth c A G a sa b o sb i (cells + 1) (slots + 6) Q) (hP : va_P G.1 vwCl (wL G a sa b o x u f) H) (hD : va_D A (wL G a sa b o x u f)) (hS : va_S A s.heap H locs) (hl : lv_has ls 9 [(4, .int (nI i)), (0, .ref sb), (1, .ref (a 0)), (2, .ref (b 0)), (3, .ref o)]) : W p l e room_1 s m args below meth c H locs cells slots Q (F0 m 991 ls []) := by
  subst hv1
  obtain ⟨hx, hb, hml, hown, hts, hXs, hbl, hbA, hfl, hX0, hN, hA, hK, hL⟩ := C
  refine lv_aload_n hx hb dL_law_991 rfl (lv_at hl 2 rfl) ?_
  refine lv_aload_n hx hb dL_law_992 rfl (lv_at hl 1 rfl) ?_
  refine lv_iload hx hb dL_law_993 (lv_at hl 0 rfl) ?_
  refine lv_iconst (v := 1) hx hb dL_law_995 (by decide) ?_
  refine lv_iadd hx hb dL_law_996 ?_
  refine g_ti (y := nI (i + 1)) (nI_add i 1) ?_
  refine g_sld hx hb hXs hbl hbA hS (k := i + 1) (by omega) hL dL_law_997 ?_
  refine lv_aload_n hx hb dL_law_998 rfl (lv_at hl 4 rfl) ?_
  refine w_ci hD hS hA (w_S (n := 3) (As := [.ref (a 0), .int (xs (i + 1)), .ref o]) (rest := []) hx hb hml hown hts hX0 hN hS hA hK hP hD hl (hX _) gL_law_L_count rfl hrX.1 hrX.2.1 (by decide +kernel) rfl hrX.2.2 rfl (Nat.le_of_ble_eq_true rfl) dL_law_999 ⟨by omega, by omega⟩) (fun k v H locs hw1 hP hD hS => ?_)
  refine lv_istore (lv' := [(5, .int k), (4, .int (nI i)), (0, .ref sb), (1, .ref (a 0)), (2, .ref (b 0)), (3, .ref o)]) hx hb dL_law_1002 hl (by decide) rfl (fun ls hl => ?_)
  refine lv_aload_n hx hb dL_law_1004 rfl (lv_at hl 4 rfl) ?_
  refine lv_aload_n hx hb dL_law_1005 rfl (lv_at hl 2 rfl) ?_
  refine lv_iload hx hb dL_law_1006 (lv_at hl 1 rfl) ?_
  refine lv_iconst (v := 1) hx hb dL_law_1008 (by decide) ?_
  refine lv_iadd hx hb dL_law_1009 ?_
  refine g_ti (y := nI (i + 1)) (nI_add i 1) ?_
  refine g_sld hx hb hXs hbl hbA hS (k := i + 1) (by omega) hL dL_law_1010 ?_
  refine w_ci hD hS hA (w_V (n := 1) (C := RX6) (T := TX6) (N := 17) (ci := 6) (q0 := 111) (As := [.int (xs (i + 1))]) (rest := []) hx hb hml hown hts hX0 hN hS hA hK hP hD hl (hM _ _ _) gL_law_X6_count rfl hrM.1 hrM.2.1 (by decide +kernel) rfl hrM.2.2 rfl rfl rfl (Nat.le_of_ble_eq_true rfl) dL_law_1011 ⟨by omega, by omega⟩) (fun b9 w H locs hw2 hP hD hS => ?_)
  refine lv_istore (lv' := [(6, .int b9), (5, .int k), (4, .int (nI i)), (0, .ref sb), (1, .ref (a 0)), (2, .ref (b 0)), (3, .ref o)]) hx hb dL_law_1014 hl (by decide) rfl (fun ls hl => ?_)
  refine lv_aload_n hx hb dL_law_1016 rfl (lv_at hl 5 rfl) ?_
  refine w_ci hD hS hA (w_V (n := 0) (C := RX6) (T := TX6) (N := 17) (ci := 6) (q0 := 111) (As := []) (rest := []) hx hb hml hown hts hX0 hN hS hA hK hP hD hl (l_X6_thrown l G a sa b o (x2 v) (u2 w) (f2 v) _) gL_law_X6_thrown rfl h6T.1 h6T.2.1 (by decide +kernel) rfl h6T.2.2 rfl rfl rfl (Nat.le_of_ble_eq_true rfl) dL_law_1017 ⟨by omega, by omega⟩) (fun k9 w9 H locs hw3 hP hD hS => ?_)
  have hw3 : k9 = nI (u2 w).1.1 := hw3
  have hP : va_P G.1 vwCl (wL G a sa b o (x2 v) (u2 w) (f2 v)) H := hP
  have hD : va_D A (wL G a sa b o (x2 v) (u2 w) (f2 v)) := hD
  obtain ⟨r1, r2, r3⟩ := hrel k v b9 w hw1 hw2
  refine lv_iload hx hb dL_law_1020 (lv_at hl 1 rfl) ?_
  refine lv_icmp_eq (tgt := 1027) hx hb dL_law_1022 (by decide) (fun c_1 => ?_) (fun c_1 => ?_)
  · skip
    refine lv_iload hx hb dL_law_1027 (lv_at hl 1 rfl) ?_
    refine lv_if_ne (tgt := 1044) hx hb dL_law_1029 (by decide) (fun c_2 => ?_) (fun c_2 => ?_)
    · skip
      refine lv_goto (tgt := 1450) hx hb dL_law_1044 (by decide) ?_
      refine W.widen (k := cells + 1) (n := slots + 6) (by omega) (by omega) ?_
      exact kk (x2 v) (u2 w) (f2 v) H locs ls r3 hP hD hS (lv_sub hl [2, 3, 4, 5, 6] rfl)
    · skip
      refine lv_aload_n hx hb dL_law_1032 rfl (lv_at hl 6 rfl) ?_
      refine lv_iconst (v := 0) hx hb dL_law_1033 (by decide) ?_
      refine g_lald0 hx hb hK hP 121 rfl dL_law_1034 ?_
      refine lv_iload hx hb dL_law_1035 (lv_at hl 0 rfl) ?_
      refine lv_i2l (v := b9.toInt64) hx hb dL_law_1037 rfl ?_
      refine W.lcmp hx hb dL_law_1038 ?_
      refine lv_if_eq (tgt := 1044) hx hb dL_law_1039 (by decide) (fun c_3 => ?_) (fun c_3 => ?_)
      · skip
        refine lv_goto (tgt := 1450) hx hb dL_law_1044 (by decide) ?_
        refine W.widen (k := cells + 1) (n := slots + 6) (by omega) (by omega) ?_
        exact kk (x2 v) (u2 w) (f2 v) H locs ls r3 hP hD hS (lv_sub hl [2, 3, 4, 5, 6] rfl)
      · exact absurd ((lg_cmp_eq _ _).mpr (r2 c_2)) c_3
  · exact absurd (hw3.trans r1) c_1
set_option maxHeartbeats 4000000 in
set_option maxRecDepth 100000 in
theorem lo_setting {p : Program} {l : Launch} {e : Env} {s : State} {m : MethodId} {args : Array Value} {below : List Frame} {meth : Method} {c : Code} {H : Heap} {locs : List Loc} {cells slots : Nat} {Q : State → Prop} {ls : Array Slot} {A : Nat → Prop} {G : kG} {a : Nat → Nat} {sa : Nat → Nat → Nat} {b : Nat → Nat} {o sb L i : Nat} {xs : Nat → Int32} {x : XS} {u : MS} {f : FnL} {v1 : Int32} (C : lwC p l s m args c A G sb L xs) (hi : i + 3 ≤ L) (hc : cells + 1 ≤ room_1.cells ∧ slots + 6 ≤ room_1.slots) (hv1 : xs (i + 1) = v1) {UX UM : Type} {rmX rmM : Room} {mcX msX : Nat} {PX : Int32 → UX → Prop} {PM : Int32 → UM → Prop} {x2 : UX → XS} {f2 : UX → FnL} {u2 : UM → MS}
    (hX : ∀ sz, wMet l yL_setting wsL_setting rmX G [.ref (a 0), .int v1, .ref o] (wL G a sa b o x u f) sz (kQi G PX (fun v => wL G a sa b o (x2 v) u (f2 v))) mcX msX)
    (hM : ∀ (x : XS) (f : FnL) sz, wMet l yX6_setting wsX6_setting rmM G [.ref (b 0), .int v1] (wL G a sa b o x u f) sz (kQi G PM (fun v => wL G a sa b o x (u2 v) f)) 0 0)
    (hrX : rmX.cells = mcX ∧ rmX.slots = msX ∧ (rmX.frames + 1 ≤ room_1.frames ∧ 8 + (4 + 11) + rmX.locals ≤ room_1.locals)) (hrM : rmM.cells = 0 ∧ rmM.slots = 0 ∧ (rmM.frames + 1 ≤ room_1.frames ∧ 8 + (2 + 11) + rmM.locals ≤ room_1.locals)) (hmc : mcX ≤ 1 ∧ msX ≤ 6)
    (hrel : ∀ k v b9 w, PX k v → PM b9 w → nI (u2 w).1.1 = k ∧ (k = 0 → f2 v 0 = b9.toInt64) ∧ Rel (x2 v) (u2 w))
    (kk : lwK p l e s m args below meth c A G a sa b o sb i (cells + 1) (slots + 6) Q) (hP : va_P G.1 vwCl (wL G a sa b o x u f) H) (hD : va_D A (wL G a sa b o x u f)) (hS : va_S A s.heap H locs) (hl : lv_has ls 9 [(4, .int (nI i)), (0, .ref sb), (1, .ref (a 0)), (2, .ref (b 0)), (3, .ref o)]) : W p l e room_1 s m args below meth c H locs cells slots Q (F0 m 1047 ls []) := by
  subst hv1
  obtain ⟨hx, hb, hml, hown, hts, hXs, hbl, hbA, hfl, hX0, hN, hA, hK, hL⟩ := C
  refine lv_aload_n hx hb dL_law_1047 rfl (lv_at hl 2 rfl) ?_
  refine lv_aload_n hx hb dL_law_1048 rfl (lv_at hl 1 rfl) ?_
  refine lv_iload hx hb dL_law_1049 (lv_at hl 0 rfl) ?_
  refine lv_iconst (v := 1) hx hb dL_law_1051 (by decide) ?_
  refine lv_iadd hx hb dL_law_1052 ?_
  refine g_ti (y := nI (i + 1)) (nI_add i 1) ?_
  refine g_sld hx hb hXs hbl hbA hS (k := i + 1) (by omega) hL dL_law_1053 ?_
  refine lv_aload_n hx hb dL_law_1054 rfl (lv_at hl 4 rfl) ?_
  refine w_ci hD hS hA (w_S (n := 3) (As := [.ref (a 0), .int (xs (i + 1)), .ref o]) (rest := []) hx hb hml hown hts hX0 hN hS hA hK hP hD hl (hX _) gL_law_L_setting rfl hrX.1 hrX.2.1 (by decide +kernel) rfl hrX.2.2 rfl (Nat.le_of_ble_eq_true rfl) dL_law_1055 ⟨by omega, by omega⟩) (fun k v H locs hw1 hP hD hS => ?_)
  refine lv_istore (lv' := [(5, .int k), (4, .int (nI i)), (0, .ref sb), (1, .ref (a 0)), (2, .ref (b 0)), (3, .ref o)]) hx hb dL_law_1058 hl (by decide) rfl (fun ls hl => ?_)
  refine lv_aload_n hx hb dL_law_1060 rfl (lv_at hl 4 rfl) ?_
  refine lv_aload_n hx hb dL_law_1061 rfl (lv_at hl 2 rfl) ?_
  refine lv_iload hx hb dL_law_1062 (lv_at hl 1 rfl) ?_
  refine lv_iconst (v := 1) hx hb dL_law_1064 (by decide) ?_
  refine lv_iadd hx hb dL_law_1065 ?_
  refine g_ti (y := nI (i + 1)) (nI_add i 1) ?_
  refine g_sld hx hb hXs hbl hbA hS (k := i + 1) (by omega) hL dL_law_1066 ?_
  refine w_ci hD hS hA (w_V (n := 1) (C := RX6) (T := TX6) (N := 17) (ci := 6) (q0 := 111) (As := [.int (xs (i + 1))]) (rest := []) hx hb hml hown hts hX0 hN hS hA hK hP hD hl (hM _ _ _) gL_law_X6_setting rfl hrM.1 hrM.2.1 (by decide +kernel) rfl hrM.2.2 rfl rfl rfl (Nat.le_of_ble_eq_true rfl) dL_law_1067 ⟨by omega, by omega⟩) (fun b9 w H locs hw2 hP hD hS => ?_)
  refine lv_istore (lv' := [(6, .int b9), (5, .int k), (4, .int (nI i)), (0, .ref sb), (1, .ref (a 0)), (2, .ref (b 0)), (3, .ref o)]) hx hb dL_law_1070 hl (by decide) rfl (fun ls hl => ?_)
  refine lv_aload_n hx hb dL_law_1072 rfl (lv_at hl 5 rfl) ?_
  refine w_ci hD hS hA (w_V (n := 0) (C := RX6) (T := TX6) (N := 17) (ci := 6) (q0 := 111) (As := []) (rest := []) hx hb hml hown hts hX0 hN hS hA hK hP hD hl (l_X6_thrown l G a sa b o (x2 v) (u2 w) (f2 v) _) gL_law_X6_thrown rfl h6T.1 h6T.2.1 (by decide +kernel) rfl h6T.2.2 rfl rfl rfl (Nat.le_of_ble_eq_true rfl) dL_law_1073 ⟨by omega, by omega⟩) (fun k9 w9 H locs hw3 hP hD hS => ?_)
  have hw3 : k9 = nI (u2 w).1.1 := hw3
  have hP : va_P G.1 vwCl (wL G a sa b o (x2 v) (u2 w) (f2 v)) H := hP
  have hD : va_D A (wL G a sa b o (x2 v) (u2 w) (f2 v)) := hD
  obtain ⟨r1, r2, r3⟩ := hrel k v b9 w hw1 hw2
  refine lv_iload hx hb dL_law_1076 (lv_at hl 1 rfl) ?_
  refine lv_icmp_eq (tgt := 1083) hx hb dL_law_1078 (by decide) (fun c_1 => ?_) (fun c_1 => ?_)
  · skip
    refine lv_iload hx hb dL_law_1083 (lv_at hl 1 rfl) ?_
    refine lv_if_ne (tgt := 1100) hx hb dL_law_1085 (by decide) (fun c_2 => ?_) (fun c_2 => ?_)
    · skip
      refine lv_goto (tgt := 1450) hx hb dL_law_1100 (by decide) ?_
      refine W.widen (k := cells + 1) (n := slots + 6) (by omega) (by omega) ?_
      exact kk (x2 v) (u2 w) (f2 v) H locs ls r3 hP hD hS (lv_sub hl [2, 3, 4, 5, 6] rfl)
    · skip
      refine lv_aload_n hx hb dL_law_1088 rfl (lv_at hl 6 rfl) ?_
      refine lv_iconst (v := 0) hx hb dL_law_1089 (by decide) ?_
      refine g_lald0 hx hb hK hP 121 rfl dL_law_1090 ?_
      refine lv_iload hx hb dL_law_1091 (lv_at hl 0 rfl) ?_
      refine lv_i2l (v := b9.toInt64) hx hb dL_law_1093 rfl ?_
      refine W.lcmp hx hb dL_law_1094 ?_
      refine lv_if_eq (tgt := 1100) hx hb dL_law_1095 (by decide) (fun c_3 => ?_) (fun c_3 => ?_)
      · skip
        refine lv_goto (tgt := 1450) hx hb dL_law_1100 (by decide) ?_
        refine W.widen (k := cells + 1) (n := slots + 6) (by omega) (by omega) ?_
        exact kk (x2 v) (u2 w) (f2 v) H locs ls r3 hP hD hS (lv_sub hl [2, 3, 4, 5, 6] rfl)
      · exact absurd ((lg_cmp_eq _ _).mpr (r2 c_2)) c_3
  · exact absurd (hw3.trans r1) c_1
set_option maxHeartbeats 4000000 in
set_option maxRecDepth 100000 in
theorem lo_ifWeight {p : Program} {l : Launch} {e : Env} {s : State} {m : MethodId} {args : Array Value} {below : List Frame} {meth : Method} {c : Code} {H : Heap} {locs : List Loc} {cells slots : Nat} {Q : State → Prop} {ls : Array Slot} {A : Nat → Prop} {G : kG} {a : Nat → Nat} {sa : Nat → Nat → Nat} {b : Nat → Nat} {o sb L i : Nat} {xs : Nat → Int32} {x : XS} {u : MS} {f : FnL} {v1 : Int32} {v2 : Int32} (C : lwC p l s m args c A G sb L xs) (hi : i + 3 ≤ L) (hc : cells + 1 ≤ room_1.cells ∧ slots + 6 ≤ room_1.slots) (hv1 : xs (i + 1) = v1) (hv2 : xs (i + 2) = v2) {UX UM : Type} {rmX rmM : Room} {mcX msX : Nat} {PX : Int32 → UX → Prop} {PM : Int32 → UM → Prop} {x2 : UX → XS} {f2 : UX → FnL} {u2 : UM → MS}
    (hX : ∀ sz, wMet l yL_ifWeight wsL_ifWeight rmX G [.ref (a 0), .int v1, .int v2, .ref o] (wL G a sa b o x u f) sz (kQi G PX (fun v => wL G a sa b o (x2 v) u (f2 v))) mcX msX)
    (hM : ∀ (x : XS) (f : FnL) sz, wMet l yX6_ifWeight wsX6_ifWeight rmM G [.ref (b 0), .int v1, .int v2] (wL G a sa b o x u f) sz (kQi G PM (fun v => wL G a sa b o x (u2 v) f)) 0 0)
    (hrX : rmX.cells = mcX ∧ rmX.slots = msX ∧ (rmX.frames + 1 ≤ room_1.frames ∧ 8 + (5 + 11) + rmX.locals ≤ room_1.locals)) (hrM : rmM.cells = 0 ∧ rmM.slots = 0 ∧ (rmM.frames + 1 ≤ room_1.frames ∧ 8 + (3 + 11) + rmM.locals ≤ room_1.locals)) (hmc : mcX ≤ 1 ∧ msX ≤ 6)
    (hrel : ∀ k v b9 w, PX k v → PM b9 w → nI (u2 w).1.1 = k ∧ (k = 0 → f2 v 0 = b9.toInt64) ∧ Rel (x2 v) (u2 w))
    (kk : lwK p l e s m args below meth c A G a sa b o sb i (cells + 1) (slots + 6) Q) (hP : va_P G.1 vwCl (wL G a sa b o x u f) H) (hD : va_D A (wL G a sa b o x u f)) (hS : va_S A s.heap H locs) (hl : lv_has ls 9 [(4, .int (nI i)), (0, .ref sb), (1, .ref (a 0)), (2, .ref (b 0)), (3, .ref o)]) : W p l e room_1 s m args below meth c H locs cells slots Q (F0 m 1103 ls []) := by
  subst hv1
  subst hv2
  obtain ⟨hx, hb, hml, hown, hts, hXs, hbl, hbA, hfl, hX0, hN, hA, hK, hL⟩ := C
  refine lv_aload_n hx hb dL_law_1103 rfl (lv_at hl 2 rfl) ?_
  refine lv_aload_n hx hb dL_law_1104 rfl (lv_at hl 1 rfl) ?_
  refine lv_iload hx hb dL_law_1105 (lv_at hl 0 rfl) ?_
  refine lv_iconst (v := 1) hx hb dL_law_1107 (by decide) ?_
  refine lv_iadd hx hb dL_law_1108 ?_
  refine g_ti (y := nI (i + 1)) (nI_add i 1) ?_
  refine g_sld hx hb hXs hbl hbA hS (k := i + 1) (by omega) hL dL_law_1109 ?_
  refine lv_aload_n hx hb dL_law_1110 rfl (lv_at hl 1 rfl) ?_
  refine lv_iload hx hb dL_law_1111 (lv_at hl 0 rfl) ?_
  refine lv_iconst (v := 2) hx hb dL_law_1113 (by decide) ?_
  refine lv_iadd hx hb dL_law_1114 ?_
  refine g_ti (y := nI (i + 2)) (nI_add i 2) ?_
  refine g_sld hx hb hXs hbl hbA hS (k := i + 2) (by omega) hL dL_law_1115 ?_
  refine lv_aload_n hx hb dL_law_1116 rfl (lv_at hl 4 rfl) ?_
  refine w_ci hD hS hA (w_S (n := 4) (As := [.ref (a 0), .int (xs (i + 1)), .int (xs (i + 2)), .ref o]) (rest := []) hx hb hml hown hts hX0 hN hS hA hK hP hD hl (hX _) gL_law_L_ifWeight rfl hrX.1 hrX.2.1 (by decide +kernel) rfl hrX.2.2 rfl (Nat.le_of_ble_eq_true rfl) dL_law_1117 ⟨by omega, by omega⟩) (fun k v H locs hw1 hP hD hS => ?_)
  refine lv_istore (lv' := [(5, .int k), (4, .int (nI i)), (0, .ref sb), (1, .ref (a 0)), (2, .ref (b 0)), (3, .ref o)]) hx hb dL_law_1120 hl (by decide) rfl (fun ls hl => ?_)
  refine lv_aload_n hx hb dL_law_1122 rfl (lv_at hl 4 rfl) ?_
  refine lv_aload_n hx hb dL_law_1123 rfl (lv_at hl 2 rfl) ?_
  refine lv_iload hx hb dL_law_1124 (lv_at hl 1 rfl) ?_
  refine lv_iconst (v := 1) hx hb dL_law_1126 (by decide) ?_
  refine lv_iadd hx hb dL_law_1127 ?_
  refine g_ti (y := nI (i + 1)) (nI_add i 1) ?_
  refine g_sld hx hb hXs hbl hbA hS (k := i + 1) (by omega) hL dL_law_1128 ?_
  refine lv_aload_n hx hb dL_law_1129 rfl (lv_at hl 2 rfl) ?_
  refine lv_iload hx hb dL_law_1130 (lv_at hl 1 rfl) ?_
  refine lv_iconst (v := 2) hx hb dL_law_1132 (by decide) ?_
  refine lv_iadd hx hb dL_law_1133 ?_
  refine g_ti (y := nI (i + 2)) (nI_add i 2) ?_
  refine g_sld hx hb hXs hbl hbA hS (k := i + 2) (by omega) hL dL_law_1134 ?_
  refine w_ci hD hS hA (w_V (n := 2) (C := RX6) (T := TX6) (N := 17) (ci := 6) (q0 := 111) (As := [.int (xs (i + 1)), .int (xs (i + 2))]) (rest := []) hx hb hml hown hts hX0 hN hS hA hK hP hD hl (hM _ _ _) gL_law_X6_ifWeight rfl hrM.1 hrM.2.1 (by decide +kernel) rfl hrM.2.2 rfl rfl rfl (Nat.le_of_ble_eq_true rfl) dL_law_1135 ⟨by omega, by omega⟩) (fun b9 w H locs hw2 hP hD hS => ?_)
  refine lv_istore (lv' := [(6, .int b9), (5, .int k), (4, .int (nI i)), (0, .ref sb), (1, .ref (a 0)), (2, .ref (b 0)), (3, .ref o)]) hx hb dL_law_1138 hl (by decide) rfl (fun ls hl => ?_)
  refine lv_aload_n hx hb dL_law_1140 rfl (lv_at hl 5 rfl) ?_
  refine w_ci hD hS hA (w_V (n := 0) (C := RX6) (T := TX6) (N := 17) (ci := 6) (q0 := 111) (As := []) (rest := []) hx hb hml hown hts hX0 hN hS hA hK hP hD hl (l_X6_thrown l G a sa b o (x2 v) (u2 w) (f2 v) _) gL_law_X6_thrown rfl h6T.1 h6T.2.1 (by decide +kernel) rfl h6T.2.2 rfl rfl rfl (Nat.le_of_ble_eq_true rfl) dL_law_1141 ⟨by omega, by omega⟩) (fun k9 w9 H locs hw3 hP hD hS => ?_)
  have hw3 : k9 = nI (u2 w).1.1 := hw3
  have hP : va_P G.1 vwCl (wL G a sa b o (x2 v) (u2 w) (f2 v)) H := hP
  have hD : va_D A (wL G a sa b o (x2 v) (u2 w) (f2 v)) := hD
  obtain ⟨r1, r2, r3⟩ := hrel k v b9 w hw1 hw2
  refine lv_iload hx hb dL_law_1144 (lv_at hl 1 rfl) ?_
  refine lv_icmp_eq (tgt := 1151) hx hb dL_law_1146 (by decide) (fun c_1 => ?_) (fun c_1 => ?_)
  · skip
    refine lv_iload hx hb dL_law_1151 (lv_at hl 1 rfl) ?_
    refine lv_if_ne (tgt := 1168) hx hb dL_law_1153 (by decide) (fun c_2 => ?_) (fun c_2 => ?_)
    · skip
      refine lv_goto (tgt := 1450) hx hb dL_law_1168 (by decide) ?_
      refine W.widen (k := cells + 1) (n := slots + 6) (by omega) (by omega) ?_
      exact kk (x2 v) (u2 w) (f2 v) H locs ls r3 hP hD hS (lv_sub hl [2, 3, 4, 5, 6] rfl)
    · skip
      refine lv_aload_n hx hb dL_law_1156 rfl (lv_at hl 6 rfl) ?_
      refine lv_iconst (v := 0) hx hb dL_law_1157 (by decide) ?_
      refine g_lald0 hx hb hK hP 121 rfl dL_law_1158 ?_
      refine lv_iload hx hb dL_law_1159 (lv_at hl 0 rfl) ?_
      refine lv_i2l (v := b9.toInt64) hx hb dL_law_1161 rfl ?_
      refine W.lcmp hx hb dL_law_1162 ?_
      refine lv_if_eq (tgt := 1168) hx hb dL_law_1163 (by decide) (fun c_3 => ?_) (fun c_3 => ?_)
      · skip
        refine lv_goto (tgt := 1450) hx hb dL_law_1168 (by decide) ?_
        refine W.widen (k := cells + 1) (n := slots + 6) (by omega) (by omega) ?_
        exact kk (x2 v) (u2 w) (f2 v) H locs ls r3 hP hD hS (lv_sub hl [2, 3, 4, 5, 6] rfl)
      · exact absurd ((lg_cmp_eq _ _).mpr (r2 c_2)) c_3
  · exact absurd (hw3.trans r1) c_1
set_option maxHeartbeats 4000000 in
set_option maxRecDepth 100000 in
theorem lo_mostWeight {p : Program} {l : Launch} {e : Env} {s : State} {m : MethodId} {args : Array Value} {below : List Frame} {meth : Method} {c : Code} {H : Heap} {locs : List Loc} {cells slots : Nat} {Q : State → Prop} {ls : Array Slot} {A : Nat → Prop} {G : kG} {a : Nat → Nat} {sa : Nat → Nat → Nat} {b : Nat → Nat} {o sb L i : Nat} {xs : Nat → Int32} {x : XS} {u : MS} {f : FnL} {v1 : Int32} (C : lwC p l s m args c A G sb L xs) (hi : i + 3 ≤ L) (hc : cells + 1 ≤ room_1.cells ∧ slots + 6 ≤ room_1.slots) (hv1 : xs (i + 1) = v1) {UX UM : Type} {rmX rmM : Room} {mcX msX : Nat} {PX : Int32 → UX → Prop} {PM : Int32 → UM → Prop} {x2 : UX → XS} {f2 : UX → FnL} {u2 : UM → MS}
    (hX : ∀ sz, wMet l yL_mostWeight wsL_mostWeight rmX G [.ref (a 0), .int v1, .ref o] (wL G a sa b o x u f) sz (kQi G PX (fun v => wL G a sa b o (x2 v) u (f2 v))) mcX msX)
    (hM : ∀ (x : XS) (f : FnL) sz, wMet l yX6_mostWeight wsX6_mostWeight rmM G [.ref (b 0), .int v1] (wL G a sa b o x u f) sz (kQi G PM (fun v => wL G a sa b o x (u2 v) f)) 0 0)
    (hrX : rmX.cells = mcX ∧ rmX.slots = msX ∧ (rmX.frames + 1 ≤ room_1.frames ∧ 8 + (4 + 11) + rmX.locals ≤ room_1.locals)) (hrM : rmM.cells = 0 ∧ rmM.slots = 0 ∧ (rmM.frames + 1 ≤ room_1.frames ∧ 8 + (2 + 11) + rmM.locals ≤ room_1.locals)) (hmc : mcX ≤ 1 ∧ msX ≤ 6)
    (hrel : ∀ k v b9 w, PX k v → PM b9 w → nI (u2 w).1.1 = k ∧ (k = 0 → f2 v 0 = b9.toInt64) ∧ Rel (x2 v) (u2 w))
    (kk : lwK p l e s m args below meth c A G a sa b o sb i (cells + 1) (slots + 6) Q) (hP : va_P G.1 vwCl (wL G a sa b o x u f) H) (hD : va_D A (wL G a sa b o x u f)) (hS : va_S A s.heap H locs) (hl : lv_has ls 9 [(4, .int (nI i)), (0, .ref sb), (1, .ref (a 0)), (2, .ref (b 0)), (3, .ref o)]) : W p l e room_1 s m args below meth c H locs cells slots Q (F0 m 1171 ls []) := by
  subst hv1
  obtain ⟨hx, hb, hml, hown, hts, hXs, hbl, hbA, hfl, hX0, hN, hA, hK, hL⟩ := C
  refine lv_aload_n hx hb dL_law_1171 rfl (lv_at hl 2 rfl) ?_
  refine lv_aload_n hx hb dL_law_1172 rfl (lv_at hl 1 rfl) ?_
  refine lv_iload hx hb dL_law_1173 (lv_at hl 0 rfl) ?_
  refine lv_iconst (v := 1) hx hb dL_law_1175 (by decide) ?_
  refine lv_iadd hx hb dL_law_1176 ?_
  refine g_ti (y := nI (i + 1)) (nI_add i 1) ?_
  refine g_sld hx hb hXs hbl hbA hS (k := i + 1) (by omega) hL dL_law_1177 ?_
  refine lv_aload_n hx hb dL_law_1178 rfl (lv_at hl 4 rfl) ?_
  refine w_ci hD hS hA (w_S (n := 3) (As := [.ref (a 0), .int (xs (i + 1)), .ref o]) (rest := []) hx hb hml hown hts hX0 hN hS hA hK hP hD hl (hX _) gL_law_L_mostWeight rfl hrX.1 hrX.2.1 (by decide +kernel) rfl hrX.2.2 rfl (Nat.le_of_ble_eq_true rfl) dL_law_1179 ⟨by omega, by omega⟩) (fun k v H locs hw1 hP hD hS => ?_)
  refine lv_istore (lv' := [(5, .int k), (4, .int (nI i)), (0, .ref sb), (1, .ref (a 0)), (2, .ref (b 0)), (3, .ref o)]) hx hb dL_law_1182 hl (by decide) rfl (fun ls hl => ?_)
  refine lv_aload_n hx hb dL_law_1184 rfl (lv_at hl 4 rfl) ?_
  refine lv_aload_n hx hb dL_law_1185 rfl (lv_at hl 2 rfl) ?_
  refine lv_iload hx hb dL_law_1186 (lv_at hl 1 rfl) ?_
  refine lv_iconst (v := 1) hx hb dL_law_1188 (by decide) ?_
  refine lv_iadd hx hb dL_law_1189 ?_
  refine g_ti (y := nI (i + 1)) (nI_add i 1) ?_
  refine g_sld hx hb hXs hbl hbA hS (k := i + 1) (by omega) hL dL_law_1190 ?_
  refine w_ci hD hS hA (w_V (n := 1) (C := RX6) (T := TX6) (N := 17) (ci := 6) (q0 := 111) (As := [.int (xs (i + 1))]) (rest := []) hx hb hml hown hts hX0 hN hS hA hK hP hD hl (hM _ _ _) gL_law_X6_mostWeight rfl hrM.1 hrM.2.1 (by decide +kernel) rfl hrM.2.2 rfl rfl rfl (Nat.le_of_ble_eq_true rfl) dL_law_1191 ⟨by omega, by omega⟩) (fun b9 w H locs hw2 hP hD hS => ?_)
  refine lv_istore (lv' := [(6, .int b9), (5, .int k), (4, .int (nI i)), (0, .ref sb), (1, .ref (a 0)), (2, .ref (b 0)), (3, .ref o)]) hx hb dL_law_1194 hl (by decide) rfl (fun ls hl => ?_)
  refine lv_aload_n hx hb dL_law_1196 rfl (lv_at hl 5 rfl) ?_
  refine w_ci hD hS hA (w_V (n := 0) (C := RX6) (T := TX6) (N := 17) (ci := 6) (q0 := 111) (As := []) (rest := []) hx hb hml hown hts hX0 hN hS hA hK hP hD hl (l_X6_thrown l G a sa b o (x2 v) (u2 w) (f2 v) _) gL_law_X6_thrown rfl h6T.1 h6T.2.1 (by decide +kernel) rfl h6T.2.2 rfl rfl rfl (Nat.le_of_ble_eq_true rfl) dL_law_1197 ⟨by omega, by omega⟩) (fun k9 w9 H locs hw3 hP hD hS => ?_)
  have hw3 : k9 = nI (u2 w).1.1 := hw3
  have hP : va_P G.1 vwCl (wL G a sa b o (x2 v) (u2 w) (f2 v)) H := hP
  have hD : va_D A (wL G a sa b o (x2 v) (u2 w) (f2 v)) := hD
  obtain ⟨r1, r2, r3⟩ := hrel k v b9 w hw1 hw2
  refine lv_iload hx hb dL_law_1200 (lv_at hl 1 rfl) ?_
  refine lv_icmp_eq (tgt := 1207) hx hb dL_law_1202 (by decide) (fun c_1 => ?_) (fun c_1 => ?_)
  · skip
    refine lv_iload hx hb dL_law_1207 (lv_at hl 1 rfl) ?_
    refine lv_if_ne (tgt := 1224) hx hb dL_law_1209 (by decide) (fun c_2 => ?_) (fun c_2 => ?_)
    · skip
      refine lv_goto (tgt := 1450) hx hb dL_law_1224 (by decide) ?_
      refine W.widen (k := cells + 1) (n := slots + 6) (by omega) (by omega) ?_
      exact kk (x2 v) (u2 w) (f2 v) H locs ls r3 hP hD hS (lv_sub hl [2, 3, 4, 5, 6] rfl)
    · skip
      refine lv_aload_n hx hb dL_law_1212 rfl (lv_at hl 6 rfl) ?_
      refine lv_iconst (v := 0) hx hb dL_law_1213 (by decide) ?_
      refine g_lald0 hx hb hK hP 121 rfl dL_law_1214 ?_
      refine lv_iload hx hb dL_law_1215 (lv_at hl 0 rfl) ?_
      refine lv_i2l (v := b9.toInt64) hx hb dL_law_1217 rfl ?_
      refine W.lcmp hx hb dL_law_1218 ?_
      refine lv_if_eq (tgt := 1224) hx hb dL_law_1219 (by decide) (fun c_3 => ?_) (fun c_3 => ?_)
      · skip
        refine lv_goto (tgt := 1450) hx hb dL_law_1224 (by decide) ?_
        refine W.widen (k := cells + 1) (n := slots + 6) (by omega) (by omega) ?_
        exact kk (x2 v) (u2 w) (f2 v) H locs ls r3 hP hD hS (lv_sub hl [2, 3, 4, 5, 6] rfl)
      · exact absurd ((lg_cmp_eq _ _).mpr (r2 c_2)) c_3
  · exact absurd (hw3.trans r1) c_1
set_option maxHeartbeats 4000000 in
set_option maxRecDepth 100000 in
theorem lo_bestMove {p : Program} {l : Launch} {e : Env} {s : State} {m : MethodId} {args : Array Value} {below : List Frame} {meth : Method} {c : Code} {H : Heap} {locs : List Loc} {cells slots : Nat} {Q : State → Prop} {ls : Array Slot} {A : Nat → Prop} {G : kG} {a : Nat → Nat} {sa : Nat → Nat → Nat} {b : Nat → Nat} {o sb L i : Nat} {xs : Nat → Int32} {x : XS} {u : MS} {f : FnL} {v1 : Int32} (C : lwC p l s m args c A G sb L xs) (hi : i + 3 ≤ L) (hc : cells + 1 ≤ room_1.cells ∧ slots + 6 ≤ room_1.slots) (hv1 : xs (i + 1) = v1) {UX UM : Type} {rmX rmM : Room} {mcX msX : Nat} {PX : Int32 → UX → Prop} {PM : Int32 → UM → Prop} {x2 : UX → XS} {f2 : UX → FnL} {u2 : UM → MS}
    (hX : ∀ sz, wMet l yL_bestMove wsL_bestMove rmX G [.ref (a 0), .int v1, .ref o] (wL G a sa b o x u f) sz (kQi G PX (fun v => wL G a sa b o (x2 v) u (f2 v))) mcX msX)
    (hM : ∀ (x : XS) (f : FnL) sz, wMet l yX6_bestMove wsX6_bestMove rmM G [.ref (b 0), .int v1] (wL G a sa b o x u f) sz (kQi G PM (fun v => wL G a sa b o x (u2 v) f)) 0 0)
    (hrX : rmX.cells = mcX ∧ rmX.slots = msX ∧ (rmX.frames + 1 ≤ room_1.frames ∧ 8 + (4 + 11) + rmX.locals ≤ room_1.locals)) (hrM : rmM.cells = 0 ∧ rmM.slots = 0 ∧ (rmM.frames + 1 ≤ room_1.frames ∧ 8 + (2 + 11) + rmM.locals ≤ room_1.locals)) (hmc : mcX ≤ 1 ∧ msX ≤ 6)
    (hrel : ∀ k v b9 w, PX k v → PM b9 w → nI (u2 w).1.1 = k ∧ (k = 0 → f2 v 0 = b9.toInt64) ∧ Rel (x2 v) (u2 w))
    (kk : lwK p l e s m args below meth c A G a sa b o sb i (cells + 1) (slots + 6) Q) (hP : va_P G.1 vwCl (wL G a sa b o x u f) H) (hD : va_D A (wL G a sa b o x u f)) (hS : va_S A s.heap H locs) (hl : lv_has ls 9 [(4, .int (nI i)), (0, .ref sb), (1, .ref (a 0)), (2, .ref (b 0)), (3, .ref o)]) : W p l e room_1 s m args below meth c H locs cells slots Q (F0 m 1227 ls []) := by
  subst hv1
  obtain ⟨hx, hb, hml, hown, hts, hXs, hbl, hbA, hfl, hX0, hN, hA, hK, hL⟩ := C
  refine lv_aload_n hx hb dL_law_1227 rfl (lv_at hl 2 rfl) ?_
  refine lv_aload_n hx hb dL_law_1228 rfl (lv_at hl 1 rfl) ?_
  refine lv_iload hx hb dL_law_1229 (lv_at hl 0 rfl) ?_
  refine lv_iconst (v := 1) hx hb dL_law_1231 (by decide) ?_
  refine lv_iadd hx hb dL_law_1232 ?_
  refine g_ti (y := nI (i + 1)) (nI_add i 1) ?_
  refine g_sld hx hb hXs hbl hbA hS (k := i + 1) (by omega) hL dL_law_1233 ?_
  refine lv_aload_n hx hb dL_law_1234 rfl (lv_at hl 4 rfl) ?_
  refine w_ci hD hS hA (w_S (n := 3) (As := [.ref (a 0), .int (xs (i + 1)), .ref o]) (rest := []) hx hb hml hown hts hX0 hN hS hA hK hP hD hl (hX _) gL_law_L_bestMove rfl hrX.1 hrX.2.1 (by decide +kernel) rfl hrX.2.2 rfl (Nat.le_of_ble_eq_true rfl) dL_law_1235 ⟨by omega, by omega⟩) (fun k v H locs hw1 hP hD hS => ?_)
  refine lv_istore (lv' := [(5, .int k), (4, .int (nI i)), (0, .ref sb), (1, .ref (a 0)), (2, .ref (b 0)), (3, .ref o)]) hx hb dL_law_1238 hl (by decide) rfl (fun ls hl => ?_)
  refine lv_aload_n hx hb dL_law_1240 rfl (lv_at hl 4 rfl) ?_
  refine lv_aload_n hx hb dL_law_1241 rfl (lv_at hl 2 rfl) ?_
  refine lv_iload hx hb dL_law_1242 (lv_at hl 1 rfl) ?_
  refine lv_iconst (v := 1) hx hb dL_law_1244 (by decide) ?_
  refine lv_iadd hx hb dL_law_1245 ?_
  refine g_ti (y := nI (i + 1)) (nI_add i 1) ?_
  refine g_sld hx hb hXs hbl hbA hS (k := i + 1) (by omega) hL dL_law_1246 ?_
  refine w_ci hD hS hA (w_V (n := 1) (C := RX6) (T := TX6) (N := 17) (ci := 6) (q0 := 111) (As := [.int (xs (i + 1))]) (rest := []) hx hb hml hown hts hX0 hN hS hA hK hP hD hl (hM _ _ _) gL_law_X6_bestMove rfl hrM.1 hrM.2.1 (by decide +kernel) rfl hrM.2.2 rfl rfl rfl (Nat.le_of_ble_eq_true rfl) dL_law_1247 ⟨by omega, by omega⟩) (fun b9 w H locs hw2 hP hD hS => ?_)
  refine lv_istore (lv' := [(6, .int b9), (5, .int k), (4, .int (nI i)), (0, .ref sb), (1, .ref (a 0)), (2, .ref (b 0)), (3, .ref o)]) hx hb dL_law_1250 hl (by decide) rfl (fun ls hl => ?_)
  refine lv_aload_n hx hb dL_law_1252 rfl (lv_at hl 5 rfl) ?_
  refine w_ci hD hS hA (w_V (n := 0) (C := RX6) (T := TX6) (N := 17) (ci := 6) (q0 := 111) (As := []) (rest := []) hx hb hml hown hts hX0 hN hS hA hK hP hD hl (l_X6_thrown l G a sa b o (x2 v) (u2 w) (f2 v) _) gL_law_X6_thrown rfl h6T.1 h6T.2.1 (by decide +kernel) rfl h6T.2.2 rfl rfl rfl (Nat.le_of_ble_eq_true rfl) dL_law_1253 ⟨by omega, by omega⟩) (fun k9 w9 H locs hw3 hP hD hS => ?_)
  have hw3 : k9 = nI (u2 w).1.1 := hw3
  have hP : va_P G.1 vwCl (wL G a sa b o (x2 v) (u2 w) (f2 v)) H := hP
  have hD : va_D A (wL G a sa b o (x2 v) (u2 w) (f2 v)) := hD
  obtain ⟨r1, r2, r3⟩ := hrel k v b9 w hw1 hw2
  refine lv_iload hx hb dL_law_1256 (lv_at hl 1 rfl) ?_
  refine lv_icmp_eq (tgt := 1263) hx hb dL_law_1258 (by decide) (fun c_1 => ?_) (fun c_1 => ?_)
  · skip
    refine lv_iload hx hb dL_law_1263 (lv_at hl 1 rfl) ?_
    refine lv_if_ne (tgt := 1280) hx hb dL_law_1265 (by decide) (fun c_2 => ?_) (fun c_2 => ?_)
    · skip
      refine lv_goto (tgt := 1450) hx hb dL_law_1280 (by decide) ?_
      refine W.widen (k := cells + 1) (n := slots + 6) (by omega) (by omega) ?_
      exact kk (x2 v) (u2 w) (f2 v) H locs ls r3 hP hD hS (lv_sub hl [2, 3, 4, 5, 6] rfl)
    · skip
      refine lv_aload_n hx hb dL_law_1268 rfl (lv_at hl 6 rfl) ?_
      refine lv_iconst (v := 0) hx hb dL_law_1269 (by decide) ?_
      refine g_lald0 hx hb hK hP 121 rfl dL_law_1270 ?_
      refine lv_iload hx hb dL_law_1271 (lv_at hl 0 rfl) ?_
      refine lv_i2l (v := b9.toInt64) hx hb dL_law_1273 rfl ?_
      refine W.lcmp hx hb dL_law_1274 ?_
      refine lv_if_eq (tgt := 1280) hx hb dL_law_1275 (by decide) (fun c_3 => ?_) (fun c_3 => ?_)
      · skip
        refine lv_goto (tgt := 1450) hx hb dL_law_1280 (by decide) ?_
        refine W.widen (k := cells + 1) (n := slots + 6) (by omega) (by omega) ?_
        exact kk (x2 v) (u2 w) (f2 v) H locs ls r3 hP hD hS (lv_sub hl [2, 3, 4, 5, 6] rfl)
      · exact absurd ((lg_cmp_eq _ _).mpr (r2 c_2)) c_3
  · exact absurd (hw3.trans r1) c_1
set_option maxHeartbeats 4000000 in
set_option maxRecDepth 100000 in
theorem lo_bestHanger {p : Program} {l : Launch} {e : Env} {s : State} {m : MethodId} {args : Array Value} {below : List Frame} {meth : Method} {c : Code} {H : Heap} {locs : List Loc} {cells slots : Nat} {Q : State → Prop} {ls : Array Slot} {A : Nat → Prop} {G : kG} {a : Nat → Nat} {sa : Nat → Nat → Nat} {b : Nat → Nat} {o sb L i : Nat} {xs : Nat → Int32} {x : XS} {u : MS} {f : FnL} {v1 : Int32} (C : lwC p l s m args c A G sb L xs) (hi : i + 3 ≤ L) (hc : cells + 1 ≤ room_1.cells ∧ slots + 6 ≤ room_1.slots) (hv1 : xs (i + 1) = v1) {UX UM : Type} {rmX rmM : Room} {mcX msX : Nat} {PX : Int32 → UX → Prop} {PM : Int32 → UM → Prop} {x2 : UX → XS} {f2 : UX → FnL} {u2 : UM → MS}
    (hX : ∀ sz, wMet l yL_bestHanger wsL_bestHanger rmX G [.ref (a 0), .int v1, .ref o] (wL G a sa b o x u f) sz (kQi G PX (fun v => wL G a sa b o (x2 v) u (f2 v))) mcX msX)
    (hM : ∀ (x : XS) (f : FnL) sz, wMet l yX6_bestHanger wsX6_bestHanger rmM G [.ref (b 0), .int v1] (wL G a sa b o x u f) sz (kQi G PM (fun v => wL G a sa b o x (u2 v) f)) 0 0)
    (hrX : rmX.cells = mcX ∧ rmX.slots = msX ∧ (rmX.frames + 1 ≤ room_1.frames ∧ 8 + (4 + 11) + rmX.locals ≤ room_1.locals)) (hrM : rmM.cells = 0 ∧ rmM.slots = 0 ∧ (rmM.frames + 1 ≤ room_1.frames ∧ 8 + (2 + 11) + rmM.locals ≤ room_1.locals)) (hmc : mcX ≤ 1 ∧ msX ≤ 6)
    (hrel : ∀ k v b9 w, PX k v → PM b9 w → nI (u2 w).1.1 = k ∧ (k = 0 → f2 v 0 = b9.toInt64) ∧ Rel (x2 v) (u2 w))
    (kk : lwK p l e s m args below meth c A G a sa b o sb i (cells + 1) (slots + 6) Q) (hP : va_P G.1 vwCl (wL G a sa b o x u f) H) (hD : va_D A (wL G a sa b o x u f)) (hS : va_S A s.heap H locs) (hl : lv_has ls 9 [(4, .int (nI i)), (0, .ref sb), (1, .ref (a 0)), (2, .ref (b 0)), (3, .ref o)]) : W p l e room_1 s m args below meth c H locs cells slots Q (F0 m 1283 ls []) := by
  subst hv1
  obtain ⟨hx, hb, hml, hown, hts, hXs, hbl, hbA, hfl, hX0, hN, hA, hK, hL⟩ := C
  refine lv_aload_n hx hb dL_law_1283 rfl (lv_at hl 2 rfl) ?_
  refine lv_aload_n hx hb dL_law_1284 rfl (lv_at hl 1 rfl) ?_
  refine lv_iload hx hb dL_law_1285 (lv_at hl 0 rfl) ?_
  refine lv_iconst (v := 1) hx hb dL_law_1287 (by decide) ?_
  refine lv_iadd hx hb dL_law_1288 ?_
  refine g_ti (y := nI (i + 1)) (nI_add i 1) ?_
  refine g_sld hx hb hXs hbl hbA hS (k := i + 1) (by omega) hL dL_law_1289 ?_
  refine lv_aload_n hx hb dL_law_1290 rfl (lv_at hl 4 rfl) ?_
  refine w_ci hD hS hA (w_S (n := 3) (As := [.ref (a 0), .int (xs (i + 1)), .ref o]) (rest := []) hx hb hml hown hts hX0 hN hS hA hK hP hD hl (hX _) gL_law_L_bestHanger rfl hrX.1 hrX.2.1 (by decide +kernel) rfl hrX.2.2 rfl (Nat.le_of_ble_eq_true rfl) dL_law_1291 ⟨by omega, by omega⟩) (fun k v H locs hw1 hP hD hS => ?_)
  refine lv_istore (lv' := [(5, .int k), (4, .int (nI i)), (0, .ref sb), (1, .ref (a 0)), (2, .ref (b 0)), (3, .ref o)]) hx hb dL_law_1294 hl (by decide) rfl (fun ls hl => ?_)
  refine lv_aload_n hx hb dL_law_1296 rfl (lv_at hl 4 rfl) ?_
  refine lv_aload_n hx hb dL_law_1297 rfl (lv_at hl 2 rfl) ?_
  refine lv_iload hx hb dL_law_1298 (lv_at hl 1 rfl) ?_
  refine lv_iconst (v := 1) hx hb dL_law_1300 (by decide) ?_
  refine lv_iadd hx hb dL_law_1301 ?_
  refine g_ti (y := nI (i + 1)) (nI_add i 1) ?_
  refine g_sld hx hb hXs hbl hbA hS (k := i + 1) (by omega) hL dL_law_1302 ?_
  refine w_ci hD hS hA (w_V (n := 1) (C := RX6) (T := TX6) (N := 17) (ci := 6) (q0 := 111) (As := [.int (xs (i + 1))]) (rest := []) hx hb hml hown hts hX0 hN hS hA hK hP hD hl (hM _ _ _) gL_law_X6_bestHanger rfl hrM.1 hrM.2.1 (by decide +kernel) rfl hrM.2.2 rfl rfl rfl (Nat.le_of_ble_eq_true rfl) dL_law_1303 ⟨by omega, by omega⟩) (fun b9 w H locs hw2 hP hD hS => ?_)
  refine lv_istore (lv' := [(6, .int b9), (5, .int k), (4, .int (nI i)), (0, .ref sb), (1, .ref (a 0)), (2, .ref (b 0)), (3, .ref o)]) hx hb dL_law_1306 hl (by decide) rfl (fun ls hl => ?_)
  refine lv_aload_n hx hb dL_law_1308 rfl (lv_at hl 5 rfl) ?_
  refine w_ci hD hS hA (w_V (n := 0) (C := RX6) (T := TX6) (N := 17) (ci := 6) (q0 := 111) (As := []) (rest := []) hx hb hml hown hts hX0 hN hS hA hK hP hD hl (l_X6_thrown l G a sa b o (x2 v) (u2 w) (f2 v) _) gL_law_X6_thrown rfl h6T.1 h6T.2.1 (by decide +kernel) rfl h6T.2.2 rfl rfl rfl (Nat.le_of_ble_eq_true rfl) dL_law_1309 ⟨by omega, by omega⟩) (fun k9 w9 H locs hw3 hP hD hS => ?_)
  have hw3 : k9 = nI (u2 w).1.1 := hw3
  have hP : va_P G.1 vwCl (wL G a sa b o (x2 v) (u2 w) (f2 v)) H := hP
  have hD : va_D A (wL G a sa b o (x2 v) (u2 w) (f2 v)) := hD
  obtain ⟨r1, r2, r3⟩ := hrel k v b9 w hw1 hw2
  refine lv_iload hx hb dL_law_1312 (lv_at hl 1 rfl) ?_
  refine lv_icmp_eq (tgt := 1319) hx hb dL_law_1314 (by decide) (fun c_1 => ?_) (fun c_1 => ?_)
  · skip
    refine lv_iload hx hb dL_law_1319 (lv_at hl 1 rfl) ?_
    refine lv_if_ne (tgt := 1336) hx hb dL_law_1321 (by decide) (fun c_2 => ?_) (fun c_2 => ?_)
    · skip
      refine lv_goto (tgt := 1450) hx hb dL_law_1336 (by decide) ?_
      refine W.widen (k := cells + 1) (n := slots + 6) (by omega) (by omega) ?_
      exact kk (x2 v) (u2 w) (f2 v) H locs ls r3 hP hD hS (lv_sub hl [2, 3, 4, 5, 6] rfl)
    · skip
      refine lv_aload_n hx hb dL_law_1324 rfl (lv_at hl 6 rfl) ?_
      refine lv_iconst (v := 0) hx hb dL_law_1325 (by decide) ?_
      refine g_lald0 hx hb hK hP 121 rfl dL_law_1326 ?_
      refine lv_iload hx hb dL_law_1327 (lv_at hl 0 rfl) ?_
      refine lv_i2l (v := b9.toInt64) hx hb dL_law_1329 rfl ?_
      refine W.lcmp hx hb dL_law_1330 ?_
      refine lv_if_eq (tgt := 1336) hx hb dL_law_1331 (by decide) (fun c_3 => ?_) (fun c_3 => ?_)
      · skip
        refine lv_goto (tgt := 1450) hx hb dL_law_1336 (by decide) ?_
        refine W.widen (k := cells + 1) (n := slots + 6) (by omega) (by omega) ?_
        exact kk (x2 v) (u2 w) (f2 v) H locs ls r3 hP hD hS (lv_sub hl [2, 3, 4, 5, 6] rfl)
      · exact absurd ((lg_cmp_eq _ _).mpr (r2 c_2)) c_3
  · exact absurd (hw3.trans r1) c_1
set_option maxHeartbeats 4000000 in
set_option maxRecDepth 100000 in
theorem lo_bestStep {p : Program} {l : Launch} {e : Env} {s : State} {m : MethodId} {args : Array Value} {below : List Frame} {meth : Method} {c : Code} {H : Heap} {locs : List Loc} {cells slots : Nat} {Q : State → Prop} {ls : Array Slot} {A : Nat → Prop} {G : kG} {a : Nat → Nat} {sa : Nat → Nat → Nat} {b : Nat → Nat} {o sb L i : Nat} {xs : Nat → Int32} {x : XS} {u : MS} {f : FnL} {v1 : Int32} (C : lwC p l s m args c A G sb L xs) (hi : i + 3 ≤ L) (hc : cells + 1 ≤ room_1.cells ∧ slots + 6 ≤ room_1.slots) (hv1 : xs (i + 1) = v1) {UX UM : Type} {rmX rmM : Room} {mcX msX : Nat} {PX : Int32 → UX → Prop} {PM : Int32 → UM → Prop} {x2 : UX → XS} {f2 : UX → FnL} {u2 : UM → MS}
    (hX : ∀ sz, wMet l yL_bestStep wsL_bestStep rmX G [.ref (a 0), .int v1, .ref o] (wL G a sa b o x u f) sz (kQi G PX (fun v => wL G a sa b o (x2 v) u (f2 v))) mcX msX)
    (hM : ∀ (x : XS) (f : FnL) sz, wMet l yX6_bestStep wsX6_bestStep rmM G [.ref (b 0), .int v1] (wL G a sa b o x u f) sz (kQi G PM (fun v => wL G a sa b o x (u2 v) f)) 0 0)
    (hrX : rmX.cells = mcX ∧ rmX.slots = msX ∧ (rmX.frames + 1 ≤ room_1.frames ∧ 8 + (4 + 11) + rmX.locals ≤ room_1.locals)) (hrM : rmM.cells = 0 ∧ rmM.slots = 0 ∧ (rmM.frames + 1 ≤ room_1.frames ∧ 8 + (2 + 11) + rmM.locals ≤ room_1.locals)) (hmc : mcX ≤ 1 ∧ msX ≤ 6)
    (hrel : ∀ k v b9 w, PX k v → PM b9 w → nI (u2 w).1.1 = k ∧ (k = 0 → f2 v 0 = b9.toInt64) ∧ Rel (x2 v) (u2 w))
    (kk : lwK p l e s m args below meth c A G a sa b o sb i (cells + 1) (slots + 6) Q) (hP : va_P G.1 vwCl (wL G a sa b o x u f) H) (hD : va_D A (wL G a sa b o x u f)) (hS : va_S A s.heap H locs) (hl : lv_has ls 9 [(4, .int (nI i)), (0, .ref sb), (1, .ref (a 0)), (2, .ref (b 0)), (3, .ref o)]) : W p l e room_1 s m args below meth c H locs cells slots Q (F0 m 1339 ls []) := by
  subst hv1
  obtain ⟨hx, hb, hml, hown, hts, hXs, hbl, hbA, hfl, hX0, hN, hA, hK, hL⟩ := C
  refine lv_aload_n hx hb dL_law_1339 rfl (lv_at hl 2 rfl) ?_
  refine lv_aload_n hx hb dL_law_1340 rfl (lv_at hl 1 rfl) ?_
  refine lv_iload hx hb dL_law_1341 (lv_at hl 0 rfl) ?_
  refine lv_iconst (v := 1) hx hb dL_law_1343 (by decide) ?_
  refine lv_iadd hx hb dL_law_1344 ?_
  refine g_ti (y := nI (i + 1)) (nI_add i 1) ?_
  refine g_sld hx hb hXs hbl hbA hS (k := i + 1) (by omega) hL dL_law_1345 ?_
  refine lv_aload_n hx hb dL_law_1346 rfl (lv_at hl 4 rfl) ?_
  refine w_ci hD hS hA (w_S (n := 3) (As := [.ref (a 0), .int (xs (i + 1)), .ref o]) (rest := []) hx hb hml hown hts hX0 hN hS hA hK hP hD hl (hX _) gL_law_L_bestStep rfl hrX.1 hrX.2.1 (by decide +kernel) rfl hrX.2.2 rfl (Nat.le_of_ble_eq_true rfl) dL_law_1347 ⟨by omega, by omega⟩) (fun k v H locs hw1 hP hD hS => ?_)
  refine lv_istore (lv' := [(5, .int k), (4, .int (nI i)), (0, .ref sb), (1, .ref (a 0)), (2, .ref (b 0)), (3, .ref o)]) hx hb dL_law_1350 hl (by decide) rfl (fun ls hl => ?_)
  refine lv_aload_n hx hb dL_law_1352 rfl (lv_at hl 4 rfl) ?_
  refine lv_aload_n hx hb dL_law_1353 rfl (lv_at hl 2 rfl) ?_
  refine lv_iload hx hb dL_law_1354 (lv_at hl 1 rfl) ?_
  refine lv_iconst (v := 1) hx hb dL_law_1356 (by decide) ?_
  refine lv_iadd hx hb dL_law_1357 ?_
  refine g_ti (y := nI (i + 1)) (nI_add i 1) ?_
  refine g_sld hx hb hXs hbl hbA hS (k := i + 1) (by omega) hL dL_law_1358 ?_
  refine w_ci hD hS hA (w_V (n := 1) (C := RX6) (T := TX6) (N := 17) (ci := 6) (q0 := 111) (As := [.int (xs (i + 1))]) (rest := []) hx hb hml hown hts hX0 hN hS hA hK hP hD hl (hM _ _ _) gL_law_X6_bestStep rfl hrM.1 hrM.2.1 (by decide +kernel) rfl hrM.2.2 rfl rfl rfl (Nat.le_of_ble_eq_true rfl) dL_law_1359 ⟨by omega, by omega⟩) (fun b9 w H locs hw2 hP hD hS => ?_)
  refine lv_istore (lv' := [(6, .int b9), (5, .int k), (4, .int (nI i)), (0, .ref sb), (1, .ref (a 0)), (2, .ref (b 0)), (3, .ref o)]) hx hb dL_law_1362 hl (by decide) rfl (fun ls hl => ?_)
  refine lv_aload_n hx hb dL_law_1364 rfl (lv_at hl 5 rfl) ?_
  refine w_ci hD hS hA (w_V (n := 0) (C := RX6) (T := TX6) (N := 17) (ci := 6) (q0 := 111) (As := []) (rest := []) hx hb hml hown hts hX0 hN hS hA hK hP hD hl (l_X6_thrown l G a sa b o (x2 v) (u2 w) (f2 v) _) gL_law_X6_thrown rfl h6T.1 h6T.2.1 (by decide +kernel) rfl h6T.2.2 rfl rfl rfl (Nat.le_of_ble_eq_true rfl) dL_law_1365 ⟨by omega, by omega⟩) (fun k9 w9 H locs hw3 hP hD hS => ?_)
  have hw3 : k9 = nI (u2 w).1.1 := hw3
  have hP : va_P G.1 vwCl (wL G a sa b o (x2 v) (u2 w) (f2 v)) H := hP
  have hD : va_D A (wL G a sa b o (x2 v) (u2 w) (f2 v)) := hD
  obtain ⟨r1, r2, r3⟩ := hrel k v b9 w hw1 hw2
  refine lv_iload hx hb dL_law_1368 (lv_at hl 1 rfl) ?_
  refine lv_icmp_eq (tgt := 1375) hx hb dL_law_1370 (by decide) (fun c_1 => ?_) (fun c_1 => ?_)
  · skip
    refine lv_iload hx hb dL_law_1375 (lv_at hl 1 rfl) ?_
    refine lv_if_ne (tgt := 1392) hx hb dL_law_1377 (by decide) (fun c_2 => ?_) (fun c_2 => ?_)
    · skip
      refine lv_goto (tgt := 1450) hx hb dL_law_1392 (by decide) ?_
      refine W.widen (k := cells + 1) (n := slots + 6) (by omega) (by omega) ?_
      exact kk (x2 v) (u2 w) (f2 v) H locs ls r3 hP hD hS (lv_sub hl [2, 3, 4, 5, 6] rfl)
    · skip
      refine lv_aload_n hx hb dL_law_1380 rfl (lv_at hl 6 rfl) ?_
      refine lv_iconst (v := 0) hx hb dL_law_1381 (by decide) ?_
      refine g_lald0 hx hb hK hP 121 rfl dL_law_1382 ?_
      refine lv_iload hx hb dL_law_1383 (lv_at hl 0 rfl) ?_
      refine lv_i2l (v := b9.toInt64) hx hb dL_law_1385 rfl ?_
      refine W.lcmp hx hb dL_law_1386 ?_
      refine lv_if_eq (tgt := 1392) hx hb dL_law_1387 (by decide) (fun c_3 => ?_) (fun c_3 => ?_)
      · skip
        refine lv_goto (tgt := 1450) hx hb dL_law_1392 (by decide) ?_
        refine W.widen (k := cells + 1) (n := slots + 6) (by omega) (by omega) ?_
        exact kk (x2 v) (u2 w) (f2 v) H locs ls r3 hP hD hS (lv_sub hl [2, 3, 4, 5, 6] rfl)
      · exact absurd ((lg_cmp_eq _ _).mpr (r2 c_2)) c_3
  · exact absurd (hw3.trans r1) c_1
set_option maxHeartbeats 4000000 in
set_option maxRecDepth 100000 in
theorem lo_evenness {p : Program} {l : Launch} {e : Env} {s : State} {m : MethodId} {args : Array Value} {below : List Frame} {meth : Method} {c : Code} {H : Heap} {locs : List Loc} {cells slots : Nat} {Q : State → Prop} {ls : Array Slot} {A : Nat → Prop} {G : kG} {a : Nat → Nat} {sa : Nat → Nat → Nat} {b : Nat → Nat} {o sb L i : Nat} {xs : Nat → Int32} {x : XS} {u : MS} {f : FnL} (C : lwC p l s m args c A G sb L xs) (hi : i + 3 ≤ L) (hc : cells + 1 ≤ room_1.cells ∧ slots + 6 ≤ room_1.slots) {UX UM : Type} {rmX rmM : Room} {mcX msX : Nat} {PX : UInt64 → UX → Prop} {PM : UInt64 → UM → Prop} {x2 : UX → XS} {u2 : UM → MS}
    (hX : ∀ sz, wMet l yX5_evenness wsX5_evenness rmX G [.ref (a 0)] (wL G a sa b o x u f) sz (kQd G PX (fun v => wL G a sa b o (x2 v) u f)) mcX msX)
    (hM : ∀ (x : XS) (f : FnL) sz, wMet l yX6_evenness wsX6_evenness rmM G [.ref (b 0)] (wL G a sa b o x u f) sz (kQd G PM (fun v => wL G a sa b o x (u2 v) f)) 0 0)
    (hrX : rmX.cells = mcX ∧ rmX.slots = msX ∧ (rmX.frames + 1 ≤ room_1.frames ∧ 8 + (3 + 11) + rmX.locals ≤ room_1.locals)) (hrM : rmM.cells = 0 ∧ rmM.slots = 0 ∧ (rmM.frames + 1 ≤ room_1.frames ∧ 8 + (1 + 11) + rmM.locals ≤ room_1.locals)) (hmc : mcX ≤ 1 ∧ msX ≤ 6)
    (hrel : ∀ k v b9 w, PX k v → PM b9 w → (k = b9 ∧ FP.dcmp k k = some .eq) ∧ Rel (x2 v) (u2 w))
    (kk : lwK p l e s m args below meth c A G a sa b o sb i (cells + 1) (slots + 6) Q) (hP : va_P G.1 vwCl (wL G a sa b o x u f) H) (hD : va_D A (wL G a sa b o x u f)) (hS : va_S A s.heap H locs) (hl : lv_has ls 9 [(4, .int (nI i)), (0, .ref sb), (1, .ref (a 0)), (2, .ref (b 0)), (3, .ref o)]) : W p l e room_1 s m args below meth c H locs cells slots Q (F0 m 1395 ls []) := by
  obtain ⟨hx, hb, hml, hown, hts, hXs, hbl, hbA, hfl, hX0, hN, hA, hK, hL⟩ := C
  refine lv_aload_n hx hb dL_law_1395 rfl (lv_at hl 2 rfl) ?_
  refine w_cd hD hS hA (w_V (n := 0) (C := RX5) (T := TX5) (N := 7) (ci := 5) (q0 := 0) (As := []) (rest := []) hx hb hml hown hts hX0 hN hS hA hK hP hD hl (hX _) gL_law_X5_evenness rfl hrX.1 hrX.2.1 (by decide +kernel) rfl hrX.2.2 rfl rfl rfl (Nat.le_of_ble_eq_true rfl) dL_law_1396 ⟨by omega, by omega⟩) (fun k v H locs hw1 hP hD hS => ?_)
  refine lv_dstore (lv' := [(5, .double k), (4, .int (nI i)), (0, .ref sb), (1, .ref (a 0)), (2, .ref (b 0)), (3, .ref o)]) hx hb dL_law_1399 hl (by decide) rfl (fun ls hl => ?_)
  refine lv_aload_n hx hb dL_law_1401 rfl (lv_at hl 4 rfl) ?_
  refine w_cd hD hS hA (w_V (n := 0) (C := RX6) (T := TX6) (N := 17) (ci := 6) (q0 := 111) (As := []) (rest := []) hx hb hml hown hts hX0 hN hS hA hK hP hD hl (hM _ _ _) gL_law_X6_evenness rfl hrM.1 hrM.2.1 (by decide +kernel) rfl hrM.2.2 rfl rfl rfl (Nat.le_of_ble_eq_true rfl) dL_law_1402 ⟨by omega, by omega⟩) (fun b9 w H locs hw2 hP hD hS => ?_)
  obtain ⟨r1, r3⟩ := hrel k v b9 w hw1 hw2
  refine lv_dstore (lv' := [(7, .double b9), (5, .double k), (4, .int (nI i)), (0, .ref sb), (1, .ref (a 0)), (2, .ref (b 0)), (3, .ref o)]) hx hb dL_law_1405 hl (by decide) rfl (fun ls hl => ?_)
  refine lv_dload hx hb dL_law_1407 (lv_at hl 1 rfl) ?_
  refine lv_dload hx hb dL_law_1409 (lv_at hl 0 rfl) ?_
  refine lv_dcmp hx hb dL_law_1411 ?_
  refine lv_if_eq (tgt := 1433) hx hb dL_law_1412 (by decide) (fun c_1 => ?_) (fun c_1 => ?_)
  · skip
    refine lv_goto (tgt := 1450) hx hb dL_law_1433 (by decide) ?_
    refine W.widen (k := cells + 1) (n := slots + 6) (by omega) (by omega) ?_
    exact kk (x2 v) (u2 w) f H locs ls r3 hP hD hS (lv_sub hl [2, 3, 4, 5, 6] rfl)
  · exact absurd (by rw [← r1.1, r1.2]; rfl) c_1
set_option maxHeartbeats 4000000 in
set_option maxRecDepth 100000 in
theorem lo_digest {p : Program} {l : Launch} {e : Env} {s : State} {m : MethodId} {args : Array Value} {below : List Frame} {meth : Method} {c : Code} {H : Heap} {locs : List Loc} {cells slots : Nat} {Q : State → Prop} {ls : Array Slot} {A : Nat → Prop} {G : kG} {a : Nat → Nat} {sa : Nat → Nat → Nat} {b : Nat → Nat} {o sb L i : Nat} {xs : Nat → Int32} {x : XS} {u : MS} {f : FnL} (C : lwC p l s m args c A G sb L xs) (hi : i + 3 ≤ L) (hc : cells + 1 ≤ room_1.cells ∧ slots + 6 ≤ room_1.slots) {UX UM : Type} {rmX rmM : Room} {mcX msX : Nat} {PX : Int64 → UX → Prop} {PM : Int64 → UM → Prop} {x2 : UX → XS} {u2 : UM → MS}
    (hX : ∀ sz, wMet l yX5_digest wsX5_digest rmX G [.ref (a 0)] (wL G a sa b o x u f) sz (kQl G PX (fun v => wL G a sa b o (x2 v) u f)) mcX msX)
    (hM : ∀ (x : XS) (f : FnL) sz, wMet l yX6_digest wsX6_digest rmM G [.ref (b 0)] (wL G a sa b o x u f) sz (kQl G PM (fun v => wL G a sa b o x (u2 v) f)) 0 0)
    (hrX : rmX.cells = mcX ∧ rmX.slots = msX ∧ (rmX.frames + 1 ≤ room_1.frames ∧ 8 + (4 + 11) + rmX.locals ≤ room_1.locals)) (hrM : rmM.cells = 0 ∧ rmM.slots = 0 ∧ (rmM.frames + 1 ≤ room_1.frames ∧ 8 + (3 + 11) + rmM.locals ≤ room_1.locals)) (hmc : mcX ≤ 1 ∧ msX ≤ 6)
    (hrel : ∀ k v b9 w, PX k v → PM b9 w → (k = b9) ∧ Rel (x2 v) (u2 w))
    (kk : lwK p l e s m args below meth c A G a sa b o sb i (cells + 1) (slots + 6) Q) (hP : va_P G.1 vwCl (wL G a sa b o x u f) H) (hD : va_D A (wL G a sa b o x u f)) (hS : va_S A s.heap H locs) (hl : lv_has ls 9 [(4, .int (nI i)), (0, .ref sb), (1, .ref (a 0)), (2, .ref (b 0)), (3, .ref o)]) : W p l e room_1 s m args below meth c H locs cells slots Q (F0 m 1436 ls []) := by
  obtain ⟨hx, hb, hml, hown, hts, hXs, hbl, hbA, hfl, hX0, hN, hA, hK, hL⟩ := C
  refine lv_aload_n hx hb dL_law_1436 rfl (lv_at hl 2 rfl) ?_
  refine w_cl hD hS hA (w_V (n := 0) (C := RX5) (T := TX5) (N := 7) (ci := 5) (q0 := 0) (As := []) (rest := []) hx hb hml hown hts hX0 hN hS hA hK hP hD hl (hX _) gL_law_X5_digest rfl hrX.1 hrX.2.1 (by decide +kernel) rfl hrX.2.2 rfl rfl rfl (Nat.le_of_ble_eq_true rfl) dL_law_1437 ⟨by omega, by omega⟩) (fun k v H locs hw1 hP hD hS => ?_)
  refine lv_aload_n hx hb dL_law_1440 rfl (lv_at hl 3 rfl) ?_
  refine w_cl hD hS hA (w_V (n := 0) (C := RX6) (T := TX6) (N := 17) (ci := 6) (q0 := 111) (As := []) (rest := [.long k]) hx hb hml hown hts hX0 hN hS hA hK hP hD hl (hM _ _ _) gL_law_X6_digest rfl hrM.1 hrM.2.1 (by decide +kernel) rfl hrM.2.2 rfl rfl rfl (Nat.le_of_ble_eq_true rfl) dL_law_1441 ⟨by omega, by omega⟩) (fun b9 w H locs hw2 hP hD hS => ?_)
  obtain ⟨r1, r3⟩ := hrel k v b9 w hw1 hw2
  refine W.lcmp hx hb dL_law_1444 ?_
  refine lv_if_eq (tgt := 1450) hx hb dL_law_1445 (by decide) (fun c_1 => ?_) (fun c_1 => ?_)
  · skip
    refine W.widen (k := cells + 1) (n := slots + 6) (by omega) (by omega) ?_
    exact kk (x2 v) (u2 w) f H locs ls r3 hP hD hS (lv_sub hl [0, 1, 2, 3, 4] rfl)
  · exact absurd ((lg_cmp_eq _ _).mpr r1) c_1
