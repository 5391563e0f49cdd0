/-! # methods that throw: entry, the throw, a call that throws, and on to the caller -/
def kStr : List (Nat × String) := [(61, "the chain has 20 links"), (76, "the chain has only one link"), (123, "both joints are the same"), (139, "the value is out of range"), (144, "the code is not 33 to 126"), (146, "the buffer has 60 characters"), (156, "the buffer is not a complete shape"), (168, "no state is saved"), (286, "there is no such link"), (289, "there is no such joint"), (291, "there is no such setting"), (293, "the step is not -2 to 2"), (295, "the amount is not 0 to 99"), (297, "there is no such number")]
abbrev kIA : String := "java/lang/IllegalArgumentException"
abbrev kIS : String := "java/lang/IllegalStateException"
abbrev kIO : String := "java/lang/IndexOutOfBoundsException"
abbrev kRE : List String := ["java/lang/RuntimeException", "java/lang/Exception"]
/-- the words of a throw that no list holds -/
def kBs : List Cond := [.castable kIA kIA, .castable kIS kIS, .castable kIO kIO, .declares (Bundle.initS "java/lang/RuntimeException"), .declares (Bundle.initS "java/lang/Exception"), .declares (Bundle.initS Bundle.tN)]
theorem kBs_moved {s U : State} (hW : s.WarmedH U.vm) (h : ∀ w ∈ kBs, va_Nw w s) : ∀ w ∈ kBs, va_Nw w U := by
  intro w hw
  have h1 := h w hw
  simp only [kBs, List.mem_cons, List.not_mem_nil, or_false] at hw
  rcases hw with rfl | rfl | rfl | rfl | rfl | rfl
  · exact va_Nw.warmC hW h1
  · exact va_Nw.warmC hW h1
  · exact va_Nw.warmC hW h1
  · exact va_Nw.warmD hW h1
  · exact va_Nw.warmD hW h1
  · exact va_Nw.warmD hW h1
theorem kBs_tabs : ∀ w ∈ kBs, w.onTables = true := by decide +kernel
/-- what a throw wants of the start: two statics of Throwable's class, the texts -/
def kXs (A : Nat → Prop) (U : State) (H : Heap) : Prop := vx_Zq Bundle.tN "UNASSIGNED_STACK" Bundle.steD A U H ∧ vx_Zq Bundle.tN "SUPPRESSED_SENTINEL" Bundle.listD A U H ∧ (∀ q ∈ kStr, ∃ a, vk_R RX5 q.1 q.2 a U) ∧ ∀ w ∈ kBs, va_Nw w U
theorem kXs.moved {A : Nat → Prop} {s U : State} {H : Heap} (hW : s.WarmedH U.vm) (h : kXs A s H) : kXs A U H := ⟨h.1.moved hW.alike, h.2.1.moved hW.alike, fun q hq => by
  obtain ⟨a, ha⟩ := h.2.2.1 q hq
  exact ⟨a, ha.warm hW⟩, kBs_moved hW h.2.2.2⟩
theorem kXs.kept {A : Nat → Prop} {U : State} {H H1 : Heap} (h : kXs A U H) (hq : ∀ a : Nat, a < H.size → ¬ A a → H1[a]? = H[a]?) : kXs A U H1 := ⟨h.1.kept hq, h.2.1.kept hq, h.2.2⟩
theorem kXs.narrow {A B : Nat → Prop} {U : State} {H : Heap} (h : kXs A U H) (hAB : ∀ q, B q → A q) : kXs B U H := ⟨h.1.narrow hAB, h.2.1.narrow hAB, h.2.2⟩
def xX {S : Type} (G : kG) (E0 : String) (w2 : S → va_W) (A : Nat → Prop) : String → State → State → Prop := vx_X (fun _ : S => True) (fun E u t => E = E0 ∧ kPost G A (w2 u) t) A
def xPre (G : kG) (ws : va_W) (sz : Nat) (U : State) : Prop := kPre G ws sz U ∧ kXs (va_A ws sz) U U.heap
def xNo : Array Value → State → Outcome → State → Prop := fun _ _ _ _ => False
def xMet {S : Type} (l : Launch) (y : MethodName) (wy : List Cond) (rm : Room) (G : kG) (av : List Value) (ws : va_W) (sz : Nat) (E0 : String) (w2 : S → va_W) (mc ms : Nat) : Prop :=
  vx_Met l y wy rm (va_Pc av (xPre G ws sz)) xNo (xX G E0 w2 (va_A ws sz)) mc ms (va_A ws sz)
theorem x_blind {av : List Value} {G : kG} {ws : va_W} {sz : Nat} : FrameBlind (va_Pc av (xPre G ws sz)) := fun a U g mk q => by
  obtain ⟨q0, ⟨q1, qP, qK, qD⟩, qX⟩ := q
  exact ⟨q0, ⟨q1, qP, va_K.moved (u := U) (U := U.calling g mk a) (Vm.Alike.refl U.vm) qK, qD⟩, kXs.moved (s := U) (U := U.calling g mk a) (State.WarmedH.refl U) qX⟩
theorem x_entry {S : Type} {l : Launch} {y : MethodName} {wy wy' : List Cond} {rm : Room} {G : kG} {av : List Value} {ws : va_W} {sz : Nat} {E0 : String} {w2 : S → va_W} {mc ms : Nat} {cc : ByteArray} {maxL : Nat} {ret : Option FieldType}
    (hy : plainName y.cls = true) (hw : wy = Cond.code y cc maxL ret :: wy') (hfit : (lg_sl av).length ≤ maxL)
    (body : ∀ (p : Program) (e : Env) (s : State) (m : MethodId) (args : Array Value) (below : List Frame) (meth : Method) (c : Code) (A : Nat → Prop) (ls : Array Slot) (H : Heap) (locs : List Loc) (Q : State → Prop), Q = vx_MQ below xNo (xX G E0 w2 A) args s mc ms A →
      p.tables.exec = Jvm.exec → c.code = cc → c.maxLocals = maxL → (∀ x ∈ c.exceptionTable.toList, False) → kXs A s s.heap → (∀ w ∈ wy, w.before args s = true) → s.vm.findClass y.cls = some m.cls → meth.locks = false →
      (∀ q, s.heap.size ≤ q → A q) → va_P G.1 vwCl ws H → va_K G.1 vwCl (kT G) s → va_D A ws → va_S A s.heap H locs → lv_has ls maxL (lv_args 0 av) →
      W p l e rm s m args below meth c H locs 0 0 Q (F0 m 0 ls [])) :
    xMet l y wy rm G av ws sz E0 w2 mc ms := by
  refine vx_ofW (cc := cc) (maxL := maxL) (ret := ret) hy hw ?_
  intro p e s m args below meth c s₁ B hml ht hv
  obtain ⟨rfl, ⟨hsz, hP, hK, hD0⟩, hX⟩ := hv
  have hts := atoms_spec (ws := wy) B.pre
  have hown : s.vm.findClass y.cls = some m.cls := findClass_of_methodNamed B.named
  subst hsz
  have hD := hD0.self (sz := s.heap.size)
  have hl := lv_entry av (n := maxL) hfit
  rw [lg_entry_eq]
  exact body p e s m _ below meth c _ _ s.heap [] _ rfl B.exec B.bytes hml ht hX hts hown B.notSynchronized (fun q h => Or.inr h) hP hK hD va_S.rf hl
section XB
variable {p : Program} {l : Launch} {e : Env} {R : Room} {s : State} {m : MethodId} {args : Array Value} {below : List Frame} {meth : Method} {c : Code} {H : Heap} {locs : List Loc} {cells slots : Nat} {Q : State → Prop}
variable {cc : ByteArray} {pc nL : Nat} {ls : Array Slot} {lv : List (Nat × Value)} {rest st0 : List Value} {G : kG} {A : Nat → Prop} {ws wc wr : va_W}
variable {S : Type} {E0 : String} {w2 : S → va_W} {mc ms : Nat}
/-- not caught here -/
theorem x_out {w3 : va_W} {ce : Cell} {q : Nat} (hout : ∀ x ∈ c.exceptionTable.toList, False) (hlocks : meth.locks = false) (hcell : H[q]? = some ce) (hv : ce.vm = .none) (hcl : s.vm.findClass E0 = some ce.cls) (hK : va_K G.1 vwCl (kT G) s) (hP : va_P G.1 vwCl ws H) (hD : va_D A ws) (hS : va_S A s.heap H locs)
    (u : S) (is9 : List Nat) (hw : w2 u = w3) (h9 : is9.map (fun i => ws[i]?) = w3.map some) (hn : va_nd is9 = true) (hc : cells ≤ mc) (hs : slots ≤ ms) :
    vx_W p l e R s m args below meth c H locs cells slots (vx_MQ below xNo (xX G E0 w2 A) args s mc ms A) (F0 m pc ls rest) q := by
  subst hw
  exact vx_out (E := E0) (fun x hx => (hout x hx).elim) hlocks hcell hv hcl (fun t ht hvm => ⟨u, trivial, ⟨rfl, ⟨by rw [ht]; exact hP.sub is9 (k_fm h9), va_K.moved hvm hK, hD.sub is9 hn h9⟩⟩, hS.F ht⟩) hS.2.2 hc hs
/-- a call that throws -/
theorem x_call (isR : List Nat) (hR : isR.map (fun i => ws[i]?) = wr.map some) (hnR : va_nd isR = true) (isC : List Nat) (hC : isC.map (fun i => ws[i]?) = wc.map some) (hdis : ∀ i ∈ isR, i ∉ isC)
    (hP : va_P G.1 vwCl ws H) (hD : va_D A ws) (hS : va_S A s.heap H locs) (hA : ∀ q, s.heap.size ≤ q → A q) {a : Array Value}
    (hr : vx_Run p l e R s m args below meth c H locs cells slots mc ms (F0 m pc ls st0) rest (xNo a) (xX G E0 w2 (va_A wc H.size)) (va_A wc H.size))
    (kk : ∀ (u : S) (ce : Cell) (q9 : Nat) (H : Heap) (locs : List Loc), va_P G.1 vwCl (wr ++ w2 u) H → va_D A (wr ++ w2 u) → va_S A s.heap H locs → H[q9]? = some ce → ce.vm = .none → s.vm.findClass E0 = some ce.cls → vx_W p l e R s m args below meth c H locs (cells + mc) (slots + ms) Q (F0 m pc ls rest) q9) :
    W p l e R s m args below meth c H locs cells slots Q (F0 m pc ls st0) := by
  intro T hT X
  rcases hr T hT X with ⟨v, st₀, t, T', L, h0, X', hL, e1, e2, hf, st⟩ | ⟨q, st₀, t, T', L, E, ce, h0, X', hL, e1, e2, ⟨u, hp, ⟨hE, hb⟩, hF⟩, hce, hcv, hcl, st⟩
  · exact hf.elim
  · subst hE
    have hfr := va_free hD hS hA isC hC
    obtain ⟨k1, k2, k3⟩ := vx_keep h0 e1 hS (fun q _ h => hfr q h) hfr hL hF
    obtain ⟨hP1, hD1⟩ := k_behind hP hD hS hA isC isR hC hR hnR hdis e1.symm hb k2
    obtain ⟨t2, a1, b1⟩ := kk u ce q T'.heap (locs ++ L) hP1 hD1 k3 (by rw [e1]; exact hce) hcv hcl T' rfl X'
    exact ⟨t2, st.trans a1, b1⟩
variable {y : MethodName} {wy wy' Ts : List Cond} {rm : Room} {bytes : ByteArray} {maxL index n : Nat} {ret : Option FieldType} {own : String} {b : Nat} {As : List Value}
theorem x_pre (hX : kXs A s s.heap) (hS : va_S A s.heap H locs) (hA : ∀ q, s.heap.size ≤ q → A q) (hK : va_K G.1 vwCl (kT G) s) (hP : va_P G.1 vwCl ws H) (hD : va_D A ws) (isC : List Nat) (hC : isC.map (fun i => ws[i]?) = wc.map some) (hnC : va_nd isC = true) {av : List Value} : ∀ U : State, U.heap = H → s.WarmedH U.vm → va_Pc av (xPre G wc H.size) av.toArray U :=
  fun U hU hW => ⟨rfl, ⟨by rw [hU], by rw [hU]; exact hP.sub isC (k_fm hC), va_K.moved hW.alike hK, (hD.sub isC hnC hC).weaken (fun _ _ _ _ => trivial)⟩, by
    rw [hU]
    exact kXs.moved hW ((hX.kept hS.2.1).narrow (va_free hD hS hA isC hC))⟩
theorem x_V {C : String} {T : u_T} {N ci : Nat} {fs : List Value} (hx : p.tables.exec = Jvm.exec) (hb : c.code = cc) (hml : c.maxLocals = nL) (hown : s.vm.findClass own = some m.cls) (hts : ∀ w ∈ Ts, w.before args s = true)
    (hX : kXs A s s.heap) (hS : va_S A s.heap H locs) (hA : ∀ q, s.heap.size ≤ q → A q) (hK : va_K G.1 vwCl (kT G) s) (hP : va_P G.1 vwCl ws H) (hD : va_D A ws) (hl : lv_has ls nL lv)
    (hM : xMet l y wy rm G (.ref b :: As) wc H.size E0 w2 mc ms) (isC : List Nat) (hC : isC.map (fun i => ws[i]?) = wc.map some) (hnC : va_nd isC = true)
    (hT : GoodIn Ts (wsV own index C y wy)) (hw : wy = Cond.code y bytes maxL ret :: wy') (hrc : rm.cells = mc) (hrs : rm.slots = ms)
    (hd : y.cls = C ∧ y.cls ≠ "java/lang/invoke/MethodHandle" ∧ y.cls ≠ "java/lang/invoke/VarHandle" ∧ (parseMethodDescriptor y.desc).map (fun d => d.parameters.length) = some n) (hn : As.length = n) (hR : rm.frames + 1 ≤ R.frames ∧ 8 + (maxL + 11) + rm.locals ≤ R.locals)
    (he : wc[0]? = some (b, .inr (ci, fs))) (hcl : vwCl[ci]? = some (C, T, N)) (hst : st0 = As.reverse ++ .ref b :: rest) (hW : (rest.map fun v => v.category).sum ≤ 8) (hdg : decode cc pc = .ok (.invokevirtual index, 3)) (hf : cells + mc ≤ R.cells ∧ slots + ms ≤ R.slots) :
    vx_Run p l e R s m args below meth c H locs cells slots mc ms (F0 m pc ls st0) rest (xNo (Value.ref b :: As).toArray) (xX G E0 w2 (va_A wc H.size)) (va_A wc H.size) :=
  vx_runV (As := As) (rest := rest) ⟨hx, hb, hml, hown, hts⟩ hM (cwV n hts hT hw hrc hrs hd hR) ⟨x_blind, va_recv hK (hP.sub isC (k_fm hC)) hcl he, x_pre hX hS hA hK hP hD isC hC hnC⟩ rfl hn hl.1 hst (lv_room hW) hdg hf
theorem x_S (hx : p.tables.exec = Jvm.exec) (hb : c.code = cc) (hml : c.maxLocals = nL) (hown : s.vm.findClass own = some m.cls) (hts : ∀ w ∈ Ts, w.before args s = true)
    (hX : kXs A s s.heap) (hS : va_S A s.heap H locs) (hA : ∀ q, s.heap.size ≤ q → A q) (hK : va_K G.1 vwCl (kT G) s) (hP : va_P G.1 vwCl ws H) (hD : va_D A ws) (hl : lv_has ls nL lv)
    (hM : xMet l y wy rm G As wc H.size E0 w2 mc ms) (isC : List Nat) (hC : isC.map (fun i => ws[i]?) = wc.map some) (hnC : va_nd isC = true)
    (hT : GoodIn Ts (va_wsS own index y wy)) (hw : wy = Cond.code y bytes maxL ret :: wy') (hrc : rm.cells = mc) (hrs : rm.slots = ms)
    (hd : y.cls ≠ "java/lang/invoke/MethodHandle" ∧ y.cls ≠ "java/lang/invoke/VarHandle" ∧ (parseMethodDescriptor y.desc).map (fun d => d.parameters.length) = some n) (hn : As.length = n) (hR : rm.frames + 1 ≤ R.frames ∧ 8 + (maxL + 11) + rm.locals ≤ R.locals)
    (hst : st0 = As.reverse ++ rest) (hW : (rest.map fun v => v.category).sum ≤ 8) (hdg : decode cc pc = .ok (.invokestatic index, 3)) (hf : cells + mc ≤ R.cells ∧ slots + ms ≤ R.slots) :
    vx_Run p l e R s m args below meth c H locs cells slots mc ms (F0 m pc ls st0) rest (xNo As.toArray) (xX G E0 w2 (va_A wc H.size)) (va_A wc H.size) :=
  vx_runS (As := As) (rest := rest) ⟨hx, hb, hml, hown, hts⟩ hM (va_cwS n hts hT hw hrc hrs hd hR) ⟨x_blind, x_pre hX hS hA hK hP hD isC hC hnC⟩ rfl hn hl.1 hst (lv_room hW) hdg hf
/-- the throw -/
theorem x_thr {w3 : va_W} {cls text : String} {ik is ic : Nat} (hx : p.tables.exec = Jvm.exec) (hb : c.code = cc) (hl : l.stackTraces = false) (hown : s.vm.findClass RX5 = some m.cls) (hcls : Bundle.fit cls = true) (hts : ∀ w ∈ Ts, w.before args s = true)
    (h1 : ∀ w ∈ Cond.classLink RX5 ik cls :: Cond.initialized cls :: (vx_atS RX5 ic cls kRE).filter goodWord, w ∈ Ts) (h2 : ∀ w ∈ (vx_atS RX5 ic cls kRE).filter (fun w => !goodWord w), w ∈ kBs)
    (hgood : ∀ w ∈ Cond.classLink RX5 ik cls :: Cond.initialized cls :: vx_atS RX5 ic cls kRE, vx_ot w = true) (htx : (is, text) ∈ kStr) (hX : kXs A s s.heap) (hK : va_K G.1 vwCl (kT G) s) (hP : va_P G.1 vwCl ws H) (hD : va_D A ws) (hS : va_S A s.heap H locs) (hsize : ls.size = c.maxLocals)
    (d0 : decode cc pc = .ok (.new ik, 3)) (d3 : decode cc (pc + 3) = .ok (.dup, 1)) (d4 : decode cc (pc + 4) = .ok (.ldc is, 2)) (d6 : decode cc (pc + 6) = .ok (.invokespecial ic, 3)) (d9 : decode cc (pc + 9) = .ok (.athrow, 1))
    (hout : ∀ x ∈ c.exceptionTable.toList, False) (hRf : 5 < R.frames) (hRl : (rest.map fun v => v.category).sum + 82 ≤ R.locals) (hRc : cells + 1 ≤ R.cells) (hRs : slots + 6 ≤ R.slots) (hlocks : meth.locks = false)
    (u : S) (is9 : List Nat) (hw : w2 u = w3) (h9 : is9.map (fun i => ws[i]?) = w3.map some) (hn : va_nd is9 = true) (hc : cells + 1 ≤ mc) (hs : slots + 6 ≤ ms) :
    W p l e R s m args below meth c H locs cells slots (vx_MQ below xNo (xX G cls w2 A) args s mc ms A) (F0 m pc ls rest) := by
  subst hw
  obtain ⟨sa, hstr⟩ := hX.2.2.1 _ htx
  refine vx_throwS hx hb hl (names := kRE) (sa := sa) (text := text) hown hcls (by decide +kernel) (hts _ (h1 _ List.mem_cons_self)) (hts _ (h1 _ (List.mem_cons_of_mem _ List.mem_cons_self))) hstr
    (vx_hat (B := kBs) (fun w hw => hts w (h1 w (List.mem_cons_of_mem _ (List.mem_cons_of_mem _ hw)))) h2 (fun w hw => va_Nw.use (kBs_tabs w hw) (hX.2.2.2 w hw))) hgood hX.1 hX.2.1 hS hsize d0 d3 d4 d6 d9 (fun x hx => (hout x hx).elim) hRf hRl hRc hRs hlocks
    (fun t hvm hz hk => ⟨u, trivial, ⟨rfl, ⟨(hP.sub is9 (k_fm h9)).kept (fun k q hq => hk q.1 ((hP.sub is9 (k_fm h9)) k q hq).lt), va_K.moved hvm hK, hD.sub is9 hn h9⟩⟩, ⟨Nat.le_trans hS.1 hz, fun q a b => (hk q (Nat.lt_of_lt_of_le a hS.1)).trans (hS.2.1 q a b)⟩⟩) hS.2.2 hc hs
/-- the throw, its text by ldc_w -/
theorem x_thrW {w3 : va_W} {cls text : String} {ik is ic : Nat} (hx : p.tables.exec = Jvm.exec) (hb : c.code = cc) (hl : l.stackTraces = false) (hown : s.vm.findClass RX5 = some m.cls) (hcls : Bundle.fit cls = true) (hts : ∀ w ∈ Ts, w.before args s = true)
    (h1 : ∀ w ∈ Cond.classLink RX5 ik cls :: Cond.initialized cls :: (vx_atS RX5 ic cls kRE).filter goodWord, w ∈ Ts) (h2 : ∀ w ∈ (vx_atS RX5 ic cls kRE).filter (fun w => !goodWord w), w ∈ kBs)
    (hgood : ∀ w ∈ Cond.classLink RX5 ik cls :: Cond.initialized cls :: vx_atS RX5 ic cls kRE, vx_ot w = true) (htx : (is, text) ∈ kStr) (hX : kXs A s s.heap) (hK : va_K G.1 vwCl (kT G) s) (hP : va_P G.1 vwCl ws H) (hD : va_D A ws) (hS : va_S A s.heap H locs) (hsize : ls.size = c.maxLocals)
    (d0 : decode cc pc = .ok (.new ik, 3)) (d3 : decode cc (pc + 3) = .ok (.dup, 1)) (d4 : decode cc (pc + 4) = .ok (.ldc_w is, 3)) (d7 : decode cc (pc + 7) = .ok (.invokespecial ic, 3)) (d10 : decode cc (pc + 10) = .ok (.athrow, 1))
    (hout : ∀ x ∈ c.exceptionTable.toList, False) (hRf : 5 < R.frames) (hRl : (rest.map fun v => v.category).sum + 82 ≤ R.locals) (hRc : cells + 1 ≤ R.cells) (hRs : slots + 6 ≤ R.slots) (hlocks : meth.locks = false)
    (u : S) (is9 : List Nat) (hw : w2 u = w3) (h9 : is9.map (fun i => ws[i]?) = w3.map some) (hn : va_nd is9 = true) (hc : cells + 1 ≤ mc) (hs : slots + 6 ≤ ms) :
    W p l e R s m args below meth c H locs cells slots (vx_MQ below xNo (xX G cls w2 A) args s mc ms A) (F0 m pc ls rest) := by
  subst hw
  obtain ⟨sa, hstr⟩ := hX.2.2.1 _ htx
  refine vx_throwSW hx hb hl (names := kRE) (sa := sa) (text := text) hown hcls (by decide +kernel) (hts _ (h1 _ List.mem_cons_self)) (hts _ (h1 _ (List.mem_cons_of_mem _ List.mem_cons_self))) hstr
    (vx_hat (B := kBs) (fun w hw => hts w (h1 w (List.mem_cons_of_mem _ (List.mem_cons_of_mem _ hw)))) h2 (fun w hw => va_Nw.use (kBs_tabs w hw) (hX.2.2.2 w hw))) hgood hX.1 hX.2.1 hS hsize d0 d3 d4 d7 d10 (fun x hx => (hout x hx).elim) hRf hRl hRc hRs hlocks
    (fun t hvm hz hk => ⟨u, trivial, ⟨rfl, ⟨(hP.sub is9 (k_fm h9)).kept (fun k q hq => hk q.1 ((hP.sub is9 (k_fm h9)) k q hq).lt), va_K.moved hvm hK, hD.sub is9 hn h9⟩⟩, ⟨Nat.le_trans hS.1 hz, fun q a b => (hk q (Nat.lt_of_lt_of_le a hS.1)).trans (hS.2.1 q a b)⟩⟩) hS.2.2 hc hs
end XB
theorem t_IA : ∀ w ∈ (vx_atS RX5 125 kIA kRE).filter (fun w => !goodWord w), w ∈ kBs := by decide +kernel
theorem t_IS : ∀ w ∈ (vx_atS RX5 63 kIS kRE).filter (fun w => !goodWord w), w ∈ kBs := by decide +kernel
theorem t_IO : ∀ w ∈ (vx_atS RX5 288 kIO kRE).filter (fun w => !goodWord w), w ∈ kBs := by decide +kernel
theorem o_IA : ∀ w ∈ vx_atS RX5 125 kIA kRE, vx_ot w = true := by decide +kernel
theorem o_IS : ∀ w ∈ vx_atS RX5 63 kIS kRE, vx_ot w = true := by decide +kernel
theorem o_IO : ∀ w ∈ vx_atS RX5 288 kIO kRE, vx_ot w = true := by decide +kernel
