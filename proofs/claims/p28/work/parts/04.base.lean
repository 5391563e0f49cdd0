/-! My own short forms over the kit: one row a call, a return, an entry. kG: the tables' numbers and the array kinds. -/
abbrev kG : Type := va_G × (ClassId × ClassId × ClassId)
abbrev kT (G : kG) : List (ClassId × FieldType) := [(G.2.1, .int), (G.2.2.1, .object "HangingChain$Chain")]
abbrev Fn : Type := Nat → Int32
def kPre (G : kG) (ws : va_W) (sz : Nat) (U : State) : Prop := U.heap.size = sz ∧ va_P G.1 vwCl ws U.heap ∧ va_K G.1 vwCl (kT G) U ∧ va_D (fun _ => True) ws
def kPost (G : kG) (A : Nat → Prop) (ws : va_W) (t : State) : Prop := va_P G.1 vwCl ws t.heap ∧ va_K G.1 vwCl (kT G) t ∧ va_D A ws
def kQi {S : Type} (G : kG) (post : Int32 → S → Prop) (w2 : S → va_W) (A : Nat → Prop) : Array Value → State → Outcome → State → Prop := va_Qi post (fun u t => kPost G A (w2 u) t) A
def kQl {S : Type} (G : kG) (post : Int64 → S → Prop) (w2 : S → va_W) (A : Nat → Prop) : Array Value → State → Outcome → State → Prop := va_Ql post (fun u t => kPost G A (w2 u) t) A
def kQd {S : Type} (G : kG) (post : UInt64 → S → Prop) (w2 : S → va_W) (A : Nat → Prop) : Array Value → State → Outcome → State → Prop := va_Qd post (fun u t => kPost G A (w2 u) t) A
def kQv {S : Type} (G : kG) (post : S → Prop) (w2 : S → va_W) (A : Nat → Prop) : Array Value → State → Outcome → State → Prop := va_Qv post (fun u t => kPost G A (w2 u) t) A
def kQr {S : Type} (G : kG) (post : Nat → S → Prop) (w2 : S → va_W) (A : Nat → Prop) : Array Value → State → Outcome → State → Prop := va_Qr (fun _ => True) (fun u ra t => post ra u ∧ kPost G A (w2 u) t) A
def kMet (l : Launch) (y : MethodName) (wy : List Cond) (rm : Room) (G : kG) (av : List Value) (ws : va_W) (sz : Nat) (Qc : (Nat → Prop) → Array Value → State → Outcome → State → Prop) (mc ms : Nat) : Prop :=
  Met l y wy rm (va_Pc av (kPre G ws sz)) (Qc (va_A ws sz)) mc ms (va_A ws sz)
theorem k_fm {ws w : va_W} {is : List Nat} (h : is.map (fun i => ws[i]?) = w.map some) : is.filterMap (fun i => ws[i]?) = w := by
  have h1 : is.filterMap (fun i => ws[i]?) = (is.map (fun i => ws[i]?)).filterMap id := by
    rw [List.filterMap_map]
    rfl
  rw [h1, h, List.filterMap_map]
  simp
theorem k_blind {av : List Value} {G : kG} {ws : va_W} {sz : Nat} : FrameBlind (va_Pc av (kPre G ws sz)) := fun a U g mk q => by
  obtain ⟨q0, q1, qP, qK, qD⟩ := q
  exact ⟨q0, q1, qP, va_K.moved (u := U) (U := U.calling g mk a) (Vm.Alike.refl U.vm) qK, qD⟩
/-- a method's start -/
theorem k_entry {l : Launch} {y : MethodName} {wy wy' : List Cond} {rm : Room} {G : kG} {av : List Value} {ws : va_W} {sz : Nat} {Qc : (Nat → Prop) → Array Value → State → Outcome → State → Prop} {mc ms : Nat} {cc : ByteArray} {maxL : Nat} {ret : Option FieldType}
    (hy : plainName y.cls = true) (hw : wy = Cond.code y cc maxL ret :: wy') (hfit : (lg_sl av).length ≤ maxL)
    (body : ∀ (p : Program) (e : Env) (s : State) (m : MethodId) (args : Array Value) (below : List Frame) (meth : Method) (c : Code) (A : Nat → Prop) (ls : Array Slot) (H : Heap) (locs : List Loc) (Q : State → Prop), Q = MQ below (Qc A) args s mc ms A →
      p.tables.exec = Jvm.exec → c.code = cc → c.maxLocals = maxL → meth.sig.returnType = ret → (∀ w ∈ wy, w.before args s = true) → s.vm.findClass y.cls = some m.cls → meth.locks = false → meth.name = y.name →
      (∀ q, s.heap.size ≤ q → A q) → va_P G.1 vwCl ws H → va_K G.1 vwCl (kT G) s → va_D A ws → va_S A s.heap H locs → lv_has ls maxL (lv_args 0 av) →
      W p l e rm s m args below meth c H locs 0 0 Q (F0 m 0 ls [])) :
    kMet l y wy rm G av ws sz Qc mc ms := by
  refine Met.ofW (cc := cc) (maxL := maxL) (ret := ret) hy hw ?_
  intro p e s m args below meth c s₁ B hml hv
  obtain ⟨rfl, hsz, hP, hK, hD0⟩ := hv
  have hts := atoms_spec (ws := wy) B.pre
  have hown : s.vm.findClass y.cls = some m.cls := findClass_of_methodNamed B.named
  have hin : meth.name = y.name := (name_of_methodNamed B.named B.method).1
  subst hsz
  have hD := hD0.self (sz := s.heap.size)
  have hl := lv_entry av (n := maxL) hfit
  rw [lg_entry_eq]
  exact body p e s m _ below meth c _ _ s.heap [] _ rfl B.exec B.bytes hml B.returns hts hown B.notSynchronized hin (fun q h => Or.inr h) hP hK hD va_S.rf hl
section KB
variable {p : Program} {l : Launch} {e : Env} {R : Room} {s : State} {m : MethodId} {args : Array Value} {below : List Frame} {meth : Method} {c : Code} {H : Heap} {locs : List Loc} {cells slots : Nat} {Q : State → Prop}
variable {cc : ByteArray} {pc nL : Nat} {ls : Array Slot} {lv : List (Nat × Value)} {rest st0 : List Value} {G : kG} {A : Nat → Prop} {ws wc wr : va_W}
theorem k_post {A : Nat → Prop} {t : State} {ws w9 : va_W} (is9 : List Nat) (h9 : is9.map (fun i => ws[i]?) = w9.map some) (hn : va_nd is9 = true) (hK : va_K G.1 vwCl (kT G) s) (hP : va_P G.1 vwCl ws H) (hD : va_D A ws) (ht : t.heap = H) (hW : s.WarmedH t.vm) : kPost G A w9 t :=
  ⟨by rw [ht]; exact hP.sub is9 (k_fm h9), va_K.moved hW.alike hK, hD.sub is9 hn h9⟩
theorem k_iret {S : Type} {post : Int32 → S → Prop} {w2 : S → va_W} {v : Int32} (u : S) (is9 : List Nat) (hx : p.tables.exec = Jvm.exec) (hb : c.code = cc) (hr : meth.sig.returnType = some .int) (hlocks : meth.locks = false) (hp : post v u)
    (hK : va_K G.1 vwCl (kT G) s) (hP : va_P G.1 vwCl ws H) (hD : va_D A ws) (hS : va_S A s.heap H locs) (h9 : is9.map (fun i => ws[i]?) = (w2 u).map some) (hn : va_nd is9 = true) (hdg : decode cc pc = .ok (.ireturn, 1)) :
    W p l e R s m args below meth c H locs cells slots (MQ below (kQi G post w2 A) args s cells slots A) (F0 m pc ls [.int v]) :=
  W.iret (v := v) hx hb hr (fun t ht hW => ⟨⟨v, u, rfl, hp, k_post is9 h9 hn hK hP hD ht hW⟩, hS.F ht⟩) hS.2.2 hdg hlocks
theorem k_zret {S : Type} {post : Int32 → S → Prop} {w2 : S → va_W} {v : Int32} (u : S) (is9 : List Nat) (hx : p.tables.exec = Jvm.exec) (hb : c.code = cc) (hr : meth.sig.returnType = some .boolean) (hlocks : meth.locks = false) (hv : v = 0 ∨ v = 1) (hp : post v u)
    (hK : va_K G.1 vwCl (kT G) s) (hP : va_P G.1 vwCl ws H) (hD : va_D A ws) (hS : va_S A s.heap H locs) (h9 : is9.map (fun i => ws[i]?) = (w2 u).map some) (hn : va_nd is9 = true) (hdg : decode cc pc = .ok (.ireturn, 1)) :
    W p l e R s m args below meth c H locs cells slots (MQ below (kQi G post w2 A) args s cells slots A) (F0 m pc ls [.int v]) :=
  W.zret (v := v) hx hb hr (by rcases hv with rfl | rfl <;> rfl) (fun t ht hW => ⟨⟨v, u, rfl, hp, k_post is9 h9 hn hK hP hD ht hW⟩, hS.F ht⟩) hS.2.2 hdg hlocks
theorem k_lret {S : Type} {post : Int64 → S → Prop} {w2 : S → va_W} {v : Int64} (u : S) (is9 : List Nat) (hx : p.tables.exec = Jvm.exec) (hb : c.code = cc) (hr : meth.sig.returnType = some .long) (hlocks : meth.locks = false) (hp : post v u)
    (hK : va_K G.1 vwCl (kT G) s) (hP : va_P G.1 vwCl ws H) (hD : va_D A ws) (hS : va_S A s.heap H locs) (h9 : is9.map (fun i => ws[i]?) = (w2 u).map some) (hn : va_nd is9 = true) (hdg : decode cc pc = .ok (.lreturn, 1)) :
    W p l e R s m args below meth c H locs cells slots (MQ below (kQl G post w2 A) args s cells slots A) (F0 m pc ls [.long v]) :=
  W.lret (v := v) hx hb hr (fun t ht hW => ⟨⟨v, u, rfl, hp, k_post is9 h9 hn hK hP hD ht hW⟩, hS.F ht⟩) hS.2.2 hdg hlocks
theorem k_dret {S : Type} {post : UInt64 → S → Prop} {w2 : S → va_W} {v : UInt64} (u : S) (is9 : List Nat) (hx : p.tables.exec = Jvm.exec) (hb : c.code = cc) (hr : meth.sig.returnType = some .double) (hlocks : meth.locks = false) (hp : post v u)
    (hK : va_K G.1 vwCl (kT G) s) (hP : va_P G.1 vwCl ws H) (hD : va_D A ws) (hS : va_S A s.heap H locs) (h9 : is9.map (fun i => ws[i]?) = (w2 u).map some) (hn : va_nd is9 = true) (hdg : decode cc pc = .ok (.dreturn, 1)) :
    W p l e R s m args below meth c H locs cells slots (MQ below (kQd G post w2 A) args s cells slots A) (F0 m pc ls [.double v]) :=
  W.dret (v := v) hx hb hr (fun t ht hW => ⟨⟨v, u, rfl, hp, k_post is9 h9 hn hK hP hD ht hW⟩, hS.F ht⟩) hS.2.2 hdg hlocks
theorem k_vret {S : Type} {post : S → Prop} {w2 : S → va_W} (u : S) (is9 : List Nat) (hx : p.tables.exec = Jvm.exec) (hb : c.code = cc) (hr : meth.sig.returnType = none) (hlocks : meth.locks = false) (hp : post u)
    (hK : va_K G.1 vwCl (kT G) s) (hP : va_P G.1 vwCl ws H) (hD : va_D A ws) (hS : va_S A s.heap H locs) (h9 : is9.map (fun i => ws[i]?) = (w2 u).map some) (hn : va_nd is9 = true) (hdg : decode cc pc = .ok (.return_, 1)) :
    W p l e R s m args below meth c H locs cells slots (MQ below (kQv G post w2 A) args s cells slots A) (F0 m pc ls []) :=
  W.vret hx hb hr (fun t ht hW => ⟨⟨u, rfl, hp, k_post is9 h9 hn hK hP hD ht hW⟩, hS.F ht⟩) hS.2.2 hdg hlocks
theorem k_aret {S : Type} {post : Nat → S → Prop} {w2 : S → va_W} {v : Nat} {C : String} (u : S) (is9 : List Nat) (hx : p.tables.exec = Jvm.exec) (hb : c.code = cc) (hr : meth.sig.returnType = some (.object C)) (hlocks : meth.locks = false) (hp : post v u)
    (hK : va_K G.1 vwCl (kT G) s) (hP : va_P G.1 vwCl ws H) (hD : va_D A ws) (hS : va_S A s.heap H locs) (h9 : is9.map (fun i => ws[i]?) = (w2 u).map some) (hn : va_nd is9 = true) (hdg : decode cc pc = .ok (.areturn, 1)) :
    W p l e R s m args below meth c H locs cells slots (MQ below (kQr G post w2 A) args s cells slots A) (F0 m pc ls [.ref v]) :=
  W.aret (v := .ref v) hx hb hr (Or.inl ⟨C, rfl⟩) (Or.inr ⟨v, rfl⟩) (fun t ht hW => ⟨⟨u, v, rfl, trivial, hp, k_post is9 h9 hn hK hP hD ht hW⟩, hS.F ht⟩) hS.2.2 hdg hlocks
/-! the calls -/
variable {y : MethodName} {wy wy' Ts : List Cond} {rm : Room} {bytes : ByteArray} {maxL index n mc ms : Nat} {ret : Option FieldType} {own : String} {b : Nat} {As : List Value}
/-- what every call wants: where we stand; what of the world goes, what stays -/
theorem k_pre (hK : va_K G.1 vwCl (kT G) s) (hP : va_P G.1 vwCl ws H) (hD : va_D A ws) (isC : List Nat) (hC : isC.map (fun i => ws[i]?) = wc.map some) (hnC : va_nd isC = true) {av : List Value} : ∀ U : State, U.heap = H → s.WarmedH U.vm → va_Pc av (kPre G wc H.size) av.toArray U :=
  fun U hU hW => ⟨rfl, by rw [hU], by rw [hU]; exact hP.sub isC (k_fm hC), va_K.moved hW.alike hK, (hD.sub isC hnC hC).weaken (fun _ _ _ _ => trivial)⟩
def kRunV (p : Program) (l : Launch) (e : Env) (R : Room) (s : State) (m : MethodId) (args : Array Value) (below : List Frame) (meth : Method) (c : Code) (H : Heap) (locs : List Loc) (cells slots mc ms : Nat) (G : kG) (wc : va_W) (g : JFrame) (rest : List Value) (a : Array Value) (Qc : (Nat → Prop) → Array Value → State → Outcome → State → Prop) : Prop :=
  va_Run p l e R s m args below meth c H locs cells slots mc ms g rest (Qc (va_A wc H.size) a) (va_A wc H.size)
theorem k_V {Qc : (Nat → Prop) → Array Value → State → Outcome → State → Prop} {C : String} {T : u_T} {N ci : Nat} {fs : List Value} (hx : p.tables.exec = Jvm.exec) (hb : c.code = cc) (hml : c.maxLocals = nL) (hown : s.vm.findClass own = some m.cls) (hts : ∀ w ∈ Ts, w.before args s = true)
    (hK : va_K G.1 vwCl (kT G) s) (hP : va_P G.1 vwCl ws H) (hD : va_D A ws) (hl : lv_has ls nL lv)
    (hM : kMet l y wy rm G (.ref b :: As) wc H.size Qc mc ms) (isC : List Nat) (hC : isC.map (fun i => ws[i]?) = wc.map some) (hnC : va_nd isC = true)
    (hT : GoodIn Ts (wsV own index C y wy)) (hw : wy = Cond.code y bytes maxL ret :: wy') (hrc : rm.cells = mc) (hrs : rm.slots = ms)
    (hd : y.cls = C ∧ y.cls ≠ "java/lang/invoke/MethodHandle" ∧ y.cls ≠ "java/lang/invoke/VarHandle" ∧ (parseMethodDescriptor y.desc).map (fun d => d.parameters.length) = some n) (hn : As.length = n) (hR : rm.frames + 1 ≤ R.frames ∧ 8 + (maxL + 11) + rm.locals ≤ R.locals)
    (he : wc[0]? = some (b, .inr (ci, fs))) (hcl : vwCl[ci]? = some (C, T, N)) (hst : st0 = As.reverse ++ .ref b :: rest) (hW : (rest.map fun v => v.category).sum ≤ 8) (hdg : decode cc pc = .ok (.invokevirtual index, 3)) (hf : cells + mc ≤ R.cells ∧ slots + ms ≤ R.slots) :
    kRunV p l e R s m args below meth c H locs cells slots mc ms G wc (F0 m pc ls st0) rest (Value.ref b :: As).toArray Qc :=
  va_runV (As := As) (rest := rest) ⟨hx, hb, hml, hown, hts⟩ hM (cwV n hts hT hw hrc hrs hd hR) ⟨k_blind, va_recv hK (hP.sub isC (k_fm hC)) hcl he, k_pre hK hP hD isC hC hnC⟩ rfl hn hl.1 hst (lv_room hW) hdg hf
theorem k_S {Qc : (Nat → Prop) → Array Value → State → Outcome → State → Prop} (hx : p.tables.exec = Jvm.exec) (hb : c.code = cc) (hml : c.maxLocals = nL) (hown : s.vm.findClass own = some m.cls) (hts : ∀ w ∈ Ts, w.before args s = true)
    (hK : va_K G.1 vwCl (kT G) s) (hP : va_P G.1 vwCl ws H) (hD : va_D A ws) (hl : lv_has ls nL lv)
    (hM : kMet l y wy rm G As wc H.size Qc mc ms) (isC : List Nat) (hC : isC.map (fun i => ws[i]?) = wc.map some) (hnC : va_nd isC = true)
    (hT : GoodIn Ts (va_wsS own index y wy)) (hw : wy = Cond.code y bytes maxL ret :: wy') (hrc : rm.cells = mc) (hrs : rm.slots = ms)
    (hd : y.cls ≠ "java/lang/invoke/MethodHandle" ∧ y.cls ≠ "java/lang/invoke/VarHandle" ∧ (parseMethodDescriptor y.desc).map (fun d => d.parameters.length) = some n) (hn : As.length = n) (hR : rm.frames + 1 ≤ R.frames ∧ 8 + (maxL + 11) + rm.locals ≤ R.locals)
    (hst : st0 = As.reverse ++ rest) (hW : (rest.map fun v => v.category).sum ≤ 8) (hdg : decode cc pc = .ok (.invokestatic index, 3)) (hf : cells + mc ≤ R.cells ∧ slots + ms ≤ R.slots) :
    kRunV p l e R s m args below meth c H locs cells slots mc ms G wc (F0 m pc ls st0) rest As.toArray Qc :=
  va_runS (As := As) (rest := rest) ⟨hx, hb, hml, hown, hts⟩ hM (va_cwS n hts hT hw hrc hrs hd hR) ⟨k_blind, k_pre hK hP hD isC hC hnC⟩ rfl hn hl.1 hst (lv_room hW) hdg hf
theorem k_I {Qc : (Nat → Prop) → Array Value → State → Outcome → State → Prop} (hx : p.tables.exec = Jvm.exec) (hb : c.code = cc) (hml : c.maxLocals = nL) (hown : s.vm.findClass own = some m.cls) (hts : ∀ w ∈ Ts, w.before args s = true)
    (hK : va_K G.1 vwCl (kT G) s) (hP : va_P G.1 vwCl ws H) (hD : va_D A ws) (hl : lv_has ls nL lv)
    (hM : kMet l y wy rm G (.ref b :: As) wc H.size Qc mc ms) (isC : List Nat) (hC : isC.map (fun i => ws[i]?) = wc.map some) (hnC : va_nd isC = true)
    (hT : GoodIn Ts wy) (hw : wy = Cond.code y bytes maxL none :: wy') (hrc : rm.cells = mc) (hrs : rm.slots = ms)
    (hini : (Cond.initialized y.cls).before args s = true) (hlk : (Cond.methodLink own index y).before args s = true) (hins : (Cond.instanceMethod y).before args s = true) (hy1 : y.name = "<init>")
    (hd : y.cls ≠ "java/lang/invoke/MethodHandle" ∧ y.cls ≠ "java/lang/invoke/VarHandle" ∧ (parseMethodDescriptor y.desc).map (fun d => d.parameters.length) = some n) (hn : As.length = n) (hR : rm.frames + 1 ≤ R.frames ∧ 8 + (maxL + 11) + rm.locals ≤ R.locals)
    (hst : st0 = As.reverse ++ .ref b :: rest) (hW : (rest.map fun v => v.category).sum ≤ 8) (hdg : decode cc pc = .ok (.invokespecial index, 3)) (hf : cells + mc ≤ R.cells ∧ slots + ms ≤ R.slots) :
    kRunV p l e R s m args below meth c H locs cells slots mc ms G wc (F0 m pc ls st0) rest (Value.ref b :: As).toArray Qc :=
  va_runI (As := As) (rest := rest) ⟨hx, hb, hml, hown, hts⟩ hM (cwI n hts hT hw hrc hrs hini hlk hins hy1 hd hR) ⟨k_blind, k_pre hK hP hD isC hC hnC⟩ rfl hn hl.1 hst (lv_room hW) hdg hf
theorem k_behind {S : Type} {w2 : S → va_W} {u : S} {t : State} {H1 : Heap} (hP : va_P G.1 vwCl ws H) (hD : va_D A ws) (hS : va_S A s.heap H locs) (hA : ∀ q, s.heap.size ≤ q → A q) (isC isR : List Nat) (hC : isC.map (fun i => ws[i]?) = wc.map some) (hR : isR.map (fun i => ws[i]?) = wr.map some) (hnR : va_nd isR = true) (hdis : ∀ i ∈ isR, i ∉ isC)
    (ht : t.heap = H1) (hB : kPost G (va_A wc H.size) (w2 u) t) (hk1 : ∀ q : Nat, q < H.size → ¬ va_A wc H.size q → H1[q]? = H[q]?) : va_P G.1 vwCl (wr ++ w2 u) H1 ∧ va_D A (wr ++ w2 u) := by
  obtain ⟨hP1, hK1, hD1⟩ := hB
  rw [ht] at hP1
  exact va_join hP hD isC isR hC hR hnR hdis hk1 (va_free hD hS hA isC hC) hP1 hD1
theorem k_ci {S : Type} {post : Int32 → S → Prop} {w2 : S → va_W} {a : Array Value} (isR : List Nat) (hR : isR.map (fun i => ws[i]?) = wr.map some) (hnR : va_nd isR = true)
    (isC : List Nat) (hC : isC.map (fun i => ws[i]?) = wc.map some) (hdis : ∀ i ∈ isR, i ∉ isC)
    (hP : va_P G.1 vwCl ws H) (hD : va_D A ws) (hS : va_S A s.heap H locs) (hA : ∀ q, s.heap.size ≤ q → A q)
    (hr : kRunV p l e R s m args below meth c H locs cells slots mc ms G wc (F0 m pc ls st0) rest a (kQi G post w2))
    (kk : ∀ (r : Int32) (u : S) (H : Heap) (locs : List Loc), post r u → va_P G.1 vwCl (wr ++ w2 u) H → va_D A (wr ++ w2 u) → va_S A s.heap H locs → W p l e R s m args below meth c H locs (cells + mc) (slots + ms) Q (F0 m (pc + 3) ls (.int r :: rest))) :
    W p l e R s m args below meth c H locs cells slots Q (F0 m pc ls st0) := by
  have hF := va_free hD hS hA isC hC
  refine va_calli hr hS (fun q _ h => hF q h) hF (fun r u t H1 locs1 ht hvm hw hB hz1 hk1 hS1 => ?_)
  obtain ⟨hP1, hD1⟩ := k_behind hP hD hS hA isC isR hC hR hnR hdis ht hB hk1
  exact kk r u H1 locs1 hw hP1 hD1 hS1
theorem k_cl {S : Type} {post : Int64 → S → Prop} {w2 : S → va_W} {a : Array Value} (isR : List Nat) (hR : isR.map (fun i => ws[i]?) = wr.map some) (hnR : va_nd isR = true)
    (isC : List Nat) (hC : isC.map (fun i => ws[i]?) = wc.map some) (hdis : ∀ i ∈ isR, i ∉ isC)
    (hP : va_P G.1 vwCl ws H) (hD : va_D A ws) (hS : va_S A s.heap H locs) (hA : ∀ q, s.heap.size ≤ q → A q)
    (hr : kRunV p l e R s m args below meth c H locs cells slots mc ms G wc (F0 m pc ls st0) rest a (kQl G post w2))
    (kk : ∀ (r : Int64) (u : S) (H : Heap) (locs : List Loc), post r u → va_P G.1 vwCl (wr ++ w2 u) H → va_D A (wr ++ w2 u) → va_S A s.heap H locs → W p l e R s m args below meth c H locs (cells + mc) (slots + ms) Q (F0 m (pc + 3) ls (.long r :: rest))) :
    W p l e R s m args below meth c H locs cells slots Q (F0 m pc ls st0) := by
  have hF := va_free hD hS hA isC hC
  refine va_calll hr hS (fun q _ h => hF q h) hF (fun r u t H1 locs1 ht hvm hw hB hz1 hk1 hS1 => ?_)
  obtain ⟨hP1, hD1⟩ := k_behind hP hD hS hA isC isR hC hR hnR hdis ht hB hk1
  exact kk r u H1 locs1 hw hP1 hD1 hS1
theorem k_cd {S : Type} {post : UInt64 → S → Prop} {w2 : S → va_W} {a : Array Value} (isR : List Nat) (hR : isR.map (fun i => ws[i]?) = wr.map some) (hnR : va_nd isR = true)
    (isC : List Nat) (hC : isC.map (fun i => ws[i]?) = wc.map some) (hdis : ∀ i ∈ isR, i ∉ isC)
    (hP : va_P G.1 vwCl ws H) (hD : va_D A ws) (hS : va_S A s.heap H locs) (hA : ∀ q, s.heap.size ≤ q → A q)
    (hr : kRunV p l e R s m args below meth c H locs cells slots mc ms G wc (F0 m pc ls st0) rest a (kQd G post w2))
    (kk : ∀ (r : UInt64) (u : S) (H : Heap) (locs : List Loc), post r u → va_P G.1 vwCl (wr ++ w2 u) H → va_D A (wr ++ w2 u) → va_S A s.heap H locs → W p l e R s m args below meth c H locs (cells + mc) (slots + ms) Q (F0 m (pc + 3) ls (.double r :: rest))) :
    W p l e R s m args below meth c H locs cells slots Q (F0 m pc ls st0) := by
  have hF := va_free hD hS hA isC hC
  refine va_calld hr hS (fun q _ h => hF q h) hF (fun r u t H1 locs1 ht hvm hw hB hz1 hk1 hS1 => ?_)
  obtain ⟨hP1, hD1⟩ := k_behind hP hD hS hA isC isR hC hR hnR hdis ht hB hk1
  exact kk r u H1 locs1 hw hP1 hD1 hS1
theorem k_cv {S : Type} {post : S → Prop} {w2 : S → va_W} {a : Array Value} (isR : List Nat) (hR : isR.map (fun i => ws[i]?) = wr.map some) (hnR : va_nd isR = true)
    (isC : List Nat) (hC : isC.map (fun i => ws[i]?) = wc.map some) (hdis : ∀ i ∈ isR, i ∉ isC)
    (hP : va_P G.1 vwCl ws H) (hD : va_D A ws) (hS : va_S A s.heap H locs) (hA : ∀ q, s.heap.size ≤ q → A q)
    (hr : kRunV p l e R s m args below meth c H locs cells slots mc ms G wc (F0 m pc ls st0) rest a (kQv G post w2))
    (kk : ∀ (u : S) (H : Heap) (locs : List Loc), post u → va_P G.1 vwCl (wr ++ w2 u) H → va_D A (wr ++ w2 u) → va_S A s.heap H locs → W p l e R s m args below meth c H locs (cells + mc) (slots + ms) Q (F0 m (pc + 3) ls rest)) :
    W p l e R s m args below meth c H locs cells slots Q (F0 m pc ls st0) := by
  have hF := va_free hD hS hA isC hC
  refine va_callv hr hS (fun q _ h => hF q h) hF (fun u t H1 locs1 ht hvm hw hB hz1 hk1 hS1 => ?_)
  obtain ⟨hP1, hD1⟩ := k_behind hP hD hS hA isC isR hC hR hnR hdis ht hB hk1
  exact kk u H1 locs1 hw hP1 hD1 hS1
theorem k_cr {S : Type} {post : Nat → S → Prop} {w2 : S → va_W} {a : Array Value} (isR : List Nat) (hR : isR.map (fun i => ws[i]?) = wr.map some) (hnR : va_nd isR = true)
    (isC : List Nat) (hC : isC.map (fun i => ws[i]?) = wc.map some) (hdis : ∀ i ∈ isR, i ∉ isC)
    (hP : va_P G.1 vwCl ws H) (hD : va_D A ws) (hS : va_S A s.heap H locs) (hA : ∀ q, s.heap.size ≤ q → A q)
    (hr : kRunV p l e R s m args below meth c H locs cells slots mc ms G wc (F0 m pc ls st0) rest a (kQr G post w2))
    (kk : ∀ (r : Nat) (u : S) (H : Heap) (locs : List Loc), post r u → va_P G.1 vwCl (wr ++ w2 u) H → va_D A (wr ++ w2 u) → va_S A s.heap H locs → W p l e R s m args below meth c H locs (cells + mc) (slots + ms) Q (F0 m (pc + 3) ls (.ref r :: rest))) :
    W p l e R s m args below meth c H locs cells slots Q (F0 m pc ls st0) := by
  have hF := va_free hD hS hA isC hC
  refine va_callr hr hS (fun q _ h => hF q h) hF (fun u ra t H1 locs1 ht hvm _ hB hz1 hk1 hS1 => ?_)
  obtain ⟨hw, hB⟩ := hB
  obtain ⟨hP1, hD1⟩ := k_behind hP hD hS hA isC isR hC hR hnR hdis ht hB hk1
  exact kk ra u H1 locs1 hw hP1 hD1 hS1
/-! numbers -/
theorem g_ti {x y : Int32} (h : x = y) (k : W p l e R s m args below meth c H locs cells slots Q (F0 m pc ls (.int y :: rest))) : W p l e R s m args below meth c H locs cells slots Q (F0 m pc ls (.int x :: rest)) := by
  subst h
  exact k
theorem g_tl {x y : Int64} (h : x = y) (k : W p l e R s m args below meth c H locs cells slots Q (F0 m pc ls (.long y :: rest))) : W p l e R s m args below meth c H locs cells slots Q (F0 m pc ls (.long x :: rest)) := by
  subst h
  exact k
theorem g_perm {ws1 : va_W} (is9 : List Nat) (h9 : is9.map (fun i => ws[i]?) = ws1.map some) (hn : va_nd is9 = true) (hP : va_P G.1 vwCl ws H) (hD : va_D A ws) (k : va_P G.1 vwCl ws1 H → va_D A ws1 → W p l e R s m args below meth c H locs cells slots Q (F0 m pc ls rest)) : W p l e R s m args below meth c H locs cells slots Q (F0 m pc ls rest) :=
  k (hP.sub is9 (k_fm h9)) (hD.sub is9 hn h9)
theorem g_iald (hx : p.tables.exec = Jvm.exec) (hb : c.code = cc) (hK : va_K G.1 vwCl (kT G) s) (hP : va_P G.1 vwCl ws H) (q0 : Nat) {a k n : Nat} {f : Nat → Int32} (ha : ws[q0]? = some (a, .inl (G.2.1, n, .inl f))) (hk : k < n) (hn : n < 2 ^ 31) (hdg : decode cc pc = .ok (.iaload, 1))
    (kk : W p l e R s m args below meth c H locs cells slots Q (F0 m (pc + 1) ls (.int (f k) :: rest))) : W p l e R s m args below meth c H locs cells slots Q (F0 m pc ls (.int (nI k) :: .ref a :: rest)) := by
  refine va_iald hx hb hK hP q0 0 ha rfl (vp_in_nI hk hn) hdg ?_
  rw [nI_clamp (Nat.lt_trans hk hn)]
  exact kk
theorem g_iast (hx : p.tables.exec = Jvm.exec) (hb : c.code = cc) (hK : va_K G.1 vwCl (kT G) s) (hP : va_P G.1 vwCl ws H) (hD : va_D A ws) (hS : va_S A s.heap H locs) (q0 : Nat) {a k n : Nat} {f : Nat → Int32} {x : Int32} (ha : ws[q0]? = some (a, .inl (G.2.1, n, .inl f))) (hk : k < n) (hn : n < 2 ^ 31) (hdg : decode cc pc = .ok (.iastore, 1))
    (kk : ∀ (H1 : Heap) (locs1 : List Loc), va_P G.1 vwCl (ws.set q0 (a, .inl (G.2.1, n, .inl (upd f k x)))) H1 → va_D A (ws.set q0 (a, .inl (G.2.1, n, .inl (upd f k x)))) → va_S A s.heap H1 locs1 → W p l e R s m args below meth c H1 locs1 cells slots Q (F0 m (pc + 1) ls rest)) : W p l e R s m args below meth c H locs cells slots Q (F0 m pc ls (.int x :: .int (nI k) :: .ref a :: rest)) := by
  refine va_iast hx hb hK hP hD hS q0 0 ha rfl (vp_in_nI hk hn) hdg ?_
  rw [nI_clamp (Nat.lt_trans hk hn)]
  exact kk
theorem k_cI {cA : ClassId} (h : va_K G.1 vwCl (kT G ++ [(cA, .int)]) s) : cA = G.2.1 := by
  have h1 := (h.2 2 (cA, .int) rfl).2
  have h2 := (h.2 0 (G.2.1, .int) rfl).2
  exact Option.some.inj (Eq.trans (Eq.symm h1) h2)
theorem g_newai (hx : p.tables.exec = Jvm.exec) (hb : c.code = cc) (harr : (Cond.arrayClass .int).before args s = true) (hK : va_K G.1 vwCl (kT G) s) (hP : va_P G.1 vwCl ws H) (hD : va_D A ws) (hS : va_S A s.heap H locs) (hA : ∀ q, s.heap.size ≤ q → A q) {N' : Nat} (hN : N' < 2 ^ 27) (hcells : cells + 1 ≤ R.cells) (hslots : slots + N' ≤ R.slots) (hdg : decode cc pc = .ok (.newarray .int, 2))
    (kk : ∀ (q : Nat) (H1 : Heap), va_P G.1 vwCl (ws ++ [(q, .inl (G.2.1, N', .inl (fun _ => 0)))]) H1 → va_D A (ws ++ [(q, .inl (G.2.1, N', .inl (fun _ => 0)))]) → va_S A s.heap H1 locs → W p l e R s m args below meth c H1 locs (cells + 1) (slots + N') Q (F0 m (pc + 2) ls (.ref q :: rest))) : W p l e R s m args below meth c H locs cells slots Q (F0 m pc ls (.int (nI N') :: rest)) := by
  refine va_newa (atype := .int) (ty := .int) (n := nI N') (N' := N') (a0 := (N', .inl (fun _ => 0))) hx hb harr rfl hK hP hD hS hA (fun cA => by rw [vp_cell_i]; rfl) (nI_pos (by omega)) (nI_clamp (by omega)) (by show N' * 4 ≤ _; omega) hcells hslots hdg (fun q cA H1 hK1 hP1 hD1 hS1 => ?_)
  have hc := k_cI hK1
  subst hc
  exact kk q H1 hP1 hD1 hS1
variable {off : Int} {tgt a b : Nat}
theorem g_icmp_ge (hx : p.tables.exec = Jvm.exec) (hb : c.code = cc) (ha : a < 2 ^ 31) (hb2 : b < 2 ^ 31) (hdg : decode cc pc = .ok (.if_icmp .ge off, 3)) (ht : (pc : Int) + off = (tgt : Int)) (kt : b ≤ a → W p l e R s m args below meth c H locs cells slots Q (F0 m tgt ls rest)) (kf : a < b → W p l e R s m args below meth c H locs cells slots Q (F0 m (pc + 3) ls rest)) : W p l e R s m args below meth c H locs cells slots Q (F0 m pc ls (.int (nI b) :: .int (nI a) :: rest)) :=
  lv_icmp_ge hx hb hdg ht (fun h => kt ((nI_leI hb2 ha).mp h)) (fun h => kf (Nat.not_le.mp fun q => h ((nI_leI hb2 ha).mpr q)))
theorem g_icmp_lt (hx : p.tables.exec = Jvm.exec) (hb : c.code = cc) (ha : a < 2 ^ 31) (hb2 : b < 2 ^ 31) (hdg : decode cc pc = .ok (.if_icmp .lt off, 3)) (ht : (pc : Int) + off = (tgt : Int)) (kt : a < b → W p l e R s m args below meth c H locs cells slots Q (F0 m tgt ls rest)) (kf : b ≤ a → W p l e R s m args below meth c H locs cells slots Q (F0 m (pc + 3) ls rest)) : W p l e R s m args below meth c H locs cells slots Q (F0 m pc ls (.int (nI b) :: .int (nI a) :: rest)) :=
  lv_icmp_lt hx hb hdg ht (fun h => kt ((nI_ltI ha hb2).mp h)) (fun h => kf (Nat.not_lt.mp fun q => h ((nI_ltI ha hb2).mpr q)))
theorem g_icmp_gt (hx : p.tables.exec = Jvm.exec) (hb : c.code = cc) (ha : a < 2 ^ 31) (hb2 : b < 2 ^ 31) (hdg : decode cc pc = .ok (.if_icmp .gt off, 3)) (ht : (pc : Int) + off = (tgt : Int)) (kt : b < a → W p l e R s m args below meth c H locs cells slots Q (F0 m tgt ls rest)) (kf : a ≤ b → W p l e R s m args below meth c H locs cells slots Q (F0 m (pc + 3) ls rest)) : W p l e R s m args below meth c H locs cells slots Q (F0 m pc ls (.int (nI b) :: .int (nI a) :: rest)) :=
  lv_icmp_gt hx hb hdg ht (fun h => kt ((nI_ltI hb2 ha).mp h)) (fun h => kf (Nat.not_lt.mp fun q => h ((nI_ltI hb2 ha).mpr q)))
theorem g_icmp_le (hx : p.tables.exec = Jvm.exec) (hb : c.code = cc) (ha : a < 2 ^ 31) (hb2 : b < 2 ^ 31) (hdg : decode cc pc = .ok (.if_icmp .le off, 3)) (ht : (pc : Int) + off = (tgt : Int)) (kt : a ≤ b → W p l e R s m args below meth c H locs cells slots Q (F0 m tgt ls rest)) (kf : b < a → W p l e R s m args below meth c H locs cells slots Q (F0 m (pc + 3) ls rest)) : W p l e R s m args below meth c H locs cells slots Q (F0 m pc ls (.int (nI b) :: .int (nI a) :: rest)) :=
  lv_icmp_le hx hb hdg ht (fun h => kt ((nI_leI ha hb2).mp h)) (fun h => kf (Nat.not_le.mp fun q => h ((nI_leI ha hb2).mpr q)))
theorem g_icmp_eq (hx : p.tables.exec = Jvm.exec) (hb : c.code = cc) (ha : a < 2 ^ 31) (hb2 : b < 2 ^ 31) (hdg : decode cc pc = .ok (.if_icmp .eq off, 3)) (ht : (pc : Int) + off = (tgt : Int)) (kt : a = b → W p l e R s m args below meth c H locs cells slots Q (F0 m tgt ls rest)) (kf : a ≠ b → W p l e R s m args below meth c H locs cells slots Q (F0 m (pc + 3) ls rest)) : W p l e R s m args below meth c H locs cells slots Q (F0 m pc ls (.int (nI b) :: .int (nI a) :: rest)) :=
  lv_icmp_eq hx hb hdg ht (fun h => kt ((nI_eq ha hb2).mp h)) (fun h => kf (fun q => h ((nI_eq ha hb2).mpr q)))
theorem g_icmp_ne (hx : p.tables.exec = Jvm.exec) (hb : c.code = cc) (ha : a < 2 ^ 31) (hb2 : b < 2 ^ 31) (hdg : decode cc pc = .ok (.if_icmp .ne off, 3)) (ht : (pc : Int) + off = (tgt : Int)) (kt : a ≠ b → W p l e R s m args below meth c H locs cells slots Q (F0 m tgt ls rest)) (kf : a = b → W p l e R s m args below meth c H locs cells slots Q (F0 m (pc + 3) ls rest)) : W p l e R s m args below meth c H locs cells slots Q (F0 m pc ls (.int (nI b) :: .int (nI a) :: rest)) :=
  lv_icmp_ne hx hb hdg ht (fun h => kt (fun q => h ((nI_eq ha hb2).mpr q))) (fun h => kf ((nI_eq ha hb2).mp h))
theorem g_if_eq (hx : p.tables.exec = Jvm.exec) (hb : c.code = cc) (ha : a < 2 ^ 31) (hdg : decode cc pc = .ok (.ifCond .eq off, 3)) (ht : (pc : Int) + off = (tgt : Int)) (kt : a = 0 → W p l e R s m args below meth c H locs cells slots Q (F0 m tgt ls rest)) (kf : a ≠ 0 → W p l e R s m args below meth c H locs cells slots Q (F0 m (pc + 3) ls rest)) : W p l e R s m args below meth c H locs cells slots Q (F0 m pc ls (.int (nI a) :: rest)) :=
  lv_if_eq hx hb hdg ht (fun h => kt ((nI_eq ha (by decide)).mp h)) (fun h => kf (fun q => h ((nI_eq ha (b := 0) (by decide)).mpr q)))
theorem g_if_ne (hx : p.tables.exec = Jvm.exec) (hb : c.code = cc) (ha : a < 2 ^ 31) (hdg : decode cc pc = .ok (.ifCond .ne off, 3)) (ht : (pc : Int) + off = (tgt : Int)) (kt : a ≠ 0 → W p l e R s m args below meth c H locs cells slots Q (F0 m tgt ls rest)) (kf : a = 0 → W p l e R s m args below meth c H locs cells slots Q (F0 m (pc + 3) ls rest)) : W p l e R s m args below meth c H locs cells slots Q (F0 m pc ls (.int (nI a) :: rest)) :=
  lv_if_ne hx hb hdg ht (fun h => kt (fun q => h ((nI_eq ha (b := 0) (by decide)).mpr q))) (fun h => kf ((nI_eq ha (b := 0) (by decide)).mp h))
theorem g_if_lt (hx : p.tables.exec = Jvm.exec) (hb : c.code = cc) (ha : a < 2 ^ 31) (hdg : decode cc pc = .ok (.ifCond .lt off, 3)) (ht : (pc : Int) + off = (tgt : Int)) (kf : W p l e R s m args below meth c H locs cells slots Q (F0 m (pc + 3) ls rest)) : W p l e R s m args below meth c H locs cells slots Q (F0 m pc ls (.int (nI a) :: rest)) :=
  lv_if_lt hx hb hdg ht (fun h => absurd h (nI_pos ha)) (fun _ => kf)
theorem g_if_ge (hx : p.tables.exec = Jvm.exec) (hb : c.code = cc) (ha : a < 2 ^ 31) (hdg : decode cc pc = .ok (.ifCond .ge off, 3)) (ht : (pc : Int) + off = (tgt : Int)) (kt : W p l e R s m args below meth c H locs cells slots Q (F0 m tgt ls rest)) : W p l e R s m args below meth c H locs cells slots Q (F0 m pc ls (.int (nI a) :: rest)) :=
  lv_if_ge hx hb hdg ht (fun _ => kt) (fun h => absurd (nI_pos' ha) h)
theorem g_if_gt (hx : p.tables.exec = Jvm.exec) (hb : c.code = cc) (ha : a < 2 ^ 31) (hdg : decode cc pc = .ok (.ifCond .gt off, 3)) (ht : (pc : Int) + off = (tgt : Int)) (kt : 0 < a → W p l e R s m args below meth c H locs cells slots Q (F0 m tgt ls rest)) (kf : a = 0 → W p l e R s m args below meth c H locs cells slots Q (F0 m (pc + 3) ls rest)) : W p l e R s m args below meth c H locs cells slots Q (F0 m pc ls (.int (nI a) :: rest)) :=
  lv_if_gt hx hb hdg ht (fun h => kt ((nI_ltI (a := 0) (by decide) ha).mp h)) (fun h => kf (by rcases Nat.eq_zero_or_pos a with q | q; exact q; exact absurd ((nI_ltI (a := 0) (by decide) ha).mpr q) h))
theorem g_if_le (hx : p.tables.exec = Jvm.exec) (hb : c.code = cc) (ha : a < 2 ^ 31) (hdg : decode cc pc = .ok (.ifCond .le off, 3)) (ht : (pc : Int) + off = (tgt : Int)) (kt : a = 0 → W p l e R s m args below meth c H locs cells slots Q (F0 m tgt ls rest)) (kf : 0 < a → W p l e R s m args below meth c H locs cells slots Q (F0 m (pc + 3) ls rest)) : W p l e R s m args below meth c H locs cells slots Q (F0 m pc ls (.int (nI a) :: rest)) :=
  lv_if_le hx hb hdg ht (fun h => kt (Nat.le_zero.mp ((nI_leI ha (b := 0) (by decide)).mp h))) (fun h => kf (Nat.pos_of_ne_zero fun q => h (by rw [q]; decide)))
end KB
theorem g_dec (n : Nat) (h : 1 ≤ n) : nI n + (-1) = nI (n - 1) := by
  obtain ⟨k, rfl⟩ : ∃ k, n = k + 1 := ⟨n - 1, by omega⟩
  exact pk_m1 k
/-- an array's contents count at its own places alone -/
theorem k_arrV {cA : ClassId} {n : Nat} {f g : Nat → Value} (h : ∀ j, j < n → f j = g j) : arrV cA n f = arrV cA n g := by
  unfold arrV
  congr 1
  apply Array.ext
  · simp
  · intro i h1 h2
    simp only [Array.getElem_ofFn]
    exact h i (by simpa using h1)
theorem g_cong {p : Program} {l : Launch} {e : Env} {R : Room} {s : State} {m : MethodId} {args : Array Value} {below : List Frame} {meth : Method} {c : Code} {H : Heap} {locs : List Loc} {cells slots : Nat} {Q : State → Prop} {g9 : JFrame} {G : kG} {A : Nat → Prop} {ws : va_W} {a n : Nat} {f g : Fn} (q : Nat) (hP : va_P G.1 vwCl ws H) (hD : va_D A ws) (hq : ws[q]? = some (a, .inl (G.2.1, n, .inl f))) (h : ∀ j, j < n → f j = g j)
    (k : va_P G.1 vwCl (ws.set q (a, .inl (G.2.1, n, .inl g))) H → va_D A (ws.set q (a, .inl (G.2.1, n, .inl g))) → W p l e R s m args below meth c H locs cells slots Q g9) : W p l e R s m args below meth c H locs cells slots Q g9 := by
  refine k (hP.set hD hq ?_ (fun _ _ => rfl)) (hD.set hq)
  have h1 : H[a]? = some (vp_cell G.2.1 (n, .inl f)) := hP q _ hq
  show H[a]? = some (vp_cell G.2.1 (n, .inl g))
  rw [h1, vp_cell_i, vp_cell_i, k_arrV (fun j hj => by rw [h j hj])]
theorem upd_to {g F : Fn} {i : Nat} {v : Int32} (h : ∀ j, j < i → g j = F j) (hv : v = F i) : ∀ j, j < i + 1 → upd g i v j = F j := by
  intro j hj
  unfold upd
  by_cases hji : j = i
  · rw [if_pos hji, hv, hji]
  · rw [if_neg hji]
    exact h j (by omega)
def rdN (n : Nat) (f : Fn) (k : Nat) : Int32 := if k < n then f k else 0
def wrN (n : Nat) (f : Fn) (k : Nat) (v : Int32) : Fn := if k < n then upd f k v else f
theorem rdN_in {n : Nat} {f : Fn} {k : Nat} (h : k < n) : rdN n f k = f k := if_pos h
theorem rdN_out {n : Nat} {f : Fn} {k : Nat} (h : n ≤ k) : rdN n f k = 0 := if_neg (Nat.not_lt.mpr h)
theorem wrN_in {n : Nat} {f : Fn} {k : Nat} {v : Int32} (h : k < n) : wrN n f k v = upd f k v := if_pos h
def sumN (f : Fn) : Nat → Int32
  | 0 => 0
  | k + 1 => sumN f k + f k
