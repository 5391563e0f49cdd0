/-! # contracts over more of the world (k_frame), methods with a table of their own that return (wMet), calls over the whole world -/
theorem k_in {wc ws : va_W} {G : kG} {H : Heap} (hD : va_D (fun _ => True) ws) (isC : List Nat) (hC : isC.map (fun i => ws[i]?) = wc.map some) : ∀ q, va_A wc H.size q → va_A ws H.size q :=
  va_free (H0 := H) (H := H) (locs := []) (hD.self (sz := H.size)) va_S.rf (fun _ h => Or.inr h) isC hC
theorem k_joins {S : Type} {G : kG} {wc ws wr : va_W} {w2 ws2 : S → va_W} {s t : State} {u : S} (isC isR is9 : List Nat) (hC : isC.map (fun i => ws[i]?) = wc.map some) (hR : isR.map (fun i => ws[i]?) = wr.map some) (hnR : va_nd isR = true) (hdis : ∀ i ∈ isR, i ∉ isC)
    (h9 : ∀ u, is9.map (fun i => (wr ++ w2 u)[i]?) = (ws2 u).map some) (hn9 : va_nd is9 = true) (hP : va_P G.1 vwCl ws s.heap) (hD : va_D (fun _ => True) ws) (hB : kPost G (va_A wc s.heap.size) (w2 u) t) (hF : va_F (va_A wc s.heap.size) s t) :
    kPost G (va_A ws s.heap.size) (ws2 u) t ∧ va_F (va_A ws s.heap.size) s t := by
  have hD' := hD.self (sz := s.heap.size)
  have hfr := k_in (G := G) (H := s.heap) hD isC hC
  obtain ⟨hP1, hD1⟩ := k_behind (s := s) (H := s.heap) (locs := []) (H1 := t.heap) hP hD' va_S.rf (fun q h => Or.inr h) isC isR hC hR hnR hdis rfl hB hF.2
  exact ⟨⟨hP1.sub is9 (k_fm (h9 u)), hB.2.1, hD1.sub is9 hn9 (h9 u)⟩, hF.1, fun q h1 h2 => hF.2 q h1 (fun h3 => h2 (hfr q h3))⟩
/-- what the law's own methods want of the start: a throw's wants, and that no exception is another -/
def kNc : List (String × String) := [(kIA, kIS), (kIA, kIO), (kIS, kIA), (kIS, kIO), (kIO, kIA), (kIO, kIS)]
def wPre (G : kG) (ws : va_W) (sz : Nat) (U : State) : Prop := xPre G ws sz U ∧ ∀ q ∈ kNc, va_Nc q.1 q.2 U
def wMet (l : Launch) (y : MethodName) (wy : List Cond) (rm : Room) (G : kG) (av : List Value) (ws : va_W) (sz : Nat) (Qc : (Nat → Prop) → Array Value → State → Outcome → State → Prop) (mc ms : Nat) : Prop :=
  Met l y wy rm (va_Pc av (wPre G ws sz)) (Qc (va_A ws sz)) mc ms (va_A ws sz)
theorem w_blind {av : List Value} {G : kG} {ws : va_W} {sz : Nat} : FrameBlind (va_Pc av (wPre G ws sz)) := fun a U g mk q => by
  obtain ⟨q0, qx, qn⟩ := q
  exact ⟨q0, (x_blind (av := av) a U g mk ⟨q0, qx⟩).2, fun z hz => (qn z hz).moved (u := U) (U := U.calling g mk a) (Vm.Alike.refl U.vm)⟩
theorem met_mono {l : Launch} {y : MethodName} {wy : List Cond} {rm : Room} {Pc Pc' : Array Value → State → Prop} {Qc Qc' : Array Value → State → Outcome → State → Prop} {mc ms : Nat} {free free' : Addr → Prop} (h : Met l y wy rm Pc Qc mc ms free) (hP : ∀ a s, Pc' a s → Pc a s)
    (hQ : ∀ a s o t, Pc' a s → (Qc a s o t ∧ ∃ L, FrameEnd s o t L mc ms ∧ ∀ q ∈ L, free q.base) → (Qc' a s o t ∧ ∃ L, FrameEnd s o t L mc ms ∧ ∀ q ∈ L, free' q.base)) : Met l y wy rm Pc' Qc' mc ms free' := by
  unfold Met at h ⊢
  exact MetFree.mono h hP (fun _ _ _ _ _ q => q) hQ
theorem w_of {l : Launch} {y : MethodName} {wy : List Cond} {rm : Room} {G : kG} {av : List Value} {ws : va_W} {sz : Nat} {Qc : (Nat → Prop) → Array Value → State → Outcome → State → Prop} {mc ms : Nat} (h : kMet l y wy rm G av ws sz Qc mc ms) : wMet l y wy rm G av ws sz Qc mc ms := by
  have h1 : Met l y wy rm (va_Pc av (kPre G ws sz)) (Qc (va_A ws sz)) mc ms (va_A ws sz) := h
  show Met l y wy rm (va_Pc av (wPre G ws sz)) (Qc (va_A ws sz)) mc ms (va_A ws sz)
  exact met_mono h1 (fun _ _ q => ⟨q.1, q.2.1.1⟩) (fun _ _ _ _ _ q => q)
theorem k_frameI {l : Launch} {y : MethodName} {wy : List Cond} {rm : Room} {G : kG} {av : List Value} {wc ws wr : va_W} {sz : Nat} {S : Type} {post : Int32 → S → Prop} {w2 ws2 : S → va_W} {mc ms : Nat} (isC isR is9 : List Nat)
    (h : kMet l y wy rm G av wc sz (kQi G post w2) mc ms) (hC : isC.map (fun i => ws[i]?) = wc.map some) (hnC : va_nd isC = true) (hR : isR.map (fun i => ws[i]?) = wr.map some) (hnR : va_nd isR = true) (hdis : ∀ i ∈ isR, i ∉ isC)
    (h9 : ∀ u, is9.map (fun i => (wr ++ w2 u)[i]?) = (ws2 u).map some) (hn9 : va_nd is9 = true) : kMet l y wy rm G av ws sz (kQi G post ws2) mc ms := by
  have h1 : Met l y wy rm (va_Pc av (kPre G wc sz)) (kQi G post w2 (va_A wc sz)) mc ms (va_A wc sz) := h
  show Met l y wy rm (va_Pc av (kPre G ws sz)) (kQi G post ws2 (va_A ws sz)) mc ms (va_A ws sz)
  refine met_mono h1 ?_ ?_
  · rintro a s ⟨ha, hsz, hP, hK, hD⟩
    exact ⟨ha, hsz, hP.sub isC (k_fm hC), hK, hD.sub isC hnC hC⟩
  · rintro a s o t ⟨ha, hsz, hP, hK, hD⟩ ⟨⟨⟨r, u, ho, hp, hB⟩, hF⟩, L, hE, hL⟩
    subst hsz
    obtain ⟨hB2, hF2⟩ := k_joins isC isR is9 hC hR hnR hdis h9 hn9 hP hD hB hF
    exact ⟨⟨⟨r, u, ho, hp, hB2⟩, hF2⟩, L, hE, fun q hq => k_in (G := G) hD isC hC _ (hL q hq)⟩
theorem w_frameI {l : Launch} {y : MethodName} {wy : List Cond} {rm : Room} {G : kG} {av : List Value} {wc ws wr : va_W} {sz : Nat} {S : Type} {post : Int32 → S → Prop} {w2 ws2 : S → va_W} {mc ms : Nat} (isC isR is9 : List Nat)
    (h : wMet l y wy rm G av wc sz (kQi G post w2) mc ms) (hC : isC.map (fun i => ws[i]?) = wc.map some) (hnC : va_nd isC = true) (hR : isR.map (fun i => ws[i]?) = wr.map some) (hnR : va_nd isR = true) (hdis : ∀ i ∈ isR, i ∉ isC)
    (h9 : ∀ u, is9.map (fun i => (wr ++ w2 u)[i]?) = (ws2 u).map some) (hn9 : va_nd is9 = true) : wMet l y wy rm G av ws sz (kQi G post ws2) mc ms := by
  have h1 : Met l y wy rm (va_Pc av (wPre G wc sz)) (kQi G post w2 (va_A wc sz)) mc ms (va_A wc sz) := h
  show Met l y wy rm (va_Pc av (wPre G ws sz)) (kQi G post ws2 (va_A ws sz)) mc ms (va_A ws sz)
  refine met_mono h1 ?_ ?_
  · rintro a s ⟨ha, ⟨⟨hsz, hP, hK, hD⟩, hX⟩, hN⟩
    subst hsz
    exact ⟨ha, ⟨⟨rfl, hP.sub isC (k_fm hC), hK, hD.sub isC hnC hC⟩, hX.narrow (k_in (G := G) hD isC hC)⟩, hN⟩
  · rintro a s o t ⟨ha, ⟨⟨hsz, hP, hK, hD⟩, hX⟩, hN⟩ ⟨⟨⟨r, u, ho, hp, hB⟩, hF⟩, L, hE, hL⟩
    subst hsz
    obtain ⟨hB2, hF2⟩ := k_joins isC isR is9 hC hR hnR hdis h9 hn9 hP hD hB hF
    exact ⟨⟨⟨r, u, ho, hp, hB2⟩, hF2⟩, L, hE, fun q hq => k_in (G := G) hD isC hC _ (hL q hq)⟩
theorem k_frameL {l : Launch} {y : MethodName} {wy : List Cond} {rm : Room} {G : kG} {av : List Value} {wc ws wr : va_W} {sz : Nat} {S : Type} {post : Int64 → S → Prop} {w2 ws2 : S → va_W} {mc ms : Nat} (isC isR is9 : List Nat)
    (h : kMet l y wy rm G av wc sz (kQl G post w2) mc ms) (hC : isC.map (fun i => ws[i]?) = wc.map some) (hnC : va_nd isC = true) (hR : isR.map (fun i => ws[i]?) = wr.map some) (hnR : va_nd isR = true) (hdis : ∀ i ∈ isR, i ∉ isC)
    (h9 : ∀ u, is9.map (fun i => (wr ++ w2 u)[i]?) = (ws2 u).map some) (hn9 : va_nd is9 = true) : kMet l y wy rm G av ws sz (kQl G post ws2) mc ms := by
  have h1 : Met l y wy rm (va_Pc av (kPre G wc sz)) (kQl G post w2 (va_A wc sz)) mc ms (va_A wc sz) := h
  show Met l y wy rm (va_Pc av (kPre G ws sz)) (kQl G post ws2 (va_A ws sz)) mc ms (va_A ws sz)
  refine met_mono h1 ?_ ?_
  · rintro a s ⟨ha, hsz, hP, hK, hD⟩
    exact ⟨ha, hsz, hP.sub isC (k_fm hC), hK, hD.sub isC hnC hC⟩
  · rintro a s o t ⟨ha, hsz, hP, hK, hD⟩ ⟨⟨⟨r, u, ho, hp, hB⟩, hF⟩, L, hE, hL⟩
    subst hsz
    obtain ⟨hB2, hF2⟩ := k_joins isC isR is9 hC hR hnR hdis h9 hn9 hP hD hB hF
    exact ⟨⟨⟨r, u, ho, hp, hB2⟩, hF2⟩, L, hE, fun q hq => k_in (G := G) hD isC hC _ (hL q hq)⟩
theorem w_frameL {l : Launch} {y : MethodName} {wy : List Cond} {rm : Room} {G : kG} {av : List Value} {wc ws wr : va_W} {sz : Nat} {S : Type} {post : Int64 → S → Prop} {w2 ws2 : S → va_W} {mc ms : Nat} (isC isR is9 : List Nat)
    (h : wMet l y wy rm G av wc sz (kQl G post w2) mc ms) (hC : isC.map (fun i => ws[i]?) = wc.map some) (hnC : va_nd isC = true) (hR : isR.map (fun i => ws[i]?) = wr.map some) (hnR : va_nd isR = true) (hdis : ∀ i ∈ isR, i ∉ isC)
    (h9 : ∀ u, is9.map (fun i => (wr ++ w2 u)[i]?) = (ws2 u).map some) (hn9 : va_nd is9 = true) : wMet l y wy rm G av ws sz (kQl G post ws2) mc ms := by
  have h1 : Met l y wy rm (va_Pc av (wPre G wc sz)) (kQl G post w2 (va_A wc sz)) mc ms (va_A wc sz) := h
  show Met l y wy rm (va_Pc av (wPre G ws sz)) (kQl G post ws2 (va_A ws sz)) mc ms (va_A ws sz)
  refine met_mono h1 ?_ ?_
  · rintro a s ⟨ha, ⟨⟨hsz, hP, hK, hD⟩, hX⟩, hN⟩
    subst hsz
    exact ⟨ha, ⟨⟨rfl, hP.sub isC (k_fm hC), hK, hD.sub isC hnC hC⟩, hX.narrow (k_in (G := G) hD isC hC)⟩, hN⟩
  · rintro a s o t ⟨ha, ⟨⟨hsz, hP, hK, hD⟩, hX⟩, hN⟩ ⟨⟨⟨r, u, ho, hp, hB⟩, hF⟩, L, hE, hL⟩
    subst hsz
    obtain ⟨hB2, hF2⟩ := k_joins isC isR is9 hC hR hnR hdis h9 hn9 hP hD hB hF
    exact ⟨⟨⟨r, u, ho, hp, hB2⟩, hF2⟩, L, hE, fun q hq => k_in (G := G) hD isC hC _ (hL q hq)⟩
theorem k_frameD {l : Launch} {y : MethodName} {wy : List Cond} {rm : Room} {G : kG} {av : List Value} {wc ws wr : va_W} {sz : Nat} {S : Type} {post : UInt64 → S → Prop} {w2 ws2 : S → va_W} {mc ms : Nat} (isC isR is9 : List Nat)
    (h : kMet l y wy rm G av wc sz (kQd G post w2) mc ms) (hC : isC.map (fun i => ws[i]?) = wc.map some) (hnC : va_nd isC = true) (hR : isR.map (fun i => ws[i]?) = wr.map some) (hnR : va_nd isR = true) (hdis : ∀ i ∈ isR, i ∉ isC)
    (h9 : ∀ u, is9.map (fun i => (wr ++ w2 u)[i]?) = (ws2 u).map some) (hn9 : va_nd is9 = true) : kMet l y wy rm G av ws sz (kQd G post ws2) mc ms := by
  have h1 : Met l y wy rm (va_Pc av (kPre G wc sz)) (kQd G post w2 (va_A wc sz)) mc ms (va_A wc sz) := h
  show Met l y wy rm (va_Pc av (kPre G ws sz)) (kQd G post ws2 (va_A ws sz)) mc ms (va_A ws sz)
  refine met_mono h1 ?_ ?_
  · rintro a s ⟨ha, hsz, hP, hK, hD⟩
    exact ⟨ha, hsz, hP.sub isC (k_fm hC), hK, hD.sub isC hnC hC⟩
  · rintro a s o t ⟨ha, hsz, hP, hK, hD⟩ ⟨⟨⟨r, u, ho, hp, hB⟩, hF⟩, L, hE, hL⟩
    subst hsz
    obtain ⟨hB2, hF2⟩ := k_joins isC isR is9 hC hR hnR hdis h9 hn9 hP hD hB hF
    exact ⟨⟨⟨r, u, ho, hp, hB2⟩, hF2⟩, L, hE, fun q hq => k_in (G := G) hD isC hC _ (hL q hq)⟩
theorem w_frameD {l : Launch} {y : MethodName} {wy : List Cond} {rm : Room} {G : kG} {av : List Value} {wc ws wr : va_W} {sz : Nat} {S : Type} {post : UInt64 → S → Prop} {w2 ws2 : S → va_W} {mc ms : Nat} (isC isR is9 : List Nat)
    (h : wMet l y wy rm G av wc sz (kQd G post w2) mc ms) (hC : isC.map (fun i => ws[i]?) = wc.map some) (hnC : va_nd isC = true) (hR : isR.map (fun i => ws[i]?) = wr.map some) (hnR : va_nd isR = true) (hdis : ∀ i ∈ isR, i ∉ isC)
    (h9 : ∀ u, is9.map (fun i => (wr ++ w2 u)[i]?) = (ws2 u).map some) (hn9 : va_nd is9 = true) : wMet l y wy rm G av ws sz (kQd G post ws2) mc ms := by
  have h1 : Met l y wy rm (va_Pc av (wPre G wc sz)) (kQd G post w2 (va_A wc sz)) mc ms (va_A wc sz) := h
  show Met l y wy rm (va_Pc av (wPre G ws sz)) (kQd G post ws2 (va_A ws sz)) mc ms (va_A ws sz)
  refine met_mono h1 ?_ ?_
  · rintro a s ⟨ha, ⟨⟨hsz, hP, hK, hD⟩, hX⟩, hN⟩
    subst hsz
    exact ⟨ha, ⟨⟨rfl, hP.sub isC (k_fm hC), hK, hD.sub isC hnC hC⟩, hX.narrow (k_in (G := G) hD isC hC)⟩, hN⟩
  · rintro a s o t ⟨ha, ⟨⟨hsz, hP, hK, hD⟩, hX⟩, hN⟩ ⟨⟨⟨r, u, ho, hp, hB⟩, hF⟩, L, hE, hL⟩
    subst hsz
    obtain ⟨hB2, hF2⟩ := k_joins isC isR is9 hC hR hnR hdis h9 hn9 hP hD hB hF
    exact ⟨⟨⟨r, u, ho, hp, hB2⟩, hF2⟩, L, hE, fun q hq => k_in (G := G) hD isC hC _ (hL q hq)⟩
theorem k_frameV {l : Launch} {y : MethodName} {wy : List Cond} {rm : Room} {G : kG} {av : List Value} {wc ws wr : va_W} {sz : Nat} {S : Type} {post : S → Prop} {w2 ws2 : S → va_W} {mc ms : Nat} (isC isR is9 : List Nat)
    (h : kMet l y wy rm G av wc sz (kQv G post w2) mc ms) (hC : isC.map (fun i => ws[i]?) = wc.map some) (hnC : va_nd isC = true) (hR : isR.map (fun i => ws[i]?) = wr.map some) (hnR : va_nd isR = true) (hdis : ∀ i ∈ isR, i ∉ isC)
    (h9 : ∀ u, is9.map (fun i => (wr ++ w2 u)[i]?) = (ws2 u).map some) (hn9 : va_nd is9 = true) : kMet l y wy rm G av ws sz (kQv G post ws2) mc ms := by
  have h1 : Met l y wy rm (va_Pc av (kPre G wc sz)) (kQv G post w2 (va_A wc sz)) mc ms (va_A wc sz) := h
  show Met l y wy rm (va_Pc av (kPre G ws sz)) (kQv G post ws2 (va_A ws sz)) mc ms (va_A ws sz)
  refine met_mono h1 ?_ ?_
  · rintro a s ⟨ha, hsz, hP, hK, hD⟩
    exact ⟨ha, hsz, hP.sub isC (k_fm hC), hK, hD.sub isC hnC hC⟩
  · rintro a s o t ⟨ha, hsz, hP, hK, hD⟩ ⟨⟨⟨u, ho, hp, hB⟩, hF⟩, L, hE, hL⟩
    subst hsz
    obtain ⟨hB2, hF2⟩ := k_joins isC isR is9 hC hR hnR hdis h9 hn9 hP hD hB hF
    exact ⟨⟨⟨u, ho, hp, hB2⟩, hF2⟩, L, hE, fun q hq => k_in (G := G) hD isC hC _ (hL q hq)⟩
theorem w_frameV {l : Launch} {y : MethodName} {wy : List Cond} {rm : Room} {G : kG} {av : List Value} {wc ws wr : va_W} {sz : Nat} {S : Type} {post : S → Prop} {w2 ws2 : S → va_W} {mc ms : Nat} (isC isR is9 : List Nat)
    (h : wMet l y wy rm G av wc sz (kQv G post w2) mc ms) (hC : isC.map (fun i => ws[i]?) = wc.map some) (hnC : va_nd isC = true) (hR : isR.map (fun i => ws[i]?) = wr.map some) (hnR : va_nd isR = true) (hdis : ∀ i ∈ isR, i ∉ isC)
    (h9 : ∀ u, is9.map (fun i => (wr ++ w2 u)[i]?) = (ws2 u).map some) (hn9 : va_nd is9 = true) : wMet l y wy rm G av ws sz (kQv G post ws2) mc ms := by
  have h1 : Met l y wy rm (va_Pc av (wPre G wc sz)) (kQv G post w2 (va_A wc sz)) mc ms (va_A wc sz) := h
  show Met l y wy rm (va_Pc av (wPre G ws sz)) (kQv G post ws2 (va_A ws sz)) mc ms (va_A ws sz)
  refine met_mono h1 ?_ ?_
  · rintro a s ⟨ha, ⟨⟨hsz, hP, hK, hD⟩, hX⟩, hN⟩
    subst hsz
    exact ⟨ha, ⟨⟨rfl, hP.sub isC (k_fm hC), hK, hD.sub isC hnC hC⟩, hX.narrow (k_in (G := G) hD isC hC)⟩, hN⟩
  · rintro a s o t ⟨ha, ⟨⟨hsz, hP, hK, hD⟩, hX⟩, hN⟩ ⟨⟨⟨u, ho, hp, hB⟩, hF⟩, L, hE, hL⟩
    subst hsz
    obtain ⟨hB2, hF2⟩ := k_joins isC isR is9 hC hR hnR hdis h9 hn9 hP hD hB hF
    exact ⟨⟨⟨u, ho, hp, hB2⟩, hF2⟩, L, hE, fun q hq => k_in (G := G) hD isC hC _ (hL q hq)⟩
/-- a method's start, its code with a table -/
theorem w_entry {l : Launch} {y : MethodName} {wy wy' : List Cond} {rm : Room} {G : kG} {av : List Value} {ws : va_W} {sz : Nat} {Qc : (Nat → Prop) → Array Value → State → Outcome → State → Prop} {mc ms : Nat} {cc : ByteArray} {maxL : Nat} {ret : Option FieldType} {hh : List (Nat × Nat × Nat × Nat)}
    (hy : plainName y.cls = true) (hw : wy = Cond.codeWith y cc maxL ret hh :: wy') (hfit : (lg_sl av).length ≤ maxL)
    (body : ∀ (p : Program) (e : Env) (s : State) (m : MethodId) (args : Array Value) (below : List Frame) (meth : Method) (c : Code) (A : Nat → Prop) (ls : Array Slot) (H : Heap) (locs : List Loc) (Q : State → Prop), Q = MQ below (Qc A) args s mc ms A →
      p.tables.exec = Jvm.exec → c.code = cc → c.maxLocals = maxL → meth.sig.returnType = ret → c.exceptionTable.toList = tableOf hh → kXs A s s.heap → (∀ q ∈ kNc, va_Nc q.1 q.2 s) → (∀ w ∈ wy, w.before args s = true) → s.vm.findClass y.cls = some m.cls → meth.locks = false →
      (∀ q, s.heap.size ≤ q → A q) → va_P G.1 vwCl ws H → va_K G.1 vwCl (kT G) s → va_D A ws → va_S A s.heap H locs → lv_has ls maxL (lv_args 0 av) →
      W p l e rm s m args below meth c H locs 0 0 Q (F0 m 0 ls [])) :
    wMet l y wy rm G av ws sz Qc mc ms := by
  have h : vx_Met l y wy rm (va_Pc av (wPre G ws sz)) (Qc (va_A ws sz)) (fun _ _ _ => False) mc ms (va_A ws sz) := by
    refine vx_ofWH (cc := cc) (maxL := maxL) (ret := ret) (hh := hh) hy hw ?_
    intro p e s m args below meth c s₁ B hml hv
    obtain ⟨rfl, ⟨⟨hsz, hP, hK, hD0⟩, hX⟩, hN⟩ := hv
    have hts := atoms_spec (ws := wy) B.pre
    have hown : s.vm.findClass y.cls = some m.cls := findClass_of_methodNamed B.named
    have htab : c.exceptionTable.toList = tableOf hh := vx_table (x := y) B (hts _ (by rw [hw]; exact List.mem_cons_self))
    subst hsz
    have hD := hD0.self (sz := s.heap.size)
    have hl := lv_entry av (n := maxL) hfit
    rw [lg_entry_eq]
    exact vx_ret (body p e s m _ below meth c _ _ s.heap [] _ rfl B.exec B.bytes hml B.returns htab hX hN hts hown B.notSynchronized (fun q h => Or.inr h) hP hK hD va_S.rf hl)
  show Met l y wy rm (va_Pc av (wPre G ws sz)) (Qc (va_A ws sz)) mc ms (va_A ws sz)
  unfold vx_Met at h
  unfold Met
  refine MetFree.mono h (fun _ _ q => q) (fun _ _ _ _ _ q => q) ?_
  intro a s o t _ q
  rcases q with q | ⟨z, _, E, ce, L, hx, _⟩
  · exact q
  · exact hx.elim
section WB
variable {p : Program} {l : Launch} {e : Env} {R : Room} {s : State} {m : MethodId} {args : Array Value} {below : List Frame} {meth : Method} {c : Code} {H : Heap} {locs : List Loc} {cells slots : Nat} {Q : State → Prop}
variable {cc : ByteArray} {pc nL : Nat} {ls : Array Slot} {lv : List (Nat × Value)} {rest st0 : List Value} {G : kG} {A : Nat → Prop} {ws wc wr : va_W}
/-- caught by the first handler, or by the second, where the first is another exception's -/
theorem w_catch1 {own E : String} {ce : Cell} {q a b h k : Nat} {hh : List (Nat × Nat × Nat × Nat)} (hown : s.vm.findClass own = some m.cls) (htab : c.exceptionTable.toList = tableOf ((a, b, h, k) :: hh)) (hpc : a ≤ pc ∧ pc < b) (hk : k ≠ 0) (hts : ∀ w ∈ kBs, va_Nw w s) (hE : Cond.castable E E ∈ kBs) (hlink : (Cond.classLink own k E).before args s = true)
    (hcell : H[q]? = some ce) (hv : ce.vm = .none) (hcl : s.vm.findClass E = some ce.cls) (kk : W p l e R s m args below meth c H locs cells slots Q (F0 m h ls [.ref q])) : vx_W p l e R s m args below meth c H locs cells slots Q (F0 m pc ls rest) q :=
  vx_catch (own := own) (name := E) (E := E) hown [] ⟨a, b, h, k⟩ (tableOf hh) htab (fun z hz => nomatch hz) (by simp [covers, hpc.1, hpc.2]) hk hlink (va_Nw.use (kBs_tabs _ hE) (hts _ hE)) hcell hv hcl kk
theorem w_catch2 {own E E1 : String} {ce : Cell} {q a b h k a1 b1 h1 k1 : Nat} {hh : List (Nat × Nat × Nat × Nat)} (hown : s.vm.findClass own = some m.cls) (htab : c.exceptionTable.toList = tableOf ((a1, b1, h1, k1) :: (a, b, h, k) :: hh)) (hpc : a ≤ pc ∧ pc < b) (hk : k ≠ 0) (hk1 : k1 ≠ 0) (hts : ∀ w ∈ kBs, va_Nw w s) (hE : Cond.castable E E ∈ kBs) (hlink : (Cond.classLink own k E).before args s = true)
    (hlink1 : (Cond.classLink own k1 E1).before args s = true) (hN : ∀ q ∈ kNc, va_Nc q.1 q.2 s) (hE1 : (E, E1) ∈ kNc)
    (hcell : H[q]? = some ce) (hv : ce.vm = .none) (hcl : s.vm.findClass E = some ce.cls) (kk : W p l e R s m args below meth c H locs cells slots Q (F0 m h ls [.ref q])) : vx_W p l e R s m args below meth c H locs cells slots Q (F0 m pc ls rest) q :=
  vx_catch (own := own) (name := E) (E := E) hown [⟨a1, b1, h1, k1⟩] ⟨a, b, h, k⟩ (tableOf hh) htab (fun z hz => by
    rw [List.mem_singleton] at hz
    subst hz
    exact Or.inr ⟨hk1, E1, hlink1, hN _ hE1⟩) (by simp [covers, hpc.1, hpc.2]) hk hlink (va_Nw.use (kBs_tabs _ hE) (hts _ hE)) hcell hv hcl kk
/-! the calls over the whole world -/
variable {y : MethodName} {wy wy' Ts : List Cond} {rm : Room} {bytes : ByteArray} {maxL index n mc ms : Nat} {ret : Option FieldType} {own : String} {b : Nat} {As : List Value} {hh : List (Nat × Nat × Nat × Nat)}
theorem w_all (ws : va_W) : (List.range ws.length).map (fun i => ws[i]?) = ws.map some := by
  apply List.ext_getElem
  · simp
  · intro i h1 h2
    simp at h1
    simp [h1]
theorem w_pre (hX : kXs A s s.heap) (hN : ∀ q ∈ kNc, va_Nc q.1 q.2 s) (hS : va_S A s.heap H locs) (hA : ∀ q, s.heap.size ≤ q → A q) (hK : va_K G.1 vwCl (kT G) s) (hP : va_P G.1 vwCl ws H) (hD : va_D A ws) {av : List Value} : ∀ U : State, U.heap = H → s.WarmedH U.vm → va_Pc av (wPre G ws H.size) av.toArray U :=
  fun U hU hW => ⟨rfl, ⟨⟨by rw [hU], by rw [hU]; exact hP, va_K.moved hW.alike hK, hD.weaken (fun _ _ _ _ => trivial)⟩, by
    rw [hU]
    exact kXs.moved hW ((hX.kept hS.2.1).narrow (va_free hD hS hA _ (w_all ws)))⟩, fun q hq => (hN q hq).moved hW.alike⟩
def wRun (p : Program) (l : Launch) (e : Env) (R : Room) (s : State) (m : MethodId) (args : Array Value) (below : List Frame) (meth : Method) (c : Code) (H : Heap) (locs : List Loc) (cells slots mc ms : Nat) (G : kG) (ws : va_W) (g : JFrame) (rest : List Value) (a : Array Value) (Qc : (Nat → Prop) → Array Value → State → Outcome → State → Prop) : Prop :=
  va_Run p l e R s m args below meth c H locs cells slots mc ms g rest (Qc (va_A ws H.size) a) (va_A ws H.size)
/-- a static method of the law's own, with a table -/
theorem w_S {Qc : (Nat → Prop) → Array Value → State → Outcome → State → Prop} (hx : p.tables.exec = Jvm.exec) (hb : c.code = cc) (hml : c.maxLocals = nL) (hown : s.vm.findClass own = some m.cls) (hts : ∀ w ∈ Ts, w.before args s = true)
    (hX : kXs A s s.heap) (hN : ∀ q ∈ kNc, va_Nc q.1 q.2 s) (hS : va_S A s.heap H locs) (hA : ∀ q, s.heap.size ≤ q → A q) (hK : va_K G.1 vwCl (kT G) s) (hP : va_P G.1 vwCl ws H) (hD : va_D A ws) (hl : lv_has ls nL lv)
    (hM : wMet l y wy rm G As ws H.size Qc mc ms) (hT : GoodIn Ts (va_wsS own index y wy)) (hw : wy = Cond.codeWith y bytes maxL ret hh :: wy') (hrc : rm.cells = mc) (hrs : rm.slots = ms)
    (hd : y.cls ≠ "java/lang/invoke/MethodHandle" ∧ y.cls ≠ "java/lang/invoke/VarHandle" ∧ (parseMethodDescriptor y.desc).map (fun d => d.parameters.length) = some n) (hn : As.length = n) (hR : rm.frames + 1 ≤ R.frames ∧ 8 + (maxL + 11) + rm.locals ≤ R.locals)
    (hst : st0 = As.reverse ++ rest) (hW : (rest.map fun v => v.category).sum ≤ 8) (hdg : decode cc pc = .ok (.invokestatic index, 3)) (hf : cells + mc ≤ R.cells ∧ slots + ms ≤ R.slots) :
    wRun p l e R s m args below meth c H locs cells slots mc ms G ws (F0 m pc ls st0) rest As.toArray Qc :=
  vx_runSW (As := As) (rest := rest) ⟨hx, hb, hml, hown, hts⟩ hM (vx_cwSW n hts hT hw hrc hrs hd hR) ⟨w_blind, w_pre hX hN hS hA hK hP hD⟩ rfl hn hl.1 hst (lv_room hW) hdg hf
/-- a plain method of the class or of the reference -/
theorem w_V {Qc : (Nat → Prop) → Array Value → State → Outcome → State → Prop} {C : String} {T : u_T} {N ci q0 : Nat} {fs : List Value} (hx : p.tables.exec = Jvm.exec) (hb : c.code = cc) (hml : c.maxLocals = nL) (hown : s.vm.findClass own = some m.cls) (hts : ∀ w ∈ Ts, w.before args s = true)
    (hX : kXs A s s.heap) (hN : ∀ q ∈ kNc, va_Nc q.1 q.2 s) (hS : va_S A s.heap H locs) (hA : ∀ q, s.heap.size ≤ q → A q) (hK : va_K G.1 vwCl (kT G) s) (hP : va_P G.1 vwCl ws H) (hD : va_D A ws) (hl : lv_has ls nL lv)
    (hM : wMet l y wy rm G (.ref b :: As) ws H.size Qc mc ms) (hT : GoodIn Ts (wsV own index C y wy)) (hw : wy = Cond.code y bytes maxL ret :: wy') (hrc : rm.cells = mc) (hrs : rm.slots = ms)
    (hd : y.cls = C ∧ y.cls ≠ "java/lang/invoke/MethodHandle" ∧ y.cls ≠ "java/lang/invoke/VarHandle" ∧ (parseMethodDescriptor y.desc).map (fun d => d.parameters.length) = some n) (hn : As.length = n) (hR : rm.frames + 1 ≤ R.frames ∧ 8 + (maxL + 11) + rm.locals ≤ R.locals)
    (he : ws[q0]? = some (b, .inr (ci, fs))) (hcl : vwCl[ci]? = some (C, T, N)) (hst : st0 = As.reverse ++ .ref b :: rest) (hW : (rest.map fun v => v.category).sum ≤ 8) (hdg : decode cc pc = .ok (.invokevirtual index, 3)) (hf : cells + mc ≤ R.cells ∧ slots + ms ≤ R.slots) :
    wRun p l e R s m args below meth c H locs cells slots mc ms G ws (F0 m pc ls st0) rest (Value.ref b :: As).toArray Qc :=
  va_runV (As := As) (rest := rest) ⟨hx, hb, hml, hown, hts⟩ hM (cwV n hts hT hw hrc hrs hd hR) ⟨w_blind, va_recv hK hP hcl he, w_pre hX hN hS hA hK hP hD⟩ rfl hn hl.1 hst (lv_room hW) hdg hf
theorem w_behind {S : Type} {w2 : S → va_W} {u : S} {t : State} {H1 : Heap} (hD : va_D A ws) (hS : va_S A s.heap H locs) (hA : ∀ q, s.heap.size ≤ q → A q) (ht : t.heap = H1) (hB : kPost G (va_A ws H.size) (w2 u) t) : va_P G.1 vwCl (w2 u) H1 ∧ va_D A (w2 u) := by
  obtain ⟨hP1, hK1, hD1⟩ := hB
  rw [ht] at hP1
  exact ⟨hP1, hD1.weaken (fun _ _ _ h => va_free hD hS hA _ (w_all ws) _ h)⟩
theorem w_ci {S : Type} {post : Int32 → S → Prop} {w2 : S → va_W} {a : Array Value} (hD : va_D A ws) (hS : va_S A s.heap H locs) (hA : ∀ q, s.heap.size ≤ q → A q)
    (hr : wRun p l e R s m args below meth c H locs cells slots mc ms G ws (F0 m pc ls st0) rest a (kQi G post w2))
    (kk : ∀ (r : Int32) (u : S) (H : Heap) (locs : List Loc), post r u → va_P G.1 vwCl (w2 u) H → va_D A (w2 u) → va_S A s.heap H locs → W p l e R s m args below meth c H locs (cells + mc) (slots + ms) Q (F0 m (pc + 3) ls (.int r :: rest))) :
    W p l e R s m args below meth c H locs cells slots Q (F0 m pc ls st0) := by
  have hF := va_free hD hS hA _ (w_all ws)
  refine va_calli hr hS (fun q _ h => hF q h) hF (fun r u t H1 locs1 ht hvm hw hB hz1 hk1 hS1 => ?_)
  obtain ⟨hP1, hD1⟩ := w_behind hD hS hA ht hB
  exact kk r u H1 locs1 hw hP1 hD1 hS1
theorem w_cl {S : Type} {post : Int64 → S → Prop} {w2 : S → va_W} {a : Array Value} (hD : va_D A ws) (hS : va_S A s.heap H locs) (hA : ∀ q, s.heap.size ≤ q → A q)
    (hr : wRun p l e R s m args below meth c H locs cells slots mc ms G ws (F0 m pc ls st0) rest a (kQl G post w2))
    (kk : ∀ (r : Int64) (u : S) (H : Heap) (locs : List Loc), post r u → va_P G.1 vwCl (w2 u) H → va_D A (w2 u) → va_S A s.heap H locs → W p l e R s m args below meth c H locs (cells + mc) (slots + ms) Q (F0 m (pc + 3) ls (.long r :: rest))) :
    W p l e R s m args below meth c H locs cells slots Q (F0 m pc ls st0) := by
  have hF := va_free hD hS hA _ (w_all ws)
  refine va_calll hr hS (fun q _ h => hF q h) hF (fun r u t H1 locs1 ht hvm hw hB hz1 hk1 hS1 => ?_)
  obtain ⟨hP1, hD1⟩ := w_behind hD hS hA ht hB
  exact kk r u H1 locs1 hw hP1 hD1 hS1
theorem w_cd {S : Type} {post : UInt64 → S → Prop} {w2 : S → va_W} {a : Array Value} (hD : va_D A ws) (hS : va_S A s.heap H locs) (hA : ∀ q, s.heap.size ≤ q → A q)
    (hr : wRun p l e R s m args below meth c H locs cells slots mc ms G ws (F0 m pc ls st0) rest a (kQd G post w2))
    (kk : ∀ (r : UInt64) (u : S) (H : Heap) (locs : List Loc), post r u → va_P G.1 vwCl (w2 u) H → va_D A (w2 u) → va_S A s.heap H locs → W p l e R s m args below meth c H locs (cells + mc) (slots + ms) Q (F0 m (pc + 3) ls (.double r :: rest))) :
    W p l e R s m args below meth c H locs cells slots Q (F0 m pc ls st0) := by
  have hF := va_free hD hS hA _ (w_all ws)
  refine va_calld hr hS (fun q _ h => hF q h) hF (fun r u t H1 locs1 ht hvm hw hB hz1 hk1 hS1 => ?_)
  obtain ⟨hP1, hD1⟩ := w_behind hD hS hA ht hB
  exact kk r u H1 locs1 hw hP1 hD1 hS1
end WB
