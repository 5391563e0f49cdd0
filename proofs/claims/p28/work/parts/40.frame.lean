/-! # contracts over more of the world (k_frame), methods with a table of their own that return (wMet), calls over the whole world -/
theorem k_in {wc ws : va_W} {G : kG} {H : Heap} (hD : va_D (fun _ => True) ws) (isC : List Nat) (hC : isC.map (fun i => ws[i]?) = wc.map some) : ∀ q, va_A wc H.size q → va_A ws H.size q :=
  va_free (H0 := H) (H := H) (locs := []) (hD.self (sz := H.size)) va_S.rf (fun _ h => Or.inr h) isC hC
theorem k_joins {S : Type} {G : kG} {wc ws wr : va_W} {w2 ws2 : S → va_W} {s t : State} {u : S} (isC isR is9 : List Nat) (hC : isC.map (fun i => ws[i]?) = wc.map some) (hR : isR.map (fun i => ws[i]?) = wr.map some) (hnR : va_nd isR = true) (hdis : ∀ i ∈ isR, i ∉ isC)
    (h9 : ∀ u, is9.map (fun i => (wr ++ w2 u)[i]?) = (ws2 u).map some) (hn9 : va_nd is9 = true) (hP : va_P G.1 vwCl ws s.heap) (hD : va_D (fun _ => True) ws) (hB : kPost G (va_A wc s.heap.size) (w2 u) t) (hF : va_F (va_A wc s.heap.size) s t) :
    kPost G (va_A ws s.heap.size) (ws2 u) t ∧ va_F (va_A ws s.heap.size) s t := by
  have hD' := hD.self (sz := s.heap.size)
  have hfr := k_in (G := G) (H := s.heap) hD isC hC
  obtain ⟨hP1, hD1⟩ := k_behind (s := s) (H := s.heap) (locs := []) (H1 := t.heap) hP hD' va_S.rf (fun q h => Or.inr h) isC isR hC hR hnR hdis rfl hB hF.2
  exact ⟨⟨hP1.sub is9 (k_fm (h9 u)), hB.2.1, hD1.sub is9 hn9 (h9 u)⟩, hF.1, fun q h1 h2 => hF.2 q h1 (fun h3 => h2 (hfr q h3))⟩
theorem met_mono {l : Launch} {y : MethodName} {wy : List Cond} {rm : Room} {Pc Pc' : Array Value → State → Prop} {Qc Qc' : Array Value → State → Outcome → State → Prop} {mc ms : Nat} {free free' : Addr → Prop} (h : Met l y wy rm Pc Qc mc ms free) (hP : ∀ a s, Pc' a s → Pc a s)
    (hQ : ∀ a s o t, Pc' a s → (Qc a s o t ∧ ∃ L, FrameEnd s o t L mc ms ∧ ∀ q ∈ L, free q.base) → (Qc' a s o t ∧ ∃ L, FrameEnd s o t L mc ms ∧ ∀ q ∈ L, free' q.base)) : Met l y wy rm Pc' Qc' mc ms free' := by
  unfold Met at h ⊢
  exact MetFree.mono h hP (fun _ _ _ _ _ q => q) hQ
theorem k_frameI {l : Launch} {y : MethodName} {wy : List Cond} {rm : Room} {G : kG} {av : List Value} {wc ws wr : va_W} {sz : Nat} {S : Type} {post : Int32 → S → Prop} {w2 ws2 : S → va_W} {mc ms : Nat} (isC isR is9 : List Nat)
    (h : kMet l y wy rm G av wc sz (kQi G post w2) mc ms) (hC : isC.map (fun i => ws[i]?) = wc.map some) (hnC : va_nd isC = true) (hR : isR.map (fun i => ws[i]?) = wr.map some) (hnR : va_nd isR = true) (hdis : ∀ i ∈ isR, i ∉ isC)
    (h9 : ∀ u, is9.map (fun i => (wr ++ w2 u)[i]?) = (ws2 u).map some) (hn9 : va_nd is9 = true) : kMet l y wy rm G av ws sz (kQi G post ws2) mc ms := by
  have h1 : Met l y wy rm (va_Pc av (kPre G wc sz)) (kQi G post w2 (va_A wc sz)) mc ms (va_A wc sz) := h
  show Met l y wy rm (va_Pc av (kPre G ws sz)) (kQi G post ws2 (va_A ws sz)) mc ms (va_A ws sz)
  refine met_mono h1 ?_ ?_
  · rintro a s ⟨ha, hsz, hP, hK, hD⟩
    exact ⟨ha, hsz, hP.sub isC (k_fm hC), hK, hD.sub isC hnC hC⟩
  · rintro a s o t ⟨ha, hsz, hP, hK, hD⟩ ⟨⟨⟨r, u, ho, hp, hB⟩, hF⟩, L, hE, hL⟩
    subst hsz
    obtain ⟨hB2, hF2⟩ := k_joins isC isR is9 hC hR hnR hdis h9 hn9 hP hD hB hF
    exact ⟨⟨⟨r, u, ho, hp, hB2⟩, hF2⟩, L, hE, fun q hq => k_in (G := G) hD isC hC _ (hL q hq)⟩
theorem k_frameL {l : Launch} {y : MethodName} {wy : List Cond} {rm : Room} {G : kG} {av : List Value} {wc ws wr : va_W} {sz : Nat} {S : Type} {post : Int64 → S → Prop} {w2 ws2 : S → va_W} {mc ms : Nat} (isC isR is9 : List Nat)
    (h : kMet l y wy rm G av wc sz (kQl G post w2) mc ms) (hC : isC.map (fun i => ws[i]?) = wc.map some) (hnC : va_nd isC = true) (hR : isR.map (fun i => ws[i]?) = wr.map some) (hnR : va_nd isR = true) (hdis : ∀ i ∈ isR, i ∉ isC)
    (h9 : ∀ u, is9.map (fun i => (wr ++ w2 u)[i]?) = (ws2 u).map some) (hn9 : va_nd is9 = true) : kMet l y wy rm G av ws sz (kQl G post ws2) mc ms := by
  have h1 : Met l y wy rm (va_Pc av (kPre G wc sz)) (kQl G post w2 (va_A wc sz)) mc ms (va_A wc sz) := h
  show Met l y wy rm (va_Pc av (kPre G ws sz)) (kQl G post ws2 (va_A ws sz)) mc ms (va_A ws sz)
  refine met_mono h1 ?_ ?_
  · rintro a s ⟨ha, hsz, hP, hK, hD⟩
    exact ⟨ha, hsz, hP.sub isC (k_fm hC), hK, hD.sub isC hnC hC⟩
  · rintro a s o t ⟨ha, hsz, hP, hK, hD⟩ ⟨⟨⟨r, u, ho, hp, hB⟩, hF⟩, L, hE, hL⟩
    subst hsz
    obtain ⟨hB2, hF2⟩ := k_joins isC isR is9 hC hR hnR hdis h9 hn9 hP hD hB hF
    exact ⟨⟨⟨r, u, ho, hp, hB2⟩, hF2⟩, L, hE, fun q hq => k_in (G := G) hD isC hC _ (hL q hq)⟩
theorem k_frameD {l : Launch} {y : MethodName} {wy : List Cond} {rm : Room} {G : kG} {av : List Value} {wc ws wr : va_W} {sz : Nat} {S : Type} {post : UInt64 → S → Prop} {w2 ws2 : S → va_W} {mc ms : Nat} (isC isR is9 : List Nat)
    (h : kMet l y wy rm G av wc sz (kQd G post w2) mc ms) (hC : isC.map (fun i => ws[i]?) = wc.map some) (hnC : va_nd isC = true) (hR : isR.map (fun i => ws[i]?) = wr.map some) (hnR : va_nd isR = true) (hdis : ∀ i ∈ isR, i ∉ isC)
    (h9 : ∀ u, is9.map (fun i => (wr ++ w2 u)[i]?) = (ws2 u).map some) (hn9 : va_nd is9 = true) : kMet l y wy rm G av ws sz (kQd G post ws2) mc ms := by
  have h1 : Met l y wy rm (va_Pc av (kPre G wc sz)) (kQd G post w2 (va_A wc sz)) mc ms (va_A wc sz) := h
  show Met l y wy rm (va_Pc av (kPre G ws sz)) (kQd G post ws2 (va_A ws sz)) mc ms (va_A ws sz)
  refine met_mono h1 ?_ ?_
  · rintro a s ⟨ha, hsz, hP, hK, hD⟩
    exact ⟨ha, hsz, hP.sub isC (k_fm hC), hK, hD.sub isC hnC hC⟩
  · rintro a s o t ⟨ha, hsz, hP, hK, hD⟩ ⟨⟨⟨r, u, ho, hp, hB⟩, hF⟩, L, hE, hL⟩
    subst hsz
    obtain ⟨hB2, hF2⟩ := k_joins isC isR is9 hC hR hnR hdis h9 hn9 hP hD hB hF
    exact ⟨⟨⟨r, u, ho, hp, hB2⟩, hF2⟩, L, hE, fun q hq => k_in (G := G) hD isC hC _ (hL q hq)⟩
theorem k_frameV {l : Launch} {y : MethodName} {wy : List Cond} {rm : Room} {G : kG} {av : List Value} {wc ws wr : va_W} {sz : Nat} {S : Type} {post : S → Prop} {w2 ws2 : S → va_W} {mc ms : Nat} (isC isR is9 : List Nat)
    (h : kMet l y wy rm G av wc sz (kQv G post w2) mc ms) (hC : isC.map (fun i => ws[i]?) = wc.map some) (hnC : va_nd isC = true) (hR : isR.map (fun i => ws[i]?) = wr.map some) (hnR : va_nd isR = true) (hdis : ∀ i ∈ isR, i ∉ isC)
    (h9 : ∀ u, is9.map (fun i => (wr ++ w2 u)[i]?) = (ws2 u).map some) (hn9 : va_nd is9 = true) : kMet l y wy rm G av ws sz (kQv G post ws2) mc ms := by
  have h1 : Met l y wy rm (va_Pc av (kPre G wc sz)) (kQv G post w2 (va_A wc sz)) mc ms (va_A wc sz) := h
  show Met l y wy rm (va_Pc av (kPre G ws sz)) (kQv G post ws2 (va_A ws sz)) mc ms (va_A ws sz)
  refine met_mono h1 ?_ ?_
  · rintro a s ⟨ha, hsz, hP, hK, hD⟩
    exact ⟨ha, hsz, hP.sub isC (k_fm hC), hK, hD.sub isC hnC hC⟩
  · rintro a s o t ⟨ha, hsz, hP, hK, hD⟩ ⟨⟨⟨u, ho, hp, hB⟩, hF⟩, L, hE, hL⟩
    subst hsz
    obtain ⟨hB2, hF2⟩ := k_joins isC isR is9 hC hR hnR hdis h9 hn9 hP hD hB hF
    exact ⟨⟨⟨u, ho, hp, hB2⟩, hF2⟩, L, hE, fun q hq => k_in (G := G) hD isC hC _ (hL q hq)⟩
