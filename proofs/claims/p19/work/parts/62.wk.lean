/-! The law's own methods: a call, its refusals caught. -/
def kPr : List (String × String) := [(kISE, kIOB), (kIAE, kIOB), (kISE, kIAE)]
def kL (D : va_G) (cI cZ : ClassId) (U : State) : Prop := va_K D vwCl [(cI, .int), (cZ, .boolean)] U ∧ va_Nw (.methodLinkNest RX0 32 yX4_isWithin RX4) U ∧ ∀ q ∈ kPr, va_Nc q.1 q.2 U
theorem kL.k {D : va_G} {cI cZ : ClassId} {U : State} (h : kL D cI cZ U) : kK D cI cZ U := ⟨h.1, h.2.1⟩
theorem kL.warm {D : va_G} {cI cZ : ClassId} {s U : State} (h : kL D cI cZ s) (hW : s.WarmedH U.vm) : kL D cI cZ U := ⟨va_K.moved hW.alike h.1, va_Nw.warmM hW h.2.1, fun q hq => va_Nc.moved hW.alike (h.2.2 q hq)⟩
theorem kL.call {D : va_G} {cI cZ : ClassId} {U : State} {a : Array Value} {g : JFrame} {mk : MethodId} (h : kL D cI cZ U) : kL D cI cZ (U.calling g mk a) := ⟨va_K.moved (u := U) (U := U.calling g mk a) (Vm.Alike.refl U.vm) h.1, va_Nw.same rfl (u := U) (U := U.calling g mk a) rfl h.2.1, fun q hq => va_Nc.moved (u := U) (U := U.calling g mk a) (Vm.Alike.refl U.vm) (h.2.2 q hq)⟩
abbrev kWPre (D : va_G) (cI cZ : ClassId) (sz : Nat) (W : va_W) (U : State) : Prop := U.heap.size = sz ∧ va_P D vwCl W U.heap ∧ kL D cI cZ U ∧ va_D (fun _ => True) W ∧ kX (va_A W sz) U U.heap
/-- a method of the law: its answer, and the world behind it, by a number u of a type T -/
abbrev kWE {T : Type} (l : Launch) (y : MethodName) (ws : List Cond) (rm : Room) (av : List Value) (D : va_G) (cI cZ : ClassId) (sz : Nat) (W : va_W) (Wf : T → va_W) (post : Int32 → T → Prop) (mc ms : Nat) : Prop := Met l y ws rm (va_Pc av (kWPre D cI cZ sz W)) (va_Qi post (fun u t => kAt D (va_A W sz) (Wf u) t) (va_A W sz)) mc ms (va_A W sz)
/-- a method of the law that makes an array -/
abbrev kWR (l : Launch) (y : MethodName) (ws : List Cond) (rm : Room) (av : List Value) (D : va_G) (cI cZ : ClassId) (sz : Nat) (W : va_W) (Wf : Nat → va_W) (mc ms : Nat) : Prop := Met l y ws rm (va_Pc av (kWPre D cI cZ sz W)) (va_Qr (fun _ : Unit => True) (fun _ a t => kAt D (va_A W sz) (Wf a) t) (va_A W sz)) mc ms (va_A W sz)
theorem kWPre_blind {D : va_G} {cI cZ : ClassId} {W1 : va_W} {av : List Value} {sz : Nat} : FrameBlind (va_Pc av (kWPre D cI cZ sz W1)) := fun a U g mk q => ⟨q.1, q.2.1, q.2.2.1, q.2.2.2.1.call, q.2.2.2.2.1, q.2.2.2.2.2.call⟩
theorem k_ofWH {l : Launch} {y : MethodName} {ws ws' : List Cond} {rm : Room} {Pc : Array Value → State → Prop} {Qc : Array Value → State → Outcome → State → Prop} {mc ms : Nat} {free : Addr → Prop} {cc : ByteArray} {maxL : Nat} {ret : Option FieldType} {hh : List (Nat × Nat × Nat × Nat)}
    (hy : plainName y.cls = true) (hw : ws = Cond.codeWith y cc maxL ret hh :: ws')
    (body : ∀ p e s m args below meth c s₁, BodyLoose p l y (headSpec ws rm) cc maxL ret e s m args below meth c s₁ → c.maxLocals = maxL → Pc args s →
      W p l e (headSpec ws rm).room s m args below meth c s.heap [] 0 0 (MQ below Qc args s mc ms free) (entryFrame m args maxL)) : Met l y ws rm Pc Qc mc ms free := by
  refine MetFree.of_bodyS (code := cc) (maxLocals := maxL) (ret := ret) hy ?_ ?_
  · intro args s m h hn
    obtain ⟨m9, meth, c, hn9, h1, h2, h3, h4, -, h5, h6, -⟩ := Cond.codeWith_spec (atoms_spec (ws := ws) h _ (by rw [hw]; exact List.mem_cons_self))
    cases hn.symm.trans hn9
    exact ⟨meth, c, h1, h2, h3, h4, h5, h6⟩
  · intro p e s m args below meth c s₁ B hml hP _
    have hh0 : s₁.heap = s.heap := by rw [B.state]; rfl
    obtain ⟨t, a1, o, b1, b2, b3, b4⟩ := body p e s m args below meth c s₁ B hml hP s₁ hh0 (Stand.of_body B)
    exact ⟨t, o, a1, b1, b2, b3, b4⟩
theorem kEx1 {c : Nat} {A E : String} (h : kEx c [A] E) : c = 1 ∧ E = A := by
  obtain ⟨h1, h2⟩ := h
  rcases c with _ | _ | c
  · exact absurd rfl h1
  · exact ⟨rfl, (Option.some.inj h2).symm⟩
  · cases h2
theorem kEx2 {c : Nat} {A B E : String} (h : kEx c [A, B] E) : (c = 1 ∧ E = A) ∨ (c = 2 ∧ E = B) := by
  obtain ⟨h1, h2⟩ := h
  rcases c with _ | _ | _ | c
  · exact absurd rfl h1
  · exact Or.inl ⟨rfl, (Option.some.inj h2).symm⟩
  · exact Or.inr ⟨rfl, (Option.some.inj h2).symm⟩
  · cases h2
theorem kEx3 {c : Nat} {A B C E : String} (h : kEx c [A, B, C] E) : (c = 1 ∧ E = A) ∨ (c = 2 ∧ E = B) ∨ (c = 3 ∧ E = C) := by
  obtain ⟨h1, h2⟩ := h
  rcases c with _ | _ | _ | _ | c
  · exact absurd rfl h1
  · exact Or.inl ⟨rfl, (Option.some.inj h2).symm⟩
  · exact Or.inr (Or.inl ⟨rfl, (Option.some.inj h2).symm⟩)
  · exact Or.inr (Or.inr ⟨rfl, (Option.some.inj h2).symm⟩)
  · cases h2
section KITW
variable {p : Program} {l : Launch} {e : Env} {R : Room} {s : State} {m : MethodId} {args : Array Value} {below : List Frame} {meth : Method} {c : Code} {Q : State → Prop}
variable {cc : ByteArray} {pc : Nat} {ls : Array Slot} {rest : List Value} {D : va_G} {A : Nat → Prop} {ws : va_W} {cI cZ : ClassId}
variable {Ts wsY ws' : List Cond} {bytes : ByteArray} {nL maxL index n : Nat} {own C : String} {y : MethodName} {ret : Option FieldType} {rm : Room} {b : Addr} {As st0 : List Value} {W1 W2 WR WN : va_W} {code : Nat} {Es : List String}
theorem k_xwi {post : Int32 → Prop} (S : CallFix p m c cc nL s args Ts own) (hK : kL D cI cZ s) (hP : va_P D vwCl ws s.heap) (hD : va_D A ws) (hX : kX A s s.heap) (hA : ∀ q, s.heap.size ≤ q → A q) (hM : kXi l y wsY rm (.ref b :: As) D cI cZ s.heap.size W1 W2 code Es post) (isC isR is9 : List Nat) (hC : isC.map (fun i => ws[i]?) = W1.map some) (hC2 : isC.filterMap (fun i => ws[i]?) = W1) (hnC : va_nd isC = true) (hR : isR.map (fun i => ws[i]?) = WR.map some) (hnR : va_nd isR = true) (hdis : ∀ i ∈ isR, i ∉ isC) (h9 : is9.map (fun i => (WR ++ W2)[i]?) = WN.map some) (h92 : is9.filterMap (fun i => (WR ++ W2)[i]?) = WN) (h8 : is9.map (fun i => (WR ++ W1)[i]?) = ws.map some) (h82 : is9.filterMap (fun i => (WR ++ W1)[i]?) = ws) (hn9 : va_nd is9 = true)
    (q0 : Nat) {ci : Nat} {fs : List Value} {q : vw_C} (hq : ws[q0]? = some (b, .inr (ci, fs))) (hcl : vwCl[ci]? = some q) (hn1 : q.1 = C) (cw : CallW R s args own C index y bytes maxL ret wsY rm 1 6 n) (hn : As.length = n) (hsize : ls.size = nL) (hst : st0 = As.reverse ++ .ref b :: rest) (hW : (rest.map fun v => v.category).sum ≤ 8) (hdg : decode cc pc = .ok (.invokevirtual index, 3)) (hf : 0 + 1 ≤ R.cells ∧ 0 + 6 ≤ R.slots)
    (kx : ∀ (E : String) (ce : Cell) (q9 : Addr) (H1 : Heap) (locs1 : List Loc), kEx code Es E → va_P D vwCl ws H1 → va_D A ws → va_S A s.heap H1 locs1 → H1[q9]? = some ce → ce.vm = .none → s.vm.findClass E = some ce.cls → vx_W p l e R s m args below meth c H1 locs1 (0 + 1) (0 + 6) Q (F0 m pc ls rest) q9)
    (kk : ∀ (r : Int32) (H1 : Heap) (locs1 : List Loc), code = 0 → post r → va_P D vwCl WN H1 → va_D A WN → va_S A s.heap H1 locs1 → W p l e R s m args below meth c H1 locs1 (0 + 1) (0 + 6) Q (F0 m (pc + 3) ls (.int r :: rest))) : W p l e R s m args below meth c s.heap [] 0 0 Q (F0 m pc ls st0) := by
  subst hn1
  have hS : va_S A s.heap s.heap [] := va_S.rf
  have hPc : va_P D vwCl W1 s.heap := hP.sub isC hC2
  have hDc : va_D A W1 := hD.sub isC hnC hC
  have hFc := va_free (wc := W1) hD hS hA isC hC
  refine vx_calli (vx_runV S hM cw ⟨kXPre_blind, va_recv hK.1 hP hcl hq, fun U hU hW => ⟨rfl, ⟨by rw [hU], by rw [hU]; exact hPc, hK.k.warm hW, hDc.weaken (fun _ _ _ _ => trivial)⟩, by rw [hU]; exact (hX.narrow hFc).warm hW⟩⟩ rfl hn hsize hst (lv_room hW) hdg hf) hS (fun q _ h => hFc q h) hFc (fun q _ h => hFc q h) (fun E ce q9 u t H1 locs1 ht hvm hw hB hz1 hk1 hS1 hc1 hv1 hcl1 => ?_) (fun r u t H1 locs1 ht hvm hw hB hz1 hk1 hS1 => ?_)
  · obtain ⟨hE, hP1, hD1⟩ := hB
    rw [ht] at hP1
    obtain ⟨hP2, hD2⟩ := va_join (wr := WR) hP hD isC isR hC hR hnR hdis hk1 hFc hP1 hD1
    exact kx E ce q9 H1 locs1 hE (hP2.sub is9 h82) (hD2.sub is9 hn9 h8) hS1 hc1 hv1 hcl1
  · obtain ⟨hP1, hD1⟩ := hB
    rw [ht] at hP1
    obtain ⟨hP2, hD2⟩ := va_join (wr := WR) hP hD isC isR hC hR hnR hdis hk1 hFc hP1 hD1
    exact kk r H1 locs1 hw.1 hw.2 (hP2.sub is9 h92) (hD2.sub is9 hn9 h9) hS1
theorem k_xwv (S : CallFix p m c cc nL s args Ts own) (hK : kL D cI cZ s) (hP : va_P D vwCl ws s.heap) (hD : va_D A ws) (hX : kX A s s.heap) (hA : ∀ q, s.heap.size ≤ q → A q) (hM : kXv l y wsY rm (.ref b :: As) D cI cZ s.heap.size W1 W2 code Es) (isC isR is9 : List Nat) (hC : isC.map (fun i => ws[i]?) = W1.map some) (hC2 : isC.filterMap (fun i => ws[i]?) = W1) (hnC : va_nd isC = true) (hR : isR.map (fun i => ws[i]?) = WR.map some) (hnR : va_nd isR = true) (hdis : ∀ i ∈ isR, i ∉ isC) (h9 : is9.map (fun i => (WR ++ W2)[i]?) = WN.map some) (h92 : is9.filterMap (fun i => (WR ++ W2)[i]?) = WN) (h8 : is9.map (fun i => (WR ++ W1)[i]?) = ws.map some) (h82 : is9.filterMap (fun i => (WR ++ W1)[i]?) = ws) (hn9 : va_nd is9 = true)
    (q0 : Nat) {ci : Nat} {fs : List Value} {q : vw_C} (hq : ws[q0]? = some (b, .inr (ci, fs))) (hcl : vwCl[ci]? = some q) (hn1 : q.1 = C) (cw : CallW R s args own C index y bytes maxL ret wsY rm 1 6 n) (hn : As.length = n) (hsize : ls.size = nL) (hst : st0 = As.reverse ++ .ref b :: rest) (hW : (rest.map fun v => v.category).sum ≤ 8) (hdg : decode cc pc = .ok (.invokevirtual index, 3)) (hf : 0 + 1 ≤ R.cells ∧ 0 + 6 ≤ R.slots)
    (kx : ∀ (E : String) (ce : Cell) (q9 : Addr) (H1 : Heap) (locs1 : List Loc), kEx code Es E → va_P D vwCl ws H1 → va_D A ws → va_S A s.heap H1 locs1 → H1[q9]? = some ce → ce.vm = .none → s.vm.findClass E = some ce.cls → vx_W p l e R s m args below meth c H1 locs1 (0 + 1) (0 + 6) Q (F0 m pc ls rest) q9)
    (kk : ∀ (H1 : Heap) (locs1 : List Loc), code = 0 → va_P D vwCl WN H1 → va_D A WN → va_S A s.heap H1 locs1 → W p l e R s m args below meth c H1 locs1 (0 + 1) (0 + 6) Q (F0 m (pc + 3) ls rest)) : W p l e R s m args below meth c s.heap [] 0 0 Q (F0 m pc ls st0) := by
  subst hn1
  have hS : va_S A s.heap s.heap [] := va_S.rf
  have hPc : va_P D vwCl W1 s.heap := hP.sub isC hC2
  have hDc : va_D A W1 := hD.sub isC hnC hC
  have hFc := va_free (wc := W1) hD hS hA isC hC
  refine vx_callv (vx_runV S hM cw ⟨kXPre_blind, va_recv hK.1 hP hcl hq, fun U hU hW => ⟨rfl, ⟨by rw [hU], by rw [hU]; exact hPc, hK.k.warm hW, hDc.weaken (fun _ _ _ _ => trivial)⟩, by rw [hU]; exact (hX.narrow hFc).warm hW⟩⟩ rfl hn hsize hst (lv_room hW) hdg hf) hS (fun q _ h => hFc q h) hFc (fun q _ h => hFc q h) (fun E ce q9 u t H1 locs1 ht hvm hw hB hz1 hk1 hS1 hc1 hv1 hcl1 => ?_) (fun u t H1 locs1 ht hvm hw hB hz1 hk1 hS1 => ?_)
  · obtain ⟨hE, hP1, hD1⟩ := hB
    rw [ht] at hP1
    obtain ⟨hP2, hD2⟩ := va_join (wr := WR) hP hD isC isR hC hR hnR hdis hk1 hFc hP1 hD1
    exact kx E ce q9 H1 locs1 hE (hP2.sub is9 h82) (hD2.sub is9 hn9 h8) hS1 hc1 hv1 hcl1
  · obtain ⟨hP1, hD1⟩ := hB
    rw [ht] at hP1
    obtain ⟨hP2, hD2⟩ := va_join (wr := WR) hP hD isC isR hC hR hnR hdis hk1 hFc hP1 hD1
    exact kk H1 locs1 hw (hP2.sub is9 h92) (hD2.sub is9 hn9 h9) hS1
end KITW
section KITE
variable {p : Program} {l : Launch} {e : Env} {R : Room} {s : State} {m : MethodId} {args : Array Value} {below : List Frame} {meth : Method} {c : Code} {H : Heap} {locs : List Loc} {cells slots : Nat} {Q : State → Prop}
variable {cc : ByteArray} {pc : Nat} {ls : Array Slot} {rest : List Value} {D : va_G} {A : Nat → Prop} {ws : va_W} {H0 : Heap} {cI cZ : ClassId}
variable {Ts wsY ws' : List Cond} {bytes : ByteArray} {nL maxL index n : Nat} {own C : String} {y : MethodName} {ret : Option FieldType} {hh : List (Nat × Nat × Nat × Nat)} {rm : Room} {b : Addr} {As st0 : List Value} {W1 W2 WR WN : va_W} {code : Nat} {Es : List String} {T : Type}
theorem k_endE {ty : FieldType} {v : Int32} {u : T} {post : Int32 → T → Prop} {Wf : T → va_W} {A1 : Nat → Prop} {mc ms : Nat} (hc : cells ≤ mc) (hs : slots ≤ ms) (hexec : p.tables.exec = Jvm.exec) (hb : c.code = cc) (hr : meth.sig.returnType = some ty) (hlocks : meth.locks = false) (hn : narrow ty (.int v) = .int v) (hp : post v u) (hP : va_P D vwCl (Wf u) H) (hD : va_D A1 (Wf u)) (hS : va_S A1 s.heap H locs) (hdg : decode cc pc = .ok (.ireturn, 1)) : W p l e R s m args below meth c H locs cells slots (MQ below (va_Qi post (fun u t => kAt D A1 (Wf u) t) A1) args s mc ms A1) (F0 m pc ls [.int v]) :=
  W.widen (k := mc) (n := ms) hc hs (W.zret hexec hb hr hn (fun t ht hW => ⟨⟨v, u, rfl, hp, by rw [ht]; exact hP, hD⟩, hS.F ht⟩) hS.2.2 hdg hlocks)
/-- a call of the class that is not refused and changes nothing -/
theorem k_xi0 {post : Int32 → Prop} (S : CallFix p m c cc nL s args Ts own) (hK : kL D cI cZ s) (hX : kX A s H0) (hP : va_P D vwCl ws H) (hD : va_D A ws) (hS : va_S A H0 H locs) (hA : ∀ q, H0.size ≤ q → A q) (hM : kXi l y wsY rm (.ref b :: As) D cI cZ H.size W1 W1 code Es post) (h0 : code = 0) (isC isR is9 : List Nat) (hC : isC.map (fun i => ws[i]?) = W1.map some) (hC2 : isC.filterMap (fun i => ws[i]?) = W1) (hnC : va_nd isC = true) (hR : isR.map (fun i => ws[i]?) = WR.map some) (hnR : va_nd isR = true) (hdis : ∀ i ∈ isR, i ∉ isC) (h8 : is9.map (fun i => (WR ++ W1)[i]?) = ws.map some) (h82 : is9.filterMap (fun i => (WR ++ W1)[i]?) = ws) (hn9 : va_nd is9 = true)
    (q0 : Nat) {ci : Nat} {fs : List Value} {q : vw_C} (hq : ws[q0]? = some (b, .inr (ci, fs))) (hcl : vwCl[ci]? = some q) (hn1 : q.1 = C) (cw : CallW R s args own C index y bytes maxL ret wsY rm 1 6 n) (hn : As.length = n) (hsize : ls.size = nL) (hst : st0 = As.reverse ++ .ref b :: rest) (hW : (rest.map fun v => v.category).sum ≤ 8) (hdg : decode cc pc = .ok (.invokevirtual index, 3)) (hf : cells + 1 ≤ R.cells ∧ slots + 6 ≤ R.slots)
    (kk : ∀ (r : Int32) (H1 : Heap) (locs1 : List Loc), post r → va_P D vwCl ws H1 → va_D A ws → va_S A H0 H1 locs1 → W p l e R s m args below meth c H1 locs1 (cells + 1) (slots + 6) Q (F0 m (pc + 3) ls (.int r :: rest))) : W p l e R s m args below meth c H locs cells slots Q (F0 m pc ls st0) := by
  subst hn1
  have hPc : va_P D vwCl W1 H := hP.sub isC hC2
  have hDc : va_D A W1 := hD.sub isC hnC hC
  have hFc := va_free (wc := W1) hD hS hA isC hC
  have hXH : kX A s H := hX.kept hS.2.1
  refine vx_calli (vx_runV S hM cw ⟨kXPre_blind, va_recv hK.1 hP hcl hq, fun U hU hW => ⟨rfl, ⟨by rw [hU], by rw [hU]; exact hPc, hK.k.warm hW, hDc.weaken (fun _ _ _ _ => trivial)⟩, by rw [hU]; exact (hXH.narrow hFc).warm hW⟩⟩ rfl hn hsize hst (lv_room hW) hdg hf) hS (fun q _ h => hFc q h) hFc (fun q _ h => hFc q h) (fun E ce q9 u t H1 locs1 ht hvm hw hB hz1 hk1 hS1 hc1 hv1 hcl1 => ?_) (fun r u t H1 locs1 ht hvm hw hB hz1 hk1 hS1 => ?_)
  · exact absurd h0 hB.1.1
  · obtain ⟨hP1, hD1⟩ := hB
    rw [ht] at hP1
    obtain ⟨hP2, hD2⟩ := va_join (wr := WR) hP hD isC isR hC hR hnR hdis hk1 hFc hP1 hD1
    exact kk r H1 locs1 hw.2 (hP2.sub is9 h82) (hD2.sub is9 hn9 h8) hS1
theorem k_xf0 {post : UInt32 → Prop} (S : CallFix p m c cc nL s args Ts own) (hK : kL D cI cZ s) (hX : kX A s H0) (hP : va_P D vwCl ws H) (hD : va_D A ws) (hS : va_S A H0 H locs) (hA : ∀ q, H0.size ≤ q → A q) (hM : kXf l y wsY rm (.ref b :: As) D cI cZ H.size W1 W1 code Es post) (h0 : code = 0) (isC isR is9 : List Nat) (hC : isC.map (fun i => ws[i]?) = W1.map some) (hC2 : isC.filterMap (fun i => ws[i]?) = W1) (hnC : va_nd isC = true) (hR : isR.map (fun i => ws[i]?) = WR.map some) (hnR : va_nd isR = true) (hdis : ∀ i ∈ isR, i ∉ isC) (h8 : is9.map (fun i => (WR ++ W1)[i]?) = ws.map some) (h82 : is9.filterMap (fun i => (WR ++ W1)[i]?) = ws) (hn9 : va_nd is9 = true)
    (q0 : Nat) {ci : Nat} {fs : List Value} {q : vw_C} (hq : ws[q0]? = some (b, .inr (ci, fs))) (hcl : vwCl[ci]? = some q) (hn1 : q.1 = C) (cw : CallW R s args own C index y bytes maxL ret wsY rm 1 6 n) (hn : As.length = n) (hsize : ls.size = nL) (hst : st0 = As.reverse ++ .ref b :: rest) (hW : (rest.map fun v => v.category).sum ≤ 8) (hdg : decode cc pc = .ok (.invokevirtual index, 3)) (hf : cells + 1 ≤ R.cells ∧ slots + 6 ≤ R.slots)
    (kk : ∀ (r : UInt32) (H1 : Heap) (locs1 : List Loc), post r → va_P D vwCl ws H1 → va_D A ws → va_S A H0 H1 locs1 → W p l e R s m args below meth c H1 locs1 (cells + 1) (slots + 6) Q (F0 m (pc + 3) ls (.float r :: rest))) : W p l e R s m args below meth c H locs cells slots Q (F0 m pc ls st0) := by
  subst hn1
  have hPc : va_P D vwCl W1 H := hP.sub isC hC2
  have hDc : va_D A W1 := hD.sub isC hnC hC
  have hFc := va_free (wc := W1) hD hS hA isC hC
  have hXH : kX A s H := hX.kept hS.2.1
  refine vx_callf (vx_runV S hM cw ⟨kXPre_blind, va_recv hK.1 hP hcl hq, fun U hU hW => ⟨rfl, ⟨by rw [hU], by rw [hU]; exact hPc, hK.k.warm hW, hDc.weaken (fun _ _ _ _ => trivial)⟩, by rw [hU]; exact (hXH.narrow hFc).warm hW⟩⟩ rfl hn hsize hst (lv_room hW) hdg hf) hS (fun q _ h => hFc q h) hFc (fun q _ h => hFc q h) (fun E ce q9 u t H1 locs1 ht hvm hw hB hz1 hk1 hS1 hc1 hv1 hcl1 => ?_) (fun r u t H1 locs1 ht hvm hw hB hz1 hk1 hS1 => ?_)
  · exact absurd h0 hB.1.1
  · obtain ⟨hP1, hD1⟩ := hB
    rw [ht] at hP1
    obtain ⟨hP2, hD2⟩ := va_join (wr := WR) hP hD isC isR hC hR hnR hdis hk1 hFc hP1 hD1
    exact kk r H1 locs1 hw.2 (hP2.sub is9 h82) (hD2.sub is9 hn9 h8) hS1
/-- a method of the law with handlers of its own -/
theorem k_leW {post : Int32 → T → Prop} {Wf WNf : T → va_W} {mc ms : Nat} (S : CallFix p m c cc nL s args Ts own) (hK : kL D cI cZ s) (hX : kX A s H0) (hP : va_P D vwCl ws H) (hD : va_D A ws) (hS : va_S A H0 H locs) (hA : ∀ q, H0.size ≤ q → A q) (hM : kWE l y wsY rm As D cI cZ H.size W1 Wf post mc ms) (isC isR is9 : List Nat) (hC : isC.map (fun i => ws[i]?) = W1.map some) (hC2 : isC.filterMap (fun i => ws[i]?) = W1) (hnC : va_nd isC = true) (hR : isR.map (fun i => ws[i]?) = WR.map some) (hnR : va_nd isR = true) (hdis : ∀ i ∈ isR, i ∉ isC) (h9 : ∀ u, is9.map (fun i => (WR ++ Wf u)[i]?) = (WNf u).map some) (h92 : ∀ u, is9.filterMap (fun i => (WR ++ Wf u)[i]?) = WNf u) (hn9 : va_nd is9 = true)
    (cw : vx_CSW R s args own index y bytes maxL ret hh wsY rm mc ms n) (hn : As.length = n) (hsize : ls.size = nL) (hst : st0 = As.reverse ++ rest) (hW : (rest.map fun v => v.category).sum ≤ 8) (hdg : decode cc pc = .ok (.invokestatic index, 3)) (hf : cells + mc ≤ R.cells ∧ slots + ms ≤ R.slots)
    (kk : ∀ (r : Int32) (u : T) (H1 : Heap) (locs1 : List Loc), post r u → va_P D vwCl (WNf u) H1 → va_D A (WNf u) → va_S A H0 H1 locs1 → W p l e R s m args below meth c H1 locs1 (cells + mc) (slots + ms) Q (F0 m (pc + 3) ls (.int r :: rest))) : W p l e R s m args below meth c H locs cells slots Q (F0 m pc ls st0) := by
  have hPc : va_P D vwCl W1 H := hP.sub isC hC2
  have hDc : va_D A W1 := hD.sub isC hnC hC
  have hFc := va_free (wc := W1) hD hS hA isC hC
  have hXH : kX A s H := hX.kept hS.2.1
  refine va_calli (vx_runSW S hM cw ⟨kWPre_blind, fun U hU hW => ⟨rfl, by rw [hU], by rw [hU]; exact hPc, hK.warm hW, hDc.weaken (fun _ _ _ _ => trivial), by rw [hU]; exact (hXH.narrow hFc).warm hW⟩⟩ rfl hn hsize hst (lv_room hW) hdg hf) hS (fun q _ h => hFc q h) hFc (fun r u t H1 locs1 ht hvm hw hB hz1 hk1 hS1 => ?_)
  obtain ⟨hP1, hD1⟩ := hB
  rw [ht] at hP1
  obtain ⟨hP2, hD2⟩ := va_join (wr := WR) hP hD isC isR hC hR hnR hdis hk1 hFc hP1 hD1
  exact kk r u H1 locs1 hw (hP2.sub is9 (h92 u)) (hD2.sub is9 hn9 (h9 u)) hS1
/-- a method of the law without handlers -/
theorem k_leS {post : Int32 → T → Prop} {Wf WNf : T → va_W} {mc ms : Nat} (S : CallFix p m c cc nL s args Ts own) (hK : kL D cI cZ s) (hX : kX A s H0) (hP : va_P D vwCl ws H) (hD : va_D A ws) (hS : va_S A H0 H locs) (hA : ∀ q, H0.size ≤ q → A q) (hM : kWE l y wsY rm As D cI cZ H.size W1 Wf post mc ms) (isC isR is9 : List Nat) (hC : isC.map (fun i => ws[i]?) = W1.map some) (hC2 : isC.filterMap (fun i => ws[i]?) = W1) (hnC : va_nd isC = true) (hR : isR.map (fun i => ws[i]?) = WR.map some) (hnR : va_nd isR = true) (hdis : ∀ i ∈ isR, i ∉ isC) (h9 : ∀ u, is9.map (fun i => (WR ++ Wf u)[i]?) = (WNf u).map some) (h92 : ∀ u, is9.filterMap (fun i => (WR ++ Wf u)[i]?) = WNf u) (hn9 : va_nd is9 = true)
    (cw : CallB R s args own index y bytes maxL ret wsY rm mc ms n ∧ (Cond.static y).before args s = true) (hn : As.length = n) (hsize : ls.size = nL) (hst : st0 = As.reverse ++ rest) (hW : (rest.map fun v => v.category).sum ≤ 8) (hdg : decode cc pc = .ok (.invokestatic index, 3)) (hf : cells + mc ≤ R.cells ∧ slots + ms ≤ R.slots)
    (kk : ∀ (r : Int32) (u : T) (H1 : Heap) (locs1 : List Loc), post r u → va_P D vwCl (WNf u) H1 → va_D A (WNf u) → va_S A H0 H1 locs1 → W p l e R s m args below meth c H1 locs1 (cells + mc) (slots + ms) Q (F0 m (pc + 3) ls (.int r :: rest))) : W p l e R s m args below meth c H locs cells slots Q (F0 m pc ls st0) := by
  have hPc : va_P D vwCl W1 H := hP.sub isC hC2
  have hDc : va_D A W1 := hD.sub isC hnC hC
  have hFc := va_free (wc := W1) hD hS hA isC hC
  have hXH : kX A s H := hX.kept hS.2.1
  refine va_calli (va_runS S hM cw ⟨kWPre_blind, fun U hU hW => ⟨rfl, by rw [hU], by rw [hU]; exact hPc, hK.warm hW, hDc.weaken (fun _ _ _ _ => trivial), by rw [hU]; exact (hXH.narrow hFc).warm hW⟩⟩ rfl hn hsize hst (lv_room hW) hdg hf) hS (fun q _ h => hFc q h) hFc (fun r u t H1 locs1 ht hvm hw hB hz1 hk1 hS1 => ?_)
  obtain ⟨hP1, hD1⟩ := hB
  rw [ht] at hP1
  obtain ⟨hP2, hD2⟩ := va_join (wr := WR) hP hD isC isR hC hR hnR hdis hk1 hFc hP1 hD1
  exact kk r u H1 locs1 hw (hP2.sub is9 (h92 u)) (hD2.sub is9 hn9 (h9 u)) hS1
/-- a method of the law that makes an array -/
theorem k_lrS {Wf WNf : Nat → va_W} {mc ms : Nat} (S : CallFix p m c cc nL s args Ts own) (hK : kL D cI cZ s) (hX : kX A s H0) (hP : va_P D vwCl ws H) (hD : va_D A ws) (hS : va_S A H0 H locs) (hA : ∀ q, H0.size ≤ q → A q) (hM : kWR l y wsY rm As D cI cZ H.size W1 Wf mc ms) (isC isR is9 : List Nat) (hC : isC.map (fun i => ws[i]?) = W1.map some) (hC2 : isC.filterMap (fun i => ws[i]?) = W1) (hnC : va_nd isC = true) (hR : isR.map (fun i => ws[i]?) = WR.map some) (hnR : va_nd isR = true) (hdis : ∀ i ∈ isR, i ∉ isC) (h9 : ∀ u, is9.map (fun i => (WR ++ Wf u)[i]?) = (WNf u).map some) (h92 : ∀ u, is9.filterMap (fun i => (WR ++ Wf u)[i]?) = WNf u) (hn9 : va_nd is9 = true)
    (cw : CallB R s args own index y bytes maxL ret wsY rm mc ms n ∧ (Cond.static y).before args s = true) (hn : As.length = n) (hsize : ls.size = nL) (hst : st0 = As.reverse ++ rest) (hW : (rest.map fun v => v.category).sum ≤ 8) (hdg : decode cc pc = .ok (.invokestatic index, 3)) (hf : cells + mc ≤ R.cells ∧ slots + ms ≤ R.slots)
    (kk : ∀ (q : Nat) (H1 : Heap) (locs1 : List Loc), va_P D vwCl (WNf q) H1 → va_D A (WNf q) → va_S A H0 H1 locs1 → W p l e R s m args below meth c H1 locs1 (cells + mc) (slots + ms) Q (F0 m (pc + 3) ls (.ref q :: rest))) : W p l e R s m args below meth c H locs cells slots Q (F0 m pc ls st0) := by
  have hPc : va_P D vwCl W1 H := hP.sub isC hC2
  have hDc : va_D A W1 := hD.sub isC hnC hC
  have hFc := va_free (wc := W1) hD hS hA isC hC
  have hXH : kX A s H := hX.kept hS.2.1
  refine va_callr (va_runS S hM cw ⟨kWPre_blind, fun U hU hW => ⟨rfl, by rw [hU], by rw [hU]; exact hPc, hK.warm hW, hDc.weaken (fun _ _ _ _ => trivial), by rw [hU]; exact (hXH.narrow hFc).warm hW⟩⟩ rfl hn hsize hst (lv_room hW) hdg hf) hS (fun q _ h => hFc q h) hFc (fun u q t H1 locs1 ht hvm hw hB hz1 hk1 hS1 => ?_)
  obtain ⟨hP1, hD1⟩ := hB
  rw [ht] at hP1
  obtain ⟨hP2, hD2⟩ := va_join (wr := WR) hP hD isC isR hC hR hnR hdis hk1 hFc hP1 hD1
  exact kk q H1 locs1 (hP2.sub is9 (h92 q)) (hD2.sub is9 hn9 (h9 q)) hS1
/-- static, a world that is read -/
theorem k_rdS {post : Int32 → Prop} (S : CallFix p m c cc nL s args Ts own) (hK : kK D cI cZ s) (hP : va_P D vwCl ws H) (hM : kRd l y wsY rm As D cI cZ W1 post) (is : List Nat) (hC : is.filterMap (fun i => ws[i]?) = W1) (cw : CallB R s args own index y bytes maxL ret wsY rm 0 0 n ∧ (Cond.static y).before args s = true) (hn : As.length = n) (hsize : ls.size = nL) (hst : st0 = As.reverse ++ rest) (hW : (rest.map fun v => v.category).sum ≤ 8) (hdg : decode cc pc = .ok (.invokestatic index, 3)) (hf : cells ≤ R.cells ∧ slots ≤ R.slots)
    (kk : ∀ r : Int32, post r → W p l e R s m args below meth c H locs cells slots Q (F0 m (pc + 3) ls (.int r :: rest))) : W p l e R s m args below meth c H locs cells slots Q (F0 m pc ls st0) :=
  vp_callSi (va_runS S hM cw ⟨kRd_blind, fun U hU hW => ⟨rfl, by rw [hU]; exact hP.sub is hC, hK.warm hW⟩⟩ rfl hn hsize hst (lv_room hW) hdg hf).run kk
end KITE
