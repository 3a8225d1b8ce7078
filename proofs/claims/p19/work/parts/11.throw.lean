/-! Throws: three classes of exceptions, sixteen texts; contracts of methods that may throw. Floats that are numbers. -/
abbrev kIOB : String := "java/lang/IndexOutOfBoundsException"
abbrev kISE : String := "java/lang/IllegalStateException"
abbrev kIAE : String := "java/lang/IllegalArgumentException"
abbrev kNm : List String := ["java/lang/RuntimeException", "java/lang/Exception"]
def kExc : List (String × Nat) := [(kIOB, 49), (kISE, 60), (kIAE, 72)]
def kStr : List (Nat × String) := [(47, "no such place"), (58, "the place is taken, or the field is full"), (70, "from, to or speed is out of range"), (77, "hour or waves is out of range"), (89, "no such turbine"), (94, "the turbine is broken"), (107, "no such boat"), (109, "hours is out of range"), (117, "no such boat or turbine"), (125, "the boat or the turbine is not fit for a repair"), (131, "hour, units or price is out of range"), (133, "the day ahead has ended"), (141, "there are no hours beyond the last"), (156, "hour is out of range"), (168, "hour or what is out of range"), (186, "what is out of range")]
def kDec : List MethodName := [Bundle.initS "java/lang/RuntimeException", Bundle.initS "java/lang/Exception", Bundle.initS Bundle.tN]
theorem kExc_ok : ∀ q ∈ kExc, Bundle.fit q.1 = true ∧ (∀ w ∈ vx_atS RX4 q.2 q.1 kNm, vx_ot w = true) ∧ (∀ w ∈ (vx_atS RX4 q.2 q.1 kNm).filter (fun w => !goodWord w), w ∈ Cond.castable q.1 q.1 :: kDec.map Cond.declares) := by decide +kernel
theorem kNm_ok : ∀ n ∈ kNm, Bundle.fit n = true := by decide +kernel
/-- what a throw needs -/
def kX (A : Nat → Prop) (U : State) (H : Heap) : Prop := vx_Zq Bundle.tN "UNASSIGNED_STACK" Bundle.steD A U H ∧ vx_Zq Bundle.tN "SUPPRESSED_SENTINEL" Bundle.listD A U H ∧ (∀ q ∈ kExc, va_Nw (.castable q.1 q.1) U) ∧ (∀ n ∈ kDec, va_Nw (.declares n) U) ∧ ∀ q ∈ kStr, ∃ sa, vk_R RX4 q.1 q.2 sa U
theorem kX.warm {A : Nat → Prop} {s U : State} {H : Heap} (h : kX A s H) (hW : s.WarmedH U.vm) : kX A U H := ⟨vx_Zq.moved hW.alike h.1, vx_Zq.moved hW.alike h.2.1, fun q hq => va_Nw.warmC hW (h.2.2.1 q hq), fun q hq => va_Nw.warmD hW (h.2.2.2.1 q hq), fun q hq => by obtain ⟨sa, z⟩ := h.2.2.2.2 q hq; exact ⟨sa, z.warm hW⟩⟩
theorem kX.call {A : Nat → Prop} {U : State} {H : Heap} {a : Array Value} {g : JFrame} {mk : MethodId} (h : kX A U H) : kX A (U.calling g mk a) H := ⟨vx_Zq.moved (u := U) (U := U.calling g mk a) (Vm.Alike.refl U.vm) h.1, vx_Zq.moved (u := U) (U := U.calling g mk a) (Vm.Alike.refl U.vm) h.2.1, fun q hq => va_Nw.same rfl (u := U) (U := U.calling g mk a) rfl (h.2.2.1 q hq), fun q hq => va_Nw.same rfl (u := U) (U := U.calling g mk a) rfl (h.2.2.2.1 q hq), fun q hq => by obtain ⟨sa, z⟩ := h.2.2.2.2 q hq; exact ⟨sa, z.same (u := U) (U := U.calling g mk a) rfl⟩⟩
theorem kX.narrow {A B : Nat → Prop} {U : State} {H : Heap} (h : kX A U H) (hAB : ∀ q, B q → A q) : kX B U H := ⟨h.1.narrow hAB, h.2.1.narrow hAB, h.2.2⟩
theorem kX.kept {A : Nat → Prop} {U : State} {H H1 : Heap} (h : kX A U H) (hq : ∀ a : Nat, a < H.size → ¬ A a → H1[a]? = H[a]?) : kX A U H1 := ⟨h.1.kept hq, h.2.1.kept hq, h.2.2⟩
/-- which exception it is, by the number that stands for it; 0: none -/
def kEx (c : Nat) (Es : List String) (E : String) : Prop := c ≠ 0 ∧ Es[c - 1]? = some E
theorem kEx_of {c k : Nat} {Es : List String} {E : String} (h : c = k + 1) (h2 : Es[k]? = some E) : kEx c Es E := by
  subst h; exact ⟨by omega, h2⟩
abbrev kXPre (D : va_G) (cI cZ : ClassId) (sz : Nat) (W : va_W) (U : State) : Prop := kPre D cI cZ sz W U ∧ kX (va_A W sz) U U.heap
abbrev kXX (D : va_G) (A : Nat → Prop) (W : va_W) (code : Nat) (Es : List String) : String → State → State → Prop := vx_X (fun _ : Unit => True) (fun E _ t => kEx code Es E ∧ kAt D A W t) A
abbrev kXi (l : Launch) (y : MethodName) (ws : List Cond) (rm : Room) (av : List Value) (D : va_G) (cI cZ : ClassId) (sz : Nat) (W W' : va_W) (code : Nat) (Es : List String) (post : Int32 → Prop) : Prop := vx_Met l y ws rm (va_Pc av (kXPre D cI cZ sz W)) (va_Qi (fun (r : Int32) (_ : Unit) => code = 0 ∧ post r) (fun _ t => kAt D (va_A W sz) W' t) (va_A W sz)) (kXX D (va_A W sz) W code Es) 1 6 (va_A W sz)
abbrev kXf (l : Launch) (y : MethodName) (ws : List Cond) (rm : Room) (av : List Value) (D : va_G) (cI cZ : ClassId) (sz : Nat) (W W' : va_W) (code : Nat) (Es : List String) (post : UInt32 → Prop) : Prop := vx_Met l y ws rm (va_Pc av (kXPre D cI cZ sz W)) (va_Qf (fun (r : UInt32) (_ : Unit) => code = 0 ∧ post r) (fun _ t => kAt D (va_A W sz) W' t) (va_A W sz)) (kXX D (va_A W sz) W code Es) 1 6 (va_A W sz)
abbrev kXv (l : Launch) (y : MethodName) (ws : List Cond) (rm : Room) (av : List Value) (D : va_G) (cI cZ : ClassId) (sz : Nat) (W W' : va_W) (code : Nat) (Es : List String) : Prop := vx_Met l y ws rm (va_Pc av (kXPre D cI cZ sz W)) (va_Qv (fun _ : Unit => code = 0) (fun _ t => kAt D (va_A W sz) W' t) (va_A W sz)) (kXX D (va_A W sz) W code Es) 1 6 (va_A W sz)
theorem kXPre_blind {D : va_G} {cI cZ : ClassId} {W1 : va_W} {av : List Value} {sz : Nat} : FrameBlind (va_Pc av (kXPre D cI cZ sz W1)) := fun a U g mk q => ⟨q.1, ⟨q.2.1.1, q.2.1.2.1, q.2.1.2.2.1.call, q.2.1.2.2.2⟩, q.2.2.call⟩
/-- a world that is read, a float's, a long's answer -/
abbrev kRf (l : Launch) (y : MethodName) (ws : List Cond) (rm : Room) (av : List Value) (D : va_G) (cI cZ : ClassId) (W : va_W) (post : UInt32 → Prop) : Prop := Met l y ws rm (va_Pc av (fun U => va_P D vwCl W U.heap ∧ kK D cI cZ U)) (vp_Sf post) 0 0 (fun _ => False)
abbrev kRl (l : Launch) (y : MethodName) (ws : List Cond) (rm : Room) (av : List Value) (D : va_G) (cI cZ : ClassId) (W : va_W) (post : Int64 → Prop) : Prop := Met l y ws rm (va_Pc av (fun U => va_P D vwCl W U.heap ∧ kK D cI cZ U)) (vp_Sl post) 0 0 (fun _ => False)
section KITX
variable {p : Program} {l : Launch} {e : Env} {R : Room} {s : State} {m : MethodId} {args : Array Value} {below : List Frame} {meth : Method} {c : Code} {H : Heap} {locs : List Loc} {cells slots : Nat} {Q : State → Prop}
variable {cc : ByteArray} {pc : Nat} {ls : Array Slot} {rest : List Value} {D : va_G} {A : Nat → Prop} {ws : va_W} {H0 : Heap}
theorem k_throw {Qc : Array Value → State → Outcome → State → Prop} {W1 : va_W} {E text : String} {ik is ic code k : Nat} {Es : List String} (hexec : p.tables.exec = Jvm.exec) (hb : c.code = cc) (hl : l.stackTraces = false) (hown : s.vm.findClass RX4 = some m.cls) (hE : (E, ic) ∈ kExc) (hk : (Cond.classLink RX4 ik E).before args s = true) (hini : (Cond.initialized E).before args s = true) (hq : (is, text) ∈ kStr) (hg : ∀ w ∈ (vx_atS RX4 ic E kNm).filter goodWord, w.before args s = true)
    (hX : kX A s s.heap) (hP : va_P D vwCl W1 s.heap) (hD : va_D A W1) (hsize : ls.size = c.maxLocals) (d0 : decode cc pc = .ok (.new ik, 3)) (d3 : decode cc (pc + 3) = .ok (.dup, 1)) (d4 : decode cc (pc + 4) = .ok (.ldc is, 2)) (d6 : decode cc (pc + 6) = .ok (.invokespecial ic, 3)) (d9 : decode cc (pc + 9) = .ok (.athrow, 1)) (ht : ∀ x ∈ c.exceptionTable.toList, False) (hfr : 5 < R.frames) (hlo : (rest.map fun v => v.category).sum + 82 ≤ R.locals) (hc : 1 ≤ R.cells) (hs : 6 ≤ R.slots) (hlocks : meth.locks = false) (hcode : code = k + 1) (hEs : Es[k]? = some E) :
    W p l e R s m args below meth c s.heap [] 0 0 (vx_MQ below Qc (kXX D A W1 code Es) args s 1 6 A) (F0 m pc ls rest) := by
  obtain ⟨hU, hN, hcast, hdec, hstr⟩ := hX
  obtain ⟨sa, hsa⟩ := hstr _ hq
  obtain ⟨o1, o2, o3⟩ := kExc_ok _ hE
  have hgood : ∀ w ∈ Cond.classLink RX4 ik E :: Cond.initialized E :: vx_atS RX4 ic E kNm, vx_ot w = true := by
    intro w hw
    rcases List.mem_cons.mp hw with h | h
    · rw [h]; rfl
    · rcases List.mem_cons.mp h with h | h
      · rw [h]; rfl
      · exact o2 w h
  exact vx_throwS (names := kNm) hexec hb hl hown o1 kNm_ok hk hini hsa (vx_hat hg o3 (vx_c (va_Nw.use rfl (hcast _ hE)) (fun w hw => by obtain ⟨n9, h8, rfl⟩ := List.mem_map.mp hw; exact va_Nw.use rfl (hdec _ h8)))) hgood hU hN va_S.rf hsize d0 d3 d4 d6 d9 (fun x h => (ht x h).elim) hfr hlo (by omega) (by omega) hlocks
    (fun t hA hz hq9 => ⟨(), trivial, ⟨kEx_of hcode hEs, hP.kept (fun k9 q9 h9 => hq9 q9.1 (hP k9 q9 h9).lt), hD⟩, hz, fun q9 h1 _ => hq9 q9 h1⟩) (fun z h => nomatch h) (Nat.le_refl _) (Nat.le_refl _)
theorem k_endXi {ty : FieldType} {v : Int32} {post : Int32 → Prop} {W' W1 : va_W} {code : Nat} {Es : List String} (hexec : p.tables.exec = Jvm.exec) (hb : c.code = cc) (hr : meth.sig.returnType = some ty) (hlocks : meth.locks = false) (hn : narrow ty (.int v) = .int v) (hp : code = 0 ∧ post v) (hP : va_P D vwCl W' H) (hD : va_D A W') (hS : va_S A s.heap H locs) (hdg : decode cc pc = .ok (.ireturn, 1)) : W p l e R s m args below meth c H locs 0 0 (vx_MQ below (va_Qi (fun (r : Int32) (_ : Unit) => code = 0 ∧ post r) (fun _ t => kAt D A W' t) A) (kXX D A W1 code Es) args s 1 6 A) (F0 m pc ls [.int v]) := by
  refine W.widen (k := 1) (n := 6) (by decide) (by decide) (vx_ret ?_)
  exact W.zret hexec hb hr hn (fun t ht hW => ⟨⟨v, (), rfl, hp, by rw [ht]; exact hP, hD⟩, hS.F ht⟩) hS.2.2 hdg hlocks
theorem k_endXf {v : UInt32} {post : UInt32 → Prop} {W' W1 : va_W} {code : Nat} {Es : List String} (hexec : p.tables.exec = Jvm.exec) (hb : c.code = cc) (hr : meth.sig.returnType = some .float) (hlocks : meth.locks = false) (hp : code = 0 ∧ post v) (hP : va_P D vwCl W' H) (hD : va_D A W') (hS : va_S A s.heap H locs) (hdg : decode cc pc = .ok (.freturn, 1)) : W p l e R s m args below meth c H locs 0 0 (vx_MQ below (va_Qf (fun (r : UInt32) (_ : Unit) => code = 0 ∧ post r) (fun _ t => kAt D A W' t) A) (kXX D A W1 code Es) args s 1 6 A) (F0 m pc ls [.float v]) := by
  refine W.widen (k := 1) (n := 6) (by decide) (by decide) (vx_ret ?_)
  exact W.fret hexec hb hr (fun t ht hW => ⟨⟨v, (), rfl, hp, by rw [ht]; exact hP, hD⟩, hS.F ht⟩) hS.2.2 hdg hlocks
theorem k_endXv {W' W1 : va_W} {code : Nat} {Es : List String} (hexec : p.tables.exec = Jvm.exec) (hb : c.code = cc) (hr : meth.sig.returnType = none) (hlocks : meth.locks = false) (hp : code = 0) (hP : va_P D vwCl W' H) (hD : va_D A W') (hS : va_S A s.heap H locs) (hdg : decode cc pc = .ok (.return_, 1)) : W p l e R s m args below meth c H locs 0 0 (vx_MQ below (va_Qv (fun _ : Unit => code = 0) (fun _ t => kAt D A W' t) A) (kXX D A W1 code Es) args s 1 6 A) (F0 m pc ls []) := by
  refine W.widen (k := 1) (n := 6) (by decide) (by decide) (vx_ret ?_)
  exact W.vret hexec hb hr (fun t ht hW => ⟨⟨(), rfl, hp, by rw [ht]; exact hP, hD⟩, hS.F ht⟩) hS.2.2 hdg hlocks
theorem k_endRf {v : UInt32} {post : UInt32 → Prop} (hexec : p.tables.exec = Jvm.exec) (hb : c.code = cc) (hr : meth.sig.returnType = some .float) (hlocks : meth.locks = false) (hp : post v) (hdg : decode cc pc = .ok (.freturn, 1)) : W p l e R s m args below meth c s.heap [] 0 0 (MQ below (vp_Sf post) args s 0 0 (fun _ => False)) (F0 m pc ls [.float v]) :=
  W.fret hexec hb hr (fun t ht hW => ⟨v, rfl, hp, ht⟩) (fun q hq => absurd hq List.not_mem_nil) hdg hlocks
theorem k_endRl {v : Int64} {post : Int64 → Prop} (hexec : p.tables.exec = Jvm.exec) (hb : c.code = cc) (hr : meth.sig.returnType = some .long) (hlocks : meth.locks = false) (hp : post v) (hdg : decode cc pc = .ok (.lreturn, 1)) : W p l e R s m args below meth c s.heap [] 0 0 (MQ below (vp_Sl post) args s 0 0 (fun _ => False)) (F0 m pc ls [.long v]) :=
  W.lret hexec hb hr (fun t ht hW => ⟨v, rfl, hp, ht⟩) (fun q hq => absurd hq List.not_mem_nil) hdg hlocks
variable {Ts wsY ws' : List Cond} {bytes : ByteArray} {nL maxL index n : Nat} {own C : String} {y : MethodName} {ret : Option FieldType} {rm : Room} {b : Addr} {As st0 : List Value} {cI cZ : ClassId} {W1 W2 : va_W}
theorem k_rdf {post : UInt32 → Prop} (S : CallFix p m c cc nL s args Ts own) (hK : kK D cI cZ s) (hP : va_P D vwCl ws H) (hM : kRf l y wsY rm (.ref b :: As) D cI cZ W1 post) (is : List Nat) (hC : is.filterMap (fun i => ws[i]?) = W1) (q0 : Nat) {ci : Nat} {fs : List Value} {q : vw_C} (hq : ws[q0]? = some (b, .inr (ci, fs))) (hcl : vwCl[ci]? = some q) (hn1 : q.1 = C) (cw : CallW R s args own C index y bytes maxL ret wsY rm 0 0 n) (hn : As.length = n) (hsize : ls.size = nL) (hst : st0 = As.reverse ++ .ref b :: rest) (hW : (rest.map fun v => v.category).sum ≤ 8) (hdg : decode cc pc = .ok (.invokevirtual index, 3)) (hf : cells ≤ R.cells ∧ slots ≤ R.slots)
    (kk : ∀ r : UInt32, post r → W p l e R s m args below meth c H locs cells slots Q (F0 m (pc + 3) ls (.float r :: rest))) : W p l e R s m args below meth c H locs cells slots Q (F0 m pc ls st0) := by
  subst hn1
  exact vp_callSf (va_runV S hM cw ⟨kRd_blind, va_recv hK.1 hP hcl hq, fun U hU hW => ⟨rfl, by rw [hU]; exact hP.sub is hC, hK.warm hW⟩⟩ rfl hn hsize hst (lv_room hW) hdg hf).run kk
theorem k_rdl {post : Int64 → Prop} (S : CallFix p m c cc nL s args Ts own) (hK : kK D cI cZ s) (hP : va_P D vwCl ws H) (hM : kRl l y wsY rm (.ref b :: As) D cI cZ W1 post) (is : List Nat) (hC : is.filterMap (fun i => ws[i]?) = W1) (q0 : Nat) {ci : Nat} {fs : List Value} {q : vw_C} (hq : ws[q0]? = some (b, .inr (ci, fs))) (hcl : vwCl[ci]? = some q) (hn1 : q.1 = C) (cw : CallW R s args own C index y bytes maxL ret wsY rm 0 0 n) (hn : As.length = n) (hsize : ls.size = nL) (hst : st0 = As.reverse ++ .ref b :: rest) (hW : (rest.map fun v => v.category).sum ≤ 8) (hdg : decode cc pc = .ok (.invokevirtual index, 3)) (hf : cells ≤ R.cells ∧ slots ≤ R.slots)
    (kk : ∀ r : Int64, post r → W p l e R s m args below meth c H locs cells slots Q (F0 m (pc + 3) ls (.long r :: rest))) : W p l e R s m args below meth c H locs cells slots Q (F0 m pc ls st0) := by
  subst hn1
  exact vp_callSl (va_runV S hM cw ⟨kRd_blind, va_recv hK.1 hP hcl hq, fun U hU hW => ⟨rfl, by rw [hU]; exact hP.sub is hC, hK.warm hW⟩⟩ rfl hn hsize hst (lv_room hW) hdg hf).run kk
end KITX
/-- the ratio of an hour -/
def fRatio (sl mk : Nat → Int32) (k : Nat) : UInt32 := if fSold sl k = 0 then FP.fconst0 else FP.fdiv (FP.i2f (mk k)) (FP.i2f (fSold sl k))
theorem fRatio_no (sl mk : Nat → Int32) (k : Nat) : FP.Core.fIsNaN (fRatio sl mk k) = false := by
  unfold fRatio
  by_cases h : fSold sl k = 0
  · rw [if_pos h]; decide
  · rw [if_neg h]; exact fq_core h
