/-! Rows of this claim's own over the kit: contracts of three shapes (no world; a world that is read; a world that is changed), their calls, arrays by natural places. -/
/-- what a truth is as an int -/
def bI (P : Prop) [Decidable P] : Int32 := if P then 1 else 0
theorem bI_t {P : Prop} [Decidable P] (h : P) : bI P = 1 := if_pos h
theorem bI_f {P : Prop} [Decidable P] (h : ¬ P) : bI P = 0 := if_neg h
theorem bI_0 {P : Prop} [Decidable P] (h : bI P = 0) : ¬ P := fun q => by rw [bI_t q] at h; exact absurd h (by decide)
theorem bI_n {P : Prop} [Decidable P] (h : ¬ bI P = 0) : P := by
  by_cases q : P
  · exact q
  · exact absurd (bI_f q) h
theorem bI_z {P : Prop} [Decidable P] : narrow .boolean (.int (bI P)) = .int (bI P) := by
  by_cases q : P
  · rw [bI_t q]; rfl
  · rw [bI_f q]; rfl
theorem bI_v {P : Prop} [Decidable P] : vp_nar .boolean (bI P) = bI P := by
  by_cases q : P
  · rw [bI_t q]; rfl
  · rw [bI_f q]; rfl
theorem bI_c {P Q : Prop} [Decidable P] [Decidable Q] (h : P ↔ Q) : bI P = bI Q := by
  by_cases q : P
  · rw [bI_t q, bI_t (h.mp q)]
  · rw [bI_f q, bI_f (fun z => q (h.mpr z))]
/-- what the tables say: the classes, the arrays' classes, the one call of a nest mate -/
def kK (D : va_G) (cI cZ : ClassId) (U : State) : Prop := va_K D vwCl [(cI, .int), (cZ, .boolean)] U ∧ va_Nw (.methodLinkNest RX0 32 yX4_isWithin RX4) U
theorem kK.warm {D : va_G} {cI cZ : ClassId} {s U : State} (h : kK D cI cZ s) (hW : s.WarmedH U.vm) : kK D cI cZ U := ⟨va_K.moved hW.alike h.1, va_Nw.warmM hW h.2⟩
theorem kK.call {D : va_G} {cI cZ : ClassId} {U : State} {a : Array Value} {g : JFrame} {mk : MethodId} (h : kK D cI cZ U) : kK D cI cZ (U.calling g mk a) := ⟨va_K.moved (u := U) (U := U.calling g mk a) (Vm.Alike.refl U.vm) h.1, va_Nw.same rfl (u := U) (U := U.calling g mk a) rfl h.2⟩
/-- no world -/
abbrev kPs (l : Launch) (y : MethodName) (ws : List Cond) (rm : Room) (av : List Value) (post : Int32 → Prop) : Prop := Met l y ws rm (va_Pc av (fun _ => True)) (vp_Si post) 0 0 (fun _ => False)
/-- a world that is read -/
abbrev kRd (l : Launch) (y : MethodName) (ws : List Cond) (rm : Room) (av : List Value) (D : va_G) (cI cZ : ClassId) (W : va_W) (post : Int32 → Prop) : Prop := Met l y ws rm (va_Pc av (fun U => va_P D vwCl W U.heap ∧ kK D cI cZ U)) (vp_Si post) 0 0 (fun _ => False)
/-- no world, but the tables -/
abbrev kPK (l : Launch) (y : MethodName) (ws : List Cond) (rm : Room) (av : List Value) (D : va_G) (cI cZ : ClassId) (post : Int32 → Prop) : Prop := Met l y ws rm (va_Pc av (fun U => kK D cI cZ U)) (vp_Si post) 0 0 (fun _ => False)
abbrev kPre (D : va_G) (cI cZ : ClassId) (sz : Nat) (W : va_W) (U : State) : Prop := U.heap.size = sz ∧ va_P D vwCl W U.heap ∧ kK D cI cZ U ∧ va_D (fun _ => True) W
abbrev kAt (D : va_G) (A : Nat → Prop) (W : va_W) (t : State) : Prop := va_P D vwCl W t.heap ∧ va_D A W
/-- a world that is changed, no answer -/
abbrev kUv (l : Launch) (y : MethodName) (ws : List Cond) (rm : Room) (av : List Value) (D : va_G) (cI cZ : ClassId) (sz : Nat) (W W' : va_W) : Prop := Met l y ws rm (va_Pc av (kPre D cI cZ sz W)) (va_Qv (fun _ : Unit => True) (fun _ t => kAt D (va_A W sz) W' t) (va_A W sz)) 0 0 (va_A W sz)
/-- a world that is changed, an int's answer -/
abbrev kUi (l : Launch) (y : MethodName) (ws : List Cond) (rm : Room) (av : List Value) (D : va_G) (cI cZ : ClassId) (sz : Nat) (W W' : va_W) (post : Int32 → Prop) : Prop := Met l y ws rm (va_Pc av (kPre D cI cZ sz W)) (va_Qi (fun (r : Int32) (_ : Unit) => post r) (fun _ t => kAt D (va_A W sz) W' t) (va_A W sz)) 0 0 (va_A W sz)
section KIT
variable {p : Program} {l : Launch} {e : Env} {R : Room} {s : State} {m : MethodId} {args : Array Value} {below : List Frame} {meth : Method} {c : Code} {H : Heap} {locs : List Loc} {cells slots : Nat} {Q : State → Prop}
variable {cc : ByteArray} {pc : Nat} {ls : Array Slot} {rest : List Value} {D : va_G} {cl : List vw_C} {A : Nat → Prop} {tys : List (ClassId × FieldType)} {ws : va_W} {H0 : Heap}
theorem k_rw {x y : Int32} (h : x = y) (k : W p l e R s m args below meth c H locs cells slots Q (F0 m pc ls (.int y :: rest))) : W p l e R s m args below meth c H locs cells slots Q (F0 m pc ls (.int x :: rest)) := by rw [h]; exact k
theorem k_rwl {x y : Int64} (h : x = y) (k : W p l e R s m args below meth c H locs cells slots Q (F0 m pc ls (.long y :: rest))) : W p l e R s m args below meth c H locs cells slots Q (F0 m pc ls (.long x :: rest)) := by rw [h]; exact k
theorem k_iald {a : Nat} (hexec : p.tables.exec = Jvm.exec) (hb : c.code = cc) (hK : va_K D cl tys s) (hP : va_P D cl ws H) (q0 t0 : Nat) {cA : ClassId} {n : Nat} {f : Nat → Int32} (ha : ws[q0]? = some (a, .inl (cA, n, .inl f))) (ht : tys[t0]? = some (cA, .int)) {i : Int32} (k : Nat) (hi : i = nI k) (hk : k < n) (hn : n < 2 ^ 31) (hdg : decode cc pc = .ok (.iaload, 1))
    (kk : W p l e R s m args below meth c H locs cells slots Q (F0 m (pc + 1) ls (.int (f k) :: rest))) : W p l e R s m args below meth c H locs cells slots Q (F0 m pc ls (.int i :: .ref a :: rest)) := by
  subst hi
  refine va_iald hexec hb hK hP q0 t0 ha ht (vp_in_nI hk hn) hdg ?_
  rw [nI_clamp (by omega)]
  exact kk
theorem k_zald {a : Nat} (hexec : p.tables.exec = Jvm.exec) (hb : c.code = cc) (hK : va_K D cl tys s) (hP : va_P D cl ws H) (q0 t0 : Nat) {cA : ClassId} {n : Nat} {f : Nat → Int32} (ha : ws[q0]? = some (a, .inl (cA, n, .inl f))) (ht : tys[t0]? = some (cA, .boolean)) {i : Int32} (k : Nat) (hi : i = nI k) (hk : k < n) (hn : n < 2 ^ 31) (hdg : decode cc pc = .ok (.baload, 1))
    (kk : W p l e R s m args below meth c H locs cells slots Q (F0 m (pc + 1) ls (.int (f k) :: rest))) : W p l e R s m args below meth c H locs cells slots Q (F0 m pc ls (.int i :: .ref a :: rest)) := by
  subst hi
  refine va_zald hexec hb hK hP q0 t0 ha ht (vp_in_nI hk hn) hdg ?_
  rw [nI_clamp (by omega)]
  exact kk
theorem k_iast {a : Nat} (hexec : p.tables.exec = Jvm.exec) (hb : c.code = cc) (hK : va_K D cl tys s) (hP : va_P D cl ws H) (hD : va_D A ws) (hS : va_S A H0 H locs) (q0 t0 : Nat) {cA : ClassId} {n : Nat} {f : Nat → Int32} (ha : ws[q0]? = some (a, .inl (cA, n, .inl f))) (ht : tys[t0]? = some (cA, .int)) {i : Int32} {x : Int32} (k : Nat) (hi : i = nI k) (hk : k < n) (hn : n < 2 ^ 31) (hdg : decode cc pc = .ok (.iastore, 1))
    (kk : ∀ (H1 : Heap) (locs1 : List Loc), va_P D cl (ws.set q0 (a, .inl (cA, n, .inl (upd f k x)))) H1 → va_D A (ws.set q0 (a, .inl (cA, n, .inl (upd f k x)))) → va_S A H0 H1 locs1 → W p l e R s m args below meth c H1 locs1 cells slots Q (F0 m (pc + 1) ls rest)) : W p l e R s m args below meth c H locs cells slots Q (F0 m pc ls (.int x :: .int i :: .ref a :: rest)) := by
  subst hi
  refine va_iast hexec hb hK hP hD hS q0 t0 ha ht (vp_in_nI hk hn) hdg ?_
  rw [nI_clamp (by omega)]
  exact kk
theorem k_zast {a : Nat} (hexec : p.tables.exec = Jvm.exec) (hb : c.code = cc) (hK : va_K D cl tys s) (hP : va_P D cl ws H) (hD : va_D A ws) (hS : va_S A H0 H locs) (q0 t0 : Nat) {cA : ClassId} {n : Nat} {f : Nat → Int32} (ha : ws[q0]? = some (a, .inl (cA, n, .inl f))) (ht : tys[t0]? = some (cA, .boolean)) {i : Int32} {x : Int32} (hx : vp_nar .boolean x = x) (k : Nat) (hi : i = nI k) (hk : k < n) (hn : n < 2 ^ 31) (hdg : decode cc pc = .ok (.bastore, 1))
    (kk : ∀ (H1 : Heap) (locs1 : List Loc), va_P D cl (ws.set q0 (a, .inl (cA, n, .inl (upd f k x)))) H1 → va_D A (ws.set q0 (a, .inl (cA, n, .inl (upd f k x)))) → va_S A H0 H1 locs1 → W p l e R s m args below meth c H1 locs1 cells slots Q (F0 m (pc + 1) ls rest)) : W p l e R s m args below meth c H locs cells slots Q (F0 m pc ls (.int x :: .int i :: .ref a :: rest)) := by
  subst hi
  refine va_zast hexec hb hK hP hD hS q0 t0 ha ht (vp_in_nI hk hn) hdg ?_
  rw [nI_clamp (by omega), hx]
  exact kk
/-- the end of a method that changes nothing -/
theorem k_endR {ty : FieldType} {v : Int32} {post : Int32 → Prop} (hexec : p.tables.exec = Jvm.exec) (hb : c.code = cc) (hr : meth.sig.returnType = some ty) (hlocks : meth.locks = false) (hn : narrow ty (.int v) = .int v) (hp : post v) (hdg : decode cc pc = .ok (.ireturn, 1)) : W p l e R s m args below meth c s.heap [] 0 0 (MQ below (vp_Si post) args s 0 0 (fun _ => False)) (F0 m pc ls [.int v]) :=
  W.zret hexec hb hr hn (fun t ht hW => ⟨v, rfl, hp, ht⟩) (fun q hq => absurd hq List.not_mem_nil) hdg hlocks
/-- the end of a method that changes its world -/
theorem k_endV {W' : va_W} {sz : Nat} {A1 : Nat → Prop} (hexec : p.tables.exec = Jvm.exec) (hb : c.code = cc) (hr : meth.sig.returnType = none) (hlocks : meth.locks = false) (hP : va_P D vwCl W' H) (hD : va_D A1 W') (hS : va_S A1 s.heap H locs) (hdg : decode cc pc = .ok (.return_, 1)) : W p l e R s m args below meth c H locs cells slots (MQ below (va_Qv (fun _ : Unit => True) (fun _ t => kAt D A1 W' t) A1) args s cells slots A1) (F0 m pc ls []) :=
  W.vret hexec hb hr (fun t ht hW => ⟨⟨(), rfl, trivial, by rw [ht]; exact hP, hD⟩, hS.F ht⟩) hS.2.2 hdg hlocks
theorem k_endI {ty : FieldType} {v : Int32} {post : Int32 → Prop} {W' : va_W} {A1 : Nat → Prop} (hexec : p.tables.exec = Jvm.exec) (hb : c.code = cc) (hr : meth.sig.returnType = some ty) (hlocks : meth.locks = false) (hn : narrow ty (.int v) = .int v) (hp : post v) (hP : va_P D vwCl W' H) (hD : va_D A1 W') (hS : va_S A1 s.heap H locs) (hdg : decode cc pc = .ok (.ireturn, 1)) : W p l e R s m args below meth c H locs cells slots (MQ below (va_Qi (fun (r : Int32) (_ : Unit) => post r) (fun _ t => kAt D A1 W' t) A1) args s cells slots A1) (F0 m pc ls [.int v]) :=
  W.zret hexec hb hr hn (fun t ht hW => ⟨⟨v, (), rfl, hp, by rw [ht]; exact hP, hD⟩, hS.F ht⟩) hS.2.2 hdg hlocks
variable {Ts wsY ws' : List Cond} {bytes : ByteArray} {nL maxL index n : Nat} {own C : String} {y : MethodName} {ret : Option FieldType} {rm : Room} {b : Addr} {As st0 : List Value} {post : Int32 → Prop} {cI cZ : ClassId} {W1 W2 : va_W}
theorem k_callSi {Qs : Array Value} {g : JFrame} (hr : va_Run p l e R s m args below meth c H locs cells slots 0 0 (F0 m pc ls st0) rest (vp_Si post Qs) (fun _ => False))
    (kk : ∀ r : Int32, post r → W p l e R s m args below meth c H locs cells slots Q (F0 m (pc + 3) ls (.int r :: rest))) : W p l e R s m args below meth c H locs cells slots Q (F0 m pc ls st0) := vp_callSi hr.run kk
/-- static, no world -/
theorem k_ps (S : CallFix p m c cc nL s args Ts own) (hM : kPs l y wsY rm As post) (cw : CallB R s args own index y bytes maxL ret wsY rm 0 0 n ∧ (Cond.static y).before args s = true) (hn : As.length = n) (hsize : ls.size = nL) (hst : st0 = As.reverse ++ rest) (hW : (rest.map fun v => v.category).sum ≤ 8) (hdg : decode cc pc = .ok (.invokestatic index, 3)) (hf : cells ≤ R.cells ∧ slots ≤ R.slots)
    (kk : ∀ r : Int32, post r → W p l e R s m args below meth c H locs cells slots Q (F0 m (pc + 3) ls (.int r :: rest))) : W p l e R s m args below meth c H locs cells slots Q (F0 m pc ls st0) :=
  vp_callSi (va_runS S hM cw ⟨fun a U g mk q => q, fun U hU hW => ⟨rfl, trivial⟩⟩ rfl hn hsize hst (lv_room hW) hdg hf).run kk
/-- static of a nest mate, no world -/
theorem k_psN {host : String} (S : CallFix p m c cc nL s args Ts own) (hM : kPs l y wsY rm As post) (cw : va_CN R s args own index y host bytes maxL ret wsY rm 0 0 n ∧ (Cond.static y).before args s = true ∧ True) (hn : As.length = n) (hsize : ls.size = nL) (hst : st0 = As.reverse ++ rest) (hW : (rest.map fun v => v.category).sum ≤ 8) (hdg : decode cc pc = .ok (.invokestatic index, 3)) (hf : cells ≤ R.cells ∧ slots ≤ R.slots)
    (kk : ∀ r : Int32, post r → W p l e R s m args below meth c H locs cells slots Q (F0 m (pc + 3) ls (.int r :: rest))) : W p l e R s m args below meth c H locs cells slots Q (F0 m pc ls st0) :=
  vp_callSi (va_runSN S hM cw ⟨fun a U g mk q => q, fun U hU hW => ⟨rfl, trivial⟩⟩ rfl hn hsize hst (lv_room hW) hdg hf).run kk
theorem kPK_blind {av : List Value} : FrameBlind (va_Pc av (fun U => kK D cI cZ U)) := fun a U g mk q => ⟨q.1, q.2.call⟩
/-- static, no world but the tables -/
theorem k_pk (S : CallFix p m c cc nL s args Ts own) (hK : kK D cI cZ s) (hM : kPK l y wsY rm As D cI cZ post) (cw : CallB R s args own index y bytes maxL ret wsY rm 0 0 n ∧ (Cond.static y).before args s = true) (hn : As.length = n) (hsize : ls.size = nL) (hst : st0 = As.reverse ++ rest) (hW : (rest.map fun v => v.category).sum ≤ 8) (hdg : decode cc pc = .ok (.invokestatic index, 3)) (hf : cells ≤ R.cells ∧ slots ≤ R.slots)
    (kk : ∀ r : Int32, post r → W p l e R s m args below meth c H locs cells slots Q (F0 m (pc + 3) ls (.int r :: rest))) : W p l e R s m args below meth c H locs cells slots Q (F0 m pc ls st0) :=
  vp_callSi (va_runS S hM cw ⟨kPK_blind, fun U hU hW => ⟨rfl, hK.warm hW⟩⟩ rfl hn hsize hst (lv_room hW) hdg hf).run kk
/-- by the receiver, no world -/
theorem k_pv (S : CallFix p m c cc nL s args Ts own) (hM : kPs l y wsY rm (.ref b :: As) post) (cw : CallW R s args own C index y bytes maxL ret wsY rm 0 0 n) (hrc : ∃ cellB : Cell, H[b]? = some cellB ∧ cellB.vm.isStatics = false ∧ s.vm.findClass C = some cellB.cls) (hn : As.length = n) (hsize : ls.size = nL) (hst : st0 = As.reverse ++ .ref b :: rest) (hW : (rest.map fun v => v.category).sum ≤ 8) (hdg : decode cc pc = .ok (.invokevirtual index, 3)) (hf : cells ≤ R.cells ∧ slots ≤ R.slots)
    (kk : ∀ r : Int32, post r → W p l e R s m args below meth c H locs cells slots Q (F0 m (pc + 3) ls (.int r :: rest))) : W p l e R s m args below meth c H locs cells slots Q (F0 m pc ls st0) :=
  vp_callSi (va_runV S hM cw ⟨fun a U g mk q => q, hrc, fun U hU hW => ⟨rfl, trivial⟩⟩ rfl hn hsize hst (lv_room hW) hdg hf).run kk
theorem kRd_blind {av : List Value} : FrameBlind (va_Pc av (fun U => va_P D vwCl W1 U.heap ∧ kK D cI cZ U)) := fun a U g mk q => ⟨q.1, q.2.1, q.2.2.call⟩
theorem kPre_blind {av : List Value} {sz : Nat} : FrameBlind (va_Pc av (kPre D cI cZ sz W1)) := fun a U g mk q => ⟨q.1, q.2.1, q.2.2.1, q.2.2.2.1.call, q.2.2.2.2⟩
/-- by the receiver, a world that is read: the caller's cells at the places 'is' -/
theorem k_rd (S : CallFix p m c cc nL s args Ts own) (hK : kK D cI cZ s) (hP : va_P D vwCl ws H) (hM : kRd l y wsY rm (.ref b :: As) D cI cZ W1 post) (is : List Nat) (hC : is.filterMap (fun i => ws[i]?) = W1) (q0 : Nat) {ci : Nat} {fs : List Value} {q : vw_C} (hq : ws[q0]? = some (b, .inr (ci, fs))) (hcl : vwCl[ci]? = some q) (hn1 : q.1 = C) (cw : CallW R s args own C index y bytes maxL ret wsY rm 0 0 n) (hn : As.length = n) (hsize : ls.size = nL) (hst : st0 = As.reverse ++ .ref b :: rest) (hW : (rest.map fun v => v.category).sum ≤ 8) (hdg : decode cc pc = .ok (.invokevirtual index, 3)) (hf : cells ≤ R.cells ∧ slots ≤ R.slots)
    (kk : ∀ r : Int32, post r → W p l e R s m args below meth c H locs cells slots Q (F0 m (pc + 3) ls (.int r :: rest))) : W p l e R s m args below meth c H locs cells slots Q (F0 m pc ls st0) := by
  subst hn1
  exact vp_callSi (va_runV S hM cw ⟨kRd_blind, va_recv hK.1 hP hcl hq, fun U hU hW => ⟨rfl, by rw [hU]; exact hP.sub is hC, hK.warm hW⟩⟩ rfl hn hsize hst (lv_room hW) hdg hf).run kk
/-- by the receiver, a world that is changed: the caller's cells at the places isC, the rest's at isR; the new world in the old order -/
theorem k_uv {WR WN : va_W} (S : CallFix p m c cc nL s args Ts own) (hK : kK D cI cZ s) (hP : va_P D vwCl ws H) (hD : va_D A ws) (hS : va_S A H0 H locs) (hA : ∀ q, H0.size ≤ q → A q) (hM : kUv l y wsY rm (.ref b :: As) D cI cZ H.size W1 W2) (isC isR is9 : List Nat) (hC : isC.map (fun i => ws[i]?) = W1.map some) (hC2 : isC.filterMap (fun i => ws[i]?) = W1) (hnC : va_nd isC = true) (hR : isR.map (fun i => ws[i]?) = WR.map some) (hnR : va_nd isR = true) (hdis : ∀ i ∈ isR, i ∉ isC) (h9 : is9.map (fun i => (WR ++ W2)[i]?) = WN.map some) (h92 : is9.filterMap (fun i => (WR ++ W2)[i]?) = WN) (hn9 : va_nd is9 = true)
    (q0 : Nat) {ci : Nat} {fs : List Value} {q : vw_C} (hq : ws[q0]? = some (b, .inr (ci, fs))) (hcl : vwCl[ci]? = some q) (hn1 : q.1 = C) (cw : CallW R s args own C index y bytes maxL ret wsY rm 0 0 n) (hn : As.length = n) (hsize : ls.size = nL) (hst : st0 = As.reverse ++ .ref b :: rest) (hW : (rest.map fun v => v.category).sum ≤ 8) (hdg : decode cc pc = .ok (.invokevirtual index, 3)) (hf : cells ≤ R.cells ∧ slots ≤ R.slots)
    (kk : ∀ (H1 : Heap) (locs1 : List Loc), va_P D vwCl WN H1 → va_D A WN → va_S A H0 H1 locs1 → W p l e R s m args below meth c H1 locs1 cells slots Q (F0 m (pc + 3) ls rest)) : W p l e R s m args below meth c H locs cells slots Q (F0 m pc ls st0) := by
  subst hn1
  have hPc : va_P D vwCl W1 H := hP.sub isC hC2
  have hDc : va_D A W1 := hD.sub isC hnC hC
  have hFc := va_free (wc := W1) hD hS hA isC hC
  refine va_callv (va_runV S hM cw ⟨kPre_blind, va_recv hK.1 hP hcl hq, fun U hU hW => ⟨rfl, by rw [hU], by rw [hU]; exact hPc, hK.warm hW, hDc.weaken (fun _ _ _ _ => trivial)⟩⟩ rfl hn hsize hst (lv_room hW) hdg hf) hS (fun q _ h => hFc q h) hFc (fun u t H1 locs1 ht hvm hw hB hz1 hk1 hS1 => ?_)
  obtain ⟨hP1, hD1⟩ := hB
  rw [ht] at hP1
  obtain ⟨hP2, hD2⟩ := va_join (wr := WR) hP hD isC isR hC hR hnR hdis hk1 hFc hP1 hD1
  exact kk H1 locs1 (hP2.sub is9 h92) (hD2.sub is9 hn9 h9) hS1
theorem k_ui {WR WN : va_W} (S : CallFix p m c cc nL s args Ts own) (hK : kK D cI cZ s) (hP : va_P D vwCl ws H) (hD : va_D A ws) (hS : va_S A H0 H locs) (hA : ∀ q, H0.size ≤ q → A q) (hM : kUi l y wsY rm (.ref b :: As) D cI cZ H.size W1 W2 post) (isC isR is9 : List Nat) (hC : isC.map (fun i => ws[i]?) = W1.map some) (hC2 : isC.filterMap (fun i => ws[i]?) = W1) (hnC : va_nd isC = true) (hR : isR.map (fun i => ws[i]?) = WR.map some) (hnR : va_nd isR = true) (hdis : ∀ i ∈ isR, i ∉ isC) (h9 : is9.map (fun i => (WR ++ W2)[i]?) = WN.map some) (h92 : is9.filterMap (fun i => (WR ++ W2)[i]?) = WN) (hn9 : va_nd is9 = true)
    (q0 : Nat) {ci : Nat} {fs : List Value} {q : vw_C} (hq : ws[q0]? = some (b, .inr (ci, fs))) (hcl : vwCl[ci]? = some q) (hn1 : q.1 = C) (cw : CallW R s args own C index y bytes maxL ret wsY rm 0 0 n) (hn : As.length = n) (hsize : ls.size = nL) (hst : st0 = As.reverse ++ .ref b :: rest) (hW : (rest.map fun v => v.category).sum ≤ 8) (hdg : decode cc pc = .ok (.invokevirtual index, 3)) (hf : cells ≤ R.cells ∧ slots ≤ R.slots)
    (kk : ∀ (r : Int32) (H1 : Heap) (locs1 : List Loc), post r → va_P D vwCl WN H1 → va_D A WN → va_S A H0 H1 locs1 → W p l e R s m args below meth c H1 locs1 cells slots Q (F0 m (pc + 3) ls (.int r :: rest))) : W p l e R s m args below meth c H locs cells slots Q (F0 m pc ls st0) := by
  subst hn1
  have hPc : va_P D vwCl W1 H := hP.sub isC hC2
  have hDc : va_D A W1 := hD.sub isC hnC hC
  have hFc := va_free (wc := W1) hD hS hA isC hC
  refine va_calli (va_runV S hM cw ⟨kPre_blind, va_recv hK.1 hP hcl hq, fun U hU hW => ⟨rfl, by rw [hU], by rw [hU]; exact hPc, hK.warm hW, hDc.weaken (fun _ _ _ _ => trivial)⟩⟩ rfl hn hsize hst (lv_room hW) hdg hf) hS (fun q _ h => hFc q h) hFc (fun r u t H1 locs1 ht hvm hw hB hz1 hk1 hS1 => ?_)
  obtain ⟨hP1, hD1⟩ := hB
  rw [ht] at hP1
  obtain ⟨hP2, hD2⟩ := va_join (wr := WR) hP hD isC isR hC hR hnR hdis hk1 hFc hP1 hD1
  exact kk r H1 locs1 hw (hP2.sub is9 h92) (hD2.sub is9 hn9 h9) hS1
end KIT
