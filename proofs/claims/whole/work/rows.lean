section
-- ===== PART A: goes FIRST, ahead of the names: the tables' words, and 'selects' of the private methods out of them =====
/-- a private method of a class that the tables say can be made, by its rows of tables_1 -/
def lw_okq (q : MethodName × Nat) : Prop := (q.1.cls ≠ "java/lang/invoke/MethodHandle" ∧ q.1.cls ≠ "java/lang/invoke/VarHandle") ∧ Cond.instantiable q.1.cls q.2 ∈ tables_1 ∧ Cond.privateMethod q.1 ∈ tables_1 ∧ Cond.instanceMethod q.1 ∈ tables_1
theorem lw_p0 : lw_okq (⟨"java/lang/Throwable", "fillInStackTrace", "(I)Ljava/lang/Throwable;"⟩, 6) := ⟨⟨by decide +kernel, by decide +kernel⟩, List.mem_of_getElem? (i := 184) (by decide +kernel), List.mem_of_getElem? (i := 182) (by decide +kernel), List.mem_of_getElem? (i := 183) (by decide +kernel)⟩
theorem lw_p1 : lw_okq (⟨"Turbineorchard", "isToCome", "(I)Z"⟩, 5) := ⟨⟨by decide +kernel, by decide +kernel⟩, List.mem_of_getElem? (i := 15) (by decide +kernel), List.mem_of_getElem? (i := 246) (by decide +kernel), List.mem_of_getElem? (i := 247) (by decide +kernel)⟩
theorem lw_p2 : lw_okq (⟨"Turbineorchard", "liveHour", "()V"⟩, 5) := ⟨⟨by decide +kernel, by decide +kernel⟩, List.mem_of_getElem? (i := 15) (by decide +kernel), List.mem_of_getElem? (i := 378) (by decide +kernel), List.mem_of_getElem? (i := 379) (by decide +kernel)⟩
theorem lw_p3 : lw_okq (⟨"Turbineorchard", "workOnRepairs", "()V"⟩, 5) := ⟨⟨by decide +kernel, by decide +kernel⟩, List.mem_of_getElem? (i := 15) (by decide +kernel), List.mem_of_getElem? (i := 382) (by decide +kernel), List.mem_of_getElem? (i := 383) (by decide +kernel)⟩
theorem lw_p4 : lw_okq (⟨"Turbineorchard$Field", "stillAt", "(I)V"⟩, 7) := ⟨⟨by decide +kernel, by decide +kernel⟩, List.mem_of_getElem? (i := 41) (by decide +kernel), List.mem_of_getElem? (i := 403) (by decide +kernel), List.mem_of_getElem? (i := 404) (by decide +kernel)⟩
theorem lw_p5 : lw_okq (⟨"Turbineorchard$Field", "powerOf", "(IIZ)I"⟩, 7) := ⟨⟨by decide +kernel, by decide +kernel⟩, List.mem_of_getElem? (i := 41) (by decide +kernel), List.mem_of_getElem? (i := 420) (by decide +kernel), List.mem_of_getElem? (i := 421) (by decide +kernel)⟩
theorem lw_p6 : lw_okq (⟨"Turbineorchard$Field", "turns", "(I)Z"⟩, 7) := ⟨⟨by decide +kernel, by decide +kernel⟩, List.mem_of_getElem? (i := 41) (by decide +kernel), List.mem_of_getElem? (i := 424) (by decide +kernel), List.mem_of_getElem? (i := 425) (by decide +kernel)⟩
theorem lw_p7 : lw_okq (⟨"Turbineorchard$Field", "distancesAhead", "(IZ)I"⟩, 7) := ⟨⟨by decide +kernel, by decide +kernel⟩, List.mem_of_getElem? (i := 41) (by decide +kernel), List.mem_of_getElem? (i := 432) (by decide +kernel), List.mem_of_getElem? (i := 433) (by decide +kernel)⟩
theorem lw_p8 : lw_okq (⟨"Turbineorchard", "endRepairs", "()V"⟩, 5) := ⟨⟨by decide +kernel, by decide +kernel⟩, List.mem_of_getElem? (i := 15) (by decide +kernel), List.mem_of_getElem? (i := 471) (by decide +kernel), List.mem_of_getElem? (i := 472) (by decide +kernel)⟩
theorem lw_p9 : lw_okq (⟨"Turbineorchard$Field", "windLeftAnew", "(IIZ)I"⟩, 7) := ⟨⟨by decide +kernel, by decide +kernel⟩, List.mem_of_getElem? (i := 41) (by decide +kernel), List.mem_of_getElem? (i := 522) (by decide +kernel), List.mem_of_getElem? (i := 523) (by decide +kernel)⟩
theorem lw_p10 : lw_okq (⟨"Turbineorchard", "isOver", "(I)Z"⟩, 5) := ⟨⟨by decide +kernel, by decide +kernel⟩, List.mem_of_getElem? (i := 15) (by decide +kernel), List.mem_of_getElem? (i := 533) (by decide +kernel), List.mem_of_getElem? (i := 534) (by decide +kernel)⟩
theorem lw_p11 : lw_okq (⟨"TurbineorchardModel", "in", "(III)Z"⟩, 19) := ⟨⟨by decide +kernel, by decide +kernel⟩, List.mem_of_getElem? (i := 591) (by decide +kernel), List.mem_of_getElem? (i := 663) (by decide +kernel), List.mem_of_getElem? (i := 664) (by decide +kernel)⟩
theorem lw_p12 : lw_okq (⟨"TurbineorchardModel", "fails", "(I)Z"⟩, 19) := ⟨⟨by decide +kernel, by decide +kernel⟩, List.mem_of_getElem? (i := 591) (by decide +kernel), List.mem_of_getElem? (i := 667) (by decide +kernel), List.mem_of_getElem? (i := 668) (by decide +kernel)⟩
theorem lw_p13 : lw_okq (⟨"TurbineorchardModel", "wavesOf", "(I)I"⟩, 19) := ⟨⟨by decide +kernel, by decide +kernel⟩, List.mem_of_getElem? (i := 591) (by decide +kernel), List.mem_of_getElem? (i := 679) (by decide +kernel), List.mem_of_getElem? (i := 680) (by decide +kernel)⟩
theorem lw_p14 : lw_okq (⟨"TurbineorchardModel", "isTurbine", "(I)Z"⟩, 19) := ⟨⟨by decide +kernel, by decide +kernel⟩, List.mem_of_getElem? (i := 591) (by decide +kernel), List.mem_of_getElem? (i := 687) (by decide +kernel), List.mem_of_getElem? (i := 688) (by decide +kernel)⟩
theorem lw_p15 : lw_okq (⟨"TurbineorchardModel", "repairs", "(I)V"⟩, 19) := ⟨⟨by decide +kernel, by decide +kernel⟩, List.mem_of_getElem? (i := 591) (by decide +kernel), List.mem_of_getElem? (i := 707) (by decide +kernel), List.mem_of_getElem? (i := 708) (by decide +kernel)⟩
def lw_privs_1 : List (MethodName × Nat) := [(⟨"java/lang/Throwable", "fillInStackTrace", "(I)Ljava/lang/Throwable;"⟩, 6), (⟨"Turbineorchard", "isToCome", "(I)Z"⟩, 5), (⟨"Turbineorchard", "liveHour", "()V"⟩, 5), (⟨"Turbineorchard", "workOnRepairs", "()V"⟩, 5), (⟨"Turbineorchard$Field", "stillAt", "(I)V"⟩, 7), (⟨"Turbineorchard$Field", "powerOf", "(IIZ)I"⟩, 7), (⟨"Turbineorchard$Field", "turns", "(I)Z"⟩, 7), (⟨"Turbineorchard$Field", "distancesAhead", "(IZ)I"⟩, 7), (⟨"Turbineorchard", "endRepairs", "()V"⟩, 5), (⟨"Turbineorchard$Field", "windLeftAnew", "(IIZ)I"⟩, 7), (⟨"Turbineorchard", "isOver", "(I)Z"⟩, 5), (⟨"TurbineorchardModel", "in", "(III)Z"⟩, 19), (⟨"TurbineorchardModel", "fails", "(I)Z"⟩, 19), (⟨"TurbineorchardModel", "wavesOf", "(I)I"⟩, 19), (⟨"TurbineorchardModel", "isTurbine", "(I)Z"⟩, 19), (⟨"TurbineorchardModel", "repairs", "(I)V"⟩, 19)]
theorem lw_r1 : ∀ q ∈ lw_privs_1, lw_okq q := List.forall_mem_cons.mpr ⟨lw_p0, List.forall_mem_cons.mpr ⟨lw_p1, List.forall_mem_cons.mpr ⟨lw_p2, List.forall_mem_cons.mpr ⟨lw_p3, List.forall_mem_cons.mpr ⟨lw_p4, List.forall_mem_cons.mpr ⟨lw_p5, List.forall_mem_cons.mpr ⟨lw_p6, List.forall_mem_cons.mpr ⟨lw_p7, List.forall_mem_cons.mpr ⟨lw_p8, List.forall_mem_cons.mpr ⟨lw_p9, List.forall_mem_cons.mpr ⟨lw_p10, List.forall_mem_cons.mpr ⟨lw_p11, List.forall_mem_cons.mpr ⟨lw_p12, List.forall_mem_cons.mpr ⟨lw_p13, List.forall_mem_cons.mpr ⟨lw_p14, List.forall_mem_cons.mpr ⟨lw_p15, fun _ h => absurd h List.not_mem_nil⟩⟩⟩⟩⟩⟩⟩⟩⟩⟩⟩⟩⟩⟩⟩⟩
theorem lw_p16 : lw_okq (⟨"TurbineorchardModel", "allTurn", "()V"⟩, 19) := ⟨⟨by decide +kernel, by decide +kernel⟩, List.mem_of_getElem? (i := 591) (by decide +kernel), List.mem_of_getElem? (i := 711) (by decide +kernel), List.mem_of_getElem? (i := 712) (by decide +kernel)⟩
theorem lw_p17 : lw_okq (⟨"TurbineorchardModel", "areBeside", "(II)Z"⟩, 19) := ⟨⟨by decide +kernel, by decide +kernel⟩, List.mem_of_getElem? (i := 591) (by decide +kernel), List.mem_of_getElem? (i := 715) (by decide +kernel), List.mem_of_getElem? (i := 716) (by decide +kernel)⟩
theorem lw_p18 : lw_okq (⟨"TurbineorchardModel", "power", "(II)I"⟩, 19) := ⟨⟨by decide +kernel, by decide +kernel⟩, List.mem_of_getElem? (i := 591) (by decide +kernel), List.mem_of_getElem? (i := 719) (by decide +kernel), List.mem_of_getElem? (i := 720) (by decide +kernel)⟩
theorem lw_p19 : lw_okq (⟨"TurbineorchardModel", "windOf", "(II)I"⟩, 19) := ⟨⟨by decide +kernel, by decide +kernel⟩, List.mem_of_getElem? (i := 591) (by decide +kernel), List.mem_of_getElem? (i := 723) (by decide +kernel), List.mem_of_getElem? (i := 724) (by decide +kernel)⟩
theorem lw_p20 : lw_okq (⟨"TurbineorchardModel", "ahead", "(III)I"⟩, 19) := ⟨⟨by decide +kernel, by decide +kernel⟩, List.mem_of_getElem? (i := 591) (by decide +kernel), List.mem_of_getElem? (i := 727) (by decide +kernel), List.mem_of_getElem? (i := 728) (by decide +kernel)⟩
theorem lw_p21 : lw_okq (⟨"TurbineorchardModel", "accounts", "(I)V"⟩, 19) := ⟨⟨by decide +kernel, by decide +kernel⟩, List.mem_of_getElem? (i := 591) (by decide +kernel), List.mem_of_getElem? (i := 731) (by decide +kernel), List.mem_of_getElem? (i := 732) (by decide +kernel)⟩
theorem lw_p22 : lw_okq (⟨"TurbineorchardModel", "frees", "()V"⟩, 19) := ⟨⟨by decide +kernel, by decide +kernel⟩, List.mem_of_getElem? (i := 591) (by decide +kernel), List.mem_of_getElem? (i := 735) (by decide +kernel), List.mem_of_getElem? (i := 736) (by decide +kernel)⟩
theorem lw_p23 : lw_okq (⟨"TurbineorchardModel", "sum", "(I)I"⟩, 19) := ⟨⟨by decide +kernel, by decide +kernel⟩, List.mem_of_getElem? (i := 591) (by decide +kernel), List.mem_of_getElem? (i := 747) (by decide +kernel), List.mem_of_getElem? (i := 748) (by decide +kernel)⟩
def lw_privs_2 : List (MethodName × Nat) := [(⟨"TurbineorchardModel", "allTurn", "()V"⟩, 19), (⟨"TurbineorchardModel", "areBeside", "(II)Z"⟩, 19), (⟨"TurbineorchardModel", "power", "(II)I"⟩, 19), (⟨"TurbineorchardModel", "windOf", "(II)I"⟩, 19), (⟨"TurbineorchardModel", "ahead", "(III)I"⟩, 19), (⟨"TurbineorchardModel", "accounts", "(I)V"⟩, 19), (⟨"TurbineorchardModel", "frees", "()V"⟩, 19), (⟨"TurbineorchardModel", "sum", "(I)I"⟩, 19)]
theorem lw_r2 : ∀ q ∈ lw_privs_2, lw_okq q := List.forall_mem_cons.mpr ⟨lw_p16, List.forall_mem_cons.mpr ⟨lw_p17, List.forall_mem_cons.mpr ⟨lw_p18, List.forall_mem_cons.mpr ⟨lw_p19, List.forall_mem_cons.mpr ⟨lw_p20, List.forall_mem_cons.mpr ⟨lw_p21, List.forall_mem_cons.mpr ⟨lw_p22, List.forall_mem_cons.mpr ⟨lw_p23, fun _ h => absurd h List.not_mem_nil⟩⟩⟩⟩⟩⟩⟩⟩
def lw_privs : List (MethodName × Nat) := lw_privs_1 ++ (lw_privs_2)
def lw_tbl : List Cond := k2_sels lw_privs ++ tables_1
theorem lw_privs_ok : ∀ q ∈ lw_privs, lw_okq q := by
  show ∀ q ∈ lw_privs_1 ++ (lw_privs_2), lw_okq q
  exact List.forall_mem_append.mpr ⟨lw_r1, lw_r2⟩
/-- the streams that the claim lets the run draw from -/
abbrev lw_cs : List Choice := [Jvm.Choice.named "NaN.bits"]
theorem lw_bits : nanBits ∈ lw_cs := by first | decide | exact List.mem_cons_self | simp [lw_cs, nanBits]
-- ===== end of PART A; then your names; then what follows =====
end
section
/-! ===== BEGIN words of one list among another's, by their places ===== -/
theorem goodIn_r {big : List Cond} (ws : List Cond) (ps : List Nat) (hp : ws = ps.filterMap (fun i => big[i]?)) (h : ws.all goodWord = true) : GoodIn big ws := by
  intro w hw
  have h1 := List.all_eq_true.mp h w hw
  rw [hp] at hw
  obtain ⟨i, -, hi⟩ := List.mem_filterMap.mp hw
  have hm : w ∈ big := by first | exact List.mem_of_getElem? hi | exact List.getElem?_mem hi
  exact ⟨hm, good_of_word h1⟩
theorem goodIn_app {big a b : List Cond} (ha : GoodIn big a) (hb : GoodIn big b) : GoodIn big (a ++ b) := fun w h => (List.mem_append.mp h).elim (ha w) (hb w)
theorem goodIn_ca {big a b : List Cond} {c : Cond} (ha : GoodIn big (c :: a)) (hb : GoodIn big b) : GoodIn big (c :: (a ++ b)) := fun w h => (List.mem_cons.mp h).elim (fun e => ha w (List.mem_cons.mpr (Or.inl e))) (fun h => (List.mem_append.mp h).elim (fun h => ha w (List.mem_cons.mpr (Or.inr h))) (hb w))
theorem goodIn_sub {big ws : List Cond} (hm : ∀ w ∈ ws, w ∈ big) (h : ws.all goodWord = true) : GoodIn big ws := fun w hw => ⟨hm w hw, good_of_word (List.all_eq_true.mp h w hw)⟩
/-! ===== END ===== -/

/-! ===== BEGIN exceptions that leave a method, and their catching by the caller (launches without stack traces) ===== -/
section VXA
/-! The laws vx_back, vx_callV, vx_callS, vx_callSW, vx_throw0, vx_throwS follow proofs of the library, with one case more: JvmDerived/Free/Laws.lean (Back.of_free), Shelf42/LK1.lean (callV, callS), Shelf/KitTraced.lean (throwNew0V, throwNewS). -/
/-- where a method has thrown q: the class by its name, the cell, what was written, the world -/
def vx_T (XC : String → State → State → Prop) (st : State) (q : Addr) (t : State) (mc ms : Nat) (free : Addr → Prop) : Prop :=
  ∃ (E : String) (ce : Cell) (L : List Loc), XC E st t ∧ t.heap[q]? = some ce ∧ ce.vm = .none ∧ st.vm.findClass E = some ce.cls ∧ st.WarmedH t.vm ∧ st.sameButNew ({ t with vm := st.vm } : State) L mc ms ∧ ∀ z ∈ L, free z.base
def vx_Q (Qc : Array Value → State → Outcome → State → Prop) (XC : String → State → State → Prop) (mc ms : Nat) (free : Addr → Prop) : Array Value → State → Outcome → State → Prop := fun a st o t =>
  (Qc a st o t ∧ ∃ L, FrameEnd st o t L mc ms ∧ ∀ q ∈ L, free q.base) ∨ ∃ q, o = .threw q ∧ vx_T XC st q t mc ms free
/-- a callee that returns or throws -/
def vx_Met (l : Launch) (y : MethodName) (ws : List Cond) (rm : Room) (Pc : Array Value → State → Prop) (Qc : Array Value → State → Outcome → State → Prop) (XC : String → State → State → Prop) (mc ms : Nat) (free : Addr → Prop) : Prop :=
  MetFree l y (headSpec ws rm) Pc (fun _ _ _ _ _ => True) (vx_Q Qc XC mc ms free)
def vx_Post (XC : String → State → State → Prop) (mc ms : Nat) (free : Addr → Prop) : Pt → Array Value → Addr → Pt → Prop := fun A a q B =>
  ∃ (g : JFrame) (mk : MethodId) (t : State) (L : List Loc) (E : String) (ce : Cell), B.U.heap = t.heap ∧ B.U.vm = t.vm ∧ XC E (A.U.calling g mk a) t ∧ t.heap[q]? = some ce ∧ ce.vm = .none ∧ A.U.vm.findClass E = some ce.cls ∧ B.locs = A.locs ++ L ∧ (∀ z ∈ L, free z.base) ∧ B.cells = A.cells + mc ∧ B.slots = A.slots + ms
def vx_Back (l : Launch) (R : Room) (p : Program) (e : Env) (below : List Frame) (s : State) (sargs : Array Value) (y : MethodName) (len W9 : Nat)
    (Pre : Pt → Array Value → Prop) (Post : Pt → Array Value → Option Value → Pt → Prop) (PostX : Pt → Array Value → Addr → Pt → Prop) : Prop :=
  ∀ (m : MethodId) (meth : Method) (c : Code) (A : Pt) (g : JFrame) (ig : Instr) (mk : MethodId) (a : Array Value),
    Stand p l e R s m sargs below meth c A.U A.locs A.cells A.slots → g.method = m → g.locals.size = c.maxLocals → decode c.code g.pc = .ok (ig, len) →
    2 * g.monitorRoom + (g.stack.map fun v => v.category).sum ≤ W9 → A.U.methodNamed? y = some mk → Pre A a →
    (∃ (v : Option Value) (B : Pt), Stand p l e R s m sargs below meth c B.U B.locs B.cells B.slots ∧ Post A a v B ∧
      Steps p.tables e below (doInvoke e (A.U.setTop g) [] mk a).1 (B.U.setTop { g with pc := g.pc + len, stack := v.toList ++ g.stack })) ∨
    (∃ (q : Addr) (B : Pt), Stand p l e R s m sargs below meth c B.U B.locs B.cells B.slots ∧ PostX A a q B ∧
      Steps p.tables e below (doInvoke e (A.U.setTop g) [] mk a).1 ((B.U.setTop g).pushFrame (.throwing q)))
section Payer
variable {l : Launch} {R : Room} {p : Program} {e : Env} {below : List Frame} {s : State} {sargs : Array Value} {y : MethodName} {len W9 : Nat}
theorem vx_back {ws : List Cond} {rm : Room} {Pc : Array Value → State → Prop} {Qc : Array Value → State → Outcome → State → Prop} {XC : String → State → State → Prop} {mc ms : Nat} {free : Addr → Prop} {bytes : ByteArray} {maxL : Nat} {ret : Option FieldType}
    (hM : vx_Met l y ws rm Pc Qc XC mc ms free) (hblind : FrameBlind Pc) (hrc : rm.cells = mc) (hrs : rm.slots = ms)
    (hframes : rm.frames + 1 ≤ R.frames) (hlocals : W9 + (maxL + 11) + rm.locals ≤ R.locals)
    (hws : ∀ w ∈ ws, ∀ a' U, s.WarmedH U.vm → w.before a' U = true) (hcode : Cond.code y bytes maxL ret ∈ ws) (hinit : ∀ a' U, s.WarmedH U.vm → (Cond.initialized y.cls).before a' U = true) :
    vx_Back l R p e below s sargs y len W9 (PreOf R mc ms Pc) (PostOf Qc mc ms free) (vx_Post XC mc ms free) := by
  intro m meth c A g ig mk a X hg hsize hdg hW hn hp
  have h1 : (headSpec ws rm).pre.before a A.U = true := atoms_intro fun w hw => hws w hw _ _ X.warmed
  have h2 : (Cond.code y bytes maxL ret).before a A.U = true := hws _ hcode _ _ X.warmed
  have h3 : (Cond.initialized y.cls).before a A.U = true := hinit _ _ X.warmed
  have h4 : A.cells + (headSpec ws rm).room.cells ≤ R.cells := by rw [show (headSpec ws rm).room.cells = mc from hrc]; exact hp.1
  have h5 : A.slots + (headSpec ws rm).room.slots ≤ R.slots := by rw [show (headSpec ws rm).room.slots = ms from hrs]; exact hp.2.1
  have hPc : Pc a (A.U.calling g mk a) := hblind _ _ _ _ hp.2.2
  obtain ⟨U, Ls, c0, s0⟩ := A
  dsimp only [Pt.U, Pt.locs, Pt.cells, Pt.slots] at h1 h2 h3 h4 h5 X hn hPc ⊢
  obtain ⟨methY, cY, hmY, hcY, -, hlY, -, -, -, -⟩ := Cond.code_spec hn h2
  obtain ⟨kY, hkY, -⟩ := className_of_methodNamed hn
  have hinitY : kY.init = .initialized := Cond.initialized_spec (findClass_of_methodNamed hn) hkY h3
  have h : At U g.method c below := by rw [hg]; exact X.here
  have hlocals9 : W9 + (maxL + 11) + (headSpec ws rm).room.locals ≤ R.locals := hlocals
  have happ : (headSpec ws rm).appliesLoose y e.platform (U.calling g mk a) = true :=
    Spec.appliesLoose_calling (g := g) h hdg hn hkY hinitY
      (X.room_calling (g := g) (R' := (headSpec ws rm).room) hsize hmY hcY hframes (by rw [hlY]; omega) h4 h5) h1
  obtain ⟨mid, hmid⟩ := h.above
  have hfr : (U.setTop g).frames = (.java g :: mid) ++ below := by rw [State.frames_setTop' g h.top, hmid]; rfl
  obtain ⟨o, s₂, hsteps, -, hend, hq⟩ := Steps.callFree hM p X.admits X.cas X.clock (acts := []) hfr happ hPc trivial
  have hq' : vx_Q Qc XC mc ms free a (U.calling g mk a) o s₂ := hq
  rw [State.frames_setTop' g h.top] at hend
  obtain ⟨g₀, hg0⟩ := Option.isSome_iff_exists.mp h.top
  obtain ⟨r, hr⟩ := State.topJava?_eq_some.mp hg0
  have hr' : (({ U with heap := s₂.heap, slotsUsed := s₂.slotsUsed } : State).setVm s₂.vm).frames = .java g₀ :: r := hr
  rcases hq' with ⟨hqc, L, hfe, hL⟩ | ⟨q, rfl, E, ce, L, hx, hce, hcv, hcl, hW₂, hsm, hL⟩
  · obtain ⟨⟨v, rfl⟩, hW₂, e2, q2, q3, q4, q5, q6⟩ := id hfe
    have e3 : s₂ = ({ (U.calling g mk a).setFrames s₂.frames with heap := s₂.heap, slotsUsed := s₂.slotsUsed } : State).setVm s₂.vm := by
      have : s₂ = ({ s₂ with vm := (U.calling g mk a).vm } : State).setVm s₂.vm := rfl
      rw [e2] at this
      exact this
    obtain ⟨c₂, i₂, len₂, hc₂, hd₂, hf₂⟩ := hend
    have hW' : U.WarmedH s₂.vm := hW₂
    have hcc : c₂ = c := by
      have h1 : s₂.code? g.method = U.code? g.method := by
        rw [State.code?_eq, State.code?_eq, hW'.alike.method?]
      exact Option.some.inj (hc₂.symm.trans (h1.trans h.code))
    subst hcc
    have hlen : len₂ = len := by rw [hdg] at hd₂; cases hd₂; rfl
    subst hlen
    have hs₂ : s₂ = (({ U with heap := s₂.heap, slotsUsed := s₂.slotsUsed } : State).setVm s₂.vm).setTop { g with pc := g.pc + len₂, stack := v.toList ++ g.stack } := by
      refine e3.trans ?_
      rw [hf₂, State.calling_eq h.top, State.setFrames_setFrames, State.setTop_of_frames _ hr', hr]
      rfl
    have hsame : U.sameButNew ({ U with heap := s₂.heap, slotsUsed := s₂.slotsUsed } : State) L mc ms := by
      refine ⟨?_, q2, q3, q4, q5, q6⟩
      obtain ⟨t, ht, -⟩ := State.frames_cons hr
      show ({ U with heap := s₂.heap, slotsUsed := s₂.slotsUsed } : State) = { U.setFrames U.frames with heap := s₂.heap, slotsUsed := s₂.slotsUsed }
      rw [State.setFrames_self ht]
    subst hg
    refine Or.inl ⟨v, ⟨(({ U with heap := s₂.heap, slotsUsed := s₂.slotsUsed } : State).setVm s₂.vm), Ls ++ L, c0 + mc, s0 + ms⟩,
      ⟨X.admits, X.cas, X.clock, X.frames, X.room, X.hears, X.method, X.code, (X.here.setHeapUsed s₂.heap s₂.slotsUsed).setVm hW'.alike, X.tail, State.WarmedH.trans X.warmed hW', X.limits, X.bytes, X.same.trans (hsame.setVm s.vm)⟩,
      ⟨g, mk, s₂, L, rfl, rfl, hqc, rfl, hL, rfl, rfl⟩, ?_⟩
    show Steps p.tables e below _ ((({ U with heap := s₂.heap, slotsUsed := s₂.slotsUsed } : State).setVm s₂.vm).setTop { g with pc := g.pc + len₂, stack := v.toList ++ g.stack })
    rw [← hs₂]
    exact hsteps
  · obtain ⟨e2, q2, q3, q4, q5, q6⟩ := id hsm
    have e3 : s₂ = ({ (U.calling g mk a).setFrames s₂.frames with heap := s₂.heap, slotsUsed := s₂.slotsUsed } : State).setVm s₂.vm := by
      have : s₂ = ({ s₂ with vm := (U.calling g mk a).vm } : State).setVm s₂.vm := rfl
      rw [e2] at this
      exact this
    have hf₂ : s₂.frames = .throwing q :: .java g :: U.frames.tail := hend
    have hW' : U.WarmedH s₂.vm := hW₂
    have hs₂ : s₂ = ((({ U with heap := s₂.heap, slotsUsed := s₂.slotsUsed } : State).setVm s₂.vm).setTop g).pushFrame (.throwing q) := by
      refine e3.trans ?_
      rw [hf₂, State.calling_eq h.top, State.setFrames_setFrames, State.pushFrame, State.frames_setTop _ hr', State.setTop_of_frames _ hr', State.setFrames_setFrames, hr]
      rfl
    have hsame : U.sameButNew ({ U with heap := s₂.heap, slotsUsed := s₂.slotsUsed } : State) L mc ms := by
      refine ⟨?_, q2, q3, q4, q5, q6⟩
      obtain ⟨t, ht, -⟩ := State.frames_cons hr
      show ({ U with heap := s₂.heap, slotsUsed := s₂.slotsUsed } : State) = { U.setFrames U.frames with heap := s₂.heap, slotsUsed := s₂.slotsUsed }
      rw [State.setFrames_self ht]
    subst hg
    refine Or.inr ⟨q, ⟨(({ U with heap := s₂.heap, slotsUsed := s₂.slotsUsed } : State).setVm s₂.vm), Ls ++ L, c0 + mc, s0 + ms⟩,
      ⟨X.admits, X.cas, X.clock, X.frames, X.room, X.hears, X.method, X.code, (X.here.setHeapUsed s₂.heap s₂.slotsUsed).setVm hW'.alike, X.tail, State.WarmedH.trans X.warmed hW', X.limits, X.bytes, X.same.trans (hsame.setVm s.vm)⟩,
      ⟨g, mk, s₂, L, E, ce, rfl, rfl, hx, hce, hcv, hcl, rfl, hL, rfl, rfl⟩, ?_⟩
    show Steps p.tables e below _ (((({ U with heap := s₂.heap, slotsUsed := s₂.slotsUsed } : State).setVm s₂.vm).setTop g).pushFrame (.throwing q))
    rw [← hs₂]
    exact hsteps
end Payer
section Calls
variable {p : Program} {l : Launch} {e : Env} {R : Room} {s : State} {m : MethodId} {args : Array Value} {below : List Frame} {meth : Method} {c : Code} {T : State} {locs : List Loc} {cells slots : Nat}
theorem vx_callV (X : Stand p l e R s m args below meth c T locs cells slots) (hexec : p.tables.exec = Jvm.exec) {own C : String} {index : Nat} {y : MethodName} {bytes : ByteArray} {maxL : Nat} {ret : Option FieldType}
    (hown : s.vm.findClass own = some m.cls) (hlink : (Cond.methodLink own index y).before args s = true) (hinst : (Cond.instanceMethod y).before args s = true) (hsel : (Cond.selects C y y).before args s = true)
    (hcode : (Cond.code y bytes maxL ret).before args s = true) (hy : y.cls ≠ "java/lang/invoke/MethodHandle" ∧ y.cls ≠ "java/lang/invoke/VarHandle")
    {W9 : Nat} {Pre : Pt → Array Value → Prop} {Post : Pt → Array Value → Option Value → Pt → Prop} {PostX : Pt → Array Value → Addr → Pt → Prop} (hK : vx_Back l R p e below s args y 3 W9 Pre Post PostX)
    {b : Addr} {cellB : Cell} (hcell : T.heap[b]? = some cellB) (hobj : cellB.vm.isStatics = false) (hcls : s.vm.findClass C = some cellB.cls)
    {g : JFrame} (hg : g.method = m) (hsize : g.locals.size = c.maxLocals) {argsL rest : List Value} (hlen : ∀ sig, parseMethodDescriptor y.desc = some sig → argsL.length = sig.parameters.length)
    (hstack : g.stack = argsL.reverse ++ .ref b :: rest) (hW : 2 * g.monitorRoom + (rest.map fun v => v.category).sum ≤ W9) (hdg : decode c.code g.pc = .ok (.invokevirtual index, 3))
    (hpre : ∀ vm₁, s.WarmedH vm₁ → Pre ⟨T.setVm vm₁, locs, cells, slots⟩ (Value.ref b :: argsL).toArray) :
    (∃ (v : Option Value) (vm₁ : Vm) (B : Pt), s.WarmedH vm₁ ∧ Stand p l e R s m args below meth c B.U B.locs B.cells B.slots ∧ Post ⟨T.setVm vm₁, locs, cells, slots⟩ (Value.ref b :: argsL).toArray v B ∧
      ∀ target, Steps p.tables e below (B.U.setTop { g with pc := g.pc + 3, stack := v.toList ++ rest }) target → Steps p.tables e below (T.setTop g) target) ∨
    (∃ (q : Addr) (vm₁ : Vm) (B : Pt), s.WarmedH vm₁ ∧ Stand p l e R s m args below meth c B.U B.locs B.cells B.slots ∧ PostX ⟨T.setVm vm₁, locs, cells, slots⟩ (Value.ref b :: argsL).toArray q B ∧
      Steps p.tables e below (T.setTop g) ((B.U.setTop { g with stack := rest }).pushFrame (.throwing q))) := by
  obtain ⟨mk, methM, hnamed, hmethM, hstM, habM⟩ := Cond.instanceMethod_spec hinst
  obtain ⟨methM', cM, hmethM', -, -, -, -, -, -, hsigM⟩ := Cond.code_spec hnamed hcode
  cases hmethM.symm.trans hmethM'
  obtain ⟨c2, r2, m2, q1, q2, q3, q4, kP, hkP, hkPi⟩ := Cond.selects_spec hsel
  cases hcls.symm.trans q1
  cases (State.methodFound?_of_named hnamed hy).symm.trans q2
  cases hnamed.symm.trans q3
  have hselP : selectMethod e.platform s.vm cellB.cls mk = .method mk := by rw [Launch.admits_selectMethod X.admits]; exact q4
  obtain ⟨vm₁, X₁, hstep₁⟩ := X.invokevirtual hexec hown hlink hnamed hmethM hstM hkP hkPi hy (a := b) (cell := cellB) hcell
    (fun z h => by rw [h] at hobj; cases hobj) hselP hmethM habM hkP hkPi (g := g) hg (argsL := argsL) (rest := rest) (hlen _ hsigM) hstack hdg
  rcases hK m meth c ⟨T.setVm vm₁, locs, cells, slots⟩ { g with stack := rest } (.invokevirtual index) mk (Value.ref b :: argsL).toArray X₁ hg hsize hdg hW (X₁.named hnamed) (hpre vm₁ X₁.warmed) with ⟨v, B, X', hpost, hsteps⟩ | ⟨q, B, X', hpost, hsteps⟩
  · exact Or.inl ⟨v, vm₁, B, X₁.warmed, X', hpost, fun target h => hstep₁ _ fun acts => by rw [doInvoke_state]; exact hsteps.trans h⟩
  · exact Or.inr ⟨q, vm₁, B, X₁.warmed, X', hpost, hstep₁ _ fun acts => by rw [doInvoke_state]; exact hsteps⟩
theorem vx_callS (X : Stand p l e R s m args below meth c T locs cells slots) (hexec : p.tables.exec = Jvm.exec) {own : String} {index : Nat} {y : MethodName} {bytes : ByteArray} {maxL : Nat} {ret : Option FieldType}
    (hown : s.vm.findClass own = some m.cls) (hlink : (Cond.methodLink own index y).before args s = true) (hstat : (Cond.static y).before args s = true) (hinit : (Cond.initialized y.cls).before args s = true)
    (hcode : (Cond.code y bytes maxL ret).before args s = true) (hy : y.cls ≠ "java/lang/invoke/MethodHandle" ∧ y.cls ≠ "java/lang/invoke/VarHandle")
    {W9 : Nat} {Pre : Pt → Array Value → Prop} {Post : Pt → Array Value → Option Value → Pt → Prop} {PostX : Pt → Array Value → Addr → Pt → Prop} (hK : vx_Back l R p e below s args y 3 W9 Pre Post PostX)
    {g : JFrame} (hg : g.method = m) (hsize : g.locals.size = c.maxLocals) {argsL rest : List Value} (hlen : ∀ sig, parseMethodDescriptor y.desc = some sig → argsL.length = sig.parameters.length)
    (hstack : g.stack = argsL.reverse ++ rest) (hW : 2 * g.monitorRoom + (rest.map fun v => v.category).sum ≤ W9) (hdg : decode c.code g.pc = .ok (.invokestatic index, 3))
    (hpre : ∀ vm₁, s.WarmedH vm₁ → Pre ⟨T.setVm vm₁, locs, cells, slots⟩ argsL.toArray) :
    (∃ (v : Option Value) (vm₁ : Vm) (B : Pt), s.WarmedH vm₁ ∧ Stand p l e R s m args below meth c B.U B.locs B.cells B.slots ∧ Post ⟨T.setVm vm₁, locs, cells, slots⟩ argsL.toArray v B ∧
      ∀ target, Steps p.tables e below (B.U.setTop { g with pc := g.pc + 3, stack := v.toList ++ rest }) target → Steps p.tables e below (T.setTop g) target) ∨
    (∃ (q : Addr) (vm₁ : Vm) (B : Pt), s.WarmedH vm₁ ∧ Stand p l e R s m args below meth c B.U B.locs B.cells B.slots ∧ PostX ⟨T.setVm vm₁, locs, cells, slots⟩ argsL.toArray q B ∧
      Steps p.tables e below (T.setTop g) ((B.U.setTop { g with stack := rest }).pushFrame (.throwing q))) := by
  obtain ⟨mk, hnamed⟩ := Cond.code_named hcode
  obtain ⟨methM, cM, hmethM, -, -, -, -, -, -, hsigM⟩ := Cond.code_spec hnamed hcode
  have hstatic : methM.isStatic = true := Cond.static_spec hnamed hmethM hstat
  obtain ⟨kP, hkP, -⟩ := className_of_methodNamed hnamed
  have hinitP : kP.init = .initialized := Cond.initialized_spec (findClass_of_methodNamed hnamed) hkP hinit
  obtain ⟨vm₁, X₁, hstep₁⟩ := X.invokestatic hexec hown hlink hnamed hmethM hstatic hkP hinitP hy (g := g) hg (argsL := argsL) (rest := rest) (hlen _ hsigM) hstack hdg
  rcases hK m meth c ⟨T.setVm vm₁, locs, cells, slots⟩ { g with stack := rest } (.invokestatic index) mk argsL.toArray X₁ hg hsize hdg hW (X₁.named hnamed) (hpre vm₁ X₁.warmed) with ⟨v, B, X', hpost, hsteps⟩ | ⟨q, B, X', hpost, hsteps⟩
  · exact Or.inl ⟨v, vm₁, B, X₁.warmed, X', hpost, fun target h => hstep₁ _ fun acts => by rw [doInvoke_state]; exact hsteps.trans h⟩
  · exact Or.inr ⟨q, vm₁, B, X₁.warmed, X', hpost, hstep₁ _ fun acts => by rw [doInvoke_state]; exact hsteps⟩
end Calls
theorem vx_cls {s : State} {T : State} {vm₁ : Vm} {E : String} {k : ClassId} (hW : s.WarmedH vm₁) (h : (T.setVm vm₁).vm.findClass E = some k) : s.vm.findClass E = some k := by
  have h1 : vm₁.findClass E = some k := h
  rw [hW.alike.findClass] at h1
  exact h1
/-- the method's frame g, with q thrown over it -/
def vx_W (p : Program) (l : Launch) (e : Env) (R : Room) (s : State) (m : MethodId) (args : Array Value) (below : List Frame) (meth : Method) (c : Code) (H : Heap) (locs : List Loc) (cells slots : Nat) (Q : State → Prop) (g : JFrame) (q : Addr) : Prop :=
  ∀ T : State, T.heap = H → Stand p l e R s m args below meth c T locs cells slots → ∃ t, Steps p.tables e below ((T.setTop g).pushFrame (.throwing q)) t ∧ Q t
def vx_Run (p : Program) (l : Launch) (e : Env) (R : Room) (s : State) (m : MethodId) (args : Array Value) (below : List Frame) (meth : Method) (c : Code) (H : Heap) (locs : List Loc) (cells slots mc ms : Nat) (g : JFrame) (rest : List Value) (Qa : State → Outcome → State → Prop) (XC : String → State → State → Prop) (free : Addr → Prop) : Prop :=
  ∀ T : State, T.heap = H → Stand p l e R s m args below meth c T locs cells slots →
    (∃ (v : Option Value) (st₀ t T' : State) (L : List Loc), st₀.heap = H ∧ Stand p l e R s m args below meth c T' (locs ++ L) (cells + mc) (slots + ms) ∧ (∀ q ∈ L, free q.base) ∧ T'.heap = t.heap ∧ T'.vm = t.vm ∧ Qa st₀ (.returned v) t ∧
      Goes p e below T g T' { g with pc := g.pc + 3, stack := v.toList ++ rest }) ∨
    (∃ (q : Addr) (st₀ t T' : State) (L : List Loc) (E : String) (ce : Cell), st₀.heap = H ∧ Stand p l e R s m args below meth c T' (locs ++ L) (cells + mc) (slots + ms) ∧ (∀ z ∈ L, free z.base) ∧ T'.heap = t.heap ∧ T'.vm = t.vm ∧ XC E st₀ t ∧ t.heap[q]? = some ce ∧ ce.vm = .none ∧ s.vm.findClass E = some ce.cls ∧
      Steps p.tables e below (T.setTop g) ((T'.setTop { g with stack := rest }).pushFrame (.throwing q)))
def vx_X {S : Type} (px : S → Prop) (B : String → S → State → Prop) (A : Nat → Prop) : String → State → State → Prop := fun E st t => ∃ u : S, px u ∧ B E u t ∧ va_F A st t
section Runs
variable {p : Program} {l : Launch} {e : Env} {R : Room} {s : State} {m : MethodId} {args : Array Value} {below : List Frame} {meth : Method} {c : Code} {H : Heap} {locs : List Loc} {cells slots : Nat}
variable {y : MethodName} {bytes cc : ByteArray} {maxL nL mc ms n index : Nat} {ret : Option FieldType} {ws : List Cond} {rm : Room} {Pc : Array Value → State → Prop} {Qc : Array Value → State → Outcome → State → Prop} {XC : String → State → State → Prop} {free : Addr → Prop} {Ts : List Cond} {own C : String} {b : Addr} {As rest : List Value} {g : JFrame}
theorem vx_callBack (cb : CallB R s args own index y bytes maxL ret ws rm mc ms n) (hM : vx_Met l y ws rm Pc Qc XC mc ms free) (hbl : FrameBlind Pc) : vx_Back l R p e below s args y 3 8 (PreOf R mc ms Pc) (PostOf Qc mc ms free) (vx_Post XC mc ms free) := by
  obtain ⟨hrc, hrs, hfr, hlo, hws, hcw, -, hini, -⟩ := cb
  exact vx_back (bytes := bytes) (maxL := maxL) (ret := ret) hM hbl hrc hrs hfr hlo hws hcw (fun a' U hW => word_at hW (Or.inl (by first | rfl | simp [Cond.onTables, Cond.keeps, Cond.steady])) hini)
theorem vx_runV (S : CallFix p m c cc nL s args Ts own) (hM : vx_Met l y ws rm Pc Qc XC mc ms free) (cw : CallW R s args own C index y bytes maxL ret ws rm mc ms n) (hp : PreV s H C b Pc As)
    (hg : g.method = m) (hn : As.length = n) (hsize : g.locals.size = nL) (hstack : g.stack = As.reverse ++ .ref b :: rest) (hW : 2 * g.monitorRoom + (rest.map fun v => v.category).sum ≤ 8) (hdg : decode cc g.pc = .ok (.invokevirtual index, 3)) (hf : cells + mc ≤ R.cells ∧ slots + ms ≤ R.slots) :
    vx_Run p l e R s m args below meth c H locs cells slots mc ms g rest (Qc (Value.ref b :: As).toArray) XC free := by
  have hK : vx_Back l R p e below s args y 3 8 (PreOf R mc ms Pc) (PostOf Qc mc ms free) (vx_Post XC mc ms free) := vx_callBack cw.1 hM hp.1
  obtain ⟨⟨-, -, -, -, -, -, hcode, -, hy, hlen, hl⟩, hin, hse⟩ := cw
  obtain ⟨hx, hb, hml, ho, -⟩ := S
  obtain ⟨-, ⟨cellB, hcB, hoB, hclB⟩, hPc⟩ := hp
  intro T hT X
  rcases vx_callV X hx (C := C) (bytes := bytes) (maxL := maxL) (ret := ret) ho hl hin hse hcode hy hK (by rw [hT]; exact hcB) hoB hclB hg (hsize.trans hml.symm) (argsL := As) (rest := rest) (fun sig h => hn.trans (hlen sig h)) hstack hW (by rw [hb]; exact hdg)
    (fun vm₁ hW₁ => ⟨hf.1, hf.2, hPc (T.setVm vm₁) hT hW₁⟩) with ⟨v, vm₁, ⟨U', l2, c2, s2⟩, hW₁, X', ⟨g', mk, t, L, e1, e2, hq, h1, hL, h2, h3⟩, st⟩ | ⟨q, vm₁, ⟨U', l2, c2, s2⟩, hW₁, X', ⟨g', mk, t, L, E, ce, e1, e2, hq, hce, hcv, hcl, h1, hL, h2, h3⟩, st⟩
  · dsimp only [Pt.U, Pt.locs, Pt.cells, Pt.slots] at X' e1 e2 h1 h2 h3 st
    subst h1; subst h2; subst h3
    exact Or.inl ⟨v, (T.setVm vm₁).calling g' mk (Value.ref b :: As).toArray, t, U', L, hT, X', hL, e1, e2, hq, st⟩
  · dsimp only [Pt.U, Pt.locs, Pt.cells, Pt.slots] at X' e1 e2 h1 h2 h3 st hcl
    subst h1; subst h2; subst h3
    exact Or.inr ⟨q, (T.setVm vm₁).calling g' mk (Value.ref b :: As).toArray, t, U', L, E, ce, hT, X', hL, e1, e2, hq, hce, hcv, vx_cls hW₁ hcl, st⟩
theorem vx_runS (S : CallFix p m c cc nL s args Ts own) (hM : vx_Met l y ws rm Pc Qc XC mc ms free) (cw : CallB R s args own index y bytes maxL ret ws rm mc ms n ∧ (Cond.static y).before args s = true) (hp : PreS s H Pc As)
    (hg : g.method = m) (hn : As.length = n) (hsize : g.locals.size = nL) (hstack : g.stack = As.reverse ++ rest) (hW : 2 * g.monitorRoom + (rest.map fun v => v.category).sum ≤ 8) (hdg : decode cc g.pc = .ok (.invokestatic index, 3)) (hf : cells + mc ≤ R.cells ∧ slots + ms ≤ R.slots) :
    vx_Run p l e R s m args below meth c H locs cells slots mc ms g rest (Qc As.toArray) XC free := by
  have hK : vx_Back l R p e below s args y 3 8 (PreOf R mc ms Pc) (PostOf Qc mc ms free) (vx_Post XC mc ms free) := vx_callBack cw.1 hM hp.1
  obtain ⟨⟨-, -, -, -, -, -, hcode, hini, hy, hlen, hl⟩, hstt⟩ := cw
  obtain ⟨hx, hb, hml, ho, -⟩ := S
  intro T hT X
  rcases vx_callS X hx (bytes := bytes) (maxL := maxL) (ret := ret) ho hl hstt hini hcode hy hK hg (hsize.trans hml.symm) (argsL := As) (rest := rest) (fun sig h => hn.trans (hlen sig h)) hstack hW (by rw [hb]; exact hdg)
    (fun vm₁ hW₁ => ⟨hf.1, hf.2, hp.2 (T.setVm vm₁) hT hW₁⟩) with ⟨v, vm₁, ⟨U', l2, c2, s2⟩, hW₁, X', ⟨g', mk, t, L, e1, e2, hq, h1, hL, h2, h3⟩, st⟩ | ⟨q, vm₁, ⟨U', l2, c2, s2⟩, hW₁, X', ⟨g', mk, t, L, E, ce, e1, e2, hq, hce, hcv, hcl, h1, hL, h2, h3⟩, st⟩
  · dsimp only [Pt.U, Pt.locs, Pt.cells, Pt.slots] at X' e1 e2 h1 h2 h3 st
    subst h1; subst h2; subst h3
    exact Or.inl ⟨v, (T.setVm vm₁).calling g' mk As.toArray, t, U', L, hT, X', hL, e1, e2, hq, st⟩
  · dsimp only [Pt.U, Pt.locs, Pt.cells, Pt.slots] at X' e1 e2 h1 h2 h3 st hcl
    subst h1; subst h2; subst h3
    exact Or.inr ⟨q, (T.setVm vm₁).calling g' mk As.toArray, t, U', L, E, ce, hT, X', hL, e1, e2, hq, hce, hcv, vx_cls hW₁ hcl, st⟩
end Runs
section Rows
variable {p : Program} {l : Launch} {e : Env} {R : Room} {s : State} {m : MethodId} {args : Array Value} {below : List Frame} {meth : Method} {c : Code} {H : Heap} {locs : List Loc} {cells slots : Nat} {Q : State → Prop}
variable {mc ms : Nat} {free : Addr → Prop} {A0 A1 : Nat → Prop} {H0 : Heap} {a : Array Value} {pc : Nat} {ls : Array Slot} {st0 rest : List Value}
theorem vx_keep {st₀ t T' : State} {L : List Loc} (h0 : st₀.heap = H) (e1 : T'.heap = t.heap) (hS : va_S A0 H0 H locs) (hA : ∀ q, q < H.size → A1 q → A0 q) (hf : ∀ q, free q → A0 q) (hL : ∀ q ∈ L, free q.base) (hF : va_F A1 st₀ t) :
    H.size ≤ T'.heap.size ∧ (∀ q : Nat, q < H.size → ¬ A1 q → T'.heap[q]? = H[q]?) ∧ va_S A0 H0 T'.heap (locs ++ L) := by
  obtain ⟨hz, hk⟩ := hF
  rw [h0] at hz hk
  exact ⟨by rw [e1]; exact hz, fun q h1 h2 => by rw [e1]; exact hk q h1 h2,
    ⟨Nat.le_trans hS.1 (by rw [e1]; exact hz), fun q h1 h2 => by rw [e1, hk q (Nat.lt_of_lt_of_le h1 hS.1) (fun z => h2 (hA q (Nat.lt_of_lt_of_le h1 hS.1) z))]; exact hS.2.1 q h1 h2, fun q hq => by
      rcases List.mem_append.mp hq with h | h
      · exact hS.2.2 q h
      · exact hf _ (hL q h)⟩⟩
theorem vx_calli {S SX : Type} {post : Int32 → S → Prop} {px : SX → Prop} {B : S → State → Prop} {BX : String → SX → State → Prop} {AX : Nat → Prop} (hr : vx_Run p l e R s m args below meth c H locs cells slots mc ms (F0 m pc ls st0) rest (va_Qi post B A1 a) (vx_X px BX AX) free) (hS : va_S A0 H0 H locs) (hA : ∀ q, q < H.size → A1 q → A0 q) (hf : ∀ q, free q → A0 q) (hAX : ∀ q, q < H.size → AX q → A0 q)
    (kx : ∀ (E : String) (ce : Cell) (q9 : Addr) (u : SX) (t : State) (H1 : Heap) (locs1 : List Loc), t.heap = H1 → s.vm.Alike t.vm → px u → BX E u t → H.size ≤ H1.size → (∀ q : Nat, q < H.size → ¬ AX q → H1[q]? = H[q]?) → va_S A0 H0 H1 locs1 → H1[q9]? = some ce → ce.vm = .none → s.vm.findClass E = some ce.cls → vx_W p l e R s m args below meth c H1 locs1 (cells + mc) (slots + ms) Q (F0 m pc ls rest) q9)
    (kk : ∀ (r : Int32) (u : S) (t : State) (H1 : Heap) (locs1 : List Loc), t.heap = H1 → s.vm.Alike t.vm → post r u → B u t → H.size ≤ H1.size → (∀ q : Nat, q < H.size → ¬ A1 q → H1[q]? = H[q]?) → va_S A0 H0 H1 locs1 → W p l e R s m args below meth c H1 locs1 (cells + mc) (slots + ms) Q (F0 m (pc + 3) ls (.int r :: rest))) : W p l e R s m args below meth c H locs cells slots Q (F0 m pc ls st0) := by
  intro T hT X
  rcases hr T hT X with ⟨v, st₀, t, T', L, h0, X', hL, e1, e2, ⟨⟨r, u, hv, hp, hb⟩, hF⟩, st⟩ | ⟨q, st₀, t, T', L, E, ce, h0, X', hL, e1, e2, ⟨u, hp, hb, hF⟩, hce, hcv, hcl, st⟩
  · cases hv
    obtain ⟨k1, k2, k3⟩ := vx_keep h0 e1 hS hA hf hL hF
    obtain ⟨t2, a1, b1⟩ := kk r u t T'.heap (locs ++ L) e1.symm (by rw [← e2]; exact X'.warmed.alike) hp hb k1 k2 k3 T' rfl X'
    exact ⟨t2, st t2 a1, b1⟩
  · obtain ⟨k1, k2, k3⟩ := vx_keep h0 e1 hS hAX hf hL hF
    obtain ⟨t2, a1, b1⟩ := kx E ce q u t T'.heap (locs ++ L) e1.symm (by rw [← e2]; exact X'.warmed.alike) hp hb k1 k2 k3 (by rw [e1]; exact hce) hcv hcl T' rfl X'
    exact ⟨t2, st.trans a1, b1⟩
theorem vx_calll {S SX : Type} {post : Int64 → S → Prop} {px : SX → Prop} {B : S → State → Prop} {BX : String → SX → State → Prop} {AX : Nat → Prop} (hr : vx_Run p l e R s m args below meth c H locs cells slots mc ms (F0 m pc ls st0) rest (va_Ql post B A1 a) (vx_X px BX AX) free) (hS : va_S A0 H0 H locs) (hA : ∀ q, q < H.size → A1 q → A0 q) (hf : ∀ q, free q → A0 q) (hAX : ∀ q, q < H.size → AX q → A0 q)
    (kx : ∀ (E : String) (ce : Cell) (q9 : Addr) (u : SX) (t : State) (H1 : Heap) (locs1 : List Loc), t.heap = H1 → s.vm.Alike t.vm → px u → BX E u t → H.size ≤ H1.size → (∀ q : Nat, q < H.size → ¬ AX q → H1[q]? = H[q]?) → va_S A0 H0 H1 locs1 → H1[q9]? = some ce → ce.vm = .none → s.vm.findClass E = some ce.cls → vx_W p l e R s m args below meth c H1 locs1 (cells + mc) (slots + ms) Q (F0 m pc ls rest) q9)
    (kk : ∀ (r : Int64) (u : S) (t : State) (H1 : Heap) (locs1 : List Loc), t.heap = H1 → s.vm.Alike t.vm → post r u → B u t → H.size ≤ H1.size → (∀ q : Nat, q < H.size → ¬ A1 q → H1[q]? = H[q]?) → va_S A0 H0 H1 locs1 → W p l e R s m args below meth c H1 locs1 (cells + mc) (slots + ms) Q (F0 m (pc + 3) ls (.long r :: rest))) : W p l e R s m args below meth c H locs cells slots Q (F0 m pc ls st0) := by
  intro T hT X
  rcases hr T hT X with ⟨v, st₀, t, T', L, h0, X', hL, e1, e2, ⟨⟨r, u, hv, hp, hb⟩, hF⟩, st⟩ | ⟨q, st₀, t, T', L, E, ce, h0, X', hL, e1, e2, ⟨u, hp, hb, hF⟩, hce, hcv, hcl, st⟩
  · cases hv
    obtain ⟨k1, k2, k3⟩ := vx_keep h0 e1 hS hA hf hL hF
    obtain ⟨t2, a1, b1⟩ := kk r u t T'.heap (locs ++ L) e1.symm (by rw [← e2]; exact X'.warmed.alike) hp hb k1 k2 k3 T' rfl X'
    exact ⟨t2, st t2 a1, b1⟩
  · obtain ⟨k1, k2, k3⟩ := vx_keep h0 e1 hS hAX hf hL hF
    obtain ⟨t2, a1, b1⟩ := kx E ce q u t T'.heap (locs ++ L) e1.symm (by rw [← e2]; exact X'.warmed.alike) hp hb k1 k2 k3 (by rw [e1]; exact hce) hcv hcl T' rfl X'
    exact ⟨t2, st.trans a1, b1⟩
theorem vx_callf {S SX : Type} {post : UInt32 → S → Prop} {px : SX → Prop} {B : S → State → Prop} {BX : String → SX → State → Prop} {AX : Nat → Prop} (hr : vx_Run p l e R s m args below meth c H locs cells slots mc ms (F0 m pc ls st0) rest (va_Qf post B A1 a) (vx_X px BX AX) free) (hS : va_S A0 H0 H locs) (hA : ∀ q, q < H.size → A1 q → A0 q) (hf : ∀ q, free q → A0 q) (hAX : ∀ q, q < H.size → AX q → A0 q)
    (kx : ∀ (E : String) (ce : Cell) (q9 : Addr) (u : SX) (t : State) (H1 : Heap) (locs1 : List Loc), t.heap = H1 → s.vm.Alike t.vm → px u → BX E u t → H.size ≤ H1.size → (∀ q : Nat, q < H.size → ¬ AX q → H1[q]? = H[q]?) → va_S A0 H0 H1 locs1 → H1[q9]? = some ce → ce.vm = .none → s.vm.findClass E = some ce.cls → vx_W p l e R s m args below meth c H1 locs1 (cells + mc) (slots + ms) Q (F0 m pc ls rest) q9)
    (kk : ∀ (r : UInt32) (u : S) (t : State) (H1 : Heap) (locs1 : List Loc), t.heap = H1 → s.vm.Alike t.vm → post r u → B u t → H.size ≤ H1.size → (∀ q : Nat, q < H.size → ¬ A1 q → H1[q]? = H[q]?) → va_S A0 H0 H1 locs1 → W p l e R s m args below meth c H1 locs1 (cells + mc) (slots + ms) Q (F0 m (pc + 3) ls (.float r :: rest))) : W p l e R s m args below meth c H locs cells slots Q (F0 m pc ls st0) := by
  intro T hT X
  rcases hr T hT X with ⟨v, st₀, t, T', L, h0, X', hL, e1, e2, ⟨⟨r, u, hv, hp, hb⟩, hF⟩, st⟩ | ⟨q, st₀, t, T', L, E, ce, h0, X', hL, e1, e2, ⟨u, hp, hb, hF⟩, hce, hcv, hcl, st⟩
  · cases hv
    obtain ⟨k1, k2, k3⟩ := vx_keep h0 e1 hS hA hf hL hF
    obtain ⟨t2, a1, b1⟩ := kk r u t T'.heap (locs ++ L) e1.symm (by rw [← e2]; exact X'.warmed.alike) hp hb k1 k2 k3 T' rfl X'
    exact ⟨t2, st t2 a1, b1⟩
  · obtain ⟨k1, k2, k3⟩ := vx_keep h0 e1 hS hAX hf hL hF
    obtain ⟨t2, a1, b1⟩ := kx E ce q u t T'.heap (locs ++ L) e1.symm (by rw [← e2]; exact X'.warmed.alike) hp hb k1 k2 k3 (by rw [e1]; exact hce) hcv hcl T' rfl X'
    exact ⟨t2, st.trans a1, b1⟩
theorem vx_calld {S SX : Type} {post : UInt64 → S → Prop} {px : SX → Prop} {B : S → State → Prop} {BX : String → SX → State → Prop} {AX : Nat → Prop} (hr : vx_Run p l e R s m args below meth c H locs cells slots mc ms (F0 m pc ls st0) rest (va_Qd post B A1 a) (vx_X px BX AX) free) (hS : va_S A0 H0 H locs) (hA : ∀ q, q < H.size → A1 q → A0 q) (hf : ∀ q, free q → A0 q) (hAX : ∀ q, q < H.size → AX q → A0 q)
    (kx : ∀ (E : String) (ce : Cell) (q9 : Addr) (u : SX) (t : State) (H1 : Heap) (locs1 : List Loc), t.heap = H1 → s.vm.Alike t.vm → px u → BX E u t → H.size ≤ H1.size → (∀ q : Nat, q < H.size → ¬ AX q → H1[q]? = H[q]?) → va_S A0 H0 H1 locs1 → H1[q9]? = some ce → ce.vm = .none → s.vm.findClass E = some ce.cls → vx_W p l e R s m args below meth c H1 locs1 (cells + mc) (slots + ms) Q (F0 m pc ls rest) q9)
    (kk : ∀ (r : UInt64) (u : S) (t : State) (H1 : Heap) (locs1 : List Loc), t.heap = H1 → s.vm.Alike t.vm → post r u → B u t → H.size ≤ H1.size → (∀ q : Nat, q < H.size → ¬ A1 q → H1[q]? = H[q]?) → va_S A0 H0 H1 locs1 → W p l e R s m args below meth c H1 locs1 (cells + mc) (slots + ms) Q (F0 m (pc + 3) ls (.double r :: rest))) : W p l e R s m args below meth c H locs cells slots Q (F0 m pc ls st0) := by
  intro T hT X
  rcases hr T hT X with ⟨v, st₀, t, T', L, h0, X', hL, e1, e2, ⟨⟨r, u, hv, hp, hb⟩, hF⟩, st⟩ | ⟨q, st₀, t, T', L, E, ce, h0, X', hL, e1, e2, ⟨u, hp, hb, hF⟩, hce, hcv, hcl, st⟩
  · cases hv
    obtain ⟨k1, k2, k3⟩ := vx_keep h0 e1 hS hA hf hL hF
    obtain ⟨t2, a1, b1⟩ := kk r u t T'.heap (locs ++ L) e1.symm (by rw [← e2]; exact X'.warmed.alike) hp hb k1 k2 k3 T' rfl X'
    exact ⟨t2, st t2 a1, b1⟩
  · obtain ⟨k1, k2, k3⟩ := vx_keep h0 e1 hS hAX hf hL hF
    obtain ⟨t2, a1, b1⟩ := kx E ce q u t T'.heap (locs ++ L) e1.symm (by rw [← e2]; exact X'.warmed.alike) hp hb k1 k2 k3 (by rw [e1]; exact hce) hcv hcl T' rfl X'
    exact ⟨t2, st.trans a1, b1⟩
theorem vx_callv {S SX : Type} {post : S → Prop} {px : SX → Prop} {B : S → State → Prop} {BX : String → SX → State → Prop} {AX : Nat → Prop} (hr : vx_Run p l e R s m args below meth c H locs cells slots mc ms (F0 m pc ls st0) rest (va_Qv post B A1 a) (vx_X px BX AX) free) (hS : va_S A0 H0 H locs) (hA : ∀ q, q < H.size → A1 q → A0 q) (hf : ∀ q, free q → A0 q) (hAX : ∀ q, q < H.size → AX q → A0 q)
    (kx : ∀ (E : String) (ce : Cell) (q9 : Addr) (u : SX) (t : State) (H1 : Heap) (locs1 : List Loc), t.heap = H1 → s.vm.Alike t.vm → px u → BX E u t → H.size ≤ H1.size → (∀ q : Nat, q < H.size → ¬ AX q → H1[q]? = H[q]?) → va_S A0 H0 H1 locs1 → H1[q9]? = some ce → ce.vm = .none → s.vm.findClass E = some ce.cls → vx_W p l e R s m args below meth c H1 locs1 (cells + mc) (slots + ms) Q (F0 m pc ls rest) q9)
    (kk : ∀ (u : S) (t : State) (H1 : Heap) (locs1 : List Loc), t.heap = H1 → s.vm.Alike t.vm → post u → B u t → H.size ≤ H1.size → (∀ q : Nat, q < H.size → ¬ A1 q → H1[q]? = H[q]?) → va_S A0 H0 H1 locs1 → W p l e R s m args below meth c H1 locs1 (cells + mc) (slots + ms) Q (F0 m (pc + 3) ls (rest))) : W p l e R s m args below meth c H locs cells slots Q (F0 m pc ls st0) := by
  intro T hT X
  rcases hr T hT X with ⟨v, st₀, t, T', L, h0, X', hL, e1, e2, ⟨⟨u, hv, hp, hb⟩, hF⟩, st⟩ | ⟨q, st₀, t, T', L, E, ce, h0, X', hL, e1, e2, ⟨u, hp, hb, hF⟩, hce, hcv, hcl, st⟩
  · cases hv
    obtain ⟨k1, k2, k3⟩ := vx_keep h0 e1 hS hA hf hL hF
    obtain ⟨t2, a1, b1⟩ := kk u t T'.heap (locs ++ L) e1.symm (by rw [← e2]; exact X'.warmed.alike) hp hb k1 k2 k3 T' rfl X'
    exact ⟨t2, st t2 a1, b1⟩
  · obtain ⟨k1, k2, k3⟩ := vx_keep h0 e1 hS hAX hf hL hF
    obtain ⟨t2, a1, b1⟩ := kx E ce q u t T'.heap (locs ++ L) e1.symm (by rw [← e2]; exact X'.warmed.alike) hp hb k1 k2 k3 (by rw [e1]; exact hce) hcv hcl T' rfl X'
    exact ⟨t2, st.trans a1, b1⟩
/-- caught by the row x of this method's table; the rows ahead don't take it -/
theorem vx_catch {own name : String} {E : String} {ce : Cell} {q : Addr} (hown : s.vm.findClass own = some m.cls) (pre : List ExceptionTableEntry) (x : ExceptionTableEntry) (suf : List ExceptionTableEntry) (hsplit : c.exceptionTable.toList = pre ++ x :: suf)
    (hpass : ∀ z ∈ pre, covers z pc = false ∨ (z.catchType ≠ 0 ∧ ∃ nm : String, (Cond.classLink own z.catchType nm).before args s = true ∧ va_Nc E nm s)) (hx : covers x pc = true) (h0 : x.catchType ≠ 0)
    (hlink : (Cond.classLink own x.catchType name).before args s = true) (hcast : (Cond.castable E name).before args s = true) (hcell : H[q]? = some ce) (hv : ce.vm = .none) (hcl : s.vm.findClass E = some ce.cls)
    (kk : W p l e R s m args below meth c H locs cells slots Q (F0 m x.handlerPc ls [.ref q])) : vx_W p l e R s m args below meth c H locs cells slots Q (F0 m pc ls rest) q := by
  intro T hT X
  have hpl : e.platform.magicAccessors = ({} : Platform).magicAccessors := by rw [X.admits.platform]
  obtain ⟨c3, c4, hc3, hc4, hasg⟩ := Cond.castable_spec hcast
  cases Option.some.inj (hc3.symm.trans hcl)
  obtain ⟨c5, hc5, hcl5⟩ := Cond.classLink_spec hown hlink e.platform hpl
  cases Option.some.inj (hc4.symm.trans hc5)
  obtain ⟨vm', X', st⟩ := X.thenCaughtThrough q (g := F0 m pc ls rest) rfl (Steps.refl _) (by rw [hT]; exact hcell) (by rw [hv]; rfl) (by obtain ⟨k9, h9, -⟩ := Vm.findClass_spec hcl; exact ⟨k9, h9⟩) pre x suf hsplit
    (fun z hz => by
      rcases hpass z hz with h | ⟨hz0, nm, hl1, hn1⟩
      · exact Or.inl h
      · obtain ⟨c6, hc6, hcl6⟩ := Cond.classLink_spec hown hl1 e.platform hpl
        obtain ⟨a8, b8, h1, h2, h3⟩ := hn1
        cases Option.some.inj (h1.symm.trans hcl)
        cases Option.some.inj (h2.symm.trans hc6)
        exact Or.inr ⟨hz0, _, hcl6, h3⟩) hx (Or.inr ⟨h0, c4, hcl5, hasg⟩)
  obtain ⟨t, a1, b1⟩ := kk (T.setVm vm') hT X'
  exact ⟨t, st.trans a1, b1⟩
end Rows
section Ends
variable {p : Program} {l : Launch} {e : Env} {R : Room} {s : State} {m : MethodId} {args : Array Value} {below : List Frame} {meth : Method} {c : Code} {H : Heap} {locs : List Loc} {cells slots : Nat} {Q : State → Prop}
variable {mc ms : Nat} {free : Addr → Prop} {A0 A1 : Nat → Prop} {H0 : Heap} {a : Array Value} {ls : Array Slot} {st0 rest : List Value}
variable {Qc : Array Value → State → Outcome → State → Prop} {XC : String → State → State → Prop}
/-- what a body that may throw owes at its end -/
def vx_MQ (below : List Frame) (Qc : Array Value → State → Outcome → State → Prop) (XC : String → State → State → Prop) (a : Array Value) (s : State) (mc ms : Nat) (free : Addr → Prop) : State → Prop := fun t =>
  ∃ o, t.status = .running ∧ Ended t below o ∧ vx_Q Qc XC mc ms free a s o t
theorem vx_ret {g : JFrame} {mc ms : Nat} (k : W p l e R s m args below meth c H locs cells slots (MQ below Qc args s mc ms free) g) : W p l e R s m args below meth c H locs cells slots (vx_MQ below Qc XC args s mc ms free) g := by
  intro T hT X
  obtain ⟨t, a1, o, b1, b2, b3, b4⟩ := k T hT X
  exact ⟨t, a1, o, b1, b2, Or.inl ⟨b3, b4⟩⟩
/-- not caught here: it goes on to the caller -/
theorem vx_widen {g : JFrame} {q : Addr} {k n : Nat} (h1 : cells ≤ k) (h2 : slots ≤ n) (kk : vx_W p l e R s m args below meth c H locs k n Q g q) : vx_W p l e R s m args below meth c H locs cells slots Q g q := fun T hT X => kk T hT (stand_widen X h1 h2)
theorem vx_out {pc : Nat} {E : String} {ce : Cell} {q : Addr} {mc ms : Nat} (hout : ∀ x ∈ c.exceptionTable.toList, covers x pc = false) (hlocks : meth.locks = false) (hcell : H[q]? = some ce) (hv : ce.vm = .none) (hcl : s.vm.findClass E = some ce.cls)
    (hx : ∀ t : State, t.heap = H → s.vm.Alike t.vm → XC E s t) (hf : ∀ z ∈ locs, free z.base) (hc : cells ≤ mc) (hs : slots ≤ ms) :
    vx_W p l e R s m args below meth c H locs cells slots (vx_MQ below Qc XC args s mc ms free) (F0 m pc ls rest) q := by
  intro T hT X
  obtain ⟨st1, hrun, hend, hW, hsm⟩ := X.leaveThrown q (g := F0 m pc ls rest) rfl rfl rfl hout hlocks
  have hcell9 : (T.setFrames (.throwing q :: below)).heap[q]? = some ce := by
    show T.heap[q]? = some ce
    rw [hT]; exact hcell
  exact ⟨_, st1, .threw q, hrun, hend, Or.inr ⟨q, rfl, E, ce, locs, hx _ hT hW.alike, hcell9, hv, hcl, hW, hsm.mono hc hs, hf⟩⟩
theorem vx_frame {U : State} {k n : Nat} (h : s.sameButNew ({ U with vm := s.vm } : State) locs k n) : s.heap.size ≤ U.heap.size ∧ ∀ q : Nat, q < s.heap.size → (∀ z ∈ locs, z.base ≠ q) → U.heap[q]? = s.heap[q]? := by
  obtain ⟨-, h2, -, -, -, h6⟩ := h
  refine ⟨h2, fun q hq hz => ?_⟩
  obtain ⟨c9, e1, e2, e3, e4⟩ := h6 q _ (Array.getElem?_eq_getElem hq)
  have hs : c9.slots = (s.heap[q]).slots := Array.ext_getElem? fun i => e4 i fun hm => hz _ hm rfl
  have h9 : c9 = s.heap[q] := by
    rw [hs] at e2
    exact e2
  have e5 : U.heap[q]? = some c9 := e1
  rw [e5, h9, Array.getElem?_eq_getElem hq]
/-- the words of a throw but the four that speak of the heap -/
def vx_no (w : Cond) : Bool := decide (w ≠ .isRef (.static Bundle.tN "UNASSIGNED_STACK" Bundle.steD)) && decide (w ≠ .isRef (.static Bundle.tN "SUPPRESSED_SENTINEL" Bundle.listD)) && decide (w ≠ .laysStatic Bundle.tN "UNASSIGNED_STACK" Bundle.steD) && decide (w ≠ .laysStatic Bundle.tN "SUPPRESSED_SENTINEL" Bundle.listD)
def vx_at0 (own : String) (ic : Nat) (X : String) (names : List String) : List Cond := (Bundle.ownAtoms0 own ic X names).filter vx_no
def vx_atS (own : String) (ic : Nat) (X : String) (names : List String) : List Cond := (Bundle.ownAtoms own ic X names).filter vx_no
/-- a word that the tables alone decide, or a good one -/
def vx_ot (w : Cond) : Bool := w.onTables || goodWord w
theorem vx_ot_at {args a' : Array Value} {s U : State} {w : Cond} (hW : s.WarmedH U.vm) (hvm : s.vm = U.vm) (hg : vx_ot w = true) (h : w.before args s = true) : w.before a' U = true := by
  simp only [vx_ot, Bool.or_eq_true] at hg
  rcases hg with hg | hg
  · exact va_tabs hg hvm h
  · exact word_at hW (good_of_word hg) h
/-- a list's words: the good ones out of the method's own list, the others by premises of their own -/
theorem vx_hat {args : Array Value} {s : State} {L B : List Cond} (h1 : ∀ w ∈ L.filter goodWord, w.before args s = true) (h2 : ∀ w ∈ L.filter (fun w => !goodWord w), w ∈ B) (h3 : ∀ w ∈ B, w.before args s = true) : ∀ w ∈ L, w.before args s = true := by
  intro w hw
  by_cases g : goodWord w = true
  · exact h1 w (List.mem_filter.mpr ⟨hw, g⟩)
  · refine h3 w (h2 w (List.mem_filter.mpr ⟨hw, ?_⟩))
    show (!goodWord w) = true
    cases hgw : goodWord w
    · rfl
    · exact absurd hgw g
theorem vx_c {args : Array Value} {s : State} {w : Cond} {B : List Cond} (h : w.before args s = true) (t : ∀ w ∈ B, w.before args s = true) : ∀ w' ∈ w :: B, w'.before args s = true := fun w' h' => (List.mem_cons.mp h').elim (fun e => by rw [e]; exact h) (t w')
theorem vx_n {args : Array Value} {s : State} : ∀ w ∈ ([] : List Cond), w.before args s = true := fun _ h => nomatch h
theorem vx_own {args : Array Value} {s : State} {L : List Cond} (h1 : ∀ w ∈ L.filter vx_no, w.before args s = true)
    (hU : (Cond.isRef (.static Bundle.tN "UNASSIGNED_STACK" Bundle.steD)).before args s = true) (hN : (Cond.isRef (.static Bundle.tN "SUPPRESSED_SENTINEL" Bundle.listD)).before args s = true)
    (lU : (Cond.laysStatic Bundle.tN "UNASSIGNED_STACK" Bundle.steD).before args s = true) (lN : (Cond.laysStatic Bundle.tN "SUPPRESSED_SENTINEL" Bundle.listD).before args s = true) : ∀ w ∈ L, w.before args s = true := by
  intro w hw
  by_cases e1 : w = .isRef (.static Bundle.tN "UNASSIGNED_STACK" Bundle.steD)
  · rw [e1]; exact hU
  · by_cases e2 : w = .isRef (.static Bundle.tN "SUPPRESSED_SENTINEL" Bundle.listD)
    · rw [e2]; exact hN
    · by_cases e3 : w = .laysStatic Bundle.tN "UNASSIGNED_STACK" Bundle.steD
      · rw [e3]; exact lU
      · by_cases e4 : w = .laysStatic Bundle.tN "SUPPRESSED_SENTINEL" Bundle.listD
        · rw [e4]; exact lN
        · exact h1 w (List.mem_filter.mpr ⟨hw, by unfold vx_no; rw [decide_eq_true e1, decide_eq_true e2, decide_eq_true e3, decide_eq_true e4]; rfl⟩)
/-- where a static field lies, its class's statics cell in H -/
def vx_L (C n d : String) (A : Nat → Prop) (U : State) (H : Heap) : Prop := ∃ (c : ClassId) (k : Class) (i : Nat) (f : Field) (a : Nat) (cell : Cell), U.vm.findClass C = some c ∧ U.fieldFound? C n d = some (c, k, i, f) ∧ f.isStatic = true ∧ k.statics = some a ∧ H[a]? = some cell ∧ cell.vm.isStatics = true ∧ cell.cls = c ∧ f.slot < cell.slots.size ∧ k.staticTypes[f.slot]? = some f.type ∧ ¬ A a
theorem vx_L.moved {C n d : String} {A : Nat → Prop} {u U : State} {H : Heap} (hvm : u.vm.Alike U.vm) (h : vx_L C n d A u H) : vx_L C n d A U H := by
  obtain ⟨c, k, i, f, a, cell, h1, h2, h3, h4, h5, h6, h7, h8, h9, h10⟩ := h
  obtain ⟨k', hi', he⟩ := State.fieldFound?_setVm hvm h2
  exact ⟨c, k', i, f, a, cell, by rw [hvm.findClass]; exact h1, hi', h3, by rw [he]; exact h4, h5, h6, h7, h8, by rw [he]; exact h9, h10⟩
theorem vx_L.kept {C n d : String} {A : Nat → Prop} {U : State} {H H1 : Heap} (h : vx_L C n d A U H) (hq : ∀ a : Nat, a < H.size → ¬ A a → H1[a]? = H[a]?) : vx_L C n d A U H1 := by
  obtain ⟨c, k, i, f, a, cell, h1, h2, h3, h4, h5, h6, h7, h8, h9, h10⟩ := h
  exact ⟨c, k, i, f, a, cell, h1, h2, h3, h4, by rw [hq a (Array.getElem?_eq_some_iff.mp h5).1 h10]; exact h5, h6, h7, h8, h9, h10⟩
theorem vx_L.narrow {C n d : String} {A B : Nat → Prop} {U : State} {H : Heap} (h : vx_L C n d A U H) (hAB : ∀ q, B q → A q) : vx_L C n d B U H := by
  obtain ⟨c, k, i, f, a, cell, h1, h2, h3, h4, h5, h6, h7, h8, h9, h10⟩ := h
  exact ⟨c, k, i, f, a, cell, h1, h2, h3, h4, h5, h6, h7, h8, h9, fun z => h10 (hAB _ z)⟩
theorem vx_L.word {C n d : String} {A : Nat → Prop} {s : State} {args : Array Value} (h : vx_L C n d A s s.heap) : (Cond.laysStatic C n d).before args s = true := by
  obtain ⟨c, k, i, f, a, cell, h1, h2, h3, h4, h5, h6, h7, h8, h9, -⟩ := h
  show (Cond.laysStatic C n d).holds args s none s [] = true
  exact Cond.laysStatic_of h1 h2 h3 h4 h5 h6 h7 h8 h9
/-- .. and what it holds: null or some reference -/
def vx_Zq (C n d : String) (A : Nat → Prop) (U : State) (H : Heap) : Prop := va_Zq C n d A U H ∧ vx_L C n d A U H
theorem vx_Zq.moved {C n d : String} {A : Nat → Prop} {u U : State} {H : Heap} (hvm : u.vm.Alike U.vm) (h : vx_Zq C n d A u H) : vx_Zq C n d A U H := ⟨va_Zq.moved hvm h.1, vx_L.moved hvm h.2⟩
theorem vx_Zq.kept {C n d : String} {A : Nat → Prop} {U : State} {H H1 : Heap} (h : vx_Zq C n d A U H) (hq : ∀ a : Nat, a < H.size → ¬ A a → H1[a]? = H[a]?) : vx_Zq C n d A U H1 := ⟨va_Zq.kept h.1 hq, vx_L.kept h.2 hq⟩
theorem vx_Zq.narrow {C n d : String} {A B : Nat → Prop} {U : State} {H : Heap} (h : vx_Zq C n d A U H) (hAB : ∀ q, B q → A q) : vx_Zq C n d B U H := ⟨va_Zq.narrow h.1 hAB, vx_L.narrow h.2 hAB⟩
theorem vx_Zqof {args : Array Value} {s : State} {C n d : String} {A : Nat → Prop} (hl : (Cond.laysStatic C n d).before args s = true) (hini : (Cond.initialized C).before args s = true) (h : (Cond.isRef (.static C n d)).before args s = true) (hA : ∀ a : Nat, a < s.heap.size → ¬ A a) : vx_Zq C n d A s s.heap := by
  refine ⟨va_Zqof hl hini h hA, ?_⟩
  obtain ⟨c, k, i, f, a, cell, h1, h2, h3, h4, h5, h6, h7, h8, h9⟩ := Cond.laysStatic_spec hl
  exact ⟨c, k, i, f, a, cell, h1, h2, h3, h4, h5, h6, h7, h8, h9, hA a (Array.getElem?_eq_some_iff.mp h5).1⟩
theorem vx_isRef {C n d : String} {v : Value} {A : Nat → Prop} {s : State} {args : Array Value} (h : va_Z C n d v A s s.heap) (hv : v.isRef = true) : (Cond.isRef (.static C n d)).before args s = true := by
  obtain ⟨cf, kf, fi, f, a, cell, h1, h2, h3, h4, h5, h6, h7, -⟩ := h
  have he : (Term.static C n d).eval args s none [] s = some v := by
    simp [Term.eval, State.fieldNamed?, h1, h2, h4, h5, h6, h7]
  simp only [Cond.before, Cond.holds, Cond.value, he]
  cases v <;> simp_all [Value.isRef]
theorem vx_isRefq {C n d : String} {A : Nat → Prop} {s : State} {args : Array Value} (h : va_Zq C n d A s s.heap) : (Cond.isRef (.static C n d)).before args s = true := by
  rcases h with h | ⟨t, h⟩
  · exact vx_isRef h rfl
  · exact vx_isRef h rfl
/-- the same frame, seen from here: as if the method were called anew in this heap -/
theorem vx_rebase {T : State} (X : Stand p l e R s m args below meth c T locs cells slots) {R' : Room} (hf : R'.frames ≤ R.frames) (hl : R'.locals ≤ R.locals) (hc : cells + R'.cells ≤ R.cells) (hs : slots + R'.slots ≤ R.slots) :
    Stand p l e R' ((T.setVm s.vm).setFrames (.invoking m args :: below)) m args below meth c T [] 0 0 := by
  have htop : (T.setVm s.vm).topJava?.isSome := X.here.top
  have hF : ((T.setVm s.vm).setFrames (.invoking m args :: below)).frames = .invoking m args :: below := State.frames_setFrames _ (State.cur_lt_of_top htop)
  obtain ⟨g₀, hg0⟩ := Option.isSome_iff_exists.mp htop
  obtain ⟨r, hr⟩ := State.topJava?_eq_some.mp hg0
  have hl9 : e.platform.stackLimits (T.setVm s.vm).me = e.platform.stackLimits s.me := X.limits
  have hb9 : (T.setVm s.vm).me.stackBytes = s.me.stackBytes := X.bytes
  refine ⟨X.admits, X.cas, X.clock, hF, ?_, X.hears, X.method, X.code, X.here, X.tail, X.warmed, ?_, ?_, ?_⟩
  · have h := X.room
    have hU : ((T.setVm s.vm).setFrames (.invoking m args :: below)).localsInUse = s.localsInUse := by
      rw [State.localsInUse_invoking hF (meth := meth) (c := c) X.method X.code, State.localsInUse_invoking X.frames X.method X.code]
    simp only [State.hasRoom, Bool.and_eq_true, decide_eq_true_eq] at h ⊢
    obtain ⟨⟨⟨⟨h1, h2, h3, h4, h5, h6⟩, h7⟩, h8⟩, h9⟩ := h
    rw [X.frames, List.length_cons] at h2 h3
    have q1 := X.heapSize
    have q2 := X.used
    simp only [hF, hU, List.length_cons, State.stackLimits_setFrames, State.stackBytes_setFrames, hl9, hb9]
    refine ⟨⟨⟨⟨by omega, by omega, by omega, by omega, by omega, h6⟩, ?_⟩, ?_⟩, X.book⟩
    · show T.heap.size + R'.cells ≤ e.platform.maxCells
      omega
    · show T.slotsUsed + R'.slots ≤ e.platform.maxSlots
      omega
  · rw [State.stackLimits_setFrames]; rfl
  · rw [State.stackBytes_setFrames]; rfl
  · refine ⟨?_, Nat.le_refl _, Nat.le_refl _, ?_, ?_, fun a c9 h9 => ⟨c9, h9, rfl, rfl, fun _ _ => rfl⟩⟩
    · obtain ⟨t, ht, -⟩ := State.frames_cons hr
      show T.setVm s.vm = { ((T.setVm s.vm).setFrames (.invoking m args :: below)).setFrames (T.setVm s.vm).frames with heap := T.heap, slotsUsed := T.slotsUsed }
      rw [State.setFrames_setFrames, State.setFrames_self ht]
      rfl
    · show T.slotsUsed = T.slotsUsed + ((T.heap.toList.drop T.heap.size).map (·.slots.size)).sum
      rw [List.drop_eq_nil_of_le (Nat.le_of_eq Array.length_toList)]
      rfl
    · show ((T.heap.toList.drop T.heap.size).map (·.slots.size)).sum ≤ 0
      rw [List.drop_eq_nil_of_le (Nat.le_of_eq Array.length_toList)]
      exact Nat.le_refl _
/-- 'throw new E()': new; dup; invokespecial; athrow -/
theorem vx_throw0 {cc : ByteArray} {pc : Nat} (hexec : p.tables.exec = Jvm.exec) (hb : c.code = cc) (hl : l.stackTraces = false) {own cls : String} {names : List String} {ik ic mc ms : Nat} {A : Nat → Prop}
    (hown : s.vm.findClass own = some m.cls) (hcls : Bundle.fit cls = true) (hnames : ∀ n ∈ names, Bundle.fit n = true)
    (hk : (Cond.classLink own ik cls).before args s = true) (hini : (Cond.initialized cls).before args s = true) (hat : ∀ w ∈ vx_at0 own ic cls names, w.before args s = true)
    (hgood : ∀ w ∈ Cond.classLink own ik cls :: Cond.initialized cls :: vx_at0 own ic cls names, vx_ot w = true)
    (hU : vx_Zq Bundle.tN "UNASSIGNED_STACK" Bundle.steD A s s.heap) (hN : vx_Zq Bundle.tN "SUPPRESSED_SENTINEL" Bundle.listD A s s.heap) (hS : va_S A s.heap H locs) (hsize : ls.size = c.maxLocals)
    (d0 : decode cc pc = .ok (.new ik, 3)) (d3 : decode cc (pc + 3) = .ok (.dup, 1)) (d4 : decode cc (pc + 4) = .ok (.invokespecial ic, 3)) (d7 : decode cc (pc + 7) = .ok (.athrow, 1))
    (hout : ∀ x ∈ c.exceptionTable.toList, covers x (pc + 7) = false)
    (hRframes : names.length + 3 < R.frames) (hRlocals : (rest.map fun v => v.category).sum + (13 * (names.length + 1) + 42) ≤ R.locals) (hRcells : cells + 1 ≤ R.cells) (hRslots : slots + 6 ≤ R.slots) (hlocks : meth.locks = false)
    (hx : ∀ t : State, s.vm.Alike t.vm → H.size ≤ t.heap.size → (∀ q : Nat, q < H.size → t.heap[q]? = H[q]?) → XC cls s t)
    (hf : ∀ z ∈ locs, free z.base) (hc : cells + 1 ≤ mc) (hs : slots + 6 ≤ ms) :
    W p l e R s m args below meth c H locs cells slots (vx_MQ below Qc XC args s mc ms free) (F0 m pc ls rest) := by
  intro T hT X
  have htr : e.platform.stackTraces = false := (show e.platform.stackTraces = l.stackTraces by rw [X.admits.platform]).trans hl
  have Y := vx_rebase X (R' := { frames := R.frames, locals := R.locals, cells := 1, slots := 6 }) (Nat.le_refl _) (Nat.le_refl _) hRcells hRslots
  obtain ⟨s', hA⟩ : ∃ z, z = (T.setVm s.vm).setFrames (.invoking m args :: below) := ⟨_, rfl⟩
  rw [← hA] at Y
  have hvm : s'.vm = s.vm := by rw [hA]; rfl
  have hhp : s'.heap = H := by rw [hA]; exact hT
  have hW0 : s.WarmedH s'.vm := by rw [hvm]; exact State.WarmedH.refl s
  have hat' : ∀ w ∈ vx_at0 own ic cls names, w.before args s' = true := fun w hw => vx_ot_at hW0 hvm.symm (hgood w (List.mem_cons_of_mem _ (List.mem_cons_of_mem _ hw))) (hat w hw)
  have hk' : (Cond.classLink own ik cls).before args s' = true := vx_ot_at hW0 hvm.symm (hgood _ List.mem_cons_self) hk
  have hini' : (Cond.initialized cls).before args s' = true := vx_ot_at hW0 hvm.symm (hgood _ (List.mem_cons_of_mem _ List.mem_cons_self)) hini
  have hU' : vx_Zq Bundle.tN "UNASSIGNED_STACK" Bundle.steD A s' s'.heap := by rw [hhp]; exact vx_Zq.moved hW0.alike (hU.kept hS.2.1)
  have hN' : vx_Zq Bundle.tN "SUPPRESSED_SENTINEL" Bundle.listD A s' s'.heap := by rw [hhp]; exact vx_Zq.moved hW0.alike (hN.kept hS.2.1)
  have h : ∀ w ∈ Bundle.ownAtoms0 own ic cls names, w.before args s' = true := vx_own hat' (vx_isRefq hU'.1) (vx_isRefq hN'.1) hU'.2.word hN'.2.word
  have hown' : s'.vm.findClass own = some m.cls := by rw [hvm]; exact hown
  have hins : (Cond.instantiable cls 6).before args s' = true := h _ (by simp [Bundle.ownAtoms0])
  obtain ⟨vm₁, cX, kX, hfX, hkX, -, -, X₁, st1⟩ := Y.newCold hexec (own := own) (C := cls) (index := ik) (n := 6) hown' hk' hins hini'
    (g := F0 m pc ls rest) rfl (by rw [hb]; exact d0) (Nat.le_refl _) (Nat.le_refl _)
  generalize hT1 : (T.setVm vm₁).pushCell { cls := cX, slots := kX.instanceTypes.map defaultValue, vm := .none } = T1 at X₁ st1
  have hcat : (Value.ref T.heap.size).category = 1 := rfl
  have hcellA : T1.heap[T.heap.size]? = some (freshCell cX kX) := by rw [← hT1]; exact State.heap_pushCell_size _ _
  have d3' : decode c.code (pc + 3) = .ok (.dup, 1) := by rw [hb]; exact d3
  obtain ⟨U, hsteps, hrun, hend, hW, hsame, ce, hce, hO⟩ := X₁.ctorThrow0 hexec htr (own := own) (cls := cls) (names := names) (ic := ic) hown' hcls hnames h (fun x hx => nomatch hx) hfX hkX hcellA (by rw [hhp, hT]; exact Nat.le_refl _)
    (g := { method := m, pc := pc + 4, locals := ls, stack := .ref T.heap.size :: .ref T.heap.size :: rest, locked := none }) rfl hsize rfl rfl (rest := rest) rfl
    (by rw [hb]; exact d4) (by rw [hb]; exact d7) hout hRframes (by simp only [List.map_cons, List.sum_cons, hcat]; omega) hlocks
  obtain ⟨f1, f2⟩ := vx_frame hsame
  rw [hhp] at f1 f2
  have hWs : s.WarmedH U.vm := State.WarmedH.trans hW0 hW
  have hcl : s.vm.findClass cls = some ce.cls := by
    have h9 := hO.cls
    rw [hvm] at h9
    exact h9
  have hall : s.sameButNew ({ U with vm := s.vm } : State) locs mc ms := by
    subst hA
    obtain ⟨e1, e2⟩ := hsame
    rw [State.setFrames_setFrames] at e1
    have h2 : (T.setVm s.vm).sameButNew ({ U with vm := s.vm } : State) [] (0 + 1) (0 + 6) := ⟨e1, e2⟩
    have h3 := X.same.trans h2
    rw [List.append_nil] at h3
    exact h3.mono hc hs
  refine ⟨U, ?_, .threw T.heap.size, hrun, hend, Or.inr ⟨T.heap.size, rfl, cls, ce, locs, hx U hWs.alike f1 (fun q hq => f2 q hq (fun z hz => nomatch hz)), hce, hO.vm, hcl, hWs, hall, hf⟩⟩
  refine st1 _ ?_
  show Steps p.tables e below (T1.setTop { method := m, pc := pc + 3, locals := ls, stack := .ref T.heap.size :: rest, locked := none }) _
  jvm_step X₁.here [X₁.here.top, hexec, d3', Value.category]
  exact hsteps
/-- 'throw new E("text")': new; dup; ldc; invokespecial; athrow -/
theorem vx_throwS {cc : ByteArray} {pc : Nat} (hexec : p.tables.exec = Jvm.exec) (hb : c.code = cc) (hl : l.stackTraces = false) {own cls text : String} {names : List String} {ik is ic mc ms sa : Nat} {A : Nat → Prop}
    (hown : s.vm.findClass own = some m.cls) (hcls : Bundle.fit cls = true) (hnames : ∀ n ∈ names, Bundle.fit n = true)
    (hk : (Cond.classLink own ik cls).before args s = true) (hini : (Cond.initialized cls).before args s = true) (hstr : vk_R own is text sa s) (hat : ∀ w ∈ vx_atS own ic cls names, w.before args s = true)
    (hgood : ∀ w ∈ Cond.classLink own ik cls :: Cond.initialized cls :: vx_atS own ic cls names, vx_ot w = true)
    (hU : vx_Zq Bundle.tN "UNASSIGNED_STACK" Bundle.steD A s s.heap) (hN : vx_Zq Bundle.tN "SUPPRESSED_SENTINEL" Bundle.listD A s s.heap) (hS : va_S A s.heap H locs) (hsize : ls.size = c.maxLocals)
    (d0 : decode cc pc = .ok (.new ik, 3)) (d3 : decode cc (pc + 3) = .ok (.dup, 1)) (d4 : decode cc (pc + 4) = .ok (.ldc is, 2)) (d6 : decode cc (pc + 6) = .ok (.invokespecial ic, 3)) (d9 : decode cc (pc + 9) = .ok (.athrow, 1))
    (hout : ∀ x ∈ c.exceptionTable.toList, covers x (pc + 9) = false)
    (hRframes : names.length + 3 < R.frames) (hRlocals : (rest.map fun v => v.category).sum + (13 * (names.length + 1) + 43) ≤ R.locals) (hRcells : cells + 1 ≤ R.cells) (hRslots : slots + 6 ≤ R.slots) (hlocks : meth.locks = false)
    (hx : ∀ t : State, s.vm.Alike t.vm → H.size ≤ t.heap.size → (∀ q : Nat, q < H.size → t.heap[q]? = H[q]?) → XC cls s t)
    (hf : ∀ z ∈ locs, free z.base) (hc : cells + 1 ≤ mc) (hs : slots + 6 ≤ ms) :
    W p l e R s m args below meth c H locs cells slots (vx_MQ below Qc XC args s mc ms free) (F0 m pc ls rest) := by
  intro T hT X
  have htr : e.platform.stackTraces = false := (show e.platform.stackTraces = l.stackTraces by rw [X.admits.platform]).trans hl
  have Y := vx_rebase X (R' := { frames := R.frames, locals := R.locals, cells := 1, slots := 6 }) (Nat.le_refl _) (Nat.le_refl _) hRcells hRslots
  obtain ⟨s', hA⟩ : ∃ z, z = (T.setVm s.vm).setFrames (.invoking m args :: below) := ⟨_, rfl⟩
  rw [← hA] at Y
  have hvm : s'.vm = s.vm := by rw [hA]; rfl
  have hhp : s'.heap = H := by rw [hA]; exact hT
  have hW0 : s.WarmedH s'.vm := by rw [hvm]; exact State.WarmedH.refl s
  have hat' : ∀ w ∈ vx_atS own ic cls names, w.before args s' = true := fun w hw => vx_ot_at hW0 hvm.symm (hgood w (List.mem_cons_of_mem _ (List.mem_cons_of_mem _ hw))) (hat w hw)
  have hk' : (Cond.classLink own ik cls).before args s' = true := vx_ot_at hW0 hvm.symm (hgood _ List.mem_cons_self) hk
  have hini' : (Cond.initialized cls).before args s' = true := vx_ot_at hW0 hvm.symm (hgood _ (List.mem_cons_of_mem _ List.mem_cons_self)) hini
  have hU' : vx_Zq Bundle.tN "UNASSIGNED_STACK" Bundle.steD A s' s'.heap := by rw [hhp]; exact vx_Zq.moved hW0.alike (hU.kept hS.2.1)
  have hN' : vx_Zq Bundle.tN "SUPPRESSED_SENTINEL" Bundle.listD A s' s'.heap := by rw [hhp]; exact vx_Zq.moved hW0.alike (hN.kept hS.2.1)
  have h : ∀ w ∈ Bundle.ownAtoms own ic cls names, w.before args s' = true := vx_own hat' (vx_isRefq hU'.1) (vx_isRefq hN'.1) hU'.2.word hN'.2.word
  have hown' : s'.vm.findClass own = some m.cls := by rw [hvm]; exact hown
  have hins : (Cond.instantiable cls 6).before args s' = true := h _ (by simp [Bundle.ownAtoms])
  obtain ⟨vm₁, cX, kX, hfX, hkX, -, -, X₁, st1⟩ := Y.newCold hexec (own := own) (C := cls) (index := ik) (n := 6) hown' hk' hins hini'
    (g := F0 m pc ls rest) rfl (by rw [hb]; exact d0) (Nat.le_refl _) (Nat.le_refl _)
  generalize hT1 : (T.setVm vm₁).pushCell { cls := cX, slots := kX.instanceTypes.map defaultValue, vm := .none } = T1 at X₁ st1
  have hcat : (Value.ref T.heap.size).category = 1 := rfl
  have hcellA : T1.heap[T.heap.size]? = some (freshCell cX kX) := by rw [← hT1]; exact State.heap_pushCell_size _ _
  have d3' : decode c.code (pc + 3) = .ok (.dup, 1) := by rw [hb]; exact d3
  have d4' : decode c.code (pc + 4) = .ok (.ldc is, 2) := by rw [hb]; exact d4
  have hstr' : vk_R own is text sa s' := vk_R.warm hW0 hstr
  obtain ⟨U, hsteps, hrun, hend, hW, hsame, ce, hce, hO⟩ := X₁.ctorThrowS hexec htr (own := own) (cls := cls) (names := names) (ic := ic) hown' hcls hnames h (fun x hx => nomatch hx) hfX hkX hcellA (by rw [hhp, hT]; exact Nat.le_refl _) (msg := .ref sa) rfl
    (g := { method := m, pc := pc + 6, locals := ls, stack := .ref sa :: .ref T.heap.size :: .ref T.heap.size :: rest, locked := none }) rfl hsize rfl rfl (rest := rest) rfl
    (by rw [hb]; exact d6) (by rw [hb]; exact d9) hout hRframes (by simp only [List.map_cons, List.sum_cons, hcat]; omega) hlocks
  obtain ⟨f1, f2⟩ := vx_frame hsame
  rw [hhp] at f1 f2
  have hWs : s.WarmedH U.vm := State.WarmedH.trans hW0 hW
  have hcl : s.vm.findClass cls = some ce.cls := by
    have h9 := hO.cls
    rw [hvm] at h9
    exact h9
  have hall : s.sameButNew ({ U with vm := s.vm } : State) locs mc ms := by
    subst hA
    obtain ⟨e1, e2⟩ := hsame
    rw [State.setFrames_setFrames] at e1
    have h2 : (T.setVm s.vm).sameButNew ({ U with vm := s.vm } : State) [] (0 + 1) (0 + 6) := ⟨e1, e2⟩
    have h3 := X.same.trans h2
    rw [List.append_nil] at h3
    exact h3.mono hc hs
  refine ⟨U, ?_, .threw T.heap.size, hrun, hend, Or.inr ⟨T.heap.size, rfl, cls, ce, locs, hx U hWs.alike f1 (fun q hq => f2 q hq (fun z hz => nomatch hz)), hce, hO.vm, hcl, hWs, hall, hf⟩⟩
  refine st1 _ ?_
  show Steps p.tables e below (T1.setTop { method := m, pc := pc + 3, locals := ls, stack := .ref T.heap.size :: rest, locked := none }) _
  jvm_step X₁.here [X₁.here.top, hexec, d3', Value.category]
  exact X₁.ldcString hexec (own := own) (text := text) (index := is) (a := sa) hown' hstr'.1 hstr'.2
    (g := { method := m, pc := pc + 4, locals := ls, stack := .ref T.heap.size :: .ref T.heap.size :: rest, locked := none }) rfl d4' _ hsteps
/-- 'throw new E("text")', the text by a wide index -/
theorem vx_throwSW {cc : ByteArray} {pc : Nat} (hexec : p.tables.exec = Jvm.exec) (hb : c.code = cc) (hl : l.stackTraces = false) {own cls text : String} {names : List String} {ik is ic mc ms sa : Nat} {A : Nat → Prop}
    (hown : s.vm.findClass own = some m.cls) (hcls : Bundle.fit cls = true) (hnames : ∀ n ∈ names, Bundle.fit n = true)
    (hk : (Cond.classLink own ik cls).before args s = true) (hini : (Cond.initialized cls).before args s = true) (hstr : vk_R own is text sa s) (hat : ∀ w ∈ vx_atS own ic cls names, w.before args s = true)
    (hgood : ∀ w ∈ Cond.classLink own ik cls :: Cond.initialized cls :: vx_atS own ic cls names, vx_ot w = true)
    (hU : vx_Zq Bundle.tN "UNASSIGNED_STACK" Bundle.steD A s s.heap) (hN : vx_Zq Bundle.tN "SUPPRESSED_SENTINEL" Bundle.listD A s s.heap) (hS : va_S A s.heap H locs) (hsize : ls.size = c.maxLocals)
    (d0 : decode cc pc = .ok (.new ik, 3)) (d3 : decode cc (pc + 3) = .ok (.dup, 1)) (d4 : decode cc (pc + 4) = .ok (.ldc_w is, 3)) (d7 : decode cc (pc + 7) = .ok (.invokespecial ic, 3)) (d10 : decode cc (pc + 10) = .ok (.athrow, 1))
    (hout : ∀ x ∈ c.exceptionTable.toList, covers x (pc + 10) = false)
    (hRframes : names.length + 3 < R.frames) (hRlocals : (rest.map fun v => v.category).sum + (13 * (names.length + 1) + 43) ≤ R.locals) (hRcells : cells + 1 ≤ R.cells) (hRslots : slots + 6 ≤ R.slots) (hlocks : meth.locks = false)
    (hx : ∀ t : State, s.vm.Alike t.vm → H.size ≤ t.heap.size → (∀ q : Nat, q < H.size → t.heap[q]? = H[q]?) → XC cls s t)
    (hf : ∀ z ∈ locs, free z.base) (hc : cells + 1 ≤ mc) (hs : slots + 6 ≤ ms) :
    W p l e R s m args below meth c H locs cells slots (vx_MQ below Qc XC args s mc ms free) (F0 m pc ls rest) := by
  intro T hT X
  have htr : e.platform.stackTraces = false := (show e.platform.stackTraces = l.stackTraces by rw [X.admits.platform]).trans hl
  have Y := vx_rebase X (R' := { frames := R.frames, locals := R.locals, cells := 1, slots := 6 }) (Nat.le_refl _) (Nat.le_refl _) hRcells hRslots
  obtain ⟨s', hA⟩ : ∃ z, z = (T.setVm s.vm).setFrames (.invoking m args :: below) := ⟨_, rfl⟩
  rw [← hA] at Y
  have hvm : s'.vm = s.vm := by rw [hA]; rfl
  have hhp : s'.heap = H := by rw [hA]; exact hT
  have hW0 : s.WarmedH s'.vm := by rw [hvm]; exact State.WarmedH.refl s
  have hat' : ∀ w ∈ vx_atS own ic cls names, w.before args s' = true := fun w hw => vx_ot_at hW0 hvm.symm (hgood w (List.mem_cons_of_mem _ (List.mem_cons_of_mem _ hw))) (hat w hw)
  have hk' : (Cond.classLink own ik cls).before args s' = true := vx_ot_at hW0 hvm.symm (hgood _ List.mem_cons_self) hk
  have hini' : (Cond.initialized cls).before args s' = true := vx_ot_at hW0 hvm.symm (hgood _ (List.mem_cons_of_mem _ List.mem_cons_self)) hini
  have hU' : vx_Zq Bundle.tN "UNASSIGNED_STACK" Bundle.steD A s' s'.heap := by rw [hhp]; exact vx_Zq.moved hW0.alike (hU.kept hS.2.1)
  have hN' : vx_Zq Bundle.tN "SUPPRESSED_SENTINEL" Bundle.listD A s' s'.heap := by rw [hhp]; exact vx_Zq.moved hW0.alike (hN.kept hS.2.1)
  have h : ∀ w ∈ Bundle.ownAtoms own ic cls names, w.before args s' = true := vx_own hat' (vx_isRefq hU'.1) (vx_isRefq hN'.1) hU'.2.word hN'.2.word
  have hown' : s'.vm.findClass own = some m.cls := by rw [hvm]; exact hown
  have hins : (Cond.instantiable cls 6).before args s' = true := h _ (by simp [Bundle.ownAtoms])
  obtain ⟨vm₁, cX, kX, hfX, hkX, -, -, X₁, st1⟩ := Y.newCold hexec (own := own) (C := cls) (index := ik) (n := 6) hown' hk' hins hini'
    (g := F0 m pc ls rest) rfl (by rw [hb]; exact d0) (Nat.le_refl _) (Nat.le_refl _)
  generalize hT1 : (T.setVm vm₁).pushCell { cls := cX, slots := kX.instanceTypes.map defaultValue, vm := .none } = T1 at X₁ st1
  have hcat : (Value.ref T.heap.size).category = 1 := rfl
  have hcellA : T1.heap[T.heap.size]? = some (freshCell cX kX) := by rw [← hT1]; exact State.heap_pushCell_size _ _
  have d3' : decode c.code (pc + 3) = .ok (.dup, 1) := by rw [hb]; exact d3
  have d4' : decode c.code (pc + 4) = .ok (.ldc_w is, 3) := by rw [hb]; exact d4
  have hstr' : vk_R own is text sa s' := vk_R.warm hW0 hstr
  obtain ⟨U, hsteps, hrun, hend, hW, hsame, ce, hce, hO⟩ := X₁.ctorThrowS hexec htr (own := own) (cls := cls) (names := names) (ic := ic) hown' hcls hnames h (fun x hx => nomatch hx) hfX hkX hcellA (by rw [hhp, hT]; exact Nat.le_refl _) (msg := .ref sa) rfl
    (g := { method := m, pc := pc + 7, locals := ls, stack := .ref sa :: .ref T.heap.size :: .ref T.heap.size :: rest, locked := none }) rfl hsize rfl rfl (rest := rest) rfl
    (by rw [hb]; exact d7) (by rw [hb]; exact d10) hout hRframes (by simp only [List.map_cons, List.sum_cons, hcat]; omega) hlocks
  obtain ⟨f1, f2⟩ := vx_frame hsame
  rw [hhp] at f1 f2
  have hWs : s.WarmedH U.vm := State.WarmedH.trans hW0 hW
  have hcl : s.vm.findClass cls = some ce.cls := by
    have h9 := hO.cls
    rw [hvm] at h9
    exact h9
  have hall : s.sameButNew ({ U with vm := s.vm } : State) locs mc ms := by
    subst hA
    obtain ⟨e1, e2⟩ := hsame
    rw [State.setFrames_setFrames] at e1
    have h2 : (T.setVm s.vm).sameButNew ({ U with vm := s.vm } : State) [] (0 + 1) (0 + 6) := ⟨e1, e2⟩
    have h3 := X.same.trans h2
    rw [List.append_nil] at h3
    exact h3.mono hc hs
  refine ⟨U, ?_, .threw T.heap.size, hrun, hend, Or.inr ⟨T.heap.size, rfl, cls, ce, locs, hx U hWs.alike f1 (fun q hq => f2 q hq (fun z hz => nomatch hz)), hce, hO.vm, hcl, hWs, hall, hf⟩⟩
  refine st1 _ ?_
  show Steps p.tables e below (T1.setTop { method := m, pc := pc + 3, locals := ls, stack := .ref T.heap.size :: rest, locked := none }) _
  jvm_step X₁.here [X₁.here.top, hexec, d3', Value.category]
  exact X₁.ldcStringW hexec (own := own) (text := text) (index := is) (a := sa) hown' hstr'.1 hstr'.2
    (g := { method := m, pc := pc + 4, locals := ls, stack := .ref T.heap.size :: .ref T.heap.size :: rest, locked := none }) rfl d4' _ hsteps
end Ends
section Bodies
variable {l : Launch}
theorem vx_ofW {y : MethodName} {ws ws' : List Cond} {rm : Room} {Pc : Array Value → State → Prop} {Qc : Array Value → State → Outcome → State → Prop} {XC : String → State → State → Prop} {mc ms : Nat} {free : Addr → Prop} {cc : ByteArray} {maxL : Nat} {ret : Option FieldType}
    (hy : plainName y.cls = true) (hw : ws = Cond.code y cc maxL ret :: ws')
    (body : ∀ p e s m args below meth c s₁, BodyLoose p l y (headSpec ws rm) cc maxL ret e s m args below meth c s₁ → c.maxLocals = maxL → (∀ x ∈ c.exceptionTable.toList, False) → Pc args s →
      W p l e (headSpec ws rm).room s m args below meth c s.heap [] 0 0 (vx_MQ below Qc XC args s mc ms free) (entryFrame m args maxL)) : vx_Met l y ws rm Pc Qc XC mc ms free := by
  refine MetFree.of_bodyS (code := cc) (maxLocals := maxL) (ret := ret) hy ?_ ?_
  · intro args s m h hn
    obtain ⟨meth, c, h1, h2, h3, h4, h5, h6, -, -⟩ := Cond.code_spec hn (atoms_spec (ws := ws) h _ (by rw [hw]; exact List.mem_cons_self))
    exact ⟨meth, c, h1, h2, h3, h4, h5, h6⟩
  · intro p e s m args below meth c s₁ B hml hP _
    have hh0 : s₁.heap = s.heap := by rw [B.state]; rfl
    have ht : ∀ x ∈ c.exceptionTable.toList, False := by
      obtain ⟨meth9, c9, h1, h2, -, -, -, -, h7, -⟩ := Cond.code_spec B.named (atoms_spec (ws := ws) B.pre _ (by rw [hw]; exact List.mem_cons_self))
      cases Option.some.inj (h1.symm.trans B.method)
      cases Option.some.inj (h2.symm.trans (Stand.of_body B).code)
      intro x hx
      rw [Array.isEmpty_iff.mp h7] at hx
      cases hx
    obtain ⟨t, a1, o, b1, b2, b3⟩ := body p e s m args below meth c s₁ B hml ht hP s₁ hh0 (Stand.of_body B)
    exact ⟨t, o, a1, b1, b2, b3⟩
/-- the table of a body with handlers -/
theorem vx_table {p : Program} {x y : MethodName} {S : Spec} {cc bytes : ByteArray} {maxL maxL' : Nat} {ret ret' : Option FieldType} {e : Env} {s s₁ : State} {m : MethodId} {args : Array Value} {below : List Frame} {meth : Method} {c : Code} {hh : List (Nat × Nat × Nat × Nat)}
    (B : BodyLoose p l y S cc maxL ret e s m args below meth c s₁) (h : (Cond.codeWith y bytes maxL' ret' hh).before args s = true) : c.exceptionTable.toList = tableOf hh := by
  obtain ⟨m9, meth9, c9, hn9, h1, h2, -, -, h6, -⟩ := Cond.codeWith_spec h
  cases Option.some.inj (hn9.symm.trans B.named)
  cases Option.some.inj (h1.symm.trans B.method)
  cases Option.some.inj (h2.symm.trans (Stand.of_body B).code)
  rw [← h6, table_eq]
end Bodies
end VXA
/-! ===== END ===== -/
/-! ===== BEGIN a static call of a method with an exception table ===== -/
section VXS
variable {p : Program} {l : Launch} {e : Env} {R : Room} {s : State} {m : MethodId} {args : Array Value} {below : List Frame} {meth : Method} {c : Code} {T : State} {H : Heap} {locs : List Loc} {cells slots : Nat}
abbrev vx_CSW (R : Room) (s : State) (args : Array Value) (own : String) (index : Nat) (y : MethodName) (bytes : ByteArray) (maxL : Nat) (ret : Option FieldType) (hh : List (Nat × Nat × Nat × Nat)) (ws : List Cond) (rm : Room) (mc ms n : Nat) : Prop :=
  (rm.cells = mc ∧ rm.slots = ms ∧ rm.frames + 1 ≤ R.frames ∧ 8 + (maxL + 11) + rm.locals ≤ R.locals ∧ (∀ w ∈ ws, ∀ (a' : Array Value) (U : State), s.WarmedH U.vm → w.before a' U = true) ∧ Cond.codeWith y bytes maxL ret hh ∈ ws) ∧
  (Cond.codeWith y bytes maxL ret hh).before args s = true ∧ (Cond.initialized y.cls).before args s = true ∧ (y.cls ≠ "java/lang/invoke/MethodHandle" ∧ y.cls ≠ "java/lang/invoke/VarHandle") ∧
  (∀ sig, parseMethodDescriptor y.desc = some sig → n = sig.parameters.length) ∧ (Cond.methodLink own index y).before args s = true ∧ (Cond.static y).before args s = true
theorem vx_cwSW {own : String} {index maxL mc ms : Nat} {y : MethodName} {bytes : ByteArray} {ret : Option FieldType} {hh : List (Nat × Nat × Nat × Nat)} {Ts ws ws' : List Cond} {rm : Room} (n : Nat) (ht : ∀ w ∈ Ts, w.before args s = true) (hT : GoodIn Ts (va_wsS own index y ws)) (hw : ws = Cond.codeWith y bytes maxL ret hh :: ws') (hrc : rm.cells = mc) (hrs : rm.slots = ms)
    (hd : y.cls ≠ "java/lang/invoke/MethodHandle" ∧ y.cls ≠ "java/lang/invoke/VarHandle" ∧ (parseMethodDescriptor y.desc).map (fun d => d.parameters.length) = some n) (hR : rm.frames + 1 ≤ R.frames ∧ 8 + (maxL + 11) + rm.locals ≤ R.locals) :
    vx_CSW R s args own index y bytes maxL ret hh ws rm mc ms n := by
  have ok : ∀ w ∈ va_wsS own index y ws, w.before args s = true := fun w h => ht w (hT w h).1
  have hG : GoodIn Ts ws := fun w h => hT w (by unfold va_wsS; exact List.mem_append_right _ h)
  have hc : Cond.codeWith y bytes maxL ret hh ∈ ws := by rw [hw]; exact List.mem_cons_self
  refine ⟨⟨hrc, hrs, hR.1, hR.2, pay_in ht hG, hc⟩, ht _ (hG _ hc).1, ok _ (by simp [va_wsS]), ⟨hd.1, hd.2.1⟩, fun sig h => ?_, ok _ (by simp [va_wsS]), ok _ (by simp [va_wsS])⟩
  have h2 := hd.2.2
  rw [h] at h2
  exact (Option.some.inj h2).symm
theorem vx_callSW (X : Stand p l e R s m args below meth c T locs cells slots) (hexec : p.tables.exec = Jvm.exec) {own : String} {index : Nat} {y : MethodName} {bytes : ByteArray} {maxL : Nat} {ret : Option FieldType} {hh : List (Nat × Nat × Nat × Nat)}
    (hown : s.vm.findClass own = some m.cls) (hlink : (Cond.methodLink own index y).before args s = true) (hstat : (Cond.static y).before args s = true) (hinit : (Cond.initialized y.cls).before args s = true)
    (hcode : (Cond.codeWith y bytes maxL ret hh).before args s = true) (hy : y.cls ≠ "java/lang/invoke/MethodHandle" ∧ y.cls ≠ "java/lang/invoke/VarHandle")
    {W9 : Nat} {Pre : Pt → Array Value → Prop} {Post : Pt → Array Value → Option Value → Pt → Prop} (hK : Back l R p e below s args y 3 W9 Pre Post)
    {g : JFrame} (hg : g.method = m) (hsize : g.locals.size = c.maxLocals) {argsL rest : List Value} (hlen : ∀ sig, parseMethodDescriptor y.desc = some sig → argsL.length = sig.parameters.length)
    (hstack : g.stack = argsL.reverse ++ rest) (hW : 2 * g.monitorRoom + (rest.map fun v => v.category).sum ≤ W9) (hdg : decode c.code g.pc = .ok (.invokestatic index, 3))
    (hpre : ∀ vm₁, s.WarmedH vm₁ → Pre ⟨T.setVm vm₁, locs, cells, slots⟩ argsL.toArray) :
    ∃ (v : Option Value) (vm₁ : Vm) (B : Pt), s.WarmedH vm₁ ∧ Stand p l e R s m args below meth c B.U B.locs B.cells B.slots ∧ Post ⟨T.setVm vm₁, locs, cells, slots⟩ argsL.toArray v B ∧
      ∀ target, Steps p.tables e below (B.U.setTop { g with pc := g.pc + 3, stack := v.toList ++ rest }) target → Steps p.tables e below (T.setTop g) target := by
  obtain ⟨mk, methM, cM, hnamed, hmethM, -, -, -, -, -, -, hsigM⟩ := Cond.codeWith_spec hcode
  have hstatic : methM.isStatic = true := Cond.static_spec hnamed hmethM hstat
  obtain ⟨kP, hkP, -⟩ := className_of_methodNamed hnamed
  have hinitP : kP.init = .initialized := Cond.initialized_spec (findClass_of_methodNamed hnamed) hkP hinit
  obtain ⟨vm₁, X₁, hstep₁⟩ := X.invokestatic hexec hown hlink hnamed hmethM hstatic hkP hinitP hy (g := g) hg (argsL := argsL) (rest := rest) (hlen _ hsigM) hstack hdg
  obtain ⟨v, B, X', hpost, hsteps⟩ := hK m meth c ⟨T.setVm vm₁, locs, cells, slots⟩ { g with stack := rest } (.invokestatic index) mk argsL.toArray X₁ hg hsize hdg hW (X₁.named hnamed) (hpre vm₁ X₁.warmed)
  exact ⟨v, vm₁, B, X₁.warmed, X', hpost, fun target h => hstep₁ _ fun acts => by rw [doInvoke_state]; exact hsteps.trans h⟩
theorem vx_runSW {y : MethodName} {bytes cc : ByteArray} {maxL nL mc ms n index : Nat} {ret : Option FieldType} {hh : List (Nat × Nat × Nat × Nat)} {ws : List Cond} {rm : Room} {Pc : Array Value → State → Prop} {Qc : Array Value → State → Outcome → State → Prop} {free : Addr → Prop} {Ts : List Cond} {own : String} {As rest : List Value} {g : JFrame}
    (S : CallFix p m c cc nL s args Ts own) (hM : Met l y ws rm Pc Qc mc ms free) (cw : vx_CSW R s args own index y bytes maxL ret hh ws rm mc ms n) (hp : PreS s H Pc As)
    (hg : g.method = m) (hn : As.length = n) (hsize : g.locals.size = nL) (hstack : g.stack = As.reverse ++ rest) (hW : 2 * g.monitorRoom + (rest.map fun v => v.category).sum ≤ 8) (hdg : decode cc g.pc = .ok (.invokestatic index, 3)) (hf : cells + mc ≤ R.cells ∧ slots + ms ≤ R.slots) :
    va_Run p l e R s m args below meth c H locs cells slots mc ms g rest (Qc As.toArray) (free) := by
  obtain ⟨⟨hrc, hrs, hfr, hlo, hws, hcw⟩, hcode, hini, hy, hlen, hl, hstt⟩ := cw
  have hK : Back l R p e below s args y 3 8 (PreOf R mc ms Pc) (PostOf Qc mc ms free) := va_backW (hh := hh) (bytes := bytes) (maxL := maxL) (ret := ret) hM hp.1 hrc hrs hfr hlo hws hcw (fun a' U hW => word_at hW (Or.inl (by first | rfl | simp [Cond.onTables, Cond.keeps, Cond.steady])) hini)
  obtain ⟨hx, hb, hml, ho, -⟩ := S
  intro T hT X
  obtain ⟨v, vm₁, ⟨U', l2, c2, s2⟩, hW₁, X', ⟨g', mk, t, L, e1, e2, hq, h1, hL, h2, h3⟩, st⟩ := vx_callSW X hx (hh := hh) (bytes := bytes) (maxL := maxL) (ret := ret) ho hl hstt hini hcode hy hK hg (hsize.trans hml.symm) (argsL := As) (rest := rest) (fun sig h => hn.trans (hlen sig h)) hstack hW (by rw [hb]; exact hdg)
    (fun vm₁ hW₁ => ⟨hf.1, hf.2, hp.2 (T.setVm vm₁) hT hW₁⟩)
  dsimp only [Pt.U, Pt.locs, Pt.cells, Pt.slots] at X' e1 e2 h1 h2 h3 st
  subst h1; subst h2; subst h3
  exact ⟨v, (T.setVm vm₁).calling g' mk As.toArray, t, U', L, hT, X', hL, e1, e2, hq, st⟩
/-- not caught here, past rows that name other classes: it goes on to the caller -/
theorem vx_outP {p : Program} {l : Launch} {e : Env} {R : Room} {s : State} {m : MethodId} {args : Array Value} {below : List Frame} {meth : Method} {c : Code} {H : Heap} {locs : List Loc} {cells slots : Nat} {free : Addr → Prop} {ls : Array Slot} {rest : List Value} {Qc : Array Value → State → Outcome → State → Prop} {XC : String → State → State → Prop}
    {pc : Nat} {own E : String} {ce : Cell} {q : Addr} {mc ms : Nat} (hown : s.vm.findClass own = some m.cls) (hlocks : meth.locks = false)
    (hpass : ∀ z ∈ c.exceptionTable.toList, covers z pc = false ∨ (z.catchType ≠ 0 ∧ ∃ nm : String, (Cond.classLink own z.catchType nm).before args s = true ∧ va_Nc E nm s)) (hcell : H[q]? = some ce) (hv : ce.vm = .none) (hcl : s.vm.findClass E = some ce.cls)
    (hx : ∀ t : State, t.heap = H → s.vm.Alike t.vm → XC E s t) (hf : ∀ z ∈ locs, free z.base) (hc : cells ≤ mc) (hs : slots ≤ ms) :
    vx_W p l e R s m args below meth c H locs cells slots (vx_MQ below Qc XC args s mc ms free) (F0 m pc ls rest) q := by
  intro T hT X
  have hpl : e.platform.magicAccessors = ({} : Platform).magicAccessors := by rw [X.admits.platform]
  obtain ⟨vm', hW', X', st⟩ := X.outThrough hlocks q (g := F0 m pc ls rest) rfl rfl rfl (cell := ce) (by rw [hT]; exact hcell) (by rw [hv]; rfl)
    (by obtain ⟨k9, h9, -⟩ := Vm.findClass_spec hcl; exact ⟨k9, h9⟩) (fun z hz => by
      rcases hpass z hz with h | ⟨hz0, nm, hl1, hn1⟩
      · exact Or.inl h
      · obtain ⟨c6, hc6, hcl6⟩ := Cond.classLink_spec hown hl1 e.platform hpl
        obtain ⟨a8, b8, h1, h2, h3⟩ := hn1
        cases Option.some.inj (h1.symm.trans hcl)
        cases Option.some.inj (h2.symm.trans hc6)
        exact Or.inr ⟨hz0, _, hcl6, h3⟩)
  obtain ⟨g₀, hfr⟩ := X'.frames_eq
  have hcell9 : ((T.setVm vm').setFrames (.throwing q :: below)).heap[q]? = some ce := by
    show T.heap[q]? = some ce
    rw [hT]; exact hcell
  have hend : Ended ((T.setVm vm').setFrames (.throwing q :: below)) below (.threw q) := State.frames_setFrames _ (State.cur_lt_of_frames hfr)
  refine ⟨(T.setVm vm').setFrames (.throwing q :: below), ?_, .threw q, X'.here.running, hend, Or.inr ⟨q, rfl, E, ce, locs, hx _ hT (X'.ends _).1.alike, hcell9, hv, hcl, (X'.ends _).1, (X'.ends _).2.mono hc hs, hf⟩⟩
  rw [X.pushThrowing_eq]
  exact st
/-- a thing of a world lies in the heap -/
theorem vx_lt {D : va_G} {cl : List vw_C} {ws : va_W} {H1 : Heap} (h : va_P D cl ws H1) {k : Nat} {q : Nat × va_E} (hk : ws[k]? = some q) : q.1 < H1.size := (h k q hk).lt
end VXS
/-! ===== END ===== -/
/-! ===== BEGIN methods with a table of their own: called by a name, returning or throwing ===== -/
section VXH
/-! vx_backW, vx_callVX, vx_callSX, vx_callVW, vx_runVW, vx_runVX, vx_runSX, vx_ofWH follow the same proofs as their sisters above (Free/Laws.lean, Shelf42/LK1.lean); vx_outP calls Shelf42/NT130.lean (outThrough). -/
section
variable {l : Launch} {R : Room} {p : Program} {e : Env} {below : List Frame} {s : State} {sargs : Array Value} {y : MethodName} {len W9 : Nat}
theorem vx_backW {ws : List Cond} {rm : Room} {Pc : Array Value → State → Prop} {Qc : Array Value → State → Outcome → State → Prop} {XC : String → State → State → Prop} {mc ms : Nat} {free : Addr → Prop} {bytes : ByteArray} {maxL : Nat} {ret : Option FieldType} {hh : List (Nat × Nat × Nat × Nat)}
    (hM : vx_Met l y ws rm Pc Qc XC mc ms free) (hblind : FrameBlind Pc) (hrc : rm.cells = mc) (hrs : rm.slots = ms)
    (hframes : rm.frames + 1 ≤ R.frames) (hlocals : W9 + (maxL + 11) + rm.locals ≤ R.locals)
    (hws : ∀ w ∈ ws, ∀ a' U, s.WarmedH U.vm → w.before a' U = true) (hcode : Cond.codeWith y bytes maxL ret hh ∈ ws) (hinit : ∀ a' U, s.WarmedH U.vm → (Cond.initialized y.cls).before a' U = true) :
    vx_Back l R p e below s sargs y len W9 (PreOf R mc ms Pc) (PostOf Qc mc ms free) (vx_Post XC mc ms free) := by
  intro m meth c A g ig mk a X hg hsize hdg hW hn hp
  have h1 : (headSpec ws rm).pre.before a A.U = true := atoms_intro fun w hw => hws w hw _ _ X.warmed
  have h2 : (Cond.codeWith y bytes maxL ret hh).before a A.U = true := hws _ hcode _ _ X.warmed
  have h3 : (Cond.initialized y.cls).before a A.U = true := hinit _ _ X.warmed
  have h4 : A.cells + (headSpec ws rm).room.cells ≤ R.cells := by rw [show (headSpec ws rm).room.cells = mc from hrc]; exact hp.1
  have h5 : A.slots + (headSpec ws rm).room.slots ≤ R.slots := by rw [show (headSpec ws rm).room.slots = ms from hrs]; exact hp.2.1
  have hPc : Pc a (A.U.calling g mk a) := hblind _ _ _ _ hp.2.2
  obtain ⟨U, Ls, c0, s0⟩ := A
  dsimp only [Pt.U, Pt.locs, Pt.cells, Pt.slots] at h1 h2 h3 h4 h5 X hn hPc ⊢
  obtain ⟨m9, methY, cY, hn9, hmY, hcY, -, hlY, -⟩ := Cond.codeWith_spec h2
  cases Option.some.inj (hn9.symm.trans hn)
  obtain ⟨kY, hkY, -⟩ := className_of_methodNamed hn
  have hinitY : kY.init = .initialized := Cond.initialized_spec (findClass_of_methodNamed hn) hkY h3
  have h : At U g.method c below := by rw [hg]; exact X.here
  have hlocals9 : W9 + (maxL + 11) + (headSpec ws rm).room.locals ≤ R.locals := hlocals
  have happ : (headSpec ws rm).appliesLoose y e.platform (U.calling g mk a) = true :=
    Spec.appliesLoose_calling (g := g) h hdg hn hkY hinitY
      (X.room_calling (g := g) (R' := (headSpec ws rm).room) hsize hmY hcY hframes (by rw [hlY]; omega) h4 h5) h1
  obtain ⟨mid, hmid⟩ := h.above
  have hfr : (U.setTop g).frames = (.java g :: mid) ++ below := by rw [State.frames_setTop' g h.top, hmid]; rfl
  obtain ⟨o, s₂, hsteps, -, hend, hq⟩ := Steps.callFree hM p X.admits X.cas X.clock (acts := []) hfr happ hPc trivial
  have hq' : vx_Q Qc XC mc ms free a (U.calling g mk a) o s₂ := hq
  rw [State.frames_setTop' g h.top] at hend
  obtain ⟨g₀, hg0⟩ := Option.isSome_iff_exists.mp h.top
  obtain ⟨r, hr⟩ := State.topJava?_eq_some.mp hg0
  have hr' : (({ U with heap := s₂.heap, slotsUsed := s₂.slotsUsed } : State).setVm s₂.vm).frames = .java g₀ :: r := hr
  rcases hq' with ⟨hqc, L, hfe, hL⟩ | ⟨q, rfl, E, ce, L, hx, hce, hcv, hcl, hW₂, hsm, hL⟩
  · obtain ⟨⟨v, rfl⟩, hW₂, e2, q2, q3, q4, q5, q6⟩ := id hfe
    have e3 : s₂ = ({ (U.calling g mk a).setFrames s₂.frames with heap := s₂.heap, slotsUsed := s₂.slotsUsed } : State).setVm s₂.vm := by
      have : s₂ = ({ s₂ with vm := (U.calling g mk a).vm } : State).setVm s₂.vm := rfl
      rw [e2] at this
      exact this
    obtain ⟨c₂, i₂, len₂, hc₂, hd₂, hf₂⟩ := hend
    have hW' : U.WarmedH s₂.vm := hW₂
    have hcc : c₂ = c := by
      have h1 : s₂.code? g.method = U.code? g.method := by
        rw [State.code?_eq, State.code?_eq, hW'.alike.method?]
      exact Option.some.inj (hc₂.symm.trans (h1.trans h.code))
    subst hcc
    have hlen : len₂ = len := by rw [hdg] at hd₂; cases hd₂; rfl
    subst hlen
    have hs₂ : s₂ = (({ U with heap := s₂.heap, slotsUsed := s₂.slotsUsed } : State).setVm s₂.vm).setTop { g with pc := g.pc + len₂, stack := v.toList ++ g.stack } := by
      refine e3.trans ?_
      rw [hf₂, State.calling_eq h.top, State.setFrames_setFrames, State.setTop_of_frames _ hr', hr]
      rfl
    have hsame : U.sameButNew ({ U with heap := s₂.heap, slotsUsed := s₂.slotsUsed } : State) L mc ms := by
      refine ⟨?_, q2, q3, q4, q5, q6⟩
      obtain ⟨t, ht, -⟩ := State.frames_cons hr
      show ({ U with heap := s₂.heap, slotsUsed := s₂.slotsUsed } : State) = { U.setFrames U.frames with heap := s₂.heap, slotsUsed := s₂.slotsUsed }
      rw [State.setFrames_self ht]
    subst hg
    refine Or.inl ⟨v, ⟨(({ U with heap := s₂.heap, slotsUsed := s₂.slotsUsed } : State).setVm s₂.vm), Ls ++ L, c0 + mc, s0 + ms⟩,
      ⟨X.admits, X.cas, X.clock, X.frames, X.room, X.hears, X.method, X.code, (X.here.setHeapUsed s₂.heap s₂.slotsUsed).setVm hW'.alike, X.tail, State.WarmedH.trans X.warmed hW', X.limits, X.bytes, X.same.trans (hsame.setVm s.vm)⟩,
      ⟨g, mk, s₂, L, rfl, rfl, hqc, rfl, hL, rfl, rfl⟩, ?_⟩
    show Steps p.tables e below _ ((({ U with heap := s₂.heap, slotsUsed := s₂.slotsUsed } : State).setVm s₂.vm).setTop { g with pc := g.pc + len₂, stack := v.toList ++ g.stack })
    rw [← hs₂]
    exact hsteps
  · obtain ⟨e2, q2, q3, q4, q5, q6⟩ := id hsm
    have e3 : s₂ = ({ (U.calling g mk a).setFrames s₂.frames with heap := s₂.heap, slotsUsed := s₂.slotsUsed } : State).setVm s₂.vm := by
      have : s₂ = ({ s₂ with vm := (U.calling g mk a).vm } : State).setVm s₂.vm := rfl
      rw [e2] at this
      exact this
    have hf₂ : s₂.frames = .throwing q :: .java g :: U.frames.tail := hend
    have hW' : U.WarmedH s₂.vm := hW₂
    have hs₂ : s₂ = ((({ U with heap := s₂.heap, slotsUsed := s₂.slotsUsed } : State).setVm s₂.vm).setTop g).pushFrame (.throwing q) := by
      refine e3.trans ?_
      rw [hf₂, State.calling_eq h.top, State.setFrames_setFrames, State.pushFrame, State.frames_setTop _ hr', State.setTop_of_frames _ hr', State.setFrames_setFrames, hr]
      rfl
    have hsame : U.sameButNew ({ U with heap := s₂.heap, slotsUsed := s₂.slotsUsed } : State) L mc ms := by
      refine ⟨?_, q2, q3, q4, q5, q6⟩
      obtain ⟨t, ht, -⟩ := State.frames_cons hr
      show ({ U with heap := s₂.heap, slotsUsed := s₂.slotsUsed } : State) = { U.setFrames U.frames with heap := s₂.heap, slotsUsed := s₂.slotsUsed }
      rw [State.setFrames_self ht]
    subst hg
    refine Or.inr ⟨q, ⟨(({ U with heap := s₂.heap, slotsUsed := s₂.slotsUsed } : State).setVm s₂.vm), Ls ++ L, c0 + mc, s0 + ms⟩,
      ⟨X.admits, X.cas, X.clock, X.frames, X.room, X.hears, X.method, X.code, (X.here.setHeapUsed s₂.heap s₂.slotsUsed).setVm hW'.alike, X.tail, State.WarmedH.trans X.warmed hW', X.limits, X.bytes, X.same.trans (hsame.setVm s.vm)⟩,
      ⟨g, mk, s₂, L, E, ce, rfl, rfl, hx, hce, hcv, hcl, rfl, hL, rfl, rfl⟩, ?_⟩
    show Steps p.tables e below _ (((({ U with heap := s₂.heap, slotsUsed := s₂.slotsUsed } : State).setVm s₂.vm).setTop g).pushFrame (.throwing q))
    rw [← hs₂]
    exact hsteps
end
variable {p : Program} {l : Launch} {e : Env} {R : Room} {s : State} {m : MethodId} {args : Array Value} {below : List Frame} {meth : Method} {c : Code} {T : State} {H : Heap} {locs : List Loc} {cells slots : Nat}
theorem vx_callVX (X : Stand p l e R s m args below meth c T locs cells slots) (hexec : p.tables.exec = Jvm.exec) {own C : String} {index : Nat} {y : MethodName} {bytes : ByteArray} {maxL : Nat} {ret : Option FieldType} {hh : List (Nat × Nat × Nat × Nat)}
    (hown : s.vm.findClass own = some m.cls) (hlink : (Cond.methodLink own index y).before args s = true) (hinst : (Cond.instanceMethod y).before args s = true) (hsel : (Cond.selects C y y).before args s = true)
    (hcode : (Cond.codeWith y bytes maxL ret hh).before args s = true) (hy : y.cls ≠ "java/lang/invoke/MethodHandle" ∧ y.cls ≠ "java/lang/invoke/VarHandle")
    {W9 : Nat} {Pre : Pt → Array Value → Prop} {Post : Pt → Array Value → Option Value → Pt → Prop} {PostX : Pt → Array Value → Addr → Pt → Prop} (hK : vx_Back l R p e below s args y 3 W9 Pre Post PostX)
    {b : Addr} {cellB : Cell} (hcell : T.heap[b]? = some cellB) (hobj : cellB.vm.isStatics = false) (hcls : s.vm.findClass C = some cellB.cls)
    {g : JFrame} (hg : g.method = m) (hsize : g.locals.size = c.maxLocals) {argsL rest : List Value} (hlen : ∀ sig, parseMethodDescriptor y.desc = some sig → argsL.length = sig.parameters.length)
    (hstack : g.stack = argsL.reverse ++ .ref b :: rest) (hW : 2 * g.monitorRoom + (rest.map fun v => v.category).sum ≤ W9) (hdg : decode c.code g.pc = .ok (.invokevirtual index, 3))
    (hpre : ∀ vm₁, s.WarmedH vm₁ → Pre ⟨T.setVm vm₁, locs, cells, slots⟩ (Value.ref b :: argsL).toArray) :
    (∃ (v : Option Value) (vm₁ : Vm) (B : Pt), s.WarmedH vm₁ ∧ Stand p l e R s m args below meth c B.U B.locs B.cells B.slots ∧ Post ⟨T.setVm vm₁, locs, cells, slots⟩ (Value.ref b :: argsL).toArray v B ∧
      ∀ target, Steps p.tables e below (B.U.setTop { g with pc := g.pc + 3, stack := v.toList ++ rest }) target → Steps p.tables e below (T.setTop g) target) ∨
    (∃ (q : Addr) (vm₁ : Vm) (B : Pt), s.WarmedH vm₁ ∧ Stand p l e R s m args below meth c B.U B.locs B.cells B.slots ∧ PostX ⟨T.setVm vm₁, locs, cells, slots⟩ (Value.ref b :: argsL).toArray q B ∧
      Steps p.tables e below (T.setTop g) ((B.U.setTop { g with stack := rest }).pushFrame (.throwing q))) := by
  obtain ⟨mk, methM, hnamed, hmethM, hstM, habM⟩ := Cond.instanceMethod_spec hinst
  obtain ⟨m8, methM', cM, hn8, hmethM', -, -, -, -, -, -, hsigM⟩ := Cond.codeWith_spec hcode
  cases Option.some.inj (hn8.symm.trans hnamed)
  cases hmethM.symm.trans hmethM'
  obtain ⟨c2, r2, m2, q1, q2, q3, q4, kP, hkP, hkPi⟩ := Cond.selects_spec hsel
  cases hcls.symm.trans q1
  cases (State.methodFound?_of_named hnamed hy).symm.trans q2
  cases hnamed.symm.trans q3
  have hselP : selectMethod e.platform s.vm cellB.cls mk = .method mk := by rw [Launch.admits_selectMethod X.admits]; exact q4
  obtain ⟨vm₁, X₁, hstep₁⟩ := X.invokevirtual hexec hown hlink hnamed hmethM hstM hkP hkPi hy (a := b) (cell := cellB) hcell
    (fun z h => by rw [h] at hobj; cases hobj) hselP hmethM habM hkP hkPi (g := g) hg (argsL := argsL) (rest := rest) (hlen _ hsigM) hstack hdg
  rcases hK m meth c ⟨T.setVm vm₁, locs, cells, slots⟩ { g with stack := rest } (.invokevirtual index) mk (Value.ref b :: argsL).toArray X₁ hg hsize hdg hW (X₁.named hnamed) (hpre vm₁ X₁.warmed) with ⟨v, B, X', hpost, hsteps⟩ | ⟨q, B, X', hpost, hsteps⟩
  · exact Or.inl ⟨v, vm₁, B, X₁.warmed, X', hpost, fun target h => hstep₁ _ fun acts => by rw [doInvoke_state]; exact hsteps.trans h⟩
  · exact Or.inr ⟨q, vm₁, B, X₁.warmed, X', hpost, hstep₁ _ fun acts => by rw [doInvoke_state]; exact hsteps⟩
theorem vx_callSX (X : Stand p l e R s m args below meth c T locs cells slots) (hexec : p.tables.exec = Jvm.exec) {own : String} {index : Nat} {y : MethodName} {bytes : ByteArray} {maxL : Nat} {ret : Option FieldType} {hh : List (Nat × Nat × Nat × Nat)}
    (hown : s.vm.findClass own = some m.cls) (hlink : (Cond.methodLink own index y).before args s = true) (hstat : (Cond.static y).before args s = true) (hinit : (Cond.initialized y.cls).before args s = true)
    (hcode : (Cond.codeWith y bytes maxL ret hh).before args s = true) (hy : y.cls ≠ "java/lang/invoke/MethodHandle" ∧ y.cls ≠ "java/lang/invoke/VarHandle")
    {W9 : Nat} {Pre : Pt → Array Value → Prop} {Post : Pt → Array Value → Option Value → Pt → Prop} {PostX : Pt → Array Value → Addr → Pt → Prop} (hK : vx_Back l R p e below s args y 3 W9 Pre Post PostX)
    {g : JFrame} (hg : g.method = m) (hsize : g.locals.size = c.maxLocals) {argsL rest : List Value} (hlen : ∀ sig, parseMethodDescriptor y.desc = some sig → argsL.length = sig.parameters.length)
    (hstack : g.stack = argsL.reverse ++ rest) (hW : 2 * g.monitorRoom + (rest.map fun v => v.category).sum ≤ W9) (hdg : decode c.code g.pc = .ok (.invokestatic index, 3))
    (hpre : ∀ vm₁, s.WarmedH vm₁ → Pre ⟨T.setVm vm₁, locs, cells, slots⟩ argsL.toArray) :
    (∃ (v : Option Value) (vm₁ : Vm) (B : Pt), s.WarmedH vm₁ ∧ Stand p l e R s m args below meth c B.U B.locs B.cells B.slots ∧ Post ⟨T.setVm vm₁, locs, cells, slots⟩ argsL.toArray v B ∧
      ∀ target, Steps p.tables e below (B.U.setTop { g with pc := g.pc + 3, stack := v.toList ++ rest }) target → Steps p.tables e below (T.setTop g) target) ∨
    (∃ (q : Addr) (vm₁ : Vm) (B : Pt), s.WarmedH vm₁ ∧ Stand p l e R s m args below meth c B.U B.locs B.cells B.slots ∧ PostX ⟨T.setVm vm₁, locs, cells, slots⟩ argsL.toArray q B ∧
      Steps p.tables e below (T.setTop g) ((B.U.setTop { g with stack := rest }).pushFrame (.throwing q))) := by
  obtain ⟨mk, methM, cM, hnamed, hmethM, -, -, -, -, -, -, hsigM⟩ := Cond.codeWith_spec hcode
  have hstatic : methM.isStatic = true := Cond.static_spec hnamed hmethM hstat
  obtain ⟨kP, hkP, -⟩ := className_of_methodNamed hnamed
  have hinitP : kP.init = .initialized := Cond.initialized_spec (findClass_of_methodNamed hnamed) hkP hinit
  obtain ⟨vm₁, X₁, hstep₁⟩ := X.invokestatic hexec hown hlink hnamed hmethM hstatic hkP hinitP hy (g := g) hg (argsL := argsL) (rest := rest) (hlen _ hsigM) hstack hdg
  rcases hK m meth c ⟨T.setVm vm₁, locs, cells, slots⟩ { g with stack := rest } (.invokestatic index) mk argsL.toArray X₁ hg hsize hdg hW (X₁.named hnamed) (hpre vm₁ X₁.warmed) with ⟨v, B, X', hpost, hsteps⟩ | ⟨q, B, X', hpost, hsteps⟩
  · exact Or.inl ⟨v, vm₁, B, X₁.warmed, X', hpost, fun target h => hstep₁ _ fun acts => by rw [doInvoke_state]; exact hsteps.trans h⟩
  · exact Or.inr ⟨q, vm₁, B, X₁.warmed, X', hpost, hstep₁ _ fun acts => by rw [doInvoke_state]; exact hsteps⟩
theorem vx_callVW (X : Stand p l e R s m args below meth c T locs cells slots) (hexec : p.tables.exec = Jvm.exec) {own C : String} {index : Nat} {y : MethodName} {bytes : ByteArray} {maxL : Nat} {ret : Option FieldType} {hh : List (Nat × Nat × Nat × Nat)}
    (hown : s.vm.findClass own = some m.cls) (hlink : (Cond.methodLink own index y).before args s = true) (hinst : (Cond.instanceMethod y).before args s = true) (hsel : (Cond.selects C y y).before args s = true)
    (hcode : (Cond.codeWith y bytes maxL ret hh).before args s = true) (hy : y.cls ≠ "java/lang/invoke/MethodHandle" ∧ y.cls ≠ "java/lang/invoke/VarHandle")
    {W9 : Nat} {Pre : Pt → Array Value → Prop} {Post : Pt → Array Value → Option Value → Pt → Prop} (hK : Back l R p e below s args y 3 W9 Pre Post)
    {b : Addr} {cellB : Cell} (hcell : T.heap[b]? = some cellB) (hobj : cellB.vm.isStatics = false) (hcls : s.vm.findClass C = some cellB.cls)
    {g : JFrame} (hg : g.method = m) (hsize : g.locals.size = c.maxLocals) {argsL rest : List Value} (hlen : ∀ sig, parseMethodDescriptor y.desc = some sig → argsL.length = sig.parameters.length)
    (hstack : g.stack = argsL.reverse ++ .ref b :: rest) (hW : 2 * g.monitorRoom + (rest.map fun v => v.category).sum ≤ W9) (hdg : decode c.code g.pc = .ok (.invokevirtual index, 3))
    (hpre : ∀ vm₁, s.WarmedH vm₁ → Pre ⟨T.setVm vm₁, locs, cells, slots⟩ (Value.ref b :: argsL).toArray) :
    ∃ (v : Option Value) (vm₁ : Vm) (B : Pt), s.WarmedH vm₁ ∧ Stand p l e R s m args below meth c B.U B.locs B.cells B.slots ∧ Post ⟨T.setVm vm₁, locs, cells, slots⟩ (Value.ref b :: argsL).toArray v B ∧
      ∀ target, Steps p.tables e below (B.U.setTop { g with pc := g.pc + 3, stack := v.toList ++ rest }) target → Steps p.tables e below (T.setTop g) target := by
  obtain ⟨mk, methM, hnamed, hmethM, hstM, habM⟩ := Cond.instanceMethod_spec hinst
  obtain ⟨m8, methM', cM, hn8, hmethM', -, -, -, -, -, -, hsigM⟩ := Cond.codeWith_spec hcode
  cases Option.some.inj (hn8.symm.trans hnamed)
  cases hmethM.symm.trans hmethM'
  obtain ⟨c2, r2, m2, q1, q2, q3, q4, kP, hkP, hkPi⟩ := Cond.selects_spec hsel
  cases hcls.symm.trans q1
  cases (State.methodFound?_of_named hnamed hy).symm.trans q2
  cases hnamed.symm.trans q3
  have hselP : selectMethod e.platform s.vm cellB.cls mk = .method mk := by rw [Launch.admits_selectMethod X.admits]; exact q4
  obtain ⟨vm₁, X₁, hstep₁⟩ := X.invokevirtual hexec hown hlink hnamed hmethM hstM hkP hkPi hy (a := b) (cell := cellB) hcell
    (fun z h => by rw [h] at hobj; cases hobj) hselP hmethM habM hkP hkPi (g := g) hg (argsL := argsL) (rest := rest) (hlen _ hsigM) hstack hdg
  obtain ⟨v, B, X', hpost, hsteps⟩ := hK m meth c ⟨T.setVm vm₁, locs, cells, slots⟩ { g with stack := rest } (.invokevirtual index) mk (Value.ref b :: argsL).toArray X₁ hg hsize hdg hW (X₁.named hnamed) (hpre vm₁ X₁.warmed)
  exact ⟨v, vm₁, B, X₁.warmed, X', hpost, fun target h => hstep₁ _ fun acts => by rw [doInvoke_state]; exact hsteps.trans h⟩
abbrev vx_CVW (R : Room) (s : State) (args : Array Value) (own C : String) (index : Nat) (y : MethodName) (bytes : ByteArray) (maxL : Nat) (ret : Option FieldType) (hh : List (Nat × Nat × Nat × Nat)) (ws : List Cond) (rm : Room) (mc ms n : Nat) : Prop :=
  (rm.cells = mc ∧ rm.slots = ms ∧ rm.frames + 1 ≤ R.frames ∧ 8 + (maxL + 11) + rm.locals ≤ R.locals ∧ (∀ w ∈ ws, ∀ (a' : Array Value) (U : State), s.WarmedH U.vm → w.before a' U = true) ∧ Cond.codeWith y bytes maxL ret hh ∈ ws) ∧
  (Cond.codeWith y bytes maxL ret hh).before args s = true ∧ (Cond.initialized y.cls).before args s = true ∧ (y.cls ≠ "java/lang/invoke/MethodHandle" ∧ y.cls ≠ "java/lang/invoke/VarHandle") ∧
  (∀ sig, parseMethodDescriptor y.desc = some sig → n = sig.parameters.length) ∧ (Cond.methodLink own index y).before args s = true ∧ (Cond.instanceMethod y).before args s = true ∧ (Cond.selects C y y).before args s = true
theorem vx_cwVW {own C : String} {index maxL mc ms : Nat} {y : MethodName} {bytes : ByteArray} {ret : Option FieldType} {hh : List (Nat × Nat × Nat × Nat)} {Ts ws ws' : List Cond} {rm : Room} (n : Nat) (ht : ∀ w ∈ Ts, w.before args s = true) (hT : GoodIn Ts (wsV own index C y ws)) (hw : ws = Cond.codeWith y bytes maxL ret hh :: ws') (hrc : rm.cells = mc) (hrs : rm.slots = ms)
    (hd : y.cls = C ∧ y.cls ≠ "java/lang/invoke/MethodHandle" ∧ y.cls ≠ "java/lang/invoke/VarHandle" ∧ (parseMethodDescriptor y.desc).map (fun d => d.parameters.length) = some n) (hR : rm.frames + 1 ≤ R.frames ∧ 8 + (maxL + 11) + rm.locals ≤ R.locals) :
    vx_CVW R s args own C index y bytes maxL ret hh ws rm mc ms n := by
  obtain ⟨hC, hd⟩ := hd
  subst hC
  have ok : ∀ w ∈ wsV own index y.cls y ws, w.before args s = true := fun w h => ht w (hT w h).1
  have hG : GoodIn Ts ws := fun w h => hT w (by unfold wsV; exact List.mem_append_right _ h)
  have hc : Cond.codeWith y bytes maxL ret hh ∈ ws := by rw [hw]; exact List.mem_cons_self
  refine ⟨⟨hrc, hrs, hR.1, hR.2, pay_in ht hG, hc⟩, ht _ (hG _ hc).1, ok _ (by simp [wsV]), ⟨hd.1, hd.2.1⟩, fun sig h => ?_, ok _ (by simp [wsV]), ok _ (by simp [wsV]), ok _ (by simp [wsV])⟩
  have h2 := hd.2.2
  rw [h] at h2
  exact (Option.some.inj h2).symm
theorem vx_runVW {y : MethodName} {bytes cc : ByteArray} {maxL nL mc ms n index : Nat} {ret : Option FieldType} {hh : List (Nat × Nat × Nat × Nat)} {ws : List Cond} {rm : Room} {Pc : Array Value → State → Prop} {Qc : Array Value → State → Outcome → State → Prop} {free : Addr → Prop} {Ts : List Cond} {own C : String} {b : Addr} {As rest : List Value} {g : JFrame}
    (S : CallFix p m c cc nL s args Ts own) (hM : Met l y ws rm Pc Qc mc ms free) (cw : vx_CVW R s args own C index y bytes maxL ret hh ws rm mc ms n) (hp : PreV s H C b Pc As)
    (hg : g.method = m) (hn : As.length = n) (hsize : g.locals.size = nL) (hstack : g.stack = As.reverse ++ .ref b :: rest) (hW : 2 * g.monitorRoom + (rest.map fun v => v.category).sum ≤ 8) (hdg : decode cc g.pc = .ok (.invokevirtual index, 3)) (hf : cells + mc ≤ R.cells ∧ slots + ms ≤ R.slots) :
    va_Run p l e R s m args below meth c H locs cells slots mc ms g rest (Qc (Value.ref b :: As).toArray) free := by
  obtain ⟨⟨hrc, hrs, hfr, hlo, hws, hcw⟩, hcode, hini, hy, hlen, hl, hin, hse⟩ := cw
  have hK : Back l R p e below s args y 3 8 (PreOf R mc ms Pc) (PostOf Qc mc ms free) := va_backW (hh := hh) (bytes := bytes) (maxL := maxL) (ret := ret) hM hp.1 hrc hrs hfr hlo hws hcw (fun a' U hW => word_at hW (Or.inl (by first | rfl | simp [Cond.onTables, Cond.keeps, Cond.steady])) hini)
  obtain ⟨hx, hb, hml, ho, -⟩ := S
  obtain ⟨-, ⟨cellB, hcB, hoB, hclB⟩, hPc⟩ := hp
  intro T hT X
  obtain ⟨v, vm₁, ⟨U', l2, c2, s2⟩, hW₁, X', ⟨g', mk, t, L, e1, e2, hq, h1, hL, h2, h3⟩, st⟩ := vx_callVW X hx (C := C) (hh := hh) (bytes := bytes) (maxL := maxL) (ret := ret) ho hl hin hse hcode hy hK (by rw [hT]; exact hcB) hoB hclB hg (hsize.trans hml.symm) (argsL := As) (rest := rest) (fun sig h => hn.trans (hlen sig h)) hstack hW (by rw [hb]; exact hdg)
    (fun vm₁ hW₁ => ⟨hf.1, hf.2, hPc (T.setVm vm₁) hT hW₁⟩)
  dsimp only [Pt.U, Pt.locs, Pt.cells, Pt.slots] at X' e1 e2 h1 h2 h3 st
  subst h1; subst h2; subst h3
  exact ⟨v, (T.setVm vm₁).calling g' mk (Value.ref b :: As).toArray, t, U', L, hT, X', hL, e1, e2, hq, st⟩
section
variable {y : MethodName} {bytes cc : ByteArray} {maxL nL mc ms n index : Nat} {ret : Option FieldType} {ws : List Cond} {rm : Room} {Pc : Array Value → State → Prop} {Qc : Array Value → State → Outcome → State → Prop} {XC : String → State → State → Prop} {free : Addr → Prop} {Ts : List Cond} {own C : String} {b : Addr} {As rest : List Value} {g : JFrame}
theorem vx_runVX {hh : List (Nat × Nat × Nat × Nat)} (S : CallFix p m c cc nL s args Ts own) (hM : vx_Met l y ws rm Pc Qc XC mc ms free) (cw : vx_CVW R s args own C index y bytes maxL ret hh ws rm mc ms n) (hp : PreV s H C b Pc As)
    (hg : g.method = m) (hn : As.length = n) (hsize : g.locals.size = nL) (hstack : g.stack = As.reverse ++ .ref b :: rest) (hW : 2 * g.monitorRoom + (rest.map fun v => v.category).sum ≤ 8) (hdg : decode cc g.pc = .ok (.invokevirtual index, 3)) (hf : cells + mc ≤ R.cells ∧ slots + ms ≤ R.slots) :
    vx_Run p l e R s m args below meth c H locs cells slots mc ms g rest (Qc (Value.ref b :: As).toArray) XC free := by
  obtain ⟨⟨hrc, hrs, hfr, hlo, hws, hcw⟩, hcode, hini, hy, hlen, hl, hin, hse⟩ := cw
  have hK : vx_Back l R p e below s args y 3 8 (PreOf R mc ms Pc) (PostOf Qc mc ms free) (vx_Post XC mc ms free) := vx_backW (hh := hh) (bytes := bytes) (maxL := maxL) (ret := ret) hM hp.1 hrc hrs hfr hlo hws hcw (fun a' U hW => word_at hW (Or.inl (by first | rfl | simp [Cond.onTables, Cond.keeps, Cond.steady])) hini)
  obtain ⟨hx, hb, hml, ho, -⟩ := S
  obtain ⟨-, ⟨cellB, hcB, hoB, hclB⟩, hPc⟩ := hp
  intro T hT X
  rcases vx_callVX X hx (C := C) (hh := hh) (bytes := bytes) (maxL := maxL) (ret := ret) ho hl hin hse hcode hy hK (by rw [hT]; exact hcB) hoB hclB hg (hsize.trans hml.symm) (argsL := As) (rest := rest) (fun sig h => hn.trans (hlen sig h)) hstack hW (by rw [hb]; exact hdg)
    (fun vm₁ hW₁ => ⟨hf.1, hf.2, hPc (T.setVm vm₁) hT hW₁⟩) with ⟨v, vm₁, ⟨U', l2, c2, s2⟩, hW₁, X', ⟨g', mk, t, L, e1, e2, hq, h1, hL, h2, h3⟩, st⟩ | ⟨q, vm₁, ⟨U', l2, c2, s2⟩, hW₁, X', ⟨g', mk, t, L, E, ce, e1, e2, hq, hce, hcv, hcl, h1, hL, h2, h3⟩, st⟩
  · dsimp only [Pt.U, Pt.locs, Pt.cells, Pt.slots] at X' e1 e2 h1 h2 h3 st
    subst h1; subst h2; subst h3
    exact Or.inl ⟨v, (T.setVm vm₁).calling g' mk (Value.ref b :: As).toArray, t, U', L, hT, X', hL, e1, e2, hq, st⟩
  · dsimp only [Pt.U, Pt.locs, Pt.cells, Pt.slots] at X' e1 e2 h1 h2 h3 st hcl
    subst h1; subst h2; subst h3
    exact Or.inr ⟨q, (T.setVm vm₁).calling g' mk (Value.ref b :: As).toArray, t, U', L, E, ce, hT, X', hL, e1, e2, hq, hce, hcv, vx_cls hW₁ hcl, st⟩
theorem vx_runSX {hh : List (Nat × Nat × Nat × Nat)} (S : CallFix p m c cc nL s args Ts own) (hM : vx_Met l y ws rm Pc Qc XC mc ms free) (cw : vx_CSW R s args own index y bytes maxL ret hh ws rm mc ms n) (hp : PreS s H Pc As)
    (hg : g.method = m) (hn : As.length = n) (hsize : g.locals.size = nL) (hstack : g.stack = As.reverse ++ rest) (hW : 2 * g.monitorRoom + (rest.map fun v => v.category).sum ≤ 8) (hdg : decode cc g.pc = .ok (.invokestatic index, 3)) (hf : cells + mc ≤ R.cells ∧ slots + ms ≤ R.slots) :
    vx_Run p l e R s m args below meth c H locs cells slots mc ms g rest (Qc As.toArray) XC free := by
  obtain ⟨⟨hrc, hrs, hfr, hlo, hws, hcw⟩, hcode, hini, hy, hlen, hl, hstt⟩ := cw
  have hK : vx_Back l R p e below s args y 3 8 (PreOf R mc ms Pc) (PostOf Qc mc ms free) (vx_Post XC mc ms free) := vx_backW (hh := hh) (bytes := bytes) (maxL := maxL) (ret := ret) hM hp.1 hrc hrs hfr hlo hws hcw (fun a' U hW => word_at hW (Or.inl (by first | rfl | simp [Cond.onTables, Cond.keeps, Cond.steady])) hini)
  obtain ⟨hx, hb, hml, ho, -⟩ := S
  intro T hT X
  rcases vx_callSX X hx (hh := hh) (bytes := bytes) (maxL := maxL) (ret := ret) ho hl hstt hini hcode hy hK hg (hsize.trans hml.symm) (argsL := As) (rest := rest) (fun sig h => hn.trans (hlen sig h)) hstack hW (by rw [hb]; exact hdg)
    (fun vm₁ hW₁ => ⟨hf.1, hf.2, hp.2 (T.setVm vm₁) hT hW₁⟩) with ⟨v, vm₁, ⟨U', l2, c2, s2⟩, hW₁, X', ⟨g', mk, t, L, e1, e2, hq, h1, hL, h2, h3⟩, st⟩ | ⟨q, vm₁, ⟨U', l2, c2, s2⟩, hW₁, X', ⟨g', mk, t, L, E, ce, e1, e2, hq, hce, hcv, hcl, h1, hL, h2, h3⟩, st⟩
  · dsimp only [Pt.U, Pt.locs, Pt.cells, Pt.slots] at X' e1 e2 h1 h2 h3 st
    subst h1; subst h2; subst h3
    exact Or.inl ⟨v, (T.setVm vm₁).calling g' mk As.toArray, t, U', L, hT, X', hL, e1, e2, hq, st⟩
  · dsimp only [Pt.U, Pt.locs, Pt.cells, Pt.slots] at X' e1 e2 h1 h2 h3 st hcl
    subst h1; subst h2; subst h3
    exact Or.inr ⟨q, (T.setVm vm₁).calling g' mk As.toArray, t, U', L, E, ce, hT, X', hL, e1, e2, hq, hce, hcv, vx_cls hW₁ hcl, st⟩
end
end VXH
theorem vx_ofWH {l : Launch} {y : MethodName} {ws ws' : List Cond} {rm : Room} {Pc : Array Value → State → Prop} {Qc : Array Value → State → Outcome → State → Prop} {XC : String → State → State → Prop} {mc ms : Nat} {free : Addr → Prop} {cc : ByteArray} {maxL : Nat} {ret : Option FieldType} {hh : List (Nat × Nat × Nat × Nat)}
    (hy : plainName y.cls = true) (hw : ws = Cond.codeWith y cc maxL ret hh :: ws')
    (body : ∀ p e s m args below meth c s₁, BodyLoose p l y (headSpec ws rm) cc maxL ret e s m args below meth c s₁ → c.maxLocals = maxL → Pc args s →
      W p l e (headSpec ws rm).room s m args below meth c s.heap [] 0 0 (vx_MQ below Qc XC args s mc ms free) (entryFrame m args maxL)) : vx_Met l y ws rm Pc Qc XC mc ms free := by
  refine MetFree.of_bodyS (code := cc) (maxLocals := maxL) (ret := ret) hy ?_ ?_
  · intro args s m h hn
    obtain ⟨m9, meth, c, hn9, h1, h2, h3, h4, -, h5, h6, -⟩ := Cond.codeWith_spec (atoms_spec (ws := ws) h _ (by rw [hw]; exact List.mem_cons_self))
    cases hn.symm.trans hn9
    exact ⟨meth, c, h1, h2, h3, h4, h5, h6⟩
  · intro p e s m args below meth c s₁ B hml hP _
    have hh0 : s₁.heap = s.heap := by rw [B.state]; rfl
    obtain ⟨t, a1, o, b1, b2, b3⟩ := body p e s m args below meth c s₁ B hml hP s₁ hh0 (Stand.of_body B)
    exact ⟨t, o, a1, b1, b2, b3⟩
/-! ===== END ===== -/
end
section
/-! printed: names, fields, word lists, decode rows (out of claim/NAMES.whole.lean.txt) -/
/-! ===== BEGIN printed: names, fields, word lists, decode rows ===== -/
def RX0 : String := "Turbineorchard$Field"
def TX0 : u_T := fun k => match k with
  | 0 => ("Turbineorchard$Field", "turbineAt", "[I", true)
  | 1 => ("Turbineorchard$Field", "places", "[I", true)
  | 2 => ("Turbineorchard$Field", "broken", "[Z", true)
  | 3 => ("Turbineorchard$Field", "stilled", "[Z", true)
  | 4 => ("Turbineorchard$Field", "madeInAll", "[I", true)
  | 5 => ("Turbineorchard$Field", "count", "I", false)
  | _ => ("Turbineorchard$Field", "brokenCount", "I", false)
def tyX0 : Nat → FieldType := fun k => match k with
  | 0 => .array .int
  | 1 => .array .int
  | 2 => .array .boolean
  | 3 => .array .boolean
  | 4 => .array .int
  | 5 => .int
  | _ => .int
abbrev wsX00 : List Cond := u_ws RX0 TX0 7
theorem nmX0 : ∀ a, a < 7 → ∀ b, b < 7 → a ≠ b → (TX0 a).2.1 ≠ (TX0 b).2.1 := by decide +kernel
theorem tyX0_ok : ∀ k, k < 7 → parseFieldDescriptor (TX0 k).2.2.1 = some (tyX0 k) := by decide +kernel
abbrev cX0_init : ByteArray := prog_2_method_1_code
def yX0_init : MethodName := ⟨RX0, "<init>", "()V"⟩
abbrev cX0_has : ByteArray := prog_2_method_2_code
def yX0_has : MethodName := ⟨RX0, "has", "(I)Z"⟩
abbrev cX0_hasRoomAt : ByteArray := prog_2_method_3_code
def yX0_hasRoomAt : MethodName := ⟨RX0, "hasRoomAt", "(I)Z"⟩
abbrev cX0_build : ByteArray := prog_2_method_4_code
def yX0_build : MethodName := ⟨RX0, "build", "(I)I"⟩
abbrev cX0_placeOf : ByteArray := prog_2_method_5_code
def yX0_placeOf : MethodName := ⟨RX0, "placeOf", "(I)I"⟩
abbrev cX0_isBroken : ByteArray := prog_2_method_6_code
def yX0_isBroken : MethodName := ⟨RX0, "isBroken", "(I)Z"⟩
abbrev cX0_countBroken : ByteArray := prog_2_method_7_code
def yX0_countBroken : MethodName := ⟨RX0, "countBroken", "()I"⟩
abbrev cX0_madeInAllBy : ByteArray := prog_2_method_8_code
def yX0_madeInAllBy : MethodName := ⟨RX0, "madeInAllBy", "(I)I"⟩
abbrev cX0_breakDown : ByteArray := prog_2_method_9_code
def yX0_breakDown : MethodName := ⟨RX0, "breakDown", "(I)V"⟩
abbrev cX0_mend : ByteArray := prog_2_method_10_code
def yX0_mend : MethodName := ⟨RX0, "mend", "(I)V"⟩
abbrev cX0_stillBeside : ByteArray := prog_2_method_11_code
def yX0_stillBeside : MethodName := ⟨RX0, "stillBeside", "(I)V"⟩
abbrev cX0_stillAt : ByteArray := prog_2_method_12_code
def yX0_stillAt : MethodName := ⟨RX0, "stillAt", "(I)V"⟩
abbrev cX0_generate : ByteArray := prog_2_method_13_code
def yX0_generate : MethodName := ⟨RX0, "generate", "(IZ)I"⟩
abbrev cX0_endStillness : ByteArray := prog_2_method_14_code
def yX0_endStillness : MethodName := ⟨RX0, "endStillness", "()V"⟩
abbrev cX0_powerOfAll : ByteArray := prog_2_method_15_code
def yX0_powerOfAll : MethodName := ⟨RX0, "powerOfAll", "(IZ)I"⟩
abbrev cX0_powerOfAllAnew : ByteArray := prog_2_method_16_code
def yX0_powerOfAllAnew : MethodName := ⟨RX0, "powerOfAllAnew", "(IZ)I"⟩
abbrev cX0_turns : ByteArray := prog_2_method_17_code
def yX0_turns : MethodName := ⟨RX0, "turns", "(I)Z"⟩
abbrev cX0_powerOf : ByteArray := prog_2_method_18_code
def yX0_powerOf : MethodName := ⟨RX0, "powerOf", "(IIZ)I"⟩
abbrev cX0_windLeft : ByteArray := prog_2_method_19_code
def yX0_windLeft : MethodName := ⟨RX0, "windLeft", "(IIZ)I"⟩
abbrev cX0_distancesAhead : ByteArray := prog_2_method_20_code
def yX0_distancesAhead : MethodName := ⟨RX0, "distancesAhead", "(IZ)I"⟩
abbrev cX0_windLeftAnew : ByteArray := prog_2_method_21_code
def yX0_windLeftAnew : MethodName := ⟨RX0, "windLeftAnew", "(IIZ)I"⟩
abbrev cX0_lane : ByteArray := prog_2_method_22_code
def yX0_lane : MethodName := ⟨RX0, "lane", "(IZ)I"⟩
abbrev cX0_placesAhead : ByteArray := prog_2_method_23_code
def yX0_placesAhead : MethodName := ⟨RX0, "placesAhead", "(IZ)I"⟩
abbrev cX0_takenByWake : ByteArray := prog_2_method_24_code
def yX0_takenByWake : MethodName := ⟨RX0, "takenByWake", "(II)I"⟩
abbrev cX0_powerOfWind : ByteArray := prog_2_method_25_code
def yX0_powerOfWind : MethodName := ⟨RX0, "powerOfWind", "(I)I"⟩
def RX1 : String := "Turbineorchard$Fleet"
def TX1 : u_T := fun k => match k with
  | 0 => ("Turbineorchard$Fleet", "turbines", "[I", true)
  | 1 => ("Turbineorchard$Fleet", "left", "[I", true)
  | 2 => ("Turbineorchard$Fleet", "crewLimits", "[I", true)
  | 3 => ("Turbineorchard$Fleet", "today", "[I", true)
  | _ => ("Turbineorchard$Fleet", "inAll", "[I", true)
def tyX1 : Nat → FieldType := fun k => match k with
  | 0 => .array .int
  | 1 => .array .int
  | 2 => .array .int
  | 3 => .array .int
  | _ => .array .int
abbrev wsX10 : List Cond := u_ws RX1 TX1 5
theorem nmX1 : ∀ a, a < 5 → ∀ b, b < 5 → a ≠ b → (TX1 a).2.1 ≠ (TX1 b).2.1 := by decide +kernel
theorem tyX1_ok : ∀ k, k < 5 → parseFieldDescriptor (TX1 k).2.2.1 = some (tyX1 k) := by decide +kernel
abbrev cX1_init : ByteArray := prog_3_method_1_code
def yX1_init : MethodName := ⟨RX1, "<init>", "()V"⟩
abbrev cX1_crewHours : ByteArray := prog_3_method_2_code
def yX1_crewHours : MethodName := ⟨RX1, "crewHours", "(I)I"⟩
abbrev cX1_setCrewHours : ByteArray := prog_3_method_3_code
def yX1_setCrewHours : MethodName := ⟨RX1, "setCrewHours", "(II)V"⟩
abbrev cX1_turbineOf : ByteArray := prog_3_method_4_code
def yX1_turbineOf : MethodName := ⟨RX1, "turbineOf", "(I)I"⟩
abbrev cX1_hoursLeft : ByteArray := prog_3_method_5_code
def yX1_hoursLeft : MethodName := ⟨RX1, "hoursLeft", "(I)I"⟩
abbrev cX1_workedToday : ByteArray := prog_3_method_6_code
def yX1_workedToday : MethodName := ⟨RX1, "workedToday", "(I)I"⟩
abbrev cX1_workedInAll : ByteArray := prog_3_method_7_code
def yX1_workedInAll : MethodName := ⟨RX1, "workedInAll", "(I)I"⟩
abbrev cX1_isFree : ByteArray := prog_3_method_8_code
def yX1_isFree : MethodName := ⟨RX1, "isFree", "(I)Z"⟩
abbrev cX1_isAtWorkOn : ByteArray := prog_3_method_9_code
def yX1_isAtWorkOn : MethodName := ⟨RX1, "isAtWorkOn", "(I)Z"⟩
abbrev cX1_send : ByteArray := prog_3_method_10_code
def yX1_send : MethodName := ⟨RX1, "send", "(III)V"⟩
abbrev cX1_canWork : ByteArray := prog_3_method_11_code
def yX1_canWork : MethodName := ⟨RX1, "canWork", "(I)Z"⟩
abbrev cX1_workAnHour : ByteArray := prog_3_method_12_code
def yX1_workAnHour : MethodName := ⟨RX1, "workAnHour", "(I)V"⟩
abbrev cX1_hasEnded : ByteArray := prog_3_method_13_code
def yX1_hasEnded : MethodName := ⟨RX1, "hasEnded", "(I)Z"⟩
abbrev cX1_release : ByteArray := prog_3_method_14_code
def yX1_release : MethodName := ⟨RX1, "release", "(I)V"⟩
abbrev cX1_beginDay : ByteArray := prog_3_method_15_code
def yX1_beginDay : MethodName := ⟨RX1, "beginDay", "()V"⟩
def RX2 : String := "Turbineorchard$Ledger"
def TX2 : u_T := fun k => match k with
  | 0 => ("Turbineorchard$Ledger", "slots", "[I", true)
  | 1 => ("Turbineorchard$Ledger", "prices", "[I", true)
  | 2 => ("Turbineorchard$Ledger", "made", "[I", true)
  | _ => ("Turbineorchard$Ledger", "proceeds", "J", false)
def tyX2 : Nat → FieldType := fun k => match k with
  | 0 => .array .int
  | 1 => .array .int
  | 2 => .array .int
  | _ => .long
abbrev wsX20 : List Cond := u_ws RX2 TX2 4
theorem nmX2 : ∀ a, a < 4 → ∀ b, b < 4 → a ≠ b → (TX2 a).2.1 ≠ (TX2 b).2.1 := by decide +kernel
theorem tyX2_ok : ∀ k, k < 4 → parseFieldDescriptor (TX2 k).2.2.1 = some (tyX2 k) := by decide +kernel
abbrev cX2_init : ByteArray := prog_4_method_1_code
def yX2_init : MethodName := ⟨RX2, "<init>", "()V"⟩
abbrev cX2_slotUnits : ByteArray := prog_4_method_2_code
def yX2_slotUnits : MethodName := ⟨RX2, "slotUnits", "(I)I"⟩
abbrev cX2_setSlot : ByteArray := prog_4_method_3_code
def yX2_setSlot : MethodName := ⟨RX2, "setSlot", "(III)V"⟩
abbrev cX2_endHour : ByteArray := prog_4_method_4_code
def yX2_endHour : MethodName := ⟨RX2, "endHour", "(II)V"⟩
abbrev cX2_madeIn : ByteArray := prog_4_method_5_code
def yX2_madeIn : MethodName := ⟨RX2, "madeIn", "(I)I"⟩
abbrev cX2_soldFor : ByteArray := prog_4_method_6_code
def yX2_soldFor : MethodName := ⟨RX2, "soldFor", "(I)I"⟩
abbrev cX2_imbalanceOf : ByteArray := prog_4_method_7_code
def yX2_imbalanceOf : MethodName := ⟨RX2, "imbalanceOf", "(I)I"⟩
abbrev cX2_proceedsOf : ByteArray := prog_4_method_8_code
def yX2_proceedsOf : MethodName := ⟨RX2, "proceedsOf", "(I)I"⟩
abbrev cX2_proceedsInAll : ByteArray := prog_4_method_9_code
def yX2_proceedsInAll : MethodName := ⟨RX2, "proceedsInAll", "()J"⟩
abbrev cX2_madeToSold : ByteArray := prog_4_method_10_code
def yX2_madeToSold : MethodName := ⟨RX2, "madeToSold", "(I)F"⟩
def RX3 : String := "Turbineorchard$Weather"
def TX3 : u_T := fun k => match k with
  | 0 => ("Turbineorchard$Weather", "speeds", "[I", true)
  | 1 => ("Turbineorchard$Weather", "wests", "[Z", true)
  | _ => ("Turbineorchard$Weather", "toldWaves", "[I", true)
def tyX3 : Nat → FieldType := fun k => match k with
  | 0 => .array .int
  | 1 => .array .boolean
  | _ => .array .int
abbrev wsX30 : List Cond := u_ws RX3 TX3 3
theorem nmX3 : ∀ a, a < 3 → ∀ b, b < 3 → a ≠ b → (TX3 a).2.1 ≠ (TX3 b).2.1 := by decide +kernel
theorem tyX3_ok : ∀ k, k < 3 → parseFieldDescriptor (TX3 k).2.2.1 = some (tyX3 k) := by decide +kernel
abbrev cX3_init : ByteArray := prog_5_method_1_code
def yX3_init : MethodName := ⟨RX3, "<init>", "()V"⟩
abbrev cX3_tellWind : ByteArray := prog_5_method_2_code
def yX3_tellWind : MethodName := ⟨RX3, "tellWind", "(IIIZ)V"⟩
abbrev cX3_tellWaves : ByteArray := prog_5_method_3_code
def yX3_tellWaves : MethodName := ⟨RX3, "tellWaves", "(II)V"⟩
abbrev cX3_speedIn : ByteArray := prog_5_method_4_code
def yX3_speedIn : MethodName := ⟨RX3, "speedIn", "(I)I"⟩
abbrev cX3_isWestIn : ByteArray := prog_5_method_5_code
def yX3_isWestIn : MethodName := ⟨RX3, "isWestIn", "(I)Z"⟩
abbrev cX3_wavesIn : ByteArray := prog_5_method_6_code
def yX3_wavesIn : MethodName := ⟨RX3, "wavesIn", "(I)I"⟩
def RX4 : String := "Turbineorchard"
def TX4 : u_T := fun k => match k with
  | 0 => ("Turbineorchard", "weather", "LTurbineorchard$Weather;", true)
  | 1 => ("Turbineorchard", "field", "LTurbineorchard$Field;", true)
  | 2 => ("Turbineorchard", "fleet", "LTurbineorchard$Fleet;", true)
  | 3 => ("Turbineorchard", "ledger", "LTurbineorchard$Ledger;", true)
  | _ => ("Turbineorchard", "now", "I", false)
def tyX4 : Nat → FieldType := fun k => match k with
  | 0 => .object "Turbineorchard$Weather"
  | 1 => .object "Turbineorchard$Field"
  | 2 => .object "Turbineorchard$Fleet"
  | 3 => .object "Turbineorchard$Ledger"
  | _ => .int
abbrev wsX40 : List Cond := u_ws RX4 TX4 5
theorem nmX4 : ∀ a, a < 5 → ∀ b, b < 5 → a ≠ b → (TX4 a).2.1 ≠ (TX4 b).2.1 := by decide +kernel
theorem tyX4_ok : ∀ k, k < 5 → parseFieldDescriptor (TX4 k).2.2.1 = some (tyX4 k) := by decide +kernel
abbrev cX4_init : ByteArray := prog_1_method_1_code
def yX4_init : MethodName := ⟨RX4, "<init>", "()V"⟩
abbrev cX4_turbine : ByteArray := prog_1_method_2_code
def yX4_turbine : MethodName := ⟨RX4, "turbine", "(I)I"⟩
abbrev cX4_wind : ByteArray := prog_1_method_3_code
def yX4_wind : MethodName := ⟨RX4, "wind", "(IIIZ)I"⟩
abbrev cX4_waves : ByteArray := prog_1_method_4_code
def yX4_waves : MethodName := ⟨RX4, "waves", "(II)I"⟩
abbrev cX4_breaks : ByteArray := prog_1_method_5_code
def yX4_breaks : MethodName := ⟨RX4, "breaks", "(I)I"⟩
abbrev cX4_crew : ByteArray := prog_1_method_6_code
def yX4_crew : MethodName := ⟨RX4, "crew", "(II)I"⟩
abbrev cX4_repair : ByteArray := prog_1_method_7_code
def yX4_repair : MethodName := ⟨RX4, "repair", "(III)V"⟩
abbrev cX4_sell : ByteArray := prog_1_method_8_code
def yX4_sell : MethodName := ⟨RX4, "sell", "(III)I"⟩
abbrev cX4_pass : ByteArray := prog_1_method_9_code
def yX4_pass : MethodName := ⟨RX4, "pass", "(I)I"⟩
abbrev cX4_windAt : ByteArray := prog_1_method_10_code
def yX4_windAt : MethodName := ⟨RX4, "windAt", "(I)I"⟩
abbrev cX4_foretold : ByteArray := prog_1_method_11_code
def yX4_foretold : MethodName := ⟨RX4, "foretold", "(I)I"⟩
abbrev cX4_foretoldAnew : ByteArray := prog_1_method_12_code
def yX4_foretoldAnew : MethodName := ⟨RX4, "foretoldAnew", "(I)I"⟩
abbrev cX4_ofHour : ByteArray := prog_1_method_13_code
def yX4_ofHour : MethodName := ⟨RX4, "ofHour", "(II)I"⟩
abbrev cX4_ratio : ByteArray := prog_1_method_14_code
def yX4_ratio : MethodName := ⟨RX4, "ratio", "(I)F"⟩
abbrev cX4_ofBoat : ByteArray := prog_1_method_15_code
def yX4_ofBoat : MethodName := ⟨RX4, "ofBoat", "(II)I"⟩
abbrev cX4_ofTurbine : ByteArray := prog_1_method_16_code
def yX4_ofTurbine : MethodName := ⟨RX4, "ofTurbine", "(II)I"⟩
abbrev cX4_brought : ByteArray := prog_1_method_17_code
def yX4_brought : MethodName := ⟨RX4, "brought", "()J"⟩
abbrev cX4_isWithin : ByteArray := prog_1_method_18_code
def yX4_isWithin : MethodName := ⟨RX4, "isWithin", "(III)Z"⟩
abbrev cX4_isBoat : ByteArray := prog_1_method_19_code
def yX4_isBoat : MethodName := ⟨RX4, "isBoat", "(I)Z"⟩
abbrev cX4_isToCome : ByteArray := prog_1_method_20_code
def yX4_isToCome : MethodName := ⟨RX4, "isToCome", "(I)Z"⟩
abbrev cX4_isOver : ByteArray := prog_1_method_21_code
def yX4_isOver : MethodName := ⟨RX4, "isOver", "(I)Z"⟩
abbrev cX4_liveHour : ByteArray := prog_1_method_22_code
def yX4_liveHour : MethodName := ⟨RX4, "liveHour", "()V"⟩
abbrev cX4_workOnRepairs : ByteArray := prog_1_method_23_code
def yX4_workOnRepairs : MethodName := ⟨RX4, "workOnRepairs", "()V"⟩
abbrev cX4_endRepairs : ByteArray := prog_1_method_24_code
def yX4_endRepairs : MethodName := ⟨RX4, "endRepairs", "()V"⟩
def RX5 : String := "TurbineorchardModel"
def TX5 : u_T := fun k => match k with
  | 0 => ("TurbineorchardModel", "place", "[I", true)
  | 1 => ("TurbineorchardModel", "broken", "[I", true)
  | 2 => ("TurbineorchardModel", "made", "[I", true)
  | 3 => ("TurbineorchardModel", "turns", "[I", true)
  | 4 => ("TurbineorchardModel", "turbines", "I", false)
  | 5 => ("TurbineorchardModel", "speed", "[I", true)
  | 6 => ("TurbineorchardModel", "west", "[I", true)
  | 7 => ("TurbineorchardModel", "told", "[I", true)
  | 8 => ("TurbineorchardModel", "sold", "[I", true)
  | 9 => ("TurbineorchardModel", "price", "[I", true)
  | 10 => ("TurbineorchardModel", "all", "[I", true)
  | 11 => ("TurbineorchardModel", "money", "[I", true)
  | 12 => ("TurbineorchardModel", "now", "I", false)
  | 13 => ("TurbineorchardModel", "crew", "[I", true)
  | 14 => ("TurbineorchardModel", "at", "[I", true)
  | 15 => ("TurbineorchardModel", "left", "[I", true)
  | 16 => ("TurbineorchardModel", "today", "[I", true)
  | 17 => ("TurbineorchardModel", "worked", "[I", true)
  | _ => ("TurbineorchardModel", "thrown", "I", false)
def tyX5 : Nat → FieldType := fun k => match k with
  | 0 => .array .int
  | 1 => .array .int
  | 2 => .array .int
  | 3 => .array .int
  | 4 => .int
  | 5 => .array .int
  | 6 => .array .int
  | 7 => .array .int
  | 8 => .array .int
  | 9 => .array .int
  | 10 => .array .int
  | 11 => .array .int
  | 12 => .int
  | 13 => .array .int
  | 14 => .array .int
  | 15 => .array .int
  | 16 => .array .int
  | 17 => .array .int
  | _ => .int
abbrev wsX50 : List Cond := u_ws RX5 TX5 19
theorem nmX5 : ∀ a, a < 19 → ∀ b, b < 19 → a ≠ b → (TX5 a).2.1 ≠ (TX5 b).2.1 := by decide +kernel
theorem tyX5_ok : ∀ k, k < 19 → parseFieldDescriptor (TX5 k).2.2.1 = some (tyX5 k) := by decide +kernel
abbrev cX5_init : ByteArray := prog_7_method_1_code
def yX5_init : MethodName := ⟨RX5, "<init>", "()V"⟩
abbrev cX5_thrown : ByteArray := prog_7_method_2_code
def yX5_thrown : MethodName := ⟨RX5, "thrown", "()I"⟩
abbrev cX5_fails : ByteArray := prog_7_method_3_code
def yX5_fails : MethodName := ⟨RX5, "fails", "(I)Z"⟩
abbrev cX5_in : ByteArray := prog_7_method_4_code
def yX5_in : MethodName := ⟨RX5, "in", "(III)Z"⟩
abbrev cX5_isTurbine : ByteArray := prog_7_method_5_code
def yX5_isTurbine : MethodName := ⟨RX5, "isTurbine", "(I)Z"⟩
abbrev cX5_turbine : ByteArray := prog_7_method_6_code
def yX5_turbine : MethodName := ⟨RX5, "turbine", "(I)I"⟩
abbrev cX5_wind : ByteArray := prog_7_method_7_code
def yX5_wind : MethodName := ⟨RX5, "wind", "(IIIZ)I"⟩
abbrev cX5_wavesOf : ByteArray := prog_7_method_8_code
def yX5_wavesOf : MethodName := ⟨RX5, "wavesOf", "(I)I"⟩
abbrev cX5_waves : ByteArray := prog_7_method_9_code
def yX5_waves : MethodName := ⟨RX5, "waves", "(II)I"⟩
abbrev cX5_breaks : ByteArray := prog_7_method_10_code
def yX5_breaks : MethodName := ⟨RX5, "breaks", "(I)I"⟩
abbrev cX5_crew : ByteArray := prog_7_method_11_code
def yX5_crew : MethodName := ⟨RX5, "crew", "(II)I"⟩
abbrev cX5_repair : ByteArray := prog_7_method_12_code
def yX5_repair : MethodName := ⟨RX5, "repair", "(III)V"⟩
abbrev cX5_sell : ByteArray := prog_7_method_13_code
def yX5_sell : MethodName := ⟨RX5, "sell", "(III)I"⟩
abbrev cX5_ahead : ByteArray := prog_7_method_14_code
def yX5_ahead : MethodName := ⟨RX5, "ahead", "(III)I"⟩
abbrev cX5_windOf : ByteArray := prog_7_method_15_code
def yX5_windOf : MethodName := ⟨RX5, "windOf", "(II)I"⟩
abbrev cX5_power : ByteArray := prog_7_method_16_code
def yX5_power : MethodName := ⟨RX5, "power", "(II)I"⟩
abbrev cX5_allTurn : ByteArray := prog_7_method_17_code
def yX5_allTurn : MethodName := ⟨RX5, "allTurn", "()V"⟩
abbrev cX5_areBeside : ByteArray := prog_7_method_18_code
def yX5_areBeside : MethodName := ⟨RX5, "areBeside", "(II)Z"⟩
abbrev cX5_repairs : ByteArray := prog_7_method_19_code
def yX5_repairs : MethodName := ⟨RX5, "repairs", "(I)V"⟩
abbrev cX5_frees : ByteArray := prog_7_method_20_code
def yX5_frees : MethodName := ⟨RX5, "frees", "()V"⟩
abbrev cX5_accounts : ByteArray := prog_7_method_21_code
def yX5_accounts : MethodName := ⟨RX5, "accounts", "(I)V"⟩
abbrev cX5_pass : ByteArray := prog_7_method_22_code
def yX5_pass : MethodName := ⟨RX5, "pass", "(I)I"⟩
abbrev cX5_windAt : ByteArray := prog_7_method_23_code
def yX5_windAt : MethodName := ⟨RX5, "windAt", "(I)I"⟩
abbrev cX5_sum : ByteArray := prog_7_method_24_code
def yX5_sum : MethodName := ⟨RX5, "sum", "(I)I"⟩
abbrev cX5_foretold : ByteArray := prog_7_method_25_code
def yX5_foretold : MethodName := ⟨RX5, "foretold", "(I)I"⟩
abbrev cX5_foretoldAnew : ByteArray := prog_7_method_26_code
def yX5_foretoldAnew : MethodName := ⟨RX5, "foretoldAnew", "(I)I"⟩
abbrev cX5_ofHour : ByteArray := prog_7_method_27_code
def yX5_ofHour : MethodName := ⟨RX5, "ofHour", "(II)I"⟩
abbrev cX5_ratio : ByteArray := prog_7_method_28_code
def yX5_ratio : MethodName := ⟨RX5, "ratio", "(I)F"⟩
abbrev cX5_ofBoat : ByteArray := prog_7_method_29_code
def yX5_ofBoat : MethodName := ⟨RX5, "ofBoat", "(II)I"⟩
abbrev cX5_ofTurbine : ByteArray := prog_7_method_30_code
def yX5_ofTurbine : MethodName := ⟨RX5, "ofTurbine", "(II)I"⟩
abbrev cX5_brought : ByteArray := prog_7_method_31_code
def yX5_brought : MethodName := ⟨RX5, "brought", "()J"⟩
def RJ9 : String := "java/lang/Math"
def TJ9 : u_T := fun k => match k with
  | _ => ("", "", "", false)
def tyJ9 : Nat → FieldType := fun k => match k with
  | _ => .int
abbrev wsJ90 : List Cond := u_ws RJ9 TJ9 0
theorem nmJ9 : ∀ a, a < 0 → ∀ b, b < 0 → a ≠ b → (TJ9 a).2.1 ≠ (TJ9 b).2.1 := by decide +kernel
theorem tyJ9_ok : ∀ k, k < 0 → parseFieldDescriptor (TJ9 k).2.2.1 = some (tyJ9 k) := by decide +kernel
abbrev cJ9_min_7cf53 : ByteArray := prog_12_method_69_code
def yJ9_min_7cf53 : MethodName := ⟨RJ9, "min", "(II)I"⟩
def RJ0 : String := "java/lang/String"
def TJ0 : u_T := fun k => match k with
  | _ => ("", "", "", false)
def tyJ0 : Nat → FieldType := fun k => match k with
  | _ => .int
abbrev wsJ00 : List Cond := u_ws RJ0 TJ0 0
theorem nmJ0 : ∀ a, a < 0 → ∀ b, b < 0 → a ≠ b → (TJ0 a).2.1 ≠ (TJ0 b).2.1 := by decide +kernel
theorem tyJ0_ok : ∀ k, k < 0 → parseFieldDescriptor (TJ0 k).2.2.1 = some (tyJ0 k) := by decide +kernel
def RL : String := "TurbineorchardLaw"
abbrev cL_turbine : ByteArray := method_3_code
def yL_turbine : MethodName := ⟨RL, "turbine", "(LTurbineorchard;I[J)I"⟩
abbrev cL_wind : ByteArray := method_4_code
def yL_wind : MethodName := ⟨RL, "wind", "(LTurbineorchard;IIIZ[J)I"⟩
abbrev cL_waves : ByteArray := method_5_code
def yL_waves : MethodName := ⟨RL, "waves", "(LTurbineorchard;II[J)I"⟩
abbrev cL_breaks : ByteArray := method_6_code
def yL_breaks : MethodName := ⟨RL, "breaks", "(LTurbineorchard;I[J)I"⟩
abbrev cL_crew : ByteArray := method_7_code
def yL_crew : MethodName := ⟨RL, "crew", "(LTurbineorchard;II[J)I"⟩
abbrev cL_repair : ByteArray := method_8_code
def yL_repair : MethodName := ⟨RL, "repair", "(LTurbineorchard;III)I"⟩
abbrev cL_sell : ByteArray := method_9_code
def yL_sell : MethodName := ⟨RL, "sell", "(LTurbineorchard;III[J)I"⟩
abbrev cL_pass : ByteArray := method_10_code
def yL_pass : MethodName := ⟨RL, "pass", "(LTurbineorchard;I[J)I"⟩
abbrev cL_windAt : ByteArray := method_11_code
def yL_windAt : MethodName := ⟨RL, "windAt", "(LTurbineorchard;I[J)I"⟩
abbrev cL_foretold : ByteArray := method_12_code
def yL_foretold : MethodName := ⟨RL, "foretold", "(LTurbineorchard;I[J)I"⟩
abbrev cL_foretoldAnew : ByteArray := method_13_code
def yL_foretoldAnew : MethodName := ⟨RL, "foretoldAnew", "(LTurbineorchard;I[J)I"⟩
abbrev cL_ofHour : ByteArray := method_14_code
def yL_ofHour : MethodName := ⟨RL, "ofHour", "(LTurbineorchard;II[J)I"⟩
abbrev cL_ratio : ByteArray := method_15_code
def yL_ratio : MethodName := ⟨RL, "ratio", "(LTurbineorchard;I[D)I"⟩
abbrev cL_ofBoat : ByteArray := method_16_code
def yL_ofBoat : MethodName := ⟨RL, "ofBoat", "(LTurbineorchard;II[J)I"⟩
abbrev cL_ofTurbine : ByteArray := method_17_code
def yL_ofTurbine : MethodName := ⟨RL, "ofTurbine", "(LTurbineorchard;II[J)I"⟩
abbrev cL_law : ByteArray := code
def yL_law : MethodName := ⟨RL, "law", "([I)Z"⟩
def wsX0_init : List Cond := .code yX0_init cX0_init 2 none :: ([.methodLink RX0 3 objectInit, .instanceMethod objectInit, .code objectInit ⟨#[0xb1]⟩ 1 none, .arrayClass .int, .fieldLink RX0 9 "Turbineorchard$Field" "turbineAt" "[I", .fieldLink RX0 15 "Turbineorchard$Field" "places" "[I", .arrayClass .boolean, .fieldLink RX0 18 "Turbineorchard$Field" "broken" "[Z", .fieldLink RX0 22 "Turbineorchard$Field" "stilled" "[Z", .fieldLink RX0 25 "Turbineorchard$Field" "madeInAll" "[I"] ++ wsX00)
def wsX4_isWithin : List Cond := .code yX4_isWithin cX4_isWithin 3 (some .boolean) :: ([])
def wsX0_has : List Cond := .code yX0_has cX0_has 2 (some .boolean) :: ([.fieldLink RX0 28 "Turbineorchard$Field" "count" "I", .static yX4_isWithin, .initialized RX4, .code yX4_isWithin cX4_isWithin 3 (some .boolean)] ++ wsX00)
def wsX0_hasRoomAt : List Cond := .code yX0_hasRoomAt cX0_hasRoomAt 2 (some .boolean) :: ([.fieldLink RX0 9 "Turbineorchard$Field" "turbineAt" "[I", .fieldLink RX0 28 "Turbineorchard$Field" "count" "I"] ++ wsX00)
def wsX0_build : List Cond := .code yX0_build cX0_build 3 (some .int) :: ([.fieldLink RX0 28 "Turbineorchard$Field" "count" "I", .fieldLink RX0 9 "Turbineorchard$Field" "turbineAt" "[I", .fieldLink RX0 15 "Turbineorchard$Field" "places" "[I"] ++ wsX00)
def wsX0_placeOf : List Cond := .code yX0_placeOf cX0_placeOf 2 (some .int) :: ([.fieldLink RX0 15 "Turbineorchard$Field" "places" "[I"] ++ wsX00)
def wsX0_isBroken : List Cond := .code yX0_isBroken cX0_isBroken 2 (some .boolean) :: ([.fieldLink RX0 18 "Turbineorchard$Field" "broken" "[Z"] ++ wsX00)
def wsX0_countBroken : List Cond := .code yX0_countBroken cX0_countBroken 1 (some .int) :: ([.fieldLink RX0 36 "Turbineorchard$Field" "brokenCount" "I"] ++ wsX00)
def wsX0_madeInAllBy : List Cond := .code yX0_madeInAllBy cX0_madeInAllBy 2 (some .int) :: ([.fieldLink RX0 25 "Turbineorchard$Field" "madeInAll" "[I"] ++ wsX00)
def wsX0_breakDown : List Cond := .code yX0_breakDown cX0_breakDown 2 none :: ([.fieldLink RX0 18 "Turbineorchard$Field" "broken" "[Z", .fieldLink RX0 36 "Turbineorchard$Field" "brokenCount" "I"] ++ wsX00)
def wsX0_mend : List Cond := .code yX0_mend cX0_mend 2 none :: ([.fieldLink RX0 18 "Turbineorchard$Field" "broken" "[Z", .fieldLink RX0 36 "Turbineorchard$Field" "brokenCount" "I"] ++ wsX00)
def wsX0_stillAt : List Cond := .code yX0_stillAt cX0_stillAt 3 none :: ([.fieldLink RX0 9 "Turbineorchard$Field" "turbineAt" "[I", .fieldLink RX0 22 "Turbineorchard$Field" "stilled" "[Z", .methodLink RX0 43 yX0_has, .instanceMethod yX0_has, .selects RX0 yX0_has yX0_has, .initialized RX0, .code yX0_has cX0_has 2 (some .boolean), .fieldLink RX0 28 "Turbineorchard$Field" "count" "I", .static yX4_isWithin, .initialized RX4, .code yX4_isWithin cX4_isWithin 3 (some .boolean)] ++ wsX00)
def wsX0_stillBeside : List Cond := .code yX0_stillBeside cX0_stillBeside 4 none :: ([.fieldLink RX0 15 "Turbineorchard$Field" "places" "[I", .methodLink RX0 39 yX0_stillAt, .instanceMethod yX0_stillAt, .selects RX0 yX0_stillAt yX0_stillAt, .initialized RX0, .code yX0_stillAt cX0_stillAt 3 none, .fieldLink RX0 9 "Turbineorchard$Field" "turbineAt" "[I", .fieldLink RX0 22 "Turbineorchard$Field" "stilled" "[Z", .methodLink RX0 43 yX0_has, .instanceMethod yX0_has, .selects RX0 yX0_has yX0_has, .code yX0_has cX0_has 2 (some .boolean), .fieldLink RX0 28 "Turbineorchard$Field" "count" "I", .static yX4_isWithin, .initialized RX4, .code yX4_isWithin cX4_isWithin 3 (some .boolean)] ++ wsX00)
def wsX0_turns : List Cond := .code yX0_turns cX0_turns 2 (some .boolean) :: ([.fieldLink RX0 18 "Turbineorchard$Field" "broken" "[Z", .fieldLink RX0 22 "Turbineorchard$Field" "stilled" "[Z"] ++ wsX00)
def wsX0_placesAhead : List Cond := .code yX0_placesAhead cX0_placesAhead 2 (some .int) :: ([])
def wsX0_lane : List Cond := .code yX0_lane cX0_lane 2 (some .int) :: ([])
def wsX0_distancesAhead : List Cond := .code yX0_distancesAhead cX0_distancesAhead 6 (some .int) :: ([.fieldLink RX0 28 "Turbineorchard$Field" "count" "I", .fieldLink RX0 15 "Turbineorchard$Field" "places" "[I", .methodLink RX0 72 yX0_placesAhead, .static yX0_placesAhead, .initialized RX0, .code yX0_placesAhead cX0_placesAhead 2 (some .int), .methodLink RX0 75 yX0_lane, .static yX0_lane, .code yX0_lane cX0_lane 2 (some .int), .methodLink RX0 51 yX0_turns, .instanceMethod yX0_turns, .selects RX0 yX0_turns yX0_turns, .code yX0_turns cX0_turns 2 (some .boolean), .fieldLink RX0 18 "Turbineorchard$Field" "broken" "[Z", .fieldLink RX0 22 "Turbineorchard$Field" "stilled" "[Z"] ++ wsX00)
def wsX0_takenByWake : List Cond := .code yX0_takenByWake cX0_takenByWake 3 (some .int) :: ([])
def wsX0_windLeft : List Cond := .code yX0_windLeft cX0_windLeft 7 (some .int) :: ([.fieldLink RX0 15 "Turbineorchard$Field" "places" "[I", .methodLink RX0 64 yX0_distancesAhead, .instanceMethod yX0_distancesAhead, .selects RX0 yX0_distancesAhead yX0_distancesAhead, .initialized RX0, .code yX0_distancesAhead cX0_distancesAhead 6 (some .int), .fieldLink RX0 28 "Turbineorchard$Field" "count" "I", .methodLink RX0 72 yX0_placesAhead, .static yX0_placesAhead, .code yX0_placesAhead cX0_placesAhead 2 (some .int), .methodLink RX0 75 yX0_lane, .static yX0_lane, .code yX0_lane cX0_lane 2 (some .int), .methodLink RX0 51 yX0_turns, .instanceMethod yX0_turns, .selects RX0 yX0_turns yX0_turns, .code yX0_turns cX0_turns 2 (some .boolean), .fieldLink RX0 18 "Turbineorchard$Field" "broken" "[Z", .fieldLink RX0 22 "Turbineorchard$Field" "stilled" "[Z", .methodLink RX0 68 yX0_takenByWake, .static yX0_takenByWake, .code yX0_takenByWake cX0_takenByWake 3 (some .int)] ++ wsX00)
def wsX0_powerOfWind : List Cond := .code yX0_powerOfWind cX0_powerOfWind 1 (some .int) :: ([.methodLink RX0 78 Lib.Math.min.name, .static Lib.Math.min.name, .initialized "java/lang/Math", .code Lib.Math.min.name Lib.Math.min.code 2 (some .int), .static yX4_isWithin, .initialized RX4, .code yX4_isWithin cX4_isWithin 3 (some .boolean)])
def wsX0_powerOf_r1 : List Cond := [Cond.methodLink RX0 51 yX0_turns, Cond.instanceMethod yX0_turns, Cond.selects RX0 yX0_turns yX0_turns, Cond.initialized RX0, Cond.code yX0_turns cX0_turns 2 (some .boolean), Cond.fieldLink RX0 18 "Turbineorchard$Field" "broken" "[Z", Cond.fieldLink RX0 22 "Turbineorchard$Field" "stilled" "[Z", Cond.methodLink RX0 61 yX0_windLeft, Cond.instanceMethod yX0_windLeft, Cond.selects RX0 yX0_windLeft yX0_windLeft, Cond.code yX0_windLeft cX0_windLeft 7 (some .int), Cond.fieldLink RX0 15 "Turbineorchard$Field" "places" "[I", Cond.methodLink RX0 64 yX0_distancesAhead, Cond.instanceMethod yX0_distancesAhead, Cond.selects RX0 yX0_distancesAhead yX0_distancesAhead, Cond.code yX0_distancesAhead cX0_distancesAhead 6 (some .int), Cond.fieldLink RX0 28 "Turbineorchard$Field" "count" "I", Cond.methodLink RX0 72 yX0_placesAhead, Cond.static yX0_placesAhead, Cond.code yX0_placesAhead cX0_placesAhead 2 (some .int), Cond.methodLink RX0 75 yX0_lane, Cond.static yX0_lane, Cond.code yX0_lane cX0_lane 2 (some .int), Cond.methodLink RX0 68 yX0_takenByWake]
def wsX0_powerOf_r2 : List Cond := [Cond.static yX0_takenByWake, Cond.code yX0_takenByWake cX0_takenByWake 3 (some .int), Cond.methodLink RX0 57 yX0_powerOfWind, Cond.static yX0_powerOfWind, Cond.code yX0_powerOfWind cX0_powerOfWind 1 (some .int), Cond.methodLink RX0 78 Lib.Math.min.name, Cond.static Lib.Math.min.name, Cond.initialized "java/lang/Math", Cond.code Lib.Math.min.name Lib.Math.min.code 2 (some .int), Cond.static yX4_isWithin, Cond.initialized RX4, Cond.code yX4_isWithin cX4_isWithin 3 (some .boolean)]
def wsX0_powerOf : List Cond := .code yX0_powerOf cX0_powerOf 4 (some .int) :: ((wsX0_powerOf_r1 ++ wsX0_powerOf_r2) ++ wsX00)
def wsX0_generate_r1 : List Cond := [Cond.fieldLink RX0 28 "Turbineorchard$Field" "count" "I", Cond.fieldLink RX0 25 "Turbineorchard$Field" "madeInAll" "[I", Cond.methodLink RX0 47 yX0_powerOf, Cond.instanceMethod yX0_powerOf, Cond.selects RX0 yX0_powerOf yX0_powerOf, Cond.initialized RX0, Cond.code yX0_powerOf cX0_powerOf 4 (some .int), Cond.methodLink RX0 51 yX0_turns, Cond.instanceMethod yX0_turns, Cond.selects RX0 yX0_turns yX0_turns, Cond.code yX0_turns cX0_turns 2 (some .boolean), Cond.fieldLink RX0 18 "Turbineorchard$Field" "broken" "[Z", Cond.fieldLink RX0 22 "Turbineorchard$Field" "stilled" "[Z", Cond.methodLink RX0 61 yX0_windLeft, Cond.instanceMethod yX0_windLeft, Cond.selects RX0 yX0_windLeft yX0_windLeft, Cond.code yX0_windLeft cX0_windLeft 7 (some .int), Cond.fieldLink RX0 15 "Turbineorchard$Field" "places" "[I", Cond.methodLink RX0 64 yX0_distancesAhead, Cond.instanceMethod yX0_distancesAhead, Cond.selects RX0 yX0_distancesAhead yX0_distancesAhead, Cond.code yX0_distancesAhead cX0_distancesAhead 6 (some .int), Cond.methodLink RX0 72 yX0_placesAhead, Cond.static yX0_placesAhead]
def wsX0_generate_r2 : List Cond := [Cond.code yX0_placesAhead cX0_placesAhead 2 (some .int), Cond.methodLink RX0 75 yX0_lane, Cond.static yX0_lane, Cond.code yX0_lane cX0_lane 2 (some .int), Cond.methodLink RX0 68 yX0_takenByWake, Cond.static yX0_takenByWake, Cond.code yX0_takenByWake cX0_takenByWake 3 (some .int), Cond.methodLink RX0 57 yX0_powerOfWind, Cond.static yX0_powerOfWind, Cond.code yX0_powerOfWind cX0_powerOfWind 1 (some .int), Cond.methodLink RX0 78 Lib.Math.min.name, Cond.static Lib.Math.min.name, Cond.initialized "java/lang/Math", Cond.code Lib.Math.min.name Lib.Math.min.code 2 (some .int), Cond.static yX4_isWithin, Cond.initialized RX4, Cond.code yX4_isWithin cX4_isWithin 3 (some .boolean)]
def wsX0_generate : List Cond := .code yX0_generate cX0_generate 6 (some .int) :: ((wsX0_generate_r1 ++ wsX0_generate_r2) ++ wsX00)
def wsX0_endStillness : List Cond := .code yX0_endStillness cX0_endStillness 2 none :: ([.fieldLink RX0 28 "Turbineorchard$Field" "count" "I", .fieldLink RX0 22 "Turbineorchard$Field" "stilled" "[Z"] ++ wsX00)
def wsX0_powerOfAll_r1 : List Cond := [Cond.fieldLink RX0 28 "Turbineorchard$Field" "count" "I", Cond.methodLink RX0 47 yX0_powerOf, Cond.instanceMethod yX0_powerOf, Cond.selects RX0 yX0_powerOf yX0_powerOf, Cond.initialized RX0, Cond.code yX0_powerOf cX0_powerOf 4 (some .int), Cond.methodLink RX0 51 yX0_turns, Cond.instanceMethod yX0_turns, Cond.selects RX0 yX0_turns yX0_turns, Cond.code yX0_turns cX0_turns 2 (some .boolean), Cond.fieldLink RX0 18 "Turbineorchard$Field" "broken" "[Z", Cond.fieldLink RX0 22 "Turbineorchard$Field" "stilled" "[Z", Cond.methodLink RX0 61 yX0_windLeft, Cond.instanceMethod yX0_windLeft, Cond.selects RX0 yX0_windLeft yX0_windLeft, Cond.code yX0_windLeft cX0_windLeft 7 (some .int), Cond.fieldLink RX0 15 "Turbineorchard$Field" "places" "[I", Cond.methodLink RX0 64 yX0_distancesAhead, Cond.instanceMethod yX0_distancesAhead, Cond.selects RX0 yX0_distancesAhead yX0_distancesAhead, Cond.code yX0_distancesAhead cX0_distancesAhead 6 (some .int), Cond.methodLink RX0 72 yX0_placesAhead, Cond.static yX0_placesAhead, Cond.code yX0_placesAhead cX0_placesAhead 2 (some .int)]
def wsX0_powerOfAll_r2 : List Cond := [Cond.methodLink RX0 75 yX0_lane, Cond.static yX0_lane, Cond.code yX0_lane cX0_lane 2 (some .int), Cond.methodLink RX0 68 yX0_takenByWake, Cond.static yX0_takenByWake, Cond.code yX0_takenByWake cX0_takenByWake 3 (some .int), Cond.methodLink RX0 57 yX0_powerOfWind, Cond.static yX0_powerOfWind, Cond.code yX0_powerOfWind cX0_powerOfWind 1 (some .int), Cond.methodLink RX0 78 Lib.Math.min.name, Cond.static Lib.Math.min.name, Cond.initialized "java/lang/Math", Cond.code Lib.Math.min.name Lib.Math.min.code 2 (some .int), Cond.static yX4_isWithin, Cond.initialized RX4, Cond.code yX4_isWithin cX4_isWithin 3 (some .boolean)]
def wsX0_powerOfAll : List Cond := .code yX0_powerOfAll cX0_powerOfAll 5 (some .int) :: ((wsX0_powerOfAll_r1 ++ wsX0_powerOfAll_r2) ++ wsX00)
def wsX0_windLeftAnew : List Cond := .code yX0_windLeftAnew cX0_windLeftAnew 9 (some .int) :: ([.fieldLink RX0 9 "Turbineorchard$Field" "turbineAt" "[I", .methodLink RX0 72 yX0_placesAhead, .static yX0_placesAhead, .initialized RX0, .code yX0_placesAhead cX0_placesAhead 2 (some .int), .methodLink RX0 43 yX0_has, .instanceMethod yX0_has, .selects RX0 yX0_has yX0_has, .code yX0_has cX0_has 2 (some .boolean), .fieldLink RX0 28 "Turbineorchard$Field" "count" "I", .static yX4_isWithin, .initialized RX4, .code yX4_isWithin cX4_isWithin 3 (some .boolean), .methodLink RX0 51 yX0_turns, .instanceMethod yX0_turns, .selects RX0 yX0_turns yX0_turns, .code yX0_turns cX0_turns 2 (some .boolean), .fieldLink RX0 18 "Turbineorchard$Field" "broken" "[Z", .fieldLink RX0 22 "Turbineorchard$Field" "stilled" "[Z", .methodLink RX0 68 yX0_takenByWake, .static yX0_takenByWake, .code yX0_takenByWake cX0_takenByWake 3 (some .int)] ++ wsX00)
def wsX0_powerOfAllAnew_r1 : List Cond := [Cond.fieldLink RX0 28 "Turbineorchard$Field" "count" "I", Cond.fieldLink RX0 15 "Turbineorchard$Field" "places" "[I", Cond.methodLink RX0 51 yX0_turns, Cond.instanceMethod yX0_turns, Cond.selects RX0 yX0_turns yX0_turns, Cond.initialized RX0, Cond.code yX0_turns cX0_turns 2 (some .boolean), Cond.fieldLink RX0 18 "Turbineorchard$Field" "broken" "[Z", Cond.fieldLink RX0 22 "Turbineorchard$Field" "stilled" "[Z", Cond.methodLink RX0 54 yX0_windLeftAnew, Cond.instanceMethod yX0_windLeftAnew, Cond.selects RX0 yX0_windLeftAnew yX0_windLeftAnew, Cond.code yX0_windLeftAnew cX0_windLeftAnew 9 (some .int), Cond.fieldLink RX0 9 "Turbineorchard$Field" "turbineAt" "[I", Cond.methodLink RX0 72 yX0_placesAhead, Cond.static yX0_placesAhead, Cond.code yX0_placesAhead cX0_placesAhead 2 (some .int), Cond.methodLink RX0 43 yX0_has, Cond.instanceMethod yX0_has, Cond.selects RX0 yX0_has yX0_has, Cond.code yX0_has cX0_has 2 (some .boolean), Cond.static yX4_isWithin, Cond.initialized RX4, Cond.code yX4_isWithin cX4_isWithin 3 (some .boolean)]
def wsX0_powerOfAllAnew_r2 : List Cond := [Cond.methodLink RX0 68 yX0_takenByWake, Cond.static yX0_takenByWake, Cond.code yX0_takenByWake cX0_takenByWake 3 (some .int), Cond.methodLink RX0 57 yX0_powerOfWind, Cond.static yX0_powerOfWind, Cond.code yX0_powerOfWind cX0_powerOfWind 1 (some .int), Cond.methodLink RX0 78 Lib.Math.min.name, Cond.static Lib.Math.min.name, Cond.initialized "java/lang/Math", Cond.code Lib.Math.min.name Lib.Math.min.code 2 (some .int)]
def wsX0_powerOfAllAnew : List Cond := .code yX0_powerOfAllAnew cX0_powerOfAllAnew 5 (some .int) :: ((wsX0_powerOfAllAnew_r1 ++ wsX0_powerOfAllAnew_r2) ++ wsX00)
def wsX1_init : List Cond := .code yX1_init cX1_init 2 none :: ([.methodLink RX1 3 objectInit, .instanceMethod objectInit, .code objectInit ⟨#[0xb1]⟩ 1 none, .arrayClass .int, .fieldLink RX1 9 "Turbineorchard$Fleet" "turbines" "[I", .fieldLink RX1 15 "Turbineorchard$Fleet" "left" "[I", .fieldLink RX1 18 "Turbineorchard$Fleet" "crewLimits" "[I", .fieldLink RX1 21 "Turbineorchard$Fleet" "today" "[I", .fieldLink RX1 24 "Turbineorchard$Fleet" "inAll" "[I"] ++ wsX10)
def wsX1_crewHours : List Cond := .code yX1_crewHours cX1_crewHours 2 (some .int) :: ([.fieldLink RX1 18 "Turbineorchard$Fleet" "crewLimits" "[I"] ++ wsX10)
def wsX1_setCrewHours : List Cond := .code yX1_setCrewHours cX1_setCrewHours 3 none :: ([.fieldLink RX1 18 "Turbineorchard$Fleet" "crewLimits" "[I"] ++ wsX10)
def wsX1_turbineOf : List Cond := .code yX1_turbineOf cX1_turbineOf 2 (some .int) :: ([.fieldLink RX1 9 "Turbineorchard$Fleet" "turbines" "[I"] ++ wsX10)
def wsX1_hoursLeft : List Cond := .code yX1_hoursLeft cX1_hoursLeft 2 (some .int) :: ([.fieldLink RX1 15 "Turbineorchard$Fleet" "left" "[I"] ++ wsX10)
def wsX1_workedToday : List Cond := .code yX1_workedToday cX1_workedToday 2 (some .int) :: ([.fieldLink RX1 21 "Turbineorchard$Fleet" "today" "[I"] ++ wsX10)
def wsX1_workedInAll : List Cond := .code yX1_workedInAll cX1_workedInAll 2 (some .int) :: ([.fieldLink RX1 24 "Turbineorchard$Fleet" "inAll" "[I"] ++ wsX10)
def wsX1_isFree : List Cond := .code yX1_isFree cX1_isFree 2 (some .boolean) :: ([.fieldLink RX1 9 "Turbineorchard$Fleet" "turbines" "[I"] ++ wsX10)
def wsX1_isAtWorkOn : List Cond := .code yX1_isAtWorkOn cX1_isAtWorkOn 3 (some .boolean) :: ([.fieldLink RX1 9 "Turbineorchard$Fleet" "turbines" "[I"] ++ wsX10)
def wsX1_send : List Cond := .code yX1_send cX1_send 4 none :: ([.fieldLink RX1 9 "Turbineorchard$Fleet" "turbines" "[I", .fieldLink RX1 15 "Turbineorchard$Fleet" "left" "[I"] ++ wsX10)
def wsX1_canWork : List Cond := .code yX1_canWork cX1_canWork 2 (some .boolean) :: ([.fieldLink RX1 21 "Turbineorchard$Fleet" "today" "[I", .fieldLink RX1 18 "Turbineorchard$Fleet" "crewLimits" "[I", .methodLink RX1 27 yX1_isFree, .instanceMethod yX1_isFree, .selects RX1 yX1_isFree yX1_isFree, .initialized RX1, .code yX1_isFree cX1_isFree 2 (some .boolean), .fieldLink RX1 9 "Turbineorchard$Fleet" "turbines" "[I"] ++ wsX10)
def wsX1_workAnHour : List Cond := .code yX1_workAnHour cX1_workAnHour 2 none :: ([.fieldLink RX1 15 "Turbineorchard$Fleet" "left" "[I", .fieldLink RX1 21 "Turbineorchard$Fleet" "today" "[I", .fieldLink RX1 24 "Turbineorchard$Fleet" "inAll" "[I"] ++ wsX10)
def wsX1_hasEnded : List Cond := .code yX1_hasEnded cX1_hasEnded 2 (some .boolean) :: ([.fieldLink RX1 15 "Turbineorchard$Fleet" "left" "[I", .methodLink RX1 27 yX1_isFree, .instanceMethod yX1_isFree, .selects RX1 yX1_isFree yX1_isFree, .initialized RX1, .code yX1_isFree cX1_isFree 2 (some .boolean), .fieldLink RX1 9 "Turbineorchard$Fleet" "turbines" "[I"] ++ wsX10)
def wsX1_release : List Cond := .code yX1_release cX1_release 2 none :: ([.fieldLink RX1 9 "Turbineorchard$Fleet" "turbines" "[I"] ++ wsX10)
def wsX1_beginDay : List Cond := .code yX1_beginDay cX1_beginDay 2 none :: ([.fieldLink RX1 21 "Turbineorchard$Fleet" "today" "[I"] ++ wsX10)
def wsX2_init : List Cond := .code yX2_init cX2_init 2 none :: ([.methodLink RX2 3 objectInit, .instanceMethod objectInit, .code objectInit ⟨#[0xb1]⟩ 1 none, .arrayClass .int, .fieldLink RX2 9 "Turbineorchard$Ledger" "slots" "[I", .fieldLink RX2 15 "Turbineorchard$Ledger" "prices" "[I", .fieldLink RX2 18 "Turbineorchard$Ledger" "made" "[I"] ++ wsX20)
def wsX2_slotUnits : List Cond := .code yX2_slotUnits cX2_slotUnits 2 (some .int) :: ([.fieldLink RX2 9 "Turbineorchard$Ledger" "slots" "[I"] ++ wsX20)
def wsX2_setSlot : List Cond := .code yX2_setSlot cX2_setSlot 4 none :: ([.fieldLink RX2 9 "Turbineorchard$Ledger" "slots" "[I", .fieldLink RX2 15 "Turbineorchard$Ledger" "prices" "[I"] ++ wsX20)
def wsX2_soldFor : List Cond := .code yX2_soldFor cX2_soldFor 2 (some .int) :: ([.fieldLink RX2 9 "Turbineorchard$Ledger" "slots" "[I"] ++ wsX20)
def wsX2_imbalanceOf : List Cond := .code yX2_imbalanceOf cX2_imbalanceOf 2 (some .int) :: ([.fieldLink RX2 18 "Turbineorchard$Ledger" "made" "[I", .methodLink RX2 29 yX2_soldFor, .instanceMethod yX2_soldFor, .selects RX2 yX2_soldFor yX2_soldFor, .initialized RX2, .code yX2_soldFor cX2_soldFor 2 (some .int), .fieldLink RX2 9 "Turbineorchard$Ledger" "slots" "[I"] ++ wsX20)
def wsX2_proceedsOf : List Cond := .code yX2_proceedsOf cX2_proceedsOf 5 (some .int) :: ([.fieldLink RX2 15 "Turbineorchard$Ledger" "prices" "[I", .methodLink RX2 32 yX2_imbalanceOf, .instanceMethod yX2_imbalanceOf, .selects RX2 yX2_imbalanceOf yX2_imbalanceOf, .initialized RX2, .code yX2_imbalanceOf cX2_imbalanceOf 2 (some .int), .fieldLink RX2 18 "Turbineorchard$Ledger" "made" "[I", .methodLink RX2 29 yX2_soldFor, .instanceMethod yX2_soldFor, .selects RX2 yX2_soldFor yX2_soldFor, .code yX2_soldFor cX2_soldFor 2 (some .int), .fieldLink RX2 9 "Turbineorchard$Ledger" "slots" "[I"] ++ wsX20)
def wsX2_endHour : List Cond := .code yX2_endHour cX2_endHour 3 none :: ([.fieldLink RX2 18 "Turbineorchard$Ledger" "made" "[I", .fieldLink RX2 21 "Turbineorchard$Ledger" "proceeds" "J", .methodLink RX2 25 yX2_proceedsOf, .instanceMethod yX2_proceedsOf, .selects RX2 yX2_proceedsOf yX2_proceedsOf, .initialized RX2, .code yX2_proceedsOf cX2_proceedsOf 5 (some .int), .fieldLink RX2 15 "Turbineorchard$Ledger" "prices" "[I", .methodLink RX2 32 yX2_imbalanceOf, .instanceMethod yX2_imbalanceOf, .selects RX2 yX2_imbalanceOf yX2_imbalanceOf, .code yX2_imbalanceOf cX2_imbalanceOf 2 (some .int), .methodLink RX2 29 yX2_soldFor, .instanceMethod yX2_soldFor, .selects RX2 yX2_soldFor yX2_soldFor, .code yX2_soldFor cX2_soldFor 2 (some .int), .fieldLink RX2 9 "Turbineorchard$Ledger" "slots" "[I"] ++ wsX20)
def wsX2_madeIn : List Cond := .code yX2_madeIn cX2_madeIn 2 (some .int) :: ([.fieldLink RX2 18 "Turbineorchard$Ledger" "made" "[I"] ++ wsX20)
def wsX2_proceedsInAll : List Cond := .code yX2_proceedsInAll cX2_proceedsInAll 1 (some .long) :: ([.fieldLink RX2 21 "Turbineorchard$Ledger" "proceeds" "J"] ++ wsX20)
def wsX2_madeToSold : List Cond := .code yX2_madeToSold cX2_madeToSold 3 (some .float) :: ([.fieldLink RX2 18 "Turbineorchard$Ledger" "made" "[I", .methodLink RX2 29 yX2_soldFor, .instanceMethod yX2_soldFor, .selects RX2 yX2_soldFor yX2_soldFor, .initialized RX2, .code yX2_soldFor cX2_soldFor 2 (some .int), .fieldLink RX2 9 "Turbineorchard$Ledger" "slots" "[I"] ++ wsX20)
def wsX3_init : List Cond := .code yX3_init cX3_init 2 none :: ([.methodLink RX3 3 objectInit, .instanceMethod objectInit, .code objectInit ⟨#[0xb1]⟩ 1 none, .arrayClass .int, .fieldLink RX3 9 "Turbineorchard$Weather" "speeds" "[I", .arrayClass .boolean, .fieldLink RX3 15 "Turbineorchard$Weather" "wests" "[Z", .fieldLink RX3 19 "Turbineorchard$Weather" "toldWaves" "[I"] ++ wsX30)
def wsX3_tellWind : List Cond := .code yX3_tellWind cX3_tellWind 6 none :: ([.fieldLink RX3 9 "Turbineorchard$Weather" "speeds" "[I", .fieldLink RX3 15 "Turbineorchard$Weather" "wests" "[Z"] ++ wsX30)
def wsX3_tellWaves : List Cond := .code yX3_tellWaves cX3_tellWaves 3 none :: ([.fieldLink RX3 19 "Turbineorchard$Weather" "toldWaves" "[I"] ++ wsX30)
def wsX3_speedIn : List Cond := .code yX3_speedIn cX3_speedIn 2 (some .int) :: ([.fieldLink RX3 9 "Turbineorchard$Weather" "speeds" "[I"] ++ wsX30)
def wsX3_isWestIn : List Cond := .code yX3_isWestIn cX3_isWestIn 2 (some .boolean) :: ([.fieldLink RX3 15 "Turbineorchard$Weather" "wests" "[Z"] ++ wsX30)
def wsX3_wavesIn : List Cond := .code yX3_wavesIn cX3_wavesIn 2 (some .int) :: ([.fieldLink RX3 19 "Turbineorchard$Weather" "toldWaves" "[I", .fieldLink RX3 9 "Turbineorchard$Weather" "speeds" "[I"] ++ wsX30)
def wsX4_init_r1 : List Cond := [Cond.methodLink RX4 3 objectInit, Cond.instanceMethod objectInit, Cond.code objectInit ⟨#[0xb1]⟩ 1 none, Cond.classLink RX4 9 RX3, Cond.instantiable RX3 3, Cond.initialized RX3, Cond.fieldLink RX4 12 "Turbineorchard" "weather" "LTurbineorchard$Weather;", Cond.classLink RX4 16 RX0, Cond.instantiable RX0 7, Cond.initialized RX0, Cond.fieldLink RX4 19 "Turbineorchard" "field" "LTurbineorchard$Field;", Cond.classLink RX4 23 RX1, Cond.instantiable RX1 5, Cond.initialized RX1, Cond.fieldLink RX4 26 "Turbineorchard" "fleet" "LTurbineorchard$Fleet;", Cond.classLink RX4 30 RX2, Cond.instantiable RX2 4, Cond.initialized RX2, Cond.fieldLink RX4 33 "Turbineorchard" "ledger" "LTurbineorchard$Ledger;", Cond.fieldLink RX4 37 "Turbineorchard" "now" "I", Cond.methodLink RX4 11 yX3_init, Cond.instanceMethod yX3_init, Cond.code yX3_init cX3_init 2 none, Cond.methodLink RX3 3 objectInit]
def wsX4_init_r2 : List Cond := [Cond.arrayClass .int, Cond.fieldLink RX3 9 "Turbineorchard$Weather" "speeds" "[I", Cond.arrayClass .boolean, Cond.fieldLink RX3 15 "Turbineorchard$Weather" "wests" "[Z", Cond.fieldLink RX3 19 "Turbineorchard$Weather" "toldWaves" "[I", Cond.methodLink RX4 18 yX0_init, Cond.instanceMethod yX0_init, Cond.code yX0_init cX0_init 2 none, Cond.methodLink RX0 3 objectInit, Cond.fieldLink RX0 9 "Turbineorchard$Field" "turbineAt" "[I", Cond.fieldLink RX0 15 "Turbineorchard$Field" "places" "[I", Cond.fieldLink RX0 18 "Turbineorchard$Field" "broken" "[Z", Cond.fieldLink RX0 22 "Turbineorchard$Field" "stilled" "[Z", Cond.fieldLink RX0 25 "Turbineorchard$Field" "madeInAll" "[I", Cond.methodLink RX4 25 yX1_init, Cond.instanceMethod yX1_init, Cond.code yX1_init cX1_init 2 none, Cond.methodLink RX1 3 objectInit, Cond.fieldLink RX1 9 "Turbineorchard$Fleet" "turbines" "[I", Cond.fieldLink RX1 15 "Turbineorchard$Fleet" "left" "[I", Cond.fieldLink RX1 18 "Turbineorchard$Fleet" "crewLimits" "[I", Cond.fieldLink RX1 21 "Turbineorchard$Fleet" "today" "[I", Cond.fieldLink RX1 24 "Turbineorchard$Fleet" "inAll" "[I", Cond.methodLink RX4 32 yX2_init]
def wsX4_init_r3 : List Cond := [Cond.instanceMethod yX2_init, Cond.code yX2_init cX2_init 2 none, Cond.methodLink RX2 3 objectInit, Cond.fieldLink RX2 9 "Turbineorchard$Ledger" "slots" "[I", Cond.fieldLink RX2 15 "Turbineorchard$Ledger" "prices" "[I", Cond.fieldLink RX2 18 "Turbineorchard$Ledger" "made" "[I"]
def wsX4_init : List Cond := .code yX4_init cX4_init 1 none :: ((wsX4_init_r1 ++ (wsX4_init_r2 ++ wsX4_init_r3)) ++ wsX30 ++ wsX40 ++ wsX00 ++ wsX10 ++ wsX20)
def wsX4_turbine : List Cond := .code yX4_turbine cX4_turbine 2 (some .int) :: ([.classLink RX4 45 "java/lang/IndexOutOfBoundsException", .initialized "java/lang/IndexOutOfBoundsException", .classLink RX4 56 "java/lang/IllegalStateException", .initialized "java/lang/IllegalStateException", .fieldLink RX4 19 "Turbineorchard" "field" "LTurbineorchard$Field;", .methodLink RX4 41 yX4_isWithin, .static yX4_isWithin, .initialized RX4, .code yX4_isWithin cX4_isWithin 3 (some .boolean), .methodLink RX4 52 yX0_hasRoomAt, .instanceMethod yX0_hasRoomAt, .selects RX0 yX0_hasRoomAt yX0_hasRoomAt, .initialized RX0, .code yX0_hasRoomAt cX0_hasRoomAt 2 (some .boolean), .fieldLink RX0 9 "Turbineorchard$Field" "turbineAt" "[I", .fieldLink RX0 28 "Turbineorchard$Field" "count" "I", .methodLink RX4 61 yX0_build, .instanceMethod yX0_build, .selects RX0 yX0_build yX0_build, .code yX0_build cX0_build 3 (some .int), .fieldLink RX0 15 "Turbineorchard$Field" "places" "[I"] ++ wsX40 ++ wsX00 ++ (vx_atS RX4 49 "java/lang/IndexOutOfBoundsException" ["java/lang/RuntimeException", "java/lang/Exception"]).filter goodWord ++ (vx_atS RX4 60 "java/lang/IllegalStateException" ["java/lang/RuntimeException", "java/lang/Exception"]).filter goodWord)
def wsX4_isToCome : List Cond := .code yX4_isToCome cX4_isToCome 2 (some .boolean) :: ([.fieldLink RX4 37 "Turbineorchard" "now" "I", .methodLink RX4 41 yX4_isWithin, .static yX4_isWithin, .initialized RX4, .code yX4_isWithin cX4_isWithin 3 (some .boolean)] ++ wsX40)
def wsX4_wind : List Cond := .code yX4_wind cX4_wind 5 (some .int) :: ([.classLink RX4 68 "java/lang/IllegalArgumentException", .initialized "java/lang/IllegalArgumentException", .fieldLink RX4 12 "Turbineorchard" "weather" "LTurbineorchard$Weather;", .methodLink RX4 65 yX4_isToCome, .instanceMethod yX4_isToCome, .selects RX4 yX4_isToCome yX4_isToCome, .initialized RX4, .code yX4_isToCome cX4_isToCome 2 (some .boolean), .fieldLink RX4 37 "Turbineorchard" "now" "I", .methodLink RX4 41 yX4_isWithin, .static yX4_isWithin, .code yX4_isWithin cX4_isWithin 3 (some .boolean), .methodLink RX4 73 yX3_tellWind, .instanceMethod yX3_tellWind, .selects RX3 yX3_tellWind yX3_tellWind, .initialized RX3, .code yX3_tellWind cX3_tellWind 6 none, .fieldLink RX3 9 "Turbineorchard$Weather" "speeds" "[I", .fieldLink RX3 15 "Turbineorchard$Weather" "wests" "[Z"] ++ wsX40 ++ wsX30 ++ (vx_atS RX4 72 "java/lang/IllegalArgumentException" ["java/lang/RuntimeException", "java/lang/Exception"]).filter goodWord)
def wsX4_waves : List Cond := .code yX4_waves cX4_waves 4 (some .int) :: ([.classLink RX4 68 "java/lang/IllegalArgumentException", .initialized "java/lang/IllegalArgumentException", .fieldLink RX4 12 "Turbineorchard" "weather" "LTurbineorchard$Weather;", .methodLink RX4 65 yX4_isToCome, .instanceMethod yX4_isToCome, .selects RX4 yX4_isToCome yX4_isToCome, .initialized RX4, .code yX4_isToCome cX4_isToCome 2 (some .boolean), .fieldLink RX4 37 "Turbineorchard" "now" "I", .methodLink RX4 41 yX4_isWithin, .static yX4_isWithin, .code yX4_isWithin cX4_isWithin 3 (some .boolean), .methodLink RX4 79 yX3_wavesIn, .instanceMethod yX3_wavesIn, .selects RX3 yX3_wavesIn yX3_wavesIn, .initialized RX3, .code yX3_wavesIn cX3_wavesIn 2 (some .int), .fieldLink RX3 19 "Turbineorchard$Weather" "toldWaves" "[I", .fieldLink RX3 9 "Turbineorchard$Weather" "speeds" "[I", .methodLink RX4 82 yX3_tellWaves, .instanceMethod yX3_tellWaves, .selects RX3 yX3_tellWaves yX3_tellWaves, .code yX3_tellWaves cX3_tellWaves 3 none] ++ wsX40 ++ wsX30 ++ (vx_atS RX4 72 "java/lang/IllegalArgumentException" ["java/lang/RuntimeException", "java/lang/Exception"]).filter goodWord)
def wsX4_breaks_r1 : List Cond := [Cond.classLink RX4 45 "java/lang/IndexOutOfBoundsException", Cond.initialized "java/lang/IndexOutOfBoundsException", Cond.classLink RX4 56 "java/lang/IllegalStateException", Cond.initialized "java/lang/IllegalStateException", Cond.fieldLink RX4 19 "Turbineorchard" "field" "LTurbineorchard$Field;", Cond.methodLink RX4 86 yX0_has, Cond.instanceMethod yX0_has, Cond.selects RX0 yX0_has yX0_has, Cond.initialized RX0, Cond.code yX0_has cX0_has 2 (some .boolean), Cond.fieldLink RX0 28 "Turbineorchard$Field" "count" "I", Cond.static yX4_isWithin, Cond.initialized RX4, Cond.code yX4_isWithin cX4_isWithin 3 (some .boolean), Cond.methodLink RX4 91 yX0_isBroken, Cond.instanceMethod yX0_isBroken, Cond.selects RX0 yX0_isBroken yX0_isBroken, Cond.code yX0_isBroken cX0_isBroken 2 (some .boolean), Cond.fieldLink RX0 18 "Turbineorchard$Field" "broken" "[Z", Cond.methodLink RX4 96 yX0_breakDown, Cond.instanceMethod yX0_breakDown, Cond.selects RX0 yX0_breakDown yX0_breakDown, Cond.code yX0_breakDown cX0_breakDown 2 none, Cond.fieldLink RX0 36 "Turbineorchard$Field" "brokenCount" "I"]
def wsX4_breaks_r2 : List Cond := [Cond.methodLink RX4 100 yX0_countBroken, Cond.instanceMethod yX0_countBroken, Cond.selects RX0 yX0_countBroken yX0_countBroken, Cond.code yX0_countBroken cX0_countBroken 1 (some .int)]
def wsX4_breaks : List Cond := .code yX4_breaks cX4_breaks 2 (some .int) :: ((wsX4_breaks_r1 ++ wsX4_breaks_r2) ++ wsX40 ++ wsX00 ++ (vx_atS RX4 49 "java/lang/IndexOutOfBoundsException" ["java/lang/RuntimeException", "java/lang/Exception"]).filter goodWord ++ (vx_atS RX4 60 "java/lang/IllegalStateException" ["java/lang/RuntimeException", "java/lang/Exception"]).filter goodWord)
def wsX4_isBoat : List Cond := .code yX4_isBoat cX4_isBoat 1 (some .boolean) :: ([.methodLink RX4 41 yX4_isWithin, .static yX4_isWithin, .initialized RX4, .code yX4_isWithin cX4_isWithin 3 (some .boolean)])
def wsX4_crew : List Cond := .code yX4_crew cX4_crew 4 (some .int) :: ([.classLink RX4 45 "java/lang/IndexOutOfBoundsException", .initialized "java/lang/IndexOutOfBoundsException", .classLink RX4 68 "java/lang/IllegalArgumentException", .initialized "java/lang/IllegalArgumentException", .fieldLink RX4 26 "Turbineorchard" "fleet" "LTurbineorchard$Fleet;", .methodLink RX4 104 yX4_isBoat, .static yX4_isBoat, .initialized RX4, .code yX4_isBoat cX4_isBoat 1 (some .boolean), .methodLink RX4 41 yX4_isWithin, .static yX4_isWithin, .code yX4_isWithin cX4_isWithin 3 (some .boolean), .methodLink RX4 111 yX1_crewHours, .instanceMethod yX1_crewHours, .selects RX1 yX1_crewHours yX1_crewHours, .initialized RX1, .code yX1_crewHours cX1_crewHours 2 (some .int), .fieldLink RX1 18 "Turbineorchard$Fleet" "crewLimits" "[I", .methodLink RX4 114 yX1_setCrewHours, .instanceMethod yX1_setCrewHours, .selects RX1 yX1_setCrewHours yX1_setCrewHours, .code yX1_setCrewHours cX1_setCrewHours 3 none] ++ wsX40 ++ wsX10 ++ (vx_atS RX4 49 "java/lang/IndexOutOfBoundsException" ["java/lang/RuntimeException", "java/lang/Exception"]).filter goodWord ++ (vx_atS RX4 72 "java/lang/IllegalArgumentException" ["java/lang/RuntimeException", "java/lang/Exception"]).filter goodWord)
def wsX4_repair_r1 : List Cond := [Cond.classLink RX4 45 "java/lang/IndexOutOfBoundsException", Cond.initialized "java/lang/IndexOutOfBoundsException", Cond.classLink RX4 68 "java/lang/IllegalArgumentException", Cond.initialized "java/lang/IllegalArgumentException", Cond.classLink RX4 56 "java/lang/IllegalStateException", Cond.initialized "java/lang/IllegalStateException", Cond.fieldLink RX4 19 "Turbineorchard" "field" "LTurbineorchard$Field;", Cond.fieldLink RX4 26 "Turbineorchard" "fleet" "LTurbineorchard$Fleet;", Cond.methodLink RX4 104 yX4_isBoat, Cond.static yX4_isBoat, Cond.initialized RX4, Cond.code yX4_isBoat cX4_isBoat 1 (some .boolean), Cond.methodLink RX4 41 yX4_isWithin, Cond.static yX4_isWithin, Cond.code yX4_isWithin cX4_isWithin 3 (some .boolean), Cond.methodLink RX4 86 yX0_has, Cond.instanceMethod yX0_has, Cond.selects RX0 yX0_has yX0_has, Cond.initialized RX0, Cond.code yX0_has cX0_has 2 (some .boolean), Cond.fieldLink RX0 28 "Turbineorchard$Field" "count" "I", Cond.methodLink RX4 119 yX1_isFree, Cond.instanceMethod yX1_isFree, Cond.selects RX1 yX1_isFree yX1_isFree]
def wsX4_repair_r2 : List Cond := [Cond.initialized RX1, Cond.code yX1_isFree cX1_isFree 2 (some .boolean), Cond.fieldLink RX1 9 "Turbineorchard$Fleet" "turbines" "[I", Cond.methodLink RX4 91 yX0_isBroken, Cond.instanceMethod yX0_isBroken, Cond.selects RX0 yX0_isBroken yX0_isBroken, Cond.code yX0_isBroken cX0_isBroken 2 (some .boolean), Cond.fieldLink RX0 18 "Turbineorchard$Field" "broken" "[Z", Cond.methodLink RX4 122 yX1_isAtWorkOn, Cond.instanceMethod yX1_isAtWorkOn, Cond.selects RX1 yX1_isAtWorkOn yX1_isAtWorkOn, Cond.code yX1_isAtWorkOn cX1_isAtWorkOn 3 (some .boolean), Cond.methodLink RX4 127 yX1_send, Cond.instanceMethod yX1_send, Cond.selects RX1 yX1_send yX1_send, Cond.code yX1_send cX1_send 4 none, Cond.fieldLink RX1 15 "Turbineorchard$Fleet" "left" "[I"]
def wsX4_repair : List Cond := .code yX4_repair cX4_repair 4 none :: ((wsX4_repair_r1 ++ wsX4_repair_r2) ++ wsX40 ++ wsX00 ++ wsX10 ++ (vx_atS RX4 49 "java/lang/IndexOutOfBoundsException" ["java/lang/RuntimeException", "java/lang/Exception"]).filter goodWord ++ (vx_atS RX4 72 "java/lang/IllegalArgumentException" ["java/lang/RuntimeException", "java/lang/Exception"]).filter goodWord ++ (vx_atS RX4 60 "java/lang/IllegalStateException" ["java/lang/RuntimeException", "java/lang/Exception"]).filter goodWord)
def wsX4_sell : List Cond := .code yX4_sell cX4_sell 5 (some .int) :: ([.classLink RX4 68 "java/lang/IllegalArgumentException", .initialized "java/lang/IllegalArgumentException", .classLink RX4 56 "java/lang/IllegalStateException", .initialized "java/lang/IllegalStateException", .fieldLink RX4 37 "Turbineorchard" "now" "I", .fieldLink RX4 33 "Turbineorchard" "ledger" "LTurbineorchard$Ledger;", .methodLink RX4 41 yX4_isWithin, .static yX4_isWithin, .initialized RX4, .code yX4_isWithin cX4_isWithin 3 (some .boolean), .methodLink RX4 135 yX2_slotUnits, .instanceMethod yX2_slotUnits, .selects RX2 yX2_slotUnits yX2_slotUnits, .initialized RX2, .code yX2_slotUnits cX2_slotUnits 2 (some .int), .fieldLink RX2 9 "Turbineorchard$Ledger" "slots" "[I", .methodLink RX4 138 yX2_setSlot, .instanceMethod yX2_setSlot, .selects RX2 yX2_setSlot yX2_setSlot, .code yX2_setSlot cX2_setSlot 4 none, .fieldLink RX2 15 "Turbineorchard$Ledger" "prices" "[I"] ++ wsX40 ++ wsX20 ++ (vx_atS RX4 72 "java/lang/IllegalArgumentException" ["java/lang/RuntimeException", "java/lang/Exception"]).filter goodWord ++ (vx_atS RX4 60 "java/lang/IllegalStateException" ["java/lang/RuntimeException", "java/lang/Exception"]).filter goodWord)
def wsX4_workOnRepairs_r1 : List Cond := [Cond.fieldLink RX4 12 "Turbineorchard" "weather" "LTurbineorchard$Weather;", Cond.fieldLink RX4 37 "Turbineorchard" "now" "I", Cond.fieldLink RX4 26 "Turbineorchard" "fleet" "LTurbineorchard$Fleet;", Cond.fieldLink RX4 19 "Turbineorchard" "field" "LTurbineorchard$Field;", Cond.methodLink RX4 79 yX3_wavesIn, Cond.instanceMethod yX3_wavesIn, Cond.selects RX3 yX3_wavesIn yX3_wavesIn, Cond.initialized RX3, Cond.code yX3_wavesIn cX3_wavesIn 2 (some .int), Cond.fieldLink RX3 19 "Turbineorchard$Weather" "toldWaves" "[I", Cond.fieldLink RX3 9 "Turbineorchard$Weather" "speeds" "[I", Cond.methodLink RX4 228 yX1_canWork, Cond.instanceMethod yX1_canWork, Cond.selects RX1 yX1_canWork yX1_canWork, Cond.initialized RX1, Cond.code yX1_canWork cX1_canWork 2 (some .boolean), Cond.fieldLink RX1 21 "Turbineorchard$Fleet" "today" "[I", Cond.fieldLink RX1 18 "Turbineorchard$Fleet" "crewLimits" "[I", Cond.methodLink RX1 27 yX1_isFree, Cond.instanceMethod yX1_isFree, Cond.selects RX1 yX1_isFree yX1_isFree, Cond.code yX1_isFree cX1_isFree 2 (some .boolean), Cond.fieldLink RX1 9 "Turbineorchard$Fleet" "turbines" "[I", Cond.methodLink RX4 231 yX1_workAnHour]
def wsX4_workOnRepairs_r2 : List Cond := [Cond.instanceMethod yX1_workAnHour, Cond.selects RX1 yX1_workAnHour yX1_workAnHour, Cond.code yX1_workAnHour cX1_workAnHour 2 none, Cond.fieldLink RX1 15 "Turbineorchard$Fleet" "left" "[I", Cond.fieldLink RX1 24 "Turbineorchard$Fleet" "inAll" "[I", Cond.methodLink RX4 188 yX1_turbineOf, Cond.instanceMethod yX1_turbineOf, Cond.selects RX1 yX1_turbineOf yX1_turbineOf, Cond.code yX1_turbineOf cX1_turbineOf 2 (some .int), Cond.methodLink RX4 234 yX0_stillBeside, Cond.instanceMethod yX0_stillBeside, Cond.selects RX0 yX0_stillBeside yX0_stillBeside, Cond.initialized RX0, Cond.code yX0_stillBeside cX0_stillBeside 4 none, Cond.fieldLink RX0 15 "Turbineorchard$Field" "places" "[I", Cond.methodLink RX0 39 yX0_stillAt, Cond.instanceMethod yX0_stillAt, Cond.selects RX0 yX0_stillAt yX0_stillAt, Cond.code yX0_stillAt cX0_stillAt 3 none, Cond.fieldLink RX0 9 "Turbineorchard$Field" "turbineAt" "[I", Cond.fieldLink RX0 22 "Turbineorchard$Field" "stilled" "[Z", Cond.methodLink RX0 43 yX0_has, Cond.instanceMethod yX0_has, Cond.selects RX0 yX0_has yX0_has]
def wsX4_workOnRepairs_r3 : List Cond := [Cond.code yX0_has cX0_has 2 (some .boolean), Cond.fieldLink RX0 28 "Turbineorchard$Field" "count" "I", Cond.static yX4_isWithin, Cond.initialized RX4, Cond.code yX4_isWithin cX4_isWithin 3 (some .boolean)]
def wsX4_workOnRepairs : List Cond := .code yX4_workOnRepairs cX4_workOnRepairs 2 none :: ((wsX4_workOnRepairs_r1 ++ (wsX4_workOnRepairs_r2 ++ wsX4_workOnRepairs_r3)) ++ wsX40 ++ wsX30 ++ wsX10 ++ wsX00)
def wsX4_endRepairs_r1 : List Cond := [Cond.fieldLink RX4 26 "Turbineorchard" "fleet" "LTurbineorchard$Fleet;", Cond.fieldLink RX4 19 "Turbineorchard" "field" "LTurbineorchard$Field;", Cond.methodLink RX4 237 yX1_hasEnded, Cond.instanceMethod yX1_hasEnded, Cond.selects RX1 yX1_hasEnded yX1_hasEnded, Cond.initialized RX1, Cond.code yX1_hasEnded cX1_hasEnded 2 (some .boolean), Cond.fieldLink RX1 15 "Turbineorchard$Fleet" "left" "[I", Cond.methodLink RX1 27 yX1_isFree, Cond.instanceMethod yX1_isFree, Cond.selects RX1 yX1_isFree yX1_isFree, Cond.code yX1_isFree cX1_isFree 2 (some .boolean), Cond.fieldLink RX1 9 "Turbineorchard$Fleet" "turbines" "[I", Cond.methodLink RX4 188 yX1_turbineOf, Cond.instanceMethod yX1_turbineOf, Cond.selects RX1 yX1_turbineOf yX1_turbineOf, Cond.code yX1_turbineOf cX1_turbineOf 2 (some .int), Cond.methodLink RX4 240 yX0_mend, Cond.instanceMethod yX0_mend, Cond.selects RX0 yX0_mend yX0_mend, Cond.initialized RX0, Cond.code yX0_mend cX0_mend 2 none, Cond.fieldLink RX0 18 "Turbineorchard$Field" "broken" "[Z", Cond.fieldLink RX0 36 "Turbineorchard$Field" "brokenCount" "I"]
def wsX4_endRepairs_r2 : List Cond := [Cond.methodLink RX4 243 yX1_release, Cond.instanceMethod yX1_release, Cond.selects RX1 yX1_release yX1_release, Cond.code yX1_release cX1_release 2 none]
def wsX4_endRepairs : List Cond := .code yX4_endRepairs cX4_endRepairs 2 none :: ((wsX4_endRepairs_r1 ++ wsX4_endRepairs_r2) ++ wsX40 ++ wsX10 ++ wsX00)
def wsX4_liveHour_r1 : List Cond := [Cond.fieldLink RX4 33 "Turbineorchard" "ledger" "LTurbineorchard$Ledger;", Cond.fieldLink RX4 37 "Turbineorchard" "now" "I", Cond.fieldLink RX4 19 "Turbineorchard" "field" "LTurbineorchard$Field;", Cond.fieldLink RX4 12 "Turbineorchard" "weather" "LTurbineorchard$Weather;", Cond.fieldLink RX4 26 "Turbineorchard" "fleet" "LTurbineorchard$Fleet;", Cond.methodLink RX4 210 yX4_workOnRepairs, Cond.instanceMethod yX4_workOnRepairs, Cond.selects RX4 yX4_workOnRepairs yX4_workOnRepairs, Cond.initialized RX4, Cond.code yX4_workOnRepairs cX4_workOnRepairs 2 none, Cond.methodLink RX4 79 yX3_wavesIn, Cond.instanceMethod yX3_wavesIn, Cond.selects RX3 yX3_wavesIn yX3_wavesIn, Cond.initialized RX3, Cond.code yX3_wavesIn cX3_wavesIn 2 (some .int), Cond.fieldLink RX3 19 "Turbineorchard$Weather" "toldWaves" "[I", Cond.fieldLink RX3 9 "Turbineorchard$Weather" "speeds" "[I", Cond.methodLink RX4 228 yX1_canWork, Cond.instanceMethod yX1_canWork, Cond.selects RX1 yX1_canWork yX1_canWork, Cond.initialized RX1, Cond.code yX1_canWork cX1_canWork 2 (some .boolean), Cond.fieldLink RX1 21 "Turbineorchard$Fleet" "today" "[I", Cond.fieldLink RX1 18 "Turbineorchard$Fleet" "crewLimits" "[I"]
def wsX4_liveHour_r2 : List Cond := [Cond.methodLink RX1 27 yX1_isFree, Cond.instanceMethod yX1_isFree, Cond.selects RX1 yX1_isFree yX1_isFree, Cond.code yX1_isFree cX1_isFree 2 (some .boolean), Cond.fieldLink RX1 9 "Turbineorchard$Fleet" "turbines" "[I", Cond.methodLink RX4 231 yX1_workAnHour, Cond.instanceMethod yX1_workAnHour, Cond.selects RX1 yX1_workAnHour yX1_workAnHour, Cond.code yX1_workAnHour cX1_workAnHour 2 none, Cond.fieldLink RX1 15 "Turbineorchard$Fleet" "left" "[I", Cond.fieldLink RX1 24 "Turbineorchard$Fleet" "inAll" "[I", Cond.methodLink RX4 188 yX1_turbineOf, Cond.instanceMethod yX1_turbineOf, Cond.selects RX1 yX1_turbineOf yX1_turbineOf, Cond.code yX1_turbineOf cX1_turbineOf 2 (some .int), Cond.methodLink RX4 234 yX0_stillBeside, Cond.instanceMethod yX0_stillBeside, Cond.selects RX0 yX0_stillBeside yX0_stillBeside, Cond.initialized RX0, Cond.code yX0_stillBeside cX0_stillBeside 4 none, Cond.fieldLink RX0 15 "Turbineorchard$Field" "places" "[I", Cond.methodLink RX0 39 yX0_stillAt, Cond.instanceMethod yX0_stillAt, Cond.selects RX0 yX0_stillAt yX0_stillAt]
def wsX4_liveHour_r3 : List Cond := [Cond.code yX0_stillAt cX0_stillAt 3 none, Cond.fieldLink RX0 9 "Turbineorchard$Field" "turbineAt" "[I", Cond.fieldLink RX0 22 "Turbineorchard$Field" "stilled" "[Z", Cond.methodLink RX0 43 yX0_has, Cond.instanceMethod yX0_has, Cond.selects RX0 yX0_has yX0_has, Cond.code yX0_has cX0_has 2 (some .boolean), Cond.fieldLink RX0 28 "Turbineorchard$Field" "count" "I", Cond.static yX4_isWithin, Cond.code yX4_isWithin cX4_isWithin 3 (some .boolean), Cond.methodLink RX4 146 yX3_speedIn, Cond.instanceMethod yX3_speedIn, Cond.selects RX3 yX3_speedIn yX3_speedIn, Cond.code yX3_speedIn cX3_speedIn 2 (some .int), Cond.methodLink RX4 149 yX3_isWestIn, Cond.instanceMethod yX3_isWestIn, Cond.selects RX3 yX3_isWestIn yX3_isWestIn, Cond.code yX3_isWestIn cX3_isWestIn 2 (some .boolean), Cond.fieldLink RX3 15 "Turbineorchard$Weather" "wests" "[Z", Cond.methodLink RX4 213 yX0_generate, Cond.instanceMethod yX0_generate, Cond.selects RX0 yX0_generate yX0_generate, Cond.code yX0_generate cX0_generate 6 (some .int), Cond.fieldLink RX0 25 "Turbineorchard$Field" "madeInAll" "[I"]
def wsX4_liveHour_r4 : List Cond := [Cond.methodLink RX0 47 yX0_powerOf, Cond.instanceMethod yX0_powerOf, Cond.selects RX0 yX0_powerOf yX0_powerOf, Cond.code yX0_powerOf cX0_powerOf 4 (some .int), Cond.methodLink RX0 51 yX0_turns, Cond.instanceMethod yX0_turns, Cond.selects RX0 yX0_turns yX0_turns, Cond.code yX0_turns cX0_turns 2 (some .boolean), Cond.fieldLink RX0 18 "Turbineorchard$Field" "broken" "[Z", Cond.methodLink RX0 61 yX0_windLeft, Cond.instanceMethod yX0_windLeft, Cond.selects RX0 yX0_windLeft yX0_windLeft, Cond.code yX0_windLeft cX0_windLeft 7 (some .int), Cond.methodLink RX0 64 yX0_distancesAhead, Cond.instanceMethod yX0_distancesAhead, Cond.selects RX0 yX0_distancesAhead yX0_distancesAhead, Cond.code yX0_distancesAhead cX0_distancesAhead 6 (some .int), Cond.methodLink RX0 72 yX0_placesAhead, Cond.static yX0_placesAhead, Cond.code yX0_placesAhead cX0_placesAhead 2 (some .int), Cond.methodLink RX0 75 yX0_lane, Cond.static yX0_lane, Cond.code yX0_lane cX0_lane 2 (some .int), Cond.methodLink RX0 68 yX0_takenByWake]
def wsX4_liveHour_r5 : List Cond := [Cond.static yX0_takenByWake, Cond.code yX0_takenByWake cX0_takenByWake 3 (some .int), Cond.methodLink RX0 57 yX0_powerOfWind, Cond.static yX0_powerOfWind, Cond.code yX0_powerOfWind cX0_powerOfWind 1 (some .int), Cond.methodLink RX0 78 Lib.Math.min.name, Cond.static Lib.Math.min.name, Cond.initialized "java/lang/Math", Cond.code Lib.Math.min.name Lib.Math.min.code 2 (some .int), Cond.methodLink RX4 216 yX2_endHour, Cond.instanceMethod yX2_endHour, Cond.selects RX2 yX2_endHour yX2_endHour, Cond.initialized RX2, Cond.code yX2_endHour cX2_endHour 3 none, Cond.fieldLink RX2 18 "Turbineorchard$Ledger" "made" "[I", Cond.fieldLink RX2 21 "Turbineorchard$Ledger" "proceeds" "J", Cond.methodLink RX2 25 yX2_proceedsOf, Cond.instanceMethod yX2_proceedsOf, Cond.selects RX2 yX2_proceedsOf yX2_proceedsOf, Cond.code yX2_proceedsOf cX2_proceedsOf 5 (some .int), Cond.fieldLink RX2 15 "Turbineorchard$Ledger" "prices" "[I", Cond.methodLink RX2 32 yX2_imbalanceOf, Cond.instanceMethod yX2_imbalanceOf, Cond.selects RX2 yX2_imbalanceOf yX2_imbalanceOf]
def wsX4_liveHour_r6 : List Cond := [Cond.code yX2_imbalanceOf cX2_imbalanceOf 2 (some .int), Cond.methodLink RX2 29 yX2_soldFor, Cond.instanceMethod yX2_soldFor, Cond.selects RX2 yX2_soldFor yX2_soldFor, Cond.code yX2_soldFor cX2_soldFor 2 (some .int), Cond.fieldLink RX2 9 "Turbineorchard$Ledger" "slots" "[I", Cond.methodLink RX4 219 yX0_endStillness, Cond.instanceMethod yX0_endStillness, Cond.selects RX0 yX0_endStillness yX0_endStillness, Cond.code yX0_endStillness cX0_endStillness 2 none, Cond.methodLink RX4 222 yX4_endRepairs, Cond.instanceMethod yX4_endRepairs, Cond.selects RX4 yX4_endRepairs yX4_endRepairs, Cond.code yX4_endRepairs cX4_endRepairs 2 none, Cond.methodLink RX4 237 yX1_hasEnded, Cond.instanceMethod yX1_hasEnded, Cond.selects RX1 yX1_hasEnded yX1_hasEnded, Cond.code yX1_hasEnded cX1_hasEnded 2 (some .boolean), Cond.methodLink RX4 240 yX0_mend, Cond.instanceMethod yX0_mend, Cond.selects RX0 yX0_mend yX0_mend, Cond.code yX0_mend cX0_mend 2 none, Cond.fieldLink RX0 36 "Turbineorchard$Field" "brokenCount" "I", Cond.methodLink RX4 243 yX1_release]
def wsX4_liveHour_r7 : List Cond := [Cond.instanceMethod yX1_release, Cond.selects RX1 yX1_release yX1_release, Cond.code yX1_release cX1_release 2 none, Cond.methodLink RX4 225 yX1_beginDay, Cond.instanceMethod yX1_beginDay, Cond.selects RX1 yX1_beginDay yX1_beginDay, Cond.code yX1_beginDay cX1_beginDay 2 none]
def wsX4_liveHour : List Cond := .code yX4_liveHour cX4_liveHour 1 none :: ((wsX4_liveHour_r1 ++ (wsX4_liveHour_r2 ++ (wsX4_liveHour_r3 ++ (wsX4_liveHour_r4 ++ (wsX4_liveHour_r5 ++ (wsX4_liveHour_r6 ++ wsX4_liveHour_r7)))))) ++ wsX40 ++ wsX30 ++ wsX10 ++ wsX00 ++ wsX20)
def wsX4_pass_r1 : List Cond := [Cond.classLink RX4 68 "java/lang/IllegalArgumentException", Cond.initialized "java/lang/IllegalArgumentException", Cond.classLink RX4 56 "java/lang/IllegalStateException", Cond.initialized "java/lang/IllegalStateException", Cond.fieldLink RX4 37 "Turbineorchard" "now" "I", Cond.methodLink RX4 41 yX4_isWithin, Cond.static yX4_isWithin, Cond.initialized RX4, Cond.code yX4_isWithin cX4_isWithin 3 (some .boolean), Cond.methodLink RX4 143 yX4_liveHour, Cond.instanceMethod yX4_liveHour, Cond.selects RX4 yX4_liveHour yX4_liveHour, Cond.code yX4_liveHour cX4_liveHour 1 none, Cond.fieldLink RX4 33 "Turbineorchard" "ledger" "LTurbineorchard$Ledger;", Cond.fieldLink RX4 19 "Turbineorchard" "field" "LTurbineorchard$Field;", Cond.fieldLink RX4 12 "Turbineorchard" "weather" "LTurbineorchard$Weather;", Cond.fieldLink RX4 26 "Turbineorchard" "fleet" "LTurbineorchard$Fleet;", Cond.methodLink RX4 210 yX4_workOnRepairs, Cond.instanceMethod yX4_workOnRepairs, Cond.selects RX4 yX4_workOnRepairs yX4_workOnRepairs, Cond.code yX4_workOnRepairs cX4_workOnRepairs 2 none, Cond.methodLink RX4 79 yX3_wavesIn, Cond.instanceMethod yX3_wavesIn, Cond.selects RX3 yX3_wavesIn yX3_wavesIn]
def wsX4_pass_r2 : List Cond := [Cond.initialized RX3, Cond.code yX3_wavesIn cX3_wavesIn 2 (some .int), Cond.fieldLink RX3 19 "Turbineorchard$Weather" "toldWaves" "[I", Cond.fieldLink RX3 9 "Turbineorchard$Weather" "speeds" "[I", Cond.methodLink RX4 228 yX1_canWork, Cond.instanceMethod yX1_canWork, Cond.selects RX1 yX1_canWork yX1_canWork, Cond.initialized RX1, Cond.code yX1_canWork cX1_canWork 2 (some .boolean), Cond.fieldLink RX1 21 "Turbineorchard$Fleet" "today" "[I", Cond.fieldLink RX1 18 "Turbineorchard$Fleet" "crewLimits" "[I", Cond.methodLink RX1 27 yX1_isFree, Cond.instanceMethod yX1_isFree, Cond.selects RX1 yX1_isFree yX1_isFree, Cond.code yX1_isFree cX1_isFree 2 (some .boolean), Cond.fieldLink RX1 9 "Turbineorchard$Fleet" "turbines" "[I", Cond.methodLink RX4 231 yX1_workAnHour, Cond.instanceMethod yX1_workAnHour, Cond.selects RX1 yX1_workAnHour yX1_workAnHour, Cond.code yX1_workAnHour cX1_workAnHour 2 none, Cond.fieldLink RX1 15 "Turbineorchard$Fleet" "left" "[I", Cond.fieldLink RX1 24 "Turbineorchard$Fleet" "inAll" "[I", Cond.methodLink RX4 188 yX1_turbineOf, Cond.instanceMethod yX1_turbineOf]
def wsX4_pass_r3 : List Cond := [Cond.selects RX1 yX1_turbineOf yX1_turbineOf, Cond.code yX1_turbineOf cX1_turbineOf 2 (some .int), Cond.methodLink RX4 234 yX0_stillBeside, Cond.instanceMethod yX0_stillBeside, Cond.selects RX0 yX0_stillBeside yX0_stillBeside, Cond.initialized RX0, Cond.code yX0_stillBeside cX0_stillBeside 4 none, Cond.fieldLink RX0 15 "Turbineorchard$Field" "places" "[I", Cond.methodLink RX0 39 yX0_stillAt, Cond.instanceMethod yX0_stillAt, Cond.selects RX0 yX0_stillAt yX0_stillAt, Cond.code yX0_stillAt cX0_stillAt 3 none, Cond.fieldLink RX0 9 "Turbineorchard$Field" "turbineAt" "[I", Cond.fieldLink RX0 22 "Turbineorchard$Field" "stilled" "[Z", Cond.methodLink RX0 43 yX0_has, Cond.instanceMethod yX0_has, Cond.selects RX0 yX0_has yX0_has, Cond.code yX0_has cX0_has 2 (some .boolean), Cond.fieldLink RX0 28 "Turbineorchard$Field" "count" "I", Cond.methodLink RX4 146 yX3_speedIn, Cond.instanceMethod yX3_speedIn, Cond.selects RX3 yX3_speedIn yX3_speedIn, Cond.code yX3_speedIn cX3_speedIn 2 (some .int), Cond.methodLink RX4 149 yX3_isWestIn]
def wsX4_pass_r4 : List Cond := [Cond.instanceMethod yX3_isWestIn, Cond.selects RX3 yX3_isWestIn yX3_isWestIn, Cond.code yX3_isWestIn cX3_isWestIn 2 (some .boolean), Cond.fieldLink RX3 15 "Turbineorchard$Weather" "wests" "[Z", Cond.methodLink RX4 213 yX0_generate, Cond.instanceMethod yX0_generate, Cond.selects RX0 yX0_generate yX0_generate, Cond.code yX0_generate cX0_generate 6 (some .int), Cond.fieldLink RX0 25 "Turbineorchard$Field" "madeInAll" "[I", Cond.methodLink RX0 47 yX0_powerOf, Cond.instanceMethod yX0_powerOf, Cond.selects RX0 yX0_powerOf yX0_powerOf, Cond.code yX0_powerOf cX0_powerOf 4 (some .int), Cond.methodLink RX0 51 yX0_turns, Cond.instanceMethod yX0_turns, Cond.selects RX0 yX0_turns yX0_turns, Cond.code yX0_turns cX0_turns 2 (some .boolean), Cond.fieldLink RX0 18 "Turbineorchard$Field" "broken" "[Z", Cond.methodLink RX0 61 yX0_windLeft, Cond.instanceMethod yX0_windLeft, Cond.selects RX0 yX0_windLeft yX0_windLeft, Cond.code yX0_windLeft cX0_windLeft 7 (some .int), Cond.methodLink RX0 64 yX0_distancesAhead, Cond.instanceMethod yX0_distancesAhead]
def wsX4_pass_r5 : List Cond := [Cond.selects RX0 yX0_distancesAhead yX0_distancesAhead, Cond.code yX0_distancesAhead cX0_distancesAhead 6 (some .int), Cond.methodLink RX0 72 yX0_placesAhead, Cond.static yX0_placesAhead, Cond.code yX0_placesAhead cX0_placesAhead 2 (some .int), Cond.methodLink RX0 75 yX0_lane, Cond.static yX0_lane, Cond.code yX0_lane cX0_lane 2 (some .int), Cond.methodLink RX0 68 yX0_takenByWake, Cond.static yX0_takenByWake, Cond.code yX0_takenByWake cX0_takenByWake 3 (some .int), Cond.methodLink RX0 57 yX0_powerOfWind, Cond.static yX0_powerOfWind, Cond.code yX0_powerOfWind cX0_powerOfWind 1 (some .int), Cond.methodLink RX0 78 Lib.Math.min.name, Cond.static Lib.Math.min.name, Cond.initialized "java/lang/Math", Cond.code Lib.Math.min.name Lib.Math.min.code 2 (some .int), Cond.methodLink RX4 216 yX2_endHour, Cond.instanceMethod yX2_endHour, Cond.selects RX2 yX2_endHour yX2_endHour, Cond.initialized RX2, Cond.code yX2_endHour cX2_endHour 3 none, Cond.fieldLink RX2 18 "Turbineorchard$Ledger" "made" "[I"]
def wsX4_pass_r6 : List Cond := [Cond.fieldLink RX2 21 "Turbineorchard$Ledger" "proceeds" "J", Cond.methodLink RX2 25 yX2_proceedsOf, Cond.instanceMethod yX2_proceedsOf, Cond.selects RX2 yX2_proceedsOf yX2_proceedsOf, Cond.code yX2_proceedsOf cX2_proceedsOf 5 (some .int), Cond.fieldLink RX2 15 "Turbineorchard$Ledger" "prices" "[I", Cond.methodLink RX2 32 yX2_imbalanceOf, Cond.instanceMethod yX2_imbalanceOf, Cond.selects RX2 yX2_imbalanceOf yX2_imbalanceOf, Cond.code yX2_imbalanceOf cX2_imbalanceOf 2 (some .int), Cond.methodLink RX2 29 yX2_soldFor, Cond.instanceMethod yX2_soldFor, Cond.selects RX2 yX2_soldFor yX2_soldFor, Cond.code yX2_soldFor cX2_soldFor 2 (some .int), Cond.fieldLink RX2 9 "Turbineorchard$Ledger" "slots" "[I", Cond.methodLink RX4 219 yX0_endStillness, Cond.instanceMethod yX0_endStillness, Cond.selects RX0 yX0_endStillness yX0_endStillness, Cond.code yX0_endStillness cX0_endStillness 2 none, Cond.methodLink RX4 222 yX4_endRepairs, Cond.instanceMethod yX4_endRepairs, Cond.selects RX4 yX4_endRepairs yX4_endRepairs, Cond.code yX4_endRepairs cX4_endRepairs 2 none, Cond.methodLink RX4 237 yX1_hasEnded]
def wsX4_pass_r7 : List Cond := [Cond.instanceMethod yX1_hasEnded, Cond.selects RX1 yX1_hasEnded yX1_hasEnded, Cond.code yX1_hasEnded cX1_hasEnded 2 (some .boolean), Cond.methodLink RX4 240 yX0_mend, Cond.instanceMethod yX0_mend, Cond.selects RX0 yX0_mend yX0_mend, Cond.code yX0_mend cX0_mend 2 none, Cond.fieldLink RX0 36 "Turbineorchard$Field" "brokenCount" "I", Cond.methodLink RX4 243 yX1_release, Cond.instanceMethod yX1_release, Cond.selects RX1 yX1_release yX1_release, Cond.code yX1_release cX1_release 2 none, Cond.methodLink RX4 225 yX1_beginDay, Cond.instanceMethod yX1_beginDay, Cond.selects RX1 yX1_beginDay yX1_beginDay, Cond.code yX1_beginDay cX1_beginDay 2 none]
def wsX4_pass : List Cond := .code yX4_pass cX4_pass 3 (some .int) :: ((wsX4_pass_r1 ++ (wsX4_pass_r2 ++ (wsX4_pass_r3 ++ (wsX4_pass_r4 ++ (wsX4_pass_r5 ++ (wsX4_pass_r6 ++ wsX4_pass_r7)))))) ++ wsX40 ++ wsX30 ++ wsX10 ++ wsX00 ++ wsX20 ++ (vx_atS RX4 72 "java/lang/IllegalArgumentException" ["java/lang/RuntimeException", "java/lang/Exception"]).filter goodWord ++ (vx_atS RX4 60 "java/lang/IllegalStateException" ["java/lang/RuntimeException", "java/lang/Exception"]).filter goodWord)
def wsX4_windAt_r1 : List Cond := [Cond.classLink RX4 45 "java/lang/IndexOutOfBoundsException", Cond.initialized "java/lang/IndexOutOfBoundsException", Cond.fieldLink RX4 19 "Turbineorchard" "field" "LTurbineorchard$Field;", Cond.fieldLink RX4 12 "Turbineorchard" "weather" "LTurbineorchard$Weather;", Cond.fieldLink RX4 37 "Turbineorchard" "now" "I", Cond.methodLink RX4 86 yX0_has, Cond.instanceMethod yX0_has, Cond.selects RX0 yX0_has yX0_has, Cond.initialized RX0, Cond.code yX0_has cX0_has 2 (some .boolean), Cond.fieldLink RX0 28 "Turbineorchard$Field" "count" "I", Cond.static yX4_isWithin, Cond.initialized RX4, Cond.code yX4_isWithin cX4_isWithin 3 (some .boolean), Cond.methodLink RX4 146 yX3_speedIn, Cond.instanceMethod yX3_speedIn, Cond.selects RX3 yX3_speedIn yX3_speedIn, Cond.initialized RX3, Cond.code yX3_speedIn cX3_speedIn 2 (some .int), Cond.fieldLink RX3 9 "Turbineorchard$Weather" "speeds" "[I", Cond.methodLink RX4 149 yX3_isWestIn, Cond.instanceMethod yX3_isWestIn, Cond.selects RX3 yX3_isWestIn yX3_isWestIn, Cond.code yX3_isWestIn cX3_isWestIn 2 (some .boolean)]
def wsX4_windAt_r2 : List Cond := [Cond.fieldLink RX3 15 "Turbineorchard$Weather" "wests" "[Z", Cond.methodLink RX4 152 yX0_windLeft, Cond.instanceMethod yX0_windLeft, Cond.selects RX0 yX0_windLeft yX0_windLeft, Cond.code yX0_windLeft cX0_windLeft 7 (some .int), Cond.fieldLink RX0 15 "Turbineorchard$Field" "places" "[I", Cond.methodLink RX0 64 yX0_distancesAhead, Cond.instanceMethod yX0_distancesAhead, Cond.selects RX0 yX0_distancesAhead yX0_distancesAhead, Cond.code yX0_distancesAhead cX0_distancesAhead 6 (some .int), Cond.methodLink RX0 72 yX0_placesAhead, Cond.static yX0_placesAhead, Cond.code yX0_placesAhead cX0_placesAhead 2 (some .int), Cond.methodLink RX0 75 yX0_lane, Cond.static yX0_lane, Cond.code yX0_lane cX0_lane 2 (some .int), Cond.methodLink RX0 51 yX0_turns, Cond.instanceMethod yX0_turns, Cond.selects RX0 yX0_turns yX0_turns, Cond.code yX0_turns cX0_turns 2 (some .boolean), Cond.fieldLink RX0 18 "Turbineorchard$Field" "broken" "[Z", Cond.fieldLink RX0 22 "Turbineorchard$Field" "stilled" "[Z", Cond.methodLink RX0 68 yX0_takenByWake, Cond.static yX0_takenByWake]
def wsX4_windAt_r3 : List Cond := [Cond.code yX0_takenByWake cX0_takenByWake 3 (some .int)]
def wsX4_windAt : List Cond := .code yX4_windAt cX4_windAt 2 (some .int) :: ((wsX4_windAt_r1 ++ (wsX4_windAt_r2 ++ wsX4_windAt_r3)) ++ wsX40 ++ wsX00 ++ wsX30 ++ (vx_atS RX4 49 "java/lang/IndexOutOfBoundsException" ["java/lang/RuntimeException", "java/lang/Exception"]).filter goodWord)
def wsX4_foretold_r1 : List Cond := [Cond.classLink RX4 68 "java/lang/IllegalArgumentException", Cond.initialized "java/lang/IllegalArgumentException", Cond.fieldLink RX4 19 "Turbineorchard" "field" "LTurbineorchard$Field;", Cond.fieldLink RX4 12 "Turbineorchard" "weather" "LTurbineorchard$Weather;", Cond.methodLink RX4 65 yX4_isToCome, Cond.instanceMethod yX4_isToCome, Cond.selects RX4 yX4_isToCome yX4_isToCome, Cond.initialized RX4, Cond.code yX4_isToCome cX4_isToCome 2 (some .boolean), Cond.fieldLink RX4 37 "Turbineorchard" "now" "I", Cond.methodLink RX4 41 yX4_isWithin, Cond.static yX4_isWithin, Cond.code yX4_isWithin cX4_isWithin 3 (some .boolean), Cond.methodLink RX4 146 yX3_speedIn, Cond.instanceMethod yX3_speedIn, Cond.selects RX3 yX3_speedIn yX3_speedIn, Cond.initialized RX3, Cond.code yX3_speedIn cX3_speedIn 2 (some .int), Cond.fieldLink RX3 9 "Turbineorchard$Weather" "speeds" "[I", Cond.methodLink RX4 149 yX3_isWestIn, Cond.instanceMethod yX3_isWestIn, Cond.selects RX3 yX3_isWestIn yX3_isWestIn, Cond.code yX3_isWestIn cX3_isWestIn 2 (some .boolean), Cond.fieldLink RX3 15 "Turbineorchard$Weather" "wests" "[Z"]
def wsX4_foretold_r2 : List Cond := [Cond.methodLink RX4 158 yX0_powerOfAll, Cond.instanceMethod yX0_powerOfAll, Cond.selects RX0 yX0_powerOfAll yX0_powerOfAll, Cond.initialized RX0, Cond.code yX0_powerOfAll cX0_powerOfAll 5 (some .int), Cond.fieldLink RX0 28 "Turbineorchard$Field" "count" "I", Cond.methodLink RX0 47 yX0_powerOf, Cond.instanceMethod yX0_powerOf, Cond.selects RX0 yX0_powerOf yX0_powerOf, Cond.code yX0_powerOf cX0_powerOf 4 (some .int), Cond.methodLink RX0 51 yX0_turns, Cond.instanceMethod yX0_turns, Cond.selects RX0 yX0_turns yX0_turns, Cond.code yX0_turns cX0_turns 2 (some .boolean), Cond.fieldLink RX0 18 "Turbineorchard$Field" "broken" "[Z", Cond.fieldLink RX0 22 "Turbineorchard$Field" "stilled" "[Z", Cond.methodLink RX0 61 yX0_windLeft, Cond.instanceMethod yX0_windLeft, Cond.selects RX0 yX0_windLeft yX0_windLeft, Cond.code yX0_windLeft cX0_windLeft 7 (some .int), Cond.fieldLink RX0 15 "Turbineorchard$Field" "places" "[I", Cond.methodLink RX0 64 yX0_distancesAhead, Cond.instanceMethod yX0_distancesAhead, Cond.selects RX0 yX0_distancesAhead yX0_distancesAhead]
def wsX4_foretold_r3 : List Cond := [Cond.code yX0_distancesAhead cX0_distancesAhead 6 (some .int), Cond.methodLink RX0 72 yX0_placesAhead, Cond.static yX0_placesAhead, Cond.code yX0_placesAhead cX0_placesAhead 2 (some .int), Cond.methodLink RX0 75 yX0_lane, Cond.static yX0_lane, Cond.code yX0_lane cX0_lane 2 (some .int), Cond.methodLink RX0 68 yX0_takenByWake, Cond.static yX0_takenByWake, Cond.code yX0_takenByWake cX0_takenByWake 3 (some .int), Cond.methodLink RX0 57 yX0_powerOfWind, Cond.static yX0_powerOfWind, Cond.code yX0_powerOfWind cX0_powerOfWind 1 (some .int), Cond.methodLink RX0 78 Lib.Math.min.name, Cond.static Lib.Math.min.name, Cond.initialized "java/lang/Math", Cond.code Lib.Math.min.name Lib.Math.min.code 2 (some .int)]
def wsX4_foretold : List Cond := .code yX4_foretold cX4_foretold 2 (some .int) :: ((wsX4_foretold_r1 ++ (wsX4_foretold_r2 ++ wsX4_foretold_r3)) ++ wsX40 ++ wsX30 ++ wsX00 ++ (vx_atS RX4 72 "java/lang/IllegalArgumentException" ["java/lang/RuntimeException", "java/lang/Exception"]).filter goodWord)
def wsX4_foretoldAnew_r1 : List Cond := [Cond.classLink RX4 68 "java/lang/IllegalArgumentException", Cond.initialized "java/lang/IllegalArgumentException", Cond.fieldLink RX4 19 "Turbineorchard" "field" "LTurbineorchard$Field;", Cond.fieldLink RX4 12 "Turbineorchard" "weather" "LTurbineorchard$Weather;", Cond.methodLink RX4 65 yX4_isToCome, Cond.instanceMethod yX4_isToCome, Cond.selects RX4 yX4_isToCome yX4_isToCome, Cond.initialized RX4, Cond.code yX4_isToCome cX4_isToCome 2 (some .boolean), Cond.fieldLink RX4 37 "Turbineorchard" "now" "I", Cond.methodLink RX4 41 yX4_isWithin, Cond.static yX4_isWithin, Cond.code yX4_isWithin cX4_isWithin 3 (some .boolean), Cond.methodLink RX4 146 yX3_speedIn, Cond.instanceMethod yX3_speedIn, Cond.selects RX3 yX3_speedIn yX3_speedIn, Cond.initialized RX3, Cond.code yX3_speedIn cX3_speedIn 2 (some .int), Cond.fieldLink RX3 9 "Turbineorchard$Weather" "speeds" "[I", Cond.methodLink RX4 149 yX3_isWestIn, Cond.instanceMethod yX3_isWestIn, Cond.selects RX3 yX3_isWestIn yX3_isWestIn, Cond.code yX3_isWestIn cX3_isWestIn 2 (some .boolean), Cond.fieldLink RX3 15 "Turbineorchard$Weather" "wests" "[Z"]
def wsX4_foretoldAnew_r2 : List Cond := [Cond.methodLink RX4 162 yX0_powerOfAllAnew, Cond.instanceMethod yX0_powerOfAllAnew, Cond.selects RX0 yX0_powerOfAllAnew yX0_powerOfAllAnew, Cond.initialized RX0, Cond.code yX0_powerOfAllAnew cX0_powerOfAllAnew 5 (some .int), Cond.fieldLink RX0 28 "Turbineorchard$Field" "count" "I", Cond.fieldLink RX0 15 "Turbineorchard$Field" "places" "[I", Cond.methodLink RX0 51 yX0_turns, Cond.instanceMethod yX0_turns, Cond.selects RX0 yX0_turns yX0_turns, Cond.code yX0_turns cX0_turns 2 (some .boolean), Cond.fieldLink RX0 18 "Turbineorchard$Field" "broken" "[Z", Cond.fieldLink RX0 22 "Turbineorchard$Field" "stilled" "[Z", Cond.methodLink RX0 54 yX0_windLeftAnew, Cond.instanceMethod yX0_windLeftAnew, Cond.selects RX0 yX0_windLeftAnew yX0_windLeftAnew, Cond.code yX0_windLeftAnew cX0_windLeftAnew 9 (some .int), Cond.fieldLink RX0 9 "Turbineorchard$Field" "turbineAt" "[I", Cond.methodLink RX0 72 yX0_placesAhead, Cond.static yX0_placesAhead, Cond.code yX0_placesAhead cX0_placesAhead 2 (some .int), Cond.methodLink RX0 43 yX0_has, Cond.instanceMethod yX0_has, Cond.selects RX0 yX0_has yX0_has]
def wsX4_foretoldAnew_r3 : List Cond := [Cond.code yX0_has cX0_has 2 (some .boolean), Cond.methodLink RX0 68 yX0_takenByWake, Cond.static yX0_takenByWake, Cond.code yX0_takenByWake cX0_takenByWake 3 (some .int), Cond.methodLink RX0 57 yX0_powerOfWind, Cond.static yX0_powerOfWind, Cond.code yX0_powerOfWind cX0_powerOfWind 1 (some .int), Cond.methodLink RX0 78 Lib.Math.min.name, Cond.static Lib.Math.min.name, Cond.initialized "java/lang/Math", Cond.code Lib.Math.min.name Lib.Math.min.code 2 (some .int)]
def wsX4_foretoldAnew : List Cond := .code yX4_foretoldAnew cX4_foretoldAnew 2 (some .int) :: ((wsX4_foretoldAnew_r1 ++ (wsX4_foretoldAnew_r2 ++ wsX4_foretoldAnew_r3)) ++ wsX40 ++ wsX30 ++ wsX00 ++ (vx_atS RX4 72 "java/lang/IllegalArgumentException" ["java/lang/RuntimeException", "java/lang/Exception"]).filter goodWord)
def wsX4_isOver : List Cond := .code yX4_isOver cX4_isOver 2 (some .boolean) :: ([.fieldLink RX4 37 "Turbineorchard" "now" "I", .methodLink RX4 41 yX4_isWithin, .static yX4_isWithin, .initialized RX4, .code yX4_isWithin cX4_isWithin 3 (some .boolean)] ++ wsX40)
def wsX4_ofHour_r1 : List Cond := [Cond.classLink RX4 68 "java/lang/IllegalArgumentException", Cond.initialized "java/lang/IllegalArgumentException", Cond.fieldLink RX4 33 "Turbineorchard" "ledger" "LTurbineorchard$Ledger;", Cond.methodLink RX4 165 yX4_isOver, Cond.instanceMethod yX4_isOver, Cond.selects RX4 yX4_isOver yX4_isOver, Cond.initialized RX4, Cond.code yX4_isOver cX4_isOver 2 (some .boolean), Cond.fieldLink RX4 37 "Turbineorchard" "now" "I", Cond.methodLink RX4 41 yX4_isWithin, Cond.static yX4_isWithin, Cond.code yX4_isWithin cX4_isWithin 3 (some .boolean), Cond.methodLink RX4 170 yX2_madeIn, Cond.instanceMethod yX2_madeIn, Cond.selects RX2 yX2_madeIn yX2_madeIn, Cond.initialized RX2, Cond.code yX2_madeIn cX2_madeIn 2 (some .int), Cond.fieldLink RX2 18 "Turbineorchard$Ledger" "made" "[I", Cond.methodLink RX4 173 yX2_soldFor, Cond.instanceMethod yX2_soldFor, Cond.selects RX2 yX2_soldFor yX2_soldFor, Cond.code yX2_soldFor cX2_soldFor 2 (some .int), Cond.fieldLink RX2 9 "Turbineorchard$Ledger" "slots" "[I", Cond.methodLink RX4 176 yX2_imbalanceOf]
def wsX4_ofHour_r2 : List Cond := [Cond.instanceMethod yX2_imbalanceOf, Cond.selects RX2 yX2_imbalanceOf yX2_imbalanceOf, Cond.code yX2_imbalanceOf cX2_imbalanceOf 2 (some .int), Cond.methodLink RX2 29 yX2_soldFor, Cond.methodLink RX4 179 yX2_proceedsOf, Cond.instanceMethod yX2_proceedsOf, Cond.selects RX2 yX2_proceedsOf yX2_proceedsOf, Cond.code yX2_proceedsOf cX2_proceedsOf 5 (some .int), Cond.fieldLink RX2 15 "Turbineorchard$Ledger" "prices" "[I", Cond.methodLink RX2 32 yX2_imbalanceOf]
def wsX4_ofHour : List Cond := .code yX4_ofHour cX4_ofHour 3 (some .int) :: ((wsX4_ofHour_r1 ++ wsX4_ofHour_r2) ++ wsX40 ++ wsX20 ++ (vx_atS RX4 72 "java/lang/IllegalArgumentException" ["java/lang/RuntimeException", "java/lang/Exception"]).filter goodWord)
def wsX4_ratio : List Cond := .code yX4_ratio cX4_ratio 2 (some .float) :: ([.classLink RX4 68 "java/lang/IllegalArgumentException", .initialized "java/lang/IllegalArgumentException", .fieldLink RX4 33 "Turbineorchard" "ledger" "LTurbineorchard$Ledger;", .methodLink RX4 165 yX4_isOver, .instanceMethod yX4_isOver, .selects RX4 yX4_isOver yX4_isOver, .initialized RX4, .code yX4_isOver cX4_isOver 2 (some .boolean), .fieldLink RX4 37 "Turbineorchard" "now" "I", .methodLink RX4 41 yX4_isWithin, .static yX4_isWithin, .code yX4_isWithin cX4_isWithin 3 (some .boolean), .methodLink RX4 182 yX2_madeToSold, .instanceMethod yX2_madeToSold, .selects RX2 yX2_madeToSold yX2_madeToSold, .initialized RX2, .code yX2_madeToSold cX2_madeToSold 3 (some .float), .fieldLink RX2 18 "Turbineorchard$Ledger" "made" "[I", .methodLink RX2 29 yX2_soldFor, .instanceMethod yX2_soldFor, .selects RX2 yX2_soldFor yX2_soldFor, .code yX2_soldFor cX2_soldFor 2 (some .int), .fieldLink RX2 9 "Turbineorchard$Ledger" "slots" "[I"] ++ wsX40 ++ wsX20 ++ (vx_atS RX4 72 "java/lang/IllegalArgumentException" ["java/lang/RuntimeException", "java/lang/Exception"]).filter goodWord)
def wsX4_ofBoat_r1 : List Cond := [Cond.classLink RX4 45 "java/lang/IndexOutOfBoundsException", Cond.initialized "java/lang/IndexOutOfBoundsException", Cond.classLink RX4 68 "java/lang/IllegalArgumentException", Cond.initialized "java/lang/IllegalArgumentException", Cond.fieldLink RX4 26 "Turbineorchard" "fleet" "LTurbineorchard$Fleet;", Cond.methodLink RX4 104 yX4_isBoat, Cond.static yX4_isBoat, Cond.initialized RX4, Cond.code yX4_isBoat cX4_isBoat 1 (some .boolean), Cond.methodLink RX4 41 yX4_isWithin, Cond.static yX4_isWithin, Cond.code yX4_isWithin cX4_isWithin 3 (some .boolean), Cond.methodLink RX4 188 yX1_turbineOf, Cond.instanceMethod yX1_turbineOf, Cond.selects RX1 yX1_turbineOf yX1_turbineOf, Cond.initialized RX1, Cond.code yX1_turbineOf cX1_turbineOf 2 (some .int), Cond.fieldLink RX1 9 "Turbineorchard$Fleet" "turbines" "[I", Cond.methodLink RX4 191 yX1_hoursLeft, Cond.instanceMethod yX1_hoursLeft, Cond.selects RX1 yX1_hoursLeft yX1_hoursLeft, Cond.code yX1_hoursLeft cX1_hoursLeft 2 (some .int), Cond.fieldLink RX1 15 "Turbineorchard$Fleet" "left" "[I", Cond.methodLink RX4 194 yX1_workedToday]
def wsX4_ofBoat_r2 : List Cond := [Cond.instanceMethod yX1_workedToday, Cond.selects RX1 yX1_workedToday yX1_workedToday, Cond.code yX1_workedToday cX1_workedToday 2 (some .int), Cond.fieldLink RX1 21 "Turbineorchard$Fleet" "today" "[I", Cond.methodLink RX4 197 yX1_workedInAll, Cond.instanceMethod yX1_workedInAll, Cond.selects RX1 yX1_workedInAll yX1_workedInAll, Cond.code yX1_workedInAll cX1_workedInAll 2 (some .int), Cond.fieldLink RX1 24 "Turbineorchard$Fleet" "inAll" "[I"]
def wsX4_ofBoat : List Cond := .code yX4_ofBoat cX4_ofBoat 3 (some .int) :: ((wsX4_ofBoat_r1 ++ wsX4_ofBoat_r2) ++ wsX40 ++ wsX10 ++ (vx_atS RX4 49 "java/lang/IndexOutOfBoundsException" ["java/lang/RuntimeException", "java/lang/Exception"]).filter goodWord ++ (vx_atS RX4 72 "java/lang/IllegalArgumentException" ["java/lang/RuntimeException", "java/lang/Exception"]).filter goodWord)
def wsX4_ofTurbine_r1 : List Cond := [Cond.classLink RX4 45 "java/lang/IndexOutOfBoundsException", Cond.initialized "java/lang/IndexOutOfBoundsException", Cond.classLink RX4 68 "java/lang/IllegalArgumentException", Cond.initialized "java/lang/IllegalArgumentException", Cond.fieldLink RX4 19 "Turbineorchard" "field" "LTurbineorchard$Field;", Cond.methodLink RX4 86 yX0_has, Cond.instanceMethod yX0_has, Cond.selects RX0 yX0_has yX0_has, Cond.initialized RX0, Cond.code yX0_has cX0_has 2 (some .boolean), Cond.fieldLink RX0 28 "Turbineorchard$Field" "count" "I", Cond.static yX4_isWithin, Cond.initialized RX4, Cond.code yX4_isWithin cX4_isWithin 3 (some .boolean), Cond.methodLink RX4 41 yX4_isWithin, Cond.methodLink RX4 200 yX0_placeOf, Cond.instanceMethod yX0_placeOf, Cond.selects RX0 yX0_placeOf yX0_placeOf, Cond.code yX0_placeOf cX0_placeOf 2 (some .int), Cond.fieldLink RX0 15 "Turbineorchard$Field" "places" "[I", Cond.methodLink RX4 91 yX0_isBroken, Cond.instanceMethod yX0_isBroken, Cond.selects RX0 yX0_isBroken yX0_isBroken, Cond.code yX0_isBroken cX0_isBroken 2 (some .boolean)]
def wsX4_ofTurbine_r2 : List Cond := [Cond.fieldLink RX0 18 "Turbineorchard$Field" "broken" "[Z", Cond.methodLink RX4 203 yX0_madeInAllBy, Cond.instanceMethod yX0_madeInAllBy, Cond.selects RX0 yX0_madeInAllBy yX0_madeInAllBy, Cond.code yX0_madeInAllBy cX0_madeInAllBy 2 (some .int), Cond.fieldLink RX0 25 "Turbineorchard$Field" "madeInAll" "[I"]
def wsX4_ofTurbine : List Cond := .code yX4_ofTurbine cX4_ofTurbine 3 (some .int) :: ((wsX4_ofTurbine_r1 ++ wsX4_ofTurbine_r2) ++ wsX40 ++ wsX00 ++ (vx_atS RX4 49 "java/lang/IndexOutOfBoundsException" ["java/lang/RuntimeException", "java/lang/Exception"]).filter goodWord ++ (vx_atS RX4 72 "java/lang/IllegalArgumentException" ["java/lang/RuntimeException", "java/lang/Exception"]).filter goodWord)
def wsX4_brought : List Cond := .code yX4_brought cX4_brought 1 (some .long) :: ([.fieldLink RX4 33 "Turbineorchard" "ledger" "LTurbineorchard$Ledger;", .methodLink RX4 206 yX2_proceedsInAll, .instanceMethod yX2_proceedsInAll, .selects RX2 yX2_proceedsInAll yX2_proceedsInAll, .initialized RX2, .code yX2_proceedsInAll cX2_proceedsInAll 1 (some .long), .fieldLink RX2 21 "Turbineorchard$Ledger" "proceeds" "J"] ++ wsX40 ++ wsX20)
def wsX5_init : List Cond := .code yX5_init cX5_init 2 none :: ([.methodLink RX5 1 objectInit, .instanceMethod objectInit, .code objectInit ⟨#[0xb1]⟩ 1 none, .arrayClass .int, .fieldLink RX5 7 "TurbineorchardModel" "place" "[I", .fieldLink RX5 13 "TurbineorchardModel" "broken" "[I", .fieldLink RX5 16 "TurbineorchardModel" "made" "[I", .fieldLink RX5 19 "TurbineorchardModel" "turns" "[I", .fieldLink RX5 22 "TurbineorchardModel" "speed" "[I", .fieldLink RX5 25 "TurbineorchardModel" "west" "[I", .fieldLink RX5 28 "TurbineorchardModel" "told" "[I", .fieldLink RX5 31 "TurbineorchardModel" "sold" "[I", .fieldLink RX5 34 "TurbineorchardModel" "price" "[I", .fieldLink RX5 37 "TurbineorchardModel" "all" "[I", .fieldLink RX5 40 "TurbineorchardModel" "money" "[I", .fieldLink RX5 43 "TurbineorchardModel" "crew" "[I", .fieldLink RX5 46 "TurbineorchardModel" "at" "[I", .fieldLink RX5 49 "TurbineorchardModel" "left" "[I", .fieldLink RX5 52 "TurbineorchardModel" "today" "[I", .fieldLink RX5 55 "TurbineorchardModel" "worked" "[I"] ++ wsX50)
def wsX5_thrown : List Cond := .code yX5_thrown cX5_thrown 1 (some .int) :: ([.fieldLink RX5 58 "TurbineorchardModel" "thrown" "I"] ++ wsX50)
def wsX5_fails : List Cond := .code yX5_fails cX5_fails 2 (some .boolean) :: ([.fieldLink RX5 58 "TurbineorchardModel" "thrown" "I"] ++ wsX50)
def wsX5_in : List Cond := .code yX5_in cX5_in 4 (some .boolean) :: ([])
def wsX5_isTurbine : List Cond := .code yX5_isTurbine cX5_isTurbine 2 (some .boolean) :: ([.fieldLink RX5 62 "TurbineorchardModel" "turbines" "I", .methodLink RX5 65 yX5_in, .instanceMethod yX5_in, .selects RX5 yX5_in yX5_in, .initialized RX5, .code yX5_in cX5_in 4 (some .boolean)] ++ wsX50)
def wsX5_turbine : List Cond := .code yX5_turbine cX5_turbine 4 (some .int) :: ([.fieldLink RX5 62 "TurbineorchardModel" "turbines" "I", .fieldLink RX5 7 "TurbineorchardModel" "place" "[I", .methodLink RX5 65 yX5_in, .instanceMethod yX5_in, .selects RX5 yX5_in yX5_in, .initialized RX5, .code yX5_in cX5_in 4 (some .boolean), .methodLink RX5 69 yX5_fails, .instanceMethod yX5_fails, .selects RX5 yX5_fails yX5_fails, .code yX5_fails cX5_fails 2 (some .boolean), .fieldLink RX5 58 "TurbineorchardModel" "thrown" "I"] ++ wsX50)
def wsX5_wind : List Cond := .code yX5_wind cX5_wind 7 (some .int) :: ([.fieldLink RX5 73 "TurbineorchardModel" "now" "I", .fieldLink RX5 22 "TurbineorchardModel" "speed" "[I", .fieldLink RX5 25 "TurbineorchardModel" "west" "[I", .methodLink RX5 65 yX5_in, .instanceMethod yX5_in, .selects RX5 yX5_in yX5_in, .initialized RX5, .code yX5_in cX5_in 4 (some .boolean), .methodLink RX5 69 yX5_fails, .instanceMethod yX5_fails, .selects RX5 yX5_fails yX5_fails, .code yX5_fails cX5_fails 2 (some .boolean), .fieldLink RX5 58 "TurbineorchardModel" "thrown" "I"] ++ wsX50)
def wsX5_wavesOf : List Cond := .code yX5_wavesOf cX5_wavesOf 2 (some .int) :: ([.fieldLink RX5 28 "TurbineorchardModel" "told" "[I", .fieldLink RX5 22 "TurbineorchardModel" "speed" "[I"] ++ wsX50)
def wsX5_waves : List Cond := .code yX5_waves cX5_waves 5 (some .int) :: ([.fieldLink RX5 73 "TurbineorchardModel" "now" "I", .fieldLink RX5 28 "TurbineorchardModel" "told" "[I", .methodLink RX5 65 yX5_in, .instanceMethod yX5_in, .selects RX5 yX5_in yX5_in, .initialized RX5, .code yX5_in cX5_in 4 (some .boolean), .methodLink RX5 69 yX5_fails, .instanceMethod yX5_fails, .selects RX5 yX5_fails yX5_fails, .code yX5_fails cX5_fails 2 (some .boolean), .fieldLink RX5 58 "TurbineorchardModel" "thrown" "I", .methodLink RX5 76 yX5_wavesOf, .instanceMethod yX5_wavesOf, .selects RX5 yX5_wavesOf yX5_wavesOf, .code yX5_wavesOf cX5_wavesOf 2 (some .int), .fieldLink RX5 22 "TurbineorchardModel" "speed" "[I"] ++ wsX50)
def wsX5_breaks : List Cond := .code yX5_breaks cX5_breaks 5 (some .int) :: ([.fieldLink RX5 13 "TurbineorchardModel" "broken" "[I", .fieldLink RX5 62 "TurbineorchardModel" "turbines" "I", .methodLink RX5 80 yX5_isTurbine, .instanceMethod yX5_isTurbine, .selects RX5 yX5_isTurbine yX5_isTurbine, .initialized RX5, .code yX5_isTurbine cX5_isTurbine 2 (some .boolean), .methodLink RX5 65 yX5_in, .instanceMethod yX5_in, .selects RX5 yX5_in yX5_in, .code yX5_in cX5_in 4 (some .boolean), .methodLink RX5 69 yX5_fails, .instanceMethod yX5_fails, .selects RX5 yX5_fails yX5_fails, .code yX5_fails cX5_fails 2 (some .boolean), .fieldLink RX5 58 "TurbineorchardModel" "thrown" "I"] ++ wsX50)
def wsX5_crew : List Cond := .code yX5_crew cX5_crew 4 (some .int) :: ([.fieldLink RX5 43 "TurbineorchardModel" "crew" "[I", .methodLink RX5 65 yX5_in, .instanceMethod yX5_in, .selects RX5 yX5_in yX5_in, .initialized RX5, .code yX5_in cX5_in 4 (some .boolean), .methodLink RX5 69 yX5_fails, .instanceMethod yX5_fails, .selects RX5 yX5_fails yX5_fails, .code yX5_fails cX5_fails 2 (some .boolean), .fieldLink RX5 58 "TurbineorchardModel" "thrown" "I"] ++ wsX50)
def wsX5_repair : List Cond := .code yX5_repair cX5_repair 6 none :: ([.fieldLink RX5 46 "TurbineorchardModel" "at" "[I", .fieldLink RX5 13 "TurbineorchardModel" "broken" "[I", .fieldLink RX5 49 "TurbineorchardModel" "left" "[I", .methodLink RX5 65 yX5_in, .instanceMethod yX5_in, .selects RX5 yX5_in yX5_in, .initialized RX5, .code yX5_in cX5_in 4 (some .boolean), .methodLink RX5 80 yX5_isTurbine, .instanceMethod yX5_isTurbine, .selects RX5 yX5_isTurbine yX5_isTurbine, .code yX5_isTurbine cX5_isTurbine 2 (some .boolean), .fieldLink RX5 62 "TurbineorchardModel" "turbines" "I", .methodLink RX5 69 yX5_fails, .instanceMethod yX5_fails, .selects RX5 yX5_fails yX5_fails, .code yX5_fails cX5_fails 2 (some .boolean), .fieldLink RX5 58 "TurbineorchardModel" "thrown" "I"] ++ wsX50)
def wsX5_sell : List Cond := .code yX5_sell cX5_sell 6 (some .int) :: ([.fieldLink RX5 73 "TurbineorchardModel" "now" "I", .fieldLink RX5 31 "TurbineorchardModel" "sold" "[I", .fieldLink RX5 34 "TurbineorchardModel" "price" "[I", .methodLink RX5 65 yX5_in, .instanceMethod yX5_in, .selects RX5 yX5_in yX5_in, .initialized RX5, .code yX5_in cX5_in 4 (some .boolean), .methodLink RX5 69 yX5_fails, .instanceMethod yX5_fails, .selects RX5 yX5_fails yX5_fails, .code yX5_fails cX5_fails 2 (some .boolean), .fieldLink RX5 58 "TurbineorchardModel" "thrown" "I"] ++ wsX50)
def wsX5_ahead : List Cond := .code yX5_ahead cX5_ahead 7 (some .int) :: ([.fieldLink RX5 7 "TurbineorchardModel" "place" "[I", .fieldLink RX5 25 "TurbineorchardModel" "west" "[I", .fieldLink RX5 62 "TurbineorchardModel" "turbines" "I", .fieldLink RX5 19 "TurbineorchardModel" "turns" "[I"] ++ wsX50)
def wsX5_windOf : List Cond := .code yX5_windOf cX5_windOf 6 (some .int) :: ([.fieldLink RX5 22 "TurbineorchardModel" "speed" "[I", .methodLink RX5 83 yX5_ahead, .instanceMethod yX5_ahead, .selects RX5 yX5_ahead yX5_ahead, .initialized RX5, .code yX5_ahead cX5_ahead 7 (some .int), .fieldLink RX5 7 "TurbineorchardModel" "place" "[I", .fieldLink RX5 25 "TurbineorchardModel" "west" "[I", .fieldLink RX5 62 "TurbineorchardModel" "turbines" "I", .fieldLink RX5 19 "TurbineorchardModel" "turns" "[I"] ++ wsX50)
def wsX5_power : List Cond := .code yX5_power cX5_power 4 (some .int) :: ([.fieldLink RX5 19 "TurbineorchardModel" "turns" "[I", .methodLink RX5 87 yX5_windOf, .instanceMethod yX5_windOf, .selects RX5 yX5_windOf yX5_windOf, .initialized RX5, .code yX5_windOf cX5_windOf 6 (some .int), .fieldLink RX5 22 "TurbineorchardModel" "speed" "[I", .methodLink RX5 83 yX5_ahead, .instanceMethod yX5_ahead, .selects RX5 yX5_ahead yX5_ahead, .code yX5_ahead cX5_ahead 7 (some .int), .fieldLink RX5 7 "TurbineorchardModel" "place" "[I", .fieldLink RX5 25 "TurbineorchardModel" "west" "[I", .fieldLink RX5 62 "TurbineorchardModel" "turbines" "I"] ++ wsX50)
def wsX5_allTurn : List Cond := .code yX5_allTurn cX5_allTurn 2 none :: ([.fieldLink RX5 62 "TurbineorchardModel" "turbines" "I", .fieldLink RX5 19 "TurbineorchardModel" "turns" "[I", .fieldLink RX5 13 "TurbineorchardModel" "broken" "[I"] ++ wsX50)
def wsX5_areBeside : List Cond := .code yX5_areBeside cX5_areBeside 5 (some .boolean) :: ([])
def wsX5_repairs : List Cond := .code yX5_repairs cX5_repairs 4 none :: ([.fieldLink RX5 46 "TurbineorchardModel" "at" "[I", .fieldLink RX5 52 "TurbineorchardModel" "today" "[I", .fieldLink RX5 43 "TurbineorchardModel" "crew" "[I", .fieldLink RX5 49 "TurbineorchardModel" "left" "[I", .fieldLink RX5 55 "TurbineorchardModel" "worked" "[I", .fieldLink RX5 62 "TurbineorchardModel" "turbines" "I", .fieldLink RX5 19 "TurbineorchardModel" "turns" "[I", .fieldLink RX5 7 "TurbineorchardModel" "place" "[I", .methodLink RX5 91 yX5_allTurn, .instanceMethod yX5_allTurn, .selects RX5 yX5_allTurn yX5_allTurn, .initialized RX5, .code yX5_allTurn cX5_allTurn 2 none, .fieldLink RX5 13 "TurbineorchardModel" "broken" "[I", .methodLink RX5 76 yX5_wavesOf, .instanceMethod yX5_wavesOf, .selects RX5 yX5_wavesOf yX5_wavesOf, .code yX5_wavesOf cX5_wavesOf 2 (some .int), .fieldLink RX5 28 "TurbineorchardModel" "told" "[I", .fieldLink RX5 22 "TurbineorchardModel" "speed" "[I", .methodLink RX5 94 yX5_areBeside, .instanceMethod yX5_areBeside, .selects RX5 yX5_areBeside yX5_areBeside, .code yX5_areBeside cX5_areBeside 5 (some .boolean)] ++ wsX50)
def wsX5_frees : List Cond := .code yX5_frees cX5_frees 2 none :: ([.fieldLink RX5 46 "TurbineorchardModel" "at" "[I", .fieldLink RX5 49 "TurbineorchardModel" "left" "[I", .fieldLink RX5 13 "TurbineorchardModel" "broken" "[I"] ++ wsX50)
def wsX5_accounts : List Cond := .code yX5_accounts cX5_accounts 4 none :: ([.fieldLink RX5 31 "TurbineorchardModel" "sold" "[I", .fieldLink RX5 37 "TurbineorchardModel" "all" "[I", .fieldLink RX5 40 "TurbineorchardModel" "money" "[I", .fieldLink RX5 34 "TurbineorchardModel" "price" "[I"] ++ wsX50)
def wsX5_pass_r1 : List Cond := [Cond.fieldLink RX5 73 "TurbineorchardModel" "now" "I", Cond.fieldLink RX5 62 "TurbineorchardModel" "turbines" "I", Cond.fieldLink RX5 16 "TurbineorchardModel" "made" "[I", Cond.fieldLink RX5 37 "TurbineorchardModel" "all" "[I", Cond.fieldLink RX5 52 "TurbineorchardModel" "today" "[I", Cond.methodLink RX5 65 yX5_in, Cond.instanceMethod yX5_in, Cond.selects RX5 yX5_in yX5_in, Cond.initialized RX5, Cond.code yX5_in cX5_in 4 (some .boolean), Cond.methodLink RX5 69 yX5_fails, Cond.instanceMethod yX5_fails, Cond.selects RX5 yX5_fails yX5_fails, Cond.code yX5_fails cX5_fails 2 (some .boolean), Cond.fieldLink RX5 58 "TurbineorchardModel" "thrown" "I", Cond.methodLink RX5 98 yX5_repairs, Cond.instanceMethod yX5_repairs, Cond.selects RX5 yX5_repairs yX5_repairs, Cond.code yX5_repairs cX5_repairs 4 none, Cond.fieldLink RX5 46 "TurbineorchardModel" "at" "[I", Cond.fieldLink RX5 43 "TurbineorchardModel" "crew" "[I", Cond.fieldLink RX5 49 "TurbineorchardModel" "left" "[I", Cond.fieldLink RX5 55 "TurbineorchardModel" "worked" "[I", Cond.fieldLink RX5 19 "TurbineorchardModel" "turns" "[I"]
def wsX5_pass_r2 : List Cond := [Cond.fieldLink RX5 7 "TurbineorchardModel" "place" "[I", Cond.methodLink RX5 91 yX5_allTurn, Cond.instanceMethod yX5_allTurn, Cond.selects RX5 yX5_allTurn yX5_allTurn, Cond.code yX5_allTurn cX5_allTurn 2 none, Cond.fieldLink RX5 13 "TurbineorchardModel" "broken" "[I", Cond.methodLink RX5 76 yX5_wavesOf, Cond.instanceMethod yX5_wavesOf, Cond.selects RX5 yX5_wavesOf yX5_wavesOf, Cond.code yX5_wavesOf cX5_wavesOf 2 (some .int), Cond.fieldLink RX5 28 "TurbineorchardModel" "told" "[I", Cond.fieldLink RX5 22 "TurbineorchardModel" "speed" "[I", Cond.methodLink RX5 94 yX5_areBeside, Cond.instanceMethod yX5_areBeside, Cond.selects RX5 yX5_areBeside yX5_areBeside, Cond.code yX5_areBeside cX5_areBeside 5 (some .boolean), Cond.methodLink RX5 102 yX5_power, Cond.instanceMethod yX5_power, Cond.selects RX5 yX5_power yX5_power, Cond.code yX5_power cX5_power 4 (some .int), Cond.methodLink RX5 87 yX5_windOf, Cond.instanceMethod yX5_windOf, Cond.selects RX5 yX5_windOf yX5_windOf, Cond.code yX5_windOf cX5_windOf 6 (some .int)]
def wsX5_pass_r3 : List Cond := [Cond.methodLink RX5 83 yX5_ahead, Cond.instanceMethod yX5_ahead, Cond.selects RX5 yX5_ahead yX5_ahead, Cond.code yX5_ahead cX5_ahead 7 (some .int), Cond.fieldLink RX5 25 "TurbineorchardModel" "west" "[I", Cond.methodLink RX5 105 yX5_accounts, Cond.instanceMethod yX5_accounts, Cond.selects RX5 yX5_accounts yX5_accounts, Cond.code yX5_accounts cX5_accounts 4 none, Cond.fieldLink RX5 31 "TurbineorchardModel" "sold" "[I", Cond.fieldLink RX5 40 "TurbineorchardModel" "money" "[I", Cond.fieldLink RX5 34 "TurbineorchardModel" "price" "[I", Cond.methodLink RX5 108 yX5_frees, Cond.instanceMethod yX5_frees, Cond.selects RX5 yX5_frees yX5_frees, Cond.code yX5_frees cX5_frees 2 none]
def wsX5_pass : List Cond := .code yX5_pass cX5_pass 5 (some .int) :: ((wsX5_pass_r1 ++ (wsX5_pass_r2 ++ wsX5_pass_r3)) ++ wsX50)
def wsX5_windAt_r1 : List Cond := [Cond.fieldLink RX5 73 "TurbineorchardModel" "now" "I", Cond.methodLink RX5 80 yX5_isTurbine, Cond.instanceMethod yX5_isTurbine, Cond.selects RX5 yX5_isTurbine yX5_isTurbine, Cond.initialized RX5, Cond.code yX5_isTurbine cX5_isTurbine 2 (some .boolean), Cond.fieldLink RX5 62 "TurbineorchardModel" "turbines" "I", Cond.methodLink RX5 65 yX5_in, Cond.instanceMethod yX5_in, Cond.selects RX5 yX5_in yX5_in, Cond.code yX5_in cX5_in 4 (some .boolean), Cond.methodLink RX5 69 yX5_fails, Cond.instanceMethod yX5_fails, Cond.selects RX5 yX5_fails yX5_fails, Cond.code yX5_fails cX5_fails 2 (some .boolean), Cond.fieldLink RX5 58 "TurbineorchardModel" "thrown" "I", Cond.methodLink RX5 91 yX5_allTurn, Cond.instanceMethod yX5_allTurn, Cond.selects RX5 yX5_allTurn yX5_allTurn, Cond.code yX5_allTurn cX5_allTurn 2 none, Cond.fieldLink RX5 19 "TurbineorchardModel" "turns" "[I", Cond.fieldLink RX5 13 "TurbineorchardModel" "broken" "[I", Cond.methodLink RX5 87 yX5_windOf, Cond.instanceMethod yX5_windOf]
def wsX5_windAt_r2 : List Cond := [Cond.selects RX5 yX5_windOf yX5_windOf, Cond.code yX5_windOf cX5_windOf 6 (some .int), Cond.fieldLink RX5 22 "TurbineorchardModel" "speed" "[I", Cond.methodLink RX5 83 yX5_ahead, Cond.instanceMethod yX5_ahead, Cond.selects RX5 yX5_ahead yX5_ahead, Cond.code yX5_ahead cX5_ahead 7 (some .int), Cond.fieldLink RX5 7 "TurbineorchardModel" "place" "[I", Cond.fieldLink RX5 25 "TurbineorchardModel" "west" "[I"]
def wsX5_windAt : List Cond := .code yX5_windAt cX5_windAt 2 (some .int) :: ((wsX5_windAt_r1 ++ wsX5_windAt_r2) ++ wsX50)
def wsX5_sum : List Cond := .code yX5_sum cX5_sum 4 (some .int) :: ([.fieldLink RX5 62 "TurbineorchardModel" "turbines" "I", .methodLink RX5 91 yX5_allTurn, .instanceMethod yX5_allTurn, .selects RX5 yX5_allTurn yX5_allTurn, .initialized RX5, .code yX5_allTurn cX5_allTurn 2 none, .fieldLink RX5 19 "TurbineorchardModel" "turns" "[I", .fieldLink RX5 13 "TurbineorchardModel" "broken" "[I", .methodLink RX5 102 yX5_power, .instanceMethod yX5_power, .selects RX5 yX5_power yX5_power, .code yX5_power cX5_power 4 (some .int), .methodLink RX5 87 yX5_windOf, .instanceMethod yX5_windOf, .selects RX5 yX5_windOf yX5_windOf, .code yX5_windOf cX5_windOf 6 (some .int), .fieldLink RX5 22 "TurbineorchardModel" "speed" "[I", .methodLink RX5 83 yX5_ahead, .instanceMethod yX5_ahead, .selects RX5 yX5_ahead yX5_ahead, .code yX5_ahead cX5_ahead 7 (some .int), .fieldLink RX5 7 "TurbineorchardModel" "place" "[I", .fieldLink RX5 25 "TurbineorchardModel" "west" "[I"] ++ wsX50)
def wsX5_foretold_r1 : List Cond := [Cond.fieldLink RX5 73 "TurbineorchardModel" "now" "I", Cond.methodLink RX5 65 yX5_in, Cond.instanceMethod yX5_in, Cond.selects RX5 yX5_in yX5_in, Cond.initialized RX5, Cond.code yX5_in cX5_in 4 (some .boolean), Cond.methodLink RX5 69 yX5_fails, Cond.instanceMethod yX5_fails, Cond.selects RX5 yX5_fails yX5_fails, Cond.code yX5_fails cX5_fails 2 (some .boolean), Cond.fieldLink RX5 58 "TurbineorchardModel" "thrown" "I", Cond.methodLink RX5 111 yX5_sum, Cond.instanceMethod yX5_sum, Cond.selects RX5 yX5_sum yX5_sum, Cond.code yX5_sum cX5_sum 4 (some .int), Cond.fieldLink RX5 62 "TurbineorchardModel" "turbines" "I", Cond.methodLink RX5 91 yX5_allTurn, Cond.instanceMethod yX5_allTurn, Cond.selects RX5 yX5_allTurn yX5_allTurn, Cond.code yX5_allTurn cX5_allTurn 2 none, Cond.fieldLink RX5 19 "TurbineorchardModel" "turns" "[I", Cond.fieldLink RX5 13 "TurbineorchardModel" "broken" "[I", Cond.methodLink RX5 102 yX5_power, Cond.instanceMethod yX5_power]
def wsX5_foretold_r2 : List Cond := [Cond.selects RX5 yX5_power yX5_power, Cond.code yX5_power cX5_power 4 (some .int), Cond.methodLink RX5 87 yX5_windOf, Cond.instanceMethod yX5_windOf, Cond.selects RX5 yX5_windOf yX5_windOf, Cond.code yX5_windOf cX5_windOf 6 (some .int), Cond.fieldLink RX5 22 "TurbineorchardModel" "speed" "[I", Cond.methodLink RX5 83 yX5_ahead, Cond.instanceMethod yX5_ahead, Cond.selects RX5 yX5_ahead yX5_ahead, Cond.code yX5_ahead cX5_ahead 7 (some .int), Cond.fieldLink RX5 7 "TurbineorchardModel" "place" "[I", Cond.fieldLink RX5 25 "TurbineorchardModel" "west" "[I"]
def wsX5_foretold : List Cond := .code yX5_foretold cX5_foretold 2 (some .int) :: ((wsX5_foretold_r1 ++ wsX5_foretold_r2) ++ wsX50)
def wsX5_foretoldAnew_r1 : List Cond := [Cond.fieldLink RX5 73 "TurbineorchardModel" "now" "I", Cond.methodLink RX5 65 yX5_in, Cond.instanceMethod yX5_in, Cond.selects RX5 yX5_in yX5_in, Cond.initialized RX5, Cond.code yX5_in cX5_in 4 (some .boolean), Cond.methodLink RX5 69 yX5_fails, Cond.instanceMethod yX5_fails, Cond.selects RX5 yX5_fails yX5_fails, Cond.code yX5_fails cX5_fails 2 (some .boolean), Cond.fieldLink RX5 58 "TurbineorchardModel" "thrown" "I", Cond.methodLink RX5 111 yX5_sum, Cond.instanceMethod yX5_sum, Cond.selects RX5 yX5_sum yX5_sum, Cond.code yX5_sum cX5_sum 4 (some .int), Cond.fieldLink RX5 62 "TurbineorchardModel" "turbines" "I", Cond.methodLink RX5 91 yX5_allTurn, Cond.instanceMethod yX5_allTurn, Cond.selects RX5 yX5_allTurn yX5_allTurn, Cond.code yX5_allTurn cX5_allTurn 2 none, Cond.fieldLink RX5 19 "TurbineorchardModel" "turns" "[I", Cond.fieldLink RX5 13 "TurbineorchardModel" "broken" "[I", Cond.methodLink RX5 102 yX5_power, Cond.instanceMethod yX5_power]
def wsX5_foretoldAnew_r2 : List Cond := [Cond.selects RX5 yX5_power yX5_power, Cond.code yX5_power cX5_power 4 (some .int), Cond.methodLink RX5 87 yX5_windOf, Cond.instanceMethod yX5_windOf, Cond.selects RX5 yX5_windOf yX5_windOf, Cond.code yX5_windOf cX5_windOf 6 (some .int), Cond.fieldLink RX5 22 "TurbineorchardModel" "speed" "[I", Cond.methodLink RX5 83 yX5_ahead, Cond.instanceMethod yX5_ahead, Cond.selects RX5 yX5_ahead yX5_ahead, Cond.code yX5_ahead cX5_ahead 7 (some .int), Cond.fieldLink RX5 7 "TurbineorchardModel" "place" "[I", Cond.fieldLink RX5 25 "TurbineorchardModel" "west" "[I"]
def wsX5_foretoldAnew : List Cond := .code yX5_foretoldAnew cX5_foretoldAnew 2 (some .int) :: ((wsX5_foretoldAnew_r1 ++ wsX5_foretoldAnew_r2) ++ wsX50)
def wsX5_ofHour : List Cond := .code yX5_ofHour cX5_ofHour 5 (some .int) :: ([.fieldLink RX5 73 "TurbineorchardModel" "now" "I", .fieldLink RX5 31 "TurbineorchardModel" "sold" "[I", .fieldLink RX5 37 "TurbineorchardModel" "all" "[I", .fieldLink RX5 40 "TurbineorchardModel" "money" "[I", .methodLink RX5 65 yX5_in, .instanceMethod yX5_in, .selects RX5 yX5_in yX5_in, .initialized RX5, .code yX5_in cX5_in 4 (some .boolean), .methodLink RX5 69 yX5_fails, .instanceMethod yX5_fails, .selects RX5 yX5_fails yX5_fails, .code yX5_fails cX5_fails 2 (some .boolean), .fieldLink RX5 58 "TurbineorchardModel" "thrown" "I"] ++ wsX50)
def wsX5_ratio : List Cond := .code yX5_ratio cX5_ratio 2 (some .float) :: ([.fieldLink RX5 73 "TurbineorchardModel" "now" "I", .constantFloat RX5 114 (3212836864), .fieldLink RX5 31 "TurbineorchardModel" "sold" "[I", .fieldLink RX5 37 "TurbineorchardModel" "all" "[I", .methodLink RX5 65 yX5_in, .instanceMethod yX5_in, .selects RX5 yX5_in yX5_in, .initialized RX5, .code yX5_in cX5_in 4 (some .boolean), .methodLink RX5 69 yX5_fails, .instanceMethod yX5_fails, .selects RX5 yX5_fails yX5_fails, .code yX5_fails cX5_fails 2 (some .boolean), .fieldLink RX5 58 "TurbineorchardModel" "thrown" "I"] ++ wsX50)
def wsX5_ofBoat : List Cond := .code yX5_ofBoat cX5_ofBoat 3 (some .int) :: ([.fieldLink RX5 46 "TurbineorchardModel" "at" "[I", .fieldLink RX5 49 "TurbineorchardModel" "left" "[I", .fieldLink RX5 52 "TurbineorchardModel" "today" "[I", .fieldLink RX5 55 "TurbineorchardModel" "worked" "[I", .methodLink RX5 65 yX5_in, .instanceMethod yX5_in, .selects RX5 yX5_in yX5_in, .initialized RX5, .code yX5_in cX5_in 4 (some .boolean), .methodLink RX5 69 yX5_fails, .instanceMethod yX5_fails, .selects RX5 yX5_fails yX5_fails, .code yX5_fails cX5_fails 2 (some .boolean), .fieldLink RX5 58 "TurbineorchardModel" "thrown" "I"] ++ wsX50)
def wsX5_ofTurbine : List Cond := .code yX5_ofTurbine cX5_ofTurbine 3 (some .int) :: ([.fieldLink RX5 7 "TurbineorchardModel" "place" "[I", .fieldLink RX5 13 "TurbineorchardModel" "broken" "[I", .fieldLink RX5 16 "TurbineorchardModel" "made" "[I", .methodLink RX5 80 yX5_isTurbine, .instanceMethod yX5_isTurbine, .selects RX5 yX5_isTurbine yX5_isTurbine, .initialized RX5, .code yX5_isTurbine cX5_isTurbine 2 (some .boolean), .fieldLink RX5 62 "TurbineorchardModel" "turbines" "I", .methodLink RX5 65 yX5_in, .instanceMethod yX5_in, .selects RX5 yX5_in yX5_in, .code yX5_in cX5_in 4 (some .boolean), .methodLink RX5 69 yX5_fails, .instanceMethod yX5_fails, .selects RX5 yX5_fails yX5_fails, .code yX5_fails cX5_fails 2 (some .boolean), .fieldLink RX5 58 "TurbineorchardModel" "thrown" "I"] ++ wsX50)
def wsX5_brought : List Cond := .code yX5_brought cX5_brought 4 (some .long) :: ([.fieldLink RX5 73 "TurbineorchardModel" "now" "I", .fieldLink RX5 40 "TurbineorchardModel" "money" "[I", .methodLink RX5 69 yX5_fails, .instanceMethod yX5_fails, .selects RX5 yX5_fails yX5_fails, .initialized RX5, .code yX5_fails cX5_fails 2 (some .boolean), .fieldLink RX5 58 "TurbineorchardModel" "thrown" "I"] ++ wsX50)
def wsJ9_min_7cf53 : List Cond := .code yJ9_min_7cf53 cJ9_min_7cf53 2 (some .int) :: ([])
def wsL_turbine_r1 : List Cond := [Cond.classLink RL 13 "java/lang/IndexOutOfBoundsException", Cond.classLink RL 15 "java/lang/IllegalStateException", Cond.methodLink RL 7 yX4_turbine, Cond.instanceMethod yX4_turbine, Cond.selects RX4 yX4_turbine yX4_turbine, Cond.initialized RX4, Cond.code yX4_turbine cX4_turbine 2 (some .int), Cond.classLink RX4 45 "java/lang/IndexOutOfBoundsException", Cond.initialized "java/lang/IndexOutOfBoundsException", Cond.classLink RX4 56 "java/lang/IllegalStateException", Cond.initialized "java/lang/IllegalStateException", Cond.fieldLink RX4 19 "Turbineorchard" "field" "LTurbineorchard$Field;", Cond.methodLink RX4 41 yX4_isWithin, Cond.static yX4_isWithin, Cond.code yX4_isWithin cX4_isWithin 3 (some .boolean), Cond.methodLink RX4 52 yX0_hasRoomAt, Cond.instanceMethod yX0_hasRoomAt, Cond.selects RX0 yX0_hasRoomAt yX0_hasRoomAt, Cond.initialized RX0, Cond.code yX0_hasRoomAt cX0_hasRoomAt 2 (some .boolean), Cond.fieldLink RX0 9 "Turbineorchard$Field" "turbineAt" "[I", Cond.fieldLink RX0 28 "Turbineorchard$Field" "count" "I", Cond.methodLink RX4 61 yX0_build, Cond.instanceMethod yX0_build]
def wsL_turbine_r2 : List Cond := [Cond.selects RX0 yX0_build yX0_build, Cond.code yX0_build cX0_build 3 (some .int), Cond.fieldLink RX0 15 "Turbineorchard$Field" "places" "[I"]
def wsL_turbine : List Cond := .codeWith yL_turbine cL_turbine 4 (some .int) [(0, 9, 12, 13), (0, 9, 15, 15)] :: ((wsL_turbine_r1 ++ wsL_turbine_r2) ++ wsX40 ++ wsX00 ++ (vx_atS RX4 49 "java/lang/IndexOutOfBoundsException" ["java/lang/RuntimeException", "java/lang/Exception"]).filter goodWord ++ (vx_atS RX4 60 "java/lang/IllegalStateException" ["java/lang/RuntimeException", "java/lang/Exception"]).filter goodWord)
def wsL_wind : List Cond := .codeWith yL_wind cL_wind 7 (some .int) [(0, 14, 17, 21)] :: ([.classLink RL 21 "java/lang/IllegalArgumentException", .methodLink RL 17 yX4_wind, .instanceMethod yX4_wind, .selects RX4 yX4_wind yX4_wind, .initialized RX4, .code yX4_wind cX4_wind 5 (some .int), .classLink RX4 68 "java/lang/IllegalArgumentException", .initialized "java/lang/IllegalArgumentException", .fieldLink RX4 12 "Turbineorchard" "weather" "LTurbineorchard$Weather;", .methodLink RX4 65 yX4_isToCome, .instanceMethod yX4_isToCome, .selects RX4 yX4_isToCome yX4_isToCome, .code yX4_isToCome cX4_isToCome 2 (some .boolean), .fieldLink RX4 37 "Turbineorchard" "now" "I", .methodLink RX4 41 yX4_isWithin, .static yX4_isWithin, .code yX4_isWithin cX4_isWithin 3 (some .boolean), .methodLink RX4 73 yX3_tellWind, .instanceMethod yX3_tellWind, .selects RX3 yX3_tellWind yX3_tellWind, .initialized RX3, .code yX3_tellWind cX3_tellWind 6 none, .fieldLink RX3 9 "Turbineorchard$Weather" "speeds" "[I", .fieldLink RX3 15 "Turbineorchard$Weather" "wests" "[Z"] ++ wsX40 ++ wsX30 ++ (vx_atS RX4 72 "java/lang/IllegalArgumentException" ["java/lang/RuntimeException", "java/lang/Exception"]).filter goodWord)
def wsL_waves_r1 : List Cond := [Cond.classLink RL 21 "java/lang/IllegalArgumentException", Cond.methodLink RL 23 yX4_waves, Cond.instanceMethod yX4_waves, Cond.selects RX4 yX4_waves yX4_waves, Cond.initialized RX4, Cond.code yX4_waves cX4_waves 4 (some .int), Cond.classLink RX4 68 "java/lang/IllegalArgumentException", Cond.initialized "java/lang/IllegalArgumentException", Cond.fieldLink RX4 12 "Turbineorchard" "weather" "LTurbineorchard$Weather;", Cond.methodLink RX4 65 yX4_isToCome, Cond.instanceMethod yX4_isToCome, Cond.selects RX4 yX4_isToCome yX4_isToCome, Cond.code yX4_isToCome cX4_isToCome 2 (some .boolean), Cond.fieldLink RX4 37 "Turbineorchard" "now" "I", Cond.methodLink RX4 41 yX4_isWithin, Cond.static yX4_isWithin, Cond.code yX4_isWithin cX4_isWithin 3 (some .boolean), Cond.methodLink RX4 79 yX3_wavesIn, Cond.instanceMethod yX3_wavesIn, Cond.selects RX3 yX3_wavesIn yX3_wavesIn, Cond.initialized RX3, Cond.code yX3_wavesIn cX3_wavesIn 2 (some .int), Cond.fieldLink RX3 19 "Turbineorchard$Weather" "toldWaves" "[I", Cond.fieldLink RX3 9 "Turbineorchard$Weather" "speeds" "[I"]
def wsL_waves_r2 : List Cond := [Cond.methodLink RX4 82 yX3_tellWaves, Cond.instanceMethod yX3_tellWaves, Cond.selects RX3 yX3_tellWaves yX3_tellWaves, Cond.code yX3_tellWaves cX3_tellWaves 3 none]
def wsL_waves : List Cond := .codeWith yL_waves cL_waves 5 (some .int) [(0, 10, 13, 21)] :: ((wsL_waves_r1 ++ wsL_waves_r2) ++ wsX40 ++ wsX30 ++ (vx_atS RX4 72 "java/lang/IllegalArgumentException" ["java/lang/RuntimeException", "java/lang/Exception"]).filter goodWord)
def wsL_breaks_r1 : List Cond := [Cond.classLink RL 13 "java/lang/IndexOutOfBoundsException", Cond.classLink RL 15 "java/lang/IllegalStateException", Cond.methodLink RL 27 yX4_breaks, Cond.instanceMethod yX4_breaks, Cond.selects RX4 yX4_breaks yX4_breaks, Cond.initialized RX4, Cond.code yX4_breaks cX4_breaks 2 (some .int), Cond.classLink RX4 45 "java/lang/IndexOutOfBoundsException", Cond.initialized "java/lang/IndexOutOfBoundsException", Cond.classLink RX4 56 "java/lang/IllegalStateException", Cond.initialized "java/lang/IllegalStateException", Cond.fieldLink RX4 19 "Turbineorchard" "field" "LTurbineorchard$Field;", Cond.methodLink RX4 86 yX0_has, Cond.instanceMethod yX0_has, Cond.selects RX0 yX0_has yX0_has, Cond.initialized RX0, Cond.code yX0_has cX0_has 2 (some .boolean), Cond.fieldLink RX0 28 "Turbineorchard$Field" "count" "I", Cond.static yX4_isWithin, Cond.code yX4_isWithin cX4_isWithin 3 (some .boolean), Cond.methodLink RX4 91 yX0_isBroken, Cond.instanceMethod yX0_isBroken, Cond.selects RX0 yX0_isBroken yX0_isBroken, Cond.code yX0_isBroken cX0_isBroken 2 (some .boolean)]
def wsL_breaks_r2 : List Cond := [Cond.fieldLink RX0 18 "Turbineorchard$Field" "broken" "[Z", Cond.methodLink RX4 96 yX0_breakDown, Cond.instanceMethod yX0_breakDown, Cond.selects RX0 yX0_breakDown yX0_breakDown, Cond.code yX0_breakDown cX0_breakDown 2 none, Cond.fieldLink RX0 36 "Turbineorchard$Field" "brokenCount" "I", Cond.methodLink RX4 100 yX0_countBroken, Cond.instanceMethod yX0_countBroken, Cond.selects RX0 yX0_countBroken yX0_countBroken, Cond.code yX0_countBroken cX0_countBroken 1 (some .int)]
def wsL_breaks : List Cond := .codeWith yL_breaks cL_breaks 4 (some .int) [(0, 9, 12, 13), (0, 9, 15, 15)] :: ((wsL_breaks_r1 ++ wsL_breaks_r2) ++ wsX40 ++ wsX00 ++ (vx_atS RX4 49 "java/lang/IndexOutOfBoundsException" ["java/lang/RuntimeException", "java/lang/Exception"]).filter goodWord ++ (vx_atS RX4 60 "java/lang/IllegalStateException" ["java/lang/RuntimeException", "java/lang/Exception"]).filter goodWord)
def wsL_crew_r1 : List Cond := [Cond.classLink RL 13 "java/lang/IndexOutOfBoundsException", Cond.classLink RL 21 "java/lang/IllegalArgumentException", Cond.methodLink RL 30 yX4_crew, Cond.instanceMethod yX4_crew, Cond.selects RX4 yX4_crew yX4_crew, Cond.initialized RX4, Cond.code yX4_crew cX4_crew 4 (some .int), Cond.classLink RX4 45 "java/lang/IndexOutOfBoundsException", Cond.initialized "java/lang/IndexOutOfBoundsException", Cond.classLink RX4 68 "java/lang/IllegalArgumentException", Cond.initialized "java/lang/IllegalArgumentException", Cond.fieldLink RX4 26 "Turbineorchard" "fleet" "LTurbineorchard$Fleet;", Cond.methodLink RX4 104 yX4_isBoat, Cond.static yX4_isBoat, Cond.code yX4_isBoat cX4_isBoat 1 (some .boolean), Cond.methodLink RX4 41 yX4_isWithin, Cond.static yX4_isWithin, Cond.code yX4_isWithin cX4_isWithin 3 (some .boolean), Cond.methodLink RX4 111 yX1_crewHours, Cond.instanceMethod yX1_crewHours, Cond.selects RX1 yX1_crewHours yX1_crewHours, Cond.initialized RX1, Cond.code yX1_crewHours cX1_crewHours 2 (some .int), Cond.fieldLink RX1 18 "Turbineorchard$Fleet" "crewLimits" "[I"]
def wsL_crew_r2 : List Cond := [Cond.methodLink RX4 114 yX1_setCrewHours, Cond.instanceMethod yX1_setCrewHours, Cond.selects RX1 yX1_setCrewHours yX1_setCrewHours, Cond.code yX1_setCrewHours cX1_setCrewHours 3 none]
def wsL_crew : List Cond := .codeWith yL_crew cL_crew 5 (some .int) [(0, 10, 13, 13), (0, 10, 17, 21)] :: ((wsL_crew_r1 ++ wsL_crew_r2) ++ wsX40 ++ wsX10 ++ (vx_atS RX4 49 "java/lang/IndexOutOfBoundsException" ["java/lang/RuntimeException", "java/lang/Exception"]).filter goodWord ++ (vx_atS RX4 72 "java/lang/IllegalArgumentException" ["java/lang/RuntimeException", "java/lang/Exception"]).filter goodWord)
def wsL_repair_r1 : List Cond := [Cond.classLink RL 13 "java/lang/IndexOutOfBoundsException", Cond.classLink RL 21 "java/lang/IllegalArgumentException", Cond.classLink RL 15 "java/lang/IllegalStateException", Cond.methodLink RL 33 yX4_repair, Cond.instanceMethod yX4_repair, Cond.selects RX4 yX4_repair yX4_repair, Cond.initialized RX4, Cond.code yX4_repair cX4_repair 4 none, Cond.classLink RX4 45 "java/lang/IndexOutOfBoundsException", Cond.initialized "java/lang/IndexOutOfBoundsException", Cond.classLink RX4 68 "java/lang/IllegalArgumentException", Cond.initialized "java/lang/IllegalArgumentException", Cond.classLink RX4 56 "java/lang/IllegalStateException", Cond.initialized "java/lang/IllegalStateException", Cond.fieldLink RX4 19 "Turbineorchard" "field" "LTurbineorchard$Field;", Cond.fieldLink RX4 26 "Turbineorchard" "fleet" "LTurbineorchard$Fleet;", Cond.methodLink RX4 104 yX4_isBoat, Cond.static yX4_isBoat, Cond.code yX4_isBoat cX4_isBoat 1 (some .boolean), Cond.methodLink RX4 41 yX4_isWithin, Cond.static yX4_isWithin, Cond.code yX4_isWithin cX4_isWithin 3 (some .boolean), Cond.methodLink RX4 86 yX0_has, Cond.instanceMethod yX0_has]
def wsL_repair_r2 : List Cond := [Cond.selects RX0 yX0_has yX0_has, Cond.initialized RX0, Cond.code yX0_has cX0_has 2 (some .boolean), Cond.fieldLink RX0 28 "Turbineorchard$Field" "count" "I", Cond.methodLink RX4 119 yX1_isFree, Cond.instanceMethod yX1_isFree, Cond.selects RX1 yX1_isFree yX1_isFree, Cond.initialized RX1, Cond.code yX1_isFree cX1_isFree 2 (some .boolean), Cond.fieldLink RX1 9 "Turbineorchard$Fleet" "turbines" "[I", Cond.methodLink RX4 91 yX0_isBroken, Cond.instanceMethod yX0_isBroken, Cond.selects RX0 yX0_isBroken yX0_isBroken, Cond.code yX0_isBroken cX0_isBroken 2 (some .boolean), Cond.fieldLink RX0 18 "Turbineorchard$Field" "broken" "[Z", Cond.methodLink RX4 122 yX1_isAtWorkOn, Cond.instanceMethod yX1_isAtWorkOn, Cond.selects RX1 yX1_isAtWorkOn yX1_isAtWorkOn, Cond.code yX1_isAtWorkOn cX1_isAtWorkOn 3 (some .boolean), Cond.methodLink RX4 127 yX1_send, Cond.instanceMethod yX1_send, Cond.selects RX1 yX1_send yX1_send, Cond.code yX1_send cX1_send 4 none, Cond.fieldLink RX1 15 "Turbineorchard$Fleet" "left" "[I"]
def wsL_repair : List Cond := .codeWith yL_repair cL_repair 5 (some .int) [(0, 7, 10, 13), (0, 7, 14, 21), (0, 7, 18, 15)] :: ((wsL_repair_r1 ++ wsL_repair_r2) ++ wsX40 ++ wsX00 ++ wsX10 ++ (vx_atS RX4 49 "java/lang/IndexOutOfBoundsException" ["java/lang/RuntimeException", "java/lang/Exception"]).filter goodWord ++ (vx_atS RX4 72 "java/lang/IllegalArgumentException" ["java/lang/RuntimeException", "java/lang/Exception"]).filter goodWord ++ (vx_atS RX4 60 "java/lang/IllegalStateException" ["java/lang/RuntimeException", "java/lang/Exception"]).filter goodWord)
def wsL_sell_r1 : List Cond := [Cond.classLink RL 21 "java/lang/IllegalArgumentException", Cond.classLink RL 15 "java/lang/IllegalStateException", Cond.methodLink RL 37 yX4_sell, Cond.instanceMethod yX4_sell, Cond.selects RX4 yX4_sell yX4_sell, Cond.initialized RX4, Cond.code yX4_sell cX4_sell 5 (some .int), Cond.classLink RX4 68 "java/lang/IllegalArgumentException", Cond.initialized "java/lang/IllegalArgumentException", Cond.classLink RX4 56 "java/lang/IllegalStateException", Cond.initialized "java/lang/IllegalStateException", Cond.fieldLink RX4 37 "Turbineorchard" "now" "I", Cond.fieldLink RX4 33 "Turbineorchard" "ledger" "LTurbineorchard$Ledger;", Cond.methodLink RX4 41 yX4_isWithin, Cond.static yX4_isWithin, Cond.code yX4_isWithin cX4_isWithin 3 (some .boolean), Cond.methodLink RX4 135 yX2_slotUnits, Cond.instanceMethod yX2_slotUnits, Cond.selects RX2 yX2_slotUnits yX2_slotUnits, Cond.initialized RX2, Cond.code yX2_slotUnits cX2_slotUnits 2 (some .int), Cond.fieldLink RX2 9 "Turbineorchard$Ledger" "slots" "[I", Cond.methodLink RX4 138 yX2_setSlot, Cond.instanceMethod yX2_setSlot]
def wsL_sell_r2 : List Cond := [Cond.selects RX2 yX2_setSlot yX2_setSlot, Cond.code yX2_setSlot cX2_setSlot 4 none, Cond.fieldLink RX2 15 "Turbineorchard$Ledger" "prices" "[I"]
def wsL_sell : List Cond := .codeWith yL_sell cL_sell 6 (some .int) [(0, 12, 15, 21), (0, 12, 19, 15)] :: ((wsL_sell_r1 ++ wsL_sell_r2) ++ wsX40 ++ wsX20 ++ (vx_atS RX4 72 "java/lang/IllegalArgumentException" ["java/lang/RuntimeException", "java/lang/Exception"]).filter goodWord ++ (vx_atS RX4 60 "java/lang/IllegalStateException" ["java/lang/RuntimeException", "java/lang/Exception"]).filter goodWord)
def wsL_pass_r1 : List Cond := [Cond.classLink RL 21 "java/lang/IllegalArgumentException", Cond.classLink RL 15 "java/lang/IllegalStateException", Cond.methodLink RL 41 yX4_pass, Cond.instanceMethod yX4_pass, Cond.selects RX4 yX4_pass yX4_pass, Cond.initialized RX4, Cond.code yX4_pass cX4_pass 3 (some .int), Cond.classLink RX4 68 "java/lang/IllegalArgumentException", Cond.initialized "java/lang/IllegalArgumentException", Cond.classLink RX4 56 "java/lang/IllegalStateException", Cond.initialized "java/lang/IllegalStateException", Cond.fieldLink RX4 37 "Turbineorchard" "now" "I", Cond.methodLink RX4 41 yX4_isWithin, Cond.static yX4_isWithin, Cond.code yX4_isWithin cX4_isWithin 3 (some .boolean), Cond.methodLink RX4 143 yX4_liveHour, Cond.instanceMethod yX4_liveHour, Cond.selects RX4 yX4_liveHour yX4_liveHour, Cond.code yX4_liveHour cX4_liveHour 1 none, Cond.fieldLink RX4 33 "Turbineorchard" "ledger" "LTurbineorchard$Ledger;", Cond.fieldLink RX4 19 "Turbineorchard" "field" "LTurbineorchard$Field;", Cond.fieldLink RX4 12 "Turbineorchard" "weather" "LTurbineorchard$Weather;", Cond.fieldLink RX4 26 "Turbineorchard" "fleet" "LTurbineorchard$Fleet;", Cond.methodLink RX4 210 yX4_workOnRepairs]
def wsL_pass_r2 : List Cond := [Cond.instanceMethod yX4_workOnRepairs, Cond.selects RX4 yX4_workOnRepairs yX4_workOnRepairs, Cond.code yX4_workOnRepairs cX4_workOnRepairs 2 none, Cond.methodLink RX4 79 yX3_wavesIn, Cond.instanceMethod yX3_wavesIn, Cond.selects RX3 yX3_wavesIn yX3_wavesIn, Cond.initialized RX3, Cond.code yX3_wavesIn cX3_wavesIn 2 (some .int), Cond.fieldLink RX3 19 "Turbineorchard$Weather" "toldWaves" "[I", Cond.fieldLink RX3 9 "Turbineorchard$Weather" "speeds" "[I", Cond.methodLink RX4 228 yX1_canWork, Cond.instanceMethod yX1_canWork, Cond.selects RX1 yX1_canWork yX1_canWork, Cond.initialized RX1, Cond.code yX1_canWork cX1_canWork 2 (some .boolean), Cond.fieldLink RX1 21 "Turbineorchard$Fleet" "today" "[I", Cond.fieldLink RX1 18 "Turbineorchard$Fleet" "crewLimits" "[I", Cond.methodLink RX1 27 yX1_isFree, Cond.instanceMethod yX1_isFree, Cond.selects RX1 yX1_isFree yX1_isFree, Cond.code yX1_isFree cX1_isFree 2 (some .boolean), Cond.fieldLink RX1 9 "Turbineorchard$Fleet" "turbines" "[I", Cond.methodLink RX4 231 yX1_workAnHour, Cond.instanceMethod yX1_workAnHour]
def wsL_pass_r3 : List Cond := [Cond.selects RX1 yX1_workAnHour yX1_workAnHour, Cond.code yX1_workAnHour cX1_workAnHour 2 none, Cond.fieldLink RX1 15 "Turbineorchard$Fleet" "left" "[I", Cond.fieldLink RX1 24 "Turbineorchard$Fleet" "inAll" "[I", Cond.methodLink RX4 188 yX1_turbineOf, Cond.instanceMethod yX1_turbineOf, Cond.selects RX1 yX1_turbineOf yX1_turbineOf, Cond.code yX1_turbineOf cX1_turbineOf 2 (some .int), Cond.methodLink RX4 234 yX0_stillBeside, Cond.instanceMethod yX0_stillBeside, Cond.selects RX0 yX0_stillBeside yX0_stillBeside, Cond.initialized RX0, Cond.code yX0_stillBeside cX0_stillBeside 4 none, Cond.fieldLink RX0 15 "Turbineorchard$Field" "places" "[I", Cond.methodLink RX0 39 yX0_stillAt, Cond.instanceMethod yX0_stillAt, Cond.selects RX0 yX0_stillAt yX0_stillAt, Cond.code yX0_stillAt cX0_stillAt 3 none, Cond.fieldLink RX0 9 "Turbineorchard$Field" "turbineAt" "[I", Cond.fieldLink RX0 22 "Turbineorchard$Field" "stilled" "[Z", Cond.methodLink RX0 43 yX0_has, Cond.instanceMethod yX0_has, Cond.selects RX0 yX0_has yX0_has, Cond.code yX0_has cX0_has 2 (some .boolean)]
def wsL_pass_r4 : List Cond := [Cond.fieldLink RX0 28 "Turbineorchard$Field" "count" "I", Cond.methodLink RX4 146 yX3_speedIn, Cond.instanceMethod yX3_speedIn, Cond.selects RX3 yX3_speedIn yX3_speedIn, Cond.code yX3_speedIn cX3_speedIn 2 (some .int), Cond.methodLink RX4 149 yX3_isWestIn, Cond.instanceMethod yX3_isWestIn, Cond.selects RX3 yX3_isWestIn yX3_isWestIn, Cond.code yX3_isWestIn cX3_isWestIn 2 (some .boolean), Cond.fieldLink RX3 15 "Turbineorchard$Weather" "wests" "[Z", Cond.methodLink RX4 213 yX0_generate, Cond.instanceMethod yX0_generate, Cond.selects RX0 yX0_generate yX0_generate, Cond.code yX0_generate cX0_generate 6 (some .int), Cond.fieldLink RX0 25 "Turbineorchard$Field" "madeInAll" "[I", Cond.methodLink RX0 47 yX0_powerOf, Cond.instanceMethod yX0_powerOf, Cond.selects RX0 yX0_powerOf yX0_powerOf, Cond.code yX0_powerOf cX0_powerOf 4 (some .int), Cond.methodLink RX0 51 yX0_turns, Cond.instanceMethod yX0_turns, Cond.selects RX0 yX0_turns yX0_turns, Cond.code yX0_turns cX0_turns 2 (some .boolean), Cond.fieldLink RX0 18 "Turbineorchard$Field" "broken" "[Z"]
def wsL_pass_r5 : List Cond := [Cond.methodLink RX0 61 yX0_windLeft, Cond.instanceMethod yX0_windLeft, Cond.selects RX0 yX0_windLeft yX0_windLeft, Cond.code yX0_windLeft cX0_windLeft 7 (some .int), Cond.methodLink RX0 64 yX0_distancesAhead, Cond.instanceMethod yX0_distancesAhead, Cond.selects RX0 yX0_distancesAhead yX0_distancesAhead, Cond.code yX0_distancesAhead cX0_distancesAhead 6 (some .int), Cond.methodLink RX0 72 yX0_placesAhead, Cond.static yX0_placesAhead, Cond.code yX0_placesAhead cX0_placesAhead 2 (some .int), Cond.methodLink RX0 75 yX0_lane, Cond.static yX0_lane, Cond.code yX0_lane cX0_lane 2 (some .int), Cond.methodLink RX0 68 yX0_takenByWake, Cond.static yX0_takenByWake, Cond.code yX0_takenByWake cX0_takenByWake 3 (some .int), Cond.methodLink RX0 57 yX0_powerOfWind, Cond.static yX0_powerOfWind, Cond.code yX0_powerOfWind cX0_powerOfWind 1 (some .int), Cond.methodLink RX0 78 Lib.Math.min.name, Cond.static Lib.Math.min.name, Cond.initialized "java/lang/Math", Cond.code Lib.Math.min.name Lib.Math.min.code 2 (some .int)]
def wsL_pass_r6 : List Cond := [Cond.methodLink RX4 216 yX2_endHour, Cond.instanceMethod yX2_endHour, Cond.selects RX2 yX2_endHour yX2_endHour, Cond.initialized RX2, Cond.code yX2_endHour cX2_endHour 3 none, Cond.fieldLink RX2 18 "Turbineorchard$Ledger" "made" "[I", Cond.fieldLink RX2 21 "Turbineorchard$Ledger" "proceeds" "J", Cond.methodLink RX2 25 yX2_proceedsOf, Cond.instanceMethod yX2_proceedsOf, Cond.selects RX2 yX2_proceedsOf yX2_proceedsOf, Cond.code yX2_proceedsOf cX2_proceedsOf 5 (some .int), Cond.fieldLink RX2 15 "Turbineorchard$Ledger" "prices" "[I", Cond.methodLink RX2 32 yX2_imbalanceOf, Cond.instanceMethod yX2_imbalanceOf, Cond.selects RX2 yX2_imbalanceOf yX2_imbalanceOf, Cond.code yX2_imbalanceOf cX2_imbalanceOf 2 (some .int), Cond.methodLink RX2 29 yX2_soldFor, Cond.instanceMethod yX2_soldFor, Cond.selects RX2 yX2_soldFor yX2_soldFor, Cond.code yX2_soldFor cX2_soldFor 2 (some .int), Cond.fieldLink RX2 9 "Turbineorchard$Ledger" "slots" "[I", Cond.methodLink RX4 219 yX0_endStillness, Cond.instanceMethod yX0_endStillness, Cond.selects RX0 yX0_endStillness yX0_endStillness]
def wsL_pass_r7 : List Cond := [Cond.code yX0_endStillness cX0_endStillness 2 none, Cond.methodLink RX4 222 yX4_endRepairs, Cond.instanceMethod yX4_endRepairs, Cond.selects RX4 yX4_endRepairs yX4_endRepairs, Cond.code yX4_endRepairs cX4_endRepairs 2 none, Cond.methodLink RX4 237 yX1_hasEnded, Cond.instanceMethod yX1_hasEnded, Cond.selects RX1 yX1_hasEnded yX1_hasEnded, Cond.code yX1_hasEnded cX1_hasEnded 2 (some .boolean), Cond.methodLink RX4 240 yX0_mend, Cond.instanceMethod yX0_mend, Cond.selects RX0 yX0_mend yX0_mend, Cond.code yX0_mend cX0_mend 2 none, Cond.fieldLink RX0 36 "Turbineorchard$Field" "brokenCount" "I", Cond.methodLink RX4 243 yX1_release, Cond.instanceMethod yX1_release, Cond.selects RX1 yX1_release yX1_release, Cond.code yX1_release cX1_release 2 none, Cond.methodLink RX4 225 yX1_beginDay, Cond.instanceMethod yX1_beginDay, Cond.selects RX1 yX1_beginDay yX1_beginDay, Cond.code yX1_beginDay cX1_beginDay 2 none]
def wsL_pass : List Cond := .codeWith yL_pass cL_pass 4 (some .int) [(0, 9, 12, 21), (0, 9, 15, 15)] :: ((wsL_pass_r1 ++ (wsL_pass_r2 ++ (wsL_pass_r3 ++ (wsL_pass_r4 ++ (wsL_pass_r5 ++ (wsL_pass_r6 ++ wsL_pass_r7)))))) ++ wsX40 ++ wsX30 ++ wsX10 ++ wsX00 ++ wsX20 ++ (vx_atS RX4 72 "java/lang/IllegalArgumentException" ["java/lang/RuntimeException", "java/lang/Exception"]).filter goodWord ++ (vx_atS RX4 60 "java/lang/IllegalStateException" ["java/lang/RuntimeException", "java/lang/Exception"]).filter goodWord)
def wsL_windAt_r1 : List Cond := [Cond.classLink RL 13 "java/lang/IndexOutOfBoundsException", Cond.methodLink RL 44 yX4_windAt, Cond.instanceMethod yX4_windAt, Cond.selects RX4 yX4_windAt yX4_windAt, Cond.initialized RX4, Cond.code yX4_windAt cX4_windAt 2 (some .int), Cond.classLink RX4 45 "java/lang/IndexOutOfBoundsException", Cond.initialized "java/lang/IndexOutOfBoundsException", Cond.fieldLink RX4 19 "Turbineorchard" "field" "LTurbineorchard$Field;", Cond.fieldLink RX4 12 "Turbineorchard" "weather" "LTurbineorchard$Weather;", Cond.fieldLink RX4 37 "Turbineorchard" "now" "I", Cond.methodLink RX4 86 yX0_has, Cond.instanceMethod yX0_has, Cond.selects RX0 yX0_has yX0_has, Cond.initialized RX0, Cond.code yX0_has cX0_has 2 (some .boolean), Cond.fieldLink RX0 28 "Turbineorchard$Field" "count" "I", Cond.static yX4_isWithin, Cond.code yX4_isWithin cX4_isWithin 3 (some .boolean), Cond.methodLink RX4 146 yX3_speedIn, Cond.instanceMethod yX3_speedIn, Cond.selects RX3 yX3_speedIn yX3_speedIn, Cond.initialized RX3, Cond.code yX3_speedIn cX3_speedIn 2 (some .int)]
def wsL_windAt_r2 : List Cond := [Cond.fieldLink RX3 9 "Turbineorchard$Weather" "speeds" "[I", Cond.methodLink RX4 149 yX3_isWestIn, Cond.instanceMethod yX3_isWestIn, Cond.selects RX3 yX3_isWestIn yX3_isWestIn, Cond.code yX3_isWestIn cX3_isWestIn 2 (some .boolean), Cond.fieldLink RX3 15 "Turbineorchard$Weather" "wests" "[Z", Cond.methodLink RX4 152 yX0_windLeft, Cond.instanceMethod yX0_windLeft, Cond.selects RX0 yX0_windLeft yX0_windLeft, Cond.code yX0_windLeft cX0_windLeft 7 (some .int), Cond.fieldLink RX0 15 "Turbineorchard$Field" "places" "[I", Cond.methodLink RX0 64 yX0_distancesAhead, Cond.instanceMethod yX0_distancesAhead, Cond.selects RX0 yX0_distancesAhead yX0_distancesAhead, Cond.code yX0_distancesAhead cX0_distancesAhead 6 (some .int), Cond.methodLink RX0 72 yX0_placesAhead, Cond.static yX0_placesAhead, Cond.code yX0_placesAhead cX0_placesAhead 2 (some .int), Cond.methodLink RX0 75 yX0_lane, Cond.static yX0_lane, Cond.code yX0_lane cX0_lane 2 (some .int), Cond.methodLink RX0 51 yX0_turns, Cond.instanceMethod yX0_turns, Cond.selects RX0 yX0_turns yX0_turns]
def wsL_windAt_r3 : List Cond := [Cond.code yX0_turns cX0_turns 2 (some .boolean), Cond.fieldLink RX0 18 "Turbineorchard$Field" "broken" "[Z", Cond.fieldLink RX0 22 "Turbineorchard$Field" "stilled" "[Z", Cond.methodLink RX0 68 yX0_takenByWake, Cond.static yX0_takenByWake, Cond.code yX0_takenByWake cX0_takenByWake 3 (some .int)]
def wsL_windAt : List Cond := .codeWith yL_windAt cL_windAt 4 (some .int) [(0, 9, 12, 13)] :: ((wsL_windAt_r1 ++ (wsL_windAt_r2 ++ wsL_windAt_r3)) ++ wsX40 ++ wsX00 ++ wsX30 ++ (vx_atS RX4 49 "java/lang/IndexOutOfBoundsException" ["java/lang/RuntimeException", "java/lang/Exception"]).filter goodWord)
def wsL_foretold_r1 : List Cond := [Cond.classLink RL 21 "java/lang/IllegalArgumentException", Cond.methodLink RL 47 yX4_foretold, Cond.instanceMethod yX4_foretold, Cond.selects RX4 yX4_foretold yX4_foretold, Cond.initialized RX4, Cond.code yX4_foretold cX4_foretold 2 (some .int), Cond.classLink RX4 68 "java/lang/IllegalArgumentException", Cond.initialized "java/lang/IllegalArgumentException", Cond.fieldLink RX4 19 "Turbineorchard" "field" "LTurbineorchard$Field;", Cond.fieldLink RX4 12 "Turbineorchard" "weather" "LTurbineorchard$Weather;", Cond.methodLink RX4 65 yX4_isToCome, Cond.instanceMethod yX4_isToCome, Cond.selects RX4 yX4_isToCome yX4_isToCome, Cond.code yX4_isToCome cX4_isToCome 2 (some .boolean), Cond.fieldLink RX4 37 "Turbineorchard" "now" "I", Cond.methodLink RX4 41 yX4_isWithin, Cond.static yX4_isWithin, Cond.code yX4_isWithin cX4_isWithin 3 (some .boolean), Cond.methodLink RX4 146 yX3_speedIn, Cond.instanceMethod yX3_speedIn, Cond.selects RX3 yX3_speedIn yX3_speedIn, Cond.initialized RX3, Cond.code yX3_speedIn cX3_speedIn 2 (some .int), Cond.fieldLink RX3 9 "Turbineorchard$Weather" "speeds" "[I"]
def wsL_foretold_r2 : List Cond := [Cond.methodLink RX4 149 yX3_isWestIn, Cond.instanceMethod yX3_isWestIn, Cond.selects RX3 yX3_isWestIn yX3_isWestIn, Cond.code yX3_isWestIn cX3_isWestIn 2 (some .boolean), Cond.fieldLink RX3 15 "Turbineorchard$Weather" "wests" "[Z", Cond.methodLink RX4 158 yX0_powerOfAll, Cond.instanceMethod yX0_powerOfAll, Cond.selects RX0 yX0_powerOfAll yX0_powerOfAll, Cond.initialized RX0, Cond.code yX0_powerOfAll cX0_powerOfAll 5 (some .int), Cond.fieldLink RX0 28 "Turbineorchard$Field" "count" "I", Cond.methodLink RX0 47 yX0_powerOf, Cond.instanceMethod yX0_powerOf, Cond.selects RX0 yX0_powerOf yX0_powerOf, Cond.code yX0_powerOf cX0_powerOf 4 (some .int), Cond.methodLink RX0 51 yX0_turns, Cond.instanceMethod yX0_turns, Cond.selects RX0 yX0_turns yX0_turns, Cond.code yX0_turns cX0_turns 2 (some .boolean), Cond.fieldLink RX0 18 "Turbineorchard$Field" "broken" "[Z", Cond.fieldLink RX0 22 "Turbineorchard$Field" "stilled" "[Z", Cond.methodLink RX0 61 yX0_windLeft, Cond.instanceMethod yX0_windLeft, Cond.selects RX0 yX0_windLeft yX0_windLeft]
def wsL_foretold_r3 : List Cond := [Cond.code yX0_windLeft cX0_windLeft 7 (some .int), Cond.fieldLink RX0 15 "Turbineorchard$Field" "places" "[I", Cond.methodLink RX0 64 yX0_distancesAhead, Cond.instanceMethod yX0_distancesAhead, Cond.selects RX0 yX0_distancesAhead yX0_distancesAhead, Cond.code yX0_distancesAhead cX0_distancesAhead 6 (some .int), Cond.methodLink RX0 72 yX0_placesAhead, Cond.static yX0_placesAhead, Cond.code yX0_placesAhead cX0_placesAhead 2 (some .int), Cond.methodLink RX0 75 yX0_lane, Cond.static yX0_lane, Cond.code yX0_lane cX0_lane 2 (some .int), Cond.methodLink RX0 68 yX0_takenByWake, Cond.static yX0_takenByWake, Cond.code yX0_takenByWake cX0_takenByWake 3 (some .int), Cond.methodLink RX0 57 yX0_powerOfWind, Cond.static yX0_powerOfWind, Cond.code yX0_powerOfWind cX0_powerOfWind 1 (some .int), Cond.methodLink RX0 78 Lib.Math.min.name, Cond.static Lib.Math.min.name, Cond.initialized "java/lang/Math", Cond.code Lib.Math.min.name Lib.Math.min.code 2 (some .int)]
def wsL_foretold : List Cond := .codeWith yL_foretold cL_foretold 4 (some .int) [(0, 9, 12, 21)] :: ((wsL_foretold_r1 ++ (wsL_foretold_r2 ++ wsL_foretold_r3)) ++ wsX40 ++ wsX30 ++ wsX00 ++ (vx_atS RX4 72 "java/lang/IllegalArgumentException" ["java/lang/RuntimeException", "java/lang/Exception"]).filter goodWord)
def wsL_foretoldAnew_r1 : List Cond := [Cond.classLink RL 21 "java/lang/IllegalArgumentException", Cond.methodLink RL 50 yX4_foretoldAnew, Cond.instanceMethod yX4_foretoldAnew, Cond.selects RX4 yX4_foretoldAnew yX4_foretoldAnew, Cond.initialized RX4, Cond.code yX4_foretoldAnew cX4_foretoldAnew 2 (some .int), Cond.classLink RX4 68 "java/lang/IllegalArgumentException", Cond.initialized "java/lang/IllegalArgumentException", Cond.fieldLink RX4 19 "Turbineorchard" "field" "LTurbineorchard$Field;", Cond.fieldLink RX4 12 "Turbineorchard" "weather" "LTurbineorchard$Weather;", Cond.methodLink RX4 65 yX4_isToCome, Cond.instanceMethod yX4_isToCome, Cond.selects RX4 yX4_isToCome yX4_isToCome, Cond.code yX4_isToCome cX4_isToCome 2 (some .boolean), Cond.fieldLink RX4 37 "Turbineorchard" "now" "I", Cond.methodLink RX4 41 yX4_isWithin, Cond.static yX4_isWithin, Cond.code yX4_isWithin cX4_isWithin 3 (some .boolean), Cond.methodLink RX4 146 yX3_speedIn, Cond.instanceMethod yX3_speedIn, Cond.selects RX3 yX3_speedIn yX3_speedIn, Cond.initialized RX3, Cond.code yX3_speedIn cX3_speedIn 2 (some .int), Cond.fieldLink RX3 9 "Turbineorchard$Weather" "speeds" "[I"]
def wsL_foretoldAnew_r2 : List Cond := [Cond.methodLink RX4 149 yX3_isWestIn, Cond.instanceMethod yX3_isWestIn, Cond.selects RX3 yX3_isWestIn yX3_isWestIn, Cond.code yX3_isWestIn cX3_isWestIn 2 (some .boolean), Cond.fieldLink RX3 15 "Turbineorchard$Weather" "wests" "[Z", Cond.methodLink RX4 162 yX0_powerOfAllAnew, Cond.instanceMethod yX0_powerOfAllAnew, Cond.selects RX0 yX0_powerOfAllAnew yX0_powerOfAllAnew, Cond.initialized RX0, Cond.code yX0_powerOfAllAnew cX0_powerOfAllAnew 5 (some .int), Cond.fieldLink RX0 28 "Turbineorchard$Field" "count" "I", Cond.fieldLink RX0 15 "Turbineorchard$Field" "places" "[I", Cond.methodLink RX0 51 yX0_turns, Cond.instanceMethod yX0_turns, Cond.selects RX0 yX0_turns yX0_turns, Cond.code yX0_turns cX0_turns 2 (some .boolean), Cond.fieldLink RX0 18 "Turbineorchard$Field" "broken" "[Z", Cond.fieldLink RX0 22 "Turbineorchard$Field" "stilled" "[Z", Cond.methodLink RX0 54 yX0_windLeftAnew, Cond.instanceMethod yX0_windLeftAnew, Cond.selects RX0 yX0_windLeftAnew yX0_windLeftAnew, Cond.code yX0_windLeftAnew cX0_windLeftAnew 9 (some .int), Cond.fieldLink RX0 9 "Turbineorchard$Field" "turbineAt" "[I", Cond.methodLink RX0 72 yX0_placesAhead]
def wsL_foretoldAnew_r3 : List Cond := [Cond.static yX0_placesAhead, Cond.code yX0_placesAhead cX0_placesAhead 2 (some .int), Cond.methodLink RX0 43 yX0_has, Cond.instanceMethod yX0_has, Cond.selects RX0 yX0_has yX0_has, Cond.code yX0_has cX0_has 2 (some .boolean), Cond.methodLink RX0 68 yX0_takenByWake, Cond.static yX0_takenByWake, Cond.code yX0_takenByWake cX0_takenByWake 3 (some .int), Cond.methodLink RX0 57 yX0_powerOfWind, Cond.static yX0_powerOfWind, Cond.code yX0_powerOfWind cX0_powerOfWind 1 (some .int), Cond.methodLink RX0 78 Lib.Math.min.name, Cond.static Lib.Math.min.name, Cond.initialized "java/lang/Math", Cond.code Lib.Math.min.name Lib.Math.min.code 2 (some .int)]
def wsL_foretoldAnew : List Cond := .codeWith yL_foretoldAnew cL_foretoldAnew 4 (some .int) [(0, 9, 12, 21)] :: ((wsL_foretoldAnew_r1 ++ (wsL_foretoldAnew_r2 ++ wsL_foretoldAnew_r3)) ++ wsX40 ++ wsX30 ++ wsX00 ++ (vx_atS RX4 72 "java/lang/IllegalArgumentException" ["java/lang/RuntimeException", "java/lang/Exception"]).filter goodWord)
def wsL_ofHour_r1 : List Cond := [Cond.classLink RL 21 "java/lang/IllegalArgumentException", Cond.methodLink RL 53 yX4_ofHour, Cond.instanceMethod yX4_ofHour, Cond.selects RX4 yX4_ofHour yX4_ofHour, Cond.initialized RX4, Cond.code yX4_ofHour cX4_ofHour 3 (some .int), Cond.classLink RX4 68 "java/lang/IllegalArgumentException", Cond.initialized "java/lang/IllegalArgumentException", Cond.fieldLink RX4 33 "Turbineorchard" "ledger" "LTurbineorchard$Ledger;", Cond.methodLink RX4 165 yX4_isOver, Cond.instanceMethod yX4_isOver, Cond.selects RX4 yX4_isOver yX4_isOver, Cond.code yX4_isOver cX4_isOver 2 (some .boolean), Cond.fieldLink RX4 37 "Turbineorchard" "now" "I", Cond.methodLink RX4 41 yX4_isWithin, Cond.static yX4_isWithin, Cond.code yX4_isWithin cX4_isWithin 3 (some .boolean), Cond.methodLink RX4 170 yX2_madeIn, Cond.instanceMethod yX2_madeIn, Cond.selects RX2 yX2_madeIn yX2_madeIn, Cond.initialized RX2, Cond.code yX2_madeIn cX2_madeIn 2 (some .int), Cond.fieldLink RX2 18 "Turbineorchard$Ledger" "made" "[I", Cond.methodLink RX4 173 yX2_soldFor]
def wsL_ofHour_r2 : List Cond := [Cond.instanceMethod yX2_soldFor, Cond.selects RX2 yX2_soldFor yX2_soldFor, Cond.code yX2_soldFor cX2_soldFor 2 (some .int), Cond.fieldLink RX2 9 "Turbineorchard$Ledger" "slots" "[I", Cond.methodLink RX4 176 yX2_imbalanceOf, Cond.instanceMethod yX2_imbalanceOf, Cond.selects RX2 yX2_imbalanceOf yX2_imbalanceOf, Cond.code yX2_imbalanceOf cX2_imbalanceOf 2 (some .int), Cond.methodLink RX2 29 yX2_soldFor, Cond.methodLink RX4 179 yX2_proceedsOf, Cond.instanceMethod yX2_proceedsOf, Cond.selects RX2 yX2_proceedsOf yX2_proceedsOf, Cond.code yX2_proceedsOf cX2_proceedsOf 5 (some .int), Cond.fieldLink RX2 15 "Turbineorchard$Ledger" "prices" "[I", Cond.methodLink RX2 32 yX2_imbalanceOf]
def wsL_ofHour : List Cond := .codeWith yL_ofHour cL_ofHour 5 (some .int) [(0, 10, 13, 21)] :: ((wsL_ofHour_r1 ++ wsL_ofHour_r2) ++ wsX40 ++ wsX20 ++ (vx_atS RX4 72 "java/lang/IllegalArgumentException" ["java/lang/RuntimeException", "java/lang/Exception"]).filter goodWord)
def wsL_ratio_r1 : List Cond := [Cond.classLink RL 21 "java/lang/IllegalArgumentException", Cond.methodLink RL 56 yX4_ratio, Cond.instanceMethod yX4_ratio, Cond.selects RX4 yX4_ratio yX4_ratio, Cond.initialized RX4, Cond.code yX4_ratio cX4_ratio 2 (some .float), Cond.classLink RX4 68 "java/lang/IllegalArgumentException", Cond.initialized "java/lang/IllegalArgumentException", Cond.fieldLink RX4 33 "Turbineorchard" "ledger" "LTurbineorchard$Ledger;", Cond.methodLink RX4 165 yX4_isOver, Cond.instanceMethod yX4_isOver, Cond.selects RX4 yX4_isOver yX4_isOver, Cond.code yX4_isOver cX4_isOver 2 (some .boolean), Cond.fieldLink RX4 37 "Turbineorchard" "now" "I", Cond.methodLink RX4 41 yX4_isWithin, Cond.static yX4_isWithin, Cond.code yX4_isWithin cX4_isWithin 3 (some .boolean), Cond.methodLink RX4 182 yX2_madeToSold, Cond.instanceMethod yX2_madeToSold, Cond.selects RX2 yX2_madeToSold yX2_madeToSold, Cond.initialized RX2, Cond.code yX2_madeToSold cX2_madeToSold 3 (some .float), Cond.fieldLink RX2 18 "Turbineorchard$Ledger" "made" "[I", Cond.methodLink RX2 29 yX2_soldFor]
def wsL_ratio_r2 : List Cond := [Cond.instanceMethod yX2_soldFor, Cond.selects RX2 yX2_soldFor yX2_soldFor, Cond.code yX2_soldFor cX2_soldFor 2 (some .int), Cond.fieldLink RX2 9 "Turbineorchard$Ledger" "slots" "[I"]
def wsL_ratio : List Cond := .codeWith yL_ratio cL_ratio 4 (some .int) [(0, 9, 12, 21)] :: ((wsL_ratio_r1 ++ wsL_ratio_r2) ++ wsX40 ++ wsX20 ++ (vx_atS RX4 72 "java/lang/IllegalArgumentException" ["java/lang/RuntimeException", "java/lang/Exception"]).filter goodWord)
def wsL_ofBoat_r1 : List Cond := [Cond.classLink RL 13 "java/lang/IndexOutOfBoundsException", Cond.classLink RL 21 "java/lang/IllegalArgumentException", Cond.methodLink RL 60 yX4_ofBoat, Cond.instanceMethod yX4_ofBoat, Cond.selects RX4 yX4_ofBoat yX4_ofBoat, Cond.initialized RX4, Cond.code yX4_ofBoat cX4_ofBoat 3 (some .int), Cond.classLink RX4 45 "java/lang/IndexOutOfBoundsException", Cond.initialized "java/lang/IndexOutOfBoundsException", Cond.classLink RX4 68 "java/lang/IllegalArgumentException", Cond.initialized "java/lang/IllegalArgumentException", Cond.fieldLink RX4 26 "Turbineorchard" "fleet" "LTurbineorchard$Fleet;", Cond.methodLink RX4 104 yX4_isBoat, Cond.static yX4_isBoat, Cond.code yX4_isBoat cX4_isBoat 1 (some .boolean), Cond.methodLink RX4 41 yX4_isWithin, Cond.static yX4_isWithin, Cond.code yX4_isWithin cX4_isWithin 3 (some .boolean), Cond.methodLink RX4 188 yX1_turbineOf, Cond.instanceMethod yX1_turbineOf, Cond.selects RX1 yX1_turbineOf yX1_turbineOf, Cond.initialized RX1, Cond.code yX1_turbineOf cX1_turbineOf 2 (some .int), Cond.fieldLink RX1 9 "Turbineorchard$Fleet" "turbines" "[I"]
def wsL_ofBoat_r2 : List Cond := [Cond.methodLink RX4 191 yX1_hoursLeft, Cond.instanceMethod yX1_hoursLeft, Cond.selects RX1 yX1_hoursLeft yX1_hoursLeft, Cond.code yX1_hoursLeft cX1_hoursLeft 2 (some .int), Cond.fieldLink RX1 15 "Turbineorchard$Fleet" "left" "[I", Cond.methodLink RX4 194 yX1_workedToday, Cond.instanceMethod yX1_workedToday, Cond.selects RX1 yX1_workedToday yX1_workedToday, Cond.code yX1_workedToday cX1_workedToday 2 (some .int), Cond.fieldLink RX1 21 "Turbineorchard$Fleet" "today" "[I", Cond.methodLink RX4 197 yX1_workedInAll, Cond.instanceMethod yX1_workedInAll, Cond.selects RX1 yX1_workedInAll yX1_workedInAll, Cond.code yX1_workedInAll cX1_workedInAll 2 (some .int), Cond.fieldLink RX1 24 "Turbineorchard$Fleet" "inAll" "[I"]
def wsL_ofBoat : List Cond := .codeWith yL_ofBoat cL_ofBoat 5 (some .int) [(0, 10, 13, 13), (0, 10, 17, 21)] :: ((wsL_ofBoat_r1 ++ wsL_ofBoat_r2) ++ wsX40 ++ wsX10 ++ (vx_atS RX4 49 "java/lang/IndexOutOfBoundsException" ["java/lang/RuntimeException", "java/lang/Exception"]).filter goodWord ++ (vx_atS RX4 72 "java/lang/IllegalArgumentException" ["java/lang/RuntimeException", "java/lang/Exception"]).filter goodWord)
def wsL_ofTurbine_r1 : List Cond := [Cond.classLink RL 13 "java/lang/IndexOutOfBoundsException", Cond.classLink RL 21 "java/lang/IllegalArgumentException", Cond.methodLink RL 63 yX4_ofTurbine, Cond.instanceMethod yX4_ofTurbine, Cond.selects RX4 yX4_ofTurbine yX4_ofTurbine, Cond.initialized RX4, Cond.code yX4_ofTurbine cX4_ofTurbine 3 (some .int), Cond.classLink RX4 45 "java/lang/IndexOutOfBoundsException", Cond.initialized "java/lang/IndexOutOfBoundsException", Cond.classLink RX4 68 "java/lang/IllegalArgumentException", Cond.initialized "java/lang/IllegalArgumentException", Cond.fieldLink RX4 19 "Turbineorchard" "field" "LTurbineorchard$Field;", Cond.methodLink RX4 86 yX0_has, Cond.instanceMethod yX0_has, Cond.selects RX0 yX0_has yX0_has, Cond.initialized RX0, Cond.code yX0_has cX0_has 2 (some .boolean), Cond.fieldLink RX0 28 "Turbineorchard$Field" "count" "I", Cond.static yX4_isWithin, Cond.code yX4_isWithin cX4_isWithin 3 (some .boolean), Cond.methodLink RX4 41 yX4_isWithin, Cond.methodLink RX4 200 yX0_placeOf, Cond.instanceMethod yX0_placeOf, Cond.selects RX0 yX0_placeOf yX0_placeOf]
def wsL_ofTurbine_r2 : List Cond := [Cond.code yX0_placeOf cX0_placeOf 2 (some .int), Cond.fieldLink RX0 15 "Turbineorchard$Field" "places" "[I", Cond.methodLink RX4 91 yX0_isBroken, Cond.instanceMethod yX0_isBroken, Cond.selects RX0 yX0_isBroken yX0_isBroken, Cond.code yX0_isBroken cX0_isBroken 2 (some .boolean), Cond.fieldLink RX0 18 "Turbineorchard$Field" "broken" "[Z", Cond.methodLink RX4 203 yX0_madeInAllBy, Cond.instanceMethod yX0_madeInAllBy, Cond.selects RX0 yX0_madeInAllBy yX0_madeInAllBy, Cond.code yX0_madeInAllBy cX0_madeInAllBy 2 (some .int), Cond.fieldLink RX0 25 "Turbineorchard$Field" "madeInAll" "[I"]
def wsL_ofTurbine : List Cond := .codeWith yL_ofTurbine cL_ofTurbine 5 (some .int) [(0, 10, 13, 13), (0, 10, 17, 21)] :: ((wsL_ofTurbine_r1 ++ wsL_ofTurbine_r2) ++ wsX40 ++ wsX00 ++ (vx_atS RX4 49 "java/lang/IndexOutOfBoundsException" ["java/lang/RuntimeException", "java/lang/Exception"]).filter goodWord ++ (vx_atS RX4 72 "java/lang/IllegalArgumentException" ["java/lang/RuntimeException", "java/lang/Exception"]).filter goodWord)
def wsL_law0_r1 : List Cond := [Cond.classLink RL 8 RX4, Cond.instantiable RX4 5, Cond.initialized RX4, Cond.classLink RL 67 RX5, Cond.instantiable RX5 19, Cond.initialized RX5, Cond.arrayClass .long, Cond.arrayClass .double, Cond.methodLink RL 66 yX4_init, Cond.instanceMethod yX4_init, Cond.code yX4_init cX4_init 1 none, Cond.methodLink RX4 3 objectInit, Cond.instanceMethod objectInit, Cond.code objectInit ⟨#[0xb1]⟩ 1 none, Cond.classLink RX4 9 RX3, Cond.instantiable RX3 3, Cond.initialized RX3, Cond.fieldLink RX4 12 "Turbineorchard" "weather" "LTurbineorchard$Weather;", Cond.classLink RX4 16 RX0, Cond.instantiable RX0 7, Cond.initialized RX0, Cond.fieldLink RX4 19 "Turbineorchard" "field" "LTurbineorchard$Field;", Cond.classLink RX4 23 RX1, Cond.instantiable RX1 5]
def wsL_law0_r2 : List Cond := [Cond.initialized RX1, Cond.fieldLink RX4 26 "Turbineorchard" "fleet" "LTurbineorchard$Fleet;", Cond.classLink RX4 30 RX2, Cond.instantiable RX2 4, Cond.initialized RX2, Cond.fieldLink RX4 33 "Turbineorchard" "ledger" "LTurbineorchard$Ledger;", Cond.fieldLink RX4 37 "Turbineorchard" "now" "I", Cond.methodLink RX4 11 yX3_init, Cond.instanceMethod yX3_init, Cond.code yX3_init cX3_init 2 none, Cond.methodLink RX3 3 objectInit, Cond.arrayClass .int, Cond.fieldLink RX3 9 "Turbineorchard$Weather" "speeds" "[I", Cond.arrayClass .boolean, Cond.fieldLink RX3 15 "Turbineorchard$Weather" "wests" "[Z", Cond.fieldLink RX3 19 "Turbineorchard$Weather" "toldWaves" "[I", Cond.methodLink RX4 18 yX0_init, Cond.instanceMethod yX0_init, Cond.code yX0_init cX0_init 2 none, Cond.methodLink RX0 3 objectInit, Cond.fieldLink RX0 9 "Turbineorchard$Field" "turbineAt" "[I", Cond.fieldLink RX0 15 "Turbineorchard$Field" "places" "[I", Cond.fieldLink RX0 18 "Turbineorchard$Field" "broken" "[Z", Cond.fieldLink RX0 22 "Turbineorchard$Field" "stilled" "[Z"]
def wsL_law0_r3 : List Cond := [Cond.fieldLink RX0 25 "Turbineorchard$Field" "madeInAll" "[I", Cond.methodLink RX4 25 yX1_init, Cond.instanceMethod yX1_init, Cond.code yX1_init cX1_init 2 none, Cond.methodLink RX1 3 objectInit, Cond.fieldLink RX1 9 "Turbineorchard$Fleet" "turbines" "[I", Cond.fieldLink RX1 15 "Turbineorchard$Fleet" "left" "[I", Cond.fieldLink RX1 18 "Turbineorchard$Fleet" "crewLimits" "[I", Cond.fieldLink RX1 21 "Turbineorchard$Fleet" "today" "[I", Cond.fieldLink RX1 24 "Turbineorchard$Fleet" "inAll" "[I", Cond.methodLink RX4 32 yX2_init, Cond.instanceMethod yX2_init, Cond.code yX2_init cX2_init 2 none, Cond.methodLink RX2 3 objectInit, Cond.fieldLink RX2 9 "Turbineorchard$Ledger" "slots" "[I", Cond.fieldLink RX2 15 "Turbineorchard$Ledger" "prices" "[I", Cond.fieldLink RX2 18 "Turbineorchard$Ledger" "made" "[I", Cond.methodLink RL 69 yX5_init, Cond.instanceMethod yX5_init, Cond.code yX5_init cX5_init 2 none, Cond.methodLink RX5 1 objectInit, Cond.fieldLink RX5 7 "TurbineorchardModel" "place" "[I", Cond.fieldLink RX5 13 "TurbineorchardModel" "broken" "[I", Cond.fieldLink RX5 16 "TurbineorchardModel" "made" "[I"]
def wsL_law0_r4 : List Cond := [Cond.fieldLink RX5 19 "TurbineorchardModel" "turns" "[I", Cond.fieldLink RX5 22 "TurbineorchardModel" "speed" "[I", Cond.fieldLink RX5 25 "TurbineorchardModel" "west" "[I", Cond.fieldLink RX5 28 "TurbineorchardModel" "told" "[I", Cond.fieldLink RX5 31 "TurbineorchardModel" "sold" "[I", Cond.fieldLink RX5 34 "TurbineorchardModel" "price" "[I", Cond.fieldLink RX5 37 "TurbineorchardModel" "all" "[I", Cond.fieldLink RX5 40 "TurbineorchardModel" "money" "[I", Cond.fieldLink RX5 43 "TurbineorchardModel" "crew" "[I", Cond.fieldLink RX5 46 "TurbineorchardModel" "at" "[I", Cond.fieldLink RX5 49 "TurbineorchardModel" "left" "[I", Cond.fieldLink RX5 52 "TurbineorchardModel" "today" "[I", Cond.fieldLink RX5 55 "TurbineorchardModel" "worked" "[I", Cond.methodLink RL 70 yL_turbine, Cond.static yL_turbine, Cond.initialized RL, Cond.codeWith yL_turbine cL_turbine 4 (some .int) [(0, 9, 12, 13), (0, 9, 15, 15)], Cond.classLink RL 13 "java/lang/IndexOutOfBoundsException", Cond.classLink RL 15 "java/lang/IllegalStateException", Cond.methodLink RL 7 yX4_turbine, Cond.instanceMethod yX4_turbine, Cond.selects RX4 yX4_turbine yX4_turbine, Cond.code yX4_turbine cX4_turbine 2 (some .int), Cond.classLink RX4 45 "java/lang/IndexOutOfBoundsException"]
def wsL_law0_r5 : List Cond := [Cond.initialized "java/lang/IndexOutOfBoundsException", Cond.classLink RX4 56 "java/lang/IllegalStateException", Cond.initialized "java/lang/IllegalStateException", Cond.methodLink RX4 41 yX4_isWithin, Cond.static yX4_isWithin, Cond.code yX4_isWithin cX4_isWithin 3 (some .boolean), Cond.methodLink RX4 52 yX0_hasRoomAt, Cond.instanceMethod yX0_hasRoomAt, Cond.selects RX0 yX0_hasRoomAt yX0_hasRoomAt, Cond.code yX0_hasRoomAt cX0_hasRoomAt 2 (some .boolean), Cond.fieldLink RX0 28 "Turbineorchard$Field" "count" "I", Cond.methodLink RX4 61 yX0_build, Cond.instanceMethod yX0_build, Cond.selects RX0 yX0_build yX0_build, Cond.code yX0_build cX0_build 3 (some .int), Cond.methodLink RL 75 yX5_turbine, Cond.instanceMethod yX5_turbine, Cond.selects RX5 yX5_turbine yX5_turbine, Cond.code yX5_turbine cX5_turbine 4 (some .int), Cond.fieldLink RX5 62 "TurbineorchardModel" "turbines" "I", Cond.methodLink RX5 65 yX5_in, Cond.instanceMethod yX5_in, Cond.selects RX5 yX5_in yX5_in, Cond.code yX5_in cX5_in 4 (some .boolean)]
def wsL_law0_r6 : List Cond := [Cond.methodLink RX5 69 yX5_fails, Cond.instanceMethod yX5_fails, Cond.selects RX5 yX5_fails yX5_fails, Cond.code yX5_fails cX5_fails 2 (some .boolean), Cond.fieldLink RX5 58 "TurbineorchardModel" "thrown" "I", Cond.methodLink RL 76 yX5_thrown, Cond.instanceMethod yX5_thrown, Cond.selects RX5 yX5_thrown yX5_thrown, Cond.code yX5_thrown cX5_thrown 1 (some .int), Cond.methodLink RL 80 yL_wind, Cond.static yL_wind, Cond.codeWith yL_wind cL_wind 7 (some .int) [(0, 14, 17, 21)], Cond.classLink RL 21 "java/lang/IllegalArgumentException", Cond.methodLink RL 17 yX4_wind, Cond.instanceMethod yX4_wind, Cond.selects RX4 yX4_wind yX4_wind, Cond.code yX4_wind cX4_wind 5 (some .int), Cond.classLink RX4 68 "java/lang/IllegalArgumentException", Cond.initialized "java/lang/IllegalArgumentException", Cond.methodLink RX4 65 yX4_isToCome, Cond.instanceMethod yX4_isToCome, Cond.selects RX4 yX4_isToCome yX4_isToCome, Cond.code yX4_isToCome cX4_isToCome 2 (some .boolean), Cond.methodLink RX4 73 yX3_tellWind]
def wsL_law0_r7 : List Cond := [Cond.instanceMethod yX3_tellWind, Cond.selects RX3 yX3_tellWind yX3_tellWind, Cond.code yX3_tellWind cX3_tellWind 6 none, Cond.methodLink RL 83 yX5_wind, Cond.instanceMethod yX5_wind, Cond.selects RX5 yX5_wind yX5_wind, Cond.code yX5_wind cX5_wind 7 (some .int), Cond.fieldLink RX5 73 "TurbineorchardModel" "now" "I", Cond.methodLink RL 84 yL_waves, Cond.static yL_waves, Cond.codeWith yL_waves cL_waves 5 (some .int) [(0, 10, 13, 21)], Cond.methodLink RL 23 yX4_waves, Cond.instanceMethod yX4_waves, Cond.selects RX4 yX4_waves yX4_waves, Cond.code yX4_waves cX4_waves 4 (some .int), Cond.methodLink RX4 79 yX3_wavesIn, Cond.instanceMethod yX3_wavesIn, Cond.selects RX3 yX3_wavesIn yX3_wavesIn, Cond.code yX3_wavesIn cX3_wavesIn 2 (some .int), Cond.methodLink RX4 82 yX3_tellWaves, Cond.instanceMethod yX3_tellWaves, Cond.selects RX3 yX3_tellWaves yX3_tellWaves, Cond.code yX3_tellWaves cX3_tellWaves 3 none, Cond.methodLink RL 87 yX5_waves]
def wsL_law0_r8 : List Cond := [Cond.instanceMethod yX5_waves, Cond.selects RX5 yX5_waves yX5_waves, Cond.code yX5_waves cX5_waves 5 (some .int), Cond.methodLink RX5 76 yX5_wavesOf, Cond.instanceMethod yX5_wavesOf, Cond.selects RX5 yX5_wavesOf yX5_wavesOf, Cond.code yX5_wavesOf cX5_wavesOf 2 (some .int), Cond.methodLink RL 88 yL_breaks, Cond.static yL_breaks, Cond.codeWith yL_breaks cL_breaks 4 (some .int) [(0, 9, 12, 13), (0, 9, 15, 15)], Cond.methodLink RL 27 yX4_breaks, Cond.instanceMethod yX4_breaks, Cond.selects RX4 yX4_breaks yX4_breaks, Cond.code yX4_breaks cX4_breaks 2 (some .int), Cond.methodLink RX4 86 yX0_has, Cond.instanceMethod yX0_has, Cond.selects RX0 yX0_has yX0_has, Cond.code yX0_has cX0_has 2 (some .boolean), Cond.methodLink RX4 91 yX0_isBroken, Cond.instanceMethod yX0_isBroken, Cond.selects RX0 yX0_isBroken yX0_isBroken, Cond.code yX0_isBroken cX0_isBroken 2 (some .boolean), Cond.methodLink RX4 96 yX0_breakDown, Cond.instanceMethod yX0_breakDown]
def wsL_law0_r9 : List Cond := [Cond.selects RX0 yX0_breakDown yX0_breakDown, Cond.code yX0_breakDown cX0_breakDown 2 none, Cond.fieldLink RX0 36 "Turbineorchard$Field" "brokenCount" "I", Cond.methodLink RX4 100 yX0_countBroken, Cond.instanceMethod yX0_countBroken, Cond.selects RX0 yX0_countBroken yX0_countBroken, Cond.code yX0_countBroken cX0_countBroken 1 (some .int), Cond.methodLink RL 90 yX5_breaks, Cond.instanceMethod yX5_breaks, Cond.selects RX5 yX5_breaks yX5_breaks, Cond.code yX5_breaks cX5_breaks 5 (some .int), Cond.methodLink RX5 80 yX5_isTurbine, Cond.instanceMethod yX5_isTurbine, Cond.selects RX5 yX5_isTurbine yX5_isTurbine, Cond.code yX5_isTurbine cX5_isTurbine 2 (some .boolean), Cond.methodLink RL 91 yL_crew, Cond.static yL_crew, Cond.codeWith yL_crew cL_crew 5 (some .int) [(0, 10, 13, 13), (0, 10, 17, 21)], Cond.methodLink RL 30 yX4_crew, Cond.instanceMethod yX4_crew, Cond.selects RX4 yX4_crew yX4_crew, Cond.code yX4_crew cX4_crew 4 (some .int), Cond.methodLink RX4 104 yX4_isBoat, Cond.static yX4_isBoat]
def wsL_law0_r10 : List Cond := [Cond.code yX4_isBoat cX4_isBoat 1 (some .boolean), Cond.methodLink RX4 111 yX1_crewHours, Cond.instanceMethod yX1_crewHours, Cond.selects RX1 yX1_crewHours yX1_crewHours, Cond.code yX1_crewHours cX1_crewHours 2 (some .int), Cond.methodLink RX4 114 yX1_setCrewHours, Cond.instanceMethod yX1_setCrewHours, Cond.selects RX1 yX1_setCrewHours yX1_setCrewHours, Cond.code yX1_setCrewHours cX1_setCrewHours 3 none, Cond.methodLink RL 93 yX5_crew, Cond.instanceMethod yX5_crew, Cond.selects RX5 yX5_crew yX5_crew, Cond.code yX5_crew cX5_crew 4 (some .int), Cond.methodLink RL 94 yL_repair, Cond.static yL_repair, Cond.codeWith yL_repair cL_repair 5 (some .int) [(0, 7, 10, 13), (0, 7, 14, 21), (0, 7, 18, 15)], Cond.methodLink RL 33 yX4_repair, Cond.instanceMethod yX4_repair, Cond.selects RX4 yX4_repair yX4_repair, Cond.code yX4_repair cX4_repair 4 none, Cond.methodLink RX4 119 yX1_isFree, Cond.instanceMethod yX1_isFree, Cond.selects RX1 yX1_isFree yX1_isFree, Cond.code yX1_isFree cX1_isFree 2 (some .boolean)]
def wsL_law0_r11 : List Cond := [Cond.methodLink RX4 122 yX1_isAtWorkOn, Cond.instanceMethod yX1_isAtWorkOn, Cond.selects RX1 yX1_isAtWorkOn yX1_isAtWorkOn, Cond.code yX1_isAtWorkOn cX1_isAtWorkOn 3 (some .boolean), Cond.methodLink RX4 127 yX1_send, Cond.instanceMethod yX1_send, Cond.selects RX1 yX1_send yX1_send, Cond.code yX1_send cX1_send 4 none, Cond.methodLink RL 97 yX5_repair, Cond.instanceMethod yX5_repair, Cond.selects RX5 yX5_repair yX5_repair, Cond.code yX5_repair cX5_repair 6 none, Cond.methodLink RL 98 yL_sell, Cond.static yL_sell, Cond.codeWith yL_sell cL_sell 6 (some .int) [(0, 12, 15, 21), (0, 12, 19, 15)], Cond.methodLink RL 37 yX4_sell, Cond.instanceMethod yX4_sell, Cond.selects RX4 yX4_sell yX4_sell, Cond.code yX4_sell cX4_sell 5 (some .int), Cond.methodLink RX4 135 yX2_slotUnits, Cond.instanceMethod yX2_slotUnits, Cond.selects RX2 yX2_slotUnits yX2_slotUnits, Cond.code yX2_slotUnits cX2_slotUnits 2 (some .int), Cond.methodLink RX4 138 yX2_setSlot]
def wsL_law0_r12 : List Cond := [Cond.instanceMethod yX2_setSlot, Cond.selects RX2 yX2_setSlot yX2_setSlot, Cond.code yX2_setSlot cX2_setSlot 4 none, Cond.methodLink RL 101 yX5_sell, Cond.instanceMethod yX5_sell, Cond.selects RX5 yX5_sell yX5_sell, Cond.code yX5_sell cX5_sell 6 (some .int), Cond.methodLink RL 102 yL_pass, Cond.static yL_pass, Cond.codeWith yL_pass cL_pass 4 (some .int) [(0, 9, 12, 21), (0, 9, 15, 15)], Cond.methodLink RL 41 yX4_pass, Cond.instanceMethod yX4_pass, Cond.selects RX4 yX4_pass yX4_pass, Cond.code yX4_pass cX4_pass 3 (some .int), Cond.methodLink RX4 143 yX4_liveHour, Cond.instanceMethod yX4_liveHour, Cond.selects RX4 yX4_liveHour yX4_liveHour, Cond.code yX4_liveHour cX4_liveHour 1 none, Cond.methodLink RX4 210 yX4_workOnRepairs, Cond.instanceMethod yX4_workOnRepairs, Cond.selects RX4 yX4_workOnRepairs yX4_workOnRepairs, Cond.code yX4_workOnRepairs cX4_workOnRepairs 2 none, Cond.methodLink RX4 228 yX1_canWork, Cond.instanceMethod yX1_canWork]
def wsL_law0_r13 : List Cond := [Cond.selects RX1 yX1_canWork yX1_canWork, Cond.code yX1_canWork cX1_canWork 2 (some .boolean), Cond.methodLink RX1 27 yX1_isFree, Cond.methodLink RX4 231 yX1_workAnHour, Cond.instanceMethod yX1_workAnHour, Cond.selects RX1 yX1_workAnHour yX1_workAnHour, Cond.code yX1_workAnHour cX1_workAnHour 2 none, Cond.methodLink RX4 188 yX1_turbineOf, Cond.instanceMethod yX1_turbineOf, Cond.selects RX1 yX1_turbineOf yX1_turbineOf, Cond.code yX1_turbineOf cX1_turbineOf 2 (some .int), Cond.methodLink RX4 234 yX0_stillBeside, Cond.instanceMethod yX0_stillBeside, Cond.selects RX0 yX0_stillBeside yX0_stillBeside, Cond.code yX0_stillBeside cX0_stillBeside 4 none, Cond.methodLink RX0 39 yX0_stillAt, Cond.instanceMethod yX0_stillAt, Cond.selects RX0 yX0_stillAt yX0_stillAt, Cond.code yX0_stillAt cX0_stillAt 3 none, Cond.methodLink RX0 43 yX0_has, Cond.methodLink RX4 146 yX3_speedIn, Cond.instanceMethod yX3_speedIn, Cond.selects RX3 yX3_speedIn yX3_speedIn, Cond.code yX3_speedIn cX3_speedIn 2 (some .int)]
def wsL_law0_r14 : List Cond := [Cond.methodLink RX4 149 yX3_isWestIn, Cond.instanceMethod yX3_isWestIn, Cond.selects RX3 yX3_isWestIn yX3_isWestIn, Cond.code yX3_isWestIn cX3_isWestIn 2 (some .boolean), Cond.methodLink RX4 213 yX0_generate, Cond.instanceMethod yX0_generate, Cond.selects RX0 yX0_generate yX0_generate, Cond.code yX0_generate cX0_generate 6 (some .int), Cond.methodLink RX0 47 yX0_powerOf, Cond.instanceMethod yX0_powerOf, Cond.selects RX0 yX0_powerOf yX0_powerOf, Cond.code yX0_powerOf cX0_powerOf 4 (some .int), Cond.methodLink RX0 51 yX0_turns, Cond.instanceMethod yX0_turns, Cond.selects RX0 yX0_turns yX0_turns, Cond.code yX0_turns cX0_turns 2 (some .boolean), Cond.methodLink RX0 61 yX0_windLeft, Cond.instanceMethod yX0_windLeft, Cond.selects RX0 yX0_windLeft yX0_windLeft, Cond.code yX0_windLeft cX0_windLeft 7 (some .int), Cond.methodLink RX0 64 yX0_distancesAhead, Cond.instanceMethod yX0_distancesAhead, Cond.selects RX0 yX0_distancesAhead yX0_distancesAhead, Cond.code yX0_distancesAhead cX0_distancesAhead 6 (some .int)]
def wsL_law0_r15 : List Cond := [Cond.methodLink RX0 72 yX0_placesAhead, Cond.static yX0_placesAhead, Cond.code yX0_placesAhead cX0_placesAhead 2 (some .int), Cond.methodLink RX0 75 yX0_lane, Cond.static yX0_lane, Cond.code yX0_lane cX0_lane 2 (some .int), Cond.methodLink RX0 68 yX0_takenByWake, Cond.static yX0_takenByWake, Cond.code yX0_takenByWake cX0_takenByWake 3 (some .int), Cond.methodLink RX0 57 yX0_powerOfWind, Cond.static yX0_powerOfWind, Cond.code yX0_powerOfWind cX0_powerOfWind 1 (some .int), Cond.methodLink RX0 78 Lib.Math.min.name, Cond.static Lib.Math.min.name, Cond.initialized "java/lang/Math", Cond.code Lib.Math.min.name Lib.Math.min.code 2 (some .int), Cond.methodLink RX4 216 yX2_endHour, Cond.instanceMethod yX2_endHour, Cond.selects RX2 yX2_endHour yX2_endHour, Cond.code yX2_endHour cX2_endHour 3 none, Cond.fieldLink RX2 21 "Turbineorchard$Ledger" "proceeds" "J", Cond.methodLink RX2 25 yX2_proceedsOf, Cond.instanceMethod yX2_proceedsOf, Cond.selects RX2 yX2_proceedsOf yX2_proceedsOf]
def wsL_law0_r16 : List Cond := [Cond.code yX2_proceedsOf cX2_proceedsOf 5 (some .int), Cond.methodLink RX2 32 yX2_imbalanceOf, Cond.instanceMethod yX2_imbalanceOf, Cond.selects RX2 yX2_imbalanceOf yX2_imbalanceOf, Cond.code yX2_imbalanceOf cX2_imbalanceOf 2 (some .int), Cond.methodLink RX2 29 yX2_soldFor, Cond.instanceMethod yX2_soldFor, Cond.selects RX2 yX2_soldFor yX2_soldFor, Cond.code yX2_soldFor cX2_soldFor 2 (some .int), Cond.methodLink RX4 219 yX0_endStillness, Cond.instanceMethod yX0_endStillness, Cond.selects RX0 yX0_endStillness yX0_endStillness, Cond.code yX0_endStillness cX0_endStillness 2 none, Cond.methodLink RX4 222 yX4_endRepairs, Cond.instanceMethod yX4_endRepairs, Cond.selects RX4 yX4_endRepairs yX4_endRepairs, Cond.code yX4_endRepairs cX4_endRepairs 2 none, Cond.methodLink RX4 237 yX1_hasEnded, Cond.instanceMethod yX1_hasEnded, Cond.selects RX1 yX1_hasEnded yX1_hasEnded, Cond.code yX1_hasEnded cX1_hasEnded 2 (some .boolean), Cond.methodLink RX4 240 yX0_mend, Cond.instanceMethod yX0_mend, Cond.selects RX0 yX0_mend yX0_mend]
def wsL_law0_r17 : List Cond := [Cond.code yX0_mend cX0_mend 2 none, Cond.methodLink RX4 243 yX1_release, Cond.instanceMethod yX1_release, Cond.selects RX1 yX1_release yX1_release, Cond.code yX1_release cX1_release 2 none, Cond.methodLink RX4 225 yX1_beginDay, Cond.instanceMethod yX1_beginDay, Cond.selects RX1 yX1_beginDay yX1_beginDay, Cond.code yX1_beginDay cX1_beginDay 2 none, Cond.methodLink RL 104 yX5_pass, Cond.instanceMethod yX5_pass, Cond.selects RX5 yX5_pass yX5_pass, Cond.code yX5_pass cX5_pass 5 (some .int), Cond.methodLink RX5 98 yX5_repairs, Cond.instanceMethod yX5_repairs, Cond.selects RX5 yX5_repairs yX5_repairs, Cond.code yX5_repairs cX5_repairs 4 none, Cond.methodLink RX5 91 yX5_allTurn, Cond.instanceMethod yX5_allTurn, Cond.selects RX5 yX5_allTurn yX5_allTurn, Cond.code yX5_allTurn cX5_allTurn 2 none, Cond.methodLink RX5 94 yX5_areBeside, Cond.instanceMethod yX5_areBeside, Cond.selects RX5 yX5_areBeside yX5_areBeside]
def wsL_law0_r18 : List Cond := [Cond.code yX5_areBeside cX5_areBeside 5 (some .boolean), Cond.methodLink RX5 102 yX5_power, Cond.instanceMethod yX5_power, Cond.selects RX5 yX5_power yX5_power, Cond.code yX5_power cX5_power 4 (some .int), Cond.methodLink RX5 87 yX5_windOf, Cond.instanceMethod yX5_windOf, Cond.selects RX5 yX5_windOf yX5_windOf, Cond.code yX5_windOf cX5_windOf 6 (some .int), Cond.methodLink RX5 83 yX5_ahead, Cond.instanceMethod yX5_ahead, Cond.selects RX5 yX5_ahead yX5_ahead, Cond.code yX5_ahead cX5_ahead 7 (some .int), Cond.methodLink RX5 105 yX5_accounts, Cond.instanceMethod yX5_accounts, Cond.selects RX5 yX5_accounts yX5_accounts, Cond.code yX5_accounts cX5_accounts 4 none, Cond.methodLink RX5 108 yX5_frees, Cond.instanceMethod yX5_frees, Cond.selects RX5 yX5_frees yX5_frees, Cond.code yX5_frees cX5_frees 2 none, Cond.methodLink RL 105 yL_windAt, Cond.static yL_windAt, Cond.codeWith yL_windAt cL_windAt 4 (some .int) [(0, 9, 12, 13)]]
def wsL_law0_r19 : List Cond := [Cond.methodLink RL 44 yX4_windAt, Cond.instanceMethod yX4_windAt, Cond.selects RX4 yX4_windAt yX4_windAt, Cond.code yX4_windAt cX4_windAt 2 (some .int), Cond.methodLink RX4 152 yX0_windLeft, Cond.methodLink RL 107 yX5_windAt, Cond.instanceMethod yX5_windAt, Cond.selects RX5 yX5_windAt yX5_windAt, Cond.code yX5_windAt cX5_windAt 2 (some .int), Cond.methodLink RL 108 yL_foretold, Cond.static yL_foretold, Cond.codeWith yL_foretold cL_foretold 4 (some .int) [(0, 9, 12, 21)], Cond.methodLink RL 47 yX4_foretold, Cond.instanceMethod yX4_foretold, Cond.selects RX4 yX4_foretold yX4_foretold, Cond.code yX4_foretold cX4_foretold 2 (some .int), Cond.methodLink RX4 158 yX0_powerOfAll, Cond.instanceMethod yX0_powerOfAll, Cond.selects RX0 yX0_powerOfAll yX0_powerOfAll, Cond.code yX0_powerOfAll cX0_powerOfAll 5 (some .int), Cond.methodLink RL 110 yX5_foretold, Cond.instanceMethod yX5_foretold, Cond.selects RX5 yX5_foretold yX5_foretold, Cond.code yX5_foretold cX5_foretold 2 (some .int)]
def wsL_law0_r20 : List Cond := [Cond.methodLink RX5 111 yX5_sum, Cond.instanceMethod yX5_sum, Cond.selects RX5 yX5_sum yX5_sum, Cond.code yX5_sum cX5_sum 4 (some .int), Cond.methodLink RL 111 yL_foretoldAnew, Cond.static yL_foretoldAnew, Cond.codeWith yL_foretoldAnew cL_foretoldAnew 4 (some .int) [(0, 9, 12, 21)], Cond.methodLink RL 50 yX4_foretoldAnew, Cond.instanceMethod yX4_foretoldAnew, Cond.selects RX4 yX4_foretoldAnew yX4_foretoldAnew, Cond.code yX4_foretoldAnew cX4_foretoldAnew 2 (some .int), Cond.methodLink RX4 162 yX0_powerOfAllAnew, Cond.instanceMethod yX0_powerOfAllAnew, Cond.selects RX0 yX0_powerOfAllAnew yX0_powerOfAllAnew, Cond.code yX0_powerOfAllAnew cX0_powerOfAllAnew 5 (some .int), Cond.methodLink RX0 54 yX0_windLeftAnew, Cond.instanceMethod yX0_windLeftAnew, Cond.selects RX0 yX0_windLeftAnew yX0_windLeftAnew, Cond.code yX0_windLeftAnew cX0_windLeftAnew 9 (some .int), Cond.methodLink RL 113 yX5_foretoldAnew, Cond.instanceMethod yX5_foretoldAnew, Cond.selects RX5 yX5_foretoldAnew yX5_foretoldAnew, Cond.code yX5_foretoldAnew cX5_foretoldAnew 2 (some .int), Cond.methodLink RL 114 yL_ofHour]
def wsL_law0_r21 : List Cond := [Cond.static yL_ofHour, Cond.codeWith yL_ofHour cL_ofHour 5 (some .int) [(0, 10, 13, 21)], Cond.methodLink RL 53 yX4_ofHour, Cond.instanceMethod yX4_ofHour, Cond.selects RX4 yX4_ofHour yX4_ofHour, Cond.code yX4_ofHour cX4_ofHour 3 (some .int), Cond.methodLink RX4 165 yX4_isOver, Cond.instanceMethod yX4_isOver, Cond.selects RX4 yX4_isOver yX4_isOver, Cond.code yX4_isOver cX4_isOver 2 (some .boolean), Cond.methodLink RX4 170 yX2_madeIn, Cond.instanceMethod yX2_madeIn, Cond.selects RX2 yX2_madeIn yX2_madeIn, Cond.code yX2_madeIn cX2_madeIn 2 (some .int), Cond.methodLink RX4 173 yX2_soldFor, Cond.methodLink RX4 176 yX2_imbalanceOf, Cond.methodLink RX4 179 yX2_proceedsOf, Cond.methodLink RL 116 yX5_ofHour, Cond.instanceMethod yX5_ofHour, Cond.selects RX5 yX5_ofHour yX5_ofHour, Cond.code yX5_ofHour cX5_ofHour 5 (some .int), Cond.methodLink RL 117 yL_ratio, Cond.static yL_ratio, Cond.codeWith yL_ratio cL_ratio 4 (some .int) [(0, 9, 12, 21)]]
def wsL_law0_r22 : List Cond := [Cond.methodLink RL 56 yX4_ratio, Cond.instanceMethod yX4_ratio, Cond.selects RX4 yX4_ratio yX4_ratio, Cond.code yX4_ratio cX4_ratio 2 (some .float), Cond.methodLink RX4 182 yX2_madeToSold, Cond.instanceMethod yX2_madeToSold, Cond.selects RX2 yX2_madeToSold yX2_madeToSold, Cond.code yX2_madeToSold cX2_madeToSold 3 (some .float), Cond.methodLink RL 120 yX5_ratio, Cond.instanceMethod yX5_ratio, Cond.selects RX5 yX5_ratio yX5_ratio, Cond.code yX5_ratio cX5_ratio 2 (some .float), Cond.constantFloat RX5 114 (3212836864), Cond.methodLink RL 121 yL_ofBoat, Cond.static yL_ofBoat, Cond.codeWith yL_ofBoat cL_ofBoat 5 (some .int) [(0, 10, 13, 13), (0, 10, 17, 21)], Cond.methodLink RL 60 yX4_ofBoat, Cond.instanceMethod yX4_ofBoat, Cond.selects RX4 yX4_ofBoat yX4_ofBoat, Cond.code yX4_ofBoat cX4_ofBoat 3 (some .int), Cond.methodLink RX4 191 yX1_hoursLeft, Cond.instanceMethod yX1_hoursLeft, Cond.selects RX1 yX1_hoursLeft yX1_hoursLeft, Cond.code yX1_hoursLeft cX1_hoursLeft 2 (some .int)]
def wsL_law0_r23 : List Cond := [Cond.methodLink RX4 194 yX1_workedToday, Cond.instanceMethod yX1_workedToday, Cond.selects RX1 yX1_workedToday yX1_workedToday, Cond.code yX1_workedToday cX1_workedToday 2 (some .int), Cond.methodLink RX4 197 yX1_workedInAll, Cond.instanceMethod yX1_workedInAll, Cond.selects RX1 yX1_workedInAll yX1_workedInAll, Cond.code yX1_workedInAll cX1_workedInAll 2 (some .int), Cond.methodLink RL 123 yX5_ofBoat, Cond.instanceMethod yX5_ofBoat, Cond.selects RX5 yX5_ofBoat yX5_ofBoat, Cond.code yX5_ofBoat cX5_ofBoat 3 (some .int), Cond.methodLink RL 124 yL_ofTurbine, Cond.static yL_ofTurbine, Cond.codeWith yL_ofTurbine cL_ofTurbine 5 (some .int) [(0, 10, 13, 13), (0, 10, 17, 21)], Cond.methodLink RL 63 yX4_ofTurbine, Cond.instanceMethod yX4_ofTurbine, Cond.selects RX4 yX4_ofTurbine yX4_ofTurbine, Cond.code yX4_ofTurbine cX4_ofTurbine 3 (some .int), Cond.methodLink RX4 200 yX0_placeOf, Cond.instanceMethod yX0_placeOf, Cond.selects RX0 yX0_placeOf yX0_placeOf, Cond.code yX0_placeOf cX0_placeOf 2 (some .int), Cond.methodLink RX4 203 yX0_madeInAllBy]
def wsL_law0_r24 : List Cond := [Cond.instanceMethod yX0_madeInAllBy, Cond.selects RX0 yX0_madeInAllBy yX0_madeInAllBy, Cond.code yX0_madeInAllBy cX0_madeInAllBy 2 (some .int), Cond.methodLink RL 126 yX5_ofTurbine, Cond.instanceMethod yX5_ofTurbine, Cond.selects RX5 yX5_ofTurbine yX5_ofTurbine, Cond.code yX5_ofTurbine cX5_ofTurbine 3 (some .int), Cond.methodLink RL 127 yX4_brought, Cond.instanceMethod yX4_brought, Cond.selects RX4 yX4_brought yX4_brought, Cond.code yX4_brought cX4_brought 1 (some .long), Cond.methodLink RX4 206 yX2_proceedsInAll, Cond.instanceMethod yX2_proceedsInAll, Cond.selects RX2 yX2_proceedsInAll yX2_proceedsInAll, Cond.code yX2_proceedsInAll cX2_proceedsInAll 1 (some .long), Cond.methodLink RL 131 yX5_brought, Cond.instanceMethod yX5_brought, Cond.selects RX5 yX5_brought yX5_brought, Cond.code yX5_brought cX5_brought 4 (some .long)]
def wsL_law0 : List Cond := (wsL_law0_r1 ++ (wsL_law0_r2 ++ (wsL_law0_r3 ++ (wsL_law0_r4 ++ (wsL_law0_r5 ++ (wsL_law0_r6 ++ (wsL_law0_r7 ++ (wsL_law0_r8 ++ (wsL_law0_r9 ++ (wsL_law0_r10 ++ (wsL_law0_r11 ++ (wsL_law0_r12 ++ (wsL_law0_r13 ++ (wsL_law0_r14 ++ (wsL_law0_r15 ++ (wsL_law0_r16 ++ (wsL_law0_r17 ++ (wsL_law0_r18 ++ (wsL_law0_r19 ++ (wsL_law0_r20 ++ (wsL_law0_r21 ++ (wsL_law0_r22 ++ (wsL_law0_r23 ++ wsL_law0_r24))))))))))))))))))))))) ++ wsX40 ++ wsX50 ++ wsX30 ++ wsX00 ++ wsX10 ++ wsX20 ++ ([] : List Cond)
def wsL_law : List Cond := wsL_law0 ++ (vx_atS RX4 49 "java/lang/IndexOutOfBoundsException" ["java/lang/RuntimeException", "java/lang/Exception"]).filter goodWord ++ (vx_atS RX4 60 "java/lang/IllegalStateException" ["java/lang/RuntimeException", "java/lang/Exception"]).filter goodWord ++ (vx_atS RX4 72 "java/lang/IllegalArgumentException" ["java/lang/RuntimeException", "java/lang/Exception"]).filter goodWord
abbrev vwCl : List vw_C := [(RX0, TX0, 7), (RX1, TX1, 5), (RX2, TX2, 4), (RX3, TX3, 3), (RX4, TX4, 5), (RX5, TX5, 19)]
end
section
/-! printed: names, fields, word lists, decode rows (out of claim/NAMES.whole.lean.txt) -/
theorem dX0_init_0 : decode cX0_init 0 = .ok (.aload_n 0, 1) := by decide +kernel
theorem dX0_init_1 : decode cX0_init 1 = .ok (.invokespecial 3, 3) := by decide +kernel
theorem dX0_init_4 : decode cX0_init 4 = .ok (.aload_n 0, 1) := by decide +kernel
theorem dX0_init_5 : decode cX0_init 5 = .ok (.bipush 24, 2) := by decide +kernel
theorem dX0_init_7 : decode cX0_init 7 = .ok (.newarray .int, 2) := by decide +kernel
theorem dX0_init_9 : decode cX0_init 9 = .ok (.putfield 9, 3) := by decide +kernel
theorem dX0_init_12 : decode cX0_init 12 = .ok (.aload_n 0, 1) := by decide +kernel
theorem dX0_init_13 : decode cX0_init 13 = .ok (.bipush 12, 2) := by decide +kernel
theorem dX0_init_15 : decode cX0_init 15 = .ok (.newarray .int, 2) := by decide +kernel
theorem dX0_init_17 : decode cX0_init 17 = .ok (.putfield 15, 3) := by decide +kernel
theorem dX0_init_20 : decode cX0_init 20 = .ok (.aload_n 0, 1) := by decide +kernel
theorem dX0_init_21 : decode cX0_init 21 = .ok (.bipush 12, 2) := by decide +kernel
theorem dX0_init_23 : decode cX0_init 23 = .ok (.newarray .boolean, 2) := by decide +kernel
theorem dX0_init_25 : decode cX0_init 25 = .ok (.putfield 18, 3) := by decide +kernel
theorem dX0_init_28 : decode cX0_init 28 = .ok (.aload_n 0, 1) := by decide +kernel
theorem dX0_init_29 : decode cX0_init 29 = .ok (.bipush 12, 2) := by decide +kernel
theorem dX0_init_31 : decode cX0_init 31 = .ok (.newarray .boolean, 2) := by decide +kernel
theorem dX0_init_33 : decode cX0_init 33 = .ok (.putfield 22, 3) := by decide +kernel
theorem dX0_init_36 : decode cX0_init 36 = .ok (.aload_n 0, 1) := by decide +kernel
theorem dX0_init_37 : decode cX0_init 37 = .ok (.bipush 12, 2) := by decide +kernel
theorem dX0_init_39 : decode cX0_init 39 = .ok (.newarray .int, 2) := by decide +kernel
theorem dX0_init_41 : decode cX0_init 41 = .ok (.putfield 25, 3) := by decide +kernel
theorem dX0_init_44 : decode cX0_init 44 = .ok (.iconst 0, 1) := by decide +kernel
theorem dX0_init_45 : decode cX0_init 45 = .ok (.istore_n 1, 1) := by decide +kernel
theorem dX0_init_46 : decode cX0_init 46 = .ok (.iload_n 1, 1) := by decide +kernel
theorem dX0_init_47 : decode cX0_init 47 = .ok (.bipush 24, 2) := by decide +kernel
theorem dX0_init_49 : decode cX0_init 49 = .ok (.if_icmp .ge 16, 3) := by decide +kernel
theorem dX0_init_52 : decode cX0_init 52 = .ok (.aload_n 0, 1) := by decide +kernel
theorem dX0_init_53 : decode cX0_init 53 = .ok (.getfield 9, 3) := by decide +kernel
theorem dX0_init_56 : decode cX0_init 56 = .ok (.iload_n 1, 1) := by decide +kernel
theorem dX0_init_57 : decode cX0_init 57 = .ok (.iconst (-1), 1) := by decide +kernel
theorem dX0_init_58 : decode cX0_init 58 = .ok (.iastore, 1) := by decide +kernel
theorem dX0_init_59 : decode cX0_init 59 = .ok (.iinc 1 1, 3) := by decide +kernel
theorem dX0_init_62 : decode cX0_init 62 = .ok (.goto (-16), 3) := by decide +kernel
theorem dX0_init_65 : decode cX0_init 65 = .ok (.return_, 1) := by decide +kernel
set_option maxRecDepth 20000 in
theorem ggX0_has_X4_isWithin : GoodIn wsX0_has wsX4_isWithin := goodIn_r _ [4] (by decide +kernel) (by decide +kernel)
set_option maxRecDepth 20000 in
theorem gX0_has_X4_isWithin_n32 : GoodIn wsX0_has (wsX4_isWithin) := ggX0_has_X4_isWithin
theorem dX0_has_0 : decode cX0_has 0 = .ok (.iload_n 1, 1) := by decide +kernel
theorem dX0_has_1 : decode cX0_has 1 = .ok (.iconst 0, 1) := by decide +kernel
theorem dX0_has_2 : decode cX0_has 2 = .ok (.aload_n 0, 1) := by decide +kernel
theorem dX0_has_3 : decode cX0_has 3 = .ok (.getfield 28, 3) := by decide +kernel
theorem dX0_has_6 : decode cX0_has 6 = .ok (.iconst 1, 1) := by decide +kernel
theorem dX0_has_7 : decode cX0_has 7 = .ok (.isub, 1) := by decide +kernel
theorem dX0_has_8 : decode cX0_has 8 = .ok (.invokestatic 32, 3) := by decide +kernel
theorem dX0_has_11 : decode cX0_has 11 = .ok (.ireturn, 1) := by decide +kernel
theorem dX0_hasRoomAt_0 : decode cX0_hasRoomAt 0 = .ok (.aload_n 0, 1) := by decide +kernel
theorem dX0_hasRoomAt_1 : decode cX0_hasRoomAt 1 = .ok (.getfield 9, 3) := by decide +kernel
theorem dX0_hasRoomAt_4 : decode cX0_hasRoomAt 4 = .ok (.iload_n 1, 1) := by decide +kernel
theorem dX0_hasRoomAt_5 : decode cX0_hasRoomAt 5 = .ok (.iaload, 1) := by decide +kernel
theorem dX0_hasRoomAt_6 : decode cX0_hasRoomAt 6 = .ok (.iconst (-1), 1) := by decide +kernel
theorem dX0_hasRoomAt_7 : decode cX0_hasRoomAt 7 = .ok (.if_icmp .ne 16, 3) := by decide +kernel
theorem dX0_hasRoomAt_10 : decode cX0_hasRoomAt 10 = .ok (.aload_n 0, 1) := by decide +kernel
theorem dX0_hasRoomAt_11 : decode cX0_hasRoomAt 11 = .ok (.getfield 28, 3) := by decide +kernel
theorem dX0_hasRoomAt_14 : decode cX0_hasRoomAt 14 = .ok (.bipush 12, 2) := by decide +kernel
theorem dX0_hasRoomAt_16 : decode cX0_hasRoomAt 16 = .ok (.if_icmp .ge 7, 3) := by decide +kernel
theorem dX0_hasRoomAt_19 : decode cX0_hasRoomAt 19 = .ok (.iconst 1, 1) := by decide +kernel
theorem dX0_hasRoomAt_20 : decode cX0_hasRoomAt 20 = .ok (.goto 4, 3) := by decide +kernel
theorem dX0_hasRoomAt_23 : decode cX0_hasRoomAt 23 = .ok (.iconst 0, 1) := by decide +kernel
theorem dX0_hasRoomAt_24 : decode cX0_hasRoomAt 24 = .ok (.ireturn, 1) := by decide +kernel
theorem dX0_build_0 : decode cX0_build 0 = .ok (.aload_n 0, 1) := by decide +kernel
theorem dX0_build_1 : decode cX0_build 1 = .ok (.getfield 28, 3) := by decide +kernel
theorem dX0_build_4 : decode cX0_build 4 = .ok (.istore_n 2, 1) := by decide +kernel
theorem dX0_build_5 : decode cX0_build 5 = .ok (.aload_n 0, 1) := by decide +kernel
theorem dX0_build_6 : decode cX0_build 6 = .ok (.getfield 9, 3) := by decide +kernel
theorem dX0_build_9 : decode cX0_build 9 = .ok (.iload_n 1, 1) := by decide +kernel
theorem dX0_build_10 : decode cX0_build 10 = .ok (.iload_n 2, 1) := by decide +kernel
theorem dX0_build_11 : decode cX0_build 11 = .ok (.iastore, 1) := by decide +kernel
theorem dX0_build_12 : decode cX0_build 12 = .ok (.aload_n 0, 1) := by decide +kernel
theorem dX0_build_13 : decode cX0_build 13 = .ok (.getfield 15, 3) := by decide +kernel
theorem dX0_build_16 : decode cX0_build 16 = .ok (.iload_n 2, 1) := by decide +kernel
theorem dX0_build_17 : decode cX0_build 17 = .ok (.iload_n 1, 1) := by decide +kernel
theorem dX0_build_18 : decode cX0_build 18 = .ok (.iastore, 1) := by decide +kernel
theorem dX0_build_19 : decode cX0_build 19 = .ok (.aload_n 0, 1) := by decide +kernel
theorem dX0_build_20 : decode cX0_build 20 = .ok (.dup, 1) := by decide +kernel
theorem dX0_build_21 : decode cX0_build 21 = .ok (.getfield 28, 3) := by decide +kernel
theorem dX0_build_24 : decode cX0_build 24 = .ok (.iconst 1, 1) := by decide +kernel
theorem dX0_build_25 : decode cX0_build 25 = .ok (.iadd, 1) := by decide +kernel
theorem dX0_build_26 : decode cX0_build 26 = .ok (.putfield 28, 3) := by decide +kernel
theorem dX0_build_29 : decode cX0_build 29 = .ok (.iload_n 2, 1) := by decide +kernel
theorem dX0_build_30 : decode cX0_build 30 = .ok (.ireturn, 1) := by decide +kernel
theorem dX0_placeOf_0 : decode cX0_placeOf 0 = .ok (.aload_n 0, 1) := by decide +kernel
theorem dX0_placeOf_1 : decode cX0_placeOf 1 = .ok (.getfield 15, 3) := by decide +kernel
theorem dX0_placeOf_4 : decode cX0_placeOf 4 = .ok (.iload_n 1, 1) := by decide +kernel
theorem dX0_placeOf_5 : decode cX0_placeOf 5 = .ok (.iaload, 1) := by decide +kernel
theorem dX0_placeOf_6 : decode cX0_placeOf 6 = .ok (.ireturn, 1) := by decide +kernel
theorem dX0_isBroken_0 : decode cX0_isBroken 0 = .ok (.aload_n 0, 1) := by decide +kernel
theorem dX0_isBroken_1 : decode cX0_isBroken 1 = .ok (.getfield 18, 3) := by decide +kernel
theorem dX0_isBroken_4 : decode cX0_isBroken 4 = .ok (.iload_n 1, 1) := by decide +kernel
theorem dX0_isBroken_5 : decode cX0_isBroken 5 = .ok (.baload, 1) := by decide +kernel
theorem dX0_isBroken_6 : decode cX0_isBroken 6 = .ok (.ireturn, 1) := by decide +kernel
theorem dX0_countBroken_0 : decode cX0_countBroken 0 = .ok (.aload_n 0, 1) := by decide +kernel
theorem dX0_countBroken_1 : decode cX0_countBroken 1 = .ok (.getfield 36, 3) := by decide +kernel
theorem dX0_countBroken_4 : decode cX0_countBroken 4 = .ok (.ireturn, 1) := by decide +kernel
theorem dX0_madeInAllBy_0 : decode cX0_madeInAllBy 0 = .ok (.aload_n 0, 1) := by decide +kernel
theorem dX0_madeInAllBy_1 : decode cX0_madeInAllBy 1 = .ok (.getfield 25, 3) := by decide +kernel
theorem dX0_madeInAllBy_4 : decode cX0_madeInAllBy 4 = .ok (.iload_n 1, 1) := by decide +kernel
theorem dX0_madeInAllBy_5 : decode cX0_madeInAllBy 5 = .ok (.iaload, 1) := by decide +kernel
theorem dX0_madeInAllBy_6 : decode cX0_madeInAllBy 6 = .ok (.ireturn, 1) := by decide +kernel
theorem dX0_breakDown_0 : decode cX0_breakDown 0 = .ok (.aload_n 0, 1) := by decide +kernel
theorem dX0_breakDown_1 : decode cX0_breakDown 1 = .ok (.getfield 18, 3) := by decide +kernel
theorem dX0_breakDown_4 : decode cX0_breakDown 4 = .ok (.iload_n 1, 1) := by decide +kernel
theorem dX0_breakDown_5 : decode cX0_breakDown 5 = .ok (.iconst 1, 1) := by decide +kernel
theorem dX0_breakDown_6 : decode cX0_breakDown 6 = .ok (.bastore, 1) := by decide +kernel
theorem dX0_breakDown_7 : decode cX0_breakDown 7 = .ok (.aload_n 0, 1) := by decide +kernel
theorem dX0_breakDown_8 : decode cX0_breakDown 8 = .ok (.dup, 1) := by decide +kernel
theorem dX0_breakDown_9 : decode cX0_breakDown 9 = .ok (.getfield 36, 3) := by decide +kernel
theorem dX0_breakDown_12 : decode cX0_breakDown 12 = .ok (.iconst 1, 1) := by decide +kernel
theorem dX0_breakDown_13 : decode cX0_breakDown 13 = .ok (.iadd, 1) := by decide +kernel
theorem dX0_breakDown_14 : decode cX0_breakDown 14 = .ok (.putfield 36, 3) := by decide +kernel
theorem dX0_breakDown_17 : decode cX0_breakDown 17 = .ok (.return_, 1) := by decide +kernel
theorem dX0_mend_0 : decode cX0_mend 0 = .ok (.aload_n 0, 1) := by decide +kernel
theorem dX0_mend_1 : decode cX0_mend 1 = .ok (.getfield 18, 3) := by decide +kernel
theorem dX0_mend_4 : decode cX0_mend 4 = .ok (.iload_n 1, 1) := by decide +kernel
theorem dX0_mend_5 : decode cX0_mend 5 = .ok (.iconst 0, 1) := by decide +kernel
theorem dX0_mend_6 : decode cX0_mend 6 = .ok (.bastore, 1) := by decide +kernel
theorem dX0_mend_7 : decode cX0_mend 7 = .ok (.aload_n 0, 1) := by decide +kernel
theorem dX0_mend_8 : decode cX0_mend 8 = .ok (.dup, 1) := by decide +kernel
theorem dX0_mend_9 : decode cX0_mend 9 = .ok (.getfield 36, 3) := by decide +kernel
theorem dX0_mend_12 : decode cX0_mend 12 = .ok (.iconst 1, 1) := by decide +kernel
theorem dX0_mend_13 : decode cX0_mend 13 = .ok (.isub, 1) := by decide +kernel
theorem dX0_mend_14 : decode cX0_mend 14 = .ok (.putfield 36, 3) := by decide +kernel
theorem dX0_mend_17 : decode cX0_mend 17 = .ok (.return_, 1) := by decide +kernel
set_option maxRecDepth 20000 in
theorem ggX0_stillBeside_X0_stillAt : GoodIn wsX0_stillBeside wsX0_stillAt := goodIn_r _ [6, 7, 8, 9, 10, 11, 5, 12, 13, 14, 15, 16, 17, 18, 19, 20, 21, 22, 23] (by decide +kernel) (by decide +kernel)
set_option maxRecDepth 20000 in
theorem gX0_stillBeside_X0_stillAt : GoodIn wsX0_stillBeside (wsV RX0 39 RX0 yX0_stillAt wsX0_stillAt) := goodIn_app (goodIn_of _ (by decide +kernel)) ggX0_stillBeside_X0_stillAt
theorem dX0_stillBeside_0 : decode cX0_stillBeside 0 = .ok (.aload_n 0, 1) := by decide +kernel
theorem dX0_stillBeside_1 : decode cX0_stillBeside 1 = .ok (.getfield 15, 3) := by decide +kernel
theorem dX0_stillBeside_4 : decode cX0_stillBeside 4 = .ok (.iload_n 1, 1) := by decide +kernel
theorem dX0_stillBeside_5 : decode cX0_stillBeside 5 = .ok (.iaload, 1) := by decide +kernel
theorem dX0_stillBeside_6 : decode cX0_stillBeside 6 = .ok (.istore_n 2, 1) := by decide +kernel
theorem dX0_stillBeside_7 : decode cX0_stillBeside 7 = .ok (.iload_n 2, 1) := by decide +kernel
theorem dX0_stillBeside_8 : decode cX0_stillBeside 8 = .ok (.bipush 6, 2) := by decide +kernel
theorem dX0_stillBeside_10 : decode cX0_stillBeside 10 = .ok (.irem, 1) := by decide +kernel
theorem dX0_stillBeside_11 : decode cX0_stillBeside 11 = .ok (.istore_n 3, 1) := by decide +kernel
theorem dX0_stillBeside_12 : decode cX0_stillBeside 12 = .ok (.iload_n 2, 1) := by decide +kernel
theorem dX0_stillBeside_13 : decode cX0_stillBeside 13 = .ok (.bipush 6, 2) := by decide +kernel
theorem dX0_stillBeside_15 : decode cX0_stillBeside 15 = .ok (.if_icmp .lt 11, 3) := by decide +kernel
theorem dX0_stillBeside_18 : decode cX0_stillBeside 18 = .ok (.aload_n 0, 1) := by decide +kernel
theorem dX0_stillBeside_19 : decode cX0_stillBeside 19 = .ok (.iload_n 2, 1) := by decide +kernel
theorem dX0_stillBeside_20 : decode cX0_stillBeside 20 = .ok (.bipush 6, 2) := by decide +kernel
theorem dX0_stillBeside_22 : decode cX0_stillBeside 22 = .ok (.isub, 1) := by decide +kernel
theorem dX0_stillBeside_23 : decode cX0_stillBeside 23 = .ok (.invokevirtual 39, 3) := by decide +kernel
theorem dX0_stillBeside_26 : decode cX0_stillBeside 26 = .ok (.iload_n 2, 1) := by decide +kernel
theorem dX0_stillBeside_27 : decode cX0_stillBeside 27 = .ok (.bipush 18, 2) := by decide +kernel
theorem dX0_stillBeside_29 : decode cX0_stillBeside 29 = .ok (.if_icmp .ge 11, 3) := by decide +kernel
theorem dX0_stillBeside_32 : decode cX0_stillBeside 32 = .ok (.aload_n 0, 1) := by decide +kernel
theorem dX0_stillBeside_33 : decode cX0_stillBeside 33 = .ok (.iload_n 2, 1) := by decide +kernel
theorem dX0_stillBeside_34 : decode cX0_stillBeside 34 = .ok (.bipush 6, 2) := by decide +kernel
theorem dX0_stillBeside_36 : decode cX0_stillBeside 36 = .ok (.iadd, 1) := by decide +kernel
theorem dX0_stillBeside_37 : decode cX0_stillBeside 37 = .ok (.invokevirtual 39, 3) := by decide +kernel
theorem dX0_stillBeside_40 : decode cX0_stillBeside 40 = .ok (.iload_n 3, 1) := by decide +kernel
theorem dX0_stillBeside_41 : decode cX0_stillBeside 41 = .ok (.ifCond .le 10, 3) := by decide +kernel
theorem dX0_stillBeside_44 : decode cX0_stillBeside 44 = .ok (.aload_n 0, 1) := by decide +kernel
theorem dX0_stillBeside_45 : decode cX0_stillBeside 45 = .ok (.iload_n 2, 1) := by decide +kernel
theorem dX0_stillBeside_46 : decode cX0_stillBeside 46 = .ok (.iconst 1, 1) := by decide +kernel
theorem dX0_stillBeside_47 : decode cX0_stillBeside 47 = .ok (.isub, 1) := by decide +kernel
theorem dX0_stillBeside_48 : decode cX0_stillBeside 48 = .ok (.invokevirtual 39, 3) := by decide +kernel
theorem dX0_stillBeside_51 : decode cX0_stillBeside 51 = .ok (.iload_n 3, 1) := by decide +kernel
theorem dX0_stillBeside_52 : decode cX0_stillBeside 52 = .ok (.iconst 5, 1) := by decide +kernel
theorem dX0_stillBeside_53 : decode cX0_stillBeside 53 = .ok (.if_icmp .ge 10, 3) := by decide +kernel
theorem dX0_stillBeside_56 : decode cX0_stillBeside 56 = .ok (.aload_n 0, 1) := by decide +kernel
theorem dX0_stillBeside_57 : decode cX0_stillBeside 57 = .ok (.iload_n 2, 1) := by decide +kernel
theorem dX0_stillBeside_58 : decode cX0_stillBeside 58 = .ok (.iconst 1, 1) := by decide +kernel
theorem dX0_stillBeside_59 : decode cX0_stillBeside 59 = .ok (.iadd, 1) := by decide +kernel
theorem dX0_stillBeside_60 : decode cX0_stillBeside 60 = .ok (.invokevirtual 39, 3) := by decide +kernel
theorem dX0_stillBeside_63 : decode cX0_stillBeside 63 = .ok (.return_, 1) := by decide +kernel
set_option maxRecDepth 20000 in
theorem ggX0_stillAt_X0_has : GoodIn wsX0_stillAt wsX0_has := goodIn_r _ [7, 8, 9, 10, 11, 12, 13, 14, 15, 16, 17, 18] (by decide +kernel) (by decide +kernel)
set_option maxRecDepth 20000 in
theorem gX0_stillAt_X0_has : GoodIn wsX0_stillAt (wsV RX0 43 RX0 yX0_has wsX0_has) := goodIn_app (goodIn_of _ (by decide +kernel)) ggX0_stillAt_X0_has
theorem dX0_stillAt_0 : decode cX0_stillAt 0 = .ok (.aload_n 0, 1) := by decide +kernel
theorem dX0_stillAt_1 : decode cX0_stillAt 1 = .ok (.getfield 9, 3) := by decide +kernel
theorem dX0_stillAt_4 : decode cX0_stillAt 4 = .ok (.iload_n 1, 1) := by decide +kernel
theorem dX0_stillAt_5 : decode cX0_stillAt 5 = .ok (.iaload, 1) := by decide +kernel
theorem dX0_stillAt_6 : decode cX0_stillAt 6 = .ok (.istore_n 2, 1) := by decide +kernel
theorem dX0_stillAt_7 : decode cX0_stillAt 7 = .ok (.aload_n 0, 1) := by decide +kernel
theorem dX0_stillAt_8 : decode cX0_stillAt 8 = .ok (.iload_n 2, 1) := by decide +kernel
theorem dX0_stillAt_9 : decode cX0_stillAt 9 = .ok (.invokevirtual 43, 3) := by decide +kernel
theorem dX0_stillAt_12 : decode cX0_stillAt 12 = .ok (.ifCond .eq 10, 3) := by decide +kernel
theorem dX0_stillAt_15 : decode cX0_stillAt 15 = .ok (.aload_n 0, 1) := by decide +kernel
theorem dX0_stillAt_16 : decode cX0_stillAt 16 = .ok (.getfield 22, 3) := by decide +kernel
theorem dX0_stillAt_19 : decode cX0_stillAt 19 = .ok (.iload_n 2, 1) := by decide +kernel
theorem dX0_stillAt_20 : decode cX0_stillAt 20 = .ok (.iconst 1, 1) := by decide +kernel
theorem dX0_stillAt_21 : decode cX0_stillAt 21 = .ok (.bastore, 1) := by decide +kernel
theorem dX0_stillAt_22 : decode cX0_stillAt 22 = .ok (.return_, 1) := by decide +kernel
set_option maxRecDepth 20000 in
theorem ggX0_generate_X0_powerOf : GoodIn wsX0_generate wsX0_powerOf := goodIn_r _ [7, 8, 9, 10, 6, 11, 12, 13, 14, 15, 16, 17, 18, 19, 20, 21, 22, 1, 23, 24, 25, 26, 27, 28, 29, 30, 31, 32, 33, 34, 35, 36, 37, 38, 39, 40, 41, 42, 43, 44, 45, 46, 47, 48] (by decide +kernel) (by decide +kernel)
set_option maxRecDepth 20000 in
theorem gX0_generate_X0_powerOf : GoodIn wsX0_generate (wsV RX0 47 RX0 yX0_powerOf wsX0_powerOf) := goodIn_app (goodIn_of _ (by decide +kernel)) ggX0_generate_X0_powerOf
theorem dX0_generate_0 : decode cX0_generate 0 = .ok (.iconst 0, 1) := by decide +kernel
theorem dX0_generate_1 : decode cX0_generate 1 = .ok (.istore_n 3, 1) := by decide +kernel
theorem dX0_generate_2 : decode cX0_generate 2 = .ok (.iconst 0, 1) := by decide +kernel
theorem dX0_generate_3 : decode cX0_generate 3 = .ok (.istore 4, 2) := by decide +kernel
theorem dX0_generate_5 : decode cX0_generate 5 = .ok (.iload 4, 2) := by decide +kernel
theorem dX0_generate_7 : decode cX0_generate 7 = .ok (.aload_n 0, 1) := by decide +kernel
theorem dX0_generate_8 : decode cX0_generate 8 = .ok (.getfield 28, 3) := by decide +kernel
theorem dX0_generate_11 : decode cX0_generate 11 = .ok (.if_icmp .ge 36, 3) := by decide +kernel
theorem dX0_generate_14 : decode cX0_generate 14 = .ok (.aload_n 0, 1) := by decide +kernel
theorem dX0_generate_15 : decode cX0_generate 15 = .ok (.iload 4, 2) := by decide +kernel
theorem dX0_generate_17 : decode cX0_generate 17 = .ok (.iload_n 1, 1) := by decide +kernel
theorem dX0_generate_18 : decode cX0_generate 18 = .ok (.iload_n 2, 1) := by decide +kernel
theorem dX0_generate_19 : decode cX0_generate 19 = .ok (.invokevirtual 47, 3) := by decide +kernel
theorem dX0_generate_22 : decode cX0_generate 22 = .ok (.istore 5, 2) := by decide +kernel
theorem dX0_generate_24 : decode cX0_generate 24 = .ok (.aload_n 0, 1) := by decide +kernel
theorem dX0_generate_25 : decode cX0_generate 25 = .ok (.getfield 25, 3) := by decide +kernel
theorem dX0_generate_28 : decode cX0_generate 28 = .ok (.iload 4, 2) := by decide +kernel
theorem dX0_generate_30 : decode cX0_generate 30 = .ok (.dup2, 1) := by decide +kernel
theorem dX0_generate_31 : decode cX0_generate 31 = .ok (.iaload, 1) := by decide +kernel
theorem dX0_generate_32 : decode cX0_generate 32 = .ok (.iload 5, 2) := by decide +kernel
theorem dX0_generate_34 : decode cX0_generate 34 = .ok (.iadd, 1) := by decide +kernel
theorem dX0_generate_35 : decode cX0_generate 35 = .ok (.iastore, 1) := by decide +kernel
theorem dX0_generate_36 : decode cX0_generate 36 = .ok (.iload_n 3, 1) := by decide +kernel
theorem dX0_generate_37 : decode cX0_generate 37 = .ok (.iload 5, 2) := by decide +kernel
theorem dX0_generate_39 : decode cX0_generate 39 = .ok (.iadd, 1) := by decide +kernel
theorem dX0_generate_40 : decode cX0_generate 40 = .ok (.istore_n 3, 1) := by decide +kernel
theorem dX0_generate_41 : decode cX0_generate 41 = .ok (.iinc 4 1, 3) := by decide +kernel
theorem dX0_generate_44 : decode cX0_generate 44 = .ok (.goto (-39), 3) := by decide +kernel
theorem dX0_generate_47 : decode cX0_generate 47 = .ok (.iload_n 3, 1) := by decide +kernel
theorem dX0_generate_48 : decode cX0_generate 48 = .ok (.ireturn, 1) := by decide +kernel
theorem dX0_endStillness_0 : decode cX0_endStillness 0 = .ok (.iconst 0, 1) := by decide +kernel
theorem dX0_endStillness_1 : decode cX0_endStillness 1 = .ok (.istore_n 1, 1) := by decide +kernel
theorem dX0_endStillness_2 : decode cX0_endStillness 2 = .ok (.iload_n 1, 1) := by decide +kernel
theorem dX0_endStillness_3 : decode cX0_endStillness 3 = .ok (.aload_n 0, 1) := by decide +kernel
theorem dX0_endStillness_4 : decode cX0_endStillness 4 = .ok (.getfield 28, 3) := by decide +kernel
theorem dX0_endStillness_7 : decode cX0_endStillness 7 = .ok (.if_icmp .ge 16, 3) := by decide +kernel
theorem dX0_endStillness_10 : decode cX0_endStillness 10 = .ok (.aload_n 0, 1) := by decide +kernel
theorem dX0_endStillness_11 : decode cX0_endStillness 11 = .ok (.getfield 22, 3) := by decide +kernel
theorem dX0_endStillness_14 : decode cX0_endStillness 14 = .ok (.iload_n 1, 1) := by decide +kernel
theorem dX0_endStillness_15 : decode cX0_endStillness 15 = .ok (.iconst 0, 1) := by decide +kernel
theorem dX0_endStillness_16 : decode cX0_endStillness 16 = .ok (.bastore, 1) := by decide +kernel
theorem dX0_endStillness_17 : decode cX0_endStillness 17 = .ok (.iinc 1 1, 3) := by decide +kernel
theorem dX0_endStillness_20 : decode cX0_endStillness 20 = .ok (.goto (-18), 3) := by decide +kernel
theorem dX0_endStillness_23 : decode cX0_endStillness 23 = .ok (.return_, 1) := by decide +kernel
set_option maxRecDepth 20000 in
theorem ggX0_powerOfAll_X0_powerOf : GoodIn wsX0_powerOfAll wsX0_powerOf := goodIn_r _ [6, 7, 8, 9, 5, 10, 11, 12, 13, 14, 15, 16, 17, 18, 19, 20, 21, 1, 22, 23, 24, 25, 26, 27, 28, 29, 30, 31, 32, 33, 34, 35, 36, 37, 38, 39, 40, 41, 42, 43, 44, 45, 46, 47] (by decide +kernel) (by decide +kernel)
set_option maxRecDepth 20000 in
theorem gX0_powerOfAll_X0_powerOf : GoodIn wsX0_powerOfAll (wsV RX0 47 RX0 yX0_powerOf wsX0_powerOf) := goodIn_app (goodIn_of _ (by decide +kernel)) ggX0_powerOfAll_X0_powerOf
theorem dX0_powerOfAll_0 : decode cX0_powerOfAll 0 = .ok (.iconst 0, 1) := by decide +kernel
theorem dX0_powerOfAll_1 : decode cX0_powerOfAll 1 = .ok (.istore_n 3, 1) := by decide +kernel
theorem dX0_powerOfAll_2 : decode cX0_powerOfAll 2 = .ok (.iconst 0, 1) := by decide +kernel
theorem dX0_powerOfAll_3 : decode cX0_powerOfAll 3 = .ok (.istore 4, 2) := by decide +kernel
theorem dX0_powerOfAll_5 : decode cX0_powerOfAll 5 = .ok (.iload 4, 2) := by decide +kernel
theorem dX0_powerOfAll_7 : decode cX0_powerOfAll 7 = .ok (.aload_n 0, 1) := by decide +kernel
theorem dX0_powerOfAll_8 : decode cX0_powerOfAll 8 = .ok (.getfield 28, 3) := by decide +kernel
theorem dX0_powerOfAll_11 : decode cX0_powerOfAll 11 = .ok (.if_icmp .ge 20, 3) := by decide +kernel
theorem dX0_powerOfAll_14 : decode cX0_powerOfAll 14 = .ok (.iload_n 3, 1) := by decide +kernel
theorem dX0_powerOfAll_15 : decode cX0_powerOfAll 15 = .ok (.aload_n 0, 1) := by decide +kernel
theorem dX0_powerOfAll_16 : decode cX0_powerOfAll 16 = .ok (.iload 4, 2) := by decide +kernel
theorem dX0_powerOfAll_18 : decode cX0_powerOfAll 18 = .ok (.iload_n 1, 1) := by decide +kernel
theorem dX0_powerOfAll_19 : decode cX0_powerOfAll 19 = .ok (.iload_n 2, 1) := by decide +kernel
theorem dX0_powerOfAll_20 : decode cX0_powerOfAll 20 = .ok (.invokevirtual 47, 3) := by decide +kernel
theorem dX0_powerOfAll_23 : decode cX0_powerOfAll 23 = .ok (.iadd, 1) := by decide +kernel
theorem dX0_powerOfAll_24 : decode cX0_powerOfAll 24 = .ok (.istore_n 3, 1) := by decide +kernel
theorem dX0_powerOfAll_25 : decode cX0_powerOfAll 25 = .ok (.iinc 4 1, 3) := by decide +kernel
theorem dX0_powerOfAll_28 : decode cX0_powerOfAll 28 = .ok (.goto (-23), 3) := by decide +kernel
theorem dX0_powerOfAll_31 : decode cX0_powerOfAll 31 = .ok (.iload_n 3, 1) := by decide +kernel
theorem dX0_powerOfAll_32 : decode cX0_powerOfAll 32 = .ok (.ireturn, 1) := by decide +kernel
set_option maxRecDepth 20000 in
theorem ggX0_powerOfAllAnew_X0_turns : GoodIn wsX0_powerOfAllAnew wsX0_turns := goodIn_r _ [7, 8, 9, 35, 36, 37, 38, 39, 40, 41] (by decide +kernel) (by decide +kernel)
set_option maxRecDepth 20000 in
theorem gX0_powerOfAllAnew_X0_turns : GoodIn wsX0_powerOfAllAnew (wsV RX0 51 RX0 yX0_turns wsX0_turns) := goodIn_app (goodIn_of _ (by decide +kernel)) ggX0_powerOfAllAnew_X0_turns
set_option maxRecDepth 20000 in
theorem ggX0_powerOfAllAnew_X0_windLeftAnew : GoodIn wsX0_powerOfAllAnew wsX0_windLeftAnew := goodIn_r _ [13, 14, 15, 16, 6, 17, 18, 19, 20, 21, 1, 22, 23, 24, 3, 4, 5, 7, 8, 9, 25, 26, 27, 35, 36, 37, 38, 39, 40, 41] (by decide +kernel) (by decide +kernel)
set_option maxRecDepth 20000 in
theorem gX0_powerOfAllAnew_X0_windLeftAnew : GoodIn wsX0_powerOfAllAnew (wsV RX0 54 RX0 yX0_windLeftAnew wsX0_windLeftAnew) := goodIn_app (goodIn_of _ (by decide +kernel)) ggX0_powerOfAllAnew_X0_windLeftAnew
set_option maxRecDepth 20000 in
theorem ggX0_powerOfAllAnew_X0_powerOfWind : GoodIn wsX0_powerOfAllAnew wsX0_powerOfWind := goodIn_r _ [30, 31, 32, 33, 34, 22, 23, 24] (by decide +kernel) (by decide +kernel)
set_option maxRecDepth 20000 in
theorem gX0_powerOfAllAnew_X0_powerOfWind : GoodIn wsX0_powerOfAllAnew (va_wsS RX0 57 yX0_powerOfWind wsX0_powerOfWind) := goodIn_app (goodIn_of _ (by decide +kernel)) ggX0_powerOfAllAnew_X0_powerOfWind
theorem dX0_powerOfAllAnew_0 : decode cX0_powerOfAllAnew 0 = .ok (.iconst 0, 1) := by decide +kernel
theorem dX0_powerOfAllAnew_1 : decode cX0_powerOfAllAnew 1 = .ok (.istore_n 3, 1) := by decide +kernel
theorem dX0_powerOfAllAnew_2 : decode cX0_powerOfAllAnew 2 = .ok (.aload_n 0, 1) := by decide +kernel
theorem dX0_powerOfAllAnew_3 : decode cX0_powerOfAllAnew 3 = .ok (.getfield 28, 3) := by decide +kernel
theorem dX0_powerOfAllAnew_6 : decode cX0_powerOfAllAnew 6 = .ok (.iconst 1, 1) := by decide +kernel
theorem dX0_powerOfAllAnew_7 : decode cX0_powerOfAllAnew 7 = .ok (.isub, 1) := by decide +kernel
theorem dX0_powerOfAllAnew_8 : decode cX0_powerOfAllAnew 8 = .ok (.istore 4, 2) := by decide +kernel
theorem dX0_powerOfAllAnew_10 : decode cX0_powerOfAllAnew 10 = .ok (.iload 4, 2) := by decide +kernel
theorem dX0_powerOfAllAnew_12 : decode cX0_powerOfAllAnew 12 = .ok (.ifCond .lt 37, 3) := by decide +kernel
theorem dX0_powerOfAllAnew_15 : decode cX0_powerOfAllAnew 15 = .ok (.aload_n 0, 1) := by decide +kernel
theorem dX0_powerOfAllAnew_16 : decode cX0_powerOfAllAnew 16 = .ok (.iload 4, 2) := by decide +kernel
theorem dX0_powerOfAllAnew_18 : decode cX0_powerOfAllAnew 18 = .ok (.invokevirtual 51, 3) := by decide +kernel
theorem dX0_powerOfAllAnew_21 : decode cX0_powerOfAllAnew 21 = .ok (.ifCond .eq 22, 3) := by decide +kernel
theorem dX0_powerOfAllAnew_24 : decode cX0_powerOfAllAnew 24 = .ok (.iload_n 3, 1) := by decide +kernel
theorem dX0_powerOfAllAnew_25 : decode cX0_powerOfAllAnew 25 = .ok (.aload_n 0, 1) := by decide +kernel
theorem dX0_powerOfAllAnew_26 : decode cX0_powerOfAllAnew 26 = .ok (.aload_n 0, 1) := by decide +kernel
theorem dX0_powerOfAllAnew_27 : decode cX0_powerOfAllAnew 27 = .ok (.getfield 15, 3) := by decide +kernel
theorem dX0_powerOfAllAnew_30 : decode cX0_powerOfAllAnew 30 = .ok (.iload 4, 2) := by decide +kernel
theorem dX0_powerOfAllAnew_32 : decode cX0_powerOfAllAnew 32 = .ok (.iaload, 1) := by decide +kernel
theorem dX0_powerOfAllAnew_33 : decode cX0_powerOfAllAnew 33 = .ok (.iload_n 1, 1) := by decide +kernel
theorem dX0_powerOfAllAnew_34 : decode cX0_powerOfAllAnew 34 = .ok (.iload_n 2, 1) := by decide +kernel
theorem dX0_powerOfAllAnew_35 : decode cX0_powerOfAllAnew 35 = .ok (.invokevirtual 54, 3) := by decide +kernel
theorem dX0_powerOfAllAnew_38 : decode cX0_powerOfAllAnew 38 = .ok (.invokestatic 57, 3) := by decide +kernel
theorem dX0_powerOfAllAnew_41 : decode cX0_powerOfAllAnew 41 = .ok (.iadd, 1) := by decide +kernel
theorem dX0_powerOfAllAnew_42 : decode cX0_powerOfAllAnew 42 = .ok (.istore_n 3, 1) := by decide +kernel
theorem dX0_powerOfAllAnew_43 : decode cX0_powerOfAllAnew 43 = .ok (.iinc 4 (-1), 3) := by decide +kernel
theorem dX0_powerOfAllAnew_46 : decode cX0_powerOfAllAnew 46 = .ok (.goto (-36), 3) := by decide +kernel
theorem dX0_powerOfAllAnew_49 : decode cX0_powerOfAllAnew 49 = .ok (.iload_n 3, 1) := by decide +kernel
theorem dX0_powerOfAllAnew_50 : decode cX0_powerOfAllAnew 50 = .ok (.ireturn, 1) := by decide +kernel
theorem dX0_turns_0 : decode cX0_turns 0 = .ok (.aload_n 0, 1) := by decide +kernel
theorem dX0_turns_1 : decode cX0_turns 1 = .ok (.getfield 18, 3) := by decide +kernel
theorem dX0_turns_4 : decode cX0_turns 4 = .ok (.iload_n 1, 1) := by decide +kernel
theorem dX0_turns_5 : decode cX0_turns 5 = .ok (.baload, 1) := by decide +kernel
theorem dX0_turns_6 : decode cX0_turns 6 = .ok (.ifCond .ne 16, 3) := by decide +kernel
theorem dX0_turns_9 : decode cX0_turns 9 = .ok (.aload_n 0, 1) := by decide +kernel
theorem dX0_turns_10 : decode cX0_turns 10 = .ok (.getfield 22, 3) := by decide +kernel
theorem dX0_turns_13 : decode cX0_turns 13 = .ok (.iload_n 1, 1) := by decide +kernel
theorem dX0_turns_14 : decode cX0_turns 14 = .ok (.baload, 1) := by decide +kernel
theorem dX0_turns_15 : decode cX0_turns 15 = .ok (.ifCond .ne 7, 3) := by decide +kernel
theorem dX0_turns_18 : decode cX0_turns 18 = .ok (.iconst 1, 1) := by decide +kernel
theorem dX0_turns_19 : decode cX0_turns 19 = .ok (.goto 4, 3) := by decide +kernel
theorem dX0_turns_22 : decode cX0_turns 22 = .ok (.iconst 0, 1) := by decide +kernel
theorem dX0_turns_23 : decode cX0_turns 23 = .ok (.ireturn, 1) := by decide +kernel
set_option maxRecDepth 20000 in
theorem ggX0_powerOf_X0_turns : GoodIn wsX0_powerOf wsX0_turns := goodIn_r _ [5, 6, 7, 37, 38, 39, 40, 41, 42, 43] (by decide +kernel) (by decide +kernel)
set_option maxRecDepth 20000 in
theorem gX0_powerOf_X0_turns : GoodIn wsX0_powerOf (wsV RX0 51 RX0 yX0_turns wsX0_turns) := goodIn_app (goodIn_of _ (by decide +kernel)) ggX0_powerOf_X0_turns
set_option maxRecDepth 20000 in
theorem ggX0_powerOf_X0_windLeft : GoodIn wsX0_powerOf wsX0_windLeft := goodIn_r _ [11, 12, 13, 14, 15, 4, 16, 17, 18, 19, 20, 21, 22, 23, 1, 2, 3, 5, 6, 7, 24, 25, 26, 37, 38, 39, 40, 41, 42, 43] (by decide +kernel) (by decide +kernel)
set_option maxRecDepth 20000 in
theorem gX0_powerOf_X0_windLeft : GoodIn wsX0_powerOf (wsV RX0 61 RX0 yX0_windLeft wsX0_windLeft) := goodIn_app (goodIn_of _ (by decide +kernel)) ggX0_powerOf_X0_windLeft
set_option maxRecDepth 20000 in
theorem ggX0_powerOf_X0_powerOfWind : GoodIn wsX0_powerOf wsX0_powerOfWind := goodIn_r _ [29, 30, 31, 32, 33, 34, 35, 36] (by decide +kernel) (by decide +kernel)
set_option maxRecDepth 20000 in
theorem gX0_powerOf_X0_powerOfWind : GoodIn wsX0_powerOf (va_wsS RX0 57 yX0_powerOfWind wsX0_powerOfWind) := goodIn_app (goodIn_of _ (by decide +kernel)) ggX0_powerOf_X0_powerOfWind
theorem dX0_powerOf_0 : decode cX0_powerOf 0 = .ok (.aload_n 0, 1) := by decide +kernel
theorem dX0_powerOf_1 : decode cX0_powerOf 1 = .ok (.iload_n 1, 1) := by decide +kernel
theorem dX0_powerOf_2 : decode cX0_powerOf 2 = .ok (.invokevirtual 51, 3) := by decide +kernel
theorem dX0_powerOf_5 : decode cX0_powerOf 5 = .ok (.ifCond .eq 16, 3) := by decide +kernel
theorem dX0_powerOf_8 : decode cX0_powerOf 8 = .ok (.aload_n 0, 1) := by decide +kernel
theorem dX0_powerOf_9 : decode cX0_powerOf 9 = .ok (.iload_n 1, 1) := by decide +kernel
theorem dX0_powerOf_10 : decode cX0_powerOf 10 = .ok (.iload_n 2, 1) := by decide +kernel
theorem dX0_powerOf_11 : decode cX0_powerOf 11 = .ok (.iload_n 3, 1) := by decide +kernel
theorem dX0_powerOf_12 : decode cX0_powerOf 12 = .ok (.invokevirtual 61, 3) := by decide +kernel
theorem dX0_powerOf_15 : decode cX0_powerOf 15 = .ok (.invokestatic 57, 3) := by decide +kernel
theorem dX0_powerOf_18 : decode cX0_powerOf 18 = .ok (.goto 4, 3) := by decide +kernel
theorem dX0_powerOf_21 : decode cX0_powerOf 21 = .ok (.iconst 0, 1) := by decide +kernel
theorem dX0_powerOf_22 : decode cX0_powerOf 22 = .ok (.ireturn, 1) := by decide +kernel
set_option maxRecDepth 20000 in
theorem ggX0_windLeft_X0_distancesAhead : GoodIn wsX0_windLeft wsX0_distancesAhead := goodIn_r _ [6, 7, 1, 8, 9, 5, 10, 11, 12, 13, 14, 15, 16, 17, 18, 19, 23, 24, 25, 26, 27, 28, 29] (by decide +kernel) (by decide +kernel)
set_option maxRecDepth 20000 in
theorem gX0_windLeft_X0_distancesAhead : GoodIn wsX0_windLeft (wsV RX0 64 RX0 yX0_distancesAhead wsX0_distancesAhead) := goodIn_app (goodIn_of _ (by decide +kernel)) ggX0_windLeft_X0_distancesAhead
set_option maxRecDepth 20000 in
theorem ggX0_windLeft_X0_takenByWake : GoodIn wsX0_windLeft wsX0_takenByWake := goodIn_r _ [22] (by decide +kernel) (by decide +kernel)
set_option maxRecDepth 20000 in
theorem gX0_windLeft_X0_takenByWake : GoodIn wsX0_windLeft (va_wsS RX0 68 yX0_takenByWake wsX0_takenByWake) := goodIn_app (goodIn_of _ (by decide +kernel)) ggX0_windLeft_X0_takenByWake
theorem dX0_windLeft_0 : decode cX0_windLeft 0 = .ok (.aload_n 0, 1) := by decide +kernel
theorem dX0_windLeft_1 : decode cX0_windLeft 1 = .ok (.aload_n 0, 1) := by decide +kernel
theorem dX0_windLeft_2 : decode cX0_windLeft 2 = .ok (.getfield 15, 3) := by decide +kernel
theorem dX0_windLeft_5 : decode cX0_windLeft 5 = .ok (.iload_n 1, 1) := by decide +kernel
theorem dX0_windLeft_6 : decode cX0_windLeft 6 = .ok (.iaload, 1) := by decide +kernel
theorem dX0_windLeft_7 : decode cX0_windLeft 7 = .ok (.iload_n 3, 1) := by decide +kernel
theorem dX0_windLeft_8 : decode cX0_windLeft 8 = .ok (.invokevirtual 64, 3) := by decide +kernel
theorem dX0_windLeft_11 : decode cX0_windLeft 11 = .ok (.istore 4, 2) := by decide +kernel
theorem dX0_windLeft_13 : decode cX0_windLeft 13 = .ok (.iload_n 2, 1) := by decide +kernel
theorem dX0_windLeft_14 : decode cX0_windLeft 14 = .ok (.istore 5, 2) := by decide +kernel
theorem dX0_windLeft_16 : decode cX0_windLeft 16 = .ok (.iconst 1, 1) := by decide +kernel
theorem dX0_windLeft_17 : decode cX0_windLeft 17 = .ok (.istore 6, 2) := by decide +kernel
theorem dX0_windLeft_19 : decode cX0_windLeft 19 = .ok (.iload 6, 2) := by decide +kernel
theorem dX0_windLeft_21 : decode cX0_windLeft 21 = .ok (.bipush 6, 2) := by decide +kernel
theorem dX0_windLeft_23 : decode cX0_windLeft 23 = .ok (.if_icmp .ge 31, 3) := by decide +kernel
theorem dX0_windLeft_26 : decode cX0_windLeft 26 = .ok (.iload 4, 2) := by decide +kernel
theorem dX0_windLeft_28 : decode cX0_windLeft 28 = .ok (.iconst 1, 1) := by decide +kernel
theorem dX0_windLeft_29 : decode cX0_windLeft 29 = .ok (.iload 6, 2) := by decide +kernel
theorem dX0_windLeft_31 : decode cX0_windLeft 31 = .ok (.ishl, 1) := by decide +kernel
theorem dX0_windLeft_32 : decode cX0_windLeft 32 = .ok (.iand, 1) := by decide +kernel
theorem dX0_windLeft_33 : decode cX0_windLeft 33 = .ok (.ifCond .eq 15, 3) := by decide +kernel
theorem dX0_windLeft_36 : decode cX0_windLeft 36 = .ok (.iload 5, 2) := by decide +kernel
theorem dX0_windLeft_38 : decode cX0_windLeft 38 = .ok (.iload 5, 2) := by decide +kernel
theorem dX0_windLeft_40 : decode cX0_windLeft 40 = .ok (.iload 6, 2) := by decide +kernel
theorem dX0_windLeft_42 : decode cX0_windLeft 42 = .ok (.invokestatic 68, 3) := by decide +kernel
theorem dX0_windLeft_45 : decode cX0_windLeft 45 = .ok (.isub, 1) := by decide +kernel
theorem dX0_windLeft_46 : decode cX0_windLeft 46 = .ok (.istore 5, 2) := by decide +kernel
theorem dX0_windLeft_48 : decode cX0_windLeft 48 = .ok (.iinc 6 1, 3) := by decide +kernel
theorem dX0_windLeft_51 : decode cX0_windLeft 51 = .ok (.goto (-32), 3) := by decide +kernel
theorem dX0_windLeft_54 : decode cX0_windLeft 54 = .ok (.iload 5, 2) := by decide +kernel
theorem dX0_windLeft_56 : decode cX0_windLeft 56 = .ok (.ireturn, 1) := by decide +kernel
set_option maxRecDepth 20000 in
theorem ggX0_distancesAhead_X0_placesAhead : GoodIn wsX0_distancesAhead wsX0_placesAhead := goodIn_r _ [6] (by decide +kernel) (by decide +kernel)
set_option maxRecDepth 20000 in
theorem gX0_distancesAhead_X0_placesAhead : GoodIn wsX0_distancesAhead (va_wsS RX0 72 yX0_placesAhead wsX0_placesAhead) := goodIn_app (goodIn_of _ (by decide +kernel)) ggX0_distancesAhead_X0_placesAhead
set_option maxRecDepth 20000 in
theorem ggX0_distancesAhead_X0_lane : GoodIn wsX0_distancesAhead wsX0_lane := goodIn_r _ [9] (by decide +kernel) (by decide +kernel)
set_option maxRecDepth 20000 in
theorem gX0_distancesAhead_X0_lane : GoodIn wsX0_distancesAhead (va_wsS RX0 75 yX0_lane wsX0_lane) := goodIn_app (goodIn_of _ (by decide +kernel)) ggX0_distancesAhead_X0_lane
set_option maxRecDepth 20000 in
theorem ggX0_distancesAhead_X0_turns : GoodIn wsX0_distancesAhead wsX0_turns := goodIn_r _ [13, 14, 15, 16, 17, 18, 19, 20, 21, 22] (by decide +kernel) (by decide +kernel)
set_option maxRecDepth 20000 in
theorem gX0_distancesAhead_X0_turns : GoodIn wsX0_distancesAhead (wsV RX0 51 RX0 yX0_turns wsX0_turns) := goodIn_app (goodIn_of _ (by decide +kernel)) ggX0_distancesAhead_X0_turns
theorem dX0_distancesAhead_0 : decode cX0_distancesAhead 0 = .ok (.iconst 0, 1) := by decide +kernel
theorem dX0_distancesAhead_1 : decode cX0_distancesAhead 1 = .ok (.istore_n 3, 1) := by decide +kernel
theorem dX0_distancesAhead_2 : decode cX0_distancesAhead 2 = .ok (.iconst 0, 1) := by decide +kernel
theorem dX0_distancesAhead_3 : decode cX0_distancesAhead 3 = .ok (.istore 4, 2) := by decide +kernel
theorem dX0_distancesAhead_5 : decode cX0_distancesAhead 5 = .ok (.iload 4, 2) := by decide +kernel
theorem dX0_distancesAhead_7 : decode cX0_distancesAhead 7 = .ok (.aload_n 0, 1) := by decide +kernel
theorem dX0_distancesAhead_8 : decode cX0_distancesAhead 8 = .ok (.getfield 28, 3) := by decide +kernel
theorem dX0_distancesAhead_11 : decode cX0_distancesAhead 11 = .ok (.if_icmp .ge 68, 3) := by decide +kernel
theorem dX0_distancesAhead_14 : decode cX0_distancesAhead 14 = .ok (.iload_n 1, 1) := by decide +kernel
theorem dX0_distancesAhead_15 : decode cX0_distancesAhead 15 = .ok (.iload_n 2, 1) := by decide +kernel
theorem dX0_distancesAhead_16 : decode cX0_distancesAhead 16 = .ok (.invokestatic 72, 3) := by decide +kernel
theorem dX0_distancesAhead_19 : decode cX0_distancesAhead 19 = .ok (.aload_n 0, 1) := by decide +kernel
theorem dX0_distancesAhead_20 : decode cX0_distancesAhead 20 = .ok (.getfield 15, 3) := by decide +kernel
theorem dX0_distancesAhead_23 : decode cX0_distancesAhead 23 = .ok (.iload 4, 2) := by decide +kernel
theorem dX0_distancesAhead_25 : decode cX0_distancesAhead 25 = .ok (.iaload, 1) := by decide +kernel
theorem dX0_distancesAhead_26 : decode cX0_distancesAhead 26 = .ok (.iload_n 2, 1) := by decide +kernel
theorem dX0_distancesAhead_27 : decode cX0_distancesAhead 27 = .ok (.invokestatic 72, 3) := by decide +kernel
theorem dX0_distancesAhead_30 : decode cX0_distancesAhead 30 = .ok (.isub, 1) := by decide +kernel
theorem dX0_distancesAhead_31 : decode cX0_distancesAhead 31 = .ok (.istore 5, 2) := by decide +kernel
theorem dX0_distancesAhead_33 : decode cX0_distancesAhead 33 = .ok (.iload 5, 2) := by decide +kernel
theorem dX0_distancesAhead_35 : decode cX0_distancesAhead 35 = .ok (.ifCond .le 38, 3) := by decide +kernel
theorem dX0_distancesAhead_38 : decode cX0_distancesAhead 38 = .ok (.aload_n 0, 1) := by decide +kernel
theorem dX0_distancesAhead_39 : decode cX0_distancesAhead 39 = .ok (.getfield 15, 3) := by decide +kernel
theorem dX0_distancesAhead_42 : decode cX0_distancesAhead 42 = .ok (.iload 4, 2) := by decide +kernel
theorem dX0_distancesAhead_44 : decode cX0_distancesAhead 44 = .ok (.iaload, 1) := by decide +kernel
theorem dX0_distancesAhead_45 : decode cX0_distancesAhead 45 = .ok (.iload_n 2, 1) := by decide +kernel
theorem dX0_distancesAhead_46 : decode cX0_distancesAhead 46 = .ok (.invokestatic 75, 3) := by decide +kernel
theorem dX0_distancesAhead_49 : decode cX0_distancesAhead 49 = .ok (.iload_n 1, 1) := by decide +kernel
theorem dX0_distancesAhead_50 : decode cX0_distancesAhead 50 = .ok (.iload_n 2, 1) := by decide +kernel
theorem dX0_distancesAhead_51 : decode cX0_distancesAhead 51 = .ok (.invokestatic 75, 3) := by decide +kernel
theorem dX0_distancesAhead_54 : decode cX0_distancesAhead 54 = .ok (.if_icmp .ne 19, 3) := by decide +kernel
theorem dX0_distancesAhead_57 : decode cX0_distancesAhead 57 = .ok (.aload_n 0, 1) := by decide +kernel
theorem dX0_distancesAhead_58 : decode cX0_distancesAhead 58 = .ok (.iload 4, 2) := by decide +kernel
theorem dX0_distancesAhead_60 : decode cX0_distancesAhead 60 = .ok (.invokevirtual 51, 3) := by decide +kernel
theorem dX0_distancesAhead_63 : decode cX0_distancesAhead 63 = .ok (.ifCond .eq 10, 3) := by decide +kernel
theorem dX0_distancesAhead_66 : decode cX0_distancesAhead 66 = .ok (.iload_n 3, 1) := by decide +kernel
theorem dX0_distancesAhead_67 : decode cX0_distancesAhead 67 = .ok (.iconst 1, 1) := by decide +kernel
theorem dX0_distancesAhead_68 : decode cX0_distancesAhead 68 = .ok (.iload 5, 2) := by decide +kernel
theorem dX0_distancesAhead_70 : decode cX0_distancesAhead 70 = .ok (.ishl, 1) := by decide +kernel
theorem dX0_distancesAhead_71 : decode cX0_distancesAhead 71 = .ok (.ior, 1) := by decide +kernel
theorem dX0_distancesAhead_72 : decode cX0_distancesAhead 72 = .ok (.istore_n 3, 1) := by decide +kernel
theorem dX0_distancesAhead_73 : decode cX0_distancesAhead 73 = .ok (.iinc 4 1, 3) := by decide +kernel
theorem dX0_distancesAhead_76 : decode cX0_distancesAhead 76 = .ok (.goto (-71), 3) := by decide +kernel
theorem dX0_distancesAhead_79 : decode cX0_distancesAhead 79 = .ok (.iload_n 3, 1) := by decide +kernel
theorem dX0_distancesAhead_80 : decode cX0_distancesAhead 80 = .ok (.ireturn, 1) := by decide +kernel
set_option maxRecDepth 20000 in
theorem ggX0_windLeftAnew_X0_placesAhead : GoodIn wsX0_windLeftAnew wsX0_placesAhead := goodIn_r _ [5] (by decide +kernel) (by decide +kernel)
set_option maxRecDepth 20000 in
theorem gX0_windLeftAnew_X0_placesAhead : GoodIn wsX0_windLeftAnew (va_wsS RX0 72 yX0_placesAhead wsX0_placesAhead) := goodIn_app (goodIn_of _ (by decide +kernel)) ggX0_windLeftAnew_X0_placesAhead
set_option maxRecDepth 20000 in
theorem ggX0_windLeftAnew_X0_has : GoodIn wsX0_windLeftAnew wsX0_has := goodIn_r _ [9, 10, 11, 12, 13, 23, 24, 25, 26, 27, 28, 29] (by decide +kernel) (by decide +kernel)
set_option maxRecDepth 20000 in
theorem gX0_windLeftAnew_X0_has : GoodIn wsX0_windLeftAnew (wsV RX0 43 RX0 yX0_has wsX0_has) := goodIn_app (goodIn_of _ (by decide +kernel)) ggX0_windLeftAnew_X0_has
set_option maxRecDepth 20000 in
theorem ggX0_windLeftAnew_X0_turns : GoodIn wsX0_windLeftAnew wsX0_turns := goodIn_r _ [17, 18, 19, 23, 24, 25, 26, 27, 28, 29] (by decide +kernel) (by decide +kernel)
set_option maxRecDepth 20000 in
theorem gX0_windLeftAnew_X0_turns : GoodIn wsX0_windLeftAnew (wsV RX0 51 RX0 yX0_turns wsX0_turns) := goodIn_app (goodIn_of _ (by decide +kernel)) ggX0_windLeftAnew_X0_turns
set_option maxRecDepth 20000 in
theorem ggX0_windLeftAnew_X0_takenByWake : GoodIn wsX0_windLeftAnew wsX0_takenByWake := goodIn_r _ [22] (by decide +kernel) (by decide +kernel)
set_option maxRecDepth 20000 in
theorem gX0_windLeftAnew_X0_takenByWake : GoodIn wsX0_windLeftAnew (va_wsS RX0 68 yX0_takenByWake wsX0_takenByWake) := goodIn_app (goodIn_of _ (by decide +kernel)) ggX0_windLeftAnew_X0_takenByWake
theorem dX0_windLeftAnew_0 : decode cX0_windLeftAnew 0 = .ok (.iload_n 3, 1) := by decide +kernel
theorem dX0_windLeftAnew_1 : decode cX0_windLeftAnew 1 = .ok (.ifCond .eq 7, 3) := by decide +kernel
theorem dX0_windLeftAnew_4 : decode cX0_windLeftAnew 4 = .ok (.iconst 1, 1) := by decide +kernel
theorem dX0_windLeftAnew_5 : decode cX0_windLeftAnew 5 = .ok (.goto 5, 3) := by decide +kernel
theorem dX0_windLeftAnew_8 : decode cX0_windLeftAnew 8 = .ok (.bipush 6, 2) := by decide +kernel
theorem dX0_windLeftAnew_10 : decode cX0_windLeftAnew 10 = .ok (.istore 4, 2) := by decide +kernel
theorem dX0_windLeftAnew_12 : decode cX0_windLeftAnew 12 = .ok (.iload_n 1, 1) := by decide +kernel
theorem dX0_windLeftAnew_13 : decode cX0_windLeftAnew 13 = .ok (.iload_n 3, 1) := by decide +kernel
theorem dX0_windLeftAnew_14 : decode cX0_windLeftAnew 14 = .ok (.invokestatic 72, 3) := by decide +kernel
theorem dX0_windLeftAnew_17 : decode cX0_windLeftAnew 17 = .ok (.istore 5, 2) := by decide +kernel
theorem dX0_windLeftAnew_19 : decode cX0_windLeftAnew 19 = .ok (.iload_n 2, 1) := by decide +kernel
theorem dX0_windLeftAnew_20 : decode cX0_windLeftAnew 20 = .ok (.istore 6, 2) := by decide +kernel
theorem dX0_windLeftAnew_22 : decode cX0_windLeftAnew 22 = .ok (.iconst 1, 1) := by decide +kernel
theorem dX0_windLeftAnew_23 : decode cX0_windLeftAnew 23 = .ok (.istore 7, 2) := by decide +kernel
theorem dX0_windLeftAnew_25 : decode cX0_windLeftAnew 25 = .ok (.iload 7, 2) := by decide +kernel
theorem dX0_windLeftAnew_27 : decode cX0_windLeftAnew 27 = .ok (.iload 5, 2) := by decide +kernel
theorem dX0_windLeftAnew_29 : decode cX0_windLeftAnew 29 = .ok (.if_icmp .gt 53, 3) := by decide +kernel
theorem dX0_windLeftAnew_32 : decode cX0_windLeftAnew 32 = .ok (.aload_n 0, 1) := by decide +kernel
theorem dX0_windLeftAnew_33 : decode cX0_windLeftAnew 33 = .ok (.getfield 9, 3) := by decide +kernel
theorem dX0_windLeftAnew_36 : decode cX0_windLeftAnew 36 = .ok (.iload_n 1, 1) := by decide +kernel
theorem dX0_windLeftAnew_37 : decode cX0_windLeftAnew 37 = .ok (.iload 7, 2) := by decide +kernel
theorem dX0_windLeftAnew_39 : decode cX0_windLeftAnew 39 = .ok (.iload 4, 2) := by decide +kernel
theorem dX0_windLeftAnew_41 : decode cX0_windLeftAnew 41 = .ok (.imul, 1) := by decide +kernel
theorem dX0_windLeftAnew_42 : decode cX0_windLeftAnew 42 = .ok (.isub, 1) := by decide +kernel
theorem dX0_windLeftAnew_43 : decode cX0_windLeftAnew 43 = .ok (.iaload, 1) := by decide +kernel
theorem dX0_windLeftAnew_44 : decode cX0_windLeftAnew 44 = .ok (.istore 8, 2) := by decide +kernel
theorem dX0_windLeftAnew_46 : decode cX0_windLeftAnew 46 = .ok (.aload_n 0, 1) := by decide +kernel
theorem dX0_windLeftAnew_47 : decode cX0_windLeftAnew 47 = .ok (.iload 8, 2) := by decide +kernel
theorem dX0_windLeftAnew_49 : decode cX0_windLeftAnew 49 = .ok (.invokevirtual 43, 3) := by decide +kernel
theorem dX0_windLeftAnew_52 : decode cX0_windLeftAnew 52 = .ok (.ifCond .eq 24, 3) := by decide +kernel
theorem dX0_windLeftAnew_55 : decode cX0_windLeftAnew 55 = .ok (.aload_n 0, 1) := by decide +kernel
theorem dX0_windLeftAnew_56 : decode cX0_windLeftAnew 56 = .ok (.iload 8, 2) := by decide +kernel
theorem dX0_windLeftAnew_58 : decode cX0_windLeftAnew 58 = .ok (.invokevirtual 51, 3) := by decide +kernel
theorem dX0_windLeftAnew_61 : decode cX0_windLeftAnew 61 = .ok (.ifCond .eq 15, 3) := by decide +kernel
theorem dX0_windLeftAnew_64 : decode cX0_windLeftAnew 64 = .ok (.iload 6, 2) := by decide +kernel
theorem dX0_windLeftAnew_66 : decode cX0_windLeftAnew 66 = .ok (.iload 6, 2) := by decide +kernel
theorem dX0_windLeftAnew_68 : decode cX0_windLeftAnew 68 = .ok (.iload 7, 2) := by decide +kernel
theorem dX0_windLeftAnew_70 : decode cX0_windLeftAnew 70 = .ok (.invokestatic 68, 3) := by decide +kernel
theorem dX0_windLeftAnew_73 : decode cX0_windLeftAnew 73 = .ok (.isub, 1) := by decide +kernel
theorem dX0_windLeftAnew_74 : decode cX0_windLeftAnew 74 = .ok (.istore 6, 2) := by decide +kernel
theorem dX0_windLeftAnew_76 : decode cX0_windLeftAnew 76 = .ok (.iinc 7 1, 3) := by decide +kernel
theorem dX0_windLeftAnew_79 : decode cX0_windLeftAnew 79 = .ok (.goto (-54), 3) := by decide +kernel
theorem dX0_windLeftAnew_82 : decode cX0_windLeftAnew 82 = .ok (.iload 6, 2) := by decide +kernel
theorem dX0_windLeftAnew_84 : decode cX0_windLeftAnew 84 = .ok (.ireturn, 1) := by decide +kernel
theorem dX0_lane_0 : decode cX0_lane 0 = .ok (.iload_n 1, 1) := by decide +kernel
theorem dX0_lane_1 : decode cX0_lane 1 = .ok (.ifCond .eq 10, 3) := by decide +kernel
theorem dX0_lane_4 : decode cX0_lane 4 = .ok (.iload_n 0, 1) := by decide +kernel
theorem dX0_lane_5 : decode cX0_lane 5 = .ok (.bipush 6, 2) := by decide +kernel
theorem dX0_lane_7 : decode cX0_lane 7 = .ok (.idiv, 1) := by decide +kernel
theorem dX0_lane_8 : decode cX0_lane 8 = .ok (.goto 7, 3) := by decide +kernel
theorem dX0_lane_11 : decode cX0_lane 11 = .ok (.iload_n 0, 1) := by decide +kernel
theorem dX0_lane_12 : decode cX0_lane 12 = .ok (.bipush 6, 2) := by decide +kernel
theorem dX0_lane_14 : decode cX0_lane 14 = .ok (.irem, 1) := by decide +kernel
theorem dX0_lane_15 : decode cX0_lane 15 = .ok (.ireturn, 1) := by decide +kernel
theorem dX0_placesAhead_0 : decode cX0_placesAhead 0 = .ok (.iload_n 1, 1) := by decide +kernel
theorem dX0_placesAhead_1 : decode cX0_placesAhead 1 = .ok (.ifCond .eq 10, 3) := by decide +kernel
theorem dX0_placesAhead_4 : decode cX0_placesAhead 4 = .ok (.iload_n 0, 1) := by decide +kernel
theorem dX0_placesAhead_5 : decode cX0_placesAhead 5 = .ok (.bipush 6, 2) := by decide +kernel
theorem dX0_placesAhead_7 : decode cX0_placesAhead 7 = .ok (.irem, 1) := by decide +kernel
theorem dX0_placesAhead_8 : decode cX0_placesAhead 8 = .ok (.goto 7, 3) := by decide +kernel
theorem dX0_placesAhead_11 : decode cX0_placesAhead 11 = .ok (.iload_n 0, 1) := by decide +kernel
theorem dX0_placesAhead_12 : decode cX0_placesAhead 12 = .ok (.bipush 6, 2) := by decide +kernel
theorem dX0_placesAhead_14 : decode cX0_placesAhead 14 = .ok (.idiv, 1) := by decide +kernel
theorem dX0_placesAhead_15 : decode cX0_placesAhead 15 = .ok (.ireturn, 1) := by decide +kernel
theorem dX0_takenByWake_0 : decode cX0_takenByWake 0 = .ok (.bipush 10, 2) := by decide +kernel
theorem dX0_takenByWake_2 : decode cX0_takenByWake 2 = .ok (.istore_n 2, 1) := by decide +kernel
theorem dX0_takenByWake_3 : decode cX0_takenByWake 3 = .ok (.iload_n 1, 1) := by decide +kernel
theorem dX0_takenByWake_4 : decode cX0_takenByWake 4 = .ok (.iconst 1, 1) := by decide +kernel
theorem dX0_takenByWake_5 : decode cX0_takenByWake 5 = .ok (.if_icmp .ne 9, 3) := by decide +kernel
theorem dX0_takenByWake_8 : decode cX0_takenByWake 8 = .ok (.bipush 30, 2) := by decide +kernel
theorem dX0_takenByWake_10 : decode cX0_takenByWake 10 = .ok (.istore_n 2, 1) := by decide +kernel
theorem dX0_takenByWake_11 : decode cX0_takenByWake 11 = .ok (.goto 11, 3) := by decide +kernel
theorem dX0_takenByWake_14 : decode cX0_takenByWake 14 = .ok (.iload_n 1, 1) := by decide +kernel
theorem dX0_takenByWake_15 : decode cX0_takenByWake 15 = .ok (.iconst 2, 1) := by decide +kernel
theorem dX0_takenByWake_16 : decode cX0_takenByWake 16 = .ok (.if_icmp .ne 6, 3) := by decide +kernel
theorem dX0_takenByWake_19 : decode cX0_takenByWake 19 = .ok (.bipush 20, 2) := by decide +kernel
theorem dX0_takenByWake_21 : decode cX0_takenByWake 21 = .ok (.istore_n 2, 1) := by decide +kernel
theorem dX0_takenByWake_22 : decode cX0_takenByWake 22 = .ok (.iload_n 0, 1) := by decide +kernel
theorem dX0_takenByWake_23 : decode cX0_takenByWake 23 = .ok (.iload_n 2, 1) := by decide +kernel
theorem dX0_takenByWake_24 : decode cX0_takenByWake 24 = .ok (.imul, 1) := by decide +kernel
theorem dX0_takenByWake_25 : decode cX0_takenByWake 25 = .ok (.bipush 100, 2) := by decide +kernel
theorem dX0_takenByWake_27 : decode cX0_takenByWake 27 = .ok (.idiv, 1) := by decide +kernel
theorem dX0_takenByWake_28 : decode cX0_takenByWake 28 = .ok (.ireturn, 1) := by decide +kernel
set_option maxRecDepth 20000 in
theorem ggX0_powerOfWind_X4_isWithin : GoodIn wsX0_powerOfWind wsX4_isWithin := goodIn_r _ [7] (by decide +kernel) (by decide +kernel)
set_option maxRecDepth 20000 in
theorem gX0_powerOfWind_X4_isWithin_n32 : GoodIn wsX0_powerOfWind (wsX4_isWithin) := ggX0_powerOfWind_X4_isWithin
theorem dX0_powerOfWind_0 : decode cX0_powerOfWind 0 = .ok (.iload_n 0, 1) := by decide +kernel
theorem dX0_powerOfWind_1 : decode cX0_powerOfWind 1 = .ok (.iconst 4, 1) := by decide +kernel
theorem dX0_powerOfWind_2 : decode cX0_powerOfWind 2 = .ok (.bipush 25, 2) := by decide +kernel
theorem dX0_powerOfWind_4 : decode cX0_powerOfWind 4 = .ok (.invokestatic 32, 3) := by decide +kernel
theorem dX0_powerOfWind_7 : decode cX0_powerOfWind 7 = .ok (.ifCond .ne 5, 3) := by decide +kernel
theorem dX0_powerOfWind_10 : decode cX0_powerOfWind 10 = .ok (.iconst 0, 1) := by decide +kernel
theorem dX0_powerOfWind_11 : decode cX0_powerOfWind 11 = .ok (.ireturn, 1) := by decide +kernel
theorem dX0_powerOfWind_12 : decode cX0_powerOfWind 12 = .ok (.iload_n 0, 1) := by decide +kernel
theorem dX0_powerOfWind_13 : decode cX0_powerOfWind 13 = .ok (.iload_n 0, 1) := by decide +kernel
theorem dX0_powerOfWind_14 : decode cX0_powerOfWind 14 = .ok (.imul, 1) := by decide +kernel
theorem dX0_powerOfWind_15 : decode cX0_powerOfWind 15 = .ok (.iload_n 0, 1) := by decide +kernel
theorem dX0_powerOfWind_16 : decode cX0_powerOfWind 16 = .ok (.imul, 1) := by decide +kernel
theorem dX0_powerOfWind_17 : decode cX0_powerOfWind 17 = .ok (.sipush 2000, 3) := by decide +kernel
theorem dX0_powerOfWind_20 : decode cX0_powerOfWind 20 = .ok (.invokestatic 78, 3) := by decide +kernel
theorem dX0_powerOfWind_23 : decode cX0_powerOfWind 23 = .ok (.ireturn, 1) := by decide +kernel
end
section
/-! printed: names, fields, word lists, decode rows (out of claim/NAMES.whole.lean.txt) -/
theorem dX1_init_0 : decode cX1_init 0 = .ok (.aload_n 0, 1) := by decide +kernel
theorem dX1_init_1 : decode cX1_init 1 = .ok (.invokespecial 3, 3) := by decide +kernel
theorem dX1_init_4 : decode cX1_init 4 = .ok (.aload_n 0, 1) := by decide +kernel
theorem dX1_init_5 : decode cX1_init 5 = .ok (.iconst 3, 1) := by decide +kernel
theorem dX1_init_6 : decode cX1_init 6 = .ok (.newarray .int, 2) := by decide +kernel
theorem dX1_init_8 : decode cX1_init 8 = .ok (.putfield 9, 3) := by decide +kernel
theorem dX1_init_11 : decode cX1_init 11 = .ok (.aload_n 0, 1) := by decide +kernel
theorem dX1_init_12 : decode cX1_init 12 = .ok (.iconst 3, 1) := by decide +kernel
theorem dX1_init_13 : decode cX1_init 13 = .ok (.newarray .int, 2) := by decide +kernel
theorem dX1_init_15 : decode cX1_init 15 = .ok (.putfield 15, 3) := by decide +kernel
theorem dX1_init_18 : decode cX1_init 18 = .ok (.aload_n 0, 1) := by decide +kernel
theorem dX1_init_19 : decode cX1_init 19 = .ok (.iconst 3, 1) := by decide +kernel
theorem dX1_init_20 : decode cX1_init 20 = .ok (.newarray .int, 2) := by decide +kernel
theorem dX1_init_22 : decode cX1_init 22 = .ok (.putfield 18, 3) := by decide +kernel
theorem dX1_init_25 : decode cX1_init 25 = .ok (.aload_n 0, 1) := by decide +kernel
theorem dX1_init_26 : decode cX1_init 26 = .ok (.iconst 3, 1) := by decide +kernel
theorem dX1_init_27 : decode cX1_init 27 = .ok (.newarray .int, 2) := by decide +kernel
theorem dX1_init_29 : decode cX1_init 29 = .ok (.putfield 21, 3) := by decide +kernel
theorem dX1_init_32 : decode cX1_init 32 = .ok (.aload_n 0, 1) := by decide +kernel
theorem dX1_init_33 : decode cX1_init 33 = .ok (.iconst 3, 1) := by decide +kernel
theorem dX1_init_34 : decode cX1_init 34 = .ok (.newarray .int, 2) := by decide +kernel
theorem dX1_init_36 : decode cX1_init 36 = .ok (.putfield 24, 3) := by decide +kernel
theorem dX1_init_39 : decode cX1_init 39 = .ok (.iconst 0, 1) := by decide +kernel
theorem dX1_init_40 : decode cX1_init 40 = .ok (.istore_n 1, 1) := by decide +kernel
theorem dX1_init_41 : decode cX1_init 41 = .ok (.iload_n 1, 1) := by decide +kernel
theorem dX1_init_42 : decode cX1_init 42 = .ok (.iconst 3, 1) := by decide +kernel
theorem dX1_init_43 : decode cX1_init 43 = .ok (.if_icmp .ge 24, 3) := by decide +kernel
theorem dX1_init_46 : decode cX1_init 46 = .ok (.aload_n 0, 1) := by decide +kernel
theorem dX1_init_47 : decode cX1_init 47 = .ok (.getfield 9, 3) := by decide +kernel
theorem dX1_init_50 : decode cX1_init 50 = .ok (.iload_n 1, 1) := by decide +kernel
theorem dX1_init_51 : decode cX1_init 51 = .ok (.iconst (-1), 1) := by decide +kernel
theorem dX1_init_52 : decode cX1_init 52 = .ok (.iastore, 1) := by decide +kernel
theorem dX1_init_53 : decode cX1_init 53 = .ok (.aload_n 0, 1) := by decide +kernel
theorem dX1_init_54 : decode cX1_init 54 = .ok (.getfield 18, 3) := by decide +kernel
theorem dX1_init_57 : decode cX1_init 57 = .ok (.iload_n 1, 1) := by decide +kernel
theorem dX1_init_58 : decode cX1_init 58 = .ok (.bipush 8, 2) := by decide +kernel
theorem dX1_init_60 : decode cX1_init 60 = .ok (.iastore, 1) := by decide +kernel
theorem dX1_init_61 : decode cX1_init 61 = .ok (.iinc 1 1, 3) := by decide +kernel
theorem dX1_init_64 : decode cX1_init 64 = .ok (.goto (-23), 3) := by decide +kernel
theorem dX1_init_67 : decode cX1_init 67 = .ok (.return_, 1) := by decide +kernel
theorem dX1_crewHours_0 : decode cX1_crewHours 0 = .ok (.aload_n 0, 1) := by decide +kernel
theorem dX1_crewHours_1 : decode cX1_crewHours 1 = .ok (.getfield 18, 3) := by decide +kernel
theorem dX1_crewHours_4 : decode cX1_crewHours 4 = .ok (.iload_n 1, 1) := by decide +kernel
theorem dX1_crewHours_5 : decode cX1_crewHours 5 = .ok (.iaload, 1) := by decide +kernel
theorem dX1_crewHours_6 : decode cX1_crewHours 6 = .ok (.ireturn, 1) := by decide +kernel
theorem dX1_setCrewHours_0 : decode cX1_setCrewHours 0 = .ok (.aload_n 0, 1) := by decide +kernel
theorem dX1_setCrewHours_1 : decode cX1_setCrewHours 1 = .ok (.getfield 18, 3) := by decide +kernel
theorem dX1_setCrewHours_4 : decode cX1_setCrewHours 4 = .ok (.iload_n 1, 1) := by decide +kernel
theorem dX1_setCrewHours_5 : decode cX1_setCrewHours 5 = .ok (.iload_n 2, 1) := by decide +kernel
theorem dX1_setCrewHours_6 : decode cX1_setCrewHours 6 = .ok (.iastore, 1) := by decide +kernel
theorem dX1_setCrewHours_7 : decode cX1_setCrewHours 7 = .ok (.return_, 1) := by decide +kernel
theorem dX1_turbineOf_0 : decode cX1_turbineOf 0 = .ok (.aload_n 0, 1) := by decide +kernel
theorem dX1_turbineOf_1 : decode cX1_turbineOf 1 = .ok (.getfield 9, 3) := by decide +kernel
theorem dX1_turbineOf_4 : decode cX1_turbineOf 4 = .ok (.iload_n 1, 1) := by decide +kernel
theorem dX1_turbineOf_5 : decode cX1_turbineOf 5 = .ok (.iaload, 1) := by decide +kernel
theorem dX1_turbineOf_6 : decode cX1_turbineOf 6 = .ok (.ireturn, 1) := by decide +kernel
theorem dX1_hoursLeft_0 : decode cX1_hoursLeft 0 = .ok (.aload_n 0, 1) := by decide +kernel
theorem dX1_hoursLeft_1 : decode cX1_hoursLeft 1 = .ok (.getfield 15, 3) := by decide +kernel
theorem dX1_hoursLeft_4 : decode cX1_hoursLeft 4 = .ok (.iload_n 1, 1) := by decide +kernel
theorem dX1_hoursLeft_5 : decode cX1_hoursLeft 5 = .ok (.iaload, 1) := by decide +kernel
theorem dX1_hoursLeft_6 : decode cX1_hoursLeft 6 = .ok (.ireturn, 1) := by decide +kernel
theorem dX1_workedToday_0 : decode cX1_workedToday 0 = .ok (.aload_n 0, 1) := by decide +kernel
theorem dX1_workedToday_1 : decode cX1_workedToday 1 = .ok (.getfield 21, 3) := by decide +kernel
theorem dX1_workedToday_4 : decode cX1_workedToday 4 = .ok (.iload_n 1, 1) := by decide +kernel
theorem dX1_workedToday_5 : decode cX1_workedToday 5 = .ok (.iaload, 1) := by decide +kernel
theorem dX1_workedToday_6 : decode cX1_workedToday 6 = .ok (.ireturn, 1) := by decide +kernel
theorem dX1_workedInAll_0 : decode cX1_workedInAll 0 = .ok (.aload_n 0, 1) := by decide +kernel
theorem dX1_workedInAll_1 : decode cX1_workedInAll 1 = .ok (.getfield 24, 3) := by decide +kernel
theorem dX1_workedInAll_4 : decode cX1_workedInAll 4 = .ok (.iload_n 1, 1) := by decide +kernel
theorem dX1_workedInAll_5 : decode cX1_workedInAll 5 = .ok (.iaload, 1) := by decide +kernel
theorem dX1_workedInAll_6 : decode cX1_workedInAll 6 = .ok (.ireturn, 1) := by decide +kernel
theorem dX1_isFree_0 : decode cX1_isFree 0 = .ok (.aload_n 0, 1) := by decide +kernel
theorem dX1_isFree_1 : decode cX1_isFree 1 = .ok (.getfield 9, 3) := by decide +kernel
theorem dX1_isFree_4 : decode cX1_isFree 4 = .ok (.iload_n 1, 1) := by decide +kernel
theorem dX1_isFree_5 : decode cX1_isFree 5 = .ok (.iaload, 1) := by decide +kernel
theorem dX1_isFree_6 : decode cX1_isFree 6 = .ok (.iconst (-1), 1) := by decide +kernel
theorem dX1_isFree_7 : decode cX1_isFree 7 = .ok (.if_icmp .ne 7, 3) := by decide +kernel
theorem dX1_isFree_10 : decode cX1_isFree 10 = .ok (.iconst 1, 1) := by decide +kernel
theorem dX1_isFree_11 : decode cX1_isFree 11 = .ok (.goto 4, 3) := by decide +kernel
theorem dX1_isFree_14 : decode cX1_isFree 14 = .ok (.iconst 0, 1) := by decide +kernel
theorem dX1_isFree_15 : decode cX1_isFree 15 = .ok (.ireturn, 1) := by decide +kernel
theorem dX1_isAtWorkOn_0 : decode cX1_isAtWorkOn 0 = .ok (.iconst 0, 1) := by decide +kernel
theorem dX1_isAtWorkOn_1 : decode cX1_isAtWorkOn 1 = .ok (.istore_n 2, 1) := by decide +kernel
theorem dX1_isAtWorkOn_2 : decode cX1_isAtWorkOn 2 = .ok (.iload_n 2, 1) := by decide +kernel
theorem dX1_isAtWorkOn_3 : decode cX1_isAtWorkOn 3 = .ok (.iconst 3, 1) := by decide +kernel
theorem dX1_isAtWorkOn_4 : decode cX1_isAtWorkOn 4 = .ok (.if_icmp .ge 21, 3) := by decide +kernel
theorem dX1_isAtWorkOn_7 : decode cX1_isAtWorkOn 7 = .ok (.aload_n 0, 1) := by decide +kernel
theorem dX1_isAtWorkOn_8 : decode cX1_isAtWorkOn 8 = .ok (.getfield 9, 3) := by decide +kernel
theorem dX1_isAtWorkOn_11 : decode cX1_isAtWorkOn 11 = .ok (.iload_n 2, 1) := by decide +kernel
theorem dX1_isAtWorkOn_12 : decode cX1_isAtWorkOn 12 = .ok (.iaload, 1) := by decide +kernel
theorem dX1_isAtWorkOn_13 : decode cX1_isAtWorkOn 13 = .ok (.iload_n 1, 1) := by decide +kernel
theorem dX1_isAtWorkOn_14 : decode cX1_isAtWorkOn 14 = .ok (.if_icmp .ne 5, 3) := by decide +kernel
theorem dX1_isAtWorkOn_17 : decode cX1_isAtWorkOn 17 = .ok (.iconst 1, 1) := by decide +kernel
theorem dX1_isAtWorkOn_18 : decode cX1_isAtWorkOn 18 = .ok (.ireturn, 1) := by decide +kernel
theorem dX1_isAtWorkOn_19 : decode cX1_isAtWorkOn 19 = .ok (.iinc 2 1, 3) := by decide +kernel
theorem dX1_isAtWorkOn_22 : decode cX1_isAtWorkOn 22 = .ok (.goto (-20), 3) := by decide +kernel
theorem dX1_isAtWorkOn_25 : decode cX1_isAtWorkOn 25 = .ok (.iconst 0, 1) := by decide +kernel
theorem dX1_isAtWorkOn_26 : decode cX1_isAtWorkOn 26 = .ok (.ireturn, 1) := by decide +kernel
theorem dX1_send_0 : decode cX1_send 0 = .ok (.aload_n 0, 1) := by decide +kernel
theorem dX1_send_1 : decode cX1_send 1 = .ok (.getfield 9, 3) := by decide +kernel
theorem dX1_send_4 : decode cX1_send 4 = .ok (.iload_n 1, 1) := by decide +kernel
theorem dX1_send_5 : decode cX1_send 5 = .ok (.iload_n 2, 1) := by decide +kernel
theorem dX1_send_6 : decode cX1_send 6 = .ok (.iastore, 1) := by decide +kernel
theorem dX1_send_7 : decode cX1_send 7 = .ok (.aload_n 0, 1) := by decide +kernel
theorem dX1_send_8 : decode cX1_send 8 = .ok (.getfield 15, 3) := by decide +kernel
theorem dX1_send_11 : decode cX1_send 11 = .ok (.iload_n 1, 1) := by decide +kernel
theorem dX1_send_12 : decode cX1_send 12 = .ok (.iload_n 3, 1) := by decide +kernel
theorem dX1_send_13 : decode cX1_send 13 = .ok (.iastore, 1) := by decide +kernel
theorem dX1_send_14 : decode cX1_send 14 = .ok (.return_, 1) := by decide +kernel
set_option maxRecDepth 20000 in
theorem ggX1_canWork_X1_isFree : GoodIn wsX1_canWork wsX1_isFree := goodIn_r _ [7, 8, 9, 10, 11, 12, 13] (by decide +kernel) (by decide +kernel)
set_option maxRecDepth 20000 in
theorem gX1_canWork_X1_isFree : GoodIn wsX1_canWork (wsV RX1 27 RX1 yX1_isFree wsX1_isFree) := goodIn_app (goodIn_of _ (by decide +kernel)) ggX1_canWork_X1_isFree
theorem dX1_canWork_0 : decode cX1_canWork 0 = .ok (.aload_n 0, 1) := by decide +kernel
theorem dX1_canWork_1 : decode cX1_canWork 1 = .ok (.iload_n 1, 1) := by decide +kernel
theorem dX1_canWork_2 : decode cX1_canWork 2 = .ok (.invokevirtual 27, 3) := by decide +kernel
theorem dX1_canWork_5 : decode cX1_canWork 5 = .ok (.ifCond .ne 22, 3) := by decide +kernel
theorem dX1_canWork_8 : decode cX1_canWork 8 = .ok (.aload_n 0, 1) := by decide +kernel
theorem dX1_canWork_9 : decode cX1_canWork 9 = .ok (.getfield 21, 3) := by decide +kernel
theorem dX1_canWork_12 : decode cX1_canWork 12 = .ok (.iload_n 1, 1) := by decide +kernel
theorem dX1_canWork_13 : decode cX1_canWork 13 = .ok (.iaload, 1) := by decide +kernel
theorem dX1_canWork_14 : decode cX1_canWork 14 = .ok (.aload_n 0, 1) := by decide +kernel
theorem dX1_canWork_15 : decode cX1_canWork 15 = .ok (.getfield 18, 3) := by decide +kernel
theorem dX1_canWork_18 : decode cX1_canWork 18 = .ok (.iload_n 1, 1) := by decide +kernel
theorem dX1_canWork_19 : decode cX1_canWork 19 = .ok (.iaload, 1) := by decide +kernel
theorem dX1_canWork_20 : decode cX1_canWork 20 = .ok (.if_icmp .ge 7, 3) := by decide +kernel
theorem dX1_canWork_23 : decode cX1_canWork 23 = .ok (.iconst 1, 1) := by decide +kernel
theorem dX1_canWork_24 : decode cX1_canWork 24 = .ok (.goto 4, 3) := by decide +kernel
theorem dX1_canWork_27 : decode cX1_canWork 27 = .ok (.iconst 0, 1) := by decide +kernel
theorem dX1_canWork_28 : decode cX1_canWork 28 = .ok (.ireturn, 1) := by decide +kernel
theorem dX1_workAnHour_0 : decode cX1_workAnHour 0 = .ok (.aload_n 0, 1) := by decide +kernel
theorem dX1_workAnHour_1 : decode cX1_workAnHour 1 = .ok (.getfield 15, 3) := by decide +kernel
theorem dX1_workAnHour_4 : decode cX1_workAnHour 4 = .ok (.iload_n 1, 1) := by decide +kernel
theorem dX1_workAnHour_5 : decode cX1_workAnHour 5 = .ok (.dup2, 1) := by decide +kernel
theorem dX1_workAnHour_6 : decode cX1_workAnHour 6 = .ok (.iaload, 1) := by decide +kernel
theorem dX1_workAnHour_7 : decode cX1_workAnHour 7 = .ok (.iconst 1, 1) := by decide +kernel
theorem dX1_workAnHour_8 : decode cX1_workAnHour 8 = .ok (.isub, 1) := by decide +kernel
theorem dX1_workAnHour_9 : decode cX1_workAnHour 9 = .ok (.iastore, 1) := by decide +kernel
theorem dX1_workAnHour_10 : decode cX1_workAnHour 10 = .ok (.aload_n 0, 1) := by decide +kernel
theorem dX1_workAnHour_11 : decode cX1_workAnHour 11 = .ok (.getfield 21, 3) := by decide +kernel
theorem dX1_workAnHour_14 : decode cX1_workAnHour 14 = .ok (.iload_n 1, 1) := by decide +kernel
theorem dX1_workAnHour_15 : decode cX1_workAnHour 15 = .ok (.dup2, 1) := by decide +kernel
theorem dX1_workAnHour_16 : decode cX1_workAnHour 16 = .ok (.iaload, 1) := by decide +kernel
theorem dX1_workAnHour_17 : decode cX1_workAnHour 17 = .ok (.iconst 1, 1) := by decide +kernel
theorem dX1_workAnHour_18 : decode cX1_workAnHour 18 = .ok (.iadd, 1) := by decide +kernel
theorem dX1_workAnHour_19 : decode cX1_workAnHour 19 = .ok (.iastore, 1) := by decide +kernel
theorem dX1_workAnHour_20 : decode cX1_workAnHour 20 = .ok (.aload_n 0, 1) := by decide +kernel
theorem dX1_workAnHour_21 : decode cX1_workAnHour 21 = .ok (.getfield 24, 3) := by decide +kernel
theorem dX1_workAnHour_24 : decode cX1_workAnHour 24 = .ok (.iload_n 1, 1) := by decide +kernel
theorem dX1_workAnHour_25 : decode cX1_workAnHour 25 = .ok (.dup2, 1) := by decide +kernel
theorem dX1_workAnHour_26 : decode cX1_workAnHour 26 = .ok (.iaload, 1) := by decide +kernel
theorem dX1_workAnHour_27 : decode cX1_workAnHour 27 = .ok (.iconst 1, 1) := by decide +kernel
theorem dX1_workAnHour_28 : decode cX1_workAnHour 28 = .ok (.iadd, 1) := by decide +kernel
theorem dX1_workAnHour_29 : decode cX1_workAnHour 29 = .ok (.iastore, 1) := by decide +kernel
theorem dX1_workAnHour_30 : decode cX1_workAnHour 30 = .ok (.return_, 1) := by decide +kernel
set_option maxRecDepth 20000 in
theorem ggX1_hasEnded_X1_isFree : GoodIn wsX1_hasEnded wsX1_isFree := goodIn_r _ [6, 7, 8, 9, 10, 11, 12] (by decide +kernel) (by decide +kernel)
set_option maxRecDepth 20000 in
theorem gX1_hasEnded_X1_isFree : GoodIn wsX1_hasEnded (wsV RX1 27 RX1 yX1_isFree wsX1_isFree) := goodIn_app (goodIn_of _ (by decide +kernel)) ggX1_hasEnded_X1_isFree
theorem dX1_hasEnded_0 : decode cX1_hasEnded 0 = .ok (.aload_n 0, 1) := by decide +kernel
theorem dX1_hasEnded_1 : decode cX1_hasEnded 1 = .ok (.iload_n 1, 1) := by decide +kernel
theorem dX1_hasEnded_2 : decode cX1_hasEnded 2 = .ok (.invokevirtual 27, 3) := by decide +kernel
theorem dX1_hasEnded_5 : decode cX1_hasEnded 5 = .ok (.ifCond .ne 16, 3) := by decide +kernel
theorem dX1_hasEnded_8 : decode cX1_hasEnded 8 = .ok (.aload_n 0, 1) := by decide +kernel
theorem dX1_hasEnded_9 : decode cX1_hasEnded 9 = .ok (.getfield 15, 3) := by decide +kernel
theorem dX1_hasEnded_12 : decode cX1_hasEnded 12 = .ok (.iload_n 1, 1) := by decide +kernel
theorem dX1_hasEnded_13 : decode cX1_hasEnded 13 = .ok (.iaload, 1) := by decide +kernel
theorem dX1_hasEnded_14 : decode cX1_hasEnded 14 = .ok (.ifCond .ne 7, 3) := by decide +kernel
theorem dX1_hasEnded_17 : decode cX1_hasEnded 17 = .ok (.iconst 1, 1) := by decide +kernel
theorem dX1_hasEnded_18 : decode cX1_hasEnded 18 = .ok (.goto 4, 3) := by decide +kernel
theorem dX1_hasEnded_21 : decode cX1_hasEnded 21 = .ok (.iconst 0, 1) := by decide +kernel
theorem dX1_hasEnded_22 : decode cX1_hasEnded 22 = .ok (.ireturn, 1) := by decide +kernel
theorem dX1_release_0 : decode cX1_release 0 = .ok (.aload_n 0, 1) := by decide +kernel
theorem dX1_release_1 : decode cX1_release 1 = .ok (.getfield 9, 3) := by decide +kernel
theorem dX1_release_4 : decode cX1_release 4 = .ok (.iload_n 1, 1) := by decide +kernel
theorem dX1_release_5 : decode cX1_release 5 = .ok (.iconst (-1), 1) := by decide +kernel
theorem dX1_release_6 : decode cX1_release 6 = .ok (.iastore, 1) := by decide +kernel
theorem dX1_release_7 : decode cX1_release 7 = .ok (.return_, 1) := by decide +kernel
theorem dX1_beginDay_0 : decode cX1_beginDay 0 = .ok (.iconst 0, 1) := by decide +kernel
theorem dX1_beginDay_1 : decode cX1_beginDay 1 = .ok (.istore_n 1, 1) := by decide +kernel
theorem dX1_beginDay_2 : decode cX1_beginDay 2 = .ok (.iload_n 1, 1) := by decide +kernel
theorem dX1_beginDay_3 : decode cX1_beginDay 3 = .ok (.iconst 3, 1) := by decide +kernel
theorem dX1_beginDay_4 : decode cX1_beginDay 4 = .ok (.if_icmp .ge 16, 3) := by decide +kernel
theorem dX1_beginDay_7 : decode cX1_beginDay 7 = .ok (.aload_n 0, 1) := by decide +kernel
theorem dX1_beginDay_8 : decode cX1_beginDay 8 = .ok (.getfield 21, 3) := by decide +kernel
theorem dX1_beginDay_11 : decode cX1_beginDay 11 = .ok (.iload_n 1, 1) := by decide +kernel
theorem dX1_beginDay_12 : decode cX1_beginDay 12 = .ok (.iconst 0, 1) := by decide +kernel
theorem dX1_beginDay_13 : decode cX1_beginDay 13 = .ok (.iastore, 1) := by decide +kernel
theorem dX1_beginDay_14 : decode cX1_beginDay 14 = .ok (.iinc 1 1, 3) := by decide +kernel
theorem dX1_beginDay_17 : decode cX1_beginDay 17 = .ok (.goto (-15), 3) := by decide +kernel
theorem dX1_beginDay_20 : decode cX1_beginDay 20 = .ok (.return_, 1) := by decide +kernel
theorem dX2_init_0 : decode cX2_init 0 = .ok (.aload_n 0, 1) := by decide +kernel
theorem dX2_init_1 : decode cX2_init 1 = .ok (.invokespecial 3, 3) := by decide +kernel
theorem dX2_init_4 : decode cX2_init 4 = .ok (.aload_n 0, 1) := by decide +kernel
theorem dX2_init_5 : decode cX2_init 5 = .ok (.sipush 480, 3) := by decide +kernel
theorem dX2_init_8 : decode cX2_init 8 = .ok (.newarray .int, 2) := by decide +kernel
theorem dX2_init_10 : decode cX2_init 10 = .ok (.putfield 9, 3) := by decide +kernel
theorem dX2_init_13 : decode cX2_init 13 = .ok (.aload_n 0, 1) := by decide +kernel
theorem dX2_init_14 : decode cX2_init 14 = .ok (.sipush 480, 3) := by decide +kernel
theorem dX2_init_17 : decode cX2_init 17 = .ok (.newarray .int, 2) := by decide +kernel
theorem dX2_init_19 : decode cX2_init 19 = .ok (.putfield 15, 3) := by decide +kernel
theorem dX2_init_22 : decode cX2_init 22 = .ok (.aload_n 0, 1) := by decide +kernel
theorem dX2_init_23 : decode cX2_init 23 = .ok (.sipush 480, 3) := by decide +kernel
theorem dX2_init_26 : decode cX2_init 26 = .ok (.newarray .int, 2) := by decide +kernel
theorem dX2_init_28 : decode cX2_init 28 = .ok (.putfield 18, 3) := by decide +kernel
theorem dX2_init_31 : decode cX2_init 31 = .ok (.iconst 0, 1) := by decide +kernel
theorem dX2_init_32 : decode cX2_init 32 = .ok (.istore_n 1, 1) := by decide +kernel
theorem dX2_init_33 : decode cX2_init 33 = .ok (.iload_n 1, 1) := by decide +kernel
theorem dX2_init_34 : decode cX2_init 34 = .ok (.sipush 480, 3) := by decide +kernel
theorem dX2_init_37 : decode cX2_init 37 = .ok (.if_icmp .ge 23, 3) := by decide +kernel
theorem dX2_init_40 : decode cX2_init 40 = .ok (.aload_n 0, 1) := by decide +kernel
theorem dX2_init_41 : decode cX2_init 41 = .ok (.getfield 9, 3) := by decide +kernel
theorem dX2_init_44 : decode cX2_init 44 = .ok (.iload_n 1, 1) := by decide +kernel
theorem dX2_init_45 : decode cX2_init 45 = .ok (.iconst (-1), 1) := by decide +kernel
theorem dX2_init_46 : decode cX2_init 46 = .ok (.iastore, 1) := by decide +kernel
theorem dX2_init_47 : decode cX2_init 47 = .ok (.aload_n 0, 1) := by decide +kernel
theorem dX2_init_48 : decode cX2_init 48 = .ok (.getfield 15, 3) := by decide +kernel
theorem dX2_init_51 : decode cX2_init 51 = .ok (.iload_n 1, 1) := by decide +kernel
theorem dX2_init_52 : decode cX2_init 52 = .ok (.iconst 2, 1) := by decide +kernel
theorem dX2_init_53 : decode cX2_init 53 = .ok (.iastore, 1) := by decide +kernel
theorem dX2_init_54 : decode cX2_init 54 = .ok (.iinc 1 1, 3) := by decide +kernel
theorem dX2_init_57 : decode cX2_init 57 = .ok (.goto (-24), 3) := by decide +kernel
theorem dX2_init_60 : decode cX2_init 60 = .ok (.return_, 1) := by decide +kernel
theorem dX2_slotUnits_0 : decode cX2_slotUnits 0 = .ok (.aload_n 0, 1) := by decide +kernel
theorem dX2_slotUnits_1 : decode cX2_slotUnits 1 = .ok (.getfield 9, 3) := by decide +kernel
theorem dX2_slotUnits_4 : decode cX2_slotUnits 4 = .ok (.iload_n 1, 1) := by decide +kernel
theorem dX2_slotUnits_5 : decode cX2_slotUnits 5 = .ok (.iaload, 1) := by decide +kernel
theorem dX2_slotUnits_6 : decode cX2_slotUnits 6 = .ok (.ireturn, 1) := by decide +kernel
theorem dX2_setSlot_0 : decode cX2_setSlot 0 = .ok (.aload_n 0, 1) := by decide +kernel
theorem dX2_setSlot_1 : decode cX2_setSlot 1 = .ok (.getfield 9, 3) := by decide +kernel
theorem dX2_setSlot_4 : decode cX2_setSlot 4 = .ok (.iload_n 1, 1) := by decide +kernel
theorem dX2_setSlot_5 : decode cX2_setSlot 5 = .ok (.iload_n 2, 1) := by decide +kernel
theorem dX2_setSlot_6 : decode cX2_setSlot 6 = .ok (.iastore, 1) := by decide +kernel
theorem dX2_setSlot_7 : decode cX2_setSlot 7 = .ok (.aload_n 0, 1) := by decide +kernel
theorem dX2_setSlot_8 : decode cX2_setSlot 8 = .ok (.getfield 15, 3) := by decide +kernel
theorem dX2_setSlot_11 : decode cX2_setSlot 11 = .ok (.iload_n 1, 1) := by decide +kernel
theorem dX2_setSlot_12 : decode cX2_setSlot 12 = .ok (.iload_n 3, 1) := by decide +kernel
theorem dX2_setSlot_13 : decode cX2_setSlot 13 = .ok (.iastore, 1) := by decide +kernel
theorem dX2_setSlot_14 : decode cX2_setSlot 14 = .ok (.return_, 1) := by decide +kernel
set_option maxRecDepth 20000 in
theorem ggX2_endHour_X2_proceedsOf : GoodIn wsX2_endHour wsX2_proceedsOf := goodIn_r _ [7, 8, 9, 10, 11, 6, 12, 1, 13, 14, 15, 16, 17, 18, 19, 20, 21] (by decide +kernel) (by decide +kernel)
set_option maxRecDepth 20000 in
theorem gX2_endHour_X2_proceedsOf : GoodIn wsX2_endHour (wsV RX2 25 RX2 yX2_proceedsOf wsX2_proceedsOf) := goodIn_app (goodIn_of _ (by decide +kernel)) ggX2_endHour_X2_proceedsOf
theorem dX2_endHour_0 : decode cX2_endHour 0 = .ok (.aload_n 0, 1) := by decide +kernel
theorem dX2_endHour_1 : decode cX2_endHour 1 = .ok (.getfield 18, 3) := by decide +kernel
theorem dX2_endHour_4 : decode cX2_endHour 4 = .ok (.iload_n 1, 1) := by decide +kernel
theorem dX2_endHour_5 : decode cX2_endHour 5 = .ok (.iload_n 2, 1) := by decide +kernel
theorem dX2_endHour_6 : decode cX2_endHour 6 = .ok (.iastore, 1) := by decide +kernel
theorem dX2_endHour_7 : decode cX2_endHour 7 = .ok (.aload_n 0, 1) := by decide +kernel
theorem dX2_endHour_8 : decode cX2_endHour 8 = .ok (.dup, 1) := by decide +kernel
theorem dX2_endHour_9 : decode cX2_endHour 9 = .ok (.getfield 21, 3) := by decide +kernel
theorem dX2_endHour_12 : decode cX2_endHour 12 = .ok (.aload_n 0, 1) := by decide +kernel
theorem dX2_endHour_13 : decode cX2_endHour 13 = .ok (.iload_n 1, 1) := by decide +kernel
theorem dX2_endHour_14 : decode cX2_endHour 14 = .ok (.invokevirtual 25, 3) := by decide +kernel
theorem dX2_endHour_17 : decode cX2_endHour 17 = .ok (.i2l, 1) := by decide +kernel
theorem dX2_endHour_18 : decode cX2_endHour 18 = .ok (.ladd, 1) := by decide +kernel
theorem dX2_endHour_19 : decode cX2_endHour 19 = .ok (.putfield 21, 3) := by decide +kernel
theorem dX2_endHour_22 : decode cX2_endHour 22 = .ok (.return_, 1) := by decide +kernel
theorem dX2_madeIn_0 : decode cX2_madeIn 0 = .ok (.aload_n 0, 1) := by decide +kernel
theorem dX2_madeIn_1 : decode cX2_madeIn 1 = .ok (.getfield 18, 3) := by decide +kernel
theorem dX2_madeIn_4 : decode cX2_madeIn 4 = .ok (.iload_n 1, 1) := by decide +kernel
theorem dX2_madeIn_5 : decode cX2_madeIn 5 = .ok (.iaload, 1) := by decide +kernel
theorem dX2_madeIn_6 : decode cX2_madeIn 6 = .ok (.ireturn, 1) := by decide +kernel
theorem dX2_soldFor_0 : decode cX2_soldFor 0 = .ok (.aload_n 0, 1) := by decide +kernel
theorem dX2_soldFor_1 : decode cX2_soldFor 1 = .ok (.getfield 9, 3) := by decide +kernel
theorem dX2_soldFor_4 : decode cX2_soldFor 4 = .ok (.iload_n 1, 1) := by decide +kernel
theorem dX2_soldFor_5 : decode cX2_soldFor 5 = .ok (.iaload, 1) := by decide +kernel
theorem dX2_soldFor_6 : decode cX2_soldFor 6 = .ok (.iconst (-1), 1) := by decide +kernel
theorem dX2_soldFor_7 : decode cX2_soldFor 7 = .ok (.if_icmp .ne 7, 3) := by decide +kernel
theorem dX2_soldFor_10 : decode cX2_soldFor 10 = .ok (.iconst 0, 1) := by decide +kernel
theorem dX2_soldFor_11 : decode cX2_soldFor 11 = .ok (.goto 9, 3) := by decide +kernel
theorem dX2_soldFor_14 : decode cX2_soldFor 14 = .ok (.aload_n 0, 1) := by decide +kernel
theorem dX2_soldFor_15 : decode cX2_soldFor 15 = .ok (.getfield 9, 3) := by decide +kernel
theorem dX2_soldFor_18 : decode cX2_soldFor 18 = .ok (.iload_n 1, 1) := by decide +kernel
theorem dX2_soldFor_19 : decode cX2_soldFor 19 = .ok (.iaload, 1) := by decide +kernel
theorem dX2_soldFor_20 : decode cX2_soldFor 20 = .ok (.ireturn, 1) := by decide +kernel
set_option maxRecDepth 20000 in
theorem ggX2_imbalanceOf_X2_soldFor : GoodIn wsX2_imbalanceOf wsX2_soldFor := goodIn_r _ [6, 7, 8, 9, 10, 11] (by decide +kernel) (by decide +kernel)
set_option maxRecDepth 20000 in
theorem gX2_imbalanceOf_X2_soldFor : GoodIn wsX2_imbalanceOf (wsV RX2 29 RX2 yX2_soldFor wsX2_soldFor) := goodIn_app (goodIn_of _ (by decide +kernel)) ggX2_imbalanceOf_X2_soldFor
theorem dX2_imbalanceOf_0 : decode cX2_imbalanceOf 0 = .ok (.aload_n 0, 1) := by decide +kernel
theorem dX2_imbalanceOf_1 : decode cX2_imbalanceOf 1 = .ok (.iload_n 1, 1) := by decide +kernel
theorem dX2_imbalanceOf_2 : decode cX2_imbalanceOf 2 = .ok (.invokevirtual 29, 3) := by decide +kernel
theorem dX2_imbalanceOf_5 : decode cX2_imbalanceOf 5 = .ok (.aload_n 0, 1) := by decide +kernel
theorem dX2_imbalanceOf_6 : decode cX2_imbalanceOf 6 = .ok (.getfield 18, 3) := by decide +kernel
theorem dX2_imbalanceOf_9 : decode cX2_imbalanceOf 9 = .ok (.iload_n 1, 1) := by decide +kernel
theorem dX2_imbalanceOf_10 : decode cX2_imbalanceOf 10 = .ok (.iaload, 1) := by decide +kernel
theorem dX2_imbalanceOf_11 : decode cX2_imbalanceOf 11 = .ok (.isub, 1) := by decide +kernel
theorem dX2_imbalanceOf_12 : decode cX2_imbalanceOf 12 = .ok (.ireturn, 1) := by decide +kernel
set_option maxRecDepth 20000 in
theorem ggX2_proceedsOf_X2_imbalanceOf : GoodIn wsX2_proceedsOf wsX2_imbalanceOf := goodIn_r _ [6, 7, 8, 9, 10, 5, 11, 12, 13, 14, 15, 16] (by decide +kernel) (by decide +kernel)
set_option maxRecDepth 20000 in
theorem gX2_proceedsOf_X2_imbalanceOf : GoodIn wsX2_proceedsOf (wsV RX2 32 RX2 yX2_imbalanceOf wsX2_imbalanceOf) := goodIn_app (goodIn_of _ (by decide +kernel)) ggX2_proceedsOf_X2_imbalanceOf
set_option maxRecDepth 20000 in
theorem ggX2_proceedsOf_X2_soldFor : GoodIn wsX2_proceedsOf wsX2_soldFor := goodIn_r _ [11, 12, 13, 14, 15, 16] (by decide +kernel) (by decide +kernel)
set_option maxRecDepth 20000 in
theorem gX2_proceedsOf_X2_soldFor : GoodIn wsX2_proceedsOf (wsV RX2 29 RX2 yX2_soldFor wsX2_soldFor) := goodIn_app (goodIn_of _ (by decide +kernel)) ggX2_proceedsOf_X2_soldFor
theorem dX2_proceedsOf_0 : decode cX2_proceedsOf 0 = .ok (.aload_n 0, 1) := by decide +kernel
theorem dX2_proceedsOf_1 : decode cX2_proceedsOf 1 = .ok (.getfield 15, 3) := by decide +kernel
theorem dX2_proceedsOf_4 : decode cX2_proceedsOf 4 = .ok (.iload_n 1, 1) := by decide +kernel
theorem dX2_proceedsOf_5 : decode cX2_proceedsOf 5 = .ok (.iaload, 1) := by decide +kernel
theorem dX2_proceedsOf_6 : decode cX2_proceedsOf 6 = .ok (.istore_n 2, 1) := by decide +kernel
theorem dX2_proceedsOf_7 : decode cX2_proceedsOf 7 = .ok (.aload_n 0, 1) := by decide +kernel
theorem dX2_proceedsOf_8 : decode cX2_proceedsOf 8 = .ok (.iload_n 1, 1) := by decide +kernel
theorem dX2_proceedsOf_9 : decode cX2_proceedsOf 9 = .ok (.invokevirtual 32, 3) := by decide +kernel
theorem dX2_proceedsOf_12 : decode cX2_proceedsOf 12 = .ok (.istore_n 3, 1) := by decide +kernel
theorem dX2_proceedsOf_13 : decode cX2_proceedsOf 13 = .ok (.aload_n 0, 1) := by decide +kernel
theorem dX2_proceedsOf_14 : decode cX2_proceedsOf 14 = .ok (.iload_n 1, 1) := by decide +kernel
theorem dX2_proceedsOf_15 : decode cX2_proceedsOf 15 = .ok (.invokevirtual 29, 3) := by decide +kernel
theorem dX2_proceedsOf_18 : decode cX2_proceedsOf 18 = .ok (.iload_n 2, 1) := by decide +kernel
theorem dX2_proceedsOf_19 : decode cX2_proceedsOf 19 = .ok (.imul, 1) := by decide +kernel
theorem dX2_proceedsOf_20 : decode cX2_proceedsOf 20 = .ok (.istore 4, 2) := by decide +kernel
theorem dX2_proceedsOf_22 : decode cX2_proceedsOf 22 = .ok (.iload_n 3, 1) := by decide +kernel
theorem dX2_proceedsOf_23 : decode cX2_proceedsOf 23 = .ok (.ifCond .le 14, 3) := by decide +kernel
theorem dX2_proceedsOf_26 : decode cX2_proceedsOf 26 = .ok (.iload 4, 2) := by decide +kernel
theorem dX2_proceedsOf_28 : decode cX2_proceedsOf 28 = .ok (.iload_n 3, 1) := by decide +kernel
theorem dX2_proceedsOf_29 : decode cX2_proceedsOf 29 = .ok (.iconst 2, 1) := by decide +kernel
theorem dX2_proceedsOf_30 : decode cX2_proceedsOf 30 = .ok (.imul, 1) := by decide +kernel
theorem dX2_proceedsOf_31 : decode cX2_proceedsOf 31 = .ok (.iload_n 2, 1) := by decide +kernel
theorem dX2_proceedsOf_32 : decode cX2_proceedsOf 32 = .ok (.imul, 1) := by decide +kernel
theorem dX2_proceedsOf_33 : decode cX2_proceedsOf 33 = .ok (.isub, 1) := by decide +kernel
theorem dX2_proceedsOf_34 : decode cX2_proceedsOf 34 = .ok (.goto 11, 3) := by decide +kernel
theorem dX2_proceedsOf_37 : decode cX2_proceedsOf 37 = .ok (.iload 4, 2) := by decide +kernel
theorem dX2_proceedsOf_39 : decode cX2_proceedsOf 39 = .ok (.iload_n 3, 1) := by decide +kernel
theorem dX2_proceedsOf_40 : decode cX2_proceedsOf 40 = .ok (.iload_n 2, 1) := by decide +kernel
theorem dX2_proceedsOf_41 : decode cX2_proceedsOf 41 = .ok (.iconst 2, 1) := by decide +kernel
theorem dX2_proceedsOf_42 : decode cX2_proceedsOf 42 = .ok (.idiv, 1) := by decide +kernel
theorem dX2_proceedsOf_43 : decode cX2_proceedsOf 43 = .ok (.imul, 1) := by decide +kernel
theorem dX2_proceedsOf_44 : decode cX2_proceedsOf 44 = .ok (.isub, 1) := by decide +kernel
theorem dX2_proceedsOf_45 : decode cX2_proceedsOf 45 = .ok (.ireturn, 1) := by decide +kernel
theorem dX2_proceedsInAll_0 : decode cX2_proceedsInAll 0 = .ok (.aload_n 0, 1) := by decide +kernel
theorem dX2_proceedsInAll_1 : decode cX2_proceedsInAll 1 = .ok (.getfield 21, 3) := by decide +kernel
theorem dX2_proceedsInAll_4 : decode cX2_proceedsInAll 4 = .ok (.lreturn, 1) := by decide +kernel
set_option maxRecDepth 20000 in
theorem ggX2_madeToSold_X2_soldFor : GoodIn wsX2_madeToSold wsX2_soldFor := goodIn_r _ [6, 7, 8, 9, 10, 11] (by decide +kernel) (by decide +kernel)
set_option maxRecDepth 20000 in
theorem gX2_madeToSold_X2_soldFor : GoodIn wsX2_madeToSold (wsV RX2 29 RX2 yX2_soldFor wsX2_soldFor) := goodIn_app (goodIn_of _ (by decide +kernel)) ggX2_madeToSold_X2_soldFor
theorem dX2_madeToSold_0 : decode cX2_madeToSold 0 = .ok (.aload_n 0, 1) := by decide +kernel
theorem dX2_madeToSold_1 : decode cX2_madeToSold 1 = .ok (.iload_n 1, 1) := by decide +kernel
theorem dX2_madeToSold_2 : decode cX2_madeToSold 2 = .ok (.invokevirtual 29, 3) := by decide +kernel
theorem dX2_madeToSold_5 : decode cX2_madeToSold 5 = .ok (.istore_n 2, 1) := by decide +kernel
theorem dX2_madeToSold_6 : decode cX2_madeToSold 6 = .ok (.iload_n 2, 1) := by decide +kernel
theorem dX2_madeToSold_7 : decode cX2_madeToSold 7 = .ok (.ifCond .ne 7, 3) := by decide +kernel
theorem dX2_madeToSold_10 : decode cX2_madeToSold 10 = .ok (.fconst 0, 1) := by decide +kernel
theorem dX2_madeToSold_11 : decode cX2_madeToSold 11 = .ok (.goto 13, 3) := by decide +kernel
theorem dX2_madeToSold_14 : decode cX2_madeToSold 14 = .ok (.aload_n 0, 1) := by decide +kernel
theorem dX2_madeToSold_15 : decode cX2_madeToSold 15 = .ok (.getfield 18, 3) := by decide +kernel
theorem dX2_madeToSold_18 : decode cX2_madeToSold 18 = .ok (.iload_n 1, 1) := by decide +kernel
theorem dX2_madeToSold_19 : decode cX2_madeToSold 19 = .ok (.iaload, 1) := by decide +kernel
theorem dX2_madeToSold_20 : decode cX2_madeToSold 20 = .ok (.i2f, 1) := by decide +kernel
theorem dX2_madeToSold_21 : decode cX2_madeToSold 21 = .ok (.iload_n 2, 1) := by decide +kernel
theorem dX2_madeToSold_22 : decode cX2_madeToSold 22 = .ok (.i2f, 1) := by decide +kernel
theorem dX2_madeToSold_23 : decode cX2_madeToSold 23 = .ok (.fdiv, 1) := by decide +kernel
theorem dX2_madeToSold_24 : decode cX2_madeToSold 24 = .ok (.freturn, 1) := by decide +kernel
theorem dX3_init_0 : decode cX3_init 0 = .ok (.aload_n 0, 1) := by decide +kernel
theorem dX3_init_1 : decode cX3_init 1 = .ok (.invokespecial 3, 3) := by decide +kernel
theorem dX3_init_4 : decode cX3_init 4 = .ok (.aload_n 0, 1) := by decide +kernel
theorem dX3_init_5 : decode cX3_init 5 = .ok (.sipush 480, 3) := by decide +kernel
theorem dX3_init_8 : decode cX3_init 8 = .ok (.newarray .int, 2) := by decide +kernel
theorem dX3_init_10 : decode cX3_init 10 = .ok (.putfield 9, 3) := by decide +kernel
theorem dX3_init_13 : decode cX3_init 13 = .ok (.aload_n 0, 1) := by decide +kernel
theorem dX3_init_14 : decode cX3_init 14 = .ok (.sipush 480, 3) := by decide +kernel
theorem dX3_init_17 : decode cX3_init 17 = .ok (.newarray .boolean, 2) := by decide +kernel
theorem dX3_init_19 : decode cX3_init 19 = .ok (.putfield 15, 3) := by decide +kernel
theorem dX3_init_22 : decode cX3_init 22 = .ok (.aload_n 0, 1) := by decide +kernel
theorem dX3_init_23 : decode cX3_init 23 = .ok (.sipush 480, 3) := by decide +kernel
theorem dX3_init_26 : decode cX3_init 26 = .ok (.newarray .int, 2) := by decide +kernel
theorem dX3_init_28 : decode cX3_init 28 = .ok (.putfield 19, 3) := by decide +kernel
theorem dX3_init_31 : decode cX3_init 31 = .ok (.iconst 0, 1) := by decide +kernel
theorem dX3_init_32 : decode cX3_init 32 = .ok (.istore_n 1, 1) := by decide +kernel
theorem dX3_init_33 : decode cX3_init 33 = .ok (.iload_n 1, 1) := by decide +kernel
theorem dX3_init_34 : decode cX3_init 34 = .ok (.sipush 480, 3) := by decide +kernel
theorem dX3_init_37 : decode cX3_init 37 = .ok (.if_icmp .ge 24, 3) := by decide +kernel
theorem dX3_init_40 : decode cX3_init 40 = .ok (.aload_n 0, 1) := by decide +kernel
theorem dX3_init_41 : decode cX3_init 41 = .ok (.getfield 9, 3) := by decide +kernel
theorem dX3_init_44 : decode cX3_init 44 = .ok (.iload_n 1, 1) := by decide +kernel
theorem dX3_init_45 : decode cX3_init 45 = .ok (.bipush 10, 2) := by decide +kernel
theorem dX3_init_47 : decode cX3_init 47 = .ok (.iastore, 1) := by decide +kernel
theorem dX3_init_48 : decode cX3_init 48 = .ok (.aload_n 0, 1) := by decide +kernel
theorem dX3_init_49 : decode cX3_init 49 = .ok (.getfield 19, 3) := by decide +kernel
theorem dX3_init_52 : decode cX3_init 52 = .ok (.iload_n 1, 1) := by decide +kernel
theorem dX3_init_53 : decode cX3_init 53 = .ok (.iconst (-1), 1) := by decide +kernel
theorem dX3_init_54 : decode cX3_init 54 = .ok (.iastore, 1) := by decide +kernel
theorem dX3_init_55 : decode cX3_init 55 = .ok (.iinc 1 1, 3) := by decide +kernel
theorem dX3_init_58 : decode cX3_init 58 = .ok (.goto (-25), 3) := by decide +kernel
theorem dX3_init_61 : decode cX3_init 61 = .ok (.return_, 1) := by decide +kernel
theorem dX3_tellWind_0 : decode cX3_tellWind 0 = .ok (.iload_n 1, 1) := by decide +kernel
theorem dX3_tellWind_1 : decode cX3_tellWind 1 = .ok (.istore 5, 2) := by decide +kernel
theorem dX3_tellWind_3 : decode cX3_tellWind 3 = .ok (.iload 5, 2) := by decide +kernel
theorem dX3_tellWind_5 : decode cX3_tellWind 5 = .ok (.iload_n 2, 1) := by decide +kernel
theorem dX3_tellWind_6 : decode cX3_tellWind 6 = .ok (.if_icmp .gt 26, 3) := by decide +kernel
theorem dX3_tellWind_9 : decode cX3_tellWind 9 = .ok (.aload_n 0, 1) := by decide +kernel
theorem dX3_tellWind_10 : decode cX3_tellWind 10 = .ok (.getfield 9, 3) := by decide +kernel
theorem dX3_tellWind_13 : decode cX3_tellWind 13 = .ok (.iload 5, 2) := by decide +kernel
theorem dX3_tellWind_15 : decode cX3_tellWind 15 = .ok (.iload_n 3, 1) := by decide +kernel
theorem dX3_tellWind_16 : decode cX3_tellWind 16 = .ok (.iastore, 1) := by decide +kernel
theorem dX3_tellWind_17 : decode cX3_tellWind 17 = .ok (.aload_n 0, 1) := by decide +kernel
theorem dX3_tellWind_18 : decode cX3_tellWind 18 = .ok (.getfield 15, 3) := by decide +kernel
theorem dX3_tellWind_21 : decode cX3_tellWind 21 = .ok (.iload 5, 2) := by decide +kernel
theorem dX3_tellWind_23 : decode cX3_tellWind 23 = .ok (.iload 4, 2) := by decide +kernel
theorem dX3_tellWind_25 : decode cX3_tellWind 25 = .ok (.bastore, 1) := by decide +kernel
theorem dX3_tellWind_26 : decode cX3_tellWind 26 = .ok (.iinc 5 1, 3) := by decide +kernel
theorem dX3_tellWind_29 : decode cX3_tellWind 29 = .ok (.goto (-26), 3) := by decide +kernel
theorem dX3_tellWind_32 : decode cX3_tellWind 32 = .ok (.return_, 1) := by decide +kernel
theorem dX3_tellWaves_0 : decode cX3_tellWaves 0 = .ok (.aload_n 0, 1) := by decide +kernel
theorem dX3_tellWaves_1 : decode cX3_tellWaves 1 = .ok (.getfield 19, 3) := by decide +kernel
theorem dX3_tellWaves_4 : decode cX3_tellWaves 4 = .ok (.iload_n 1, 1) := by decide +kernel
theorem dX3_tellWaves_5 : decode cX3_tellWaves 5 = .ok (.iload_n 2, 1) := by decide +kernel
theorem dX3_tellWaves_6 : decode cX3_tellWaves 6 = .ok (.iastore, 1) := by decide +kernel
theorem dX3_tellWaves_7 : decode cX3_tellWaves 7 = .ok (.return_, 1) := by decide +kernel
theorem dX3_speedIn_0 : decode cX3_speedIn 0 = .ok (.aload_n 0, 1) := by decide +kernel
theorem dX3_speedIn_1 : decode cX3_speedIn 1 = .ok (.getfield 9, 3) := by decide +kernel
theorem dX3_speedIn_4 : decode cX3_speedIn 4 = .ok (.iload_n 1, 1) := by decide +kernel
theorem dX3_speedIn_5 : decode cX3_speedIn 5 = .ok (.iaload, 1) := by decide +kernel
theorem dX3_speedIn_6 : decode cX3_speedIn 6 = .ok (.ireturn, 1) := by decide +kernel
theorem dX3_isWestIn_0 : decode cX3_isWestIn 0 = .ok (.aload_n 0, 1) := by decide +kernel
theorem dX3_isWestIn_1 : decode cX3_isWestIn 1 = .ok (.getfield 15, 3) := by decide +kernel
theorem dX3_isWestIn_4 : decode cX3_isWestIn 4 = .ok (.iload_n 1, 1) := by decide +kernel
theorem dX3_isWestIn_5 : decode cX3_isWestIn 5 = .ok (.baload, 1) := by decide +kernel
theorem dX3_isWestIn_6 : decode cX3_isWestIn 6 = .ok (.ireturn, 1) := by decide +kernel
theorem dX3_wavesIn_0 : decode cX3_wavesIn 0 = .ok (.aload_n 0, 1) := by decide +kernel
theorem dX3_wavesIn_1 : decode cX3_wavesIn 1 = .ok (.getfield 19, 3) := by decide +kernel
theorem dX3_wavesIn_4 : decode cX3_wavesIn 4 = .ok (.iload_n 1, 1) := by decide +kernel
theorem dX3_wavesIn_5 : decode cX3_wavesIn 5 = .ok (.iaload, 1) := by decide +kernel
theorem dX3_wavesIn_6 : decode cX3_wavesIn 6 = .ok (.iconst (-1), 1) := by decide +kernel
theorem dX3_wavesIn_7 : decode cX3_wavesIn 7 = .ok (.if_icmp .ne 14, 3) := by decide +kernel
theorem dX3_wavesIn_10 : decode cX3_wavesIn 10 = .ok (.aload_n 0, 1) := by decide +kernel
theorem dX3_wavesIn_11 : decode cX3_wavesIn 11 = .ok (.getfield 9, 3) := by decide +kernel
theorem dX3_wavesIn_14 : decode cX3_wavesIn 14 = .ok (.iload_n 1, 1) := by decide +kernel
theorem dX3_wavesIn_15 : decode cX3_wavesIn 15 = .ok (.iaload, 1) := by decide +kernel
theorem dX3_wavesIn_16 : decode cX3_wavesIn 16 = .ok (.iconst 3, 1) := by decide +kernel
theorem dX3_wavesIn_17 : decode cX3_wavesIn 17 = .ok (.idiv, 1) := by decide +kernel
theorem dX3_wavesIn_18 : decode cX3_wavesIn 18 = .ok (.goto 9, 3) := by decide +kernel
theorem dX3_wavesIn_21 : decode cX3_wavesIn 21 = .ok (.aload_n 0, 1) := by decide +kernel
theorem dX3_wavesIn_22 : decode cX3_wavesIn 22 = .ok (.getfield 19, 3) := by decide +kernel
theorem dX3_wavesIn_25 : decode cX3_wavesIn 25 = .ok (.iload_n 1, 1) := by decide +kernel
theorem dX3_wavesIn_26 : decode cX3_wavesIn 26 = .ok (.iaload, 1) := by decide +kernel
theorem dX3_wavesIn_27 : decode cX3_wavesIn 27 = .ok (.ireturn, 1) := by decide +kernel
set_option maxRecDepth 20000 in
theorem ggX4_init_X3_init : GoodIn wsX4_init wsX3_init := goodIn_r _ [23, 24, 2, 3, 25, 26, 27, 28, 29, 55, 56, 57] (by decide +kernel) (by decide +kernel)
set_option maxRecDepth 20000 in
theorem gX4_init_X3_init : GoodIn wsX4_init (wsX3_init) := ggX4_init_X3_init
set_option maxRecDepth 20000 in
theorem ggX4_init_X0_init : GoodIn wsX4_init wsX0_init := goodIn_r _ [32, 33, 2, 3, 25, 34, 35, 27, 36, 37, 38, 63, 64, 65, 66, 67, 68, 69] (by decide +kernel) (by decide +kernel)
set_option maxRecDepth 20000 in
theorem gX4_init_X0_init : GoodIn wsX4_init (wsX0_init) := ggX4_init_X0_init
set_option maxRecDepth 20000 in
theorem ggX4_init_X1_init : GoodIn wsX4_init wsX1_init := goodIn_r _ [41, 42, 2, 3, 25, 43, 44, 45, 46, 47, 70, 71, 72, 73, 74] (by decide +kernel) (by decide +kernel)
set_option maxRecDepth 20000 in
theorem gX4_init_X1_init : GoodIn wsX4_init (wsX1_init) := ggX4_init_X1_init
set_option maxRecDepth 20000 in
theorem ggX4_init_X2_init : GoodIn wsX4_init wsX2_init := goodIn_r _ [50, 51, 2, 3, 25, 52, 53, 54, 75, 76, 77, 78] (by decide +kernel) (by decide +kernel)
set_option maxRecDepth 20000 in
theorem gX4_init_X2_init : GoodIn wsX4_init (wsX2_init) := ggX4_init_X2_init
end
section
/-! printed: names, fields, word lists, decode rows (out of claim/NAMES.whole.lean.txt) -/
theorem dX4_init_0 : decode cX4_init 0 = .ok (.aload_n 0, 1) := by decide +kernel
theorem dX4_init_1 : decode cX4_init 1 = .ok (.invokespecial 3, 3) := by decide +kernel
theorem dX4_init_4 : decode cX4_init 4 = .ok (.aload_n 0, 1) := by decide +kernel
theorem dX4_init_5 : decode cX4_init 5 = .ok (.new 9, 3) := by decide +kernel
theorem dX4_init_8 : decode cX4_init 8 = .ok (.dup, 1) := by decide +kernel
theorem dX4_init_9 : decode cX4_init 9 = .ok (.invokespecial 11, 3) := by decide +kernel
theorem dX4_init_12 : decode cX4_init 12 = .ok (.putfield 12, 3) := by decide +kernel
theorem dX4_init_15 : decode cX4_init 15 = .ok (.aload_n 0, 1) := by decide +kernel
theorem dX4_init_16 : decode cX4_init 16 = .ok (.new 16, 3) := by decide +kernel
theorem dX4_init_19 : decode cX4_init 19 = .ok (.dup, 1) := by decide +kernel
theorem dX4_init_20 : decode cX4_init 20 = .ok (.invokespecial 18, 3) := by decide +kernel
theorem dX4_init_23 : decode cX4_init 23 = .ok (.putfield 19, 3) := by decide +kernel
theorem dX4_init_26 : decode cX4_init 26 = .ok (.aload_n 0, 1) := by decide +kernel
theorem dX4_init_27 : decode cX4_init 27 = .ok (.new 23, 3) := by decide +kernel
theorem dX4_init_30 : decode cX4_init 30 = .ok (.dup, 1) := by decide +kernel
theorem dX4_init_31 : decode cX4_init 31 = .ok (.invokespecial 25, 3) := by decide +kernel
theorem dX4_init_34 : decode cX4_init 34 = .ok (.putfield 26, 3) := by decide +kernel
theorem dX4_init_37 : decode cX4_init 37 = .ok (.aload_n 0, 1) := by decide +kernel
theorem dX4_init_38 : decode cX4_init 38 = .ok (.new 30, 3) := by decide +kernel
theorem dX4_init_41 : decode cX4_init 41 = .ok (.dup, 1) := by decide +kernel
theorem dX4_init_42 : decode cX4_init 42 = .ok (.invokespecial 32, 3) := by decide +kernel
theorem dX4_init_45 : decode cX4_init 45 = .ok (.putfield 33, 3) := by decide +kernel
theorem dX4_init_48 : decode cX4_init 48 = .ok (.aload_n 0, 1) := by decide +kernel
theorem dX4_init_49 : decode cX4_init 49 = .ok (.iconst 0, 1) := by decide +kernel
theorem dX4_init_50 : decode cX4_init 50 = .ok (.putfield 37, 3) := by decide +kernel
theorem dX4_init_53 : decode cX4_init 53 = .ok (.return_, 1) := by decide +kernel
set_option maxRecDepth 20000 in
theorem ggX4_turbine_X4_isWithin : GoodIn wsX4_turbine wsX4_isWithin := goodIn_r _ [9] (by decide +kernel) (by decide +kernel)
set_option maxRecDepth 20000 in
theorem gX4_turbine_X4_isWithin : GoodIn wsX4_turbine (va_wsS RX4 41 yX4_isWithin wsX4_isWithin) := goodIn_app (goodIn_of _ (by decide +kernel)) ggX4_turbine_X4_isWithin
set_option maxRecDepth 20000 in
theorem ggX4_turbine_X0_hasRoomAt : GoodIn wsX4_turbine wsX0_hasRoomAt := goodIn_r _ [14, 15, 16, 27, 28, 29, 30, 31, 32, 33] (by decide +kernel) (by decide +kernel)
set_option maxRecDepth 20000 in
theorem gX4_turbine_X0_hasRoomAt : GoodIn wsX4_turbine (wsV RX4 52 RX0 yX0_hasRoomAt wsX0_hasRoomAt) := goodIn_app (goodIn_of _ (by decide +kernel)) ggX4_turbine_X0_hasRoomAt
set_option maxRecDepth 20000 in
theorem ggX4_turbine_X0_build : GoodIn wsX4_turbine wsX0_build := goodIn_r _ [20, 16, 15, 21, 27, 28, 29, 30, 31, 32, 33] (by decide +kernel) (by decide +kernel)
set_option maxRecDepth 20000 in
theorem gX4_turbine_X0_build : GoodIn wsX4_turbine (wsV RX4 61 RX0 yX0_build wsX0_build) := goodIn_app (goodIn_of _ (by decide +kernel)) ggX4_turbine_X0_build
theorem dX4_turbine_0 : decode cX4_turbine 0 = .ok (.iload_n 1, 1) := by decide +kernel
theorem dX4_turbine_1 : decode cX4_turbine 1 = .ok (.iconst 0, 1) := by decide +kernel
theorem dX4_turbine_2 : decode cX4_turbine 2 = .ok (.bipush 23, 2) := by decide +kernel
theorem dX4_turbine_4 : decode cX4_turbine 4 = .ok (.invokestatic 41, 3) := by decide +kernel
theorem dX4_turbine_7 : decode cX4_turbine 7 = .ok (.ifCond .ne 13, 3) := by decide +kernel
theorem dX4_turbine_10 : decode cX4_turbine 10 = .ok (.new 45, 3) := by decide +kernel
theorem dX4_turbine_13 : decode cX4_turbine 13 = .ok (.dup, 1) := by decide +kernel
theorem dX4_turbine_14 : decode cX4_turbine 14 = .ok (.ldc 47, 2) := by decide +kernel
theorem dX4_turbine_16 : decode cX4_turbine 16 = .ok (.invokespecial 49, 3) := by decide +kernel
theorem dX4_turbine_19 : decode cX4_turbine 19 = .ok (.athrow, 1) := by decide +kernel
theorem dX4_turbine_20 : decode cX4_turbine 20 = .ok (.aload_n 0, 1) := by decide +kernel
theorem dX4_turbine_21 : decode cX4_turbine 21 = .ok (.getfield 19, 3) := by decide +kernel
theorem dX4_turbine_24 : decode cX4_turbine 24 = .ok (.iload_n 1, 1) := by decide +kernel
theorem dX4_turbine_25 : decode cX4_turbine 25 = .ok (.invokevirtual 52, 3) := by decide +kernel
theorem dX4_turbine_28 : decode cX4_turbine 28 = .ok (.ifCond .ne 13, 3) := by decide +kernel
theorem dX4_turbine_31 : decode cX4_turbine 31 = .ok (.new 56, 3) := by decide +kernel
theorem dX4_turbine_34 : decode cX4_turbine 34 = .ok (.dup, 1) := by decide +kernel
theorem dX4_turbine_35 : decode cX4_turbine 35 = .ok (.ldc 58, 2) := by decide +kernel
theorem dX4_turbine_37 : decode cX4_turbine 37 = .ok (.invokespecial 60, 3) := by decide +kernel
theorem dX4_turbine_40 : decode cX4_turbine 40 = .ok (.athrow, 1) := by decide +kernel
theorem dX4_turbine_41 : decode cX4_turbine 41 = .ok (.aload_n 0, 1) := by decide +kernel
theorem dX4_turbine_42 : decode cX4_turbine 42 = .ok (.getfield 19, 3) := by decide +kernel
theorem dX4_turbine_45 : decode cX4_turbine 45 = .ok (.iload_n 1, 1) := by decide +kernel
theorem dX4_turbine_46 : decode cX4_turbine 46 = .ok (.invokevirtual 61, 3) := by decide +kernel
theorem dX4_turbine_49 : decode cX4_turbine 49 = .ok (.ireturn, 1) := by decide +kernel
set_option maxRecDepth 20000 in
theorem ggX4_wind_X4_isToCome : GoodIn wsX4_wind wsX4_isToCome := goodIn_r _ [8, 9, 10, 11, 7, 12, 20, 21, 22, 23, 24] (by decide +kernel) (by decide +kernel)
set_option maxRecDepth 20000 in
theorem gX4_wind_X4_isToCome : GoodIn wsX4_wind (wsV RX4 65 RX4 yX4_isToCome wsX4_isToCome) := goodIn_app (goodIn_of _ (by decide +kernel)) ggX4_wind_X4_isToCome
set_option maxRecDepth 20000 in
theorem ggX4_wind_X4_isWithin : GoodIn wsX4_wind wsX4_isWithin := goodIn_r _ [12] (by decide +kernel) (by decide +kernel)
set_option maxRecDepth 20000 in
theorem gX4_wind_X4_isWithin : GoodIn wsX4_wind (va_wsS RX4 41 yX4_isWithin wsX4_isWithin) := goodIn_app (goodIn_of _ (by decide +kernel)) ggX4_wind_X4_isWithin
set_option maxRecDepth 20000 in
theorem ggX4_wind_X3_tellWind : GoodIn wsX4_wind wsX3_tellWind := goodIn_r _ [17, 18, 19, 25, 26, 27] (by decide +kernel) (by decide +kernel)
set_option maxRecDepth 20000 in
theorem gX4_wind_X3_tellWind : GoodIn wsX4_wind (wsV RX4 73 RX3 yX3_tellWind wsX3_tellWind) := goodIn_app (goodIn_of _ (by decide +kernel)) ggX4_wind_X3_tellWind
theorem dX4_wind_0 : decode cX4_wind 0 = .ok (.aload_n 0, 1) := by decide +kernel
theorem dX4_wind_1 : decode cX4_wind 1 = .ok (.iload_n 1, 1) := by decide +kernel
theorem dX4_wind_2 : decode cX4_wind 2 = .ok (.invokevirtual 65, 3) := by decide +kernel
theorem dX4_wind_5 : decode cX4_wind 5 = .ok (.ifCond .eq 24, 3) := by decide +kernel
theorem dX4_wind_8 : decode cX4_wind 8 = .ok (.iload_n 2, 1) := by decide +kernel
theorem dX4_wind_9 : decode cX4_wind 9 = .ok (.iload_n 1, 1) := by decide +kernel
theorem dX4_wind_10 : decode cX4_wind 10 = .ok (.sipush 479, 3) := by decide +kernel
theorem dX4_wind_13 : decode cX4_wind 13 = .ok (.invokestatic 41, 3) := by decide +kernel
theorem dX4_wind_16 : decode cX4_wind 16 = .ok (.ifCond .eq 13, 3) := by decide +kernel
theorem dX4_wind_19 : decode cX4_wind 19 = .ok (.iload_n 3, 1) := by decide +kernel
theorem dX4_wind_20 : decode cX4_wind 20 = .ok (.iconst 0, 1) := by decide +kernel
theorem dX4_wind_21 : decode cX4_wind 21 = .ok (.bipush 40, 2) := by decide +kernel
theorem dX4_wind_23 : decode cX4_wind 23 = .ok (.invokestatic 41, 3) := by decide +kernel
theorem dX4_wind_26 : decode cX4_wind 26 = .ok (.ifCond .ne 13, 3) := by decide +kernel
theorem dX4_wind_29 : decode cX4_wind 29 = .ok (.new 68, 3) := by decide +kernel
theorem dX4_wind_32 : decode cX4_wind 32 = .ok (.dup, 1) := by decide +kernel
theorem dX4_wind_33 : decode cX4_wind 33 = .ok (.ldc 70, 2) := by decide +kernel
theorem dX4_wind_35 : decode cX4_wind 35 = .ok (.invokespecial 72, 3) := by decide +kernel
theorem dX4_wind_38 : decode cX4_wind 38 = .ok (.athrow, 1) := by decide +kernel
theorem dX4_wind_39 : decode cX4_wind 39 = .ok (.aload_n 0, 1) := by decide +kernel
theorem dX4_wind_40 : decode cX4_wind 40 = .ok (.getfield 12, 3) := by decide +kernel
theorem dX4_wind_43 : decode cX4_wind 43 = .ok (.iload_n 1, 1) := by decide +kernel
theorem dX4_wind_44 : decode cX4_wind 44 = .ok (.iload_n 2, 1) := by decide +kernel
theorem dX4_wind_45 : decode cX4_wind 45 = .ok (.iload_n 3, 1) := by decide +kernel
theorem dX4_wind_46 : decode cX4_wind 46 = .ok (.iload 4, 2) := by decide +kernel
theorem dX4_wind_48 : decode cX4_wind 48 = .ok (.invokevirtual 73, 3) := by decide +kernel
theorem dX4_wind_51 : decode cX4_wind 51 = .ok (.iload_n 2, 1) := by decide +kernel
theorem dX4_wind_52 : decode cX4_wind 52 = .ok (.iload_n 1, 1) := by decide +kernel
theorem dX4_wind_53 : decode cX4_wind 53 = .ok (.isub, 1) := by decide +kernel
theorem dX4_wind_54 : decode cX4_wind 54 = .ok (.iconst 1, 1) := by decide +kernel
theorem dX4_wind_55 : decode cX4_wind 55 = .ok (.iadd, 1) := by decide +kernel
theorem dX4_wind_56 : decode cX4_wind 56 = .ok (.ireturn, 1) := by decide +kernel
set_option maxRecDepth 20000 in
theorem ggX4_waves_X4_isToCome : GoodIn wsX4_waves wsX4_isToCome := goodIn_r _ [8, 9, 10, 11, 7, 12, 24, 25, 26, 27, 28] (by decide +kernel) (by decide +kernel)
set_option maxRecDepth 20000 in
theorem gX4_waves_X4_isToCome : GoodIn wsX4_waves (wsV RX4 65 RX4 yX4_isToCome wsX4_isToCome) := goodIn_app (goodIn_of _ (by decide +kernel)) ggX4_waves_X4_isToCome
set_option maxRecDepth 20000 in
theorem ggX4_waves_X4_isWithin : GoodIn wsX4_waves wsX4_isWithin := goodIn_r _ [12] (by decide +kernel) (by decide +kernel)
set_option maxRecDepth 20000 in
theorem gX4_waves_X4_isWithin : GoodIn wsX4_waves (va_wsS RX4 41 yX4_isWithin wsX4_isWithin) := goodIn_app (goodIn_of _ (by decide +kernel)) ggX4_waves_X4_isWithin
set_option maxRecDepth 20000 in
theorem ggX4_waves_X3_wavesIn : GoodIn wsX4_waves wsX3_wavesIn := goodIn_r _ [17, 18, 19, 29, 30, 31] (by decide +kernel) (by decide +kernel)
set_option maxRecDepth 20000 in
theorem gX4_waves_X3_wavesIn : GoodIn wsX4_waves (wsV RX4 79 RX3 yX3_wavesIn wsX3_wavesIn) := goodIn_app (goodIn_of _ (by decide +kernel)) ggX4_waves_X3_wavesIn
set_option maxRecDepth 20000 in
theorem ggX4_waves_X3_tellWaves : GoodIn wsX4_waves wsX3_tellWaves := goodIn_r _ [23, 18, 29, 30, 31] (by decide +kernel) (by decide +kernel)
set_option maxRecDepth 20000 in
theorem gX4_waves_X3_tellWaves : GoodIn wsX4_waves (wsV RX4 82 RX3 yX3_tellWaves wsX3_tellWaves) := goodIn_app (goodIn_of _ (by decide +kernel)) ggX4_waves_X3_tellWaves
theorem dX4_waves_0 : decode cX4_waves 0 = .ok (.aload_n 0, 1) := by decide +kernel
theorem dX4_waves_1 : decode cX4_waves 1 = .ok (.iload_n 1, 1) := by decide +kernel
theorem dX4_waves_2 : decode cX4_waves 2 = .ok (.invokevirtual 65, 3) := by decide +kernel
theorem dX4_waves_5 : decode cX4_waves 5 = .ok (.ifCond .eq 13, 3) := by decide +kernel
theorem dX4_waves_8 : decode cX4_waves 8 = .ok (.iload_n 2, 1) := by decide +kernel
theorem dX4_waves_9 : decode cX4_waves 9 = .ok (.iconst 0, 1) := by decide +kernel
theorem dX4_waves_10 : decode cX4_waves 10 = .ok (.bipush 20, 2) := by decide +kernel
theorem dX4_waves_12 : decode cX4_waves 12 = .ok (.invokestatic 41, 3) := by decide +kernel
theorem dX4_waves_15 : decode cX4_waves 15 = .ok (.ifCond .ne 13, 3) := by decide +kernel
theorem dX4_waves_18 : decode cX4_waves 18 = .ok (.new 68, 3) := by decide +kernel
theorem dX4_waves_21 : decode cX4_waves 21 = .ok (.dup, 1) := by decide +kernel
theorem dX4_waves_22 : decode cX4_waves 22 = .ok (.ldc 77, 2) := by decide +kernel
theorem dX4_waves_24 : decode cX4_waves 24 = .ok (.invokespecial 72, 3) := by decide +kernel
theorem dX4_waves_27 : decode cX4_waves 27 = .ok (.athrow, 1) := by decide +kernel
theorem dX4_waves_28 : decode cX4_waves 28 = .ok (.aload_n 0, 1) := by decide +kernel
theorem dX4_waves_29 : decode cX4_waves 29 = .ok (.getfield 12, 3) := by decide +kernel
theorem dX4_waves_32 : decode cX4_waves 32 = .ok (.iload_n 1, 1) := by decide +kernel
theorem dX4_waves_33 : decode cX4_waves 33 = .ok (.invokevirtual 79, 3) := by decide +kernel
theorem dX4_waves_36 : decode cX4_waves 36 = .ok (.istore_n 3, 1) := by decide +kernel
theorem dX4_waves_37 : decode cX4_waves 37 = .ok (.aload_n 0, 1) := by decide +kernel
theorem dX4_waves_38 : decode cX4_waves 38 = .ok (.getfield 12, 3) := by decide +kernel
theorem dX4_waves_41 : decode cX4_waves 41 = .ok (.iload_n 1, 1) := by decide +kernel
theorem dX4_waves_42 : decode cX4_waves 42 = .ok (.iload_n 2, 1) := by decide +kernel
theorem dX4_waves_43 : decode cX4_waves 43 = .ok (.invokevirtual 82, 3) := by decide +kernel
theorem dX4_waves_46 : decode cX4_waves 46 = .ok (.iload_n 3, 1) := by decide +kernel
theorem dX4_waves_47 : decode cX4_waves 47 = .ok (.ireturn, 1) := by decide +kernel
set_option maxRecDepth 20000 in
theorem ggX4_breaks_X0_has : GoodIn wsX4_breaks wsX0_has := goodIn_r _ [10, 11, 12, 13, 14, 34, 35, 36, 37, 38, 39, 40] (by decide +kernel) (by decide +kernel)
set_option maxRecDepth 20000 in
theorem gX4_breaks_X0_has : GoodIn wsX4_breaks (wsV RX4 86 RX0 yX0_has wsX0_has) := goodIn_app (goodIn_of _ (by decide +kernel)) ggX4_breaks_X0_has
set_option maxRecDepth 20000 in
theorem ggX4_breaks_X0_isBroken : GoodIn wsX4_breaks wsX0_isBroken := goodIn_r _ [18, 19, 34, 35, 36, 37, 38, 39, 40] (by decide +kernel) (by decide +kernel)
set_option maxRecDepth 20000 in
theorem gX4_breaks_X0_isBroken : GoodIn wsX4_breaks (wsV RX4 91 RX0 yX0_isBroken wsX0_isBroken) := goodIn_app (goodIn_of _ (by decide +kernel)) ggX4_breaks_X0_isBroken
set_option maxRecDepth 20000 in
theorem ggX4_breaks_X0_breakDown : GoodIn wsX4_breaks wsX0_breakDown := goodIn_r _ [23, 19, 24, 34, 35, 36, 37, 38, 39, 40] (by decide +kernel) (by decide +kernel)
set_option maxRecDepth 20000 in
theorem gX4_breaks_X0_breakDown : GoodIn wsX4_breaks (wsV RX4 96 RX0 yX0_breakDown wsX0_breakDown) := goodIn_app (goodIn_of _ (by decide +kernel)) ggX4_breaks_X0_breakDown
set_option maxRecDepth 20000 in
theorem ggX4_breaks_X0_countBroken : GoodIn wsX4_breaks wsX0_countBroken := goodIn_r _ [28, 24, 34, 35, 36, 37, 38, 39, 40] (by decide +kernel) (by decide +kernel)
set_option maxRecDepth 20000 in
theorem gX4_breaks_X0_countBroken : GoodIn wsX4_breaks (wsV RX4 100 RX0 yX0_countBroken wsX0_countBroken) := goodIn_app (goodIn_of _ (by decide +kernel)) ggX4_breaks_X0_countBroken
theorem dX4_breaks_0 : decode cX4_breaks 0 = .ok (.aload_n 0, 1) := by decide +kernel
theorem dX4_breaks_1 : decode cX4_breaks 1 = .ok (.getfield 19, 3) := by decide +kernel
theorem dX4_breaks_4 : decode cX4_breaks 4 = .ok (.iload_n 1, 1) := by decide +kernel
theorem dX4_breaks_5 : decode cX4_breaks 5 = .ok (.invokevirtual 86, 3) := by decide +kernel
theorem dX4_breaks_8 : decode cX4_breaks 8 = .ok (.ifCond .ne 13, 3) := by decide +kernel
theorem dX4_breaks_11 : decode cX4_breaks 11 = .ok (.new 45, 3) := by decide +kernel
theorem dX4_breaks_14 : decode cX4_breaks 14 = .ok (.dup, 1) := by decide +kernel
theorem dX4_breaks_15 : decode cX4_breaks 15 = .ok (.ldc 89, 2) := by decide +kernel
theorem dX4_breaks_17 : decode cX4_breaks 17 = .ok (.invokespecial 49, 3) := by decide +kernel
theorem dX4_breaks_20 : decode cX4_breaks 20 = .ok (.athrow, 1) := by decide +kernel
theorem dX4_breaks_21 : decode cX4_breaks 21 = .ok (.aload_n 0, 1) := by decide +kernel
theorem dX4_breaks_22 : decode cX4_breaks 22 = .ok (.getfield 19, 3) := by decide +kernel
theorem dX4_breaks_25 : decode cX4_breaks 25 = .ok (.iload_n 1, 1) := by decide +kernel
theorem dX4_breaks_26 : decode cX4_breaks 26 = .ok (.invokevirtual 91, 3) := by decide +kernel
theorem dX4_breaks_29 : decode cX4_breaks 29 = .ok (.ifCond .eq 13, 3) := by decide +kernel
theorem dX4_breaks_32 : decode cX4_breaks 32 = .ok (.new 56, 3) := by decide +kernel
theorem dX4_breaks_35 : decode cX4_breaks 35 = .ok (.dup, 1) := by decide +kernel
theorem dX4_breaks_36 : decode cX4_breaks 36 = .ok (.ldc 94, 2) := by decide +kernel
theorem dX4_breaks_38 : decode cX4_breaks 38 = .ok (.invokespecial 60, 3) := by decide +kernel
theorem dX4_breaks_41 : decode cX4_breaks 41 = .ok (.athrow, 1) := by decide +kernel
theorem dX4_breaks_42 : decode cX4_breaks 42 = .ok (.aload_n 0, 1) := by decide +kernel
theorem dX4_breaks_43 : decode cX4_breaks 43 = .ok (.getfield 19, 3) := by decide +kernel
theorem dX4_breaks_46 : decode cX4_breaks 46 = .ok (.iload_n 1, 1) := by decide +kernel
theorem dX4_breaks_47 : decode cX4_breaks 47 = .ok (.invokevirtual 96, 3) := by decide +kernel
theorem dX4_breaks_50 : decode cX4_breaks 50 = .ok (.aload_n 0, 1) := by decide +kernel
theorem dX4_breaks_51 : decode cX4_breaks 51 = .ok (.getfield 19, 3) := by decide +kernel
theorem dX4_breaks_54 : decode cX4_breaks 54 = .ok (.invokevirtual 100, 3) := by decide +kernel
theorem dX4_breaks_57 : decode cX4_breaks 57 = .ok (.ireturn, 1) := by decide +kernel
set_option maxRecDepth 20000 in
theorem ggX4_crew_X4_isBoat : GoodIn wsX4_crew wsX4_isBoat := goodIn_r _ [9, 10, 11, 8, 12] (by decide +kernel) (by decide +kernel)
set_option maxRecDepth 20000 in
theorem gX4_crew_X4_isBoat : GoodIn wsX4_crew (va_wsS RX4 104 yX4_isBoat wsX4_isBoat) := goodIn_app (goodIn_of _ (by decide +kernel)) ggX4_crew_X4_isBoat
set_option maxRecDepth 20000 in
theorem ggX4_crew_X4_isWithin : GoodIn wsX4_crew wsX4_isWithin := goodIn_r _ [12] (by decide +kernel) (by decide +kernel)
set_option maxRecDepth 20000 in
theorem gX4_crew_X4_isWithin : GoodIn wsX4_crew (va_wsS RX4 41 yX4_isWithin wsX4_isWithin) := goodIn_app (goodIn_of _ (by decide +kernel)) ggX4_crew_X4_isWithin
set_option maxRecDepth 20000 in
theorem ggX4_crew_X1_crewHours : GoodIn wsX4_crew wsX1_crewHours := goodIn_r _ [17, 18, 28, 29, 30, 31, 32] (by decide +kernel) (by decide +kernel)
set_option maxRecDepth 20000 in
theorem gX4_crew_X1_crewHours : GoodIn wsX4_crew (wsV RX4 111 RX1 yX1_crewHours wsX1_crewHours) := goodIn_app (goodIn_of _ (by decide +kernel)) ggX4_crew_X1_crewHours
set_option maxRecDepth 20000 in
theorem ggX4_crew_X1_setCrewHours : GoodIn wsX4_crew wsX1_setCrewHours := goodIn_r _ [22, 18, 28, 29, 30, 31, 32] (by decide +kernel) (by decide +kernel)
set_option maxRecDepth 20000 in
theorem gX4_crew_X1_setCrewHours : GoodIn wsX4_crew (wsV RX4 114 RX1 yX1_setCrewHours wsX1_setCrewHours) := goodIn_app (goodIn_of _ (by decide +kernel)) ggX4_crew_X1_setCrewHours
theorem dX4_crew_0 : decode cX4_crew 0 = .ok (.iload_n 1, 1) := by decide +kernel
theorem dX4_crew_1 : decode cX4_crew 1 = .ok (.invokestatic 104, 3) := by decide +kernel
theorem dX4_crew_4 : decode cX4_crew 4 = .ok (.ifCond .ne 13, 3) := by decide +kernel
theorem dX4_crew_7 : decode cX4_crew 7 = .ok (.new 45, 3) := by decide +kernel
theorem dX4_crew_10 : decode cX4_crew 10 = .ok (.dup, 1) := by decide +kernel
theorem dX4_crew_11 : decode cX4_crew 11 = .ok (.ldc 107, 2) := by decide +kernel
theorem dX4_crew_13 : decode cX4_crew 13 = .ok (.invokespecial 49, 3) := by decide +kernel
theorem dX4_crew_16 : decode cX4_crew 16 = .ok (.athrow, 1) := by decide +kernel
theorem dX4_crew_17 : decode cX4_crew 17 = .ok (.iload_n 2, 1) := by decide +kernel
theorem dX4_crew_18 : decode cX4_crew 18 = .ok (.iconst 0, 1) := by decide +kernel
theorem dX4_crew_19 : decode cX4_crew 19 = .ok (.bipush 24, 2) := by decide +kernel
theorem dX4_crew_21 : decode cX4_crew 21 = .ok (.invokestatic 41, 3) := by decide +kernel
theorem dX4_crew_24 : decode cX4_crew 24 = .ok (.ifCond .ne 13, 3) := by decide +kernel
theorem dX4_crew_27 : decode cX4_crew 27 = .ok (.new 68, 3) := by decide +kernel
theorem dX4_crew_30 : decode cX4_crew 30 = .ok (.dup, 1) := by decide +kernel
theorem dX4_crew_31 : decode cX4_crew 31 = .ok (.ldc 109, 2) := by decide +kernel
theorem dX4_crew_33 : decode cX4_crew 33 = .ok (.invokespecial 72, 3) := by decide +kernel
theorem dX4_crew_36 : decode cX4_crew 36 = .ok (.athrow, 1) := by decide +kernel
theorem dX4_crew_37 : decode cX4_crew 37 = .ok (.aload_n 0, 1) := by decide +kernel
theorem dX4_crew_38 : decode cX4_crew 38 = .ok (.getfield 26, 3) := by decide +kernel
theorem dX4_crew_41 : decode cX4_crew 41 = .ok (.iload_n 1, 1) := by decide +kernel
theorem dX4_crew_42 : decode cX4_crew 42 = .ok (.invokevirtual 111, 3) := by decide +kernel
theorem dX4_crew_45 : decode cX4_crew 45 = .ok (.istore_n 3, 1) := by decide +kernel
theorem dX4_crew_46 : decode cX4_crew 46 = .ok (.aload_n 0, 1) := by decide +kernel
theorem dX4_crew_47 : decode cX4_crew 47 = .ok (.getfield 26, 3) := by decide +kernel
theorem dX4_crew_50 : decode cX4_crew 50 = .ok (.iload_n 1, 1) := by decide +kernel
theorem dX4_crew_51 : decode cX4_crew 51 = .ok (.iload_n 2, 1) := by decide +kernel
theorem dX4_crew_52 : decode cX4_crew 52 = .ok (.invokevirtual 114, 3) := by decide +kernel
theorem dX4_crew_55 : decode cX4_crew 55 = .ok (.iload_n 3, 1) := by decide +kernel
theorem dX4_crew_56 : decode cX4_crew 56 = .ok (.ireturn, 1) := by decide +kernel
set_option maxRecDepth 20000 in
theorem ggX4_repair_X4_isBoat : GoodIn wsX4_repair wsX4_isBoat := goodIn_r _ [12, 13, 14, 11, 15] (by decide +kernel) (by decide +kernel)
set_option maxRecDepth 20000 in
theorem gX4_repair_X4_isBoat : GoodIn wsX4_repair (va_wsS RX4 104 yX4_isBoat wsX4_isBoat) := goodIn_app (goodIn_of _ (by decide +kernel)) ggX4_repair_X4_isBoat
set_option maxRecDepth 20000 in
theorem ggX4_repair_X0_has : GoodIn wsX4_repair wsX0_has := goodIn_r _ [20, 21, 14, 11, 15, 47, 48, 49, 50, 51, 52, 53] (by decide +kernel) (by decide +kernel)
set_option maxRecDepth 20000 in
theorem gX4_repair_X0_has : GoodIn wsX4_repair (wsV RX4 86 RX0 yX0_has wsX0_has) := goodIn_app (goodIn_of _ (by decide +kernel)) ggX4_repair_X0_has
set_option maxRecDepth 20000 in
theorem ggX4_repair_X4_isWithin : GoodIn wsX4_repair wsX4_isWithin := goodIn_r _ [15] (by decide +kernel) (by decide +kernel)
set_option maxRecDepth 20000 in
theorem gX4_repair_X4_isWithin : GoodIn wsX4_repair (va_wsS RX4 41 yX4_isWithin wsX4_isWithin) := goodIn_app (goodIn_of _ (by decide +kernel)) ggX4_repair_X4_isWithin
set_option maxRecDepth 20000 in
theorem ggX4_repair_X1_isFree : GoodIn wsX4_repair wsX1_isFree := goodIn_r _ [26, 27, 54, 55, 56, 57, 58] (by decide +kernel) (by decide +kernel)
set_option maxRecDepth 20000 in
theorem gX4_repair_X1_isFree : GoodIn wsX4_repair (wsV RX4 119 RX1 yX1_isFree wsX1_isFree) := goodIn_app (goodIn_of _ (by decide +kernel)) ggX4_repair_X1_isFree
set_option maxRecDepth 20000 in
theorem ggX4_repair_X0_isBroken : GoodIn wsX4_repair wsX0_isBroken := goodIn_r _ [31, 32, 47, 48, 49, 50, 51, 52, 53] (by decide +kernel) (by decide +kernel)
set_option maxRecDepth 20000 in
theorem gX4_repair_X0_isBroken : GoodIn wsX4_repair (wsV RX4 91 RX0 yX0_isBroken wsX0_isBroken) := goodIn_app (goodIn_of _ (by decide +kernel)) ggX4_repair_X0_isBroken
set_option maxRecDepth 20000 in
theorem ggX4_repair_X1_isAtWorkOn : GoodIn wsX4_repair wsX1_isAtWorkOn := goodIn_r _ [36, 27, 54, 55, 56, 57, 58] (by decide +kernel) (by decide +kernel)
set_option maxRecDepth 20000 in
theorem gX4_repair_X1_isAtWorkOn : GoodIn wsX4_repair (wsV RX4 122 RX1 yX1_isAtWorkOn wsX1_isAtWorkOn) := goodIn_app (goodIn_of _ (by decide +kernel)) ggX4_repair_X1_isAtWorkOn
set_option maxRecDepth 20000 in
theorem ggX4_repair_X1_send : GoodIn wsX4_repair wsX1_send := goodIn_r _ [40, 27, 41, 54, 55, 56, 57, 58] (by decide +kernel) (by decide +kernel)
set_option maxRecDepth 20000 in
theorem gX4_repair_X1_send : GoodIn wsX4_repair (wsV RX4 127 RX1 yX1_send wsX1_send) := goodIn_app (goodIn_of _ (by decide +kernel)) ggX4_repair_X1_send
theorem dX4_repair_0 : decode cX4_repair 0 = .ok (.iload_n 1, 1) := by decide +kernel
theorem dX4_repair_1 : decode cX4_repair 1 = .ok (.invokestatic 104, 3) := by decide +kernel
theorem dX4_repair_4 : decode cX4_repair 4 = .ok (.ifCond .eq 14, 3) := by decide +kernel
theorem dX4_repair_7 : decode cX4_repair 7 = .ok (.aload_n 0, 1) := by decide +kernel
theorem dX4_repair_8 : decode cX4_repair 8 = .ok (.getfield 19, 3) := by decide +kernel
theorem dX4_repair_11 : decode cX4_repair 11 = .ok (.iload_n 2, 1) := by decide +kernel
theorem dX4_repair_12 : decode cX4_repair 12 = .ok (.invokevirtual 86, 3) := by decide +kernel
theorem dX4_repair_15 : decode cX4_repair 15 = .ok (.ifCond .ne 13, 3) := by decide +kernel
theorem dX4_repair_18 : decode cX4_repair 18 = .ok (.new 45, 3) := by decide +kernel
theorem dX4_repair_21 : decode cX4_repair 21 = .ok (.dup, 1) := by decide +kernel
theorem dX4_repair_22 : decode cX4_repair 22 = .ok (.ldc 117, 2) := by decide +kernel
theorem dX4_repair_24 : decode cX4_repair 24 = .ok (.invokespecial 49, 3) := by decide +kernel
theorem dX4_repair_27 : decode cX4_repair 27 = .ok (.athrow, 1) := by decide +kernel
theorem dX4_repair_28 : decode cX4_repair 28 = .ok (.iload_n 3, 1) := by decide +kernel
theorem dX4_repair_29 : decode cX4_repair 29 = .ok (.iconst 1, 1) := by decide +kernel
theorem dX4_repair_30 : decode cX4_repair 30 = .ok (.bipush 40, 2) := by decide +kernel
theorem dX4_repair_32 : decode cX4_repair 32 = .ok (.invokestatic 41, 3) := by decide +kernel
theorem dX4_repair_35 : decode cX4_repair 35 = .ok (.ifCond .ne 13, 3) := by decide +kernel
theorem dX4_repair_38 : decode cX4_repair 38 = .ok (.new 68, 3) := by decide +kernel
theorem dX4_repair_41 : decode cX4_repair 41 = .ok (.dup, 1) := by decide +kernel
theorem dX4_repair_42 : decode cX4_repair 42 = .ok (.ldc 109, 2) := by decide +kernel
theorem dX4_repair_44 : decode cX4_repair 44 = .ok (.invokespecial 72, 3) := by decide +kernel
theorem dX4_repair_47 : decode cX4_repair 47 = .ok (.athrow, 1) := by decide +kernel
theorem dX4_repair_48 : decode cX4_repair 48 = .ok (.aload_n 0, 1) := by decide +kernel
theorem dX4_repair_49 : decode cX4_repair 49 = .ok (.getfield 26, 3) := by decide +kernel
theorem dX4_repair_52 : decode cX4_repair 52 = .ok (.iload_n 1, 1) := by decide +kernel
theorem dX4_repair_53 : decode cX4_repair 53 = .ok (.invokevirtual 119, 3) := by decide +kernel
theorem dX4_repair_56 : decode cX4_repair 56 = .ok (.ifCond .eq 25, 3) := by decide +kernel
theorem dX4_repair_59 : decode cX4_repair 59 = .ok (.aload_n 0, 1) := by decide +kernel
theorem dX4_repair_60 : decode cX4_repair 60 = .ok (.getfield 19, 3) := by decide +kernel
theorem dX4_repair_63 : decode cX4_repair 63 = .ok (.iload_n 2, 1) := by decide +kernel
theorem dX4_repair_64 : decode cX4_repair 64 = .ok (.invokevirtual 91, 3) := by decide +kernel
theorem dX4_repair_67 : decode cX4_repair 67 = .ok (.ifCond .eq 14, 3) := by decide +kernel
theorem dX4_repair_70 : decode cX4_repair 70 = .ok (.aload_n 0, 1) := by decide +kernel
theorem dX4_repair_71 : decode cX4_repair 71 = .ok (.getfield 26, 3) := by decide +kernel
theorem dX4_repair_74 : decode cX4_repair 74 = .ok (.iload_n 2, 1) := by decide +kernel
theorem dX4_repair_75 : decode cX4_repair 75 = .ok (.invokevirtual 122, 3) := by decide +kernel
theorem dX4_repair_78 : decode cX4_repair 78 = .ok (.ifCond .eq 13, 3) := by decide +kernel
theorem dX4_repair_81 : decode cX4_repair 81 = .ok (.new 56, 3) := by decide +kernel
theorem dX4_repair_84 : decode cX4_repair 84 = .ok (.dup, 1) := by decide +kernel
theorem dX4_repair_85 : decode cX4_repair 85 = .ok (.ldc 125, 2) := by decide +kernel
theorem dX4_repair_87 : decode cX4_repair 87 = .ok (.invokespecial 60, 3) := by decide +kernel
theorem dX4_repair_90 : decode cX4_repair 90 = .ok (.athrow, 1) := by decide +kernel
theorem dX4_repair_91 : decode cX4_repair 91 = .ok (.aload_n 0, 1) := by decide +kernel
theorem dX4_repair_92 : decode cX4_repair 92 = .ok (.getfield 26, 3) := by decide +kernel
theorem dX4_repair_95 : decode cX4_repair 95 = .ok (.iload_n 1, 1) := by decide +kernel
theorem dX4_repair_96 : decode cX4_repair 96 = .ok (.iload_n 2, 1) := by decide +kernel
theorem dX4_repair_97 : decode cX4_repair 97 = .ok (.iload_n 3, 1) := by decide +kernel
theorem dX4_repair_98 : decode cX4_repair 98 = .ok (.invokevirtual 127, 3) := by decide +kernel
theorem dX4_repair_101 : decode cX4_repair 101 = .ok (.return_, 1) := by decide +kernel
set_option maxRecDepth 20000 in
theorem ggX4_sell_X4_isWithin : GoodIn wsX4_sell wsX4_isWithin := goodIn_r _ [10] (by decide +kernel) (by decide +kernel)
set_option maxRecDepth 20000 in
theorem gX4_sell_X4_isWithin : GoodIn wsX4_sell (va_wsS RX4 41 yX4_isWithin wsX4_isWithin) := goodIn_app (goodIn_of _ (by decide +kernel)) ggX4_sell_X4_isWithin
set_option maxRecDepth 20000 in
theorem ggX4_sell_X2_slotUnits : GoodIn wsX4_sell wsX2_slotUnits := goodIn_r _ [15, 16, 27, 28, 29, 30] (by decide +kernel) (by decide +kernel)
set_option maxRecDepth 20000 in
theorem gX4_sell_X2_slotUnits : GoodIn wsX4_sell (wsV RX4 135 RX2 yX2_slotUnits wsX2_slotUnits) := goodIn_app (goodIn_of _ (by decide +kernel)) ggX4_sell_X2_slotUnits
set_option maxRecDepth 20000 in
theorem ggX4_sell_X2_setSlot : GoodIn wsX4_sell wsX2_setSlot := goodIn_r _ [20, 16, 21, 27, 28, 29, 30] (by decide +kernel) (by decide +kernel)
set_option maxRecDepth 20000 in
theorem gX4_sell_X2_setSlot : GoodIn wsX4_sell (wsV RX4 138 RX2 yX2_setSlot wsX2_setSlot) := goodIn_app (goodIn_of _ (by decide +kernel)) ggX4_sell_X2_setSlot
theorem dX4_sell_0 : decode cX4_sell 0 = .ok (.iload_n 1, 1) := by decide +kernel
theorem dX4_sell_1 : decode cX4_sell 1 = .ok (.iconst 0, 1) := by decide +kernel
theorem dX4_sell_2 : decode cX4_sell 2 = .ok (.sipush 479, 3) := by decide +kernel
theorem dX4_sell_5 : decode cX4_sell 5 = .ok (.invokestatic 41, 3) := by decide +kernel
theorem dX4_sell_8 : decode cX4_sell 8 = .ok (.ifCond .eq 24, 3) := by decide +kernel
theorem dX4_sell_11 : decode cX4_sell 11 = .ok (.iload_n 2, 1) := by decide +kernel
theorem dX4_sell_12 : decode cX4_sell 12 = .ok (.iconst 0, 1) := by decide +kernel
theorem dX4_sell_13 : decode cX4_sell 13 = .ok (.sipush 30000, 3) := by decide +kernel
theorem dX4_sell_16 : decode cX4_sell 16 = .ok (.invokestatic 41, 3) := by decide +kernel
theorem dX4_sell_19 : decode cX4_sell 19 = .ok (.ifCond .eq 13, 3) := by decide +kernel
theorem dX4_sell_22 : decode cX4_sell 22 = .ok (.iload_n 3, 1) := by decide +kernel
theorem dX4_sell_23 : decode cX4_sell 23 = .ok (.iconst 1, 1) := by decide +kernel
theorem dX4_sell_24 : decode cX4_sell 24 = .ok (.bipush 100, 2) := by decide +kernel
theorem dX4_sell_26 : decode cX4_sell 26 = .ok (.invokestatic 41, 3) := by decide +kernel
theorem dX4_sell_29 : decode cX4_sell 29 = .ok (.ifCond .ne 13, 3) := by decide +kernel
theorem dX4_sell_32 : decode cX4_sell 32 = .ok (.new 68, 3) := by decide +kernel
theorem dX4_sell_35 : decode cX4_sell 35 = .ok (.dup, 1) := by decide +kernel
theorem dX4_sell_36 : decode cX4_sell 36 = .ok (.ldc 131, 2) := by decide +kernel
theorem dX4_sell_38 : decode cX4_sell 38 = .ok (.invokespecial 72, 3) := by decide +kernel
theorem dX4_sell_41 : decode cX4_sell 41 = .ok (.athrow, 1) := by decide +kernel
theorem dX4_sell_42 : decode cX4_sell 42 = .ok (.aload_n 0, 1) := by decide +kernel
theorem dX4_sell_43 : decode cX4_sell 43 = .ok (.getfield 37, 3) := by decide +kernel
theorem dX4_sell_46 : decode cX4_sell 46 = .ok (.bipush 24, 2) := by decide +kernel
theorem dX4_sell_48 : decode cX4_sell 48 = .ok (.idiv, 1) := by decide +kernel
theorem dX4_sell_49 : decode cX4_sell 49 = .ok (.iload_n 1, 1) := by decide +kernel
theorem dX4_sell_50 : decode cX4_sell 50 = .ok (.bipush 24, 2) := by decide +kernel
theorem dX4_sell_52 : decode cX4_sell 52 = .ok (.idiv, 1) := by decide +kernel
theorem dX4_sell_53 : decode cX4_sell 53 = .ok (.if_icmp .lt 13, 3) := by decide +kernel
theorem dX4_sell_56 : decode cX4_sell 56 = .ok (.new 56, 3) := by decide +kernel
theorem dX4_sell_59 : decode cX4_sell 59 = .ok (.dup, 1) := by decide +kernel
theorem dX4_sell_60 : decode cX4_sell 60 = .ok (.ldc 133, 2) := by decide +kernel
theorem dX4_sell_62 : decode cX4_sell 62 = .ok (.invokespecial 60, 3) := by decide +kernel
theorem dX4_sell_65 : decode cX4_sell 65 = .ok (.athrow, 1) := by decide +kernel
theorem dX4_sell_66 : decode cX4_sell 66 = .ok (.aload_n 0, 1) := by decide +kernel
theorem dX4_sell_67 : decode cX4_sell 67 = .ok (.getfield 33, 3) := by decide +kernel
theorem dX4_sell_70 : decode cX4_sell 70 = .ok (.iload_n 1, 1) := by decide +kernel
theorem dX4_sell_71 : decode cX4_sell 71 = .ok (.invokevirtual 135, 3) := by decide +kernel
theorem dX4_sell_74 : decode cX4_sell 74 = .ok (.istore 4, 2) := by decide +kernel
theorem dX4_sell_76 : decode cX4_sell 76 = .ok (.aload_n 0, 1) := by decide +kernel
theorem dX4_sell_77 : decode cX4_sell 77 = .ok (.getfield 33, 3) := by decide +kernel
theorem dX4_sell_80 : decode cX4_sell 80 = .ok (.iload_n 1, 1) := by decide +kernel
theorem dX4_sell_81 : decode cX4_sell 81 = .ok (.iload_n 2, 1) := by decide +kernel
theorem dX4_sell_82 : decode cX4_sell 82 = .ok (.iload_n 3, 1) := by decide +kernel
theorem dX4_sell_83 : decode cX4_sell 83 = .ok (.invokevirtual 138, 3) := by decide +kernel
theorem dX4_sell_86 : decode cX4_sell 86 = .ok (.iload 4, 2) := by decide +kernel
theorem dX4_sell_88 : decode cX4_sell 88 = .ok (.ireturn, 1) := by decide +kernel
set_option maxRecDepth 20000 in
theorem ggX4_pass_X4_isWithin : GoodIn wsX4_pass wsX4_isWithin := goodIn_r _ [9] (by decide +kernel) (by decide +kernel)
set_option maxRecDepth 20000 in
theorem gX4_pass_X4_isWithin : GoodIn wsX4_pass (va_wsS RX4 41 yX4_isWithin wsX4_isWithin) := goodIn_app (goodIn_of _ (by decide +kernel)) ggX4_pass_X4_isWithin
set_option maxRecDepth 20000 in
theorem ggX4_pass_X4_liveHour : GoodIn wsX4_pass wsX4_liveHour := goodIn_r _ [13, 14, 5, 15, 16, 17, 18, 19, 20, 8, 21, 22, 23, 24, 25, 26, 27, 28, 29, 30, 31, 32, 33, 34, 35, 36, 37, 38, 39, 40, 41, 42, 43, 44, 45, 46, 47, 48, 49, 50, 51, 52, 53, 54, 55, 56, 57, 58, 59, 60, 61, 62, 63, 64, 65, 66, 67, 7, 9, 68, 69, 70, 71, 72, 73, 74, 75, 76, 77, 78, 79, 80, 81, 82, 83, 84, 85, 86, 87, 88, 89, 90, 91, 92, 93, 94, 95, 96, 97, 98, 99, 100, 101, 102, 103, 104, 105, 106, 107, 108, 109, 110, 111, 112, 113, 114, 115, 116, 117, 118, 119, 120, 121, 122, 123, 124, 125, 126, 127, 128, 129, 130, 131, 132, 133, 134, 135, 136, 137, 138, 139, 140, 141, 142, 143, 144, 145, 146, 147, 148, 149, 150, 151, 152, 153, 154, 155, 156, 157, 158, 159, 160, 161, 162, 163, 164, 165, 166, 167, 168, 169, 170, 171, 172, 173, 174, 175, 176, 177, 178, 179, 180, 181, 182, 183, 184] (by decide +kernel) (by decide +kernel)
set_option maxRecDepth 20000 in
theorem gX4_pass_X4_liveHour : GoodIn wsX4_pass (wsV RX4 143 RX4 yX4_liveHour wsX4_liveHour) := goodIn_app (goodIn_of _ (by decide +kernel)) ggX4_pass_X4_liveHour
theorem dX4_pass_0 : decode cX4_pass 0 = .ok (.iload_n 1, 1) := by decide +kernel
theorem dX4_pass_1 : decode cX4_pass 1 = .ok (.iconst 1, 1) := by decide +kernel
theorem dX4_pass_2 : decode cX4_pass 2 = .ok (.bipush 48, 2) := by decide +kernel
theorem dX4_pass_4 : decode cX4_pass 4 = .ok (.invokestatic 41, 3) := by decide +kernel
theorem dX4_pass_7 : decode cX4_pass 7 = .ok (.ifCond .ne 13, 3) := by decide +kernel
theorem dX4_pass_10 : decode cX4_pass 10 = .ok (.new 68, 3) := by decide +kernel
theorem dX4_pass_13 : decode cX4_pass 13 = .ok (.dup, 1) := by decide +kernel
theorem dX4_pass_14 : decode cX4_pass 14 = .ok (.ldc 109, 2) := by decide +kernel
theorem dX4_pass_16 : decode cX4_pass 16 = .ok (.invokespecial 72, 3) := by decide +kernel
theorem dX4_pass_19 : decode cX4_pass 19 = .ok (.athrow, 1) := by decide +kernel
theorem dX4_pass_20 : decode cX4_pass 20 = .ok (.aload_n 0, 1) := by decide +kernel
theorem dX4_pass_21 : decode cX4_pass 21 = .ok (.getfield 37, 3) := by decide +kernel
theorem dX4_pass_24 : decode cX4_pass 24 = .ok (.iload_n 1, 1) := by decide +kernel
theorem dX4_pass_25 : decode cX4_pass 25 = .ok (.iadd, 1) := by decide +kernel
theorem dX4_pass_26 : decode cX4_pass 26 = .ok (.sipush 479, 3) := by decide +kernel
theorem dX4_pass_29 : decode cX4_pass 29 = .ok (.if_icmp .le 13, 3) := by decide +kernel
theorem dX4_pass_32 : decode cX4_pass 32 = .ok (.new 56, 3) := by decide +kernel
theorem dX4_pass_35 : decode cX4_pass 35 = .ok (.dup, 1) := by decide +kernel
theorem dX4_pass_36 : decode cX4_pass 36 = .ok (.ldc 141, 2) := by decide +kernel
theorem dX4_pass_38 : decode cX4_pass 38 = .ok (.invokespecial 60, 3) := by decide +kernel
theorem dX4_pass_41 : decode cX4_pass 41 = .ok (.athrow, 1) := by decide +kernel
theorem dX4_pass_42 : decode cX4_pass 42 = .ok (.iconst 0, 1) := by decide +kernel
theorem dX4_pass_43 : decode cX4_pass 43 = .ok (.istore_n 2, 1) := by decide +kernel
theorem dX4_pass_44 : decode cX4_pass 44 = .ok (.iload_n 2, 1) := by decide +kernel
theorem dX4_pass_45 : decode cX4_pass 45 = .ok (.iload_n 1, 1) := by decide +kernel
theorem dX4_pass_46 : decode cX4_pass 46 = .ok (.if_icmp .ge 13, 3) := by decide +kernel
theorem dX4_pass_49 : decode cX4_pass 49 = .ok (.aload_n 0, 1) := by decide +kernel
theorem dX4_pass_50 : decode cX4_pass 50 = .ok (.invokevirtual 143, 3) := by decide +kernel
theorem dX4_pass_53 : decode cX4_pass 53 = .ok (.iinc 2 1, 3) := by decide +kernel
theorem dX4_pass_56 : decode cX4_pass 56 = .ok (.goto (-12), 3) := by decide +kernel
theorem dX4_pass_59 : decode cX4_pass 59 = .ok (.aload_n 0, 1) := by decide +kernel
theorem dX4_pass_60 : decode cX4_pass 60 = .ok (.getfield 37, 3) := by decide +kernel
theorem dX4_pass_63 : decode cX4_pass 63 = .ok (.ireturn, 1) := by decide +kernel
set_option maxRecDepth 20000 in
theorem ggX4_windAt_X0_has : GoodIn wsX4_windAt wsX0_has := goodIn_r _ [10, 11, 12, 13, 14, 55, 56, 57, 58, 59, 60, 61] (by decide +kernel) (by decide +kernel)
set_option maxRecDepth 20000 in
theorem gX4_windAt_X0_has : GoodIn wsX4_windAt (wsV RX4 86 RX0 yX0_has wsX0_has) := goodIn_app (goodIn_of _ (by decide +kernel)) ggX4_windAt_X0_has
set_option maxRecDepth 20000 in
theorem ggX4_windAt_X3_speedIn : GoodIn wsX4_windAt wsX3_speedIn := goodIn_r _ [19, 20, 62, 63, 64] (by decide +kernel) (by decide +kernel)
set_option maxRecDepth 20000 in
theorem gX4_windAt_X3_speedIn : GoodIn wsX4_windAt (wsV RX4 146 RX3 yX3_speedIn wsX3_speedIn) := goodIn_app (goodIn_of _ (by decide +kernel)) ggX4_windAt_X3_speedIn
set_option maxRecDepth 20000 in
theorem ggX4_windAt_X3_isWestIn : GoodIn wsX4_windAt wsX3_isWestIn := goodIn_r _ [24, 25, 62, 63, 64] (by decide +kernel) (by decide +kernel)
set_option maxRecDepth 20000 in
theorem gX4_windAt_X3_isWestIn : GoodIn wsX4_windAt (wsV RX4 149 RX3 yX3_isWestIn wsX3_isWestIn) := goodIn_app (goodIn_of _ (by decide +kernel)) ggX4_windAt_X3_isWestIn
set_option maxRecDepth 20000 in
theorem ggX4_windAt_X0_windLeft : GoodIn wsX4_windAt wsX0_windLeft := goodIn_r _ [29, 30, 31, 32, 33, 9, 34, 11, 35, 36, 37, 38, 39, 40, 41, 42, 43, 44, 45, 46, 47, 48, 49, 55, 56, 57, 58, 59, 60, 61] (by decide +kernel) (by decide +kernel)
set_option maxRecDepth 20000 in
theorem gX4_windAt_X0_windLeft : GoodIn wsX4_windAt (wsV RX4 152 RX0 yX0_windLeft wsX0_windLeft) := goodIn_app (goodIn_of _ (by decide +kernel)) ggX4_windAt_X0_windLeft
theorem dX4_windAt_0 : decode cX4_windAt 0 = .ok (.aload_n 0, 1) := by decide +kernel
theorem dX4_windAt_1 : decode cX4_windAt 1 = .ok (.getfield 19, 3) := by decide +kernel
theorem dX4_windAt_4 : decode cX4_windAt 4 = .ok (.iload_n 1, 1) := by decide +kernel
theorem dX4_windAt_5 : decode cX4_windAt 5 = .ok (.invokevirtual 86, 3) := by decide +kernel
theorem dX4_windAt_8 : decode cX4_windAt 8 = .ok (.ifCond .ne 13, 3) := by decide +kernel
theorem dX4_windAt_11 : decode cX4_windAt 11 = .ok (.new 45, 3) := by decide +kernel
theorem dX4_windAt_14 : decode cX4_windAt 14 = .ok (.dup, 1) := by decide +kernel
theorem dX4_windAt_15 : decode cX4_windAt 15 = .ok (.ldc 89, 2) := by decide +kernel
theorem dX4_windAt_17 : decode cX4_windAt 17 = .ok (.invokespecial 49, 3) := by decide +kernel
theorem dX4_windAt_20 : decode cX4_windAt 20 = .ok (.athrow, 1) := by decide +kernel
theorem dX4_windAt_21 : decode cX4_windAt 21 = .ok (.aload_n 0, 1) := by decide +kernel
theorem dX4_windAt_22 : decode cX4_windAt 22 = .ok (.getfield 19, 3) := by decide +kernel
theorem dX4_windAt_25 : decode cX4_windAt 25 = .ok (.iload_n 1, 1) := by decide +kernel
theorem dX4_windAt_26 : decode cX4_windAt 26 = .ok (.aload_n 0, 1) := by decide +kernel
theorem dX4_windAt_27 : decode cX4_windAt 27 = .ok (.getfield 12, 3) := by decide +kernel
theorem dX4_windAt_30 : decode cX4_windAt 30 = .ok (.aload_n 0, 1) := by decide +kernel
theorem dX4_windAt_31 : decode cX4_windAt 31 = .ok (.getfield 37, 3) := by decide +kernel
theorem dX4_windAt_34 : decode cX4_windAt 34 = .ok (.invokevirtual 146, 3) := by decide +kernel
theorem dX4_windAt_37 : decode cX4_windAt 37 = .ok (.aload_n 0, 1) := by decide +kernel
theorem dX4_windAt_38 : decode cX4_windAt 38 = .ok (.getfield 12, 3) := by decide +kernel
theorem dX4_windAt_41 : decode cX4_windAt 41 = .ok (.aload_n 0, 1) := by decide +kernel
theorem dX4_windAt_42 : decode cX4_windAt 42 = .ok (.getfield 37, 3) := by decide +kernel
theorem dX4_windAt_45 : decode cX4_windAt 45 = .ok (.invokevirtual 149, 3) := by decide +kernel
theorem dX4_windAt_48 : decode cX4_windAt 48 = .ok (.invokevirtual 152, 3) := by decide +kernel
theorem dX4_windAt_51 : decode cX4_windAt 51 = .ok (.ireturn, 1) := by decide +kernel
set_option maxRecDepth 20000 in
theorem ggX4_foretold_X4_isToCome : GoodIn wsX4_foretold wsX4_isToCome := goodIn_r _ [9, 10, 11, 12, 8, 13, 66, 67, 68, 69, 70] (by decide +kernel) (by decide +kernel)
set_option maxRecDepth 20000 in
theorem gX4_foretold_X4_isToCome : GoodIn wsX4_foretold (wsV RX4 65 RX4 yX4_isToCome wsX4_isToCome) := goodIn_app (goodIn_of _ (by decide +kernel)) ggX4_foretold_X4_isToCome
set_option maxRecDepth 20000 in
theorem ggX4_foretold_X3_speedIn : GoodIn wsX4_foretold wsX3_speedIn := goodIn_r _ [18, 19, 71, 72, 73] (by decide +kernel) (by decide +kernel)
set_option maxRecDepth 20000 in
theorem gX4_foretold_X3_speedIn : GoodIn wsX4_foretold (wsV RX4 146 RX3 yX3_speedIn wsX3_speedIn) := goodIn_app (goodIn_of _ (by decide +kernel)) ggX4_foretold_X3_speedIn
set_option maxRecDepth 20000 in
theorem ggX4_foretold_X3_isWestIn : GoodIn wsX4_foretold wsX3_isWestIn := goodIn_r _ [23, 24, 71, 72, 73] (by decide +kernel) (by decide +kernel)
set_option maxRecDepth 20000 in
theorem gX4_foretold_X3_isWestIn : GoodIn wsX4_foretold (wsV RX4 149 RX3 yX3_isWestIn wsX3_isWestIn) := goodIn_app (goodIn_of _ (by decide +kernel)) ggX4_foretold_X3_isWestIn
set_option maxRecDepth 20000 in
theorem ggX4_foretold_X0_powerOfAll : GoodIn wsX4_foretold wsX0_powerOfAll := goodIn_r _ [29, 30, 31, 32, 33, 28, 34, 35, 36, 37, 38, 39, 40, 41, 42, 43, 44, 45, 46, 47, 48, 49, 50, 51, 52, 53, 54, 55, 56, 57, 58, 59, 60, 61, 62, 63, 64, 65, 12, 8, 13, 74, 75, 76, 77, 78, 79, 80] (by decide +kernel) (by decide +kernel)
set_option maxRecDepth 20000 in
theorem gX4_foretold_X0_powerOfAll : GoodIn wsX4_foretold (wsV RX4 158 RX0 yX0_powerOfAll wsX0_powerOfAll) := goodIn_app (goodIn_of _ (by decide +kernel)) ggX4_foretold_X0_powerOfAll
theorem dX4_foretold_0 : decode cX4_foretold 0 = .ok (.aload_n 0, 1) := by decide +kernel
theorem dX4_foretold_1 : decode cX4_foretold 1 = .ok (.iload_n 1, 1) := by decide +kernel
theorem dX4_foretold_2 : decode cX4_foretold 2 = .ok (.invokevirtual 65, 3) := by decide +kernel
theorem dX4_foretold_5 : decode cX4_foretold 5 = .ok (.ifCond .ne 13, 3) := by decide +kernel
theorem dX4_foretold_8 : decode cX4_foretold 8 = .ok (.new 68, 3) := by decide +kernel
theorem dX4_foretold_11 : decode cX4_foretold 11 = .ok (.dup, 1) := by decide +kernel
theorem dX4_foretold_12 : decode cX4_foretold 12 = .ok (.ldc 156, 2) := by decide +kernel
theorem dX4_foretold_14 : decode cX4_foretold 14 = .ok (.invokespecial 72, 3) := by decide +kernel
theorem dX4_foretold_17 : decode cX4_foretold 17 = .ok (.athrow, 1) := by decide +kernel
theorem dX4_foretold_18 : decode cX4_foretold 18 = .ok (.aload_n 0, 1) := by decide +kernel
theorem dX4_foretold_19 : decode cX4_foretold 19 = .ok (.getfield 19, 3) := by decide +kernel
theorem dX4_foretold_22 : decode cX4_foretold 22 = .ok (.aload_n 0, 1) := by decide +kernel
theorem dX4_foretold_23 : decode cX4_foretold 23 = .ok (.getfield 12, 3) := by decide +kernel
theorem dX4_foretold_26 : decode cX4_foretold 26 = .ok (.iload_n 1, 1) := by decide +kernel
theorem dX4_foretold_27 : decode cX4_foretold 27 = .ok (.invokevirtual 146, 3) := by decide +kernel
theorem dX4_foretold_30 : decode cX4_foretold 30 = .ok (.aload_n 0, 1) := by decide +kernel
theorem dX4_foretold_31 : decode cX4_foretold 31 = .ok (.getfield 12, 3) := by decide +kernel
theorem dX4_foretold_34 : decode cX4_foretold 34 = .ok (.iload_n 1, 1) := by decide +kernel
theorem dX4_foretold_35 : decode cX4_foretold 35 = .ok (.invokevirtual 149, 3) := by decide +kernel
theorem dX4_foretold_38 : decode cX4_foretold 38 = .ok (.invokevirtual 158, 3) := by decide +kernel
theorem dX4_foretold_41 : decode cX4_foretold 41 = .ok (.ireturn, 1) := by decide +kernel
set_option maxRecDepth 20000 in
theorem ggX4_foretoldAnew_X4_isToCome : GoodIn wsX4_foretoldAnew wsX4_isToCome := goodIn_r _ [9, 10, 11, 12, 8, 13, 60, 61, 62, 63, 64] (by decide +kernel) (by decide +kernel)
set_option maxRecDepth 20000 in
theorem gX4_foretoldAnew_X4_isToCome : GoodIn wsX4_foretoldAnew (wsV RX4 65 RX4 yX4_isToCome wsX4_isToCome) := goodIn_app (goodIn_of _ (by decide +kernel)) ggX4_foretoldAnew_X4_isToCome
set_option maxRecDepth 20000 in
theorem ggX4_foretoldAnew_X3_speedIn : GoodIn wsX4_foretoldAnew wsX3_speedIn := goodIn_r _ [18, 19, 65, 66, 67] (by decide +kernel) (by decide +kernel)
set_option maxRecDepth 20000 in
theorem gX4_foretoldAnew_X3_speedIn : GoodIn wsX4_foretoldAnew (wsV RX4 146 RX3 yX3_speedIn wsX3_speedIn) := goodIn_app (goodIn_of _ (by decide +kernel)) ggX4_foretoldAnew_X3_speedIn
set_option maxRecDepth 20000 in
theorem ggX4_foretoldAnew_X3_isWestIn : GoodIn wsX4_foretoldAnew wsX3_isWestIn := goodIn_r _ [23, 24, 65, 66, 67] (by decide +kernel) (by decide +kernel)
set_option maxRecDepth 20000 in
theorem gX4_foretoldAnew_X3_isWestIn : GoodIn wsX4_foretoldAnew (wsV RX4 149 RX3 yX3_isWestIn wsX3_isWestIn) := goodIn_app (goodIn_of _ (by decide +kernel)) ggX4_foretoldAnew_X3_isWestIn
set_option maxRecDepth 20000 in
theorem ggX4_foretoldAnew_X0_powerOfAllAnew : GoodIn wsX4_foretoldAnew wsX0_powerOfAllAnew := goodIn_r _ [29, 30, 31, 32, 33, 34, 28, 35, 36, 37, 38, 39, 40, 41, 42, 43, 44, 45, 46, 47, 48, 49, 12, 8, 13, 50, 51, 52, 53, 54, 55, 56, 57, 58, 59, 68, 69, 70, 71, 72, 73, 74] (by decide +kernel) (by decide +kernel)
set_option maxRecDepth 20000 in
theorem gX4_foretoldAnew_X0_powerOfAllAnew : GoodIn wsX4_foretoldAnew (wsV RX4 162 RX0 yX0_powerOfAllAnew wsX0_powerOfAllAnew) := goodIn_app (goodIn_of _ (by decide +kernel)) ggX4_foretoldAnew_X0_powerOfAllAnew
theorem dX4_foretoldAnew_0 : decode cX4_foretoldAnew 0 = .ok (.aload_n 0, 1) := by decide +kernel
theorem dX4_foretoldAnew_1 : decode cX4_foretoldAnew 1 = .ok (.iload_n 1, 1) := by decide +kernel
theorem dX4_foretoldAnew_2 : decode cX4_foretoldAnew 2 = .ok (.invokevirtual 65, 3) := by decide +kernel
theorem dX4_foretoldAnew_5 : decode cX4_foretoldAnew 5 = .ok (.ifCond .ne 13, 3) := by decide +kernel
theorem dX4_foretoldAnew_8 : decode cX4_foretoldAnew 8 = .ok (.new 68, 3) := by decide +kernel
theorem dX4_foretoldAnew_11 : decode cX4_foretoldAnew 11 = .ok (.dup, 1) := by decide +kernel
theorem dX4_foretoldAnew_12 : decode cX4_foretoldAnew 12 = .ok (.ldc 156, 2) := by decide +kernel
theorem dX4_foretoldAnew_14 : decode cX4_foretoldAnew 14 = .ok (.invokespecial 72, 3) := by decide +kernel
theorem dX4_foretoldAnew_17 : decode cX4_foretoldAnew 17 = .ok (.athrow, 1) := by decide +kernel
theorem dX4_foretoldAnew_18 : decode cX4_foretoldAnew 18 = .ok (.aload_n 0, 1) := by decide +kernel
theorem dX4_foretoldAnew_19 : decode cX4_foretoldAnew 19 = .ok (.getfield 19, 3) := by decide +kernel
theorem dX4_foretoldAnew_22 : decode cX4_foretoldAnew 22 = .ok (.aload_n 0, 1) := by decide +kernel
theorem dX4_foretoldAnew_23 : decode cX4_foretoldAnew 23 = .ok (.getfield 12, 3) := by decide +kernel
theorem dX4_foretoldAnew_26 : decode cX4_foretoldAnew 26 = .ok (.iload_n 1, 1) := by decide +kernel
theorem dX4_foretoldAnew_27 : decode cX4_foretoldAnew 27 = .ok (.invokevirtual 146, 3) := by decide +kernel
theorem dX4_foretoldAnew_30 : decode cX4_foretoldAnew 30 = .ok (.aload_n 0, 1) := by decide +kernel
theorem dX4_foretoldAnew_31 : decode cX4_foretoldAnew 31 = .ok (.getfield 12, 3) := by decide +kernel
theorem dX4_foretoldAnew_34 : decode cX4_foretoldAnew 34 = .ok (.iload_n 1, 1) := by decide +kernel
theorem dX4_foretoldAnew_35 : decode cX4_foretoldAnew 35 = .ok (.invokevirtual 149, 3) := by decide +kernel
theorem dX4_foretoldAnew_38 : decode cX4_foretoldAnew 38 = .ok (.invokevirtual 162, 3) := by decide +kernel
theorem dX4_foretoldAnew_41 : decode cX4_foretoldAnew 41 = .ok (.ireturn, 1) := by decide +kernel
set_option maxRecDepth 20000 in
theorem ggX4_ofHour_X4_isOver : GoodIn wsX4_ofHour wsX4_isOver := goodIn_r _ [8, 9, 10, 11, 7, 12, 35, 36, 37, 38, 39] (by decide +kernel) (by decide +kernel)
set_option maxRecDepth 20000 in
theorem gX4_ofHour_X4_isOver : GoodIn wsX4_ofHour (wsV RX4 165 RX4 yX4_isOver wsX4_isOver) := goodIn_app (goodIn_of _ (by decide +kernel)) ggX4_ofHour_X4_isOver
set_option maxRecDepth 20000 in
theorem ggX4_ofHour_X4_isWithin : GoodIn wsX4_ofHour wsX4_isWithin := goodIn_r _ [12] (by decide +kernel) (by decide +kernel)
set_option maxRecDepth 20000 in
theorem gX4_ofHour_X4_isWithin : GoodIn wsX4_ofHour (va_wsS RX4 41 yX4_isWithin wsX4_isWithin) := goodIn_app (goodIn_of _ (by decide +kernel)) ggX4_ofHour_X4_isWithin
set_option maxRecDepth 20000 in
theorem ggX4_ofHour_X2_madeIn : GoodIn wsX4_ofHour wsX2_madeIn := goodIn_r _ [17, 18, 40, 41, 42, 43] (by decide +kernel) (by decide +kernel)
set_option maxRecDepth 20000 in
theorem gX4_ofHour_X2_madeIn : GoodIn wsX4_ofHour (wsV RX4 170 RX2 yX2_madeIn wsX2_madeIn) := goodIn_app (goodIn_of _ (by decide +kernel)) ggX4_ofHour_X2_madeIn
set_option maxRecDepth 20000 in
theorem ggX4_ofHour_X2_soldFor : GoodIn wsX4_ofHour wsX2_soldFor := goodIn_r _ [22, 23, 40, 41, 42, 43] (by decide +kernel) (by decide +kernel)
set_option maxRecDepth 20000 in
theorem gX4_ofHour_X2_soldFor : GoodIn wsX4_ofHour (wsV RX4 173 RX2 yX2_soldFor wsX2_soldFor) := goodIn_app (goodIn_of _ (by decide +kernel)) ggX4_ofHour_X2_soldFor
set_option maxRecDepth 20000 in
theorem ggX4_ofHour_X2_imbalanceOf : GoodIn wsX4_ofHour wsX2_imbalanceOf := goodIn_r _ [27, 18, 28, 20, 21, 16, 22, 23, 40, 41, 42, 43] (by decide +kernel) (by decide +kernel)
set_option maxRecDepth 20000 in
theorem gX4_ofHour_X2_imbalanceOf : GoodIn wsX4_ofHour (wsV RX4 176 RX2 yX2_imbalanceOf wsX2_imbalanceOf) := goodIn_app (goodIn_of _ (by decide +kernel)) ggX4_ofHour_X2_imbalanceOf
set_option maxRecDepth 20000 in
theorem ggX4_ofHour_X2_proceedsOf : GoodIn wsX4_ofHour wsX2_proceedsOf := goodIn_r _ [32, 33, 34, 25, 26, 16, 27, 18, 28, 20, 21, 22, 23, 40, 41, 42, 43] (by decide +kernel) (by decide +kernel)
set_option maxRecDepth 20000 in
theorem gX4_ofHour_X2_proceedsOf : GoodIn wsX4_ofHour (wsV RX4 179 RX2 yX2_proceedsOf wsX2_proceedsOf) := goodIn_app (goodIn_of _ (by decide +kernel)) ggX4_ofHour_X2_proceedsOf
theorem dX4_ofHour_0 : decode cX4_ofHour 0 = .ok (.aload_n 0, 1) := by decide +kernel
theorem dX4_ofHour_1 : decode cX4_ofHour 1 = .ok (.iload_n 1, 1) := by decide +kernel
theorem dX4_ofHour_2 : decode cX4_ofHour 2 = .ok (.invokevirtual 165, 3) := by decide +kernel
theorem dX4_ofHour_5 : decode cX4_ofHour 5 = .ok (.ifCond .eq 12, 3) := by decide +kernel
theorem dX4_ofHour_8 : decode cX4_ofHour 8 = .ok (.iload_n 2, 1) := by decide +kernel
theorem dX4_ofHour_9 : decode cX4_ofHour 9 = .ok (.iconst 0, 1) := by decide +kernel
theorem dX4_ofHour_10 : decode cX4_ofHour 10 = .ok (.iconst 3, 1) := by decide +kernel
theorem dX4_ofHour_11 : decode cX4_ofHour 11 = .ok (.invokestatic 41, 3) := by decide +kernel
theorem dX4_ofHour_14 : decode cX4_ofHour 14 = .ok (.ifCond .ne 13, 3) := by decide +kernel
theorem dX4_ofHour_17 : decode cX4_ofHour 17 = .ok (.new 68, 3) := by decide +kernel
theorem dX4_ofHour_20 : decode cX4_ofHour 20 = .ok (.dup, 1) := by decide +kernel
theorem dX4_ofHour_21 : decode cX4_ofHour 21 = .ok (.ldc 168, 2) := by decide +kernel
theorem dX4_ofHour_23 : decode cX4_ofHour 23 = .ok (.invokespecial 72, 3) := by decide +kernel
theorem dX4_ofHour_26 : decode cX4_ofHour 26 = .ok (.athrow, 1) := by decide +kernel
theorem dX4_ofHour_27 : decode cX4_ofHour 27 = .ok (.iload_n 2, 1) := by decide +kernel
theorem dX4_ofHour_28 : decode cX4_ofHour 28 = .ok (.tableswitch 55 0 2 #[28, 37, 46], 28) := by decide +kernel
theorem dX4_ofHour_56 : decode cX4_ofHour 56 = .ok (.aload_n 0, 1) := by decide +kernel
theorem dX4_ofHour_57 : decode cX4_ofHour 57 = .ok (.getfield 33, 3) := by decide +kernel
theorem dX4_ofHour_60 : decode cX4_ofHour 60 = .ok (.iload_n 1, 1) := by decide +kernel
theorem dX4_ofHour_61 : decode cX4_ofHour 61 = .ok (.invokevirtual 170, 3) := by decide +kernel
theorem dX4_ofHour_64 : decode cX4_ofHour 64 = .ok (.ireturn, 1) := by decide +kernel
theorem dX4_ofHour_65 : decode cX4_ofHour 65 = .ok (.aload_n 0, 1) := by decide +kernel
theorem dX4_ofHour_66 : decode cX4_ofHour 66 = .ok (.getfield 33, 3) := by decide +kernel
theorem dX4_ofHour_69 : decode cX4_ofHour 69 = .ok (.iload_n 1, 1) := by decide +kernel
theorem dX4_ofHour_70 : decode cX4_ofHour 70 = .ok (.invokevirtual 173, 3) := by decide +kernel
theorem dX4_ofHour_73 : decode cX4_ofHour 73 = .ok (.ireturn, 1) := by decide +kernel
theorem dX4_ofHour_74 : decode cX4_ofHour 74 = .ok (.aload_n 0, 1) := by decide +kernel
theorem dX4_ofHour_75 : decode cX4_ofHour 75 = .ok (.getfield 33, 3) := by decide +kernel
theorem dX4_ofHour_78 : decode cX4_ofHour 78 = .ok (.iload_n 1, 1) := by decide +kernel
theorem dX4_ofHour_79 : decode cX4_ofHour 79 = .ok (.invokevirtual 176, 3) := by decide +kernel
theorem dX4_ofHour_82 : decode cX4_ofHour 82 = .ok (.ireturn, 1) := by decide +kernel
theorem dX4_ofHour_83 : decode cX4_ofHour 83 = .ok (.aload_n 0, 1) := by decide +kernel
theorem dX4_ofHour_84 : decode cX4_ofHour 84 = .ok (.getfield 33, 3) := by decide +kernel
theorem dX4_ofHour_87 : decode cX4_ofHour 87 = .ok (.iload_n 1, 1) := by decide +kernel
theorem dX4_ofHour_88 : decode cX4_ofHour 88 = .ok (.invokevirtual 179, 3) := by decide +kernel
theorem dX4_ofHour_91 : decode cX4_ofHour 91 = .ok (.ireturn, 1) := by decide +kernel
set_option maxRecDepth 20000 in
theorem ggX4_ratio_X4_isOver : GoodIn wsX4_ratio wsX4_isOver := goodIn_r _ [8, 9, 10, 11, 7, 12, 24, 25, 26, 27, 28] (by decide +kernel) (by decide +kernel)
set_option maxRecDepth 20000 in
theorem gX4_ratio_X4_isOver : GoodIn wsX4_ratio (wsV RX4 165 RX4 yX4_isOver wsX4_isOver) := goodIn_app (goodIn_of _ (by decide +kernel)) ggX4_ratio_X4_isOver
set_option maxRecDepth 20000 in
theorem ggX4_ratio_X2_madeToSold : GoodIn wsX4_ratio wsX2_madeToSold := goodIn_r _ [17, 18, 19, 20, 21, 16, 22, 23, 29, 30, 31, 32] (by decide +kernel) (by decide +kernel)
set_option maxRecDepth 20000 in
theorem gX4_ratio_X2_madeToSold : GoodIn wsX4_ratio (wsV RX4 182 RX2 yX2_madeToSold wsX2_madeToSold) := goodIn_app (goodIn_of _ (by decide +kernel)) ggX4_ratio_X2_madeToSold
theorem dX4_ratio_0 : decode cX4_ratio 0 = .ok (.aload_n 0, 1) := by decide +kernel
theorem dX4_ratio_1 : decode cX4_ratio 1 = .ok (.iload_n 1, 1) := by decide +kernel
theorem dX4_ratio_2 : decode cX4_ratio 2 = .ok (.invokevirtual 165, 3) := by decide +kernel
theorem dX4_ratio_5 : decode cX4_ratio 5 = .ok (.ifCond .ne 13, 3) := by decide +kernel
theorem dX4_ratio_8 : decode cX4_ratio 8 = .ok (.new 68, 3) := by decide +kernel
theorem dX4_ratio_11 : decode cX4_ratio 11 = .ok (.dup, 1) := by decide +kernel
theorem dX4_ratio_12 : decode cX4_ratio 12 = .ok (.ldc 156, 2) := by decide +kernel
theorem dX4_ratio_14 : decode cX4_ratio 14 = .ok (.invokespecial 72, 3) := by decide +kernel
theorem dX4_ratio_17 : decode cX4_ratio 17 = .ok (.athrow, 1) := by decide +kernel
theorem dX4_ratio_18 : decode cX4_ratio 18 = .ok (.aload_n 0, 1) := by decide +kernel
theorem dX4_ratio_19 : decode cX4_ratio 19 = .ok (.getfield 33, 3) := by decide +kernel
theorem dX4_ratio_22 : decode cX4_ratio 22 = .ok (.iload_n 1, 1) := by decide +kernel
theorem dX4_ratio_23 : decode cX4_ratio 23 = .ok (.invokevirtual 182, 3) := by decide +kernel
theorem dX4_ratio_26 : decode cX4_ratio 26 = .ok (.freturn, 1) := by decide +kernel
set_option maxRecDepth 20000 in
theorem ggX4_ofBoat_X4_isBoat : GoodIn wsX4_ofBoat wsX4_isBoat := goodIn_r _ [9, 10, 11, 8, 12] (by decide +kernel) (by decide +kernel)
set_option maxRecDepth 20000 in
theorem gX4_ofBoat_X4_isBoat : GoodIn wsX4_ofBoat (va_wsS RX4 104 yX4_isBoat wsX4_isBoat) := goodIn_app (goodIn_of _ (by decide +kernel)) ggX4_ofBoat_X4_isBoat
set_option maxRecDepth 20000 in
theorem ggX4_ofBoat_X4_isWithin : GoodIn wsX4_ofBoat wsX4_isWithin := goodIn_r _ [12] (by decide +kernel) (by decide +kernel)
set_option maxRecDepth 20000 in
theorem gX4_ofBoat_X4_isWithin : GoodIn wsX4_ofBoat (va_wsS RX4 41 yX4_isWithin wsX4_isWithin) := goodIn_app (goodIn_of _ (by decide +kernel)) ggX4_ofBoat_X4_isWithin
set_option maxRecDepth 20000 in
theorem ggX4_ofBoat_X1_turbineOf : GoodIn wsX4_ofBoat wsX1_turbineOf := goodIn_r _ [17, 18, 39, 40, 41, 42, 43] (by decide +kernel) (by decide +kernel)
set_option maxRecDepth 20000 in
theorem gX4_ofBoat_X1_turbineOf : GoodIn wsX4_ofBoat (wsV RX4 188 RX1 yX1_turbineOf wsX1_turbineOf) := goodIn_app (goodIn_of _ (by decide +kernel)) ggX4_ofBoat_X1_turbineOf
set_option maxRecDepth 20000 in
theorem ggX4_ofBoat_X1_hoursLeft : GoodIn wsX4_ofBoat wsX1_hoursLeft := goodIn_r _ [22, 23, 39, 40, 41, 42, 43] (by decide +kernel) (by decide +kernel)
set_option maxRecDepth 20000 in
theorem gX4_ofBoat_X1_hoursLeft : GoodIn wsX4_ofBoat (wsV RX4 191 RX1 yX1_hoursLeft wsX1_hoursLeft) := goodIn_app (goodIn_of _ (by decide +kernel)) ggX4_ofBoat_X1_hoursLeft
set_option maxRecDepth 20000 in
theorem ggX4_ofBoat_X1_workedToday : GoodIn wsX4_ofBoat wsX1_workedToday := goodIn_r _ [27, 28, 39, 40, 41, 42, 43] (by decide +kernel) (by decide +kernel)
set_option maxRecDepth 20000 in
theorem gX4_ofBoat_X1_workedToday : GoodIn wsX4_ofBoat (wsV RX4 194 RX1 yX1_workedToday wsX1_workedToday) := goodIn_app (goodIn_of _ (by decide +kernel)) ggX4_ofBoat_X1_workedToday
set_option maxRecDepth 20000 in
theorem ggX4_ofBoat_X1_workedInAll : GoodIn wsX4_ofBoat wsX1_workedInAll := goodIn_r _ [32, 33, 39, 40, 41, 42, 43] (by decide +kernel) (by decide +kernel)
set_option maxRecDepth 20000 in
theorem gX4_ofBoat_X1_workedInAll : GoodIn wsX4_ofBoat (wsV RX4 197 RX1 yX1_workedInAll wsX1_workedInAll) := goodIn_app (goodIn_of _ (by decide +kernel)) ggX4_ofBoat_X1_workedInAll
theorem dX4_ofBoat_0 : decode cX4_ofBoat 0 = .ok (.iload_n 1, 1) := by decide +kernel
theorem dX4_ofBoat_1 : decode cX4_ofBoat 1 = .ok (.invokestatic 104, 3) := by decide +kernel
theorem dX4_ofBoat_4 : decode cX4_ofBoat 4 = .ok (.ifCond .ne 13, 3) := by decide +kernel
theorem dX4_ofBoat_7 : decode cX4_ofBoat 7 = .ok (.new 45, 3) := by decide +kernel
theorem dX4_ofBoat_10 : decode cX4_ofBoat 10 = .ok (.dup, 1) := by decide +kernel
theorem dX4_ofBoat_11 : decode cX4_ofBoat 11 = .ok (.ldc 107, 2) := by decide +kernel
theorem dX4_ofBoat_13 : decode cX4_ofBoat 13 = .ok (.invokespecial 49, 3) := by decide +kernel
theorem dX4_ofBoat_16 : decode cX4_ofBoat 16 = .ok (.athrow, 1) := by decide +kernel
theorem dX4_ofBoat_17 : decode cX4_ofBoat 17 = .ok (.iload_n 2, 1) := by decide +kernel
theorem dX4_ofBoat_18 : decode cX4_ofBoat 18 = .ok (.iconst 0, 1) := by decide +kernel
theorem dX4_ofBoat_19 : decode cX4_ofBoat 19 = .ok (.iconst 3, 1) := by decide +kernel
theorem dX4_ofBoat_20 : decode cX4_ofBoat 20 = .ok (.invokestatic 41, 3) := by decide +kernel
theorem dX4_ofBoat_23 : decode cX4_ofBoat 23 = .ok (.ifCond .ne 13, 3) := by decide +kernel
theorem dX4_ofBoat_26 : decode cX4_ofBoat 26 = .ok (.new 68, 3) := by decide +kernel
theorem dX4_ofBoat_29 : decode cX4_ofBoat 29 = .ok (.dup, 1) := by decide +kernel
theorem dX4_ofBoat_30 : decode cX4_ofBoat 30 = .ok (.ldc 186, 2) := by decide +kernel
theorem dX4_ofBoat_32 : decode cX4_ofBoat 32 = .ok (.invokespecial 72, 3) := by decide +kernel
theorem dX4_ofBoat_35 : decode cX4_ofBoat 35 = .ok (.athrow, 1) := by decide +kernel
theorem dX4_ofBoat_36 : decode cX4_ofBoat 36 = .ok (.iload_n 2, 1) := by decide +kernel
theorem dX4_ofBoat_37 : decode cX4_ofBoat 37 = .ok (.tableswitch 54 0 2 #[27, 36, 45], 27) := by decide +kernel
theorem dX4_ofBoat_64 : decode cX4_ofBoat 64 = .ok (.aload_n 0, 1) := by decide +kernel
theorem dX4_ofBoat_65 : decode cX4_ofBoat 65 = .ok (.getfield 26, 3) := by decide +kernel
theorem dX4_ofBoat_68 : decode cX4_ofBoat 68 = .ok (.iload_n 1, 1) := by decide +kernel
theorem dX4_ofBoat_69 : decode cX4_ofBoat 69 = .ok (.invokevirtual 188, 3) := by decide +kernel
theorem dX4_ofBoat_72 : decode cX4_ofBoat 72 = .ok (.ireturn, 1) := by decide +kernel
theorem dX4_ofBoat_73 : decode cX4_ofBoat 73 = .ok (.aload_n 0, 1) := by decide +kernel
theorem dX4_ofBoat_74 : decode cX4_ofBoat 74 = .ok (.getfield 26, 3) := by decide +kernel
theorem dX4_ofBoat_77 : decode cX4_ofBoat 77 = .ok (.iload_n 1, 1) := by decide +kernel
theorem dX4_ofBoat_78 : decode cX4_ofBoat 78 = .ok (.invokevirtual 191, 3) := by decide +kernel
theorem dX4_ofBoat_81 : decode cX4_ofBoat 81 = .ok (.ireturn, 1) := by decide +kernel
theorem dX4_ofBoat_82 : decode cX4_ofBoat 82 = .ok (.aload_n 0, 1) := by decide +kernel
theorem dX4_ofBoat_83 : decode cX4_ofBoat 83 = .ok (.getfield 26, 3) := by decide +kernel
theorem dX4_ofBoat_86 : decode cX4_ofBoat 86 = .ok (.iload_n 1, 1) := by decide +kernel
theorem dX4_ofBoat_87 : decode cX4_ofBoat 87 = .ok (.invokevirtual 194, 3) := by decide +kernel
theorem dX4_ofBoat_90 : decode cX4_ofBoat 90 = .ok (.ireturn, 1) := by decide +kernel
theorem dX4_ofBoat_91 : decode cX4_ofBoat 91 = .ok (.aload_n 0, 1) := by decide +kernel
theorem dX4_ofBoat_92 : decode cX4_ofBoat 92 = .ok (.getfield 26, 3) := by decide +kernel
theorem dX4_ofBoat_95 : decode cX4_ofBoat 95 = .ok (.iload_n 1, 1) := by decide +kernel
theorem dX4_ofBoat_96 : decode cX4_ofBoat 96 = .ok (.invokevirtual 197, 3) := by decide +kernel
theorem dX4_ofBoat_99 : decode cX4_ofBoat 99 = .ok (.ireturn, 1) := by decide +kernel
set_option maxRecDepth 20000 in
theorem ggX4_ofTurbine_X0_has : GoodIn wsX4_ofTurbine wsX0_has := goodIn_r _ [10, 11, 12, 13, 14, 36, 37, 38, 39, 40, 41, 42] (by decide +kernel) (by decide +kernel)
set_option maxRecDepth 20000 in
theorem gX4_ofTurbine_X0_has : GoodIn wsX4_ofTurbine (wsV RX4 86 RX0 yX0_has wsX0_has) := goodIn_app (goodIn_of _ (by decide +kernel)) ggX4_ofTurbine_X0_has
set_option maxRecDepth 20000 in
theorem ggX4_ofTurbine_X4_isWithin : GoodIn wsX4_ofTurbine wsX4_isWithin := goodIn_r _ [14] (by decide +kernel) (by decide +kernel)
set_option maxRecDepth 20000 in
theorem gX4_ofTurbine_X4_isWithin : GoodIn wsX4_ofTurbine (va_wsS RX4 41 yX4_isWithin wsX4_isWithin) := goodIn_app (goodIn_of _ (by decide +kernel)) ggX4_ofTurbine_X4_isWithin
set_option maxRecDepth 20000 in
theorem ggX4_ofTurbine_X0_placeOf : GoodIn wsX4_ofTurbine wsX0_placeOf := goodIn_r _ [19, 20, 36, 37, 38, 39, 40, 41, 42] (by decide +kernel) (by decide +kernel)
set_option maxRecDepth 20000 in
theorem gX4_ofTurbine_X0_placeOf : GoodIn wsX4_ofTurbine (wsV RX4 200 RX0 yX0_placeOf wsX0_placeOf) := goodIn_app (goodIn_of _ (by decide +kernel)) ggX4_ofTurbine_X0_placeOf
set_option maxRecDepth 20000 in
theorem ggX4_ofTurbine_X0_isBroken : GoodIn wsX4_ofTurbine wsX0_isBroken := goodIn_r _ [24, 25, 36, 37, 38, 39, 40, 41, 42] (by decide +kernel) (by decide +kernel)
set_option maxRecDepth 20000 in
theorem gX4_ofTurbine_X0_isBroken : GoodIn wsX4_ofTurbine (wsV RX4 91 RX0 yX0_isBroken wsX0_isBroken) := goodIn_app (goodIn_of _ (by decide +kernel)) ggX4_ofTurbine_X0_isBroken
set_option maxRecDepth 20000 in
theorem ggX4_ofTurbine_X0_madeInAllBy : GoodIn wsX4_ofTurbine wsX0_madeInAllBy := goodIn_r _ [29, 30, 36, 37, 38, 39, 40, 41, 42] (by decide +kernel) (by decide +kernel)
set_option maxRecDepth 20000 in
theorem gX4_ofTurbine_X0_madeInAllBy : GoodIn wsX4_ofTurbine (wsV RX4 203 RX0 yX0_madeInAllBy wsX0_madeInAllBy) := goodIn_app (goodIn_of _ (by decide +kernel)) ggX4_ofTurbine_X0_madeInAllBy
theorem dX4_ofTurbine_0 : decode cX4_ofTurbine 0 = .ok (.aload_n 0, 1) := by decide +kernel
theorem dX4_ofTurbine_1 : decode cX4_ofTurbine 1 = .ok (.getfield 19, 3) := by decide +kernel
theorem dX4_ofTurbine_4 : decode cX4_ofTurbine 4 = .ok (.iload_n 1, 1) := by decide +kernel
theorem dX4_ofTurbine_5 : decode cX4_ofTurbine 5 = .ok (.invokevirtual 86, 3) := by decide +kernel
theorem dX4_ofTurbine_8 : decode cX4_ofTurbine 8 = .ok (.ifCond .ne 13, 3) := by decide +kernel
theorem dX4_ofTurbine_11 : decode cX4_ofTurbine 11 = .ok (.new 45, 3) := by decide +kernel
theorem dX4_ofTurbine_14 : decode cX4_ofTurbine 14 = .ok (.dup, 1) := by decide +kernel
theorem dX4_ofTurbine_15 : decode cX4_ofTurbine 15 = .ok (.ldc 89, 2) := by decide +kernel
theorem dX4_ofTurbine_17 : decode cX4_ofTurbine 17 = .ok (.invokespecial 49, 3) := by decide +kernel
theorem dX4_ofTurbine_20 : decode cX4_ofTurbine 20 = .ok (.athrow, 1) := by decide +kernel
theorem dX4_ofTurbine_21 : decode cX4_ofTurbine 21 = .ok (.iload_n 2, 1) := by decide +kernel
theorem dX4_ofTurbine_22 : decode cX4_ofTurbine 22 = .ok (.iconst 0, 1) := by decide +kernel
theorem dX4_ofTurbine_23 : decode cX4_ofTurbine 23 = .ok (.iconst 2, 1) := by decide +kernel
theorem dX4_ofTurbine_24 : decode cX4_ofTurbine 24 = .ok (.invokestatic 41, 3) := by decide +kernel
theorem dX4_ofTurbine_27 : decode cX4_ofTurbine 27 = .ok (.ifCond .ne 13, 3) := by decide +kernel
theorem dX4_ofTurbine_30 : decode cX4_ofTurbine 30 = .ok (.new 68, 3) := by decide +kernel
theorem dX4_ofTurbine_33 : decode cX4_ofTurbine 33 = .ok (.dup, 1) := by decide +kernel
theorem dX4_ofTurbine_34 : decode cX4_ofTurbine 34 = .ok (.ldc 186, 2) := by decide +kernel
theorem dX4_ofTurbine_36 : decode cX4_ofTurbine 36 = .ok (.invokespecial 72, 3) := by decide +kernel
theorem dX4_ofTurbine_39 : decode cX4_ofTurbine 39 = .ok (.athrow, 1) := by decide +kernel
theorem dX4_ofTurbine_40 : decode cX4_ofTurbine 40 = .ok (.iload_n 2, 1) := by decide +kernel
theorem dX4_ofTurbine_41 : decode cX4_ofTurbine 41 = .ok (.lookupswitch 53 #[(0, 27), (1, 36)], 27) := by decide +kernel
theorem dX4_ofTurbine_68 : decode cX4_ofTurbine 68 = .ok (.aload_n 0, 1) := by decide +kernel
theorem dX4_ofTurbine_69 : decode cX4_ofTurbine 69 = .ok (.getfield 19, 3) := by decide +kernel
theorem dX4_ofTurbine_72 : decode cX4_ofTurbine 72 = .ok (.iload_n 1, 1) := by decide +kernel
theorem dX4_ofTurbine_73 : decode cX4_ofTurbine 73 = .ok (.invokevirtual 200, 3) := by decide +kernel
theorem dX4_ofTurbine_76 : decode cX4_ofTurbine 76 = .ok (.ireturn, 1) := by decide +kernel
theorem dX4_ofTurbine_77 : decode cX4_ofTurbine 77 = .ok (.aload_n 0, 1) := by decide +kernel
theorem dX4_ofTurbine_78 : decode cX4_ofTurbine 78 = .ok (.getfield 19, 3) := by decide +kernel
theorem dX4_ofTurbine_81 : decode cX4_ofTurbine 81 = .ok (.iload_n 1, 1) := by decide +kernel
theorem dX4_ofTurbine_82 : decode cX4_ofTurbine 82 = .ok (.invokevirtual 91, 3) := by decide +kernel
theorem dX4_ofTurbine_85 : decode cX4_ofTurbine 85 = .ok (.ifCond .eq 7, 3) := by decide +kernel
theorem dX4_ofTurbine_88 : decode cX4_ofTurbine 88 = .ok (.iconst 1, 1) := by decide +kernel
theorem dX4_ofTurbine_89 : decode cX4_ofTurbine 89 = .ok (.goto 4, 3) := by decide +kernel
theorem dX4_ofTurbine_92 : decode cX4_ofTurbine 92 = .ok (.iconst 0, 1) := by decide +kernel
theorem dX4_ofTurbine_93 : decode cX4_ofTurbine 93 = .ok (.ireturn, 1) := by decide +kernel
theorem dX4_ofTurbine_94 : decode cX4_ofTurbine 94 = .ok (.aload_n 0, 1) := by decide +kernel
theorem dX4_ofTurbine_95 : decode cX4_ofTurbine 95 = .ok (.getfield 19, 3) := by decide +kernel
theorem dX4_ofTurbine_98 : decode cX4_ofTurbine 98 = .ok (.iload_n 1, 1) := by decide +kernel
theorem dX4_ofTurbine_99 : decode cX4_ofTurbine 99 = .ok (.invokevirtual 203, 3) := by decide +kernel
theorem dX4_ofTurbine_102 : decode cX4_ofTurbine 102 = .ok (.ireturn, 1) := by decide +kernel
set_option maxRecDepth 20000 in
theorem ggX4_brought_X2_proceedsInAll : GoodIn wsX4_brought wsX2_proceedsInAll := goodIn_r _ [6, 7, 13, 14, 15, 16] (by decide +kernel) (by decide +kernel)
set_option maxRecDepth 20000 in
theorem gX4_brought_X2_proceedsInAll : GoodIn wsX4_brought (wsV RX4 206 RX2 yX2_proceedsInAll wsX2_proceedsInAll) := goodIn_app (goodIn_of _ (by decide +kernel)) ggX4_brought_X2_proceedsInAll
theorem dX4_brought_0 : decode cX4_brought 0 = .ok (.aload_n 0, 1) := by decide +kernel
theorem dX4_brought_1 : decode cX4_brought 1 = .ok (.getfield 33, 3) := by decide +kernel
theorem dX4_brought_4 : decode cX4_brought 4 = .ok (.invokevirtual 206, 3) := by decide +kernel
theorem dX4_brought_7 : decode cX4_brought 7 = .ok (.lreturn, 1) := by decide +kernel
theorem dX4_isWithin_0 : decode cX4_isWithin 0 = .ok (.iload_n 0, 1) := by decide +kernel
theorem dX4_isWithin_1 : decode cX4_isWithin 1 = .ok (.iload_n 1, 1) := by decide +kernel
theorem dX4_isWithin_2 : decode cX4_isWithin 2 = .ok (.if_icmp .lt 12, 3) := by decide +kernel
theorem dX4_isWithin_5 : decode cX4_isWithin 5 = .ok (.iload_n 0, 1) := by decide +kernel
theorem dX4_isWithin_6 : decode cX4_isWithin 6 = .ok (.iload_n 2, 1) := by decide +kernel
theorem dX4_isWithin_7 : decode cX4_isWithin 7 = .ok (.if_icmp .gt 7, 3) := by decide +kernel
theorem dX4_isWithin_10 : decode cX4_isWithin 10 = .ok (.iconst 1, 1) := by decide +kernel
theorem dX4_isWithin_11 : decode cX4_isWithin 11 = .ok (.goto 4, 3) := by decide +kernel
theorem dX4_isWithin_14 : decode cX4_isWithin 14 = .ok (.iconst 0, 1) := by decide +kernel
theorem dX4_isWithin_15 : decode cX4_isWithin 15 = .ok (.ireturn, 1) := by decide +kernel
set_option maxRecDepth 20000 in
theorem ggX4_isBoat_X4_isWithin : GoodIn wsX4_isBoat wsX4_isWithin := goodIn_r _ [4] (by decide +kernel) (by decide +kernel)
set_option maxRecDepth 20000 in
theorem gX4_isBoat_X4_isWithin : GoodIn wsX4_isBoat (va_wsS RX4 41 yX4_isWithin wsX4_isWithin) := goodIn_app (goodIn_of _ (by decide +kernel)) ggX4_isBoat_X4_isWithin
theorem dX4_isBoat_0 : decode cX4_isBoat 0 = .ok (.iload_n 0, 1) := by decide +kernel
theorem dX4_isBoat_1 : decode cX4_isBoat 1 = .ok (.iconst 0, 1) := by decide +kernel
theorem dX4_isBoat_2 : decode cX4_isBoat 2 = .ok (.iconst 2, 1) := by decide +kernel
theorem dX4_isBoat_3 : decode cX4_isBoat 3 = .ok (.invokestatic 41, 3) := by decide +kernel
theorem dX4_isBoat_6 : decode cX4_isBoat 6 = .ok (.ireturn, 1) := by decide +kernel
set_option maxRecDepth 20000 in
theorem ggX4_isToCome_X4_isWithin : GoodIn wsX4_isToCome wsX4_isWithin := goodIn_r _ [5] (by decide +kernel) (by decide +kernel)
set_option maxRecDepth 20000 in
theorem gX4_isToCome_X4_isWithin : GoodIn wsX4_isToCome (va_wsS RX4 41 yX4_isWithin wsX4_isWithin) := goodIn_app (goodIn_of _ (by decide +kernel)) ggX4_isToCome_X4_isWithin
theorem dX4_isToCome_0 : decode cX4_isToCome 0 = .ok (.iload_n 1, 1) := by decide +kernel
theorem dX4_isToCome_1 : decode cX4_isToCome 1 = .ok (.aload_n 0, 1) := by decide +kernel
theorem dX4_isToCome_2 : decode cX4_isToCome 2 = .ok (.getfield 37, 3) := by decide +kernel
theorem dX4_isToCome_5 : decode cX4_isToCome 5 = .ok (.sipush 479, 3) := by decide +kernel
theorem dX4_isToCome_8 : decode cX4_isToCome 8 = .ok (.invokestatic 41, 3) := by decide +kernel
theorem dX4_isToCome_11 : decode cX4_isToCome 11 = .ok (.ireturn, 1) := by decide +kernel
set_option maxRecDepth 20000 in
theorem ggX4_isOver_X4_isWithin : GoodIn wsX4_isOver wsX4_isWithin := goodIn_r _ [5] (by decide +kernel) (by decide +kernel)
set_option maxRecDepth 20000 in
theorem gX4_isOver_X4_isWithin : GoodIn wsX4_isOver (va_wsS RX4 41 yX4_isWithin wsX4_isWithin) := goodIn_app (goodIn_of _ (by decide +kernel)) ggX4_isOver_X4_isWithin
theorem dX4_isOver_0 : decode cX4_isOver 0 = .ok (.iload_n 1, 1) := by decide +kernel
theorem dX4_isOver_1 : decode cX4_isOver 1 = .ok (.iconst 0, 1) := by decide +kernel
theorem dX4_isOver_2 : decode cX4_isOver 2 = .ok (.aload_n 0, 1) := by decide +kernel
theorem dX4_isOver_3 : decode cX4_isOver 3 = .ok (.getfield 37, 3) := by decide +kernel
theorem dX4_isOver_6 : decode cX4_isOver 6 = .ok (.iconst 1, 1) := by decide +kernel
theorem dX4_isOver_7 : decode cX4_isOver 7 = .ok (.isub, 1) := by decide +kernel
theorem dX4_isOver_8 : decode cX4_isOver 8 = .ok (.invokestatic 41, 3) := by decide +kernel
theorem dX4_isOver_11 : decode cX4_isOver 11 = .ok (.ireturn, 1) := by decide +kernel
set_option maxRecDepth 20000 in
theorem ggX4_liveHour_X4_workOnRepairs : GoodIn wsX4_liveHour wsX4_workOnRepairs := goodIn_r _ [10, 4, 2, 5, 3, 11, 12, 13, 14, 15, 16, 17, 18, 19, 20, 21, 22, 23, 24, 25, 26, 27, 28, 29, 30, 31, 32, 33, 34, 35, 36, 37, 38, 39, 40, 41, 42, 43, 44, 45, 46, 47, 48, 49, 50, 51, 52, 53, 54, 55, 56, 57, 9, 58, 152, 153, 154, 155, 156, 157, 158, 159, 160, 161, 162, 163, 164, 165, 166, 167, 168, 169, 170, 171] (by decide +kernel) (by decide +kernel)
set_option maxRecDepth 20000 in
theorem gX4_liveHour_X4_workOnRepairs : GoodIn wsX4_liveHour (wsV RX4 210 RX4 yX4_workOnRepairs wsX4_workOnRepairs) := goodIn_app (goodIn_of _ (by decide +kernel)) ggX4_liveHour_X4_workOnRepairs
set_option maxRecDepth 20000 in
theorem ggX4_liveHour_X3_speedIn : GoodIn wsX4_liveHour wsX3_speedIn := goodIn_r _ [62, 17, 157, 158, 159] (by decide +kernel) (by decide +kernel)
set_option maxRecDepth 20000 in
theorem gX4_liveHour_X3_speedIn : GoodIn wsX4_liveHour (wsV RX4 146 RX3 yX3_speedIn wsX3_speedIn) := goodIn_app (goodIn_of _ (by decide +kernel)) ggX4_liveHour_X3_speedIn
set_option maxRecDepth 20000 in
theorem ggX4_liveHour_X3_isWestIn : GoodIn wsX4_liveHour wsX3_isWestIn := goodIn_r _ [66, 67, 157, 158, 159] (by decide +kernel) (by decide +kernel)
set_option maxRecDepth 20000 in
theorem gX4_liveHour_X3_isWestIn : GoodIn wsX4_liveHour (wsV RX4 149 RX3 yX3_isWestIn wsX3_isWestIn) := goodIn_app (goodIn_of _ (by decide +kernel)) ggX4_liveHour_X3_isWestIn
set_option maxRecDepth 20000 in
theorem ggX4_liveHour_X0_generate : GoodIn wsX4_liveHour wsX0_generate := goodIn_r _ [71, 56, 72, 73, 74, 75, 43, 76, 77, 78, 79, 80, 81, 51, 82, 83, 84, 85, 45, 86, 87, 88, 89, 90, 91, 92, 93, 94, 95, 96, 97, 98, 99, 100, 101, 102, 103, 104, 105, 57, 9, 58, 165, 166, 167, 168, 169, 170, 171] (by decide +kernel) (by decide +kernel)
set_option maxRecDepth 20000 in
theorem gX4_liveHour_X0_generate : GoodIn wsX4_liveHour (wsV RX4 213 RX0 yX0_generate wsX0_generate) := goodIn_app (goodIn_of _ (by decide +kernel)) ggX4_liveHour_X0_generate
set_option maxRecDepth 20000 in
theorem ggX4_liveHour_X2_endHour : GoodIn wsX4_liveHour wsX2_endHour := goodIn_r _ [110, 111, 112, 113, 114, 115, 109, 116, 117, 118, 119, 120, 121, 122, 123, 124, 125, 126, 172, 173, 174, 175] (by decide +kernel) (by decide +kernel)
set_option maxRecDepth 20000 in
theorem gX4_liveHour_X2_endHour : GoodIn wsX4_liveHour (wsV RX4 216 RX2 yX2_endHour wsX2_endHour) := goodIn_app (goodIn_of _ (by decide +kernel)) ggX4_liveHour_X2_endHour
set_option maxRecDepth 20000 in
theorem ggX4_liveHour_X0_endStillness : GoodIn wsX4_liveHour wsX0_endStillness := goodIn_r _ [130, 56, 51, 165, 166, 167, 168, 169, 170, 171] (by decide +kernel) (by decide +kernel)
set_option maxRecDepth 20000 in
theorem gX4_liveHour_X0_endStillness : GoodIn wsX4_liveHour (wsV RX4 219 RX0 yX0_endStillness wsX0_endStillness) := goodIn_app (goodIn_of _ (by decide +kernel)) ggX4_liveHour_X0_endStillness
set_option maxRecDepth 20000 in
theorem ggX4_liveHour_X4_endRepairs : GoodIn wsX4_liveHour wsX4_endRepairs := goodIn_r _ [134, 5, 3, 135, 136, 137, 21, 138, 34, 25, 26, 27, 28, 29, 36, 37, 38, 39, 139, 140, 141, 43, 142, 81, 143, 144, 145, 146, 147, 152, 153, 154, 155, 156, 160, 161, 162, 163, 164, 165, 166, 167, 168, 169, 170, 171] (by decide +kernel) (by decide +kernel)
set_option maxRecDepth 20000 in
theorem gX4_liveHour_X4_endRepairs : GoodIn wsX4_liveHour (wsV RX4 222 RX4 yX4_endRepairs wsX4_endRepairs) := goodIn_app (goodIn_of _ (by decide +kernel)) ggX4_liveHour_X4_endRepairs
set_option maxRecDepth 20000 in
theorem ggX4_liveHour_X1_beginDay : GoodIn wsX4_liveHour wsX1_beginDay := goodIn_r _ [151, 23, 160, 161, 162, 163, 164] (by decide +kernel) (by decide +kernel)
set_option maxRecDepth 20000 in
theorem gX4_liveHour_X1_beginDay : GoodIn wsX4_liveHour (wsV RX4 225 RX1 yX1_beginDay wsX1_beginDay) := goodIn_app (goodIn_of _ (by decide +kernel)) ggX4_liveHour_X1_beginDay
theorem dX4_liveHour_0 : decode cX4_liveHour 0 = .ok (.aload_n 0, 1) := by decide +kernel
theorem dX4_liveHour_1 : decode cX4_liveHour 1 = .ok (.invokevirtual 210, 3) := by decide +kernel
theorem dX4_liveHour_4 : decode cX4_liveHour 4 = .ok (.aload_n 0, 1) := by decide +kernel
theorem dX4_liveHour_5 : decode cX4_liveHour 5 = .ok (.getfield 33, 3) := by decide +kernel
theorem dX4_liveHour_8 : decode cX4_liveHour 8 = .ok (.aload_n 0, 1) := by decide +kernel
theorem dX4_liveHour_9 : decode cX4_liveHour 9 = .ok (.getfield 37, 3) := by decide +kernel
theorem dX4_liveHour_12 : decode cX4_liveHour 12 = .ok (.aload_n 0, 1) := by decide +kernel
theorem dX4_liveHour_13 : decode cX4_liveHour 13 = .ok (.getfield 19, 3) := by decide +kernel
theorem dX4_liveHour_16 : decode cX4_liveHour 16 = .ok (.aload_n 0, 1) := by decide +kernel
theorem dX4_liveHour_17 : decode cX4_liveHour 17 = .ok (.getfield 12, 3) := by decide +kernel
theorem dX4_liveHour_20 : decode cX4_liveHour 20 = .ok (.aload_n 0, 1) := by decide +kernel
theorem dX4_liveHour_21 : decode cX4_liveHour 21 = .ok (.getfield 37, 3) := by decide +kernel
theorem dX4_liveHour_24 : decode cX4_liveHour 24 = .ok (.invokevirtual 146, 3) := by decide +kernel
theorem dX4_liveHour_27 : decode cX4_liveHour 27 = .ok (.aload_n 0, 1) := by decide +kernel
theorem dX4_liveHour_28 : decode cX4_liveHour 28 = .ok (.getfield 12, 3) := by decide +kernel
theorem dX4_liveHour_31 : decode cX4_liveHour 31 = .ok (.aload_n 0, 1) := by decide +kernel
theorem dX4_liveHour_32 : decode cX4_liveHour 32 = .ok (.getfield 37, 3) := by decide +kernel
theorem dX4_liveHour_35 : decode cX4_liveHour 35 = .ok (.invokevirtual 149, 3) := by decide +kernel
theorem dX4_liveHour_38 : decode cX4_liveHour 38 = .ok (.invokevirtual 213, 3) := by decide +kernel
theorem dX4_liveHour_41 : decode cX4_liveHour 41 = .ok (.invokevirtual 216, 3) := by decide +kernel
theorem dX4_liveHour_44 : decode cX4_liveHour 44 = .ok (.aload_n 0, 1) := by decide +kernel
theorem dX4_liveHour_45 : decode cX4_liveHour 45 = .ok (.getfield 19, 3) := by decide +kernel
theorem dX4_liveHour_48 : decode cX4_liveHour 48 = .ok (.invokevirtual 219, 3) := by decide +kernel
theorem dX4_liveHour_51 : decode cX4_liveHour 51 = .ok (.aload_n 0, 1) := by decide +kernel
theorem dX4_liveHour_52 : decode cX4_liveHour 52 = .ok (.invokevirtual 222, 3) := by decide +kernel
theorem dX4_liveHour_55 : decode cX4_liveHour 55 = .ok (.aload_n 0, 1) := by decide +kernel
theorem dX4_liveHour_56 : decode cX4_liveHour 56 = .ok (.dup, 1) := by decide +kernel
theorem dX4_liveHour_57 : decode cX4_liveHour 57 = .ok (.getfield 37, 3) := by decide +kernel
theorem dX4_liveHour_60 : decode cX4_liveHour 60 = .ok (.iconst 1, 1) := by decide +kernel
theorem dX4_liveHour_61 : decode cX4_liveHour 61 = .ok (.iadd, 1) := by decide +kernel
theorem dX4_liveHour_62 : decode cX4_liveHour 62 = .ok (.putfield 37, 3) := by decide +kernel
theorem dX4_liveHour_65 : decode cX4_liveHour 65 = .ok (.aload_n 0, 1) := by decide +kernel
theorem dX4_liveHour_66 : decode cX4_liveHour 66 = .ok (.getfield 37, 3) := by decide +kernel
theorem dX4_liveHour_69 : decode cX4_liveHour 69 = .ok (.bipush 24, 2) := by decide +kernel
theorem dX4_liveHour_71 : decode cX4_liveHour 71 = .ok (.irem, 1) := by decide +kernel
theorem dX4_liveHour_72 : decode cX4_liveHour 72 = .ok (.ifCond .ne 10, 3) := by decide +kernel
theorem dX4_liveHour_75 : decode cX4_liveHour 75 = .ok (.aload_n 0, 1) := by decide +kernel
theorem dX4_liveHour_76 : decode cX4_liveHour 76 = .ok (.getfield 26, 3) := by decide +kernel
theorem dX4_liveHour_79 : decode cX4_liveHour 79 = .ok (.invokevirtual 225, 3) := by decide +kernel
theorem dX4_liveHour_82 : decode cX4_liveHour 82 = .ok (.return_, 1) := by decide +kernel
set_option maxRecDepth 20000 in
theorem ggX4_workOnRepairs_X3_wavesIn : GoodIn wsX4_workOnRepairs wsX3_wavesIn := goodIn_r _ [9, 10, 11, 59, 60, 61] (by decide +kernel) (by decide +kernel)
set_option maxRecDepth 20000 in
theorem gX4_workOnRepairs_X3_wavesIn : GoodIn wsX4_workOnRepairs (wsV RX4 79 RX3 yX3_wavesIn wsX3_wavesIn) := goodIn_app (goodIn_of _ (by decide +kernel)) ggX4_workOnRepairs_X3_wavesIn
set_option maxRecDepth 20000 in
theorem ggX4_workOnRepairs_X1_canWork : GoodIn wsX4_workOnRepairs wsX1_canWork := goodIn_r _ [16, 17, 18, 19, 20, 21, 15, 22, 23, 62, 63, 64, 65, 66] (by decide +kernel) (by decide +kernel)
set_option maxRecDepth 20000 in
theorem gX4_workOnRepairs_X1_canWork : GoodIn wsX4_workOnRepairs (wsV RX4 228 RX1 yX1_canWork wsX1_canWork) := goodIn_app (goodIn_of _ (by decide +kernel)) ggX4_workOnRepairs_X1_canWork
set_option maxRecDepth 20000 in
theorem ggX4_workOnRepairs_X1_workAnHour : GoodIn wsX4_workOnRepairs wsX1_workAnHour := goodIn_r _ [27, 28, 17, 29, 62, 63, 64, 65, 66] (by decide +kernel) (by decide +kernel)
set_option maxRecDepth 20000 in
theorem gX4_workOnRepairs_X1_workAnHour : GoodIn wsX4_workOnRepairs (wsV RX4 231 RX1 yX1_workAnHour wsX1_workAnHour) := goodIn_app (goodIn_of _ (by decide +kernel)) ggX4_workOnRepairs_X1_workAnHour
set_option maxRecDepth 20000 in
theorem ggX4_workOnRepairs_X1_turbineOf : GoodIn wsX4_workOnRepairs wsX1_turbineOf := goodIn_r _ [33, 23, 62, 63, 64, 65, 66] (by decide +kernel) (by decide +kernel)
set_option maxRecDepth 20000 in
theorem gX4_workOnRepairs_X1_turbineOf : GoodIn wsX4_workOnRepairs (wsV RX4 188 RX1 yX1_turbineOf wsX1_turbineOf) := goodIn_app (goodIn_of _ (by decide +kernel)) ggX4_workOnRepairs_X1_turbineOf
set_option maxRecDepth 20000 in
theorem ggX4_workOnRepairs_X0_stillBeside : GoodIn wsX4_workOnRepairs wsX0_stillBeside := goodIn_r _ [38, 39, 40, 41, 42, 37, 43, 44, 45, 46, 47, 48, 49, 50, 51, 52, 53, 67, 68, 69, 70, 71, 72, 73] (by decide +kernel) (by decide +kernel)
set_option maxRecDepth 20000 in
theorem gX4_workOnRepairs_X0_stillBeside : GoodIn wsX4_workOnRepairs (wsV RX4 234 RX0 yX0_stillBeside wsX0_stillBeside) := goodIn_app (goodIn_of _ (by decide +kernel)) ggX4_workOnRepairs_X0_stillBeside
theorem dX4_workOnRepairs_0 : decode cX4_workOnRepairs 0 = .ok (.aload_n 0, 1) := by decide +kernel
theorem dX4_workOnRepairs_1 : decode cX4_workOnRepairs 1 = .ok (.getfield 12, 3) := by decide +kernel
theorem dX4_workOnRepairs_4 : decode cX4_workOnRepairs 4 = .ok (.aload_n 0, 1) := by decide +kernel
theorem dX4_workOnRepairs_5 : decode cX4_workOnRepairs 5 = .ok (.getfield 37, 3) := by decide +kernel
theorem dX4_workOnRepairs_8 : decode cX4_workOnRepairs 8 = .ok (.invokevirtual 79, 3) := by decide +kernel
theorem dX4_workOnRepairs_11 : decode cX4_workOnRepairs 11 = .ok (.iconst 4, 1) := by decide +kernel
theorem dX4_workOnRepairs_12 : decode cX4_workOnRepairs 12 = .ok (.if_icmp .le 4, 3) := by decide +kernel
theorem dX4_workOnRepairs_15 : decode cX4_workOnRepairs 15 = .ok (.return_, 1) := by decide +kernel
theorem dX4_workOnRepairs_16 : decode cX4_workOnRepairs 16 = .ok (.iconst 0, 1) := by decide +kernel
theorem dX4_workOnRepairs_17 : decode cX4_workOnRepairs 17 = .ok (.istore_n 1, 1) := by decide +kernel
theorem dX4_workOnRepairs_18 : decode cX4_workOnRepairs 18 = .ok (.iload_n 1, 1) := by decide +kernel
theorem dX4_workOnRepairs_19 : decode cX4_workOnRepairs 19 = .ok (.iconst 3, 1) := by decide +kernel
theorem dX4_workOnRepairs_20 : decode cX4_workOnRepairs 20 = .ok (.if_icmp .ge 43, 3) := by decide +kernel
theorem dX4_workOnRepairs_23 : decode cX4_workOnRepairs 23 = .ok (.aload_n 0, 1) := by decide +kernel
theorem dX4_workOnRepairs_24 : decode cX4_workOnRepairs 24 = .ok (.getfield 26, 3) := by decide +kernel
theorem dX4_workOnRepairs_27 : decode cX4_workOnRepairs 27 = .ok (.iload_n 1, 1) := by decide +kernel
theorem dX4_workOnRepairs_28 : decode cX4_workOnRepairs 28 = .ok (.invokevirtual 228, 3) := by decide +kernel
theorem dX4_workOnRepairs_31 : decode cX4_workOnRepairs 31 = .ok (.ifCond .eq 26, 3) := by decide +kernel
theorem dX4_workOnRepairs_34 : decode cX4_workOnRepairs 34 = .ok (.aload_n 0, 1) := by decide +kernel
theorem dX4_workOnRepairs_35 : decode cX4_workOnRepairs 35 = .ok (.getfield 26, 3) := by decide +kernel
theorem dX4_workOnRepairs_38 : decode cX4_workOnRepairs 38 = .ok (.iload_n 1, 1) := by decide +kernel
theorem dX4_workOnRepairs_39 : decode cX4_workOnRepairs 39 = .ok (.invokevirtual 231, 3) := by decide +kernel
theorem dX4_workOnRepairs_42 : decode cX4_workOnRepairs 42 = .ok (.aload_n 0, 1) := by decide +kernel
theorem dX4_workOnRepairs_43 : decode cX4_workOnRepairs 43 = .ok (.getfield 19, 3) := by decide +kernel
theorem dX4_workOnRepairs_46 : decode cX4_workOnRepairs 46 = .ok (.aload_n 0, 1) := by decide +kernel
theorem dX4_workOnRepairs_47 : decode cX4_workOnRepairs 47 = .ok (.getfield 26, 3) := by decide +kernel
theorem dX4_workOnRepairs_50 : decode cX4_workOnRepairs 50 = .ok (.iload_n 1, 1) := by decide +kernel
theorem dX4_workOnRepairs_51 : decode cX4_workOnRepairs 51 = .ok (.invokevirtual 188, 3) := by decide +kernel
theorem dX4_workOnRepairs_54 : decode cX4_workOnRepairs 54 = .ok (.invokevirtual 234, 3) := by decide +kernel
theorem dX4_workOnRepairs_57 : decode cX4_workOnRepairs 57 = .ok (.iinc 1 1, 3) := by decide +kernel
theorem dX4_workOnRepairs_60 : decode cX4_workOnRepairs 60 = .ok (.goto (-42), 3) := by decide +kernel
theorem dX4_workOnRepairs_63 : decode cX4_workOnRepairs 63 = .ok (.return_, 1) := by decide +kernel
set_option maxRecDepth 20000 in
theorem ggX4_endRepairs_X1_hasEnded : GoodIn wsX4_endRepairs wsX1_hasEnded := goodIn_r _ [7, 8, 9, 10, 11, 6, 12, 13, 34, 35, 36, 37, 38] (by decide +kernel) (by decide +kernel)
set_option maxRecDepth 20000 in
theorem gX4_endRepairs_X1_hasEnded : GoodIn wsX4_endRepairs (wsV RX4 237 RX1 yX1_hasEnded wsX1_hasEnded) := goodIn_app (goodIn_of _ (by decide +kernel)) ggX4_endRepairs_X1_hasEnded
set_option maxRecDepth 20000 in
theorem ggX4_endRepairs_X1_turbineOf : GoodIn wsX4_endRepairs wsX1_turbineOf := goodIn_r _ [17, 13, 34, 35, 36, 37, 38] (by decide +kernel) (by decide +kernel)
set_option maxRecDepth 20000 in
theorem gX4_endRepairs_X1_turbineOf : GoodIn wsX4_endRepairs (wsV RX4 188 RX1 yX1_turbineOf wsX1_turbineOf) := goodIn_app (goodIn_of _ (by decide +kernel)) ggX4_endRepairs_X1_turbineOf
set_option maxRecDepth 20000 in
theorem ggX4_endRepairs_X0_mend : GoodIn wsX4_endRepairs wsX0_mend := goodIn_r _ [22, 23, 24, 39, 40, 41, 42, 43, 44, 45] (by decide +kernel) (by decide +kernel)
set_option maxRecDepth 20000 in
theorem gX4_endRepairs_X0_mend : GoodIn wsX4_endRepairs (wsV RX4 240 RX0 yX0_mend wsX0_mend) := goodIn_app (goodIn_of _ (by decide +kernel)) ggX4_endRepairs_X0_mend
set_option maxRecDepth 20000 in
theorem ggX4_endRepairs_X1_release : GoodIn wsX4_endRepairs wsX1_release := goodIn_r _ [28, 13, 34, 35, 36, 37, 38] (by decide +kernel) (by decide +kernel)
set_option maxRecDepth 20000 in
theorem gX4_endRepairs_X1_release : GoodIn wsX4_endRepairs (wsV RX4 243 RX1 yX1_release wsX1_release) := goodIn_app (goodIn_of _ (by decide +kernel)) ggX4_endRepairs_X1_release
theorem dX4_endRepairs_0 : decode cX4_endRepairs 0 = .ok (.iconst 0, 1) := by decide +kernel
theorem dX4_endRepairs_1 : decode cX4_endRepairs 1 = .ok (.istore_n 1, 1) := by decide +kernel
theorem dX4_endRepairs_2 : decode cX4_endRepairs 2 = .ok (.iload_n 1, 1) := by decide +kernel
theorem dX4_endRepairs_3 : decode cX4_endRepairs 3 = .ok (.iconst 3, 1) := by decide +kernel
theorem dX4_endRepairs_4 : decode cX4_endRepairs 4 = .ok (.if_icmp .ge 43, 3) := by decide +kernel
theorem dX4_endRepairs_7 : decode cX4_endRepairs 7 = .ok (.aload_n 0, 1) := by decide +kernel
theorem dX4_endRepairs_8 : decode cX4_endRepairs 8 = .ok (.getfield 26, 3) := by decide +kernel
theorem dX4_endRepairs_11 : decode cX4_endRepairs 11 = .ok (.iload_n 1, 1) := by decide +kernel
theorem dX4_endRepairs_12 : decode cX4_endRepairs 12 = .ok (.invokevirtual 237, 3) := by decide +kernel
theorem dX4_endRepairs_15 : decode cX4_endRepairs 15 = .ok (.ifCond .eq 26, 3) := by decide +kernel
theorem dX4_endRepairs_18 : decode cX4_endRepairs 18 = .ok (.aload_n 0, 1) := by decide +kernel
theorem dX4_endRepairs_19 : decode cX4_endRepairs 19 = .ok (.getfield 19, 3) := by decide +kernel
theorem dX4_endRepairs_22 : decode cX4_endRepairs 22 = .ok (.aload_n 0, 1) := by decide +kernel
theorem dX4_endRepairs_23 : decode cX4_endRepairs 23 = .ok (.getfield 26, 3) := by decide +kernel
theorem dX4_endRepairs_26 : decode cX4_endRepairs 26 = .ok (.iload_n 1, 1) := by decide +kernel
theorem dX4_endRepairs_27 : decode cX4_endRepairs 27 = .ok (.invokevirtual 188, 3) := by decide +kernel
theorem dX4_endRepairs_30 : decode cX4_endRepairs 30 = .ok (.invokevirtual 240, 3) := by decide +kernel
theorem dX4_endRepairs_33 : decode cX4_endRepairs 33 = .ok (.aload_n 0, 1) := by decide +kernel
theorem dX4_endRepairs_34 : decode cX4_endRepairs 34 = .ok (.getfield 26, 3) := by decide +kernel
theorem dX4_endRepairs_37 : decode cX4_endRepairs 37 = .ok (.iload_n 1, 1) := by decide +kernel
theorem dX4_endRepairs_38 : decode cX4_endRepairs 38 = .ok (.invokevirtual 243, 3) := by decide +kernel
theorem dX4_endRepairs_41 : decode cX4_endRepairs 41 = .ok (.iinc 1 1, 3) := by decide +kernel
theorem dX4_endRepairs_44 : decode cX4_endRepairs 44 = .ok (.goto (-42), 3) := by decide +kernel
theorem dX4_endRepairs_47 : decode cX4_endRepairs 47 = .ok (.return_, 1) := by decide +kernel
end
section
/-! printed: names, fields, word lists, decode rows (out of claim/NAMES.whole.lean.txt) -/
theorem dX5_init_0 : decode cX5_init 0 = .ok (.aload_n 0, 1) := by decide +kernel
theorem dX5_init_1 : decode cX5_init 1 = .ok (.invokespecial 1, 3) := by decide +kernel
theorem dX5_init_4 : decode cX5_init 4 = .ok (.aload_n 0, 1) := by decide +kernel
theorem dX5_init_5 : decode cX5_init 5 = .ok (.bipush 12, 2) := by decide +kernel
theorem dX5_init_7 : decode cX5_init 7 = .ok (.newarray .int, 2) := by decide +kernel
theorem dX5_init_9 : decode cX5_init 9 = .ok (.putfield 7, 3) := by decide +kernel
theorem dX5_init_12 : decode cX5_init 12 = .ok (.aload_n 0, 1) := by decide +kernel
theorem dX5_init_13 : decode cX5_init 13 = .ok (.bipush 12, 2) := by decide +kernel
theorem dX5_init_15 : decode cX5_init 15 = .ok (.newarray .int, 2) := by decide +kernel
theorem dX5_init_17 : decode cX5_init 17 = .ok (.putfield 13, 3) := by decide +kernel
theorem dX5_init_20 : decode cX5_init 20 = .ok (.aload_n 0, 1) := by decide +kernel
theorem dX5_init_21 : decode cX5_init 21 = .ok (.bipush 12, 2) := by decide +kernel
theorem dX5_init_23 : decode cX5_init 23 = .ok (.newarray .int, 2) := by decide +kernel
theorem dX5_init_25 : decode cX5_init 25 = .ok (.putfield 16, 3) := by decide +kernel
theorem dX5_init_28 : decode cX5_init 28 = .ok (.aload_n 0, 1) := by decide +kernel
theorem dX5_init_29 : decode cX5_init 29 = .ok (.bipush 12, 2) := by decide +kernel
theorem dX5_init_31 : decode cX5_init 31 = .ok (.newarray .int, 2) := by decide +kernel
theorem dX5_init_33 : decode cX5_init 33 = .ok (.putfield 19, 3) := by decide +kernel
theorem dX5_init_36 : decode cX5_init 36 = .ok (.aload_n 0, 1) := by decide +kernel
theorem dX5_init_37 : decode cX5_init 37 = .ok (.sipush 480, 3) := by decide +kernel
theorem dX5_init_40 : decode cX5_init 40 = .ok (.newarray .int, 2) := by decide +kernel
theorem dX5_init_42 : decode cX5_init 42 = .ok (.putfield 22, 3) := by decide +kernel
theorem dX5_init_45 : decode cX5_init 45 = .ok (.aload_n 0, 1) := by decide +kernel
theorem dX5_init_46 : decode cX5_init 46 = .ok (.sipush 480, 3) := by decide +kernel
theorem dX5_init_49 : decode cX5_init 49 = .ok (.newarray .int, 2) := by decide +kernel
theorem dX5_init_51 : decode cX5_init 51 = .ok (.putfield 25, 3) := by decide +kernel
theorem dX5_init_54 : decode cX5_init 54 = .ok (.aload_n 0, 1) := by decide +kernel
theorem dX5_init_55 : decode cX5_init 55 = .ok (.sipush 480, 3) := by decide +kernel
theorem dX5_init_58 : decode cX5_init 58 = .ok (.newarray .int, 2) := by decide +kernel
theorem dX5_init_60 : decode cX5_init 60 = .ok (.putfield 28, 3) := by decide +kernel
theorem dX5_init_63 : decode cX5_init 63 = .ok (.aload_n 0, 1) := by decide +kernel
theorem dX5_init_64 : decode cX5_init 64 = .ok (.sipush 480, 3) := by decide +kernel
theorem dX5_init_67 : decode cX5_init 67 = .ok (.newarray .int, 2) := by decide +kernel
theorem dX5_init_69 : decode cX5_init 69 = .ok (.putfield 31, 3) := by decide +kernel
theorem dX5_init_72 : decode cX5_init 72 = .ok (.aload_n 0, 1) := by decide +kernel
theorem dX5_init_73 : decode cX5_init 73 = .ok (.sipush 480, 3) := by decide +kernel
theorem dX5_init_76 : decode cX5_init 76 = .ok (.newarray .int, 2) := by decide +kernel
theorem dX5_init_78 : decode cX5_init 78 = .ok (.putfield 34, 3) := by decide +kernel
theorem dX5_init_81 : decode cX5_init 81 = .ok (.aload_n 0, 1) := by decide +kernel
theorem dX5_init_82 : decode cX5_init 82 = .ok (.sipush 480, 3) := by decide +kernel
theorem dX5_init_85 : decode cX5_init 85 = .ok (.newarray .int, 2) := by decide +kernel
theorem dX5_init_87 : decode cX5_init 87 = .ok (.putfield 37, 3) := by decide +kernel
theorem dX5_init_90 : decode cX5_init 90 = .ok (.aload_n 0, 1) := by decide +kernel
theorem dX5_init_91 : decode cX5_init 91 = .ok (.sipush 480, 3) := by decide +kernel
theorem dX5_init_94 : decode cX5_init 94 = .ok (.newarray .int, 2) := by decide +kernel
theorem dX5_init_96 : decode cX5_init 96 = .ok (.putfield 40, 3) := by decide +kernel
theorem dX5_init_99 : decode cX5_init 99 = .ok (.aload_n 0, 1) := by decide +kernel
theorem dX5_init_100 : decode cX5_init 100 = .ok (.iconst 3, 1) := by decide +kernel
theorem dX5_init_101 : decode cX5_init 101 = .ok (.newarray .int, 2) := by decide +kernel
theorem dX5_init_103 : decode cX5_init 103 = .ok (.putfield 43, 3) := by decide +kernel
theorem dX5_init_106 : decode cX5_init 106 = .ok (.aload_n 0, 1) := by decide +kernel
theorem dX5_init_107 : decode cX5_init 107 = .ok (.iconst 3, 1) := by decide +kernel
theorem dX5_init_108 : decode cX5_init 108 = .ok (.newarray .int, 2) := by decide +kernel
theorem dX5_init_110 : decode cX5_init 110 = .ok (.putfield 46, 3) := by decide +kernel
theorem dX5_init_113 : decode cX5_init 113 = .ok (.aload_n 0, 1) := by decide +kernel
theorem dX5_init_114 : decode cX5_init 114 = .ok (.iconst 3, 1) := by decide +kernel
theorem dX5_init_115 : decode cX5_init 115 = .ok (.newarray .int, 2) := by decide +kernel
theorem dX5_init_117 : decode cX5_init 117 = .ok (.putfield 49, 3) := by decide +kernel
theorem dX5_init_120 : decode cX5_init 120 = .ok (.aload_n 0, 1) := by decide +kernel
theorem dX5_init_121 : decode cX5_init 121 = .ok (.iconst 3, 1) := by decide +kernel
theorem dX5_init_122 : decode cX5_init 122 = .ok (.newarray .int, 2) := by decide +kernel
theorem dX5_init_124 : decode cX5_init 124 = .ok (.putfield 52, 3) := by decide +kernel
theorem dX5_init_127 : decode cX5_init 127 = .ok (.aload_n 0, 1) := by decide +kernel
theorem dX5_init_128 : decode cX5_init 128 = .ok (.iconst 3, 1) := by decide +kernel
theorem dX5_init_129 : decode cX5_init 129 = .ok (.newarray .int, 2) := by decide +kernel
theorem dX5_init_131 : decode cX5_init 131 = .ok (.putfield 55, 3) := by decide +kernel
theorem dX5_init_134 : decode cX5_init 134 = .ok (.iconst 0, 1) := by decide +kernel
theorem dX5_init_135 : decode cX5_init 135 = .ok (.istore_n 1, 1) := by decide +kernel
theorem dX5_init_136 : decode cX5_init 136 = .ok (.iload_n 1, 1) := by decide +kernel
theorem dX5_init_137 : decode cX5_init 137 = .ok (.sipush 480, 3) := by decide +kernel
theorem dX5_init_140 : decode cX5_init 140 = .ok (.if_icmp .ge 38, 3) := by decide +kernel
theorem dX5_init_143 : decode cX5_init 143 = .ok (.aload_n 0, 1) := by decide +kernel
theorem dX5_init_144 : decode cX5_init 144 = .ok (.getfield 22, 3) := by decide +kernel
theorem dX5_init_147 : decode cX5_init 147 = .ok (.iload_n 1, 1) := by decide +kernel
theorem dX5_init_148 : decode cX5_init 148 = .ok (.bipush 10, 2) := by decide +kernel
theorem dX5_init_150 : decode cX5_init 150 = .ok (.iastore, 1) := by decide +kernel
theorem dX5_init_151 : decode cX5_init 151 = .ok (.aload_n 0, 1) := by decide +kernel
theorem dX5_init_152 : decode cX5_init 152 = .ok (.getfield 28, 3) := by decide +kernel
theorem dX5_init_155 : decode cX5_init 155 = .ok (.iload_n 1, 1) := by decide +kernel
theorem dX5_init_156 : decode cX5_init 156 = .ok (.iconst (-1), 1) := by decide +kernel
theorem dX5_init_157 : decode cX5_init 157 = .ok (.iastore, 1) := by decide +kernel
theorem dX5_init_158 : decode cX5_init 158 = .ok (.aload_n 0, 1) := by decide +kernel
theorem dX5_init_159 : decode cX5_init 159 = .ok (.getfield 31, 3) := by decide +kernel
theorem dX5_init_162 : decode cX5_init 162 = .ok (.iload_n 1, 1) := by decide +kernel
theorem dX5_init_163 : decode cX5_init 163 = .ok (.iconst (-1), 1) := by decide +kernel
theorem dX5_init_164 : decode cX5_init 164 = .ok (.iastore, 1) := by decide +kernel
theorem dX5_init_165 : decode cX5_init 165 = .ok (.aload_n 0, 1) := by decide +kernel
theorem dX5_init_166 : decode cX5_init 166 = .ok (.getfield 34, 3) := by decide +kernel
theorem dX5_init_169 : decode cX5_init 169 = .ok (.iload_n 1, 1) := by decide +kernel
theorem dX5_init_170 : decode cX5_init 170 = .ok (.iconst 2, 1) := by decide +kernel
theorem dX5_init_171 : decode cX5_init 171 = .ok (.iastore, 1) := by decide +kernel
theorem dX5_init_172 : decode cX5_init 172 = .ok (.iinc 1 1, 3) := by decide +kernel
theorem dX5_init_175 : decode cX5_init 175 = .ok (.goto (-39), 3) := by decide +kernel
theorem dX5_init_178 : decode cX5_init 178 = .ok (.iconst 0, 1) := by decide +kernel
theorem dX5_init_179 : decode cX5_init 179 = .ok (.istore_n 1, 1) := by decide +kernel
theorem dX5_init_180 : decode cX5_init 180 = .ok (.iload_n 1, 1) := by decide +kernel
theorem dX5_init_181 : decode cX5_init 181 = .ok (.iconst 3, 1) := by decide +kernel
theorem dX5_init_182 : decode cX5_init 182 = .ok (.if_icmp .ge 24, 3) := by decide +kernel
theorem dX5_init_185 : decode cX5_init 185 = .ok (.aload_n 0, 1) := by decide +kernel
theorem dX5_init_186 : decode cX5_init 186 = .ok (.getfield 43, 3) := by decide +kernel
theorem dX5_init_189 : decode cX5_init 189 = .ok (.iload_n 1, 1) := by decide +kernel
theorem dX5_init_190 : decode cX5_init 190 = .ok (.bipush 8, 2) := by decide +kernel
theorem dX5_init_192 : decode cX5_init 192 = .ok (.iastore, 1) := by decide +kernel
theorem dX5_init_193 : decode cX5_init 193 = .ok (.aload_n 0, 1) := by decide +kernel
theorem dX5_init_194 : decode cX5_init 194 = .ok (.getfield 46, 3) := by decide +kernel
theorem dX5_init_197 : decode cX5_init 197 = .ok (.iload_n 1, 1) := by decide +kernel
theorem dX5_init_198 : decode cX5_init 198 = .ok (.iconst (-1), 1) := by decide +kernel
theorem dX5_init_199 : decode cX5_init 199 = .ok (.iastore, 1) := by decide +kernel
theorem dX5_init_200 : decode cX5_init 200 = .ok (.iinc 1 1, 3) := by decide +kernel
theorem dX5_init_203 : decode cX5_init 203 = .ok (.goto (-23), 3) := by decide +kernel
theorem dX5_init_206 : decode cX5_init 206 = .ok (.return_, 1) := by decide +kernel
theorem dX5_thrown_0 : decode cX5_thrown 0 = .ok (.aload_n 0, 1) := by decide +kernel
theorem dX5_thrown_1 : decode cX5_thrown 1 = .ok (.getfield 58, 3) := by decide +kernel
theorem dX5_thrown_4 : decode cX5_thrown 4 = .ok (.ireturn, 1) := by decide +kernel
theorem dX5_fails_0 : decode cX5_fails 0 = .ok (.aload_n 0, 1) := by decide +kernel
theorem dX5_fails_1 : decode cX5_fails 1 = .ok (.iload_n 1, 1) := by decide +kernel
theorem dX5_fails_2 : decode cX5_fails 2 = .ok (.putfield 58, 3) := by decide +kernel
theorem dX5_fails_5 : decode cX5_fails 5 = .ok (.iload_n 1, 1) := by decide +kernel
theorem dX5_fails_6 : decode cX5_fails 6 = .ok (.ifCond .le 7, 3) := by decide +kernel
theorem dX5_fails_9 : decode cX5_fails 9 = .ok (.iconst 1, 1) := by decide +kernel
theorem dX5_fails_10 : decode cX5_fails 10 = .ok (.goto 4, 3) := by decide +kernel
theorem dX5_fails_13 : decode cX5_fails 13 = .ok (.iconst 0, 1) := by decide +kernel
theorem dX5_fails_14 : decode cX5_fails 14 = .ok (.ireturn, 1) := by decide +kernel
theorem dX5_in_0 : decode cX5_in 0 = .ok (.iload_n 1, 1) := by decide +kernel
theorem dX5_in_1 : decode cX5_in 1 = .ok (.iload_n 2, 1) := by decide +kernel
theorem dX5_in_2 : decode cX5_in 2 = .ok (.if_icmp .lt 12, 3) := by decide +kernel
theorem dX5_in_5 : decode cX5_in 5 = .ok (.iload_n 1, 1) := by decide +kernel
theorem dX5_in_6 : decode cX5_in 6 = .ok (.iload_n 3, 1) := by decide +kernel
theorem dX5_in_7 : decode cX5_in 7 = .ok (.if_icmp .gt 7, 3) := by decide +kernel
theorem dX5_in_10 : decode cX5_in 10 = .ok (.iconst 1, 1) := by decide +kernel
theorem dX5_in_11 : decode cX5_in 11 = .ok (.goto 4, 3) := by decide +kernel
theorem dX5_in_14 : decode cX5_in 14 = .ok (.iconst 0, 1) := by decide +kernel
theorem dX5_in_15 : decode cX5_in 15 = .ok (.ireturn, 1) := by decide +kernel
set_option maxRecDepth 20000 in
theorem ggX5_isTurbine_X5_in : GoodIn wsX5_isTurbine wsX5_in := goodIn_r _ [6] (by decide +kernel) (by decide +kernel)
set_option maxRecDepth 20000 in
theorem gX5_isTurbine_X5_in : GoodIn wsX5_isTurbine (wsV RX5 65 RX5 yX5_in wsX5_in) := goodIn_app (goodIn_of _ (by decide +kernel)) ggX5_isTurbine_X5_in
theorem dX5_isTurbine_0 : decode cX5_isTurbine 0 = .ok (.aload_n 0, 1) := by decide +kernel
theorem dX5_isTurbine_1 : decode cX5_isTurbine 1 = .ok (.iload_n 1, 1) := by decide +kernel
theorem dX5_isTurbine_2 : decode cX5_isTurbine 2 = .ok (.iconst 0, 1) := by decide +kernel
theorem dX5_isTurbine_3 : decode cX5_isTurbine 3 = .ok (.aload_n 0, 1) := by decide +kernel
theorem dX5_isTurbine_4 : decode cX5_isTurbine 4 = .ok (.getfield 62, 3) := by decide +kernel
theorem dX5_isTurbine_7 : decode cX5_isTurbine 7 = .ok (.iconst 1, 1) := by decide +kernel
theorem dX5_isTurbine_8 : decode cX5_isTurbine 8 = .ok (.isub, 1) := by decide +kernel
theorem dX5_isTurbine_9 : decode cX5_isTurbine 9 = .ok (.invokevirtual 65, 3) := by decide +kernel
theorem dX5_isTurbine_12 : decode cX5_isTurbine 12 = .ok (.ireturn, 1) := by decide +kernel
set_option maxRecDepth 20000 in
theorem ggX5_turbine_X5_in : GoodIn wsX5_turbine wsX5_in := goodIn_r _ [7] (by decide +kernel) (by decide +kernel)
set_option maxRecDepth 20000 in
theorem gX5_turbine_X5_in : GoodIn wsX5_turbine (wsV RX5 65 RX5 yX5_in wsX5_in) := goodIn_app (goodIn_of _ (by decide +kernel)) ggX5_turbine_X5_in
set_option maxRecDepth 20000 in
theorem ggX5_turbine_X5_fails : GoodIn wsX5_turbine wsX5_fails := goodIn_r _ [11, 12, 13, 14, 15, 16, 17, 18, 19, 20, 21, 22, 23, 24, 25, 26, 27, 28, 29, 30, 31] (by decide +kernel) (by decide +kernel)
set_option maxRecDepth 20000 in
theorem gX5_turbine_X5_fails : GoodIn wsX5_turbine (wsV RX5 69 RX5 yX5_fails wsX5_fails) := goodIn_app (goodIn_of _ (by decide +kernel)) ggX5_turbine_X5_fails
theorem dX5_turbine_0 : decode cX5_turbine 0 = .ok (.iconst 0, 1) := by decide +kernel
theorem dX5_turbine_1 : decode cX5_turbine 1 = .ok (.istore_n 2, 1) := by decide +kernel
theorem dX5_turbine_2 : decode cX5_turbine 2 = .ok (.iconst 0, 1) := by decide +kernel
theorem dX5_turbine_3 : decode cX5_turbine 3 = .ok (.istore_n 3, 1) := by decide +kernel
theorem dX5_turbine_4 : decode cX5_turbine 4 = .ok (.iload_n 3, 1) := by decide +kernel
theorem dX5_turbine_5 : decode cX5_turbine 5 = .ok (.aload_n 0, 1) := by decide +kernel
theorem dX5_turbine_6 : decode cX5_turbine 6 = .ok (.getfield 62, 3) := by decide +kernel
theorem dX5_turbine_9 : decode cX5_turbine 9 = .ok (.if_icmp .ge 27, 3) := by decide +kernel
theorem dX5_turbine_12 : decode cX5_turbine 12 = .ok (.iload_n 2, 1) := by decide +kernel
theorem dX5_turbine_13 : decode cX5_turbine 13 = .ok (.aload_n 0, 1) := by decide +kernel
theorem dX5_turbine_14 : decode cX5_turbine 14 = .ok (.getfield 7, 3) := by decide +kernel
theorem dX5_turbine_17 : decode cX5_turbine 17 = .ok (.iload_n 3, 1) := by decide +kernel
theorem dX5_turbine_18 : decode cX5_turbine 18 = .ok (.iaload, 1) := by decide +kernel
theorem dX5_turbine_19 : decode cX5_turbine 19 = .ok (.iload_n 1, 1) := by decide +kernel
theorem dX5_turbine_20 : decode cX5_turbine 20 = .ok (.if_icmp .ne 7, 3) := by decide +kernel
theorem dX5_turbine_23 : decode cX5_turbine 23 = .ok (.iconst 1, 1) := by decide +kernel
theorem dX5_turbine_24 : decode cX5_turbine 24 = .ok (.goto 4, 3) := by decide +kernel
theorem dX5_turbine_27 : decode cX5_turbine 27 = .ok (.iconst 0, 1) := by decide +kernel
theorem dX5_turbine_28 : decode cX5_turbine 28 = .ok (.ior, 1) := by decide +kernel
theorem dX5_turbine_29 : decode cX5_turbine 29 = .ok (.istore_n 2, 1) := by decide +kernel
theorem dX5_turbine_30 : decode cX5_turbine 30 = .ok (.iinc 3 1, 3) := by decide +kernel
theorem dX5_turbine_33 : decode cX5_turbine 33 = .ok (.goto (-29), 3) := by decide +kernel
theorem dX5_turbine_36 : decode cX5_turbine 36 = .ok (.aload_n 0, 1) := by decide +kernel
theorem dX5_turbine_37 : decode cX5_turbine 37 = .ok (.aload_n 0, 1) := by decide +kernel
theorem dX5_turbine_38 : decode cX5_turbine 38 = .ok (.iload_n 1, 1) := by decide +kernel
theorem dX5_turbine_39 : decode cX5_turbine 39 = .ok (.iconst 0, 1) := by decide +kernel
theorem dX5_turbine_40 : decode cX5_turbine 40 = .ok (.bipush 23, 2) := by decide +kernel
theorem dX5_turbine_42 : decode cX5_turbine 42 = .ok (.invokevirtual 65, 3) := by decide +kernel
theorem dX5_turbine_45 : decode cX5_turbine 45 = .ok (.ifCond .ne 7, 3) := by decide +kernel
theorem dX5_turbine_48 : decode cX5_turbine 48 = .ok (.iconst 1, 1) := by decide +kernel
theorem dX5_turbine_49 : decode cX5_turbine 49 = .ok (.goto 21, 3) := by decide +kernel
theorem dX5_turbine_52 : decode cX5_turbine 52 = .ok (.iload_n 2, 1) := by decide +kernel
theorem dX5_turbine_53 : decode cX5_turbine 53 = .ok (.ifCond .ne 12, 3) := by decide +kernel
theorem dX5_turbine_56 : decode cX5_turbine 56 = .ok (.aload_n 0, 1) := by decide +kernel
theorem dX5_turbine_57 : decode cX5_turbine 57 = .ok (.getfield 62, 3) := by decide +kernel
theorem dX5_turbine_60 : decode cX5_turbine 60 = .ok (.bipush 12, 2) := by decide +kernel
theorem dX5_turbine_62 : decode cX5_turbine 62 = .ok (.if_icmp .ne 7, 3) := by decide +kernel
theorem dX5_turbine_65 : decode cX5_turbine 65 = .ok (.iconst 2, 1) := by decide +kernel
theorem dX5_turbine_66 : decode cX5_turbine 66 = .ok (.goto 4, 3) := by decide +kernel
theorem dX5_turbine_69 : decode cX5_turbine 69 = .ok (.iconst 0, 1) := by decide +kernel
theorem dX5_turbine_70 : decode cX5_turbine 70 = .ok (.invokevirtual 69, 3) := by decide +kernel
theorem dX5_turbine_73 : decode cX5_turbine 73 = .ok (.ifCond .eq 5, 3) := by decide +kernel
theorem dX5_turbine_76 : decode cX5_turbine 76 = .ok (.iconst (-1), 1) := by decide +kernel
theorem dX5_turbine_77 : decode cX5_turbine 77 = .ok (.ireturn, 1) := by decide +kernel
theorem dX5_turbine_78 : decode cX5_turbine 78 = .ok (.aload_n 0, 1) := by decide +kernel
theorem dX5_turbine_79 : decode cX5_turbine 79 = .ok (.getfield 7, 3) := by decide +kernel
theorem dX5_turbine_82 : decode cX5_turbine 82 = .ok (.aload_n 0, 1) := by decide +kernel
theorem dX5_turbine_83 : decode cX5_turbine 83 = .ok (.getfield 62, 3) := by decide +kernel
theorem dX5_turbine_86 : decode cX5_turbine 86 = .ok (.iload_n 1, 1) := by decide +kernel
theorem dX5_turbine_87 : decode cX5_turbine 87 = .ok (.iastore, 1) := by decide +kernel
theorem dX5_turbine_88 : decode cX5_turbine 88 = .ok (.aload_n 0, 1) := by decide +kernel
theorem dX5_turbine_89 : decode cX5_turbine 89 = .ok (.dup, 1) := by decide +kernel
theorem dX5_turbine_90 : decode cX5_turbine 90 = .ok (.getfield 62, 3) := by decide +kernel
theorem dX5_turbine_93 : decode cX5_turbine 93 = .ok (.iconst 1, 1) := by decide +kernel
theorem dX5_turbine_94 : decode cX5_turbine 94 = .ok (.iadd, 1) := by decide +kernel
theorem dX5_turbine_95 : decode cX5_turbine 95 = .ok (.putfield 62, 3) := by decide +kernel
theorem dX5_turbine_98 : decode cX5_turbine 98 = .ok (.aload_n 0, 1) := by decide +kernel
theorem dX5_turbine_99 : decode cX5_turbine 99 = .ok (.getfield 62, 3) := by decide +kernel
theorem dX5_turbine_102 : decode cX5_turbine 102 = .ok (.iconst 1, 1) := by decide +kernel
theorem dX5_turbine_103 : decode cX5_turbine 103 = .ok (.isub, 1) := by decide +kernel
theorem dX5_turbine_104 : decode cX5_turbine 104 = .ok (.ireturn, 1) := by decide +kernel
set_option maxRecDepth 20000 in
theorem ggX5_wind_X5_in : GoodIn wsX5_wind wsX5_in := goodIn_r _ [8] (by decide +kernel) (by decide +kernel)
set_option maxRecDepth 20000 in
theorem gX5_wind_X5_in : GoodIn wsX5_wind (wsV RX5 65 RX5 yX5_in wsX5_in) := goodIn_app (goodIn_of _ (by decide +kernel)) ggX5_wind_X5_in
set_option maxRecDepth 20000 in
theorem ggX5_wind_X5_fails : GoodIn wsX5_wind wsX5_fails := goodIn_r _ [12, 13, 14, 15, 16, 17, 18, 19, 20, 21, 22, 23, 24, 25, 26, 27, 28, 29, 30, 31, 32] (by decide +kernel) (by decide +kernel)
set_option maxRecDepth 20000 in
theorem gX5_wind_X5_fails : GoodIn wsX5_wind (wsV RX5 69 RX5 yX5_fails wsX5_fails) := goodIn_app (goodIn_of _ (by decide +kernel)) ggX5_wind_X5_fails
theorem dX5_wind_0 : decode cX5_wind 0 = .ok (.aload_n 0, 1) := by decide +kernel
theorem dX5_wind_1 : decode cX5_wind 1 = .ok (.iload_n 1, 1) := by decide +kernel
theorem dX5_wind_2 : decode cX5_wind 2 = .ok (.aload_n 0, 1) := by decide +kernel
theorem dX5_wind_3 : decode cX5_wind 3 = .ok (.getfield 73, 3) := by decide +kernel
theorem dX5_wind_6 : decode cX5_wind 6 = .ok (.sipush 479, 3) := by decide +kernel
theorem dX5_wind_9 : decode cX5_wind 9 = .ok (.invokevirtual 65, 3) := by decide +kernel
theorem dX5_wind_12 : decode cX5_wind 12 = .ok (.ifCond .eq 30, 3) := by decide +kernel
theorem dX5_wind_15 : decode cX5_wind 15 = .ok (.aload_n 0, 1) := by decide +kernel
theorem dX5_wind_16 : decode cX5_wind 16 = .ok (.iload_n 2, 1) := by decide +kernel
theorem dX5_wind_17 : decode cX5_wind 17 = .ok (.iload_n 1, 1) := by decide +kernel
theorem dX5_wind_18 : decode cX5_wind 18 = .ok (.sipush 479, 3) := by decide +kernel
theorem dX5_wind_21 : decode cX5_wind 21 = .ok (.invokevirtual 65, 3) := by decide +kernel
theorem dX5_wind_24 : decode cX5_wind 24 = .ok (.ifCond .eq 18, 3) := by decide +kernel
theorem dX5_wind_27 : decode cX5_wind 27 = .ok (.aload_n 0, 1) := by decide +kernel
theorem dX5_wind_28 : decode cX5_wind 28 = .ok (.iload_n 3, 1) := by decide +kernel
theorem dX5_wind_29 : decode cX5_wind 29 = .ok (.iconst 0, 1) := by decide +kernel
theorem dX5_wind_30 : decode cX5_wind 30 = .ok (.bipush 40, 2) := by decide +kernel
theorem dX5_wind_32 : decode cX5_wind 32 = .ok (.invokevirtual 65, 3) := by decide +kernel
theorem dX5_wind_35 : decode cX5_wind 35 = .ok (.ifCond .eq 7, 3) := by decide +kernel
theorem dX5_wind_38 : decode cX5_wind 38 = .ok (.iconst 1, 1) := by decide +kernel
theorem dX5_wind_39 : decode cX5_wind 39 = .ok (.goto 4, 3) := by decide +kernel
theorem dX5_wind_42 : decode cX5_wind 42 = .ok (.iconst 0, 1) := by decide +kernel
theorem dX5_wind_43 : decode cX5_wind 43 = .ok (.istore 5, 2) := by decide +kernel
theorem dX5_wind_45 : decode cX5_wind 45 = .ok (.aload_n 0, 1) := by decide +kernel
theorem dX5_wind_46 : decode cX5_wind 46 = .ok (.iload 5, 2) := by decide +kernel
theorem dX5_wind_48 : decode cX5_wind 48 = .ok (.ifCond .eq 7, 3) := by decide +kernel
theorem dX5_wind_51 : decode cX5_wind 51 = .ok (.iconst 0, 1) := by decide +kernel
theorem dX5_wind_52 : decode cX5_wind 52 = .ok (.goto 4, 3) := by decide +kernel
theorem dX5_wind_55 : decode cX5_wind 55 = .ok (.iconst 1, 1) := by decide +kernel
theorem dX5_wind_56 : decode cX5_wind 56 = .ok (.invokevirtual 69, 3) := by decide +kernel
theorem dX5_wind_59 : decode cX5_wind 59 = .ok (.ifCond .eq 5, 3) := by decide +kernel
theorem dX5_wind_62 : decode cX5_wind 62 = .ok (.iconst (-1), 1) := by decide +kernel
theorem dX5_wind_63 : decode cX5_wind 63 = .ok (.ireturn, 1) := by decide +kernel
theorem dX5_wind_64 : decode cX5_wind 64 = .ok (.iload_n 1, 1) := by decide +kernel
theorem dX5_wind_65 : decode cX5_wind 65 = .ok (.istore 6, 2) := by decide +kernel
theorem dX5_wind_67 : decode cX5_wind 67 = .ok (.iload 6, 2) := by decide +kernel
theorem dX5_wind_69 : decode cX5_wind 69 = .ok (.iload_n 2, 1) := by decide +kernel
theorem dX5_wind_70 : decode cX5_wind 70 = .ok (.if_icmp .gt 34, 3) := by decide +kernel
theorem dX5_wind_73 : decode cX5_wind 73 = .ok (.aload_n 0, 1) := by decide +kernel
theorem dX5_wind_74 : decode cX5_wind 74 = .ok (.getfield 22, 3) := by decide +kernel
theorem dX5_wind_77 : decode cX5_wind 77 = .ok (.iload 6, 2) := by decide +kernel
theorem dX5_wind_79 : decode cX5_wind 79 = .ok (.iload_n 3, 1) := by decide +kernel
theorem dX5_wind_80 : decode cX5_wind 80 = .ok (.iastore, 1) := by decide +kernel
theorem dX5_wind_81 : decode cX5_wind 81 = .ok (.aload_n 0, 1) := by decide +kernel
theorem dX5_wind_82 : decode cX5_wind 82 = .ok (.getfield 25, 3) := by decide +kernel
theorem dX5_wind_85 : decode cX5_wind 85 = .ok (.iload 6, 2) := by decide +kernel
theorem dX5_wind_87 : decode cX5_wind 87 = .ok (.iload 4, 2) := by decide +kernel
theorem dX5_wind_89 : decode cX5_wind 89 = .ok (.ifCond .eq 7, 3) := by decide +kernel
theorem dX5_wind_92 : decode cX5_wind 92 = .ok (.iconst 1, 1) := by decide +kernel
theorem dX5_wind_93 : decode cX5_wind 93 = .ok (.goto 4, 3) := by decide +kernel
theorem dX5_wind_96 : decode cX5_wind 96 = .ok (.iconst 0, 1) := by decide +kernel
theorem dX5_wind_97 : decode cX5_wind 97 = .ok (.iastore, 1) := by decide +kernel
theorem dX5_wind_98 : decode cX5_wind 98 = .ok (.iinc 6 1, 3) := by decide +kernel
theorem dX5_wind_101 : decode cX5_wind 101 = .ok (.goto (-34), 3) := by decide +kernel
theorem dX5_wind_104 : decode cX5_wind 104 = .ok (.iload_n 2, 1) := by decide +kernel
theorem dX5_wind_105 : decode cX5_wind 105 = .ok (.iload_n 1, 1) := by decide +kernel
theorem dX5_wind_106 : decode cX5_wind 106 = .ok (.isub, 1) := by decide +kernel
theorem dX5_wind_107 : decode cX5_wind 107 = .ok (.iconst 1, 1) := by decide +kernel
theorem dX5_wind_108 : decode cX5_wind 108 = .ok (.iadd, 1) := by decide +kernel
theorem dX5_wind_109 : decode cX5_wind 109 = .ok (.ireturn, 1) := by decide +kernel
theorem dX5_wavesOf_0 : decode cX5_wavesOf 0 = .ok (.aload_n 0, 1) := by decide +kernel
theorem dX5_wavesOf_1 : decode cX5_wavesOf 1 = .ok (.getfield 28, 3) := by decide +kernel
theorem dX5_wavesOf_4 : decode cX5_wavesOf 4 = .ok (.iload_n 1, 1) := by decide +kernel
theorem dX5_wavesOf_5 : decode cX5_wavesOf 5 = .ok (.iaload, 1) := by decide +kernel
theorem dX5_wavesOf_6 : decode cX5_wavesOf 6 = .ok (.ifCond .ge 14, 3) := by decide +kernel
theorem dX5_wavesOf_9 : decode cX5_wavesOf 9 = .ok (.aload_n 0, 1) := by decide +kernel
theorem dX5_wavesOf_10 : decode cX5_wavesOf 10 = .ok (.getfield 22, 3) := by decide +kernel
theorem dX5_wavesOf_13 : decode cX5_wavesOf 13 = .ok (.iload_n 1, 1) := by decide +kernel
theorem dX5_wavesOf_14 : decode cX5_wavesOf 14 = .ok (.iaload, 1) := by decide +kernel
theorem dX5_wavesOf_15 : decode cX5_wavesOf 15 = .ok (.iconst 3, 1) := by decide +kernel
theorem dX5_wavesOf_16 : decode cX5_wavesOf 16 = .ok (.idiv, 1) := by decide +kernel
theorem dX5_wavesOf_17 : decode cX5_wavesOf 17 = .ok (.goto 9, 3) := by decide +kernel
theorem dX5_wavesOf_20 : decode cX5_wavesOf 20 = .ok (.aload_n 0, 1) := by decide +kernel
theorem dX5_wavesOf_21 : decode cX5_wavesOf 21 = .ok (.getfield 28, 3) := by decide +kernel
theorem dX5_wavesOf_24 : decode cX5_wavesOf 24 = .ok (.iload_n 1, 1) := by decide +kernel
theorem dX5_wavesOf_25 : decode cX5_wavesOf 25 = .ok (.iaload, 1) := by decide +kernel
theorem dX5_wavesOf_26 : decode cX5_wavesOf 26 = .ok (.ireturn, 1) := by decide +kernel
set_option maxRecDepth 20000 in
theorem ggX5_waves_X5_in : GoodIn wsX5_waves wsX5_in := goodIn_r _ [7] (by decide +kernel) (by decide +kernel)
set_option maxRecDepth 20000 in
theorem gX5_waves_X5_in : GoodIn wsX5_waves (wsV RX5 65 RX5 yX5_in wsX5_in) := goodIn_app (goodIn_of _ (by decide +kernel)) ggX5_waves_X5_in
set_option maxRecDepth 20000 in
theorem ggX5_waves_X5_fails : GoodIn wsX5_waves wsX5_fails := goodIn_r _ [11, 12, 18, 19, 20, 21, 22, 23, 24, 25, 26, 27, 28, 29, 30, 31, 32, 33, 34, 35, 36] (by decide +kernel) (by decide +kernel)
set_option maxRecDepth 20000 in
theorem gX5_waves_X5_fails : GoodIn wsX5_waves (wsV RX5 69 RX5 yX5_fails wsX5_fails) := goodIn_app (goodIn_of _ (by decide +kernel)) ggX5_waves_X5_fails
set_option maxRecDepth 20000 in
theorem ggX5_waves_X5_wavesOf : GoodIn wsX5_waves wsX5_wavesOf := goodIn_r _ [16, 2, 17, 18, 19, 20, 21, 22, 23, 24, 25, 26, 27, 28, 29, 30, 31, 32, 33, 34, 35, 36] (by decide +kernel) (by decide +kernel)
set_option maxRecDepth 20000 in
theorem gX5_waves_X5_wavesOf : GoodIn wsX5_waves (wsV RX5 76 RX5 yX5_wavesOf wsX5_wavesOf) := goodIn_app (goodIn_of _ (by decide +kernel)) ggX5_waves_X5_wavesOf
theorem dX5_waves_0 : decode cX5_waves 0 = .ok (.aload_n 0, 1) := by decide +kernel
theorem dX5_waves_1 : decode cX5_waves 1 = .ok (.iload_n 1, 1) := by decide +kernel
theorem dX5_waves_2 : decode cX5_waves 2 = .ok (.aload_n 0, 1) := by decide +kernel
theorem dX5_waves_3 : decode cX5_waves 3 = .ok (.getfield 73, 3) := by decide +kernel
theorem dX5_waves_6 : decode cX5_waves 6 = .ok (.sipush 479, 3) := by decide +kernel
theorem dX5_waves_9 : decode cX5_waves 9 = .ok (.invokevirtual 65, 3) := by decide +kernel
theorem dX5_waves_12 : decode cX5_waves 12 = .ok (.ifCond .eq 18, 3) := by decide +kernel
theorem dX5_waves_15 : decode cX5_waves 15 = .ok (.aload_n 0, 1) := by decide +kernel
theorem dX5_waves_16 : decode cX5_waves 16 = .ok (.iload_n 2, 1) := by decide +kernel
theorem dX5_waves_17 : decode cX5_waves 17 = .ok (.iconst 0, 1) := by decide +kernel
theorem dX5_waves_18 : decode cX5_waves 18 = .ok (.bipush 20, 2) := by decide +kernel
theorem dX5_waves_20 : decode cX5_waves 20 = .ok (.invokevirtual 65, 3) := by decide +kernel
theorem dX5_waves_23 : decode cX5_waves 23 = .ok (.ifCond .eq 7, 3) := by decide +kernel
theorem dX5_waves_26 : decode cX5_waves 26 = .ok (.iconst 1, 1) := by decide +kernel
theorem dX5_waves_27 : decode cX5_waves 27 = .ok (.goto 4, 3) := by decide +kernel
theorem dX5_waves_30 : decode cX5_waves 30 = .ok (.iconst 0, 1) := by decide +kernel
theorem dX5_waves_31 : decode cX5_waves 31 = .ok (.istore_n 3, 1) := by decide +kernel
theorem dX5_waves_32 : decode cX5_waves 32 = .ok (.aload_n 0, 1) := by decide +kernel
theorem dX5_waves_33 : decode cX5_waves 33 = .ok (.iload_n 3, 1) := by decide +kernel
theorem dX5_waves_34 : decode cX5_waves 34 = .ok (.ifCond .eq 7, 3) := by decide +kernel
theorem dX5_waves_37 : decode cX5_waves 37 = .ok (.iconst 0, 1) := by decide +kernel
theorem dX5_waves_38 : decode cX5_waves 38 = .ok (.goto 4, 3) := by decide +kernel
theorem dX5_waves_41 : decode cX5_waves 41 = .ok (.iconst 1, 1) := by decide +kernel
theorem dX5_waves_42 : decode cX5_waves 42 = .ok (.invokevirtual 69, 3) := by decide +kernel
theorem dX5_waves_45 : decode cX5_waves 45 = .ok (.ifCond .eq 5, 3) := by decide +kernel
theorem dX5_waves_48 : decode cX5_waves 48 = .ok (.iconst (-1), 1) := by decide +kernel
theorem dX5_waves_49 : decode cX5_waves 49 = .ok (.ireturn, 1) := by decide +kernel
theorem dX5_waves_50 : decode cX5_waves 50 = .ok (.aload_n 0, 1) := by decide +kernel
theorem dX5_waves_51 : decode cX5_waves 51 = .ok (.iload_n 1, 1) := by decide +kernel
theorem dX5_waves_52 : decode cX5_waves 52 = .ok (.invokevirtual 76, 3) := by decide +kernel
theorem dX5_waves_55 : decode cX5_waves 55 = .ok (.istore 4, 2) := by decide +kernel
theorem dX5_waves_57 : decode cX5_waves 57 = .ok (.aload_n 0, 1) := by decide +kernel
theorem dX5_waves_58 : decode cX5_waves 58 = .ok (.getfield 28, 3) := by decide +kernel
theorem dX5_waves_61 : decode cX5_waves 61 = .ok (.iload_n 1, 1) := by decide +kernel
theorem dX5_waves_62 : decode cX5_waves 62 = .ok (.iload_n 2, 1) := by decide +kernel
theorem dX5_waves_63 : decode cX5_waves 63 = .ok (.iastore, 1) := by decide +kernel
theorem dX5_waves_64 : decode cX5_waves 64 = .ok (.iload 4, 2) := by decide +kernel
theorem dX5_waves_66 : decode cX5_waves 66 = .ok (.ireturn, 1) := by decide +kernel
set_option maxRecDepth 20000 in
theorem ggX5_breaks_X5_isTurbine : GoodIn wsX5_breaks wsX5_isTurbine := goodIn_r _ [7, 2, 8, 9, 10, 6, 11, 17, 18, 19, 20, 21, 22, 23, 24, 25, 26, 27, 28, 29, 30, 31, 32, 33, 34, 35] (by decide +kernel) (by decide +kernel)
set_option maxRecDepth 20000 in
theorem gX5_breaks_X5_isTurbine : GoodIn wsX5_breaks (wsV RX5 80 RX5 yX5_isTurbine wsX5_isTurbine) := goodIn_app (goodIn_of _ (by decide +kernel)) ggX5_breaks_X5_isTurbine
set_option maxRecDepth 20000 in
theorem ggX5_breaks_X5_fails : GoodIn wsX5_breaks wsX5_fails := goodIn_r _ [15, 16, 17, 18, 19, 20, 21, 22, 23, 24, 25, 26, 27, 28, 29, 30, 31, 32, 33, 34, 35] (by decide +kernel) (by decide +kernel)
set_option maxRecDepth 20000 in
theorem gX5_breaks_X5_fails : GoodIn wsX5_breaks (wsV RX5 69 RX5 yX5_fails wsX5_fails) := goodIn_app (goodIn_of _ (by decide +kernel)) ggX5_breaks_X5_fails
theorem dX5_breaks_0 : decode cX5_breaks 0 = .ok (.aload_n 0, 1) := by decide +kernel
theorem dX5_breaks_1 : decode cX5_breaks 1 = .ok (.iload_n 1, 1) := by decide +kernel
theorem dX5_breaks_2 : decode cX5_breaks 2 = .ok (.invokevirtual 80, 3) := by decide +kernel
theorem dX5_breaks_5 : decode cX5_breaks 5 = .ok (.istore_n 2, 1) := by decide +kernel
theorem dX5_breaks_6 : decode cX5_breaks 6 = .ok (.aload_n 0, 1) := by decide +kernel
theorem dX5_breaks_7 : decode cX5_breaks 7 = .ok (.iload_n 2, 1) := by decide +kernel
theorem dX5_breaks_8 : decode cX5_breaks 8 = .ok (.ifCond .ne 7, 3) := by decide +kernel
theorem dX5_breaks_11 : decode cX5_breaks 11 = .ok (.iconst 1, 1) := by decide +kernel
theorem dX5_breaks_12 : decode cX5_breaks 12 = .ok (.goto 18, 3) := by decide +kernel
theorem dX5_breaks_15 : decode cX5_breaks 15 = .ok (.aload_n 0, 1) := by decide +kernel
theorem dX5_breaks_16 : decode cX5_breaks 16 = .ok (.getfield 13, 3) := by decide +kernel
theorem dX5_breaks_19 : decode cX5_breaks 19 = .ok (.iload_n 1, 1) := by decide +kernel
theorem dX5_breaks_20 : decode cX5_breaks 20 = .ok (.iaload, 1) := by decide +kernel
theorem dX5_breaks_21 : decode cX5_breaks 21 = .ok (.iconst 1, 1) := by decide +kernel
theorem dX5_breaks_22 : decode cX5_breaks 22 = .ok (.if_icmp .ne 7, 3) := by decide +kernel
theorem dX5_breaks_25 : decode cX5_breaks 25 = .ok (.iconst 2, 1) := by decide +kernel
theorem dX5_breaks_26 : decode cX5_breaks 26 = .ok (.goto 4, 3) := by decide +kernel
theorem dX5_breaks_29 : decode cX5_breaks 29 = .ok (.iconst 0, 1) := by decide +kernel
theorem dX5_breaks_30 : decode cX5_breaks 30 = .ok (.invokevirtual 69, 3) := by decide +kernel
theorem dX5_breaks_33 : decode cX5_breaks 33 = .ok (.ifCond .eq 5, 3) := by decide +kernel
theorem dX5_breaks_36 : decode cX5_breaks 36 = .ok (.iconst (-1), 1) := by decide +kernel
theorem dX5_breaks_37 : decode cX5_breaks 37 = .ok (.ireturn, 1) := by decide +kernel
theorem dX5_breaks_38 : decode cX5_breaks 38 = .ok (.aload_n 0, 1) := by decide +kernel
theorem dX5_breaks_39 : decode cX5_breaks 39 = .ok (.getfield 13, 3) := by decide +kernel
theorem dX5_breaks_42 : decode cX5_breaks 42 = .ok (.iload_n 1, 1) := by decide +kernel
theorem dX5_breaks_43 : decode cX5_breaks 43 = .ok (.iconst 1, 1) := by decide +kernel
theorem dX5_breaks_44 : decode cX5_breaks 44 = .ok (.iastore, 1) := by decide +kernel
theorem dX5_breaks_45 : decode cX5_breaks 45 = .ok (.iconst 0, 1) := by decide +kernel
theorem dX5_breaks_46 : decode cX5_breaks 46 = .ok (.istore_n 3, 1) := by decide +kernel
theorem dX5_breaks_47 : decode cX5_breaks 47 = .ok (.iconst 0, 1) := by decide +kernel
theorem dX5_breaks_48 : decode cX5_breaks 48 = .ok (.istore 4, 2) := by decide +kernel
theorem dX5_breaks_50 : decode cX5_breaks 50 = .ok (.iload 4, 2) := by decide +kernel
theorem dX5_breaks_52 : decode cX5_breaks 52 = .ok (.aload_n 0, 1) := by decide +kernel
theorem dX5_breaks_53 : decode cX5_breaks 53 = .ok (.getfield 62, 3) := by decide +kernel
theorem dX5_breaks_56 : decode cX5_breaks 56 = .ok (.if_icmp .ge 19, 3) := by decide +kernel
theorem dX5_breaks_59 : decode cX5_breaks 59 = .ok (.iload_n 3, 1) := by decide +kernel
theorem dX5_breaks_60 : decode cX5_breaks 60 = .ok (.aload_n 0, 1) := by decide +kernel
theorem dX5_breaks_61 : decode cX5_breaks 61 = .ok (.getfield 13, 3) := by decide +kernel
theorem dX5_breaks_64 : decode cX5_breaks 64 = .ok (.iload 4, 2) := by decide +kernel
theorem dX5_breaks_66 : decode cX5_breaks 66 = .ok (.iaload, 1) := by decide +kernel
theorem dX5_breaks_67 : decode cX5_breaks 67 = .ok (.iadd, 1) := by decide +kernel
theorem dX5_breaks_68 : decode cX5_breaks 68 = .ok (.istore_n 3, 1) := by decide +kernel
theorem dX5_breaks_69 : decode cX5_breaks 69 = .ok (.iinc 4 1, 3) := by decide +kernel
theorem dX5_breaks_72 : decode cX5_breaks 72 = .ok (.goto (-22), 3) := by decide +kernel
theorem dX5_breaks_75 : decode cX5_breaks 75 = .ok (.iload_n 3, 1) := by decide +kernel
theorem dX5_breaks_76 : decode cX5_breaks 76 = .ok (.ireturn, 1) := by decide +kernel
set_option maxRecDepth 20000 in
theorem ggX5_crew_X5_in : GoodIn wsX5_crew wsX5_in := goodIn_r _ [6] (by decide +kernel) (by decide +kernel)
set_option maxRecDepth 20000 in
theorem gX5_crew_X5_in : GoodIn wsX5_crew (wsV RX5 65 RX5 yX5_in wsX5_in) := goodIn_app (goodIn_of _ (by decide +kernel)) ggX5_crew_X5_in
set_option maxRecDepth 20000 in
theorem ggX5_crew_X5_fails : GoodIn wsX5_crew wsX5_fails := goodIn_r _ [10, 11, 12, 13, 14, 15, 16, 17, 18, 19, 20, 21, 22, 23, 24, 25, 26, 27, 28, 29, 30] (by decide +kernel) (by decide +kernel)
set_option maxRecDepth 20000 in
theorem gX5_crew_X5_fails : GoodIn wsX5_crew (wsV RX5 69 RX5 yX5_fails wsX5_fails) := goodIn_app (goodIn_of _ (by decide +kernel)) ggX5_crew_X5_fails
theorem dX5_crew_0 : decode cX5_crew 0 = .ok (.aload_n 0, 1) := by decide +kernel
theorem dX5_crew_1 : decode cX5_crew 1 = .ok (.aload_n 0, 1) := by decide +kernel
theorem dX5_crew_2 : decode cX5_crew 2 = .ok (.iload_n 1, 1) := by decide +kernel
theorem dX5_crew_3 : decode cX5_crew 3 = .ok (.iconst 0, 1) := by decide +kernel
theorem dX5_crew_4 : decode cX5_crew 4 = .ok (.iconst 2, 1) := by decide +kernel
theorem dX5_crew_5 : decode cX5_crew 5 = .ok (.invokevirtual 65, 3) := by decide +kernel
theorem dX5_crew_8 : decode cX5_crew 8 = .ok (.ifCond .ne 7, 3) := by decide +kernel
theorem dX5_crew_11 : decode cX5_crew 11 = .ok (.iconst 1, 1) := by decide +kernel
theorem dX5_crew_12 : decode cX5_crew 12 = .ok (.goto 19, 3) := by decide +kernel
theorem dX5_crew_15 : decode cX5_crew 15 = .ok (.aload_n 0, 1) := by decide +kernel
theorem dX5_crew_16 : decode cX5_crew 16 = .ok (.iload_n 2, 1) := by decide +kernel
theorem dX5_crew_17 : decode cX5_crew 17 = .ok (.iconst 0, 1) := by decide +kernel
theorem dX5_crew_18 : decode cX5_crew 18 = .ok (.bipush 24, 2) := by decide +kernel
theorem dX5_crew_20 : decode cX5_crew 20 = .ok (.invokevirtual 65, 3) := by decide +kernel
theorem dX5_crew_23 : decode cX5_crew 23 = .ok (.ifCond .eq 7, 3) := by decide +kernel
theorem dX5_crew_26 : decode cX5_crew 26 = .ok (.iconst 0, 1) := by decide +kernel
theorem dX5_crew_27 : decode cX5_crew 27 = .ok (.goto 4, 3) := by decide +kernel
theorem dX5_crew_30 : decode cX5_crew 30 = .ok (.iconst 2, 1) := by decide +kernel
theorem dX5_crew_31 : decode cX5_crew 31 = .ok (.invokevirtual 69, 3) := by decide +kernel
theorem dX5_crew_34 : decode cX5_crew 34 = .ok (.ifCond .eq 5, 3) := by decide +kernel
theorem dX5_crew_37 : decode cX5_crew 37 = .ok (.iconst (-1), 1) := by decide +kernel
theorem dX5_crew_38 : decode cX5_crew 38 = .ok (.ireturn, 1) := by decide +kernel
theorem dX5_crew_39 : decode cX5_crew 39 = .ok (.aload_n 0, 1) := by decide +kernel
theorem dX5_crew_40 : decode cX5_crew 40 = .ok (.getfield 43, 3) := by decide +kernel
theorem dX5_crew_43 : decode cX5_crew 43 = .ok (.iload_n 1, 1) := by decide +kernel
theorem dX5_crew_44 : decode cX5_crew 44 = .ok (.iaload, 1) := by decide +kernel
theorem dX5_crew_45 : decode cX5_crew 45 = .ok (.istore_n 3, 1) := by decide +kernel
theorem dX5_crew_46 : decode cX5_crew 46 = .ok (.aload_n 0, 1) := by decide +kernel
theorem dX5_crew_47 : decode cX5_crew 47 = .ok (.getfield 43, 3) := by decide +kernel
theorem dX5_crew_50 : decode cX5_crew 50 = .ok (.iload_n 1, 1) := by decide +kernel
theorem dX5_crew_51 : decode cX5_crew 51 = .ok (.iload_n 2, 1) := by decide +kernel
theorem dX5_crew_52 : decode cX5_crew 52 = .ok (.iastore, 1) := by decide +kernel
theorem dX5_crew_53 : decode cX5_crew 53 = .ok (.iload_n 3, 1) := by decide +kernel
theorem dX5_crew_54 : decode cX5_crew 54 = .ok (.ireturn, 1) := by decide +kernel
set_option maxRecDepth 20000 in
theorem ggX5_repair_X5_in : GoodIn wsX5_repair wsX5_in := goodIn_r _ [8] (by decide +kernel) (by decide +kernel)
set_option maxRecDepth 20000 in
theorem gX5_repair_X5_in : GoodIn wsX5_repair (wsV RX5 65 RX5 yX5_in wsX5_in) := goodIn_app (goodIn_of _ (by decide +kernel)) ggX5_repair_X5_in
set_option maxRecDepth 20000 in
theorem ggX5_repair_X5_isTurbine : GoodIn wsX5_repair wsX5_isTurbine := goodIn_r _ [12, 13, 4, 5, 6, 7, 8, 19, 20, 21, 22, 23, 24, 25, 26, 27, 28, 29, 30, 31, 32, 33, 34, 35, 36, 37] (by decide +kernel) (by decide +kernel)
set_option maxRecDepth 20000 in
theorem gX5_repair_X5_isTurbine : GoodIn wsX5_repair (wsV RX5 80 RX5 yX5_isTurbine wsX5_isTurbine) := goodIn_app (goodIn_of _ (by decide +kernel)) ggX5_repair_X5_isTurbine
set_option maxRecDepth 20000 in
theorem ggX5_repair_X5_fails : GoodIn wsX5_repair wsX5_fails := goodIn_r _ [17, 18, 19, 20, 21, 22, 23, 24, 25, 26, 27, 28, 29, 30, 31, 32, 33, 34, 35, 36, 37] (by decide +kernel) (by decide +kernel)
set_option maxRecDepth 20000 in
theorem gX5_repair_X5_fails : GoodIn wsX5_repair (wsV RX5 69 RX5 yX5_fails wsX5_fails) := goodIn_app (goodIn_of _ (by decide +kernel)) ggX5_repair_X5_fails
theorem dX5_repair_0 : decode cX5_repair 0 = .ok (.aload_n 0, 1) := by decide +kernel
theorem dX5_repair_1 : decode cX5_repair 1 = .ok (.iload_n 1, 1) := by decide +kernel
theorem dX5_repair_2 : decode cX5_repair 2 = .ok (.iconst 0, 1) := by decide +kernel
theorem dX5_repair_3 : decode cX5_repair 3 = .ok (.iconst 2, 1) := by decide +kernel
theorem dX5_repair_4 : decode cX5_repair 4 = .ok (.invokevirtual 65, 3) := by decide +kernel
theorem dX5_repair_7 : decode cX5_repair 7 = .ok (.ifCond .eq 15, 3) := by decide +kernel
theorem dX5_repair_10 : decode cX5_repair 10 = .ok (.aload_n 0, 1) := by decide +kernel
theorem dX5_repair_11 : decode cX5_repair 11 = .ok (.iload_n 2, 1) := by decide +kernel
theorem dX5_repair_12 : decode cX5_repair 12 = .ok (.invokevirtual 80, 3) := by decide +kernel
theorem dX5_repair_15 : decode cX5_repair 15 = .ok (.ifCond .eq 7, 3) := by decide +kernel
theorem dX5_repair_18 : decode cX5_repair 18 = .ok (.iconst 1, 1) := by decide +kernel
theorem dX5_repair_19 : decode cX5_repair 19 = .ok (.goto 4, 3) := by decide +kernel
theorem dX5_repair_22 : decode cX5_repair 22 = .ok (.iconst 0, 1) := by decide +kernel
theorem dX5_repair_23 : decode cX5_repair 23 = .ok (.istore 4, 2) := by decide +kernel
theorem dX5_repair_25 : decode cX5_repair 25 = .ok (.iload 4, 2) := by decide +kernel
theorem dX5_repair_27 : decode cX5_repair 27 = .ok (.ifCond .eq 55, 3) := by decide +kernel
theorem dX5_repair_30 : decode cX5_repair 30 = .ok (.aload_n 0, 1) := by decide +kernel
theorem dX5_repair_31 : decode cX5_repair 31 = .ok (.getfield 46, 3) := by decide +kernel
theorem dX5_repair_34 : decode cX5_repair 34 = .ok (.iload_n 1, 1) := by decide +kernel
theorem dX5_repair_35 : decode cX5_repair 35 = .ok (.iaload, 1) := by decide +kernel
theorem dX5_repair_36 : decode cX5_repair 36 = .ok (.ifCond .ge 42, 3) := by decide +kernel
theorem dX5_repair_39 : decode cX5_repair 39 = .ok (.aload_n 0, 1) := by decide +kernel
theorem dX5_repair_40 : decode cX5_repair 40 = .ok (.getfield 13, 3) := by decide +kernel
theorem dX5_repair_43 : decode cX5_repair 43 = .ok (.iload_n 2, 1) := by decide +kernel
theorem dX5_repair_44 : decode cX5_repair 44 = .ok (.iaload, 1) := by decide +kernel
theorem dX5_repair_45 : decode cX5_repair 45 = .ok (.ifCond .eq 33, 3) := by decide +kernel
theorem dX5_repair_48 : decode cX5_repair 48 = .ok (.aload_n 0, 1) := by decide +kernel
theorem dX5_repair_49 : decode cX5_repair 49 = .ok (.getfield 46, 3) := by decide +kernel
theorem dX5_repair_52 : decode cX5_repair 52 = .ok (.iconst 0, 1) := by decide +kernel
theorem dX5_repair_53 : decode cX5_repair 53 = .ok (.iaload, 1) := by decide +kernel
theorem dX5_repair_54 : decode cX5_repair 54 = .ok (.iload_n 2, 1) := by decide +kernel
theorem dX5_repair_55 : decode cX5_repair 55 = .ok (.if_icmp .eq 23, 3) := by decide +kernel
theorem dX5_repair_58 : decode cX5_repair 58 = .ok (.aload_n 0, 1) := by decide +kernel
theorem dX5_repair_59 : decode cX5_repair 59 = .ok (.getfield 46, 3) := by decide +kernel
theorem dX5_repair_62 : decode cX5_repair 62 = .ok (.iconst 1, 1) := by decide +kernel
theorem dX5_repair_63 : decode cX5_repair 63 = .ok (.iaload, 1) := by decide +kernel
theorem dX5_repair_64 : decode cX5_repair 64 = .ok (.iload_n 2, 1) := by decide +kernel
theorem dX5_repair_65 : decode cX5_repair 65 = .ok (.if_icmp .eq 13, 3) := by decide +kernel
theorem dX5_repair_68 : decode cX5_repair 68 = .ok (.aload_n 0, 1) := by decide +kernel
theorem dX5_repair_69 : decode cX5_repair 69 = .ok (.getfield 46, 3) := by decide +kernel
theorem dX5_repair_72 : decode cX5_repair 72 = .ok (.iconst 2, 1) := by decide +kernel
theorem dX5_repair_73 : decode cX5_repair 73 = .ok (.iaload, 1) := by decide +kernel
theorem dX5_repair_74 : decode cX5_repair 74 = .ok (.iload_n 2, 1) := by decide +kernel
theorem dX5_repair_75 : decode cX5_repair 75 = .ok (.if_icmp .ne 7, 3) := by decide +kernel
theorem dX5_repair_78 : decode cX5_repair 78 = .ok (.iconst 1, 1) := by decide +kernel
theorem dX5_repair_79 : decode cX5_repair 79 = .ok (.goto 4, 3) := by decide +kernel
theorem dX5_repair_82 : decode cX5_repair 82 = .ok (.iconst 0, 1) := by decide +kernel
theorem dX5_repair_83 : decode cX5_repair 83 = .ok (.istore 5, 2) := by decide +kernel
theorem dX5_repair_85 : decode cX5_repair 85 = .ok (.aload_n 0, 1) := by decide +kernel
theorem dX5_repair_86 : decode cX5_repair 86 = .ok (.iload 4, 2) := by decide +kernel
theorem dX5_repair_88 : decode cX5_repair 88 = .ok (.ifCond .ne 7, 3) := by decide +kernel
theorem dX5_repair_91 : decode cX5_repair 91 = .ok (.iconst 1, 1) := by decide +kernel
theorem dX5_repair_92 : decode cX5_repair 92 = .ok (.goto 28, 3) := by decide +kernel
theorem dX5_repair_95 : decode cX5_repair 95 = .ok (.aload_n 0, 1) := by decide +kernel
theorem dX5_repair_96 : decode cX5_repair 96 = .ok (.iload_n 3, 1) := by decide +kernel
theorem dX5_repair_97 : decode cX5_repair 97 = .ok (.iconst 1, 1) := by decide +kernel
theorem dX5_repair_98 : decode cX5_repair 98 = .ok (.bipush 40, 2) := by decide +kernel
theorem dX5_repair_100 : decode cX5_repair 100 = .ok (.invokevirtual 65, 3) := by decide +kernel
theorem dX5_repair_103 : decode cX5_repair 103 = .ok (.ifCond .ne 7, 3) := by decide +kernel
theorem dX5_repair_106 : decode cX5_repair 106 = .ok (.iconst 2, 1) := by decide +kernel
theorem dX5_repair_107 : decode cX5_repair 107 = .ok (.goto 13, 3) := by decide +kernel
theorem dX5_repair_110 : decode cX5_repair 110 = .ok (.iload 5, 2) := by decide +kernel
theorem dX5_repair_112 : decode cX5_repair 112 = .ok (.ifCond .eq 7, 3) := by decide +kernel
theorem dX5_repair_115 : decode cX5_repair 115 = .ok (.iconst 3, 1) := by decide +kernel
theorem dX5_repair_116 : decode cX5_repair 116 = .ok (.goto 4, 3) := by decide +kernel
theorem dX5_repair_119 : decode cX5_repair 119 = .ok (.iconst 0, 1) := by decide +kernel
theorem dX5_repair_120 : decode cX5_repair 120 = .ok (.invokevirtual 69, 3) := by decide +kernel
theorem dX5_repair_123 : decode cX5_repair 123 = .ok (.ifCond .ne 17, 3) := by decide +kernel
theorem dX5_repair_126 : decode cX5_repair 126 = .ok (.aload_n 0, 1) := by decide +kernel
theorem dX5_repair_127 : decode cX5_repair 127 = .ok (.getfield 46, 3) := by decide +kernel
theorem dX5_repair_130 : decode cX5_repair 130 = .ok (.iload_n 1, 1) := by decide +kernel
theorem dX5_repair_131 : decode cX5_repair 131 = .ok (.iload_n 2, 1) := by decide +kernel
theorem dX5_repair_132 : decode cX5_repair 132 = .ok (.iastore, 1) := by decide +kernel
theorem dX5_repair_133 : decode cX5_repair 133 = .ok (.aload_n 0, 1) := by decide +kernel
theorem dX5_repair_134 : decode cX5_repair 134 = .ok (.getfield 49, 3) := by decide +kernel
theorem dX5_repair_137 : decode cX5_repair 137 = .ok (.iload_n 1, 1) := by decide +kernel
theorem dX5_repair_138 : decode cX5_repair 138 = .ok (.iload_n 3, 1) := by decide +kernel
theorem dX5_repair_139 : decode cX5_repair 139 = .ok (.iastore, 1) := by decide +kernel
theorem dX5_repair_140 : decode cX5_repair 140 = .ok (.return_, 1) := by decide +kernel
set_option maxRecDepth 20000 in
theorem ggX5_sell_X5_in : GoodIn wsX5_sell wsX5_in := goodIn_r _ [8] (by decide +kernel) (by decide +kernel)
set_option maxRecDepth 20000 in
theorem gX5_sell_X5_in : GoodIn wsX5_sell (wsV RX5 65 RX5 yX5_in wsX5_in) := goodIn_app (goodIn_of _ (by decide +kernel)) ggX5_sell_X5_in
set_option maxRecDepth 20000 in
theorem ggX5_sell_X5_fails : GoodIn wsX5_sell wsX5_fails := goodIn_r _ [12, 13, 14, 15, 16, 17, 18, 19, 20, 21, 22, 23, 24, 25, 26, 27, 28, 29, 30, 31, 32] (by decide +kernel) (by decide +kernel)
set_option maxRecDepth 20000 in
theorem gX5_sell_X5_fails : GoodIn wsX5_sell (wsV RX5 69 RX5 yX5_fails wsX5_fails) := goodIn_app (goodIn_of _ (by decide +kernel)) ggX5_sell_X5_fails
theorem dX5_sell_0 : decode cX5_sell 0 = .ok (.aload_n 0, 1) := by decide +kernel
theorem dX5_sell_1 : decode cX5_sell 1 = .ok (.iload_n 1, 1) := by decide +kernel
theorem dX5_sell_2 : decode cX5_sell 2 = .ok (.iconst 0, 1) := by decide +kernel
theorem dX5_sell_3 : decode cX5_sell 3 = .ok (.sipush 479, 3) := by decide +kernel
theorem dX5_sell_6 : decode cX5_sell 6 = .ok (.invokevirtual 65, 3) := by decide +kernel
theorem dX5_sell_9 : decode cX5_sell 9 = .ok (.ifCond .eq 30, 3) := by decide +kernel
theorem dX5_sell_12 : decode cX5_sell 12 = .ok (.aload_n 0, 1) := by decide +kernel
theorem dX5_sell_13 : decode cX5_sell 13 = .ok (.iload_n 2, 1) := by decide +kernel
theorem dX5_sell_14 : decode cX5_sell 14 = .ok (.iconst 0, 1) := by decide +kernel
theorem dX5_sell_15 : decode cX5_sell 15 = .ok (.sipush 30000, 3) := by decide +kernel
theorem dX5_sell_18 : decode cX5_sell 18 = .ok (.invokevirtual 65, 3) := by decide +kernel
theorem dX5_sell_21 : decode cX5_sell 21 = .ok (.ifCond .eq 18, 3) := by decide +kernel
theorem dX5_sell_24 : decode cX5_sell 24 = .ok (.aload_n 0, 1) := by decide +kernel
theorem dX5_sell_25 : decode cX5_sell 25 = .ok (.iload_n 3, 1) := by decide +kernel
theorem dX5_sell_26 : decode cX5_sell 26 = .ok (.iconst 1, 1) := by decide +kernel
theorem dX5_sell_27 : decode cX5_sell 27 = .ok (.bipush 100, 2) := by decide +kernel
theorem dX5_sell_29 : decode cX5_sell 29 = .ok (.invokevirtual 65, 3) := by decide +kernel
theorem dX5_sell_32 : decode cX5_sell 32 = .ok (.ifCond .eq 7, 3) := by decide +kernel
theorem dX5_sell_35 : decode cX5_sell 35 = .ok (.iconst 1, 1) := by decide +kernel
theorem dX5_sell_36 : decode cX5_sell 36 = .ok (.goto 4, 3) := by decide +kernel
theorem dX5_sell_39 : decode cX5_sell 39 = .ok (.iconst 0, 1) := by decide +kernel
theorem dX5_sell_40 : decode cX5_sell 40 = .ok (.istore 4, 2) := by decide +kernel
theorem dX5_sell_42 : decode cX5_sell 42 = .ok (.aload_n 0, 1) := by decide +kernel
theorem dX5_sell_43 : decode cX5_sell 43 = .ok (.iload 4, 2) := by decide +kernel
theorem dX5_sell_45 : decode cX5_sell 45 = .ok (.ifCond .ne 7, 3) := by decide +kernel
theorem dX5_sell_48 : decode cX5_sell 48 = .ok (.iconst 1, 1) := by decide +kernel
theorem dX5_sell_49 : decode cX5_sell 49 = .ok (.goto 22, 3) := by decide +kernel
theorem dX5_sell_52 : decode cX5_sell 52 = .ok (.aload_n 0, 1) := by decide +kernel
theorem dX5_sell_53 : decode cX5_sell 53 = .ok (.getfield 73, 3) := by decide +kernel
theorem dX5_sell_56 : decode cX5_sell 56 = .ok (.bipush 24, 2) := by decide +kernel
theorem dX5_sell_58 : decode cX5_sell 58 = .ok (.iload_n 1, 1) := by decide +kernel
theorem dX5_sell_59 : decode cX5_sell 59 = .ok (.bipush 24, 2) := by decide +kernel
theorem dX5_sell_61 : decode cX5_sell 61 = .ok (.idiv, 1) := by decide +kernel
theorem dX5_sell_62 : decode cX5_sell 62 = .ok (.imul, 1) := by decide +kernel
theorem dX5_sell_63 : decode cX5_sell 63 = .ok (.if_icmp .lt 7, 3) := by decide +kernel
theorem dX5_sell_66 : decode cX5_sell 66 = .ok (.iconst 2, 1) := by decide +kernel
theorem dX5_sell_67 : decode cX5_sell 67 = .ok (.goto 4, 3) := by decide +kernel
theorem dX5_sell_70 : decode cX5_sell 70 = .ok (.iconst 0, 1) := by decide +kernel
theorem dX5_sell_71 : decode cX5_sell 71 = .ok (.invokevirtual 69, 3) := by decide +kernel
theorem dX5_sell_74 : decode cX5_sell 74 = .ok (.ifCond .eq 5, 3) := by decide +kernel
theorem dX5_sell_77 : decode cX5_sell 77 = .ok (.iconst (-1), 1) := by decide +kernel
theorem dX5_sell_78 : decode cX5_sell 78 = .ok (.ireturn, 1) := by decide +kernel
theorem dX5_sell_79 : decode cX5_sell 79 = .ok (.aload_n 0, 1) := by decide +kernel
theorem dX5_sell_80 : decode cX5_sell 80 = .ok (.getfield 31, 3) := by decide +kernel
theorem dX5_sell_83 : decode cX5_sell 83 = .ok (.iload_n 1, 1) := by decide +kernel
theorem dX5_sell_84 : decode cX5_sell 84 = .ok (.iaload, 1) := by decide +kernel
theorem dX5_sell_85 : decode cX5_sell 85 = .ok (.istore 5, 2) := by decide +kernel
theorem dX5_sell_87 : decode cX5_sell 87 = .ok (.aload_n 0, 1) := by decide +kernel
theorem dX5_sell_88 : decode cX5_sell 88 = .ok (.getfield 31, 3) := by decide +kernel
theorem dX5_sell_91 : decode cX5_sell 91 = .ok (.iload_n 1, 1) := by decide +kernel
theorem dX5_sell_92 : decode cX5_sell 92 = .ok (.iload_n 2, 1) := by decide +kernel
theorem dX5_sell_93 : decode cX5_sell 93 = .ok (.iastore, 1) := by decide +kernel
theorem dX5_sell_94 : decode cX5_sell 94 = .ok (.aload_n 0, 1) := by decide +kernel
theorem dX5_sell_95 : decode cX5_sell 95 = .ok (.getfield 34, 3) := by decide +kernel
theorem dX5_sell_98 : decode cX5_sell 98 = .ok (.iload_n 1, 1) := by decide +kernel
theorem dX5_sell_99 : decode cX5_sell 99 = .ok (.iload_n 3, 1) := by decide +kernel
theorem dX5_sell_100 : decode cX5_sell 100 = .ok (.iastore, 1) := by decide +kernel
theorem dX5_sell_101 : decode cX5_sell 101 = .ok (.iload 5, 2) := by decide +kernel
theorem dX5_sell_103 : decode cX5_sell 103 = .ok (.ireturn, 1) := by decide +kernel
theorem dX5_ahead_0 : decode cX5_ahead 0 = .ok (.aload_n 0, 1) := by decide +kernel
theorem dX5_ahead_1 : decode cX5_ahead 1 = .ok (.getfield 7, 3) := by decide +kernel
theorem dX5_ahead_4 : decode cX5_ahead 4 = .ok (.iload_n 1, 1) := by decide +kernel
theorem dX5_ahead_5 : decode cX5_ahead 5 = .ok (.iaload, 1) := by decide +kernel
theorem dX5_ahead_6 : decode cX5_ahead 6 = .ok (.bipush 6, 2) := by decide +kernel
theorem dX5_ahead_8 : decode cX5_ahead 8 = .ok (.irem, 1) := by decide +kernel
theorem dX5_ahead_9 : decode cX5_ahead 9 = .ok (.istore 4, 2) := by decide +kernel
theorem dX5_ahead_11 : decode cX5_ahead 11 = .ok (.aload_n 0, 1) := by decide +kernel
theorem dX5_ahead_12 : decode cX5_ahead 12 = .ok (.getfield 7, 3) := by decide +kernel
theorem dX5_ahead_15 : decode cX5_ahead 15 = .ok (.iload_n 1, 1) := by decide +kernel
theorem dX5_ahead_16 : decode cX5_ahead 16 = .ok (.iaload, 1) := by decide +kernel
theorem dX5_ahead_17 : decode cX5_ahead 17 = .ok (.bipush 6, 2) := by decide +kernel
theorem dX5_ahead_19 : decode cX5_ahead 19 = .ok (.idiv, 1) := by decide +kernel
theorem dX5_ahead_20 : decode cX5_ahead 20 = .ok (.istore 5, 2) := by decide +kernel
theorem dX5_ahead_22 : decode cX5_ahead 22 = .ok (.iload 4, 2) := by decide +kernel
theorem dX5_ahead_24 : decode cX5_ahead 24 = .ok (.aload_n 0, 1) := by decide +kernel
theorem dX5_ahead_25 : decode cX5_ahead 25 = .ok (.getfield 25, 3) := by decide +kernel
theorem dX5_ahead_28 : decode cX5_ahead 28 = .ok (.iload_n 2, 1) := by decide +kernel
theorem dX5_ahead_29 : decode cX5_ahead 29 = .ok (.iaload, 1) := by decide +kernel
theorem dX5_ahead_30 : decode cX5_ahead 30 = .ok (.iconst 1, 1) := by decide +kernel
theorem dX5_ahead_31 : decode cX5_ahead 31 = .ok (.if_icmp .ne 7, 3) := by decide +kernel
theorem dX5_ahead_34 : decode cX5_ahead 34 = .ok (.iload_n 3, 1) := by decide +kernel
theorem dX5_ahead_35 : decode cX5_ahead 35 = .ok (.goto 4, 3) := by decide +kernel
theorem dX5_ahead_38 : decode cX5_ahead 38 = .ok (.iconst 0, 1) := by decide +kernel
theorem dX5_ahead_39 : decode cX5_ahead 39 = .ok (.isub, 1) := by decide +kernel
theorem dX5_ahead_40 : decode cX5_ahead 40 = .ok (.istore 4, 2) := by decide +kernel
theorem dX5_ahead_42 : decode cX5_ahead 42 = .ok (.iload 5, 2) := by decide +kernel
theorem dX5_ahead_44 : decode cX5_ahead 44 = .ok (.aload_n 0, 1) := by decide +kernel
theorem dX5_ahead_45 : decode cX5_ahead 45 = .ok (.getfield 25, 3) := by decide +kernel
theorem dX5_ahead_48 : decode cX5_ahead 48 = .ok (.iload_n 2, 1) := by decide +kernel
theorem dX5_ahead_49 : decode cX5_ahead 49 = .ok (.iaload, 1) := by decide +kernel
theorem dX5_ahead_50 : decode cX5_ahead 50 = .ok (.iconst 1, 1) := by decide +kernel
theorem dX5_ahead_51 : decode cX5_ahead 51 = .ok (.if_icmp .ne 7, 3) := by decide +kernel
theorem dX5_ahead_54 : decode cX5_ahead 54 = .ok (.iconst 0, 1) := by decide +kernel
theorem dX5_ahead_55 : decode cX5_ahead 55 = .ok (.goto 4, 3) := by decide +kernel
theorem dX5_ahead_58 : decode cX5_ahead 58 = .ok (.iload_n 3, 1) := by decide +kernel
theorem dX5_ahead_59 : decode cX5_ahead 59 = .ok (.isub, 1) := by decide +kernel
theorem dX5_ahead_60 : decode cX5_ahead 60 = .ok (.istore 5, 2) := by decide +kernel
theorem dX5_ahead_62 : decode cX5_ahead 62 = .ok (.iconst 0, 1) := by decide +kernel
theorem dX5_ahead_63 : decode cX5_ahead 63 = .ok (.istore 6, 2) := by decide +kernel
theorem dX5_ahead_65 : decode cX5_ahead 65 = .ok (.iload 6, 2) := by decide +kernel
theorem dX5_ahead_67 : decode cX5_ahead 67 = .ok (.aload_n 0, 1) := by decide +kernel
theorem dX5_ahead_68 : decode cX5_ahead 68 = .ok (.getfield 62, 3) := by decide +kernel
theorem dX5_ahead_71 : decode cX5_ahead 71 = .ok (.if_icmp .ge 51, 3) := by decide +kernel
theorem dX5_ahead_74 : decode cX5_ahead 74 = .ok (.iload 4, 2) := by decide +kernel
theorem dX5_ahead_76 : decode cX5_ahead 76 = .ok (.ifCond .lt 40, 3) := by decide +kernel
theorem dX5_ahead_79 : decode cX5_ahead 79 = .ok (.iload 5, 2) := by decide +kernel
theorem dX5_ahead_81 : decode cX5_ahead 81 = .ok (.ifCond .lt 35, 3) := by decide +kernel
theorem dX5_ahead_84 : decode cX5_ahead 84 = .ok (.aload_n 0, 1) := by decide +kernel
theorem dX5_ahead_85 : decode cX5_ahead 85 = .ok (.getfield 7, 3) := by decide +kernel
theorem dX5_ahead_88 : decode cX5_ahead 88 = .ok (.iload 6, 2) := by decide +kernel
theorem dX5_ahead_90 : decode cX5_ahead 90 = .ok (.iaload, 1) := by decide +kernel
theorem dX5_ahead_91 : decode cX5_ahead 91 = .ok (.bipush 6, 2) := by decide +kernel
theorem dX5_ahead_93 : decode cX5_ahead 93 = .ok (.iload 5, 2) := by decide +kernel
theorem dX5_ahead_95 : decode cX5_ahead 95 = .ok (.imul, 1) := by decide +kernel
theorem dX5_ahead_96 : decode cX5_ahead 96 = .ok (.iload 4, 2) := by decide +kernel
theorem dX5_ahead_98 : decode cX5_ahead 98 = .ok (.iadd, 1) := by decide +kernel
theorem dX5_ahead_99 : decode cX5_ahead 99 = .ok (.if_icmp .ne 17, 3) := by decide +kernel
theorem dX5_ahead_102 : decode cX5_ahead 102 = .ok (.aload_n 0, 1) := by decide +kernel
theorem dX5_ahead_103 : decode cX5_ahead 103 = .ok (.getfield 19, 3) := by decide +kernel
theorem dX5_ahead_106 : decode cX5_ahead 106 = .ok (.iload 6, 2) := by decide +kernel
theorem dX5_ahead_108 : decode cX5_ahead 108 = .ok (.iaload, 1) := by decide +kernel
theorem dX5_ahead_109 : decode cX5_ahead 109 = .ok (.iconst 1, 1) := by decide +kernel
theorem dX5_ahead_110 : decode cX5_ahead 110 = .ok (.if_icmp .ne 6, 3) := by decide +kernel
theorem dX5_ahead_113 : decode cX5_ahead 113 = .ok (.iload 6, 2) := by decide +kernel
theorem dX5_ahead_115 : decode cX5_ahead 115 = .ok (.ireturn, 1) := by decide +kernel
theorem dX5_ahead_116 : decode cX5_ahead 116 = .ok (.iinc 6 1, 3) := by decide +kernel
theorem dX5_ahead_119 : decode cX5_ahead 119 = .ok (.goto (-54), 3) := by decide +kernel
theorem dX5_ahead_122 : decode cX5_ahead 122 = .ok (.iconst (-1), 1) := by decide +kernel
theorem dX5_ahead_123 : decode cX5_ahead 123 = .ok (.ireturn, 1) := by decide +kernel
set_option maxRecDepth 20000 in
theorem ggX5_windOf_X5_ahead : GoodIn wsX5_windOf wsX5_ahead := goodIn_r _ [6, 7, 8, 9, 10, 11, 12, 13, 14, 15, 16, 17, 18, 19, 20, 21, 22, 23, 24, 25, 26, 27, 28, 29] (by decide +kernel) (by decide +kernel)
set_option maxRecDepth 20000 in
theorem gX5_windOf_X5_ahead : GoodIn wsX5_windOf (wsV RX5 83 RX5 yX5_ahead wsX5_ahead) := goodIn_app (goodIn_of _ (by decide +kernel)) ggX5_windOf_X5_ahead
theorem dX5_windOf_0 : decode cX5_windOf 0 = .ok (.aload_n 0, 1) := by decide +kernel
theorem dX5_windOf_1 : decode cX5_windOf 1 = .ok (.getfield 22, 3) := by decide +kernel
theorem dX5_windOf_4 : decode cX5_windOf 4 = .ok (.iload_n 2, 1) := by decide +kernel
theorem dX5_windOf_5 : decode cX5_windOf 5 = .ok (.iaload, 1) := by decide +kernel
theorem dX5_windOf_6 : decode cX5_windOf 6 = .ok (.istore_n 3, 1) := by decide +kernel
theorem dX5_windOf_7 : decode cX5_windOf 7 = .ok (.iconst 1, 1) := by decide +kernel
theorem dX5_windOf_8 : decode cX5_windOf 8 = .ok (.istore 4, 2) := by decide +kernel
theorem dX5_windOf_10 : decode cX5_windOf 10 = .ok (.iload 4, 2) := by decide +kernel
theorem dX5_windOf_12 : decode cX5_windOf 12 = .ok (.bipush 6, 2) := by decide +kernel
theorem dX5_windOf_14 : decode cX5_windOf 14 = .ok (.if_icmp .ge 60, 3) := by decide +kernel
theorem dX5_windOf_17 : decode cX5_windOf 17 = .ok (.iload 4, 2) := by decide +kernel
theorem dX5_windOf_19 : decode cX5_windOf 19 = .ok (.iconst 1, 1) := by decide +kernel
theorem dX5_windOf_20 : decode cX5_windOf 20 = .ok (.if_icmp .ne 8, 3) := by decide +kernel
theorem dX5_windOf_23 : decode cX5_windOf 23 = .ok (.bipush 30, 2) := by decide +kernel
theorem dX5_windOf_25 : decode cX5_windOf 25 = .ok (.goto 16, 3) := by decide +kernel
theorem dX5_windOf_28 : decode cX5_windOf 28 = .ok (.iload 4, 2) := by decide +kernel
theorem dX5_windOf_30 : decode cX5_windOf 30 = .ok (.iconst 2, 1) := by decide +kernel
theorem dX5_windOf_31 : decode cX5_windOf 31 = .ok (.if_icmp .ne 8, 3) := by decide +kernel
theorem dX5_windOf_34 : decode cX5_windOf 34 = .ok (.bipush 20, 2) := by decide +kernel
theorem dX5_windOf_36 : decode cX5_windOf 36 = .ok (.goto 5, 3) := by decide +kernel
theorem dX5_windOf_39 : decode cX5_windOf 39 = .ok (.bipush 10, 2) := by decide +kernel
theorem dX5_windOf_41 : decode cX5_windOf 41 = .ok (.istore 5, 2) := by decide +kernel
theorem dX5_windOf_43 : decode cX5_windOf 43 = .ok (.iload_n 3, 1) := by decide +kernel
theorem dX5_windOf_44 : decode cX5_windOf 44 = .ok (.aload_n 0, 1) := by decide +kernel
theorem dX5_windOf_45 : decode cX5_windOf 45 = .ok (.iload_n 1, 1) := by decide +kernel
theorem dX5_windOf_46 : decode cX5_windOf 46 = .ok (.iload_n 2, 1) := by decide +kernel
theorem dX5_windOf_47 : decode cX5_windOf 47 = .ok (.iload 4, 2) := by decide +kernel
theorem dX5_windOf_49 : decode cX5_windOf 49 = .ok (.invokevirtual 83, 3) := by decide +kernel
theorem dX5_windOf_52 : decode cX5_windOf 52 = .ok (.ifCond .ge 7, 3) := by decide +kernel
theorem dX5_windOf_55 : decode cX5_windOf 55 = .ok (.iconst 0, 1) := by decide +kernel
theorem dX5_windOf_56 : decode cX5_windOf 56 = .ok (.goto 10, 3) := by decide +kernel
theorem dX5_windOf_59 : decode cX5_windOf 59 = .ok (.iload_n 3, 1) := by decide +kernel
theorem dX5_windOf_60 : decode cX5_windOf 60 = .ok (.iload 5, 2) := by decide +kernel
theorem dX5_windOf_62 : decode cX5_windOf 62 = .ok (.imul, 1) := by decide +kernel
theorem dX5_windOf_63 : decode cX5_windOf 63 = .ok (.bipush 100, 2) := by decide +kernel
theorem dX5_windOf_65 : decode cX5_windOf 65 = .ok (.idiv, 1) := by decide +kernel
theorem dX5_windOf_66 : decode cX5_windOf 66 = .ok (.isub, 1) := by decide +kernel
theorem dX5_windOf_67 : decode cX5_windOf 67 = .ok (.istore_n 3, 1) := by decide +kernel
theorem dX5_windOf_68 : decode cX5_windOf 68 = .ok (.iinc 4 1, 3) := by decide +kernel
theorem dX5_windOf_71 : decode cX5_windOf 71 = .ok (.goto (-61), 3) := by decide +kernel
theorem dX5_windOf_74 : decode cX5_windOf 74 = .ok (.iload_n 3, 1) := by decide +kernel
theorem dX5_windOf_75 : decode cX5_windOf 75 = .ok (.ireturn, 1) := by decide +kernel
set_option maxRecDepth 20000 in
theorem ggX5_power_X5_windOf : GoodIn wsX5_power wsX5_windOf := goodIn_r _ [6, 7, 8, 9, 10, 5, 11, 12, 13, 14, 1, 15, 16, 17, 18, 19, 20, 21, 22, 23, 24, 25, 26, 27, 28, 29, 30, 31, 32, 33] (by decide +kernel) (by decide +kernel)
set_option maxRecDepth 20000 in
theorem gX5_power_X5_windOf : GoodIn wsX5_power (wsV RX5 87 RX5 yX5_windOf wsX5_windOf) := goodIn_app (goodIn_of _ (by decide +kernel)) ggX5_power_X5_windOf
theorem dX5_power_0 : decode cX5_power 0 = .ok (.aload_n 0, 1) := by decide +kernel
theorem dX5_power_1 : decode cX5_power 1 = .ok (.iload_n 1, 1) := by decide +kernel
theorem dX5_power_2 : decode cX5_power 2 = .ok (.iload_n 2, 1) := by decide +kernel
theorem dX5_power_3 : decode cX5_power 3 = .ok (.invokevirtual 87, 3) := by decide +kernel
theorem dX5_power_6 : decode cX5_power 6 = .ok (.istore_n 3, 1) := by decide +kernel
theorem dX5_power_7 : decode cX5_power 7 = .ok (.aload_n 0, 1) := by decide +kernel
theorem dX5_power_8 : decode cX5_power 8 = .ok (.getfield 19, 3) := by decide +kernel
theorem dX5_power_11 : decode cX5_power 11 = .ok (.iload_n 1, 1) := by decide +kernel
theorem dX5_power_12 : decode cX5_power 12 = .ok (.iaload, 1) := by decide +kernel
theorem dX5_power_13 : decode cX5_power 13 = .ok (.ifCond .eq 14, 3) := by decide +kernel
theorem dX5_power_16 : decode cX5_power 16 = .ok (.iload_n 3, 1) := by decide +kernel
theorem dX5_power_17 : decode cX5_power 17 = .ok (.iconst 4, 1) := by decide +kernel
theorem dX5_power_18 : decode cX5_power 18 = .ok (.if_icmp .lt 9, 3) := by decide +kernel
theorem dX5_power_21 : decode cX5_power 21 = .ok (.iload_n 3, 1) := by decide +kernel
theorem dX5_power_22 : decode cX5_power 22 = .ok (.bipush 25, 2) := by decide +kernel
theorem dX5_power_24 : decode cX5_power 24 = .ok (.if_icmp .le 5, 3) := by decide +kernel
theorem dX5_power_27 : decode cX5_power 27 = .ok (.iconst 0, 1) := by decide +kernel
theorem dX5_power_28 : decode cX5_power 28 = .ok (.ireturn, 1) := by decide +kernel
theorem dX5_power_29 : decode cX5_power 29 = .ok (.iload_n 3, 1) := by decide +kernel
theorem dX5_power_30 : decode cX5_power 30 = .ok (.iload_n 3, 1) := by decide +kernel
theorem dX5_power_31 : decode cX5_power 31 = .ok (.imul, 1) := by decide +kernel
theorem dX5_power_32 : decode cX5_power 32 = .ok (.iload_n 3, 1) := by decide +kernel
theorem dX5_power_33 : decode cX5_power 33 = .ok (.imul, 1) := by decide +kernel
theorem dX5_power_34 : decode cX5_power 34 = .ok (.sipush 2000, 3) := by decide +kernel
theorem dX5_power_37 : decode cX5_power 37 = .ok (.if_icmp .le 9, 3) := by decide +kernel
theorem dX5_power_40 : decode cX5_power 40 = .ok (.sipush 2000, 3) := by decide +kernel
theorem dX5_power_43 : decode cX5_power 43 = .ok (.goto 8, 3) := by decide +kernel
theorem dX5_power_46 : decode cX5_power 46 = .ok (.iload_n 3, 1) := by decide +kernel
theorem dX5_power_47 : decode cX5_power 47 = .ok (.iload_n 3, 1) := by decide +kernel
theorem dX5_power_48 : decode cX5_power 48 = .ok (.imul, 1) := by decide +kernel
theorem dX5_power_49 : decode cX5_power 49 = .ok (.iload_n 3, 1) := by decide +kernel
theorem dX5_power_50 : decode cX5_power 50 = .ok (.imul, 1) := by decide +kernel
theorem dX5_power_51 : decode cX5_power 51 = .ok (.ireturn, 1) := by decide +kernel
theorem dX5_allTurn_0 : decode cX5_allTurn 0 = .ok (.iconst 0, 1) := by decide +kernel
theorem dX5_allTurn_1 : decode cX5_allTurn 1 = .ok (.istore_n 1, 1) := by decide +kernel
theorem dX5_allTurn_2 : decode cX5_allTurn 2 = .ok (.iload_n 1, 1) := by decide +kernel
theorem dX5_allTurn_3 : decode cX5_allTurn 3 = .ok (.aload_n 0, 1) := by decide +kernel
theorem dX5_allTurn_4 : decode cX5_allTurn 4 = .ok (.getfield 62, 3) := by decide +kernel
theorem dX5_allTurn_7 : decode cX5_allTurn 7 = .ok (.if_icmp .ge 23, 3) := by decide +kernel
theorem dX5_allTurn_10 : decode cX5_allTurn 10 = .ok (.aload_n 0, 1) := by decide +kernel
theorem dX5_allTurn_11 : decode cX5_allTurn 11 = .ok (.getfield 19, 3) := by decide +kernel
theorem dX5_allTurn_14 : decode cX5_allTurn 14 = .ok (.iload_n 1, 1) := by decide +kernel
theorem dX5_allTurn_15 : decode cX5_allTurn 15 = .ok (.iconst 1, 1) := by decide +kernel
theorem dX5_allTurn_16 : decode cX5_allTurn 16 = .ok (.aload_n 0, 1) := by decide +kernel
theorem dX5_allTurn_17 : decode cX5_allTurn 17 = .ok (.getfield 13, 3) := by decide +kernel
theorem dX5_allTurn_20 : decode cX5_allTurn 20 = .ok (.iload_n 1, 1) := by decide +kernel
theorem dX5_allTurn_21 : decode cX5_allTurn 21 = .ok (.iaload, 1) := by decide +kernel
theorem dX5_allTurn_22 : decode cX5_allTurn 22 = .ok (.isub, 1) := by decide +kernel
theorem dX5_allTurn_23 : decode cX5_allTurn 23 = .ok (.iastore, 1) := by decide +kernel
theorem dX5_allTurn_24 : decode cX5_allTurn 24 = .ok (.iinc 1 1, 3) := by decide +kernel
theorem dX5_allTurn_27 : decode cX5_allTurn 27 = .ok (.goto (-25), 3) := by decide +kernel
theorem dX5_allTurn_30 : decode cX5_allTurn 30 = .ok (.return_, 1) := by decide +kernel
theorem dX5_areBeside_0 : decode cX5_areBeside 0 = .ok (.iload_n 1, 1) := by decide +kernel
theorem dX5_areBeside_1 : decode cX5_areBeside 1 = .ok (.bipush 6, 2) := by decide +kernel
theorem dX5_areBeside_3 : decode cX5_areBeside 3 = .ok (.irem, 1) := by decide +kernel
theorem dX5_areBeside_4 : decode cX5_areBeside 4 = .ok (.iload_n 2, 1) := by decide +kernel
theorem dX5_areBeside_5 : decode cX5_areBeside 5 = .ok (.bipush 6, 2) := by decide +kernel
theorem dX5_areBeside_7 : decode cX5_areBeside 7 = .ok (.irem, 1) := by decide +kernel
theorem dX5_areBeside_8 : decode cX5_areBeside 8 = .ok (.isub, 1) := by decide +kernel
theorem dX5_areBeside_9 : decode cX5_areBeside 9 = .ok (.istore_n 3, 1) := by decide +kernel
theorem dX5_areBeside_10 : decode cX5_areBeside 10 = .ok (.iload_n 1, 1) := by decide +kernel
theorem dX5_areBeside_11 : decode cX5_areBeside 11 = .ok (.bipush 6, 2) := by decide +kernel
theorem dX5_areBeside_13 : decode cX5_areBeside 13 = .ok (.idiv, 1) := by decide +kernel
theorem dX5_areBeside_14 : decode cX5_areBeside 14 = .ok (.iload_n 2, 1) := by decide +kernel
theorem dX5_areBeside_15 : decode cX5_areBeside 15 = .ok (.bipush 6, 2) := by decide +kernel
theorem dX5_areBeside_17 : decode cX5_areBeside 17 = .ok (.idiv, 1) := by decide +kernel
theorem dX5_areBeside_18 : decode cX5_areBeside 18 = .ok (.isub, 1) := by decide +kernel
theorem dX5_areBeside_19 : decode cX5_areBeside 19 = .ok (.istore 4, 2) := by decide +kernel
theorem dX5_areBeside_21 : decode cX5_areBeside 21 = .ok (.iload_n 3, 1) := by decide +kernel
theorem dX5_areBeside_22 : decode cX5_areBeside 22 = .ok (.iload_n 3, 1) := by decide +kernel
theorem dX5_areBeside_23 : decode cX5_areBeside 23 = .ok (.imul, 1) := by decide +kernel
theorem dX5_areBeside_24 : decode cX5_areBeside 24 = .ok (.iload 4, 2) := by decide +kernel
theorem dX5_areBeside_26 : decode cX5_areBeside 26 = .ok (.iload 4, 2) := by decide +kernel
theorem dX5_areBeside_28 : decode cX5_areBeside 28 = .ok (.imul, 1) := by decide +kernel
theorem dX5_areBeside_29 : decode cX5_areBeside 29 = .ok (.iadd, 1) := by decide +kernel
theorem dX5_areBeside_30 : decode cX5_areBeside 30 = .ok (.iconst 1, 1) := by decide +kernel
theorem dX5_areBeside_31 : decode cX5_areBeside 31 = .ok (.if_icmp .ne 7, 3) := by decide +kernel
theorem dX5_areBeside_34 : decode cX5_areBeside 34 = .ok (.iconst 1, 1) := by decide +kernel
theorem dX5_areBeside_35 : decode cX5_areBeside 35 = .ok (.goto 4, 3) := by decide +kernel
theorem dX5_areBeside_38 : decode cX5_areBeside 38 = .ok (.iconst 0, 1) := by decide +kernel
theorem dX5_areBeside_39 : decode cX5_areBeside 39 = .ok (.ireturn, 1) := by decide +kernel
set_option maxRecDepth 20000 in
theorem ggX5_repairs_X5_allTurn : GoodIn wsX5_repairs wsX5_allTurn := goodIn_r _ [13, 6, 7, 14, 25, 26, 27, 28, 29, 30, 31, 32, 33, 34, 35, 36, 37, 38, 39, 40, 41, 42, 43] (by decide +kernel) (by decide +kernel)
set_option maxRecDepth 20000 in
theorem gX5_repairs_X5_allTurn : GoodIn wsX5_repairs (wsV RX5 91 RX5 yX5_allTurn wsX5_allTurn) := goodIn_app (goodIn_of _ (by decide +kernel)) ggX5_repairs_X5_allTurn
set_option maxRecDepth 20000 in
theorem ggX5_repairs_X5_wavesOf : GoodIn wsX5_repairs wsX5_wavesOf := goodIn_r _ [18, 19, 20, 25, 26, 27, 28, 29, 30, 31, 32, 33, 34, 35, 36, 37, 38, 39, 40, 41, 42, 43] (by decide +kernel) (by decide +kernel)
set_option maxRecDepth 20000 in
theorem gX5_repairs_X5_wavesOf : GoodIn wsX5_repairs (wsV RX5 76 RX5 yX5_wavesOf wsX5_wavesOf) := goodIn_app (goodIn_of _ (by decide +kernel)) ggX5_repairs_X5_wavesOf
set_option maxRecDepth 20000 in
theorem ggX5_repairs_X5_areBeside : GoodIn wsX5_repairs wsX5_areBeside := goodIn_r _ [24] (by decide +kernel) (by decide +kernel)
set_option maxRecDepth 20000 in
theorem gX5_repairs_X5_areBeside : GoodIn wsX5_repairs (wsV RX5 94 RX5 yX5_areBeside wsX5_areBeside) := goodIn_app (goodIn_of _ (by decide +kernel)) ggX5_repairs_X5_areBeside
theorem dX5_repairs_0 : decode cX5_repairs 0 = .ok (.aload_n 0, 1) := by decide +kernel
theorem dX5_repairs_1 : decode cX5_repairs 1 = .ok (.invokevirtual 91, 3) := by decide +kernel
theorem dX5_repairs_4 : decode cX5_repairs 4 = .ok (.iconst 0, 1) := by decide +kernel
theorem dX5_repairs_5 : decode cX5_repairs 5 = .ok (.istore_n 2, 1) := by decide +kernel
theorem dX5_repairs_6 : decode cX5_repairs 6 = .ok (.iload_n 2, 1) := by decide +kernel
theorem dX5_repairs_7 : decode cX5_repairs 7 = .ok (.iconst 3, 1) := by decide +kernel
theorem dX5_repairs_8 : decode cX5_repairs 8 = .ok (.if_icmp .ge 128, 3) := by decide +kernel
theorem dX5_repairs_11 : decode cX5_repairs 11 = .ok (.aload_n 0, 1) := by decide +kernel
theorem dX5_repairs_12 : decode cX5_repairs 12 = .ok (.getfield 46, 3) := by decide +kernel
theorem dX5_repairs_15 : decode cX5_repairs 15 = .ok (.iload_n 2, 1) := by decide +kernel
theorem dX5_repairs_16 : decode cX5_repairs 16 = .ok (.iaload, 1) := by decide +kernel
theorem dX5_repairs_17 : decode cX5_repairs 17 = .ok (.ifCond .lt 113, 3) := by decide +kernel
theorem dX5_repairs_20 : decode cX5_repairs 20 = .ok (.aload_n 0, 1) := by decide +kernel
theorem dX5_repairs_21 : decode cX5_repairs 21 = .ok (.iload_n 1, 1) := by decide +kernel
theorem dX5_repairs_22 : decode cX5_repairs 22 = .ok (.invokevirtual 76, 3) := by decide +kernel
theorem dX5_repairs_25 : decode cX5_repairs 25 = .ok (.iconst 4, 1) := by decide +kernel
theorem dX5_repairs_26 : decode cX5_repairs 26 = .ok (.if_icmp .gt 104, 3) := by decide +kernel
theorem dX5_repairs_29 : decode cX5_repairs 29 = .ok (.aload_n 0, 1) := by decide +kernel
theorem dX5_repairs_30 : decode cX5_repairs 30 = .ok (.getfield 52, 3) := by decide +kernel
theorem dX5_repairs_33 : decode cX5_repairs 33 = .ok (.iload_n 2, 1) := by decide +kernel
theorem dX5_repairs_34 : decode cX5_repairs 34 = .ok (.iaload, 1) := by decide +kernel
theorem dX5_repairs_35 : decode cX5_repairs 35 = .ok (.aload_n 0, 1) := by decide +kernel
theorem dX5_repairs_36 : decode cX5_repairs 36 = .ok (.getfield 43, 3) := by decide +kernel
theorem dX5_repairs_39 : decode cX5_repairs 39 = .ok (.iload_n 2, 1) := by decide +kernel
theorem dX5_repairs_40 : decode cX5_repairs 40 = .ok (.iaload, 1) := by decide +kernel
theorem dX5_repairs_41 : decode cX5_repairs 41 = .ok (.if_icmp .ge 89, 3) := by decide +kernel
theorem dX5_repairs_44 : decode cX5_repairs 44 = .ok (.aload_n 0, 1) := by decide +kernel
theorem dX5_repairs_45 : decode cX5_repairs 45 = .ok (.getfield 49, 3) := by decide +kernel
theorem dX5_repairs_48 : decode cX5_repairs 48 = .ok (.iload_n 2, 1) := by decide +kernel
theorem dX5_repairs_49 : decode cX5_repairs 49 = .ok (.dup2, 1) := by decide +kernel
theorem dX5_repairs_50 : decode cX5_repairs 50 = .ok (.iaload, 1) := by decide +kernel
theorem dX5_repairs_51 : decode cX5_repairs 51 = .ok (.iconst 1, 1) := by decide +kernel
theorem dX5_repairs_52 : decode cX5_repairs 52 = .ok (.isub, 1) := by decide +kernel
theorem dX5_repairs_53 : decode cX5_repairs 53 = .ok (.iastore, 1) := by decide +kernel
theorem dX5_repairs_54 : decode cX5_repairs 54 = .ok (.aload_n 0, 1) := by decide +kernel
theorem dX5_repairs_55 : decode cX5_repairs 55 = .ok (.getfield 52, 3) := by decide +kernel
theorem dX5_repairs_58 : decode cX5_repairs 58 = .ok (.iload_n 2, 1) := by decide +kernel
theorem dX5_repairs_59 : decode cX5_repairs 59 = .ok (.dup2, 1) := by decide +kernel
theorem dX5_repairs_60 : decode cX5_repairs 60 = .ok (.iaload, 1) := by decide +kernel
theorem dX5_repairs_61 : decode cX5_repairs 61 = .ok (.iconst 1, 1) := by decide +kernel
theorem dX5_repairs_62 : decode cX5_repairs 62 = .ok (.iadd, 1) := by decide +kernel
theorem dX5_repairs_63 : decode cX5_repairs 63 = .ok (.iastore, 1) := by decide +kernel
theorem dX5_repairs_64 : decode cX5_repairs 64 = .ok (.aload_n 0, 1) := by decide +kernel
theorem dX5_repairs_65 : decode cX5_repairs 65 = .ok (.getfield 55, 3) := by decide +kernel
theorem dX5_repairs_68 : decode cX5_repairs 68 = .ok (.iload_n 2, 1) := by decide +kernel
theorem dX5_repairs_69 : decode cX5_repairs 69 = .ok (.dup2, 1) := by decide +kernel
theorem dX5_repairs_70 : decode cX5_repairs 70 = .ok (.iaload, 1) := by decide +kernel
theorem dX5_repairs_71 : decode cX5_repairs 71 = .ok (.iconst 1, 1) := by decide +kernel
theorem dX5_repairs_72 : decode cX5_repairs 72 = .ok (.iadd, 1) := by decide +kernel
theorem dX5_repairs_73 : decode cX5_repairs 73 = .ok (.iastore, 1) := by decide +kernel
theorem dX5_repairs_74 : decode cX5_repairs 74 = .ok (.iconst 0, 1) := by decide +kernel
theorem dX5_repairs_75 : decode cX5_repairs 75 = .ok (.istore_n 3, 1) := by decide +kernel
theorem dX5_repairs_76 : decode cX5_repairs 76 = .ok (.iload_n 3, 1) := by decide +kernel
theorem dX5_repairs_77 : decode cX5_repairs 77 = .ok (.aload_n 0, 1) := by decide +kernel
theorem dX5_repairs_78 : decode cX5_repairs 78 = .ok (.getfield 62, 3) := by decide +kernel
theorem dX5_repairs_81 : decode cX5_repairs 81 = .ok (.if_icmp .ge 49, 3) := by decide +kernel
theorem dX5_repairs_84 : decode cX5_repairs 84 = .ok (.aload_n 0, 1) := by decide +kernel
theorem dX5_repairs_85 : decode cX5_repairs 85 = .ok (.getfield 19, 3) := by decide +kernel
theorem dX5_repairs_88 : decode cX5_repairs 88 = .ok (.iload_n 3, 1) := by decide +kernel
theorem dX5_repairs_89 : decode cX5_repairs 89 = .ok (.aload_n 0, 1) := by decide +kernel
theorem dX5_repairs_90 : decode cX5_repairs 90 = .ok (.aload_n 0, 1) := by decide +kernel
theorem dX5_repairs_91 : decode cX5_repairs 91 = .ok (.getfield 7, 3) := by decide +kernel
theorem dX5_repairs_94 : decode cX5_repairs 94 = .ok (.iload_n 3, 1) := by decide +kernel
theorem dX5_repairs_95 : decode cX5_repairs 95 = .ok (.iaload, 1) := by decide +kernel
theorem dX5_repairs_96 : decode cX5_repairs 96 = .ok (.aload_n 0, 1) := by decide +kernel
theorem dX5_repairs_97 : decode cX5_repairs 97 = .ok (.getfield 7, 3) := by decide +kernel
theorem dX5_repairs_100 : decode cX5_repairs 100 = .ok (.aload_n 0, 1) := by decide +kernel
theorem dX5_repairs_101 : decode cX5_repairs 101 = .ok (.getfield 46, 3) := by decide +kernel
theorem dX5_repairs_104 : decode cX5_repairs 104 = .ok (.iload_n 2, 1) := by decide +kernel
theorem dX5_repairs_105 : decode cX5_repairs 105 = .ok (.iaload, 1) := by decide +kernel
theorem dX5_repairs_106 : decode cX5_repairs 106 = .ok (.iaload, 1) := by decide +kernel
theorem dX5_repairs_107 : decode cX5_repairs 107 = .ok (.invokevirtual 94, 3) := by decide +kernel
theorem dX5_repairs_110 : decode cX5_repairs 110 = .ok (.ifCond .eq 7, 3) := by decide +kernel
theorem dX5_repairs_113 : decode cX5_repairs 113 = .ok (.iconst 0, 1) := by decide +kernel
theorem dX5_repairs_114 : decode cX5_repairs 114 = .ok (.goto 9, 3) := by decide +kernel
theorem dX5_repairs_117 : decode cX5_repairs 117 = .ok (.aload_n 0, 1) := by decide +kernel
theorem dX5_repairs_118 : decode cX5_repairs 118 = .ok (.getfield 19, 3) := by decide +kernel
theorem dX5_repairs_121 : decode cX5_repairs 121 = .ok (.iload_n 3, 1) := by decide +kernel
theorem dX5_repairs_122 : decode cX5_repairs 122 = .ok (.iaload, 1) := by decide +kernel
theorem dX5_repairs_123 : decode cX5_repairs 123 = .ok (.iastore, 1) := by decide +kernel
theorem dX5_repairs_124 : decode cX5_repairs 124 = .ok (.iinc 3 1, 3) := by decide +kernel
theorem dX5_repairs_127 : decode cX5_repairs 127 = .ok (.goto (-51), 3) := by decide +kernel
theorem dX5_repairs_130 : decode cX5_repairs 130 = .ok (.iinc 2 1, 3) := by decide +kernel
theorem dX5_repairs_133 : decode cX5_repairs 133 = .ok (.goto (-127), 3) := by decide +kernel
theorem dX5_repairs_136 : decode cX5_repairs 136 = .ok (.return_, 1) := by decide +kernel
theorem dX5_frees_0 : decode cX5_frees 0 = .ok (.iconst 0, 1) := by decide +kernel
theorem dX5_frees_1 : decode cX5_frees 1 = .ok (.istore_n 1, 1) := by decide +kernel
theorem dX5_frees_2 : decode cX5_frees 2 = .ok (.iload_n 1, 1) := by decide +kernel
theorem dX5_frees_3 : decode cX5_frees 3 = .ok (.iconst 3, 1) := by decide +kernel
theorem dX5_frees_4 : decode cX5_frees 4 = .ok (.if_icmp .ge 46, 3) := by decide +kernel
theorem dX5_frees_7 : decode cX5_frees 7 = .ok (.aload_n 0, 1) := by decide +kernel
theorem dX5_frees_8 : decode cX5_frees 8 = .ok (.getfield 46, 3) := by decide +kernel
theorem dX5_frees_11 : decode cX5_frees 11 = .ok (.iload_n 1, 1) := by decide +kernel
theorem dX5_frees_12 : decode cX5_frees 12 = .ok (.iaload, 1) := by decide +kernel
theorem dX5_frees_13 : decode cX5_frees 13 = .ok (.ifCond .lt 31, 3) := by decide +kernel
theorem dX5_frees_16 : decode cX5_frees 16 = .ok (.aload_n 0, 1) := by decide +kernel
theorem dX5_frees_17 : decode cX5_frees 17 = .ok (.getfield 49, 3) := by decide +kernel
theorem dX5_frees_20 : decode cX5_frees 20 = .ok (.iload_n 1, 1) := by decide +kernel
theorem dX5_frees_21 : decode cX5_frees 21 = .ok (.iaload, 1) := by decide +kernel
theorem dX5_frees_22 : decode cX5_frees 22 = .ok (.ifCond .ne 22, 3) := by decide +kernel
theorem dX5_frees_25 : decode cX5_frees 25 = .ok (.aload_n 0, 1) := by decide +kernel
theorem dX5_frees_26 : decode cX5_frees 26 = .ok (.getfield 13, 3) := by decide +kernel
theorem dX5_frees_29 : decode cX5_frees 29 = .ok (.aload_n 0, 1) := by decide +kernel
theorem dX5_frees_30 : decode cX5_frees 30 = .ok (.getfield 46, 3) := by decide +kernel
theorem dX5_frees_33 : decode cX5_frees 33 = .ok (.iload_n 1, 1) := by decide +kernel
theorem dX5_frees_34 : decode cX5_frees 34 = .ok (.iaload, 1) := by decide +kernel
theorem dX5_frees_35 : decode cX5_frees 35 = .ok (.iconst 0, 1) := by decide +kernel
theorem dX5_frees_36 : decode cX5_frees 36 = .ok (.iastore, 1) := by decide +kernel
theorem dX5_frees_37 : decode cX5_frees 37 = .ok (.aload_n 0, 1) := by decide +kernel
theorem dX5_frees_38 : decode cX5_frees 38 = .ok (.getfield 46, 3) := by decide +kernel
theorem dX5_frees_41 : decode cX5_frees 41 = .ok (.iload_n 1, 1) := by decide +kernel
theorem dX5_frees_42 : decode cX5_frees 42 = .ok (.iconst (-1), 1) := by decide +kernel
theorem dX5_frees_43 : decode cX5_frees 43 = .ok (.iastore, 1) := by decide +kernel
theorem dX5_frees_44 : decode cX5_frees 44 = .ok (.iinc 1 1, 3) := by decide +kernel
theorem dX5_frees_47 : decode cX5_frees 47 = .ok (.goto (-45), 3) := by decide +kernel
theorem dX5_frees_50 : decode cX5_frees 50 = .ok (.return_, 1) := by decide +kernel
theorem dX5_accounts_0 : decode cX5_accounts 0 = .ok (.aload_n 0, 1) := by decide +kernel
theorem dX5_accounts_1 : decode cX5_accounts 1 = .ok (.getfield 31, 3) := by decide +kernel
theorem dX5_accounts_4 : decode cX5_accounts 4 = .ok (.iload_n 1, 1) := by decide +kernel
theorem dX5_accounts_5 : decode cX5_accounts 5 = .ok (.iaload, 1) := by decide +kernel
theorem dX5_accounts_6 : decode cX5_accounts 6 = .ok (.ifCond .ge 7, 3) := by decide +kernel
theorem dX5_accounts_9 : decode cX5_accounts 9 = .ok (.iconst 0, 1) := by decide +kernel
theorem dX5_accounts_10 : decode cX5_accounts 10 = .ok (.goto 9, 3) := by decide +kernel
theorem dX5_accounts_13 : decode cX5_accounts 13 = .ok (.aload_n 0, 1) := by decide +kernel
theorem dX5_accounts_14 : decode cX5_accounts 14 = .ok (.getfield 31, 3) := by decide +kernel
theorem dX5_accounts_17 : decode cX5_accounts 17 = .ok (.iload_n 1, 1) := by decide +kernel
theorem dX5_accounts_18 : decode cX5_accounts 18 = .ok (.iaload, 1) := by decide +kernel
theorem dX5_accounts_19 : decode cX5_accounts 19 = .ok (.istore_n 2, 1) := by decide +kernel
theorem dX5_accounts_20 : decode cX5_accounts 20 = .ok (.iload_n 2, 1) := by decide +kernel
theorem dX5_accounts_21 : decode cX5_accounts 21 = .ok (.aload_n 0, 1) := by decide +kernel
theorem dX5_accounts_22 : decode cX5_accounts 22 = .ok (.getfield 37, 3) := by decide +kernel
theorem dX5_accounts_25 : decode cX5_accounts 25 = .ok (.iload_n 1, 1) := by decide +kernel
theorem dX5_accounts_26 : decode cX5_accounts 26 = .ok (.iaload, 1) := by decide +kernel
theorem dX5_accounts_27 : decode cX5_accounts 27 = .ok (.isub, 1) := by decide +kernel
theorem dX5_accounts_28 : decode cX5_accounts 28 = .ok (.istore_n 3, 1) := by decide +kernel
theorem dX5_accounts_29 : decode cX5_accounts 29 = .ok (.aload_n 0, 1) := by decide +kernel
theorem dX5_accounts_30 : decode cX5_accounts 30 = .ok (.getfield 40, 3) := by decide +kernel
theorem dX5_accounts_33 : decode cX5_accounts 33 = .ok (.iload_n 1, 1) := by decide +kernel
theorem dX5_accounts_34 : decode cX5_accounts 34 = .ok (.iload_n 2, 1) := by decide +kernel
theorem dX5_accounts_35 : decode cX5_accounts 35 = .ok (.aload_n 0, 1) := by decide +kernel
theorem dX5_accounts_36 : decode cX5_accounts 36 = .ok (.getfield 34, 3) := by decide +kernel
theorem dX5_accounts_39 : decode cX5_accounts 39 = .ok (.iload_n 1, 1) := by decide +kernel
theorem dX5_accounts_40 : decode cX5_accounts 40 = .ok (.iaload, 1) := by decide +kernel
theorem dX5_accounts_41 : decode cX5_accounts 41 = .ok (.imul, 1) := by decide +kernel
theorem dX5_accounts_42 : decode cX5_accounts 42 = .ok (.iload_n 3, 1) := by decide +kernel
theorem dX5_accounts_43 : decode cX5_accounts 43 = .ok (.ifCond .le 16, 3) := by decide +kernel
theorem dX5_accounts_46 : decode cX5_accounts 46 = .ok (.iconst 2, 1) := by decide +kernel
theorem dX5_accounts_47 : decode cX5_accounts 47 = .ok (.aload_n 0, 1) := by decide +kernel
theorem dX5_accounts_48 : decode cX5_accounts 48 = .ok (.getfield 34, 3) := by decide +kernel
theorem dX5_accounts_51 : decode cX5_accounts 51 = .ok (.iload_n 1, 1) := by decide +kernel
theorem dX5_accounts_52 : decode cX5_accounts 52 = .ok (.iaload, 1) := by decide +kernel
theorem dX5_accounts_53 : decode cX5_accounts 53 = .ok (.imul, 1) := by decide +kernel
theorem dX5_accounts_54 : decode cX5_accounts 54 = .ok (.iload_n 3, 1) := by decide +kernel
theorem dX5_accounts_55 : decode cX5_accounts 55 = .ok (.imul, 1) := by decide +kernel
theorem dX5_accounts_56 : decode cX5_accounts 56 = .ok (.goto 13, 3) := by decide +kernel
theorem dX5_accounts_59 : decode cX5_accounts 59 = .ok (.aload_n 0, 1) := by decide +kernel
theorem dX5_accounts_60 : decode cX5_accounts 60 = .ok (.getfield 34, 3) := by decide +kernel
theorem dX5_accounts_63 : decode cX5_accounts 63 = .ok (.iload_n 1, 1) := by decide +kernel
theorem dX5_accounts_64 : decode cX5_accounts 64 = .ok (.iaload, 1) := by decide +kernel
theorem dX5_accounts_65 : decode cX5_accounts 65 = .ok (.iconst 2, 1) := by decide +kernel
theorem dX5_accounts_66 : decode cX5_accounts 66 = .ok (.idiv, 1) := by decide +kernel
theorem dX5_accounts_67 : decode cX5_accounts 67 = .ok (.iload_n 3, 1) := by decide +kernel
theorem dX5_accounts_68 : decode cX5_accounts 68 = .ok (.imul, 1) := by decide +kernel
theorem dX5_accounts_69 : decode cX5_accounts 69 = .ok (.isub, 1) := by decide +kernel
theorem dX5_accounts_70 : decode cX5_accounts 70 = .ok (.iastore, 1) := by decide +kernel
theorem dX5_accounts_71 : decode cX5_accounts 71 = .ok (.return_, 1) := by decide +kernel
set_option maxRecDepth 20000 in
theorem ggX5_pass_X5_in : GoodIn wsX5_pass wsX5_in := goodIn_r _ [10] (by decide +kernel) (by decide +kernel)
set_option maxRecDepth 20000 in
theorem gX5_pass_X5_in : GoodIn wsX5_pass (wsV RX5 65 RX5 yX5_in wsX5_in) := goodIn_app (goodIn_of _ (by decide +kernel)) ggX5_pass_X5_in
set_option maxRecDepth 20000 in
theorem ggX5_pass_X5_fails : GoodIn wsX5_pass wsX5_fails := goodIn_r _ [14, 15, 65, 66, 67, 68, 69, 70, 71, 72, 73, 74, 75, 76, 77, 78, 79, 80, 81, 82, 83] (by decide +kernel) (by decide +kernel)
set_option maxRecDepth 20000 in
theorem gX5_pass_X5_fails : GoodIn wsX5_pass (wsV RX5 69 RX5 yX5_fails wsX5_fails) := goodIn_app (goodIn_of _ (by decide +kernel)) ggX5_pass_X5_fails
set_option maxRecDepth 20000 in
theorem ggX5_pass_X5_repairs : GoodIn wsX5_pass wsX5_repairs := goodIn_r _ [19, 20, 5, 21, 22, 23, 2, 24, 25, 26, 27, 28, 9, 29, 30, 31, 32, 33, 34, 35, 36, 37, 38, 39, 40, 65, 66, 67, 68, 69, 70, 71, 72, 73, 74, 75, 76, 77, 78, 79, 80, 81, 82, 83] (by decide +kernel) (by decide +kernel)
set_option maxRecDepth 20000 in
theorem gX5_pass_X5_repairs : GoodIn wsX5_pass (wsV RX5 98 RX5 yX5_repairs wsX5_repairs) := goodIn_app (goodIn_of _ (by decide +kernel)) ggX5_pass_X5_repairs
set_option maxRecDepth 20000 in
theorem ggX5_pass_X5_power : GoodIn wsX5_pass wsX5_power := goodIn_r _ [44, 24, 45, 46, 47, 9, 48, 36, 49, 50, 51, 52, 25, 53, 2, 65, 66, 67, 68, 69, 70, 71, 72, 73, 74, 75, 76, 77, 78, 79, 80, 81, 82, 83] (by decide +kernel) (by decide +kernel)
set_option maxRecDepth 20000 in
theorem gX5_pass_X5_power : GoodIn wsX5_pass (wsV RX5 102 RX5 yX5_power wsX5_power) := goodIn_app (goodIn_of _ (by decide +kernel)) ggX5_pass_X5_power
set_option maxRecDepth 20000 in
theorem ggX5_pass_X5_accounts : GoodIn wsX5_pass wsX5_accounts := goodIn_r _ [57, 58, 4, 59, 60, 65, 66, 67, 68, 69, 70, 71, 72, 73, 74, 75, 76, 77, 78, 79, 80, 81, 82, 83] (by decide +kernel) (by decide +kernel)
set_option maxRecDepth 20000 in
theorem gX5_pass_X5_accounts : GoodIn wsX5_pass (wsV RX5 105 RX5 yX5_accounts wsX5_accounts) := goodIn_app (goodIn_of _ (by decide +kernel)) ggX5_pass_X5_accounts
set_option maxRecDepth 20000 in
theorem ggX5_pass_X5_frees : GoodIn wsX5_pass wsX5_frees := goodIn_r _ [64, 20, 22, 30, 65, 66, 67, 68, 69, 70, 71, 72, 73, 74, 75, 76, 77, 78, 79, 80, 81, 82, 83] (by decide +kernel) (by decide +kernel)
set_option maxRecDepth 20000 in
theorem gX5_pass_X5_frees : GoodIn wsX5_pass (wsV RX5 108 RX5 yX5_frees wsX5_frees) := goodIn_app (goodIn_of _ (by decide +kernel)) ggX5_pass_X5_frees
theorem dX5_pass_0 : decode cX5_pass 0 = .ok (.aload_n 0, 1) := by decide +kernel
theorem dX5_pass_1 : decode cX5_pass 1 = .ok (.aload_n 0, 1) := by decide +kernel
theorem dX5_pass_2 : decode cX5_pass 2 = .ok (.iload_n 1, 1) := by decide +kernel
theorem dX5_pass_3 : decode cX5_pass 3 = .ok (.iconst 1, 1) := by decide +kernel
theorem dX5_pass_4 : decode cX5_pass 4 = .ok (.bipush 48, 2) := by decide +kernel
theorem dX5_pass_6 : decode cX5_pass 6 = .ok (.invokevirtual 65, 3) := by decide +kernel
theorem dX5_pass_9 : decode cX5_pass 9 = .ok (.ifCond .ne 7, 3) := by decide +kernel
theorem dX5_pass_12 : decode cX5_pass 12 = .ok (.iconst 1, 1) := by decide +kernel
theorem dX5_pass_13 : decode cX5_pass 13 = .ok (.goto 20, 3) := by decide +kernel
theorem dX5_pass_16 : decode cX5_pass 16 = .ok (.aload_n 0, 1) := by decide +kernel
theorem dX5_pass_17 : decode cX5_pass 17 = .ok (.getfield 73, 3) := by decide +kernel
theorem dX5_pass_20 : decode cX5_pass 20 = .ok (.iload_n 1, 1) := by decide +kernel
theorem dX5_pass_21 : decode cX5_pass 21 = .ok (.iadd, 1) := by decide +kernel
theorem dX5_pass_22 : decode cX5_pass 22 = .ok (.sipush 479, 3) := by decide +kernel
theorem dX5_pass_25 : decode cX5_pass 25 = .ok (.if_icmp .le 7, 3) := by decide +kernel
theorem dX5_pass_28 : decode cX5_pass 28 = .ok (.iconst 2, 1) := by decide +kernel
theorem dX5_pass_29 : decode cX5_pass 29 = .ok (.goto 4, 3) := by decide +kernel
theorem dX5_pass_32 : decode cX5_pass 32 = .ok (.iconst 0, 1) := by decide +kernel
theorem dX5_pass_33 : decode cX5_pass 33 = .ok (.invokevirtual 69, 3) := by decide +kernel
theorem dX5_pass_36 : decode cX5_pass 36 = .ok (.ifCond .eq 5, 3) := by decide +kernel
theorem dX5_pass_39 : decode cX5_pass 39 = .ok (.iconst (-1), 1) := by decide +kernel
theorem dX5_pass_40 : decode cX5_pass 40 = .ok (.ireturn, 1) := by decide +kernel
theorem dX5_pass_41 : decode cX5_pass 41 = .ok (.iconst 0, 1) := by decide +kernel
theorem dX5_pass_42 : decode cX5_pass 42 = .ok (.istore_n 2, 1) := by decide +kernel
theorem dX5_pass_43 : decode cX5_pass 43 = .ok (.iload_n 2, 1) := by decide +kernel
theorem dX5_pass_44 : decode cX5_pass 44 = .ok (.iload_n 1, 1) := by decide +kernel
theorem dX5_pass_45 : decode cX5_pass 45 = .ok (.if_icmp .ge 130, 3) := by decide +kernel
theorem dX5_pass_48 : decode cX5_pass 48 = .ok (.aload_n 0, 1) := by decide +kernel
theorem dX5_pass_49 : decode cX5_pass 49 = .ok (.aload_n 0, 1) := by decide +kernel
theorem dX5_pass_50 : decode cX5_pass 50 = .ok (.getfield 73, 3) := by decide +kernel
theorem dX5_pass_53 : decode cX5_pass 53 = .ok (.invokevirtual 98, 3) := by decide +kernel
theorem dX5_pass_56 : decode cX5_pass 56 = .ok (.iconst 0, 1) := by decide +kernel
theorem dX5_pass_57 : decode cX5_pass 57 = .ok (.istore_n 3, 1) := by decide +kernel
theorem dX5_pass_58 : decode cX5_pass 58 = .ok (.iload_n 3, 1) := by decide +kernel
theorem dX5_pass_59 : decode cX5_pass 59 = .ok (.aload_n 0, 1) := by decide +kernel
theorem dX5_pass_60 : decode cX5_pass 60 = .ok (.getfield 62, 3) := by decide +kernel
theorem dX5_pass_63 : decode cX5_pass 63 = .ok (.if_icmp .ge 45, 3) := by decide +kernel
theorem dX5_pass_66 : decode cX5_pass 66 = .ok (.aload_n 0, 1) := by decide +kernel
theorem dX5_pass_67 : decode cX5_pass 67 = .ok (.iload_n 3, 1) := by decide +kernel
theorem dX5_pass_68 : decode cX5_pass 68 = .ok (.aload_n 0, 1) := by decide +kernel
theorem dX5_pass_69 : decode cX5_pass 69 = .ok (.getfield 73, 3) := by decide +kernel
theorem dX5_pass_72 : decode cX5_pass 72 = .ok (.invokevirtual 102, 3) := by decide +kernel
theorem dX5_pass_75 : decode cX5_pass 75 = .ok (.istore 4, 2) := by decide +kernel
theorem dX5_pass_77 : decode cX5_pass 77 = .ok (.aload_n 0, 1) := by decide +kernel
theorem dX5_pass_78 : decode cX5_pass 78 = .ok (.getfield 16, 3) := by decide +kernel
theorem dX5_pass_81 : decode cX5_pass 81 = .ok (.iload_n 3, 1) := by decide +kernel
theorem dX5_pass_82 : decode cX5_pass 82 = .ok (.dup2, 1) := by decide +kernel
theorem dX5_pass_83 : decode cX5_pass 83 = .ok (.iaload, 1) := by decide +kernel
theorem dX5_pass_84 : decode cX5_pass 84 = .ok (.iload 4, 2) := by decide +kernel
theorem dX5_pass_86 : decode cX5_pass 86 = .ok (.iadd, 1) := by decide +kernel
theorem dX5_pass_87 : decode cX5_pass 87 = .ok (.iastore, 1) := by decide +kernel
theorem dX5_pass_88 : decode cX5_pass 88 = .ok (.aload_n 0, 1) := by decide +kernel
theorem dX5_pass_89 : decode cX5_pass 89 = .ok (.getfield 37, 3) := by decide +kernel
theorem dX5_pass_92 : decode cX5_pass 92 = .ok (.aload_n 0, 1) := by decide +kernel
theorem dX5_pass_93 : decode cX5_pass 93 = .ok (.getfield 73, 3) := by decide +kernel
theorem dX5_pass_96 : decode cX5_pass 96 = .ok (.dup2, 1) := by decide +kernel
theorem dX5_pass_97 : decode cX5_pass 97 = .ok (.iaload, 1) := by decide +kernel
theorem dX5_pass_98 : decode cX5_pass 98 = .ok (.iload 4, 2) := by decide +kernel
theorem dX5_pass_100 : decode cX5_pass 100 = .ok (.iadd, 1) := by decide +kernel
theorem dX5_pass_101 : decode cX5_pass 101 = .ok (.iastore, 1) := by decide +kernel
theorem dX5_pass_102 : decode cX5_pass 102 = .ok (.iinc 3 1, 3) := by decide +kernel
theorem dX5_pass_105 : decode cX5_pass 105 = .ok (.goto (-47), 3) := by decide +kernel
theorem dX5_pass_108 : decode cX5_pass 108 = .ok (.aload_n 0, 1) := by decide +kernel
theorem dX5_pass_109 : decode cX5_pass 109 = .ok (.aload_n 0, 1) := by decide +kernel
theorem dX5_pass_110 : decode cX5_pass 110 = .ok (.getfield 73, 3) := by decide +kernel
theorem dX5_pass_113 : decode cX5_pass 113 = .ok (.invokevirtual 105, 3) := by decide +kernel
theorem dX5_pass_116 : decode cX5_pass 116 = .ok (.aload_n 0, 1) := by decide +kernel
theorem dX5_pass_117 : decode cX5_pass 117 = .ok (.invokevirtual 108, 3) := by decide +kernel
theorem dX5_pass_120 : decode cX5_pass 120 = .ok (.aload_n 0, 1) := by decide +kernel
theorem dX5_pass_121 : decode cX5_pass 121 = .ok (.dup, 1) := by decide +kernel
theorem dX5_pass_122 : decode cX5_pass 122 = .ok (.getfield 73, 3) := by decide +kernel
theorem dX5_pass_125 : decode cX5_pass 125 = .ok (.iconst 1, 1) := by decide +kernel
theorem dX5_pass_126 : decode cX5_pass 126 = .ok (.iadd, 1) := by decide +kernel
theorem dX5_pass_127 : decode cX5_pass 127 = .ok (.putfield 73, 3) := by decide +kernel
theorem dX5_pass_130 : decode cX5_pass 130 = .ok (.iconst 0, 1) := by decide +kernel
theorem dX5_pass_131 : decode cX5_pass 131 = .ok (.istore_n 3, 1) := by decide +kernel
theorem dX5_pass_132 : decode cX5_pass 132 = .ok (.iload_n 3, 1) := by decide +kernel
theorem dX5_pass_133 : decode cX5_pass 133 = .ok (.iconst 3, 1) := by decide +kernel
theorem dX5_pass_134 : decode cX5_pass 134 = .ok (.if_icmp .ge 35, 3) := by decide +kernel
theorem dX5_pass_137 : decode cX5_pass 137 = .ok (.aload_n 0, 1) := by decide +kernel
theorem dX5_pass_138 : decode cX5_pass 138 = .ok (.getfield 52, 3) := by decide +kernel
theorem dX5_pass_141 : decode cX5_pass 141 = .ok (.iload_n 3, 1) := by decide +kernel
theorem dX5_pass_142 : decode cX5_pass 142 = .ok (.aload_n 0, 1) := by decide +kernel
theorem dX5_pass_143 : decode cX5_pass 143 = .ok (.getfield 73, 3) := by decide +kernel
theorem dX5_pass_146 : decode cX5_pass 146 = .ok (.bipush 24, 2) := by decide +kernel
theorem dX5_pass_148 : decode cX5_pass 148 = .ok (.irem, 1) := by decide +kernel
theorem dX5_pass_149 : decode cX5_pass 149 = .ok (.ifCond .ne 7, 3) := by decide +kernel
theorem dX5_pass_152 : decode cX5_pass 152 = .ok (.iconst 0, 1) := by decide +kernel
theorem dX5_pass_153 : decode cX5_pass 153 = .ok (.goto 9, 3) := by decide +kernel
theorem dX5_pass_156 : decode cX5_pass 156 = .ok (.aload_n 0, 1) := by decide +kernel
theorem dX5_pass_157 : decode cX5_pass 157 = .ok (.getfield 52, 3) := by decide +kernel
theorem dX5_pass_160 : decode cX5_pass 160 = .ok (.iload_n 3, 1) := by decide +kernel
theorem dX5_pass_161 : decode cX5_pass 161 = .ok (.iaload, 1) := by decide +kernel
theorem dX5_pass_162 : decode cX5_pass 162 = .ok (.iastore, 1) := by decide +kernel
theorem dX5_pass_163 : decode cX5_pass 163 = .ok (.iinc 3 1, 3) := by decide +kernel
theorem dX5_pass_166 : decode cX5_pass 166 = .ok (.goto (-34), 3) := by decide +kernel
theorem dX5_pass_169 : decode cX5_pass 169 = .ok (.iinc 2 1, 3) := by decide +kernel
theorem dX5_pass_172 : decode cX5_pass 172 = .ok (.goto (-129), 3) := by decide +kernel
theorem dX5_pass_175 : decode cX5_pass 175 = .ok (.aload_n 0, 1) := by decide +kernel
theorem dX5_pass_176 : decode cX5_pass 176 = .ok (.getfield 73, 3) := by decide +kernel
theorem dX5_pass_179 : decode cX5_pass 179 = .ok (.ireturn, 1) := by decide +kernel
set_option maxRecDepth 20000 in
theorem ggX5_windAt_X5_isTurbine : GoodIn wsX5_windAt wsX5_isTurbine := goodIn_r _ [6, 7, 8, 9, 10, 5, 11, 34, 35, 36, 37, 38, 39, 40, 41, 42, 43, 44, 45, 46, 47, 48, 49, 50, 51, 52] (by decide +kernel) (by decide +kernel)
set_option maxRecDepth 20000 in
theorem gX5_windAt_X5_isTurbine : GoodIn wsX5_windAt (wsV RX5 80 RX5 yX5_isTurbine wsX5_isTurbine) := goodIn_app (goodIn_of _ (by decide +kernel)) ggX5_windAt_X5_isTurbine
set_option maxRecDepth 20000 in
theorem ggX5_windAt_X5_fails : GoodIn wsX5_windAt wsX5_fails := goodIn_r _ [15, 16, 34, 35, 36, 37, 38, 39, 40, 41, 42, 43, 44, 45, 46, 47, 48, 49, 50, 51, 52] (by decide +kernel) (by decide +kernel)
set_option maxRecDepth 20000 in
theorem gX5_windAt_X5_fails : GoodIn wsX5_windAt (wsV RX5 69 RX5 yX5_fails wsX5_fails) := goodIn_app (goodIn_of _ (by decide +kernel)) ggX5_windAt_X5_fails
set_option maxRecDepth 20000 in
theorem ggX5_windAt_X5_allTurn : GoodIn wsX5_windAt wsX5_allTurn := goodIn_r _ [20, 7, 21, 22, 34, 35, 36, 37, 38, 39, 40, 41, 42, 43, 44, 45, 46, 47, 48, 49, 50, 51, 52] (by decide +kernel) (by decide +kernel)
set_option maxRecDepth 20000 in
theorem gX5_windAt_X5_allTurn : GoodIn wsX5_windAt (wsV RX5 91 RX5 yX5_allTurn wsX5_allTurn) := goodIn_app (goodIn_of _ (by decide +kernel)) ggX5_windAt_X5_allTurn
set_option maxRecDepth 20000 in
theorem ggX5_windAt_X5_windOf : GoodIn wsX5_windAt wsX5_windOf := goodIn_r _ [26, 27, 28, 29, 30, 5, 31, 32, 33, 7, 21, 34, 35, 36, 37, 38, 39, 40, 41, 42, 43, 44, 45, 46, 47, 48, 49, 50, 51, 52] (by decide +kernel) (by decide +kernel)
set_option maxRecDepth 20000 in
theorem gX5_windAt_X5_windOf : GoodIn wsX5_windAt (wsV RX5 87 RX5 yX5_windOf wsX5_windOf) := goodIn_app (goodIn_of _ (by decide +kernel)) ggX5_windAt_X5_windOf
theorem dX5_windAt_0 : decode cX5_windAt 0 = .ok (.aload_n 0, 1) := by decide +kernel
theorem dX5_windAt_1 : decode cX5_windAt 1 = .ok (.aload_n 0, 1) := by decide +kernel
theorem dX5_windAt_2 : decode cX5_windAt 2 = .ok (.iload_n 1, 1) := by decide +kernel
theorem dX5_windAt_3 : decode cX5_windAt 3 = .ok (.invokevirtual 80, 3) := by decide +kernel
theorem dX5_windAt_6 : decode cX5_windAt 6 = .ok (.ifCond .eq 7, 3) := by decide +kernel
theorem dX5_windAt_9 : decode cX5_windAt 9 = .ok (.iconst 0, 1) := by decide +kernel
theorem dX5_windAt_10 : decode cX5_windAt 10 = .ok (.goto 4, 3) := by decide +kernel
theorem dX5_windAt_13 : decode cX5_windAt 13 = .ok (.iconst 1, 1) := by decide +kernel
theorem dX5_windAt_14 : decode cX5_windAt 14 = .ok (.invokevirtual 69, 3) := by decide +kernel
theorem dX5_windAt_17 : decode cX5_windAt 17 = .ok (.ifCond .eq 5, 3) := by decide +kernel
theorem dX5_windAt_20 : decode cX5_windAt 20 = .ok (.iconst (-1), 1) := by decide +kernel
theorem dX5_windAt_21 : decode cX5_windAt 21 = .ok (.ireturn, 1) := by decide +kernel
theorem dX5_windAt_22 : decode cX5_windAt 22 = .ok (.aload_n 0, 1) := by decide +kernel
theorem dX5_windAt_23 : decode cX5_windAt 23 = .ok (.invokevirtual 91, 3) := by decide +kernel
theorem dX5_windAt_26 : decode cX5_windAt 26 = .ok (.aload_n 0, 1) := by decide +kernel
theorem dX5_windAt_27 : decode cX5_windAt 27 = .ok (.iload_n 1, 1) := by decide +kernel
theorem dX5_windAt_28 : decode cX5_windAt 28 = .ok (.aload_n 0, 1) := by decide +kernel
theorem dX5_windAt_29 : decode cX5_windAt 29 = .ok (.getfield 73, 3) := by decide +kernel
theorem dX5_windAt_32 : decode cX5_windAt 32 = .ok (.invokevirtual 87, 3) := by decide +kernel
theorem dX5_windAt_35 : decode cX5_windAt 35 = .ok (.ireturn, 1) := by decide +kernel
set_option maxRecDepth 20000 in
theorem ggX5_sum_X5_allTurn : GoodIn wsX5_sum wsX5_allTurn := goodIn_r _ [6, 1, 7, 8, 24, 25, 26, 27, 28, 29, 30, 31, 32, 33, 34, 35, 36, 37, 38, 39, 40, 41, 42] (by decide +kernel) (by decide +kernel)
set_option maxRecDepth 20000 in
theorem gX5_sum_X5_allTurn : GoodIn wsX5_sum (wsV RX5 91 RX5 yX5_allTurn wsX5_allTurn) := goodIn_app (goodIn_of _ (by decide +kernel)) ggX5_sum_X5_allTurn
set_option maxRecDepth 20000 in
theorem ggX5_sum_X5_power : GoodIn wsX5_sum wsX5_power := goodIn_r _ [12, 7, 13, 14, 15, 5, 16, 17, 18, 19, 20, 21, 22, 23, 1, 24, 25, 26, 27, 28, 29, 30, 31, 32, 33, 34, 35, 36, 37, 38, 39, 40, 41, 42] (by decide +kernel) (by decide +kernel)
set_option maxRecDepth 20000 in
theorem gX5_sum_X5_power : GoodIn wsX5_sum (wsV RX5 102 RX5 yX5_power wsX5_power) := goodIn_app (goodIn_of _ (by decide +kernel)) ggX5_sum_X5_power
theorem dX5_sum_0 : decode cX5_sum 0 = .ok (.aload_n 0, 1) := by decide +kernel
theorem dX5_sum_1 : decode cX5_sum 1 = .ok (.invokevirtual 91, 3) := by decide +kernel
theorem dX5_sum_4 : decode cX5_sum 4 = .ok (.iconst 0, 1) := by decide +kernel
theorem dX5_sum_5 : decode cX5_sum 5 = .ok (.istore_n 2, 1) := by decide +kernel
theorem dX5_sum_6 : decode cX5_sum 6 = .ok (.iconst 0, 1) := by decide +kernel
theorem dX5_sum_7 : decode cX5_sum 7 = .ok (.istore_n 3, 1) := by decide +kernel
theorem dX5_sum_8 : decode cX5_sum 8 = .ok (.iload_n 3, 1) := by decide +kernel
theorem dX5_sum_9 : decode cX5_sum 9 = .ok (.aload_n 0, 1) := by decide +kernel
theorem dX5_sum_10 : decode cX5_sum 10 = .ok (.getfield 62, 3) := by decide +kernel
theorem dX5_sum_13 : decode cX5_sum 13 = .ok (.if_icmp .ge 18, 3) := by decide +kernel
theorem dX5_sum_16 : decode cX5_sum 16 = .ok (.iload_n 2, 1) := by decide +kernel
theorem dX5_sum_17 : decode cX5_sum 17 = .ok (.aload_n 0, 1) := by decide +kernel
theorem dX5_sum_18 : decode cX5_sum 18 = .ok (.iload_n 3, 1) := by decide +kernel
theorem dX5_sum_19 : decode cX5_sum 19 = .ok (.iload_n 1, 1) := by decide +kernel
theorem dX5_sum_20 : decode cX5_sum 20 = .ok (.invokevirtual 102, 3) := by decide +kernel
theorem dX5_sum_23 : decode cX5_sum 23 = .ok (.iadd, 1) := by decide +kernel
theorem dX5_sum_24 : decode cX5_sum 24 = .ok (.istore_n 2, 1) := by decide +kernel
theorem dX5_sum_25 : decode cX5_sum 25 = .ok (.iinc 3 1, 3) := by decide +kernel
theorem dX5_sum_28 : decode cX5_sum 28 = .ok (.goto (-20), 3) := by decide +kernel
theorem dX5_sum_31 : decode cX5_sum 31 = .ok (.iload_n 2, 1) := by decide +kernel
theorem dX5_sum_32 : decode cX5_sum 32 = .ok (.ireturn, 1) := by decide +kernel
set_option maxRecDepth 20000 in
theorem ggX5_foretold_X5_in : GoodIn wsX5_foretold wsX5_in := goodIn_r _ [6] (by decide +kernel) (by decide +kernel)
set_option maxRecDepth 20000 in
theorem gX5_foretold_X5_in : GoodIn wsX5_foretold (wsV RX5 65 RX5 yX5_in wsX5_in) := goodIn_app (goodIn_of _ (by decide +kernel)) ggX5_foretold_X5_in
set_option maxRecDepth 20000 in
theorem ggX5_foretold_X5_fails : GoodIn wsX5_foretold wsX5_fails := goodIn_r _ [10, 11, 38, 39, 40, 41, 42, 43, 44, 45, 46, 47, 48, 49, 50, 51, 52, 53, 54, 55, 56] (by decide +kernel) (by decide +kernel)
set_option maxRecDepth 20000 in
theorem gX5_foretold_X5_fails : GoodIn wsX5_foretold (wsV RX5 69 RX5 yX5_fails wsX5_fails) := goodIn_app (goodIn_of _ (by decide +kernel)) ggX5_foretold_X5_fails
set_option maxRecDepth 20000 in
theorem ggX5_foretold_X5_sum : GoodIn wsX5_foretold wsX5_sum := goodIn_r _ [15, 16, 17, 18, 19, 5, 20, 21, 22, 23, 24, 25, 26, 27, 28, 29, 30, 31, 32, 33, 34, 35, 36, 37, 38, 39, 40, 41, 42, 43, 44, 45, 46, 47, 48, 49, 50, 51, 52, 53, 54, 55, 56] (by decide +kernel) (by decide +kernel)
set_option maxRecDepth 20000 in
theorem gX5_foretold_X5_sum : GoodIn wsX5_foretold (wsV RX5 111 RX5 yX5_sum wsX5_sum) := goodIn_app (goodIn_of _ (by decide +kernel)) ggX5_foretold_X5_sum
theorem dX5_foretold_0 : decode cX5_foretold 0 = .ok (.aload_n 0, 1) := by decide +kernel
theorem dX5_foretold_1 : decode cX5_foretold 1 = .ok (.aload_n 0, 1) := by decide +kernel
theorem dX5_foretold_2 : decode cX5_foretold 2 = .ok (.iload_n 1, 1) := by decide +kernel
theorem dX5_foretold_3 : decode cX5_foretold 3 = .ok (.aload_n 0, 1) := by decide +kernel
theorem dX5_foretold_4 : decode cX5_foretold 4 = .ok (.getfield 73, 3) := by decide +kernel
theorem dX5_foretold_7 : decode cX5_foretold 7 = .ok (.sipush 479, 3) := by decide +kernel
theorem dX5_foretold_10 : decode cX5_foretold 10 = .ok (.invokevirtual 65, 3) := by decide +kernel
theorem dX5_foretold_13 : decode cX5_foretold 13 = .ok (.ifCond .eq 7, 3) := by decide +kernel
theorem dX5_foretold_16 : decode cX5_foretold 16 = .ok (.iconst 0, 1) := by decide +kernel
theorem dX5_foretold_17 : decode cX5_foretold 17 = .ok (.goto 4, 3) := by decide +kernel
theorem dX5_foretold_20 : decode cX5_foretold 20 = .ok (.iconst 1, 1) := by decide +kernel
theorem dX5_foretold_21 : decode cX5_foretold 21 = .ok (.invokevirtual 69, 3) := by decide +kernel
theorem dX5_foretold_24 : decode cX5_foretold 24 = .ok (.ifCond .eq 7, 3) := by decide +kernel
theorem dX5_foretold_27 : decode cX5_foretold 27 = .ok (.iconst (-1), 1) := by decide +kernel
theorem dX5_foretold_28 : decode cX5_foretold 28 = .ok (.goto 8, 3) := by decide +kernel
theorem dX5_foretold_31 : decode cX5_foretold 31 = .ok (.aload_n 0, 1) := by decide +kernel
theorem dX5_foretold_32 : decode cX5_foretold 32 = .ok (.iload_n 1, 1) := by decide +kernel
theorem dX5_foretold_33 : decode cX5_foretold 33 = .ok (.invokevirtual 111, 3) := by decide +kernel
theorem dX5_foretold_36 : decode cX5_foretold 36 = .ok (.ireturn, 1) := by decide +kernel
set_option maxRecDepth 20000 in
theorem ggX5_foretoldAnew_X5_in : GoodIn wsX5_foretoldAnew wsX5_in := goodIn_r _ [6] (by decide +kernel) (by decide +kernel)
set_option maxRecDepth 20000 in
theorem gX5_foretoldAnew_X5_in : GoodIn wsX5_foretoldAnew (wsV RX5 65 RX5 yX5_in wsX5_in) := goodIn_app (goodIn_of _ (by decide +kernel)) ggX5_foretoldAnew_X5_in
set_option maxRecDepth 20000 in
theorem ggX5_foretoldAnew_X5_fails : GoodIn wsX5_foretoldAnew wsX5_fails := goodIn_r _ [10, 11, 38, 39, 40, 41, 42, 43, 44, 45, 46, 47, 48, 49, 50, 51, 52, 53, 54, 55, 56] (by decide +kernel) (by decide +kernel)
set_option maxRecDepth 20000 in
theorem gX5_foretoldAnew_X5_fails : GoodIn wsX5_foretoldAnew (wsV RX5 69 RX5 yX5_fails wsX5_fails) := goodIn_app (goodIn_of _ (by decide +kernel)) ggX5_foretoldAnew_X5_fails
set_option maxRecDepth 20000 in
theorem ggX5_foretoldAnew_X5_sum : GoodIn wsX5_foretoldAnew wsX5_sum := goodIn_r _ [15, 16, 17, 18, 19, 5, 20, 21, 22, 23, 24, 25, 26, 27, 28, 29, 30, 31, 32, 33, 34, 35, 36, 37, 38, 39, 40, 41, 42, 43, 44, 45, 46, 47, 48, 49, 50, 51, 52, 53, 54, 55, 56] (by decide +kernel) (by decide +kernel)
set_option maxRecDepth 20000 in
theorem gX5_foretoldAnew_X5_sum : GoodIn wsX5_foretoldAnew (wsV RX5 111 RX5 yX5_sum wsX5_sum) := goodIn_app (goodIn_of _ (by decide +kernel)) ggX5_foretoldAnew_X5_sum
theorem dX5_foretoldAnew_0 : decode cX5_foretoldAnew 0 = .ok (.aload_n 0, 1) := by decide +kernel
theorem dX5_foretoldAnew_1 : decode cX5_foretoldAnew 1 = .ok (.aload_n 0, 1) := by decide +kernel
theorem dX5_foretoldAnew_2 : decode cX5_foretoldAnew 2 = .ok (.iload_n 1, 1) := by decide +kernel
theorem dX5_foretoldAnew_3 : decode cX5_foretoldAnew 3 = .ok (.aload_n 0, 1) := by decide +kernel
theorem dX5_foretoldAnew_4 : decode cX5_foretoldAnew 4 = .ok (.getfield 73, 3) := by decide +kernel
theorem dX5_foretoldAnew_7 : decode cX5_foretoldAnew 7 = .ok (.sipush 479, 3) := by decide +kernel
theorem dX5_foretoldAnew_10 : decode cX5_foretoldAnew 10 = .ok (.invokevirtual 65, 3) := by decide +kernel
theorem dX5_foretoldAnew_13 : decode cX5_foretoldAnew 13 = .ok (.ifCond .eq 7, 3) := by decide +kernel
theorem dX5_foretoldAnew_16 : decode cX5_foretoldAnew 16 = .ok (.iconst 0, 1) := by decide +kernel
theorem dX5_foretoldAnew_17 : decode cX5_foretoldAnew 17 = .ok (.goto 4, 3) := by decide +kernel
theorem dX5_foretoldAnew_20 : decode cX5_foretoldAnew 20 = .ok (.iconst 1, 1) := by decide +kernel
theorem dX5_foretoldAnew_21 : decode cX5_foretoldAnew 21 = .ok (.invokevirtual 69, 3) := by decide +kernel
theorem dX5_foretoldAnew_24 : decode cX5_foretoldAnew 24 = .ok (.ifCond .eq 7, 3) := by decide +kernel
theorem dX5_foretoldAnew_27 : decode cX5_foretoldAnew 27 = .ok (.iconst (-1), 1) := by decide +kernel
theorem dX5_foretoldAnew_28 : decode cX5_foretoldAnew 28 = .ok (.goto 8, 3) := by decide +kernel
theorem dX5_foretoldAnew_31 : decode cX5_foretoldAnew 31 = .ok (.aload_n 0, 1) := by decide +kernel
theorem dX5_foretoldAnew_32 : decode cX5_foretoldAnew 32 = .ok (.iload_n 1, 1) := by decide +kernel
theorem dX5_foretoldAnew_33 : decode cX5_foretoldAnew 33 = .ok (.invokevirtual 111, 3) := by decide +kernel
theorem dX5_foretoldAnew_36 : decode cX5_foretoldAnew 36 = .ok (.ireturn, 1) := by decide +kernel
set_option maxRecDepth 20000 in
theorem ggX5_ofHour_X5_in : GoodIn wsX5_ofHour wsX5_in := goodIn_r _ [9] (by decide +kernel) (by decide +kernel)
set_option maxRecDepth 20000 in
theorem gX5_ofHour_X5_in : GoodIn wsX5_ofHour (wsV RX5 65 RX5 yX5_in wsX5_in) := goodIn_app (goodIn_of _ (by decide +kernel)) ggX5_ofHour_X5_in
set_option maxRecDepth 20000 in
theorem ggX5_ofHour_X5_fails : GoodIn wsX5_ofHour wsX5_fails := goodIn_r _ [13, 14, 15, 16, 17, 18, 19, 20, 21, 22, 23, 24, 25, 26, 27, 28, 29, 30, 31, 32, 33] (by decide +kernel) (by decide +kernel)
set_option maxRecDepth 20000 in
theorem gX5_ofHour_X5_fails : GoodIn wsX5_ofHour (wsV RX5 69 RX5 yX5_fails wsX5_fails) := goodIn_app (goodIn_of _ (by decide +kernel)) ggX5_ofHour_X5_fails
theorem dX5_ofHour_0 : decode cX5_ofHour 0 = .ok (.aload_n 0, 1) := by decide +kernel
theorem dX5_ofHour_1 : decode cX5_ofHour 1 = .ok (.iload_n 1, 1) := by decide +kernel
theorem dX5_ofHour_2 : decode cX5_ofHour 2 = .ok (.iconst 0, 1) := by decide +kernel
theorem dX5_ofHour_3 : decode cX5_ofHour 3 = .ok (.aload_n 0, 1) := by decide +kernel
theorem dX5_ofHour_4 : decode cX5_ofHour 4 = .ok (.getfield 73, 3) := by decide +kernel
theorem dX5_ofHour_7 : decode cX5_ofHour 7 = .ok (.iconst 1, 1) := by decide +kernel
theorem dX5_ofHour_8 : decode cX5_ofHour 8 = .ok (.isub, 1) := by decide +kernel
theorem dX5_ofHour_9 : decode cX5_ofHour 9 = .ok (.invokevirtual 65, 3) := by decide +kernel
theorem dX5_ofHour_12 : decode cX5_ofHour 12 = .ok (.ifCond .eq 17, 3) := by decide +kernel
theorem dX5_ofHour_15 : decode cX5_ofHour 15 = .ok (.aload_n 0, 1) := by decide +kernel
theorem dX5_ofHour_16 : decode cX5_ofHour 16 = .ok (.iload_n 2, 1) := by decide +kernel
theorem dX5_ofHour_17 : decode cX5_ofHour 17 = .ok (.iconst 0, 1) := by decide +kernel
theorem dX5_ofHour_18 : decode cX5_ofHour 18 = .ok (.iconst 3, 1) := by decide +kernel
theorem dX5_ofHour_19 : decode cX5_ofHour 19 = .ok (.invokevirtual 65, 3) := by decide +kernel
theorem dX5_ofHour_22 : decode cX5_ofHour 22 = .ok (.ifCond .eq 7, 3) := by decide +kernel
theorem dX5_ofHour_25 : decode cX5_ofHour 25 = .ok (.iconst 1, 1) := by decide +kernel
theorem dX5_ofHour_26 : decode cX5_ofHour 26 = .ok (.goto 4, 3) := by decide +kernel
theorem dX5_ofHour_29 : decode cX5_ofHour 29 = .ok (.iconst 0, 1) := by decide +kernel
theorem dX5_ofHour_30 : decode cX5_ofHour 30 = .ok (.istore_n 3, 1) := by decide +kernel
theorem dX5_ofHour_31 : decode cX5_ofHour 31 = .ok (.aload_n 0, 1) := by decide +kernel
theorem dX5_ofHour_32 : decode cX5_ofHour 32 = .ok (.iload_n 3, 1) := by decide +kernel
theorem dX5_ofHour_33 : decode cX5_ofHour 33 = .ok (.ifCond .eq 7, 3) := by decide +kernel
theorem dX5_ofHour_36 : decode cX5_ofHour 36 = .ok (.iconst 0, 1) := by decide +kernel
theorem dX5_ofHour_37 : decode cX5_ofHour 37 = .ok (.goto 4, 3) := by decide +kernel
theorem dX5_ofHour_40 : decode cX5_ofHour 40 = .ok (.iconst 1, 1) := by decide +kernel
theorem dX5_ofHour_41 : decode cX5_ofHour 41 = .ok (.invokevirtual 69, 3) := by decide +kernel
theorem dX5_ofHour_44 : decode cX5_ofHour 44 = .ok (.ifCond .eq 5, 3) := by decide +kernel
theorem dX5_ofHour_47 : decode cX5_ofHour 47 = .ok (.iconst (-1), 1) := by decide +kernel
theorem dX5_ofHour_48 : decode cX5_ofHour 48 = .ok (.ireturn, 1) := by decide +kernel
theorem dX5_ofHour_49 : decode cX5_ofHour 49 = .ok (.aload_n 0, 1) := by decide +kernel
theorem dX5_ofHour_50 : decode cX5_ofHour 50 = .ok (.getfield 31, 3) := by decide +kernel
theorem dX5_ofHour_53 : decode cX5_ofHour 53 = .ok (.iload_n 1, 1) := by decide +kernel
theorem dX5_ofHour_54 : decode cX5_ofHour 54 = .ok (.iaload, 1) := by decide +kernel
theorem dX5_ofHour_55 : decode cX5_ofHour 55 = .ok (.ifCond .ge 7, 3) := by decide +kernel
theorem dX5_ofHour_58 : decode cX5_ofHour 58 = .ok (.iconst 0, 1) := by decide +kernel
theorem dX5_ofHour_59 : decode cX5_ofHour 59 = .ok (.goto 9, 3) := by decide +kernel
theorem dX5_ofHour_62 : decode cX5_ofHour 62 = .ok (.aload_n 0, 1) := by decide +kernel
theorem dX5_ofHour_63 : decode cX5_ofHour 63 = .ok (.getfield 31, 3) := by decide +kernel
theorem dX5_ofHour_66 : decode cX5_ofHour 66 = .ok (.iload_n 1, 1) := by decide +kernel
theorem dX5_ofHour_67 : decode cX5_ofHour 67 = .ok (.iaload, 1) := by decide +kernel
theorem dX5_ofHour_68 : decode cX5_ofHour 68 = .ok (.istore 4, 2) := by decide +kernel
theorem dX5_ofHour_70 : decode cX5_ofHour 70 = .ok (.iload_n 2, 1) := by decide +kernel
theorem dX5_ofHour_71 : decode cX5_ofHour 71 = .ok (.ifCond .ne 12, 3) := by decide +kernel
theorem dX5_ofHour_74 : decode cX5_ofHour 74 = .ok (.aload_n 0, 1) := by decide +kernel
theorem dX5_ofHour_75 : decode cX5_ofHour 75 = .ok (.getfield 37, 3) := by decide +kernel
theorem dX5_ofHour_78 : decode cX5_ofHour 78 = .ok (.iload_n 1, 1) := by decide +kernel
theorem dX5_ofHour_79 : decode cX5_ofHour 79 = .ok (.iaload, 1) := by decide +kernel
theorem dX5_ofHour_80 : decode cX5_ofHour 80 = .ok (.goto 36, 3) := by decide +kernel
theorem dX5_ofHour_83 : decode cX5_ofHour 83 = .ok (.iload_n 2, 1) := by decide +kernel
theorem dX5_ofHour_84 : decode cX5_ofHour 84 = .ok (.iconst 1, 1) := by decide +kernel
theorem dX5_ofHour_85 : decode cX5_ofHour 85 = .ok (.if_icmp .ne 8, 3) := by decide +kernel
theorem dX5_ofHour_88 : decode cX5_ofHour 88 = .ok (.iload 4, 2) := by decide +kernel
theorem dX5_ofHour_90 : decode cX5_ofHour 90 = .ok (.goto 26, 3) := by decide +kernel
theorem dX5_ofHour_93 : decode cX5_ofHour 93 = .ok (.iload_n 2, 1) := by decide +kernel
theorem dX5_ofHour_94 : decode cX5_ofHour 94 = .ok (.iconst 2, 1) := by decide +kernel
theorem dX5_ofHour_95 : decode cX5_ofHour 95 = .ok (.if_icmp .ne 15, 3) := by decide +kernel
theorem dX5_ofHour_98 : decode cX5_ofHour 98 = .ok (.iload 4, 2) := by decide +kernel
theorem dX5_ofHour_100 : decode cX5_ofHour 100 = .ok (.aload_n 0, 1) := by decide +kernel
theorem dX5_ofHour_101 : decode cX5_ofHour 101 = .ok (.getfield 37, 3) := by decide +kernel
theorem dX5_ofHour_104 : decode cX5_ofHour 104 = .ok (.iload_n 1, 1) := by decide +kernel
theorem dX5_ofHour_105 : decode cX5_ofHour 105 = .ok (.iaload, 1) := by decide +kernel
theorem dX5_ofHour_106 : decode cX5_ofHour 106 = .ok (.isub, 1) := by decide +kernel
theorem dX5_ofHour_107 : decode cX5_ofHour 107 = .ok (.goto 9, 3) := by decide +kernel
theorem dX5_ofHour_110 : decode cX5_ofHour 110 = .ok (.aload_n 0, 1) := by decide +kernel
theorem dX5_ofHour_111 : decode cX5_ofHour 111 = .ok (.getfield 40, 3) := by decide +kernel
theorem dX5_ofHour_114 : decode cX5_ofHour 114 = .ok (.iload_n 1, 1) := by decide +kernel
theorem dX5_ofHour_115 : decode cX5_ofHour 115 = .ok (.iaload, 1) := by decide +kernel
theorem dX5_ofHour_116 : decode cX5_ofHour 116 = .ok (.ireturn, 1) := by decide +kernel
set_option maxRecDepth 20000 in
theorem ggX5_ratio_X5_in : GoodIn wsX5_ratio wsX5_in := goodIn_r _ [9] (by decide +kernel) (by decide +kernel)
set_option maxRecDepth 20000 in
theorem gX5_ratio_X5_in : GoodIn wsX5_ratio (wsV RX5 65 RX5 yX5_in wsX5_in) := goodIn_app (goodIn_of _ (by decide +kernel)) ggX5_ratio_X5_in
set_option maxRecDepth 20000 in
theorem ggX5_ratio_X5_fails : GoodIn wsX5_ratio wsX5_fails := goodIn_r _ [13, 14, 15, 16, 17, 18, 19, 20, 21, 22, 23, 24, 25, 26, 27, 28, 29, 30, 31, 32, 33] (by decide +kernel) (by decide +kernel)
set_option maxRecDepth 20000 in
theorem gX5_ratio_X5_fails : GoodIn wsX5_ratio (wsV RX5 69 RX5 yX5_fails wsX5_fails) := goodIn_app (goodIn_of _ (by decide +kernel)) ggX5_ratio_X5_fails
theorem dX5_ratio_0 : decode cX5_ratio 0 = .ok (.aload_n 0, 1) := by decide +kernel
theorem dX5_ratio_1 : decode cX5_ratio 1 = .ok (.aload_n 0, 1) := by decide +kernel
theorem dX5_ratio_2 : decode cX5_ratio 2 = .ok (.iload_n 1, 1) := by decide +kernel
theorem dX5_ratio_3 : decode cX5_ratio 3 = .ok (.iconst 0, 1) := by decide +kernel
theorem dX5_ratio_4 : decode cX5_ratio 4 = .ok (.aload_n 0, 1) := by decide +kernel
theorem dX5_ratio_5 : decode cX5_ratio 5 = .ok (.getfield 73, 3) := by decide +kernel
theorem dX5_ratio_8 : decode cX5_ratio 8 = .ok (.iconst 1, 1) := by decide +kernel
theorem dX5_ratio_9 : decode cX5_ratio 9 = .ok (.isub, 1) := by decide +kernel
theorem dX5_ratio_10 : decode cX5_ratio 10 = .ok (.invokevirtual 65, 3) := by decide +kernel
theorem dX5_ratio_13 : decode cX5_ratio 13 = .ok (.ifCond .eq 7, 3) := by decide +kernel
theorem dX5_ratio_16 : decode cX5_ratio 16 = .ok (.iconst 0, 1) := by decide +kernel
theorem dX5_ratio_17 : decode cX5_ratio 17 = .ok (.goto 4, 3) := by decide +kernel
theorem dX5_ratio_20 : decode cX5_ratio 20 = .ok (.iconst 1, 1) := by decide +kernel
theorem dX5_ratio_21 : decode cX5_ratio 21 = .ok (.invokevirtual 69, 3) := by decide +kernel
theorem dX5_ratio_24 : decode cX5_ratio 24 = .ok (.ifCond .eq 6, 3) := by decide +kernel
theorem dX5_ratio_27 : decode cX5_ratio 27 = .ok (.ldc 114, 2) := by decide +kernel
theorem dX5_ratio_29 : decode cX5_ratio 29 = .ok (.freturn, 1) := by decide +kernel
theorem dX5_ratio_30 : decode cX5_ratio 30 = .ok (.aload_n 0, 1) := by decide +kernel
theorem dX5_ratio_31 : decode cX5_ratio 31 = .ok (.getfield 31, 3) := by decide +kernel
theorem dX5_ratio_34 : decode cX5_ratio 34 = .ok (.iload_n 1, 1) := by decide +kernel
theorem dX5_ratio_35 : decode cX5_ratio 35 = .ok (.iaload, 1) := by decide +kernel
theorem dX5_ratio_36 : decode cX5_ratio 36 = .ok (.ifCond .gt 7, 3) := by decide +kernel
theorem dX5_ratio_39 : decode cX5_ratio 39 = .ok (.fconst 0, 1) := by decide +kernel
theorem dX5_ratio_40 : decode cX5_ratio 40 = .ok (.goto 18, 3) := by decide +kernel
theorem dX5_ratio_43 : decode cX5_ratio 43 = .ok (.aload_n 0, 1) := by decide +kernel
theorem dX5_ratio_44 : decode cX5_ratio 44 = .ok (.getfield 37, 3) := by decide +kernel
theorem dX5_ratio_47 : decode cX5_ratio 47 = .ok (.iload_n 1, 1) := by decide +kernel
theorem dX5_ratio_48 : decode cX5_ratio 48 = .ok (.iaload, 1) := by decide +kernel
theorem dX5_ratio_49 : decode cX5_ratio 49 = .ok (.i2f, 1) := by decide +kernel
theorem dX5_ratio_50 : decode cX5_ratio 50 = .ok (.aload_n 0, 1) := by decide +kernel
theorem dX5_ratio_51 : decode cX5_ratio 51 = .ok (.getfield 31, 3) := by decide +kernel
theorem dX5_ratio_54 : decode cX5_ratio 54 = .ok (.iload_n 1, 1) := by decide +kernel
theorem dX5_ratio_55 : decode cX5_ratio 55 = .ok (.iaload, 1) := by decide +kernel
theorem dX5_ratio_56 : decode cX5_ratio 56 = .ok (.i2f, 1) := by decide +kernel
theorem dX5_ratio_57 : decode cX5_ratio 57 = .ok (.fdiv, 1) := by decide +kernel
theorem dX5_ratio_58 : decode cX5_ratio 58 = .ok (.freturn, 1) := by decide +kernel
set_option maxRecDepth 20000 in
theorem ggX5_ofBoat_X5_in : GoodIn wsX5_ofBoat wsX5_in := goodIn_r _ [9] (by decide +kernel) (by decide +kernel)
set_option maxRecDepth 20000 in
theorem gX5_ofBoat_X5_in : GoodIn wsX5_ofBoat (wsV RX5 65 RX5 yX5_in wsX5_in) := goodIn_app (goodIn_of _ (by decide +kernel)) ggX5_ofBoat_X5_in
set_option maxRecDepth 20000 in
theorem ggX5_ofBoat_X5_fails : GoodIn wsX5_ofBoat wsX5_fails := goodIn_r _ [13, 14, 15, 16, 17, 18, 19, 20, 21, 22, 23, 24, 25, 26, 27, 28, 29, 30, 31, 32, 33] (by decide +kernel) (by decide +kernel)
set_option maxRecDepth 20000 in
theorem gX5_ofBoat_X5_fails : GoodIn wsX5_ofBoat (wsV RX5 69 RX5 yX5_fails wsX5_fails) := goodIn_app (goodIn_of _ (by decide +kernel)) ggX5_ofBoat_X5_fails
theorem dX5_ofBoat_0 : decode cX5_ofBoat 0 = .ok (.aload_n 0, 1) := by decide +kernel
theorem dX5_ofBoat_1 : decode cX5_ofBoat 1 = .ok (.aload_n 0, 1) := by decide +kernel
theorem dX5_ofBoat_2 : decode cX5_ofBoat 2 = .ok (.iload_n 1, 1) := by decide +kernel
theorem dX5_ofBoat_3 : decode cX5_ofBoat 3 = .ok (.iconst 0, 1) := by decide +kernel
theorem dX5_ofBoat_4 : decode cX5_ofBoat 4 = .ok (.iconst 2, 1) := by decide +kernel
theorem dX5_ofBoat_5 : decode cX5_ofBoat 5 = .ok (.invokevirtual 65, 3) := by decide +kernel
theorem dX5_ofBoat_8 : decode cX5_ofBoat 8 = .ok (.ifCond .ne 7, 3) := by decide +kernel
theorem dX5_ofBoat_11 : decode cX5_ofBoat 11 = .ok (.iconst 1, 1) := by decide +kernel
theorem dX5_ofBoat_12 : decode cX5_ofBoat 12 = .ok (.goto 18, 3) := by decide +kernel
theorem dX5_ofBoat_15 : decode cX5_ofBoat 15 = .ok (.aload_n 0, 1) := by decide +kernel
theorem dX5_ofBoat_16 : decode cX5_ofBoat 16 = .ok (.iload_n 2, 1) := by decide +kernel
theorem dX5_ofBoat_17 : decode cX5_ofBoat 17 = .ok (.iconst 0, 1) := by decide +kernel
theorem dX5_ofBoat_18 : decode cX5_ofBoat 18 = .ok (.iconst 3, 1) := by decide +kernel
theorem dX5_ofBoat_19 : decode cX5_ofBoat 19 = .ok (.invokevirtual 65, 3) := by decide +kernel
theorem dX5_ofBoat_22 : decode cX5_ofBoat 22 = .ok (.ifCond .eq 7, 3) := by decide +kernel
theorem dX5_ofBoat_25 : decode cX5_ofBoat 25 = .ok (.iconst 0, 1) := by decide +kernel
theorem dX5_ofBoat_26 : decode cX5_ofBoat 26 = .ok (.goto 4, 3) := by decide +kernel
theorem dX5_ofBoat_29 : decode cX5_ofBoat 29 = .ok (.iconst 2, 1) := by decide +kernel
theorem dX5_ofBoat_30 : decode cX5_ofBoat 30 = .ok (.invokevirtual 69, 3) := by decide +kernel
theorem dX5_ofBoat_33 : decode cX5_ofBoat 33 = .ok (.ifCond .eq 5, 3) := by decide +kernel
theorem dX5_ofBoat_36 : decode cX5_ofBoat 36 = .ok (.iconst (-1), 1) := by decide +kernel
theorem dX5_ofBoat_37 : decode cX5_ofBoat 37 = .ok (.ireturn, 1) := by decide +kernel
theorem dX5_ofBoat_38 : decode cX5_ofBoat 38 = .ok (.iload_n 2, 1) := by decide +kernel
theorem dX5_ofBoat_39 : decode cX5_ofBoat 39 = .ok (.ifCond .ne 12, 3) := by decide +kernel
theorem dX5_ofBoat_42 : decode cX5_ofBoat 42 = .ok (.aload_n 0, 1) := by decide +kernel
theorem dX5_ofBoat_43 : decode cX5_ofBoat 43 = .ok (.getfield 46, 3) := by decide +kernel
theorem dX5_ofBoat_46 : decode cX5_ofBoat 46 = .ok (.iload_n 1, 1) := by decide +kernel
theorem dX5_ofBoat_47 : decode cX5_ofBoat 47 = .ok (.iaload, 1) := by decide +kernel
theorem dX5_ofBoat_48 : decode cX5_ofBoat 48 = .ok (.goto 50, 3) := by decide +kernel
theorem dX5_ofBoat_51 : decode cX5_ofBoat 51 = .ok (.iload_n 2, 1) := by decide +kernel
theorem dX5_ofBoat_52 : decode cX5_ofBoat 52 = .ok (.iconst 1, 1) := by decide +kernel
theorem dX5_ofBoat_53 : decode cX5_ofBoat 53 = .ok (.if_icmp .ne 25, 3) := by decide +kernel
theorem dX5_ofBoat_56 : decode cX5_ofBoat 56 = .ok (.aload_n 0, 1) := by decide +kernel
theorem dX5_ofBoat_57 : decode cX5_ofBoat 57 = .ok (.getfield 46, 3) := by decide +kernel
theorem dX5_ofBoat_60 : decode cX5_ofBoat 60 = .ok (.iload_n 1, 1) := by decide +kernel
theorem dX5_ofBoat_61 : decode cX5_ofBoat 61 = .ok (.iaload, 1) := by decide +kernel
theorem dX5_ofBoat_62 : decode cX5_ofBoat 62 = .ok (.ifCond .ge 7, 3) := by decide +kernel
theorem dX5_ofBoat_65 : decode cX5_ofBoat 65 = .ok (.iconst 0, 1) := by decide +kernel
theorem dX5_ofBoat_66 : decode cX5_ofBoat 66 = .ok (.goto 32, 3) := by decide +kernel
theorem dX5_ofBoat_69 : decode cX5_ofBoat 69 = .ok (.aload_n 0, 1) := by decide +kernel
theorem dX5_ofBoat_70 : decode cX5_ofBoat 70 = .ok (.getfield 49, 3) := by decide +kernel
theorem dX5_ofBoat_73 : decode cX5_ofBoat 73 = .ok (.iload_n 1, 1) := by decide +kernel
theorem dX5_ofBoat_74 : decode cX5_ofBoat 74 = .ok (.iaload, 1) := by decide +kernel
theorem dX5_ofBoat_75 : decode cX5_ofBoat 75 = .ok (.goto 23, 3) := by decide +kernel
theorem dX5_ofBoat_78 : decode cX5_ofBoat 78 = .ok (.iload_n 2, 1) := by decide +kernel
theorem dX5_ofBoat_79 : decode cX5_ofBoat 79 = .ok (.iconst 2, 1) := by decide +kernel
theorem dX5_ofBoat_80 : decode cX5_ofBoat 80 = .ok (.if_icmp .ne 12, 3) := by decide +kernel
theorem dX5_ofBoat_83 : decode cX5_ofBoat 83 = .ok (.aload_n 0, 1) := by decide +kernel
theorem dX5_ofBoat_84 : decode cX5_ofBoat 84 = .ok (.getfield 52, 3) := by decide +kernel
theorem dX5_ofBoat_87 : decode cX5_ofBoat 87 = .ok (.iload_n 1, 1) := by decide +kernel
theorem dX5_ofBoat_88 : decode cX5_ofBoat 88 = .ok (.iaload, 1) := by decide +kernel
theorem dX5_ofBoat_89 : decode cX5_ofBoat 89 = .ok (.goto 9, 3) := by decide +kernel
theorem dX5_ofBoat_92 : decode cX5_ofBoat 92 = .ok (.aload_n 0, 1) := by decide +kernel
theorem dX5_ofBoat_93 : decode cX5_ofBoat 93 = .ok (.getfield 55, 3) := by decide +kernel
theorem dX5_ofBoat_96 : decode cX5_ofBoat 96 = .ok (.iload_n 1, 1) := by decide +kernel
theorem dX5_ofBoat_97 : decode cX5_ofBoat 97 = .ok (.iaload, 1) := by decide +kernel
theorem dX5_ofBoat_98 : decode cX5_ofBoat 98 = .ok (.ireturn, 1) := by decide +kernel
set_option maxRecDepth 20000 in
theorem ggX5_ofTurbine_X5_isTurbine : GoodIn wsX5_ofTurbine wsX5_isTurbine := goodIn_r _ [8, 9, 10, 11, 12, 7, 13, 19, 20, 21, 22, 23, 24, 25, 26, 27, 28, 29, 30, 31, 32, 33, 34, 35, 36, 37] (by decide +kernel) (by decide +kernel)
set_option maxRecDepth 20000 in
theorem gX5_ofTurbine_X5_isTurbine : GoodIn wsX5_ofTurbine (wsV RX5 80 RX5 yX5_isTurbine wsX5_isTurbine) := goodIn_app (goodIn_of _ (by decide +kernel)) ggX5_ofTurbine_X5_isTurbine
set_option maxRecDepth 20000 in
theorem ggX5_ofTurbine_X5_in : GoodIn wsX5_ofTurbine wsX5_in := goodIn_r _ [13] (by decide +kernel) (by decide +kernel)
set_option maxRecDepth 20000 in
theorem gX5_ofTurbine_X5_in : GoodIn wsX5_ofTurbine (wsV RX5 65 RX5 yX5_in wsX5_in) := goodIn_app (goodIn_of _ (by decide +kernel)) ggX5_ofTurbine_X5_in
set_option maxRecDepth 20000 in
theorem ggX5_ofTurbine_X5_fails : GoodIn wsX5_ofTurbine wsX5_fails := goodIn_r _ [17, 18, 19, 20, 21, 22, 23, 24, 25, 26, 27, 28, 29, 30, 31, 32, 33, 34, 35, 36, 37] (by decide +kernel) (by decide +kernel)
set_option maxRecDepth 20000 in
theorem gX5_ofTurbine_X5_fails : GoodIn wsX5_ofTurbine (wsV RX5 69 RX5 yX5_fails wsX5_fails) := goodIn_app (goodIn_of _ (by decide +kernel)) ggX5_ofTurbine_X5_fails
theorem dX5_ofTurbine_0 : decode cX5_ofTurbine 0 = .ok (.aload_n 0, 1) := by decide +kernel
theorem dX5_ofTurbine_1 : decode cX5_ofTurbine 1 = .ok (.aload_n 0, 1) := by decide +kernel
theorem dX5_ofTurbine_2 : decode cX5_ofTurbine 2 = .ok (.iload_n 1, 1) := by decide +kernel
theorem dX5_ofTurbine_3 : decode cX5_ofTurbine 3 = .ok (.invokevirtual 80, 3) := by decide +kernel
theorem dX5_ofTurbine_6 : decode cX5_ofTurbine 6 = .ok (.ifCond .ne 7, 3) := by decide +kernel
theorem dX5_ofTurbine_9 : decode cX5_ofTurbine 9 = .ok (.iconst 1, 1) := by decide +kernel
theorem dX5_ofTurbine_10 : decode cX5_ofTurbine 10 = .ok (.goto 18, 3) := by decide +kernel
theorem dX5_ofTurbine_13 : decode cX5_ofTurbine 13 = .ok (.aload_n 0, 1) := by decide +kernel
theorem dX5_ofTurbine_14 : decode cX5_ofTurbine 14 = .ok (.iload_n 2, 1) := by decide +kernel
theorem dX5_ofTurbine_15 : decode cX5_ofTurbine 15 = .ok (.iconst 0, 1) := by decide +kernel
theorem dX5_ofTurbine_16 : decode cX5_ofTurbine 16 = .ok (.iconst 2, 1) := by decide +kernel
theorem dX5_ofTurbine_17 : decode cX5_ofTurbine 17 = .ok (.invokevirtual 65, 3) := by decide +kernel
theorem dX5_ofTurbine_20 : decode cX5_ofTurbine 20 = .ok (.ifCond .eq 7, 3) := by decide +kernel
theorem dX5_ofTurbine_23 : decode cX5_ofTurbine 23 = .ok (.iconst 0, 1) := by decide +kernel
theorem dX5_ofTurbine_24 : decode cX5_ofTurbine 24 = .ok (.goto 4, 3) := by decide +kernel
theorem dX5_ofTurbine_27 : decode cX5_ofTurbine 27 = .ok (.iconst 2, 1) := by decide +kernel
theorem dX5_ofTurbine_28 : decode cX5_ofTurbine 28 = .ok (.invokevirtual 69, 3) := by decide +kernel
theorem dX5_ofTurbine_31 : decode cX5_ofTurbine 31 = .ok (.ifCond .eq 5, 3) := by decide +kernel
theorem dX5_ofTurbine_34 : decode cX5_ofTurbine 34 = .ok (.iconst (-1), 1) := by decide +kernel
theorem dX5_ofTurbine_35 : decode cX5_ofTurbine 35 = .ok (.ireturn, 1) := by decide +kernel
theorem dX5_ofTurbine_36 : decode cX5_ofTurbine 36 = .ok (.iload_n 2, 1) := by decide +kernel
theorem dX5_ofTurbine_37 : decode cX5_ofTurbine 37 = .ok (.ifCond .ne 12, 3) := by decide +kernel
theorem dX5_ofTurbine_40 : decode cX5_ofTurbine 40 = .ok (.aload_n 0, 1) := by decide +kernel
theorem dX5_ofTurbine_41 : decode cX5_ofTurbine 41 = .ok (.getfield 7, 3) := by decide +kernel
theorem dX5_ofTurbine_44 : decode cX5_ofTurbine 44 = .ok (.iload_n 1, 1) := by decide +kernel
theorem dX5_ofTurbine_45 : decode cX5_ofTurbine 45 = .ok (.iaload, 1) := by decide +kernel
theorem dX5_ofTurbine_46 : decode cX5_ofTurbine 46 = .ok (.goto 23, 3) := by decide +kernel
theorem dX5_ofTurbine_49 : decode cX5_ofTurbine 49 = .ok (.iload_n 2, 1) := by decide +kernel
theorem dX5_ofTurbine_50 : decode cX5_ofTurbine 50 = .ok (.iconst 1, 1) := by decide +kernel
theorem dX5_ofTurbine_51 : decode cX5_ofTurbine 51 = .ok (.if_icmp .ne 12, 3) := by decide +kernel
theorem dX5_ofTurbine_54 : decode cX5_ofTurbine 54 = .ok (.aload_n 0, 1) := by decide +kernel
theorem dX5_ofTurbine_55 : decode cX5_ofTurbine 55 = .ok (.getfield 13, 3) := by decide +kernel
theorem dX5_ofTurbine_58 : decode cX5_ofTurbine 58 = .ok (.iload_n 1, 1) := by decide +kernel
theorem dX5_ofTurbine_59 : decode cX5_ofTurbine 59 = .ok (.iaload, 1) := by decide +kernel
theorem dX5_ofTurbine_60 : decode cX5_ofTurbine 60 = .ok (.goto 9, 3) := by decide +kernel
theorem dX5_ofTurbine_63 : decode cX5_ofTurbine 63 = .ok (.aload_n 0, 1) := by decide +kernel
theorem dX5_ofTurbine_64 : decode cX5_ofTurbine 64 = .ok (.getfield 16, 3) := by decide +kernel
theorem dX5_ofTurbine_67 : decode cX5_ofTurbine 67 = .ok (.iload_n 1, 1) := by decide +kernel
theorem dX5_ofTurbine_68 : decode cX5_ofTurbine 68 = .ok (.iaload, 1) := by decide +kernel
theorem dX5_ofTurbine_69 : decode cX5_ofTurbine 69 = .ok (.ireturn, 1) := by decide +kernel
set_option maxRecDepth 20000 in
theorem ggX5_brought_X5_fails : GoodIn wsX5_brought wsX5_fails := goodIn_r _ [7, 8, 9, 10, 11, 12, 13, 14, 15, 16, 17, 18, 19, 20, 21, 22, 23, 24, 25, 26, 27] (by decide +kernel) (by decide +kernel)
set_option maxRecDepth 20000 in
theorem gX5_brought_X5_fails : GoodIn wsX5_brought (wsV RX5 69 RX5 yX5_fails wsX5_fails) := goodIn_app (goodIn_of _ (by decide +kernel)) ggX5_brought_X5_fails
theorem dX5_brought_0 : decode cX5_brought 0 = .ok (.aload_n 0, 1) := by decide +kernel
theorem dX5_brought_1 : decode cX5_brought 1 = .ok (.iconst 0, 1) := by decide +kernel
theorem dX5_brought_2 : decode cX5_brought 2 = .ok (.invokevirtual 69, 3) := by decide +kernel
theorem dX5_brought_5 : decode cX5_brought 5 = .ok (.pop, 1) := by decide +kernel
theorem dX5_brought_6 : decode cX5_brought 6 = .ok (.lconst 0, 1) := by decide +kernel
theorem dX5_brought_7 : decode cX5_brought 7 = .ok (.lstore_n 1, 1) := by decide +kernel
theorem dX5_brought_8 : decode cX5_brought 8 = .ok (.iconst 0, 1) := by decide +kernel
theorem dX5_brought_9 : decode cX5_brought 9 = .ok (.istore_n 3, 1) := by decide +kernel
theorem dX5_brought_10 : decode cX5_brought 10 = .ok (.iload_n 3, 1) := by decide +kernel
theorem dX5_brought_11 : decode cX5_brought 11 = .ok (.aload_n 0, 1) := by decide +kernel
theorem dX5_brought_12 : decode cX5_brought 12 = .ok (.getfield 73, 3) := by decide +kernel
theorem dX5_brought_15 : decode cX5_brought 15 = .ok (.if_icmp .ge 19, 3) := by decide +kernel
theorem dX5_brought_18 : decode cX5_brought 18 = .ok (.lload_n 1, 1) := by decide +kernel
theorem dX5_brought_19 : decode cX5_brought 19 = .ok (.aload_n 0, 1) := by decide +kernel
theorem dX5_brought_20 : decode cX5_brought 20 = .ok (.getfield 40, 3) := by decide +kernel
theorem dX5_brought_23 : decode cX5_brought 23 = .ok (.iload_n 3, 1) := by decide +kernel
theorem dX5_brought_24 : decode cX5_brought 24 = .ok (.iaload, 1) := by decide +kernel
theorem dX5_brought_25 : decode cX5_brought 25 = .ok (.i2l, 1) := by decide +kernel
theorem dX5_brought_26 : decode cX5_brought 26 = .ok (.ladd, 1) := by decide +kernel
theorem dX5_brought_27 : decode cX5_brought 27 = .ok (.lstore_n 1, 1) := by decide +kernel
theorem dX5_brought_28 : decode cX5_brought 28 = .ok (.iinc 3 1, 3) := by decide +kernel
theorem dX5_brought_31 : decode cX5_brought 31 = .ok (.goto (-21), 3) := by decide +kernel
theorem dX5_brought_34 : decode cX5_brought 34 = .ok (.lload_n 1, 1) := by decide +kernel
theorem dX5_brought_35 : decode cX5_brought 35 = .ok (.lreturn, 1) := by decide +kernel
end
section
/-! Rows of this claim's own over the kit: contracts of three shapes (no world; a world that is read; a world that is changed), their calls, arrays by natural places. -/
/-- what a truth is as an int -/
def bI (P : Prop) [Decidable P] : Int32 := if P then 1 else 0
theorem bI_t {P : Prop} [Decidable P] (h : P) : bI P = 1 := if_pos h
theorem bI_f {P : Prop} [Decidable P] (h : ¬ P) : bI P = 0 := if_neg h
theorem bI_0 {P : Prop} [Decidable P] (h : bI P = 0) : ¬ P := fun q => by rw [bI_t q] at h; exact absurd h (by decide)
theorem bI_n {P : Prop} [Decidable P] (h : ¬ bI P = 0) : P := by
  by_cases q : P
  · exact q
  · exact absurd (bI_f q) h
theorem bI_z {P : Prop} [Decidable P] : narrow .boolean (.int (bI P)) = .int (bI P) := by
  by_cases q : P
  · rw [bI_t q]; rfl
  · rw [bI_f q]; rfl
theorem bI_v {P : Prop} [Decidable P] : vp_nar .boolean (bI P) = bI P := by
  by_cases q : P
  · rw [bI_t q]; rfl
  · rw [bI_f q]; rfl
theorem bI_c {P Q : Prop} [Decidable P] [Decidable Q] (h : P ↔ Q) : bI P = bI Q := by
  by_cases q : P
  · rw [bI_t q, bI_t (h.mp q)]
  · rw [bI_f q, bI_f (fun z => q (h.mpr z))]
/-- what the tables say: the classes, the arrays' classes, the one call of a nest mate -/
def kK (D : va_G) (cI cZ : ClassId) (U : State) : Prop := va_K D vwCl [(cI, .int), (cZ, .boolean)] U ∧ va_Nw (.methodLinkNest RX0 32 yX4_isWithin RX4) U
theorem kK.warm {D : va_G} {cI cZ : ClassId} {s U : State} (h : kK D cI cZ s) (hW : s.WarmedH U.vm) : kK D cI cZ U := ⟨va_K.moved hW.alike h.1, va_Nw.warmM hW h.2⟩
theorem kK.call {D : va_G} {cI cZ : ClassId} {U : State} {a : Array Value} {g : JFrame} {mk : MethodId} (h : kK D cI cZ U) : kK D cI cZ (U.calling g mk a) := ⟨va_K.moved (u := U) (U := U.calling g mk a) (Vm.Alike.refl U.vm) h.1, va_Nw.same rfl (u := U) (U := U.calling g mk a) rfl h.2⟩
/-- no world -/
abbrev kPs (l : Launch) (y : MethodName) (ws : List Cond) (rm : Room) (av : List Value) (post : Int32 → Prop) : Prop := Met l y ws rm (va_Pc av (fun _ => True)) (vp_Si post) 0 0 (fun _ => False)
/-- a world that is read -/
abbrev kRd (l : Launch) (y : MethodName) (ws : List Cond) (rm : Room) (av : List Value) (D : va_G) (cI cZ : ClassId) (W : va_W) (post : Int32 → Prop) : Prop := Met l y ws rm (va_Pc av (fun U => va_P D vwCl W U.heap ∧ kK D cI cZ U)) (vp_Si post) 0 0 (fun _ => False)
/-- no world, but the tables -/
abbrev kPK (l : Launch) (y : MethodName) (ws : List Cond) (rm : Room) (av : List Value) (D : va_G) (cI cZ : ClassId) (post : Int32 → Prop) : Prop := Met l y ws rm (va_Pc av (fun U => kK D cI cZ U)) (vp_Si post) 0 0 (fun _ => False)
abbrev kPre (D : va_G) (cI cZ : ClassId) (sz : Nat) (W : va_W) (U : State) : Prop := U.heap.size = sz ∧ va_P D vwCl W U.heap ∧ kK D cI cZ U ∧ va_D (fun _ => True) W
abbrev kAt (D : va_G) (A : Nat → Prop) (W : va_W) (t : State) : Prop := va_P D vwCl W t.heap ∧ va_D A W
/-- a world that is changed, no answer -/
abbrev kUv (l : Launch) (y : MethodName) (ws : List Cond) (rm : Room) (av : List Value) (D : va_G) (cI cZ : ClassId) (sz : Nat) (W W' : va_W) : Prop := Met l y ws rm (va_Pc av (kPre D cI cZ sz W)) (va_Qv (fun _ : Unit => True) (fun _ t => kAt D (va_A W sz) W' t) (va_A W sz)) 0 0 (va_A W sz)
/-- a world that is changed, an int's answer -/
abbrev kUi (l : Launch) (y : MethodName) (ws : List Cond) (rm : Room) (av : List Value) (D : va_G) (cI cZ : ClassId) (sz : Nat) (W W' : va_W) (post : Int32 → Prop) : Prop := Met l y ws rm (va_Pc av (kPre D cI cZ sz W)) (va_Qi (fun (r : Int32) (_ : Unit) => post r) (fun _ t => kAt D (va_A W sz) W' t) (va_A W sz)) 0 0 (va_A W sz)
section KIT
variable {p : Program} {l : Launch} {e : Env} {R : Room} {s : State} {m : MethodId} {args : Array Value} {below : List Frame} {meth : Method} {c : Code} {H : Heap} {locs : List Loc} {cells slots : Nat} {Q : State → Prop}
variable {cc : ByteArray} {pc : Nat} {ls : Array Slot} {rest : List Value} {D : va_G} {cl : List vw_C} {A : Nat → Prop} {tys : List (ClassId × FieldType)} {ws : va_W} {H0 : Heap}
theorem k_rw {x y : Int32} (h : x = y) (k : W p l e R s m args below meth c H locs cells slots Q (F0 m pc ls (.int y :: rest))) : W p l e R s m args below meth c H locs cells slots Q (F0 m pc ls (.int x :: rest)) := by rw [h]; exact k
theorem k_rwl {x y : Int64} (h : x = y) (k : W p l e R s m args below meth c H locs cells slots Q (F0 m pc ls (.long y :: rest))) : W p l e R s m args below meth c H locs cells slots Q (F0 m pc ls (.long x :: rest)) := by rw [h]; exact k
theorem k_iald {a : Nat} (hexec : p.tables.exec = Jvm.exec) (hb : c.code = cc) (hK : va_K D cl tys s) (hP : va_P D cl ws H) (q0 t0 : Nat) {cA : ClassId} {n : Nat} {f : Nat → Int32} (ha : ws[q0]? = some (a, .inl (cA, n, .inl f))) (ht : tys[t0]? = some (cA, .int)) {i : Int32} (k : Nat) (hi : i = nI k) (hk : k < n) (hn : n < 2 ^ 31) (hdg : decode cc pc = .ok (.iaload, 1))
    (kk : W p l e R s m args below meth c H locs cells slots Q (F0 m (pc + 1) ls (.int (f k) :: rest))) : W p l e R s m args below meth c H locs cells slots Q (F0 m pc ls (.int i :: .ref a :: rest)) := by
  subst hi
  refine va_iald hexec hb hK hP q0 t0 ha ht (vp_in_nI hk hn) hdg ?_
  rw [nI_clamp (by omega)]
  exact kk
theorem k_zald {a : Nat} (hexec : p.tables.exec = Jvm.exec) (hb : c.code = cc) (hK : va_K D cl tys s) (hP : va_P D cl ws H) (q0 t0 : Nat) {cA : ClassId} {n : Nat} {f : Nat → Int32} (ha : ws[q0]? = some (a, .inl (cA, n, .inl f))) (ht : tys[t0]? = some (cA, .boolean)) {i : Int32} (k : Nat) (hi : i = nI k) (hk : k < n) (hn : n < 2 ^ 31) (hdg : decode cc pc = .ok (.baload, 1))
    (kk : W p l e R s m args below meth c H locs cells slots Q (F0 m (pc + 1) ls (.int (f k) :: rest))) : W p l e R s m args below meth c H locs cells slots Q (F0 m pc ls (.int i :: .ref a :: rest)) := by
  subst hi
  refine va_zald hexec hb hK hP q0 t0 ha ht (vp_in_nI hk hn) hdg ?_
  rw [nI_clamp (by omega)]
  exact kk
theorem k_iast {a : Nat} (hexec : p.tables.exec = Jvm.exec) (hb : c.code = cc) (hK : va_K D cl tys s) (hP : va_P D cl ws H) (hD : va_D A ws) (hS : va_S A H0 H locs) (q0 t0 : Nat) {cA : ClassId} {n : Nat} {f : Nat → Int32} (ha : ws[q0]? = some (a, .inl (cA, n, .inl f))) (ht : tys[t0]? = some (cA, .int)) {i : Int32} {x : Int32} (k : Nat) (hi : i = nI k) (hk : k < n) (hn : n < 2 ^ 31) (hdg : decode cc pc = .ok (.iastore, 1))
    (kk : ∀ (H1 : Heap) (locs1 : List Loc), va_P D cl (ws.set q0 (a, .inl (cA, n, .inl (upd f k x)))) H1 → va_D A (ws.set q0 (a, .inl (cA, n, .inl (upd f k x)))) → va_S A H0 H1 locs1 → W p l e R s m args below meth c H1 locs1 cells slots Q (F0 m (pc + 1) ls rest)) : W p l e R s m args below meth c H locs cells slots Q (F0 m pc ls (.int x :: .int i :: .ref a :: rest)) := by
  subst hi
  refine va_iast hexec hb hK hP hD hS q0 t0 ha ht (vp_in_nI hk hn) hdg ?_
  rw [nI_clamp (by omega)]
  exact kk
theorem k_zast {a : Nat} (hexec : p.tables.exec = Jvm.exec) (hb : c.code = cc) (hK : va_K D cl tys s) (hP : va_P D cl ws H) (hD : va_D A ws) (hS : va_S A H0 H locs) (q0 t0 : Nat) {cA : ClassId} {n : Nat} {f : Nat → Int32} (ha : ws[q0]? = some (a, .inl (cA, n, .inl f))) (ht : tys[t0]? = some (cA, .boolean)) {i : Int32} {x : Int32} (hx : vp_nar .boolean x = x) (k : Nat) (hi : i = nI k) (hk : k < n) (hn : n < 2 ^ 31) (hdg : decode cc pc = .ok (.bastore, 1))
    (kk : ∀ (H1 : Heap) (locs1 : List Loc), va_P D cl (ws.set q0 (a, .inl (cA, n, .inl (upd f k x)))) H1 → va_D A (ws.set q0 (a, .inl (cA, n, .inl (upd f k x)))) → va_S A H0 H1 locs1 → W p l e R s m args below meth c H1 locs1 cells slots Q (F0 m (pc + 1) ls rest)) : W p l e R s m args below meth c H locs cells slots Q (F0 m pc ls (.int x :: .int i :: .ref a :: rest)) := by
  subst hi
  refine va_zast hexec hb hK hP hD hS q0 t0 ha ht (vp_in_nI hk hn) hdg ?_
  rw [nI_clamp (by omega), hx]
  exact kk
/-- the end of a method that changes nothing -/
theorem k_endR {ty : FieldType} {v : Int32} {post : Int32 → Prop} (hexec : p.tables.exec = Jvm.exec) (hb : c.code = cc) (hr : meth.sig.returnType = some ty) (hlocks : meth.locks = false) (hn : narrow ty (.int v) = .int v) (hp : post v) (hdg : decode cc pc = .ok (.ireturn, 1)) : W p l e R s m args below meth c s.heap [] 0 0 (MQ below (vp_Si post) args s 0 0 (fun _ => False)) (F0 m pc ls [.int v]) :=
  W.zret hexec hb hr hn (fun t ht hW => ⟨v, rfl, hp, ht⟩) (fun q hq => absurd hq List.not_mem_nil) hdg hlocks
/-- the end of a method that changes its world -/
theorem k_endV {W' : va_W} {sz : Nat} {A1 : Nat → Prop} (hexec : p.tables.exec = Jvm.exec) (hb : c.code = cc) (hr : meth.sig.returnType = none) (hlocks : meth.locks = false) (hP : va_P D vwCl W' H) (hD : va_D A1 W') (hS : va_S A1 s.heap H locs) (hdg : decode cc pc = .ok (.return_, 1)) : W p l e R s m args below meth c H locs cells slots (MQ below (va_Qv (fun _ : Unit => True) (fun _ t => kAt D A1 W' t) A1) args s cells slots A1) (F0 m pc ls []) :=
  W.vret hexec hb hr (fun t ht hW => ⟨⟨(), rfl, trivial, by rw [ht]; exact hP, hD⟩, hS.F ht⟩) hS.2.2 hdg hlocks
theorem k_endI {ty : FieldType} {v : Int32} {post : Int32 → Prop} {W' : va_W} {A1 : Nat → Prop} (hexec : p.tables.exec = Jvm.exec) (hb : c.code = cc) (hr : meth.sig.returnType = some ty) (hlocks : meth.locks = false) (hn : narrow ty (.int v) = .int v) (hp : post v) (hP : va_P D vwCl W' H) (hD : va_D A1 W') (hS : va_S A1 s.heap H locs) (hdg : decode cc pc = .ok (.ireturn, 1)) : W p l e R s m args below meth c H locs cells slots (MQ below (va_Qi (fun (r : Int32) (_ : Unit) => post r) (fun _ t => kAt D A1 W' t) A1) args s cells slots A1) (F0 m pc ls [.int v]) :=
  W.zret hexec hb hr hn (fun t ht hW => ⟨⟨v, (), rfl, hp, by rw [ht]; exact hP, hD⟩, hS.F ht⟩) hS.2.2 hdg hlocks
variable {Ts wsY ws' : List Cond} {bytes : ByteArray} {nL maxL index n : Nat} {own C : String} {y : MethodName} {ret : Option FieldType} {rm : Room} {b : Addr} {As st0 : List Value} {post : Int32 → Prop} {cI cZ : ClassId} {W1 W2 : va_W}
theorem k_callSi {Qs : Array Value} {g : JFrame} (hr : va_Run p l e R s m args below meth c H locs cells slots 0 0 (F0 m pc ls st0) rest (vp_Si post Qs) (fun _ => False))
    (kk : ∀ r : Int32, post r → W p l e R s m args below meth c H locs cells slots Q (F0 m (pc + 3) ls (.int r :: rest))) : W p l e R s m args below meth c H locs cells slots Q (F0 m pc ls st0) := vp_callSi hr.run kk
/-- static, no world -/
theorem k_ps (S : CallFix p m c cc nL s args Ts own) (hM : kPs l y wsY rm As post) (cw : CallB R s args own index y bytes maxL ret wsY rm 0 0 n ∧ (Cond.static y).before args s = true) (hn : As.length = n) (hsize : ls.size = nL) (hst : st0 = As.reverse ++ rest) (hW : (rest.map fun v => v.category).sum ≤ 8) (hdg : decode cc pc = .ok (.invokestatic index, 3)) (hf : cells ≤ R.cells ∧ slots ≤ R.slots)
    (kk : ∀ r : Int32, post r → W p l e R s m args below meth c H locs cells slots Q (F0 m (pc + 3) ls (.int r :: rest))) : W p l e R s m args below meth c H locs cells slots Q (F0 m pc ls st0) :=
  vp_callSi (va_runS S hM cw ⟨fun a U g mk q => q, fun U hU hW => ⟨rfl, trivial⟩⟩ rfl hn hsize hst (lv_room hW) hdg hf).run kk
/-- static of a nest mate, no world -/
theorem k_psN {host : String} (S : CallFix p m c cc nL s args Ts own) (hM : kPs l y wsY rm As post) (cw : va_CN R s args own index y host bytes maxL ret wsY rm 0 0 n ∧ (Cond.static y).before args s = true ∧ True) (hn : As.length = n) (hsize : ls.size = nL) (hst : st0 = As.reverse ++ rest) (hW : (rest.map fun v => v.category).sum ≤ 8) (hdg : decode cc pc = .ok (.invokestatic index, 3)) (hf : cells ≤ R.cells ∧ slots ≤ R.slots)
    (kk : ∀ r : Int32, post r → W p l e R s m args below meth c H locs cells slots Q (F0 m (pc + 3) ls (.int r :: rest))) : W p l e R s m args below meth c H locs cells slots Q (F0 m pc ls st0) :=
  vp_callSi (va_runSN S hM cw ⟨fun a U g mk q => q, fun U hU hW => ⟨rfl, trivial⟩⟩ rfl hn hsize hst (lv_room hW) hdg hf).run kk
theorem kPK_blind {av : List Value} : FrameBlind (va_Pc av (fun U => kK D cI cZ U)) := fun a U g mk q => ⟨q.1, q.2.call⟩
/-- static, no world but the tables -/
theorem k_pk (S : CallFix p m c cc nL s args Ts own) (hK : kK D cI cZ s) (hM : kPK l y wsY rm As D cI cZ post) (cw : CallB R s args own index y bytes maxL ret wsY rm 0 0 n ∧ (Cond.static y).before args s = true) (hn : As.length = n) (hsize : ls.size = nL) (hst : st0 = As.reverse ++ rest) (hW : (rest.map fun v => v.category).sum ≤ 8) (hdg : decode cc pc = .ok (.invokestatic index, 3)) (hf : cells ≤ R.cells ∧ slots ≤ R.slots)
    (kk : ∀ r : Int32, post r → W p l e R s m args below meth c H locs cells slots Q (F0 m (pc + 3) ls (.int r :: rest))) : W p l e R s m args below meth c H locs cells slots Q (F0 m pc ls st0) :=
  vp_callSi (va_runS S hM cw ⟨kPK_blind, fun U hU hW => ⟨rfl, hK.warm hW⟩⟩ rfl hn hsize hst (lv_room hW) hdg hf).run kk
/-- by the receiver, no world -/
theorem k_pv (S : CallFix p m c cc nL s args Ts own) (hM : kPs l y wsY rm (.ref b :: As) post) (cw : CallW R s args own C index y bytes maxL ret wsY rm 0 0 n) (hrc : ∃ cellB : Cell, H[b]? = some cellB ∧ cellB.vm.isStatics = false ∧ s.vm.findClass C = some cellB.cls) (hn : As.length = n) (hsize : ls.size = nL) (hst : st0 = As.reverse ++ .ref b :: rest) (hW : (rest.map fun v => v.category).sum ≤ 8) (hdg : decode cc pc = .ok (.invokevirtual index, 3)) (hf : cells ≤ R.cells ∧ slots ≤ R.slots)
    (kk : ∀ r : Int32, post r → W p l e R s m args below meth c H locs cells slots Q (F0 m (pc + 3) ls (.int r :: rest))) : W p l e R s m args below meth c H locs cells slots Q (F0 m pc ls st0) :=
  vp_callSi (va_runV S hM cw ⟨fun a U g mk q => q, hrc, fun U hU hW => ⟨rfl, trivial⟩⟩ rfl hn hsize hst (lv_room hW) hdg hf).run kk
theorem kRd_blind {av : List Value} : FrameBlind (va_Pc av (fun U => va_P D vwCl W1 U.heap ∧ kK D cI cZ U)) := fun a U g mk q => ⟨q.1, q.2.1, q.2.2.call⟩
theorem kPre_blind {av : List Value} {sz : Nat} : FrameBlind (va_Pc av (kPre D cI cZ sz W1)) := fun a U g mk q => ⟨q.1, q.2.1, q.2.2.1, q.2.2.2.1.call, q.2.2.2.2⟩
/-- by the receiver, a world that is read: the caller's cells at the places 'is' -/
theorem k_rd (S : CallFix p m c cc nL s args Ts own) (hK : kK D cI cZ s) (hP : va_P D vwCl ws H) (hM : kRd l y wsY rm (.ref b :: As) D cI cZ W1 post) (is : List Nat) (hC : is.filterMap (fun i => ws[i]?) = W1) (q0 : Nat) {ci : Nat} {fs : List Value} {q : vw_C} (hq : ws[q0]? = some (b, .inr (ci, fs))) (hcl : vwCl[ci]? = some q) (hn1 : q.1 = C) (cw : CallW R s args own C index y bytes maxL ret wsY rm 0 0 n) (hn : As.length = n) (hsize : ls.size = nL) (hst : st0 = As.reverse ++ .ref b :: rest) (hW : (rest.map fun v => v.category).sum ≤ 8) (hdg : decode cc pc = .ok (.invokevirtual index, 3)) (hf : cells ≤ R.cells ∧ slots ≤ R.slots)
    (kk : ∀ r : Int32, post r → W p l e R s m args below meth c H locs cells slots Q (F0 m (pc + 3) ls (.int r :: rest))) : W p l e R s m args below meth c H locs cells slots Q (F0 m pc ls st0) := by
  subst hn1
  exact vp_callSi (va_runV S hM cw ⟨kRd_blind, va_recv hK.1 hP hcl hq, fun U hU hW => ⟨rfl, by rw [hU]; exact hP.sub is hC, hK.warm hW⟩⟩ rfl hn hsize hst (lv_room hW) hdg hf).run kk
/-- by the receiver, a world that is changed: the caller's cells at the places isC, the rest's at isR; the new world in the old order -/
theorem k_uv {WR WN : va_W} (S : CallFix p m c cc nL s args Ts own) (hK : kK D cI cZ s) (hP : va_P D vwCl ws H) (hD : va_D A ws) (hS : va_S A H0 H locs) (hA : ∀ q, H0.size ≤ q → A q) (hM : kUv l y wsY rm (.ref b :: As) D cI cZ H.size W1 W2) (isC isR is9 : List Nat) (hC : isC.map (fun i => ws[i]?) = W1.map some) (hC2 : isC.filterMap (fun i => ws[i]?) = W1) (hnC : va_nd isC = true) (hR : isR.map (fun i => ws[i]?) = WR.map some) (hnR : va_nd isR = true) (hdis : ∀ i ∈ isR, i ∉ isC) (h9 : is9.map (fun i => (WR ++ W2)[i]?) = WN.map some) (h92 : is9.filterMap (fun i => (WR ++ W2)[i]?) = WN) (hn9 : va_nd is9 = true)
    (q0 : Nat) {ci : Nat} {fs : List Value} {q : vw_C} (hq : ws[q0]? = some (b, .inr (ci, fs))) (hcl : vwCl[ci]? = some q) (hn1 : q.1 = C) (cw : CallW R s args own C index y bytes maxL ret wsY rm 0 0 n) (hn : As.length = n) (hsize : ls.size = nL) (hst : st0 = As.reverse ++ .ref b :: rest) (hW : (rest.map fun v => v.category).sum ≤ 8) (hdg : decode cc pc = .ok (.invokevirtual index, 3)) (hf : cells ≤ R.cells ∧ slots ≤ R.slots)
    (kk : ∀ (H1 : Heap) (locs1 : List Loc), va_P D vwCl WN H1 → va_D A WN → va_S A H0 H1 locs1 → W p l e R s m args below meth c H1 locs1 cells slots Q (F0 m (pc + 3) ls rest)) : W p l e R s m args below meth c H locs cells slots Q (F0 m pc ls st0) := by
  subst hn1
  have hPc : va_P D vwCl W1 H := hP.sub isC hC2
  have hDc : va_D A W1 := hD.sub isC hnC hC
  have hFc := va_free (wc := W1) hD hS hA isC hC
  refine va_callv (va_runV S hM cw ⟨kPre_blind, va_recv hK.1 hP hcl hq, fun U hU hW => ⟨rfl, by rw [hU], by rw [hU]; exact hPc, hK.warm hW, hDc.weaken (fun _ _ _ _ => trivial)⟩⟩ rfl hn hsize hst (lv_room hW) hdg hf) hS (fun q _ h => hFc q h) hFc (fun u t H1 locs1 ht hvm hw hB hz1 hk1 hS1 => ?_)
  obtain ⟨hP1, hD1⟩ := hB
  rw [ht] at hP1
  obtain ⟨hP2, hD2⟩ := va_join (wr := WR) hP hD isC isR hC hR hnR hdis hk1 hFc hP1 hD1
  exact kk H1 locs1 (hP2.sub is9 h92) (hD2.sub is9 hn9 h9) hS1
theorem k_ui {WR WN : va_W} (S : CallFix p m c cc nL s args Ts own) (hK : kK D cI cZ s) (hP : va_P D vwCl ws H) (hD : va_D A ws) (hS : va_S A H0 H locs) (hA : ∀ q, H0.size ≤ q → A q) (hM : kUi l y wsY rm (.ref b :: As) D cI cZ H.size W1 W2 post) (isC isR is9 : List Nat) (hC : isC.map (fun i => ws[i]?) = W1.map some) (hC2 : isC.filterMap (fun i => ws[i]?) = W1) (hnC : va_nd isC = true) (hR : isR.map (fun i => ws[i]?) = WR.map some) (hnR : va_nd isR = true) (hdis : ∀ i ∈ isR, i ∉ isC) (h9 : is9.map (fun i => (WR ++ W2)[i]?) = WN.map some) (h92 : is9.filterMap (fun i => (WR ++ W2)[i]?) = WN) (hn9 : va_nd is9 = true)
    (q0 : Nat) {ci : Nat} {fs : List Value} {q : vw_C} (hq : ws[q0]? = some (b, .inr (ci, fs))) (hcl : vwCl[ci]? = some q) (hn1 : q.1 = C) (cw : CallW R s args own C index y bytes maxL ret wsY rm 0 0 n) (hn : As.length = n) (hsize : ls.size = nL) (hst : st0 = As.reverse ++ .ref b :: rest) (hW : (rest.map fun v => v.category).sum ≤ 8) (hdg : decode cc pc = .ok (.invokevirtual index, 3)) (hf : cells ≤ R.cells ∧ slots ≤ R.slots)
    (kk : ∀ (r : Int32) (H1 : Heap) (locs1 : List Loc), post r → va_P D vwCl WN H1 → va_D A WN → va_S A H0 H1 locs1 → W p l e R s m args below meth c H1 locs1 cells slots Q (F0 m (pc + 3) ls (.int r :: rest))) : W p l e R s m args below meth c H locs cells slots Q (F0 m pc ls st0) := by
  subst hn1
  have hPc : va_P D vwCl W1 H := hP.sub isC hC2
  have hDc : va_D A W1 := hD.sub isC hnC hC
  have hFc := va_free (wc := W1) hD hS hA isC hC
  refine va_calli (va_runV S hM cw ⟨kPre_blind, va_recv hK.1 hP hcl hq, fun U hU hW => ⟨rfl, by rw [hU], by rw [hU]; exact hPc, hK.warm hW, hDc.weaken (fun _ _ _ _ => trivial)⟩⟩ rfl hn hsize hst (lv_room hW) hdg hf) hS (fun q _ h => hFc q h) hFc (fun r u t H1 locs1 ht hvm hw hB hz1 hk1 hS1 => ?_)
  obtain ⟨hP1, hD1⟩ := hB
  rw [ht] at hP1
  obtain ⟨hP2, hD2⟩ := va_join (wr := WR) hP hD isC isR hC hR hnR hdis hk1 hFc hP1 hD1
  exact kk r H1 locs1 hw (hP2.sub is9 h92) (hD2.sub is9 hn9 h9) hS1
end KIT
end
section
/-! The numbers that the methods speak of: wakes, winds, powers, sums, ranges. -/
def fLane (w : Int32) (p : Nat) : Nat := if w = 0 then p % 6 else p / 6
def fAhd (w : Int32) (p : Nat) : Nat := if w = 0 then p / 6 else p % 6
def fWake (d : Nat) : Int32 := if d = 1 then 30 else if d = 2 then 20 else 10
def fTaken (v : Int32) (d : Nat) : Int32 := v * fWake d / 100
def fPow (v : Int32) : Int32 := if 4 ≤ v ∧ v ≤ 25 then (if 2000 < v * v * v then 2000 else v * v * v) else 0
/-- a place as a natural number -/
def fP (pl : Nat → Int32) (k : Nat) : Nat := (pl k).toNatClampNeg
/-- how far ahead the turbine k turns, in the same lane; 0: it doesn't -/
def fAw (w : Int32) (pl br st : Nat → Int32) (p k : Nat) : Nat := if fAhd w (fP pl k) < fAhd w p ∧ fLane w (fP pl k) = fLane w p ∧ br k = 0 ∧ st k = 0 then fAhd w p - fAhd w (fP pl k) else 0
def fAny (f : Nat → Bool) : Nat → Bool
  | 0 => false
  | n + 1 => fAny f n || f n
def fMask (aw : Nat → Nat) : Nat → Int32
  | 0 => 0
  | n + 1 => if aw n = 0 then fMask aw n else fMask aw n ||| ((1 : Int32) <<< (nI (aw n) &&& 31))
def fStep (g : Nat → Bool) (v : Int32) : Nat → Int32
  | 0 => v
  | d + 1 => if g (d + 1) = true then fStep g v d - fTaken (fStep g v d) (d + 1) else fStep g v d
def fHits (w : Int32) (pl br st : Nat → Int32) (n p d : Nat) : Bool := fAny (fun k => decide (fAw w pl br st p k = d)) n
def fWind (w : Int32) (pl br st : Nat → Int32) (n : Nat) (v : Int32) (p : Nat) : Int32 := fStep (fHits w pl br st n p) v 5
def fPw (w : Int32) (pl br st : Nat → Int32) (n : Nat) (v : Int32) (t : Nat) : Int32 := if br t = 0 ∧ st t = 0 then fPow (fWind w pl br st n v (fP pl t)) else 0
def fSum (f : Nat → Int32) : Nat → Int32
  | 0 => 0
  | n + 1 => fSum f n + f n
def fAddR (md f : Nat → Int32) (k : Nat) : Nat → Int32 := fun t => if t < k then md t + f t else md t
def setR (f : Nat → Int32) (x y : Nat) (v : Int32) : Nat → Int32 := fun j => if x ≤ j ∧ j < y then v else f j
/-- there is such a turbine -/
abbrev hasT (n : Nat) (x : Int32) : Prop := 0 ≤ x ∧ x ≤ nI n - 1
theorem fAny_iff {f : Nat → Bool} {n : Nat} : fAny f n = true ↔ ∃ k, k < n ∧ f k = true := by
  induction n with
  | zero => simp [fAny]
  | succ n ih =>
    simp only [fAny, Bool.or_eq_true, ih]
    constructor
    · rintro (⟨k, h1, h2⟩ | h)
      · exact ⟨k, by omega, h2⟩
      · exact ⟨n, by omega, h⟩
    · rintro ⟨k, h1, h2⟩
      rcases Nat.lt_succ_iff_lt_or_eq.mp h1 with h | h
      · exact Or.inl ⟨k, h, h2⟩
      · subst h; exact Or.inr h2
theorem fAny_congr {f g : Nat → Bool} {n : Nat} (h : ∀ k, k < n → f k = g k) : fAny f n = fAny g n := by
  induction n with
  | zero => rfl
  | succ n ih => simp only [fAny]; rw [ih (fun k hk => h k (by omega)), h n (by omega)]
theorem upd_at (f : Nat → Int32) (k : Nat) (x : Int32) : upd f k x k = x := pk_us
theorem upd_ne (f : Nat → Int32) {k j : Nat} (x : Int32) (h : j ≠ k) : upd f k x j = f j := pk_un h
theorem setR_0 (f : Nat → Int32) (x : Nat) (v : Int32) : setR f x x v = f := by
  funext j; unfold setR; rw [if_neg (by omega)]
theorem setR_1 (f : Nat → Int32) {x k : Nat} (v : Int32) (h : x ≤ k) : upd (setR f x k v) k v = setR f x (k + 1) v := by
  funext j
  by_cases hj : j = k
  · subst hj; rw [upd_at]; unfold setR; rw [if_pos (by omega)]
  · rw [upd_ne _ _ hj]; unfold setR
    by_cases h1 : x ≤ j ∧ j < k
    · rw [if_pos h1, if_pos (by omega)]
    · rw [if_neg h1, if_neg (by omega)]
theorem fAddR_0 (md f : Nat → Int32) : fAddR md f 0 = md := by
  funext j; unfold fAddR; rw [if_neg (by omega)]
theorem fAddR_k (md f : Nat → Int32) (k : Nat) : fAddR md f k k = md k := by unfold fAddR; rw [if_neg (by omega)]
theorem fAddR_1 (md f : Nat → Int32) (k : Nat) : upd (fAddR md f k) k (fAddR md f k k + f k) = fAddR md f (k + 1) := by
  funext j
  by_cases hj : j = k
  · subst hj; rw [upd_at, fAddR_k]; unfold fAddR; rw [if_pos (by omega)]
  · rw [upd_ne _ _ hj]; unfold fAddR
    by_cases h1 : j < k
    · rw [if_pos h1, if_pos (by omega)]
    · rw [if_neg h1, if_neg (by omega)]
theorem hasT_of {n j : Nat} (hn : n ≤ 12) (h : j < n) : hasT n (nI j) := by
  refine ⟨nI_pos' (by omega), ?_⟩
  obtain ⟨q, rfl⟩ : ∃ q, n = q + 1 := ⟨n - 1, by omega⟩
  rw [nI_pred]
  exact nI_le (by omega) (by omega)
theorem hasT_to {n : Nat} {x : Int32} (hn : n ≤ 12) (h : hasT n x) : ∃ j, j < n ∧ x = nI j := by
  obtain ⟨h1, h2⟩ := h
  rcases Nat.eq_zero_or_pos n with h0 | h0
  · subst h0
    exfalso
    have h3 := Int32.le_iff_toInt_le.mp h1
    have h4 := Int32.le_iff_toInt_le.mp h2
    have h5 : (nI 0 - 1).toInt = -1 := by decide
    have h6 : (0 : Int32).toInt = 0 := by decide
    omega
  · obtain ⟨q, rfl⟩ : ∃ q, n = q + 1 := ⟨n - 1, by omega⟩
    rw [nI_pred] at h2
    have h3 := Int32.le_iff_toInt_le.mp h1
    have h4 := Int32.le_iff_toInt_le.mp h2
    rw [nI_toInt (by omega)] at h4
    have h6 : (0 : Int32).toInt = 0 := by decide
    obtain ⟨j, hj, rfl⟩ := nI_of (x := x) (fun hlt => by have := Int32.lt_iff_toInt_lt.mp hlt; omega)
    rw [nI_toInt (by omega)] at h4
    exact ⟨j, by omega, rfl⟩
theorem hasT_m1 (n : Nat) : ¬ hasT n (-1) := fun h => absurd h.1 (by decide)
theorem sub_le0 {a b : Nat} (ha : a < 2 ^ 30) (hb : b < 2 ^ 30) : nI a - nI b ≤ 0 ↔ a ≤ b := by
  rw [Int32.le_iff_toInt_le, pk_sub_toInt ha hb, show (0 : Int32).toInt = 0 from rfl]
  omega
theorem fAhd_lt {w : Int32} {p : Nat} (h : p < 24) : fAhd w p < 6 := by
  unfold fAhd; split <;> omega
theorem fLane_lt {w : Int32} {p : Nat} (h : p < 24) : fLane w p < 6 := by
  unfold fLane; split <;> omega
theorem fAw_le {w : Int32} {pl br st : Nat → Int32} {p k : Nat} (h : p < 24) : fAw w pl br st p k ≤ 5 := by
  have := fAhd_lt (w := w) h
  unfold fAw; split <;> omega
theorem nI_dm {p : Nat} (hp : p < 2 ^ 31) : nI p / 6 = nI (p / 6) := pk_div hp (by decide) (by decide)
theorem nI_rm {p : Nat} (hp : p < 2 ^ 31) : nI p - nI p / 6 * 6 = nI (p % 6) := pk_rem hp (by decide) (by decide)
/-- a bit of the mask -/
theorem bit_dec : ∀ a, a < 6 → ∀ d, d < 6 → (((1 : Int32) <<< (nI a &&& 31)) &&& ((1 : Int32) <<< (nI d &&& 31)) = 0 ↔ a ≠ d) := by decide +kernel
theorem and_or0 (x y z : Int32) : (x ||| y) &&& z = 0 ↔ x &&& z = 0 ∧ y &&& z = 0 := by
  rw [← Int32.toBitVec_inj, ← Int32.toBitVec_inj, ← Int32.toBitVec_inj]
  simp only [Int32.toBitVec_and, Int32.toBitVec_or]
  rw [show (0 : Int32).toBitVec = 0#32 from rfl]
  generalize x.toBitVec = a
  generalize y.toBitVec = b
  generalize z.toBitVec = c
  constructor
  · intro h
    constructor
    · ext i hi
      have := congrArg (fun v => v.getLsbD i) h
      simp at this ⊢
      intro h1
      exact (this (Or.inl h1))
    · ext i hi
      have := congrArg (fun v => v.getLsbD i) h
      simp at this ⊢
      intro h1
      exact (this (Or.inr h1))
  · rintro ⟨h1, h2⟩
    ext i hi
    have e1 := congrArg (fun v => v.getLsbD i) h1
    have e2 := congrArg (fun v => v.getLsbD i) h2
    simp at e1 e2 ⊢
    rintro (h | h)
    · exact e1 h
    · exact e2 h
theorem fMask_bit {aw : Nat → Nat} (h : ∀ k, aw k ≤ 5) {d : Nat} (h1 : 1 ≤ d) (h5 : d ≤ 5) (n : Nat) : (fMask aw n &&& ((1 : Int32) <<< (nI d &&& 31)) = 0) ↔ fAny (fun k => decide (aw k = d)) n = false := by
  induction n with
  | zero => simp only [fMask, fAny]; exact ⟨fun _ => trivial, fun _ => by rw [Int32.zero_and]⟩
  | succ n ih =>
    simp only [fMask, fAny, Bool.or_eq_false_iff, decide_eq_false_iff_not]
    by_cases h0 : aw n = 0
    · rw [if_pos h0, ih]
      exact ⟨fun q => ⟨q, by omega⟩, fun q => q.1⟩
    · rw [if_neg h0, and_or0, ih, bit_dec _ (by have := h n; omega) _ (by omega)]
theorem fStep_le {g : Nat → Bool} {v : Int32} {a b : Nat} (hab : a ≤ b) (h : ∀ d, a < d → d ≤ b → g d = false) : fStep g v b = fStep g v a := by
  induction b with
  | zero => rw [show a = 0 by omega]
  | succ b ih =>
    rcases Nat.lt_or_ge a (b + 1) with q | q
    · simp only [fStep]
      rw [if_neg (by rw [h (b + 1) q (Nat.le_refl _)]; decide)]
      exact ih (by omega) (fun d h1 h2 => h d h1 (by omega))
    · rw [show a = b + 1 by omega]
theorem fStep_congr {g g' : Nat → Bool} {v : Int32} {b : Nat} (h : ∀ d, 1 ≤ d → d ≤ b → g d = g' d) : fStep g v b = fStep g' v b := by
  induction b with
  | zero => rfl
  | succ b ih => simp only [fStep]; rw [ih (fun d h1 h2 => h d h1 (by omega)), h (b + 1) (by omega) (Nat.le_refl _)]
theorem fSum_congr {f g : Nat → Int32} {n : Nat} (h : ∀ k, k < n → f k = g k) : fSum f n = fSum g n := by
  induction n with
  | zero => rfl
  | succ n ih => simp only [fSum]; rw [ih (fun k hk => h k (by omega)), h n (by omega)]
/-- what was sold for an hour -/
def fSold (sl : Nat → Int32) (k : Nat) : Int32 := if sl k = -1 then 0 else sl k
/-- what an hour brings -/
def fBring (sl pr mk : Nat → Int32) (k : Nat) : Int32 := if 0 < fSold sl k - mk k then fSold sl k * pr k - (fSold sl k - mk k) * 2 * pr k else fSold sl k * pr k - (fSold sl k - mk k) * (pr k / 2)
/-- the place behind which a wake comes: one lane, so many places ahead -/
def fOther (n : Nat) (ta br st : Nat → Int32) (q : Nat) : Bool := decide (hasT n (ta q) ∧ br (fP ta q) = 0 ∧ st (fP ta q) = 0)
def fPace (w : Int32) : Nat := if w = 0 then 6 else 1
def fAnew (w : Int32) (ta br st : Nat → Int32) (n : Nat) (v : Int32) (p : Nat) : Int32 := fStep (fun d => fOther n ta br st (p - d * fPace w)) v (fAhd w p)
def fPwAnew (w : Int32) (pl ta br st : Nat → Int32) (n : Nat) (v : Int32) (t : Nat) : Int32 := if br t = 0 ∧ st t = 0 then fPow (fAnew w ta br st n v (fP pl t)) else 0
def fStillAt (n : Nat) (ta st : Nat → Int32) (q : Nat) : Nat → Int32 := if hasT n (ta q) then upd st (fP ta q) 1 else st
def fB1 (n : Nat) (ta st : Nat → Int32) (p : Nat) : Nat → Int32 := if 6 ≤ p then fStillAt n ta st (p - 6) else st
def fB2 (n : Nat) (ta st : Nat → Int32) (p : Nat) : Nat → Int32 := if p < 18 then fStillAt n ta (fB1 n ta st p) (p + 6) else fB1 n ta st p
def fB3 (n : Nat) (ta st : Nat → Int32) (p : Nat) : Nat → Int32 := if 0 < p % 6 then fStillAt n ta (fB2 n ta st p) (p - 1) else fB2 n ta st p
def fB4 (n : Nat) (ta st : Nat → Int32) (p : Nat) : Nat → Int32 := if p % 6 < 5 then fStillAt n ta (fB3 n ta st p) (p + 1) else fB3 n ta st p
theorem fP_nI {f : Nat → Int32} {q j : Nat} (h : f q = nI j) (hj : j < 2 ^ 31) : fP f q = j := by unfold fP; rw [h]; exact nI_clamp hj
theorem hasT_P {n : Nat} {f : Nat → Int32} {q : Nat} (hn : n ≤ 12) (h : hasT n (f q)) : fP f q < n ∧ f q = nI (fP f q) := by
  obtain ⟨j, h1, h2⟩ := hasT_to hn h
  rw [fP_nI h2 (by omega)]
  exact ⟨h1, h2⟩
theorem pace_in {w : Int32} {p d : Nat} (hp : p < 24) (h : d ≤ fAhd w p) : d * fPace w ≤ p := by
  unfold fAhd at h; unfold fPace
  by_cases hw : w = 0
  · rw [if_pos hw] at h ⊢; omega
  · rw [if_neg hw] at h ⊢; omega
theorem fSum_back (f : Nat → Int32) (n k : Nat) : fSum f n - fSum f (k + 1) + f k = fSum f n - fSum f k := by
  simp only [fSum]
  grind
theorem nI_m1_lt {j : Nat} (hj : j < 2 ^ 31) : nI j + -1 < 0 ↔ j = 0 := by
  rcases Nat.eq_zero_or_pos j with h | h
  · subst h; exact ⟨fun _ => rfl, fun _ => by decide⟩
  · obtain ⟨k, rfl⟩ : ∃ k, j = k + 1 := ⟨j - 1, by omega⟩
    rw [pk_m1]
    exact ⟨fun q => absurd q (nI_pos (by omega)), fun q => absurd q (by omega)⟩
def fWaves (sp tw : Nat → Int32) (k : Nat) : Int32 := if tw k = -1 then sp k / 3 else tw k
/-- who works in an hour of such waves -/
def fWk (wv : Int32) (tu cr to : Nat → Int32) (b : Nat) : Bool := decide (wv ≤ 4 ∧ ¬ tu b = -1 ∧ to b < cr b)
def fDec (f : Nat → Int32) (wk : Nat → Bool) (k : Nat) : Nat → Int32 := fun b => if b < k ∧ wk b = true then f b - 1 else f b
def fInc (f : Nat → Int32) (wk : Nat → Bool) (k : Nat) : Nat → Int32 := fun b => if b < k ∧ wk b = true then f b + 1 else f b
def fStW (n : Nat) (ta pl tu st : Nat → Int32) (wk : Nat → Bool) : Nat → (Nat → Int32)
  | 0 => st
  | k + 1 => if wk k = true then fB4 n ta (fStW n ta pl tu st wk k) (fP pl (fP tu k)) else fStW n ta pl tu st wk k
/-- whose repair ends -/
def fEn (tu le : Nat → Int32) (b : Nat) : Bool := decide (¬ tu b = -1 ∧ le b = 0)
def fTuE (tu : Nat → Int32) (en : Nat → Bool) (k : Nat) : Nat → Int32 := fun b => if b < k ∧ en b = true then -1 else tu b
def fBrE (br tu : Nat → Int32) (en : Nat → Bool) : Nat → (Nat → Int32)
  | 0 => br
  | k + 1 => if en k = true then upd (fBrE br tu en k) (fP tu k) 0 else fBrE br tu en k
def fBcE (bc : Int32) (en : Nat → Bool) : Nat → Int32
  | 0 => bc
  | k + 1 => if en k = true then fBcE bc en k - 1 else fBcE bc en k
def fDay (h : Nat) (to : Nat → Int32) : Nat → Int32 := if h % 24 = 0 then setR to 0 3 0 else to
theorem fDec_0 (f : Nat → Int32) (wk : Nat → Bool) : fDec f wk 0 = f := by funext b; unfold fDec; rw [if_neg (by omega)]
theorem fInc_0 (f : Nat → Int32) (wk : Nat → Bool) : fInc f wk 0 = f := by funext b; unfold fInc; rw [if_neg (by omega)]
theorem fTuE_0 (f : Nat → Int32) (wk : Nat → Bool) : fTuE f wk 0 = f := by funext b; unfold fTuE; rw [if_neg (by omega)]
theorem fDec_k (f : Nat → Int32) (wk : Nat → Bool) (k : Nat) : fDec f wk k k = f k := by unfold fDec; rw [if_neg (by omega)]
theorem fInc_k (f : Nat → Int32) (wk : Nat → Bool) (k : Nat) : fInc f wk k k = f k := by unfold fInc; rw [if_neg (by omega)]
theorem fTuE_k (f : Nat → Int32) (wk : Nat → Bool) (k : Nat) : fTuE f wk k k = f k := by unfold fTuE; rw [if_neg (by omega)]
theorem fDec_t {f : Nat → Int32} {wk : Nat → Bool} {k : Nat} (h : wk k = true) : upd (fDec f wk k) k (fDec f wk k k - 1) = fDec f wk (k + 1) := by
  funext b
  by_cases hb : b = k
  · subst hb; rw [upd_at, fDec_k]; unfold fDec; rw [if_pos ⟨by omega, h⟩]
  · rw [upd_ne _ _ hb]; unfold fDec
    by_cases h1 : b < k ∧ wk b = true
    · rw [if_pos h1, if_pos ⟨by omega, h1.2⟩]
    · rw [if_neg h1, if_neg (fun q => h1 ⟨by omega, q.2⟩)]
theorem fInc_t {f : Nat → Int32} {wk : Nat → Bool} {k : Nat} (h : wk k = true) : upd (fInc f wk k) k (fInc f wk k k + 1) = fInc f wk (k + 1) := by
  funext b
  by_cases hb : b = k
  · subst hb; rw [upd_at, fInc_k]; unfold fInc; rw [if_pos ⟨by omega, h⟩]
  · rw [upd_ne _ _ hb]; unfold fInc
    by_cases h1 : b < k ∧ wk b = true
    · rw [if_pos h1, if_pos ⟨by omega, h1.2⟩]
    · rw [if_neg h1, if_neg (fun q => h1 ⟨by omega, q.2⟩)]
theorem fTuE_t {f : Nat → Int32} {wk : Nat → Bool} {k : Nat} (h : wk k = true) : upd (fTuE f wk k) k (-1) = fTuE f wk (k + 1) := by
  funext b
  by_cases hb : b = k
  · subst hb; rw [upd_at]; unfold fTuE; rw [if_pos ⟨by omega, h⟩]
  · rw [upd_ne _ _ hb]; unfold fTuE
    by_cases h1 : b < k ∧ wk b = true
    · rw [if_pos h1, if_pos ⟨by omega, h1.2⟩]
    · rw [if_neg h1, if_neg (fun q => h1 ⟨by omega, q.2⟩)]
theorem fDec_f {f : Nat → Int32} {wk : Nat → Bool} {k : Nat} (h : wk k = false) : fDec f wk k = fDec f wk (k + 1) := by
  funext b; unfold fDec
  by_cases h1 : b < k ∧ wk b = true
  · rw [if_pos h1, if_pos ⟨by omega, h1.2⟩]
  · rw [if_neg h1, if_neg (fun q => h1 ⟨(Nat.lt_succ_iff_lt_or_eq.mp q.1).elim id (fun z => absurd q.2 (by rw [z, h]; decide)), q.2⟩)]
theorem fInc_f {f : Nat → Int32} {wk : Nat → Bool} {k : Nat} (h : wk k = false) : fInc f wk k = fInc f wk (k + 1) := by
  funext b; unfold fInc
  by_cases h1 : b < k ∧ wk b = true
  · rw [if_pos h1, if_pos ⟨by omega, h1.2⟩]
  · rw [if_neg h1, if_neg (fun q => h1 ⟨(Nat.lt_succ_iff_lt_or_eq.mp q.1).elim id (fun z => absurd q.2 (by rw [z, h]; decide)), q.2⟩)]
theorem fTuE_f {f : Nat → Int32} {wk : Nat → Bool} {k : Nat} (h : wk k = false) : fTuE f wk k = fTuE f wk (k + 1) := by
  funext b; unfold fTuE
  by_cases h1 : b < k ∧ wk b = true
  · rw [if_pos h1, if_pos ⟨by omega, h1.2⟩]
  · rw [if_neg h1, if_neg (fun q => h1 ⟨(Nat.lt_succ_iff_lt_or_eq.mp q.1).elim id (fun z => absurd q.2 (by rw [z, h]; decide)), q.2⟩)]
theorem fDec_no {f : Nat → Int32} {wk : Nat → Bool} {k : Nat} (h : ∀ b, wk b = false) : f = fDec f wk k := by
  induction k with
  | zero => exact (fDec_0 f wk).symm
  | succ k ih => rw [← fDec_f (h k)]; exact ih
theorem fInc_no {f : Nat → Int32} {wk : Nat → Bool} {k : Nat} (h : ∀ b, wk b = false) : f = fInc f wk k := by
  induction k with
  | zero => exact (fInc_0 f wk).symm
  | succ k ih => rw [← fInc_f (h k)]; exact ih
theorem fStW_no {n : Nat} {ta pl tu st : Nat → Int32} {wk : Nat → Bool} {k : Nat} (h : ∀ b, wk b = false) : st = fStW n ta pl tu st wk k := by
  induction k with
  | zero => rfl
  | succ k ih => unfold fStW; rw [if_neg (by rw [h k]; decide)]; exact ih
theorem nI_r24 {h : Nat} (hh : h < 2 ^ 31) : nI h - nI h / 24 * 24 = nI (h % 24) := pk_rem hh (by decide) (by decide)
end
section
/-! the cells of the class and of the reference -/
abbrev wT (a : Nat → Nat) (cI cZ : ClassId) (now : Int32) : va_W := [(a 0, .inr (4, [.ref (a 1), .ref (a 5), .ref (a 11), .ref (a 17), .int now]))]
abbrev wW (a : Nat → Nat) (cI cZ : ClassId) (sp : Nat → Int32) (we : Nat → Int32) (tw : Nat → Int32) : va_W := [(a 1, .inr (3, [.ref (a 2), .ref (a 3), .ref (a 4)])), (a 2, .inl (cI, 480, .inl sp)), (a 3, .inl (cZ, 480, .inl we)), (a 4, .inl (cI, 480, .inl tw))]
abbrev wF (a : Nat → Nat) (cI cZ : ClassId) (ta : Nat → Int32) (pl : Nat → Int32) (br : Nat → Int32) (st : Nat → Int32) (md : Nat → Int32) (cnt : Int32) (bc : Int32) : va_W := [(a 5, .inr (0, [.ref (a 6), .ref (a 7), .ref (a 8), .ref (a 9), .ref (a 10), .int cnt, .int bc])), (a 6, .inl (cI, 24, .inl ta)), (a 7, .inl (cI, 12, .inl pl)), (a 8, .inl (cZ, 12, .inl br)), (a 9, .inl (cZ, 12, .inl st)), (a 10, .inl (cI, 12, .inl md))]
abbrev wE (a : Nat → Nat) (cI cZ : ClassId) (tu : Nat → Int32) (le : Nat → Int32) (cr : Nat → Int32) (to : Nat → Int32) (ia : Nat → Int32) : va_W := [(a 11, .inr (1, [.ref (a 12), .ref (a 13), .ref (a 14), .ref (a 15), .ref (a 16)])), (a 12, .inl (cI, 3, .inl tu)), (a 13, .inl (cI, 3, .inl le)), (a 14, .inl (cI, 3, .inl cr)), (a 15, .inl (cI, 3, .inl to)), (a 16, .inl (cI, 3, .inl ia))]
abbrev wG (a : Nat → Nat) (cI cZ : ClassId) (sl : Nat → Int32) (pr : Nat → Int32) (mk : Nat → Int32) (pc : Int64) : va_W := [(a 17, .inr (2, [.ref (a 18), .ref (a 19), .ref (a 20), .long pc])), (a 18, .inl (cI, 480, .inl sl)), (a 19, .inl (cI, 480, .inl pr)), (a 20, .inl (cI, 480, .inl mk))]
abbrev wM (b : Nat → Nat) (cI cZ : ClassId) (pl : Nat → Int32) (br : Nat → Int32) (md : Nat → Int32) (tn : Nat → Int32) (cnt : Int32) (sp : Nat → Int32) (we : Nat → Int32) (tw : Nat → Int32) (sl : Nat → Int32) (pr : Nat → Int32) (al : Nat → Int32) (mo : Nat → Int32) (now : Int32) (cr : Nat → Int32) (tu : Nat → Int32) (le : Nat → Int32) (to : Nat → Int32) (ia : Nat → Int32) (th : Int32) : va_W := [(b 0, .inr (5, [.ref (b 1), .ref (b 2), .ref (b 3), .ref (b 4), .int cnt, .ref (b 5), .ref (b 6), .ref (b 7), .ref (b 8), .ref (b 9), .ref (b 10), .ref (b 11), .int now, .ref (b 12), .ref (b 13), .ref (b 14), .ref (b 15), .ref (b 16), .int th])), (b 1, .inl (cI, 12, .inl pl)), (b 2, .inl (cI, 12, .inl br)), (b 3, .inl (cI, 12, .inl md)), (b 4, .inl (cI, 12, .inl tn)), (b 5, .inl (cI, 480, .inl sp)), (b 6, .inl (cI, 480, .inl we)), (b 7, .inl (cI, 480, .inl tw)), (b 8, .inl (cI, 480, .inl sl)), (b 9, .inl (cI, 480, .inl pr)), (b 10, .inl (cI, 480, .inl al)), (b 11, .inl (cI, 480, .inl mo)), (b 12, .inl (cI, 3, .inl cr)), (b 13, .inl (cI, 3, .inl tu)), (b 14, .inl (cI, 3, .inl le)), (b 15, .inl (cI, 3, .inl to)), (b 16, .inl (cI, 3, .inl ia))]
end
section
set_option maxHeartbeats 4000000 in
set_option maxRecDepth 100000 in
/-- isWithin: the truth of it -/
theorem c_X4_isWithin (l : Launch) (v : Int32) (lo : Int32) (hi : Int32) : kPs l yX4_isWithin wsX4_isWithin ({ frames := 0, cells := 0, slots := 0, locals := 0 }) [.int v, .int lo, .int hi] (fun r => r = bI (lo ≤ v ∧ v ≤ hi)) := by
  refine Met.ofW (cc := cX4_isWithin) (maxL := 3) (ret := (some .boolean)) (by decide) rfl ?_
  intro p e s m args below meth c s₁ B hml hv
  obtain ⟨rfl, -⟩ := hv
  have hx := B.exec
  have hb := B.bytes
  have hr := B.returns
  have hts := atoms_spec (ws := wsX4_isWithin) B.pre
  have hown : s.vm.findClass RX4 = some m.cls := findClass_of_methodNamed B.named
  have hlocks := B.notSynchronized
  have hl := lv_entry ([.int v, .int lo, .int hi]) (n := 3) (Nat.le_of_ble_eq_true rfl)
  rw [lg_entry_eq]
  generalize (lg_sl ([.int v, .int lo, .int hi]) ++ List.replicate (3 - (lg_sl ([.int v, .int lo, .int hi])).length) Slot.unset).toArray = ls at hl ⊢
  have hl : lv_has ls 3 [(0, .int v), (1, .int lo), (2, .int hi)] := hl
  refine lv_iload_n hx hb dX4_isWithin_0 rfl (lv_at hl 0 rfl) ?_
  refine lv_iload_n hx hb dX4_isWithin_1 rfl (lv_at hl 1 rfl) ?_
  refine lv_icmp_lt (tgt := 14) hx hb dX4_isWithin_2 (by decide) (fun c_2 => ?_) (fun c_2 => ?_)
  · refine lv_iconst (v := 0) hx hb dX4_isWithin_14 (by decide) ?_
    exact k_endR (ty := .boolean) hx hb hr hlocks (rfl) (by first | exact (bI_t ⟨Int32.not_lt.mp c_2, Int32.not_lt.mp c_7⟩).symm | exact (bI_f (fun h => absurd h.2 (Int32.not_le.mpr c_7))).symm | exact (bI_f (fun h => absurd h.1 (Int32.not_le.mpr c_2))).symm) dX4_isWithin_15
  · refine lv_iload_n hx hb dX4_isWithin_5 rfl (lv_at hl 0 rfl) ?_
    refine lv_iload_n hx hb dX4_isWithin_6 rfl (lv_at hl 2 rfl) ?_
    refine lv_icmp_gt (tgt := 14) hx hb dX4_isWithin_7 (by decide) (fun c_7 => ?_) (fun c_7 => ?_)
    · refine lv_iconst (v := 0) hx hb dX4_isWithin_14 (by decide) ?_
      exact k_endR (ty := .boolean) hx hb hr hlocks (rfl) (by first | exact (bI_t ⟨Int32.not_lt.mp c_2, Int32.not_lt.mp c_7⟩).symm | exact (bI_f (fun h => absurd h.2 (Int32.not_le.mpr c_7))).symm | exact (bI_f (fun h => absurd h.1 (Int32.not_le.mpr c_2))).symm) dX4_isWithin_15
    · refine lv_iconst (v := 1) hx hb dX4_isWithin_10 (by decide) ?_
      refine lv_goto (tgt := 15) hx hb dX4_isWithin_11 (by decide) ?_
      exact k_endR (ty := .boolean) hx hb hr hlocks (rfl) (by first | exact (bI_t ⟨Int32.not_lt.mp c_2, Int32.not_lt.mp c_7⟩).symm | exact (bI_f (fun h => absurd h.2 (Int32.not_le.mpr c_7))).symm | exact (bI_f (fun h => absurd h.1 (Int32.not_le.mpr c_2))).symm) dX4_isWithin_15

set_option maxHeartbeats 4000000 in
set_option maxRecDepth 100000 in
theorem c_X0_lane (l : Launch) (q : Nat) (w : Int32) (hq : q < 24) : kPs l yX0_lane wsX0_lane ({ frames := 0, cells := 0, slots := 0, locals := 0 }) [.int (nI q), .int w] (fun r => r = nI (fLane w q)) := by
  refine Met.ofW (cc := cX0_lane) (maxL := 2) (ret := (some .int)) (by decide) rfl ?_
  intro p e s m args below meth c s₁ B hml hv
  obtain ⟨rfl, -⟩ := hv
  have hx := B.exec
  have hb := B.bytes
  have hr := B.returns
  have hts := atoms_spec (ws := wsX0_lane) B.pre
  have hown : s.vm.findClass RX0 = some m.cls := findClass_of_methodNamed B.named
  have hlocks := B.notSynchronized
  have hl := lv_entry ([.int (nI q), .int w]) (n := 2) (Nat.le_of_ble_eq_true rfl)
  rw [lg_entry_eq]
  generalize (lg_sl ([.int (nI q), .int w]) ++ List.replicate (2 - (lg_sl ([.int (nI q), .int w])).length) Slot.unset).toArray = ls at hl ⊢
  have hl : lv_has ls 2 [(0, .int (nI q)), (1, .int w)] := hl
  refine lv_iload_n hx hb dX0_lane_0 rfl (lv_at hl 1 rfl) ?_
  refine lv_if_eq (tgt := 11) hx hb dX0_lane_1 (by decide) (fun c_1 => ?_) (fun c_1 => ?_)
  · refine lv_iload_n hx hb dX0_lane_11 rfl (lv_at hl 0 rfl) ?_
    refine lv_bipush (v := 6) hx hb dX0_lane_12 (by decide) ?_
    refine lv_irem hx hb dX0_lane_14 (by decide) ?_
    exact k_endR (ty := .int) hx hb hr hlocks (rfl) (by unfold fLane; first | (rw [if_pos c_1]; exact nI_rm (by omega)) | (rw [if_neg c_1]; exact nI_dm (by omega))) dX0_lane_15
  · refine lv_iload_n hx hb dX0_lane_4 rfl (lv_at hl 0 rfl) ?_
    refine lv_bipush (v := 6) hx hb dX0_lane_5 (by decide) ?_
    refine lv_idiv hx hb dX0_lane_7 (by decide) ?_
    refine lv_goto (tgt := 15) hx hb dX0_lane_8 (by decide) ?_
    exact k_endR (ty := .int) hx hb hr hlocks (rfl) (by unfold fLane; first | (rw [if_pos c_1]; exact nI_rm (by omega)) | (rw [if_neg c_1]; exact nI_dm (by omega))) dX0_lane_15

set_option maxHeartbeats 4000000 in
set_option maxRecDepth 100000 in
theorem c_X0_placesAhead (l : Launch) (q : Nat) (w : Int32) (hq : q < 24) : kPs l yX0_placesAhead wsX0_placesAhead ({ frames := 0, cells := 0, slots := 0, locals := 0 }) [.int (nI q), .int w] (fun r => r = nI (fAhd w q)) := by
  refine Met.ofW (cc := cX0_placesAhead) (maxL := 2) (ret := (some .int)) (by decide) rfl ?_
  intro p e s m args below meth c s₁ B hml hv
  obtain ⟨rfl, -⟩ := hv
  have hx := B.exec
  have hb := B.bytes
  have hr := B.returns
  have hts := atoms_spec (ws := wsX0_placesAhead) B.pre
  have hown : s.vm.findClass RX0 = some m.cls := findClass_of_methodNamed B.named
  have hlocks := B.notSynchronized
  have hl := lv_entry ([.int (nI q), .int w]) (n := 2) (Nat.le_of_ble_eq_true rfl)
  rw [lg_entry_eq]
  generalize (lg_sl ([.int (nI q), .int w]) ++ List.replicate (2 - (lg_sl ([.int (nI q), .int w])).length) Slot.unset).toArray = ls at hl ⊢
  have hl : lv_has ls 2 [(0, .int (nI q)), (1, .int w)] := hl
  refine lv_iload_n hx hb dX0_placesAhead_0 rfl (lv_at hl 1 rfl) ?_
  refine lv_if_eq (tgt := 11) hx hb dX0_placesAhead_1 (by decide) (fun c_1 => ?_) (fun c_1 => ?_)
  · refine lv_iload_n hx hb dX0_placesAhead_11 rfl (lv_at hl 0 rfl) ?_
    refine lv_bipush (v := 6) hx hb dX0_placesAhead_12 (by decide) ?_
    refine lv_idiv hx hb dX0_placesAhead_14 (by decide) ?_
    exact k_endR (ty := .int) hx hb hr hlocks (rfl) (by unfold fAhd; first | (rw [if_pos c_1]; exact nI_dm (by omega)) | (rw [if_neg c_1]; exact nI_rm (by omega))) dX0_placesAhead_15
  · refine lv_iload_n hx hb dX0_placesAhead_4 rfl (lv_at hl 0 rfl) ?_
    refine lv_bipush (v := 6) hx hb dX0_placesAhead_5 (by decide) ?_
    refine lv_irem hx hb dX0_placesAhead_7 (by decide) ?_
    refine lv_goto (tgt := 15) hx hb dX0_placesAhead_8 (by decide) ?_
    exact k_endR (ty := .int) hx hb hr hlocks (rfl) (by unfold fAhd; first | (rw [if_pos c_1]; exact nI_dm (by omega)) | (rw [if_neg c_1]; exact nI_rm (by omega))) dX0_placesAhead_15

set_option maxHeartbeats 4000000 in
set_option maxRecDepth 100000 in
theorem c_X0_takenByWake (l : Launch) (v : Int32) (d : Nat) (hd : d < 6) : kPs l yX0_takenByWake wsX0_takenByWake ({ frames := 0, cells := 0, slots := 0, locals := 0 }) [.int v, .int (nI d)] (fun r => r = fTaken v d) := by
  refine Met.ofW (cc := cX0_takenByWake) (maxL := 3) (ret := (some .int)) (by decide) rfl ?_
  intro p e s m args below meth c s₁ B hml hv
  obtain ⟨rfl, -⟩ := hv
  have hx := B.exec
  have hb := B.bytes
  have hr := B.returns
  have hts := atoms_spec (ws := wsX0_takenByWake) B.pre
  have hown : s.vm.findClass RX0 = some m.cls := findClass_of_methodNamed B.named
  have hlocks := B.notSynchronized
  have hl := lv_entry ([.int v, .int (nI d)]) (n := 3) (Nat.le_of_ble_eq_true rfl)
  rw [lg_entry_eq]
  generalize (lg_sl ([.int v, .int (nI d)]) ++ List.replicate (3 - (lg_sl ([.int v, .int (nI d)])).length) Slot.unset).toArray = ls at hl ⊢
  have hl : lv_has ls 3 [(0, .int v), (1, .int (nI d))] := hl
  refine lv_bipush (v := 10) hx hb dX0_takenByWake_0 (by decide) ?_
  refine lv_istore_n (lv' := [(2, .int 10), (0, .int v), (1, .int (nI d))]) hx hb dX0_takenByWake_2 rfl hl (by decide) rfl (fun ls hl => ?_)
  refine lv_iload_n hx hb dX0_takenByWake_3 rfl (lv_at hl 2 rfl) ?_
  refine lv_iconst (v := 1) hx hb dX0_takenByWake_4 (by decide) ?_
  refine lv_icmp_ne (tgt := 14) hx hb dX0_takenByWake_5 (by decide) (fun c_5 => ?_) (fun c_5 => ?_)
  · have c_5 : ¬ d = 1 := fun h => c_5 (by rw [h]; rfl)
    refine lv_iload_n hx hb dX0_takenByWake_14 rfl (lv_at hl 2 rfl) ?_
    refine lv_iconst (v := 2) hx hb dX0_takenByWake_15 (by decide) ?_
    refine lv_icmp_ne (tgt := 22) hx hb dX0_takenByWake_16 (by decide) (fun c_16 => ?_) (fun c_16 => ?_)
    · have c_16 : ¬ d = 2 := fun h => c_16 (by rw [h]; rfl)
      refine lv_iload_n hx hb dX0_takenByWake_22 rfl (lv_at hl 1 rfl) ?_
      refine lv_iload_n hx hb dX0_takenByWake_23 rfl (lv_at hl 0 rfl) ?_
      refine lv_imul hx hb dX0_takenByWake_24 ?_
      refine lv_bipush (v := 100) hx hb dX0_takenByWake_25 (by decide) ?_
      refine lv_idiv hx hb dX0_takenByWake_27 (by decide) ?_
      exact k_endR (ty := .int) hx hb hr hlocks (rfl) (by unfold fTaken fWake; first | (rw [if_pos c_5]; done) | (rw [if_neg c_5, if_pos c_16]; done) | (rw [if_neg c_5, if_neg c_16]; done)) dX0_takenByWake_28
    · have c_16 : d = 2 := (nI_eq (by omega) (by decide)).mp c_16
      refine lv_bipush (v := 20) hx hb dX0_takenByWake_19 (by decide) ?_
      refine lv_istore_n (lv' := [(2, .int 20), (0, .int v), (1, .int (nI d))]) hx hb dX0_takenByWake_21 rfl hl (by decide) rfl (fun ls hl => ?_)
      refine lv_iload_n hx hb dX0_takenByWake_22 rfl (lv_at hl 1 rfl) ?_
      refine lv_iload_n hx hb dX0_takenByWake_23 rfl (lv_at hl 0 rfl) ?_
      refine lv_imul hx hb dX0_takenByWake_24 ?_
      refine lv_bipush (v := 100) hx hb dX0_takenByWake_25 (by decide) ?_
      refine lv_idiv hx hb dX0_takenByWake_27 (by decide) ?_
      exact k_endR (ty := .int) hx hb hr hlocks (rfl) (by unfold fTaken fWake; first | (rw [if_pos c_5]; done) | (rw [if_neg c_5, if_pos c_16]; done) | (rw [if_neg c_5, if_neg c_16]; done)) dX0_takenByWake_28
  · have c_5 : d = 1 := (nI_eq (by omega) (by decide)).mp c_5
    refine lv_bipush (v := 30) hx hb dX0_takenByWake_8 (by decide) ?_
    refine lv_istore_n (lv' := [(2, .int 30), (0, .int v), (1, .int (nI d))]) hx hb dX0_takenByWake_10 rfl hl (by decide) rfl (fun ls hl => ?_)
    refine lv_goto (tgt := 22) hx hb dX0_takenByWake_11 (by decide) ?_
    refine lv_iload_n hx hb dX0_takenByWake_22 rfl (lv_at hl 1 rfl) ?_
    refine lv_iload_n hx hb dX0_takenByWake_23 rfl (lv_at hl 0 rfl) ?_
    refine lv_imul hx hb dX0_takenByWake_24 ?_
    refine lv_bipush (v := 100) hx hb dX0_takenByWake_25 (by decide) ?_
    refine lv_idiv hx hb dX0_takenByWake_27 (by decide) ?_
    exact k_endR (ty := .int) hx hb hr hlocks (rfl) (by unfold fTaken fWake; first | (rw [if_pos c_5]; done) | (rw [if_neg c_5, if_pos c_16]; done) | (rw [if_neg c_5, if_neg c_16]; done)) dX0_takenByWake_28

set_option maxHeartbeats 4000000 in
set_option maxRecDepth 100000 in
theorem c_X0_powerOfWind (l : Launch) (D : va_G) (cI cZ : ClassId) (v : Int32) : kPK l yX0_powerOfWind wsX0_powerOfWind ({ frames := 1, cells := 0, slots := 0, locals := 22 }) [.int v] D cI cZ (fun r => r = fPow v) := by
  refine Met.ofW (cc := cX0_powerOfWind) (maxL := 1) (ret := (some .int)) (by decide) rfl ?_
  intro p e s m args below meth c s₁ B hml hv
  obtain ⟨rfl, hK⟩ := hv
  have hx := B.exec
  have hb := B.bytes
  have hr := B.returns
  have hts := atoms_spec (ws := wsX0_powerOfWind) B.pre
  have hown : s.vm.findClass RX0 = some m.cls := findClass_of_methodNamed B.named
  have hlocks := B.notSynchronized
  have hl := lv_entry ([.int v]) (n := 1) (Nat.le_of_ble_eq_true rfl)
  rw [lg_entry_eq]
  generalize (lg_sl ([.int v]) ++ List.replicate (1 - (lg_sl ([.int v])).length) Slot.unset).toArray = ls at hl ⊢
  have hl : lv_has ls 1 [(0, .int v)] := hl
  refine lv_iload_n hx hb dX0_powerOfWind_0 rfl (lv_at hl 0 rfl) ?_
  refine lv_iconst (v := 4) hx hb dX0_powerOfWind_1 (by decide) ?_
  refine lv_bipush (v := 25) hx hb dX0_powerOfWind_2 (by decide) ?_
  refine k_psN (As := [.int v, .int 4, .int 25]) (rest := []) (nL := 1) ⟨hx, hb, hml, hown, hts⟩ (c_X4_isWithin l v 4 25) ⟨va_cnB 3 hts gX0_powerOfWind_X4_isWithin_n32 rfl rfl rfl hK.2 (hts (.initialized RX4) (by decide +kernel)) (by decide +kernel) ⟨Nat.le_of_ble_eq_true rfl, Nat.le_of_ble_eq_true rfl⟩, hts (.static yX4_isWithin) (by decide +kernel), trivial⟩ rfl hl.1 rfl (Nat.le_of_ble_eq_true rfl) dX0_powerOfWind_4 ⟨Nat.zero_le _, Nat.zero_le _⟩ (fun r9 hr9 => ?_)
  subst hr9
  refine lv_if_ne (tgt := 12) hx hb dX0_powerOfWind_7 (by decide) (fun c_7 => ?_) (fun c_7 => ?_)
  · have c_7 := bI_n c_7
    refine lv_iload_n hx hb dX0_powerOfWind_12 rfl (lv_at hl 0 rfl) ?_
    refine lv_iload_n hx hb dX0_powerOfWind_13 rfl (lv_at hl 0 rfl) ?_
    refine lv_imul hx hb dX0_powerOfWind_14 ?_
    refine lv_iload_n hx hb dX0_powerOfWind_15 rfl (lv_at hl 0 rfl) ?_
    refine lv_imul hx hb dX0_powerOfWind_16 ?_
    refine lv_sipush (v := 2000) hx hb dX0_powerOfWind_17 (by decide) ?_
    refine va_mmin hx hb (hml.trans hl.1.symm) hown (hts (.methodLink RX0 78 Lib.Math.min.name) (by decide +kernel)) (hts (.static Lib.Math.min.name) (by decide +kernel)) (hts (.initialized "java/lang/Math") (by decide +kernel)) (hts (.code Lib.Math.min.name Lib.Math.min.code 2 (some .int)) (by decide +kernel)) (Nat.le_of_ble_eq_true rfl) (Nat.le_of_ble_eq_true rfl) (Nat.zero_le _) (Nat.zero_le _) dX0_powerOfWind_20 ?_
    exact k_endR (ty := .int) hx hb hr hlocks (rfl) (by unfold fPow; rw [if_pos c_7]) dX0_powerOfWind_23
  · have c_7 := bI_0 c_7
    refine lv_iconst (v := 0) hx hb dX0_powerOfWind_10 (by decide) ?_
    exact k_endR (ty := .int) hx hb hr hlocks (rfl) (by unfold fPow; rw [if_neg c_7]) dX0_powerOfWind_11
end
section
set_option maxHeartbeats 4000000 in
set_option maxRecDepth 100000 in
theorem c_X3_speedIn (l : Launch) (D : va_G) (a : Nat → Nat) (cI cZ : ClassId) (sp : Nat → Int32) (we : Nat → Int32) (tw : Nat → Int32) (k : Nat) (hk : k < 480) : kRd l yX3_speedIn wsX3_speedIn ({ frames := 0, cells := 0, slots := 0, locals := 0 }) [.ref (a 1), .int (nI k)] D cI cZ (wW a cI cZ sp we tw) (fun r => r = sp k) := by
  refine Met.ofW (cc := cX3_speedIn) (maxL := 2) (ret := (some .int)) (by decide) rfl ?_
  intro p e s m args below meth c s₁ B hml hv
  obtain ⟨rfl, hP, hK⟩ := hv
  have hx := B.exec
  have hb := B.bytes
  have hr := B.returns
  have hts := atoms_spec (ws := wsX3_speedIn) B.pre
  have hown : s.vm.findClass RX3 = some m.cls := findClass_of_methodNamed B.named
  have hlocks := B.notSynchronized
  have hl := lv_entry ([.ref (a 1), .int (nI k)]) (n := 2) (Nat.le_of_ble_eq_true rfl)
  rw [lg_entry_eq]
  generalize (lg_sl ([.ref (a 1), .int (nI k)]) ++ List.replicate (2 - (lg_sl ([.ref (a 1), .int (nI k)])).length) Slot.unset).toArray = ls at hl ⊢
  have hl : lv_has ls 2 [(0, .ref (a 1)), (1, .int (nI k))] := hl
  refine lv_aload_n hx hb dX3_speedIn_0 rfl (lv_at hl 0 rfl) ?_
  refine va_get (D := D) (ci := 3) (v := .ref (a 2)) (C := RX3) (T := TX3) (N := 3) hx hb hts (by decide +kernel) hown hK.1 hP 0 rfl rfl 0 (by decide) (hts (.fieldLink RX3 9 "Turbineorchard$Weather" "speeds" "[I") (by decide +kernel)) (fun _ h9 => h9) rfl dX3_speedIn_1 ?_
  refine lv_iload_n hx hb dX3_speedIn_4 rfl (lv_at hl 1 rfl) ?_
  refine k_iald hx hb hK.1 hP 1 0 rfl rfl k (rfl) (by omega) (by decide) dX3_speedIn_5 ?_
  exact k_endR (ty := .int) hx hb hr hlocks (rfl) (rfl) dX3_speedIn_6

set_option maxHeartbeats 4000000 in
set_option maxRecDepth 100000 in
theorem c_X3_isWestIn (l : Launch) (D : va_G) (a : Nat → Nat) (cI cZ : ClassId) (sp : Nat → Int32) (we : Nat → Int32) (tw : Nat → Int32) (k : Nat) (hk : k < 480) (hw : we k = 0 ∨ we k = 1) : kRd l yX3_isWestIn wsX3_isWestIn ({ frames := 0, cells := 0, slots := 0, locals := 0 }) [.ref (a 1), .int (nI k)] D cI cZ (wW a cI cZ sp we tw) (fun r => r = we k) := by
  refine Met.ofW (cc := cX3_isWestIn) (maxL := 2) (ret := (some .boolean)) (by decide) rfl ?_
  intro p e s m args below meth c s₁ B hml hv
  obtain ⟨rfl, hP, hK⟩ := hv
  have hx := B.exec
  have hb := B.bytes
  have hr := B.returns
  have hts := atoms_spec (ws := wsX3_isWestIn) B.pre
  have hown : s.vm.findClass RX3 = some m.cls := findClass_of_methodNamed B.named
  have hlocks := B.notSynchronized
  have hl := lv_entry ([.ref (a 1), .int (nI k)]) (n := 2) (Nat.le_of_ble_eq_true rfl)
  rw [lg_entry_eq]
  generalize (lg_sl ([.ref (a 1), .int (nI k)]) ++ List.replicate (2 - (lg_sl ([.ref (a 1), .int (nI k)])).length) Slot.unset).toArray = ls at hl ⊢
  have hl : lv_has ls 2 [(0, .ref (a 1)), (1, .int (nI k))] := hl
  refine lv_aload_n hx hb dX3_isWestIn_0 rfl (lv_at hl 0 rfl) ?_
  refine va_get (D := D) (ci := 3) (v := .ref (a 3)) (C := RX3) (T := TX3) (N := 3) hx hb hts (by decide +kernel) hown hK.1 hP 0 rfl rfl 1 (by decide) (hts (.fieldLink RX3 15 "Turbineorchard$Weather" "wests" "[Z") (by decide +kernel)) (fun _ h9 => h9) rfl dX3_isWestIn_1 ?_
  refine lv_iload_n hx hb dX3_isWestIn_4 rfl (lv_at hl 1 rfl) ?_
  refine k_zald hx hb hK.1 hP 2 1 rfl rfl k (rfl) (by omega) (by decide) dX3_isWestIn_5 ?_
  exact k_endR (ty := .boolean) hx hb hr hlocks (by rcases hw with h | h <;> rw [h] <;> rfl) (rfl) dX3_isWestIn_6

set_option maxHeartbeats 4000000 in
set_option maxRecDepth 100000 in
theorem c_X3_wavesIn (l : Launch) (D : va_G) (a : Nat → Nat) (cI cZ : ClassId) (sp : Nat → Int32) (we : Nat → Int32) (tw : Nat → Int32) (k : Nat) (hk : k < 480) : kRd l yX3_wavesIn wsX3_wavesIn ({ frames := 0, cells := 0, slots := 0, locals := 0 }) [.ref (a 1), .int (nI k)] D cI cZ (wW a cI cZ sp we tw) (fun r => r = fWaves sp tw k) := by
  refine Met.ofW (cc := cX3_wavesIn) (maxL := 2) (ret := (some .int)) (by decide) rfl ?_
  intro p e s m args below meth c s₁ B hml hv
  obtain ⟨rfl, hP, hK⟩ := hv
  have hx := B.exec
  have hb := B.bytes
  have hr := B.returns
  have hts := atoms_spec (ws := wsX3_wavesIn) B.pre
  have hown : s.vm.findClass RX3 = some m.cls := findClass_of_methodNamed B.named
  have hlocks := B.notSynchronized
  have hl := lv_entry ([.ref (a 1), .int (nI k)]) (n := 2) (Nat.le_of_ble_eq_true rfl)
  rw [lg_entry_eq]
  generalize (lg_sl ([.ref (a 1), .int (nI k)]) ++ List.replicate (2 - (lg_sl ([.ref (a 1), .int (nI k)])).length) Slot.unset).toArray = ls at hl ⊢
  have hl : lv_has ls 2 [(0, .ref (a 1)), (1, .int (nI k))] := hl
  refine lv_aload_n hx hb dX3_wavesIn_0 rfl (lv_at hl 0 rfl) ?_
  refine va_get (D := D) (ci := 3) (v := .ref (a 4)) (C := RX3) (T := TX3) (N := 3) hx hb hts (by decide +kernel) hown hK.1 hP 0 rfl rfl 2 (by decide) (hts (.fieldLink RX3 19 "Turbineorchard$Weather" "toldWaves" "[I") (by decide +kernel)) (fun _ h9 => h9) rfl dX3_wavesIn_1 ?_
  refine lv_iload_n hx hb dX3_wavesIn_4 rfl (lv_at hl 1 rfl) ?_
  refine k_iald hx hb hK.1 hP 3 0 rfl rfl k (rfl) (by omega) (by decide) dX3_wavesIn_5 ?_
  refine lv_iconst (v := (-1)) hx hb dX3_wavesIn_6 (by decide) ?_
  refine lv_icmp_ne (tgt := 21) hx hb dX3_wavesIn_7 (by decide) (fun c_7 => ?_) (fun c_7 => ?_)
  · refine lv_aload_n hx hb dX3_wavesIn_21 rfl (lv_at hl 0 rfl) ?_
    refine va_get (D := D) (ci := 3) (v := .ref (a 4)) (C := RX3) (T := TX3) (N := 3) hx hb hts (by decide +kernel) hown hK.1 hP 0 rfl rfl 2 (by decide) (hts (.fieldLink RX3 19 "Turbineorchard$Weather" "toldWaves" "[I") (by decide +kernel)) (fun _ h9 => h9) rfl dX3_wavesIn_22 ?_
    refine lv_iload_n hx hb dX3_wavesIn_25 rfl (lv_at hl 1 rfl) ?_
    refine k_iald hx hb hK.1 hP 3 0 rfl rfl k (rfl) (by omega) (by decide) dX3_wavesIn_26 ?_
    exact k_endR (ty := .int) hx hb hr hlocks (rfl) (by unfold fWaves; rw [if_neg c_7]) dX3_wavesIn_27
  · refine lv_aload_n hx hb dX3_wavesIn_10 rfl (lv_at hl 0 rfl) ?_
    refine va_get (D := D) (ci := 3) (v := .ref (a 2)) (C := RX3) (T := TX3) (N := 3) hx hb hts (by decide +kernel) hown hK.1 hP 0 rfl rfl 0 (by decide) (hts (.fieldLink RX3 9 "Turbineorchard$Weather" "speeds" "[I") (by decide +kernel)) (fun _ h9 => h9) rfl dX3_wavesIn_11 ?_
    refine lv_iload_n hx hb dX3_wavesIn_14 rfl (lv_at hl 1 rfl) ?_
    refine k_iald hx hb hK.1 hP 1 0 rfl rfl k (rfl) (by omega) (by decide) dX3_wavesIn_15 ?_
    refine lv_iconst (v := 3) hx hb dX3_wavesIn_16 (by decide) ?_
    refine lv_idiv hx hb dX3_wavesIn_17 (by decide) ?_
    refine lv_goto (tgt := 27) hx hb dX3_wavesIn_18 (by decide) ?_
    exact k_endR (ty := .int) hx hb hr hlocks (rfl) (by unfold fWaves; rw [if_pos c_7]) dX3_wavesIn_27

set_option maxHeartbeats 4000000 in
set_option maxRecDepth 100000 in
theorem c_X3_tellWaves (l : Launch) (D : va_G) (a : Nat → Nat) (cI cZ : ClassId) (sz : Nat) (sp : Nat → Int32) (we : Nat → Int32) (tw : Nat → Int32) (k : Nat) (x : Int32) (hk : k < 480) : kUv l yX3_tellWaves wsX3_tellWaves ({ frames := 0, cells := 0, slots := 0, locals := 0 }) [.ref (a 1), .int (nI k), .int x] D cI cZ sz (wW a cI cZ sp we tw) (wW a cI cZ sp we (upd tw k x)) := by
  refine Met.ofW (cc := cX3_tellWaves) (maxL := 3) (ret := none) (by decide) rfl ?_
  intro p e s m args below meth c s₁ B hml hv
  obtain ⟨rfl, hsz, hP, hK, hD0⟩ := hv
  have hx := B.exec
  have hb := B.bytes
  have hr := B.returns
  have hts := atoms_spec (ws := wsX3_tellWaves) B.pre
  have hown : s.vm.findClass RX3 = some m.cls := findClass_of_methodNamed B.named
  have hlocks := B.notSynchronized
  subst hsz
  have hD := hD0.self (sz := s.heap.size)
  generalize hAe : va_A (wW a cI cZ sp we tw) s.heap.size = A at hD ⊢
  have hA : ∀ q : Nat, s.heap.size ≤ q → A q := fun q h => by rw [← hAe]; exact Or.inr h
  have hS : va_S A s.heap s.heap [] := va_S.rf
  have hl := lv_entry ([.ref (a 1), .int (nI k), .int x]) (n := 3) (Nat.le_of_ble_eq_true rfl)
  rw [lg_entry_eq]
  generalize (lg_sl ([.ref (a 1), .int (nI k), .int x]) ++ List.replicate (3 - (lg_sl ([.ref (a 1), .int (nI k), .int x])).length) Slot.unset).toArray = ls at hl ⊢
  have hl : lv_has ls 3 [(0, .ref (a 1)), (1, .int (nI k)), (2, .int x)] := hl
  refine lv_aload_n hx hb dX3_tellWaves_0 rfl (lv_at hl 0 rfl) ?_
  refine va_get (D := D) (ci := 3) (v := .ref (a 4)) (C := RX3) (T := TX3) (N := 3) hx hb hts (by decide +kernel) hown hK.1 hP 0 rfl rfl 2 (by decide) (hts (.fieldLink RX3 19 "Turbineorchard$Weather" "toldWaves" "[I") (by decide +kernel)) (fun _ h9 => h9) rfl dX3_tellWaves_1 ?_
  refine lv_iload_n hx hb dX3_tellWaves_4 rfl (lv_at hl 1 rfl) ?_
  refine lv_iload_n hx hb dX3_tellWaves_5 rfl (lv_at hl 2 rfl) ?_
  refine k_iast hx hb hK.1 hP hD hS 3 0 rfl rfl k (rfl) (by omega) (by decide) dX3_tellWaves_6 (fun H locs hP hD hS => ?_)
  have hP : va_P D vwCl (wW a cI cZ sp we (upd tw k x)) H := hP
  have hD : va_D A (wW a cI cZ sp we (upd tw k x)) := hD
  exact k_endV (sz := 0) hx hb hr hlocks hP hD hS dX3_tellWaves_7

set_option maxHeartbeats 4000000 in
set_option maxRecDepth 100000 in
theorem c_X3_tellWind (l : Launch) (D : va_G) (a : Nat → Nat) (cI cZ : ClassId) (sz : Nat) (sp : Nat → Int32) (we : Nat → Int32) (tw : Nat → Int32) (f : Nat) (t : Nat) (v : Int32) (w : Int32) (hft : f ≤ t) (ht : t < 480) (hw : w = 0 ∨ w = 1) : kUv l yX3_tellWind wsX3_tellWind ({ frames := 0, cells := 0, slots := 0, locals := 0 }) [.ref (a 1), .int (nI f), .int (nI t), .int v, .int w] D cI cZ sz (wW a cI cZ sp we tw) (wW a cI cZ (setR sp f (t + 1) v) (setR we f (t + 1) w) tw) := by
  refine Met.ofW (cc := cX3_tellWind) (maxL := 6) (ret := none) (by decide) rfl ?_
  intro p e s m args below meth c s₁ B hml hv
  obtain ⟨rfl, hsz, hP, hK, hD0⟩ := hv
  have hx := B.exec
  have hb := B.bytes
  have hr := B.returns
  have hts := atoms_spec (ws := wsX3_tellWind) B.pre
  have hown : s.vm.findClass RX3 = some m.cls := findClass_of_methodNamed B.named
  have hlocks := B.notSynchronized
  subst hsz
  have hD := hD0.self (sz := s.heap.size)
  generalize hAe : va_A (wW a cI cZ sp we tw) s.heap.size = A at hD ⊢
  have hA : ∀ q : Nat, s.heap.size ≤ q → A q := fun q h => by rw [← hAe]; exact Or.inr h
  have hS : va_S A s.heap s.heap [] := va_S.rf
  have hl := lv_entry ([.ref (a 1), .int (nI f), .int (nI t), .int v, .int w]) (n := 6) (Nat.le_of_ble_eq_true rfl)
  rw [lg_entry_eq]
  generalize (lg_sl ([.ref (a 1), .int (nI f), .int (nI t), .int v, .int w]) ++ List.replicate (6 - (lg_sl ([.ref (a 1), .int (nI f), .int (nI t), .int v, .int w])).length) Slot.unset).toArray = ls at hl ⊢
  have hl : lv_has ls 6 [(0, .ref (a 1)), (1, .int (nI f)), (2, .int (nI t)), (3, .int v), (4, .int w)] := hl
  refine lv_iload_n hx hb dX3_tellWind_0 rfl (lv_at hl 1 rfl) ?_
  have e9 : sp = (setR sp f f v) := (setR_0 sp f v).symm
  rw [e9] at hP hD
  clear e9
  have e9 : we = (setR we f f w) := (setR_0 we f w).symm
  rw [e9] at hP hD
  clear e9
  refine lv_istore (lv' := [(5, .int (nI f)), (0, .ref (a 1)), (1, .int (nI f)), (2, .int (nI t)), (3, .int v), (4, .int w)]) hx hb dX3_tellWind_1 hl (by decide) rfl (fun ls hl => ?_)
  have loop_3 : ∀ (nn : Nat) (k : Nat), t + 1 - k < nn → (f ≤ k) → (k ≤ t + 1) → ∀ (H : Heap) (locs : List Loc), va_P D vwCl (wW a cI cZ (setR sp f k v) (setR we f k w) tw) H → va_D A (wW a cI cZ (setR sp f k v) (setR we f k w) tw) → va_S A s.heap H locs → ∀ (ls : Array Slot), lv_has ls 6 [(0, .ref (a 1)), (2, .int (nI t)), (3, .int v), (4, .int w), (5, .int (nI k))] → W p l e (headSpec wsX3_tellWind ({ frames := 0, cells := 0, slots := 0, locals := 0 })).room s m ([.ref (a 1), .int (nI f), .int (nI t), .int v, .int w] : List Value).toArray below meth c H locs 0 0 (MQ below (va_Qv (fun _ : Unit => True) (fun _ t9 => kAt D A (wW a cI cZ (setR sp f (t + 1) v) (setR we f (t + 1) w) tw) t9) A) ([.ref (a 1), .int (nI f), .int (nI t), .int v, .int w] : List Value).toArray s 0 0 A) (F0 m 3 ls []) := by
    intro nn
    induction nn with
    | zero => intro k hm; exact absurd hm (by omega)
    | succ nn ih_3 =>
      intro k hm hf hk H locs hP hD hS ls hl
      refine lv_iload hx hb dX3_tellWind_3 (lv_at hl 4 rfl) ?_
      refine lv_iload_n hx hb dX3_tellWind_5 rfl (lv_at hl 1 rfl) ?_
      refine lv_icmp_gt (tgt := 32) hx hb dX3_tellWind_6 (by decide) (fun c_6 => ?_) (fun c_6 => ?_)
      · have c_6 : t < k := (nI_ltI (by omega) (by omega)).mp c_6
        have e8 : k = t + 1 := by omega
        subst e8
        exact k_endV (sz := 0) hx hb hr hlocks hP hD hS dX3_tellWind_32
      · have c_6 : k ≤ t := Nat.le_of_not_lt (fun h => c_6 ((nI_ltI (a := t) (b := k) (by omega) (by omega)).mpr h))
        refine lv_aload_n hx hb dX3_tellWind_9 rfl (lv_at hl 0 rfl) ?_
        refine va_get (D := D) (ci := 3) (v := .ref (a 2)) (C := RX3) (T := TX3) (N := 3) hx hb hts (by decide +kernel) hown hK.1 hP 0 rfl rfl 0 (by decide) (hts (.fieldLink RX3 9 "Turbineorchard$Weather" "speeds" "[I") (by decide +kernel)) (fun _ h9 => h9) rfl dX3_tellWind_10 ?_
        refine lv_iload hx hb dX3_tellWind_13 (lv_at hl 4 rfl) ?_
        refine lv_iload_n hx hb dX3_tellWind_15 rfl (lv_at hl 2 rfl) ?_
        refine k_iast hx hb hK.1 hP hD hS 1 0 rfl rfl k (rfl) (by omega) (by decide) dX3_tellWind_16 (fun H locs hP hD hS => ?_)
        have hP : va_P D vwCl (wW a cI cZ (upd (setR sp f k v) k v) (setR we f k w) tw) H := hP
        have hD : va_D A (wW a cI cZ (upd (setR sp f k v) k v) (setR we f k w) tw) := hD
        refine lv_aload_n hx hb dX3_tellWind_17 rfl (lv_at hl 0 rfl) ?_
        refine va_get (D := D) (ci := 3) (v := .ref (a 3)) (C := RX3) (T := TX3) (N := 3) hx hb hts (by decide +kernel) hown hK.1 hP 0 rfl rfl 1 (by decide) (hts (.fieldLink RX3 15 "Turbineorchard$Weather" "wests" "[Z") (by decide +kernel)) (fun _ h9 => h9) rfl dX3_tellWind_18 ?_
        refine lv_iload hx hb dX3_tellWind_21 (lv_at hl 4 rfl) ?_
        refine lv_iload hx hb dX3_tellWind_23 (lv_at hl 3 rfl) ?_
        refine k_zast hx hb hK.1 hP hD hS 2 1 rfl rfl (by rcases hw with h | h <;> rw [h] <;> rfl) k (rfl) (by omega) (by decide) dX3_tellWind_25 (fun H locs hP hD hS => ?_)
        have hP : va_P D vwCl (wW a cI cZ (upd (setR sp f k v) k v) (upd (setR we f k w) k w) tw) H := hP
        have hD : va_D A (wW a cI cZ (upd (setR sp f k v) k v) (upd (setR we f k w) k w) tw) := hD
        have e9 : (upd (setR sp f k v) k v) = (setR sp f (k + 1) v) := setR_1 sp v hf
        rw [e9] at hP hD
        clear e9
        have e9 : (upd (setR we f k w) k w) = (setR we f (k + 1) w) := setR_1 we w hf
        rw [e9] at hP hD
        clear e9
        refine lv_iinc (v := nI (k + 1)) (lv' := [(5, .int (nI (k + 1))), (0, .ref (a 1)), (2, .int (nI t)), (3, .int v), (4, .int w)]) hx hb dX3_tellWind_26 hl (k := 4) rfl (nI_1 _) (by decide) rfl (fun ls hl => ?_)
        refine lv_goto (tgt := 3) hx hb dX3_tellWind_29 (by decide) ?_
        exact ih_3 (k + 1) (by omega) (by omega) (by omega) _ _ hP hD hS _ (lv_sub hl [1, 2, 3, 4, 0] rfl)
  exact loop_3 (t + 1 - f + 1) f (by omega) (by omega) (by omega) _ _ hP hD hS _ (lv_sub hl [1, 3, 4, 5, 0] rfl)
end
section
set_option maxHeartbeats 4000000 in
set_option maxRecDepth 100000 in
theorem c_X1_crewHours (l : Launch) (D : va_G) (a : Nat → Nat) (cI cZ : ClassId) (tu : Nat → Int32) (le : Nat → Int32) (cr : Nat → Int32) (to : Nat → Int32) (ia : Nat → Int32) (k : Nat) (hk : k < 3) : kRd l yX1_crewHours wsX1_crewHours ({ frames := 0, cells := 0, slots := 0, locals := 0 }) [.ref (a 11), .int (nI k)] D cI cZ (wE a cI cZ tu le cr to ia) (fun r => r = cr k) := by
  refine Met.ofW (cc := cX1_crewHours) (maxL := 2) (ret := (some .int)) (by decide) rfl ?_
  intro p e s m args below meth c s₁ B hml hv
  obtain ⟨rfl, hP, hK⟩ := hv
  have hx := B.exec
  have hb := B.bytes
  have hr := B.returns
  have hts := atoms_spec (ws := wsX1_crewHours) B.pre
  have hown : s.vm.findClass RX1 = some m.cls := findClass_of_methodNamed B.named
  have hlocks := B.notSynchronized
  have hl := lv_entry ([.ref (a 11), .int (nI k)]) (n := 2) (Nat.le_of_ble_eq_true rfl)
  rw [lg_entry_eq]
  generalize (lg_sl ([.ref (a 11), .int (nI k)]) ++ List.replicate (2 - (lg_sl ([.ref (a 11), .int (nI k)])).length) Slot.unset).toArray = ls at hl ⊢
  have hl : lv_has ls 2 [(0, .ref (a 11)), (1, .int (nI k))] := hl
  refine lv_aload_n hx hb dX1_crewHours_0 rfl (lv_at hl 0 rfl) ?_
  refine va_get (D := D) (ci := 1) (v := .ref (a 14)) (C := RX1) (T := TX1) (N := 5) hx hb hts (by decide +kernel) hown hK.1 hP 0 rfl rfl 2 (by decide) (hts (.fieldLink RX1 18 "Turbineorchard$Fleet" "crewLimits" "[I") (by decide +kernel)) (fun _ h9 => h9) rfl dX1_crewHours_1 ?_
  refine lv_iload_n hx hb dX1_crewHours_4 rfl (lv_at hl 1 rfl) ?_
  refine k_iald hx hb hK.1 hP 3 0 rfl rfl k (rfl) (by omega) (by decide) dX1_crewHours_5 ?_
  exact k_endR (ty := .int) hx hb hr hlocks (rfl) (rfl) dX1_crewHours_6

set_option maxHeartbeats 4000000 in
set_option maxRecDepth 100000 in
theorem c_X1_turbineOf (l : Launch) (D : va_G) (a : Nat → Nat) (cI cZ : ClassId) (tu : Nat → Int32) (le : Nat → Int32) (cr : Nat → Int32) (to : Nat → Int32) (ia : Nat → Int32) (k : Nat) (hk : k < 3) : kRd l yX1_turbineOf wsX1_turbineOf ({ frames := 0, cells := 0, slots := 0, locals := 0 }) [.ref (a 11), .int (nI k)] D cI cZ (wE a cI cZ tu le cr to ia) (fun r => r = tu k) := by
  refine Met.ofW (cc := cX1_turbineOf) (maxL := 2) (ret := (some .int)) (by decide) rfl ?_
  intro p e s m args below meth c s₁ B hml hv
  obtain ⟨rfl, hP, hK⟩ := hv
  have hx := B.exec
  have hb := B.bytes
  have hr := B.returns
  have hts := atoms_spec (ws := wsX1_turbineOf) B.pre
  have hown : s.vm.findClass RX1 = some m.cls := findClass_of_methodNamed B.named
  have hlocks := B.notSynchronized
  have hl := lv_entry ([.ref (a 11), .int (nI k)]) (n := 2) (Nat.le_of_ble_eq_true rfl)
  rw [lg_entry_eq]
  generalize (lg_sl ([.ref (a 11), .int (nI k)]) ++ List.replicate (2 - (lg_sl ([.ref (a 11), .int (nI k)])).length) Slot.unset).toArray = ls at hl ⊢
  have hl : lv_has ls 2 [(0, .ref (a 11)), (1, .int (nI k))] := hl
  refine lv_aload_n hx hb dX1_turbineOf_0 rfl (lv_at hl 0 rfl) ?_
  refine va_get (D := D) (ci := 1) (v := .ref (a 12)) (C := RX1) (T := TX1) (N := 5) hx hb hts (by decide +kernel) hown hK.1 hP 0 rfl rfl 0 (by decide) (hts (.fieldLink RX1 9 "Turbineorchard$Fleet" "turbines" "[I") (by decide +kernel)) (fun _ h9 => h9) rfl dX1_turbineOf_1 ?_
  refine lv_iload_n hx hb dX1_turbineOf_4 rfl (lv_at hl 1 rfl) ?_
  refine k_iald hx hb hK.1 hP 1 0 rfl rfl k (rfl) (by omega) (by decide) dX1_turbineOf_5 ?_
  exact k_endR (ty := .int) hx hb hr hlocks (rfl) (rfl) dX1_turbineOf_6

set_option maxHeartbeats 4000000 in
set_option maxRecDepth 100000 in
theorem c_X1_hoursLeft (l : Launch) (D : va_G) (a : Nat → Nat) (cI cZ : ClassId) (tu : Nat → Int32) (le : Nat → Int32) (cr : Nat → Int32) (to : Nat → Int32) (ia : Nat → Int32) (k : Nat) (hk : k < 3) : kRd l yX1_hoursLeft wsX1_hoursLeft ({ frames := 0, cells := 0, slots := 0, locals := 0 }) [.ref (a 11), .int (nI k)] D cI cZ (wE a cI cZ tu le cr to ia) (fun r => r = le k) := by
  refine Met.ofW (cc := cX1_hoursLeft) (maxL := 2) (ret := (some .int)) (by decide) rfl ?_
  intro p e s m args below meth c s₁ B hml hv
  obtain ⟨rfl, hP, hK⟩ := hv
  have hx := B.exec
  have hb := B.bytes
  have hr := B.returns
  have hts := atoms_spec (ws := wsX1_hoursLeft) B.pre
  have hown : s.vm.findClass RX1 = some m.cls := findClass_of_methodNamed B.named
  have hlocks := B.notSynchronized
  have hl := lv_entry ([.ref (a 11), .int (nI k)]) (n := 2) (Nat.le_of_ble_eq_true rfl)
  rw [lg_entry_eq]
  generalize (lg_sl ([.ref (a 11), .int (nI k)]) ++ List.replicate (2 - (lg_sl ([.ref (a 11), .int (nI k)])).length) Slot.unset).toArray = ls at hl ⊢
  have hl : lv_has ls 2 [(0, .ref (a 11)), (1, .int (nI k))] := hl
  refine lv_aload_n hx hb dX1_hoursLeft_0 rfl (lv_at hl 0 rfl) ?_
  refine va_get (D := D) (ci := 1) (v := .ref (a 13)) (C := RX1) (T := TX1) (N := 5) hx hb hts (by decide +kernel) hown hK.1 hP 0 rfl rfl 1 (by decide) (hts (.fieldLink RX1 15 "Turbineorchard$Fleet" "left" "[I") (by decide +kernel)) (fun _ h9 => h9) rfl dX1_hoursLeft_1 ?_
  refine lv_iload_n hx hb dX1_hoursLeft_4 rfl (lv_at hl 1 rfl) ?_
  refine k_iald hx hb hK.1 hP 2 0 rfl rfl k (rfl) (by omega) (by decide) dX1_hoursLeft_5 ?_
  exact k_endR (ty := .int) hx hb hr hlocks (rfl) (rfl) dX1_hoursLeft_6

set_option maxHeartbeats 4000000 in
set_option maxRecDepth 100000 in
theorem c_X1_workedToday (l : Launch) (D : va_G) (a : Nat → Nat) (cI cZ : ClassId) (tu : Nat → Int32) (le : Nat → Int32) (cr : Nat → Int32) (to : Nat → Int32) (ia : Nat → Int32) (k : Nat) (hk : k < 3) : kRd l yX1_workedToday wsX1_workedToday ({ frames := 0, cells := 0, slots := 0, locals := 0 }) [.ref (a 11), .int (nI k)] D cI cZ (wE a cI cZ tu le cr to ia) (fun r => r = to k) := by
  refine Met.ofW (cc := cX1_workedToday) (maxL := 2) (ret := (some .int)) (by decide) rfl ?_
  intro p e s m args below meth c s₁ B hml hv
  obtain ⟨rfl, hP, hK⟩ := hv
  have hx := B.exec
  have hb := B.bytes
  have hr := B.returns
  have hts := atoms_spec (ws := wsX1_workedToday) B.pre
  have hown : s.vm.findClass RX1 = some m.cls := findClass_of_methodNamed B.named
  have hlocks := B.notSynchronized
  have hl := lv_entry ([.ref (a 11), .int (nI k)]) (n := 2) (Nat.le_of_ble_eq_true rfl)
  rw [lg_entry_eq]
  generalize (lg_sl ([.ref (a 11), .int (nI k)]) ++ List.replicate (2 - (lg_sl ([.ref (a 11), .int (nI k)])).length) Slot.unset).toArray = ls at hl ⊢
  have hl : lv_has ls 2 [(0, .ref (a 11)), (1, .int (nI k))] := hl
  refine lv_aload_n hx hb dX1_workedToday_0 rfl (lv_at hl 0 rfl) ?_
  refine va_get (D := D) (ci := 1) (v := .ref (a 15)) (C := RX1) (T := TX1) (N := 5) hx hb hts (by decide +kernel) hown hK.1 hP 0 rfl rfl 3 (by decide) (hts (.fieldLink RX1 21 "Turbineorchard$Fleet" "today" "[I") (by decide +kernel)) (fun _ h9 => h9) rfl dX1_workedToday_1 ?_
  refine lv_iload_n hx hb dX1_workedToday_4 rfl (lv_at hl 1 rfl) ?_
  refine k_iald hx hb hK.1 hP 4 0 rfl rfl k (rfl) (by omega) (by decide) dX1_workedToday_5 ?_
  exact k_endR (ty := .int) hx hb hr hlocks (rfl) (rfl) dX1_workedToday_6

set_option maxHeartbeats 4000000 in
set_option maxRecDepth 100000 in
theorem c_X1_workedInAll (l : Launch) (D : va_G) (a : Nat → Nat) (cI cZ : ClassId) (tu : Nat → Int32) (le : Nat → Int32) (cr : Nat → Int32) (to : Nat → Int32) (ia : Nat → Int32) (k : Nat) (hk : k < 3) : kRd l yX1_workedInAll wsX1_workedInAll ({ frames := 0, cells := 0, slots := 0, locals := 0 }) [.ref (a 11), .int (nI k)] D cI cZ (wE a cI cZ tu le cr to ia) (fun r => r = ia k) := by
  refine Met.ofW (cc := cX1_workedInAll) (maxL := 2) (ret := (some .int)) (by decide) rfl ?_
  intro p e s m args below meth c s₁ B hml hv
  obtain ⟨rfl, hP, hK⟩ := hv
  have hx := B.exec
  have hb := B.bytes
  have hr := B.returns
  have hts := atoms_spec (ws := wsX1_workedInAll) B.pre
  have hown : s.vm.findClass RX1 = some m.cls := findClass_of_methodNamed B.named
  have hlocks := B.notSynchronized
  have hl := lv_entry ([.ref (a 11), .int (nI k)]) (n := 2) (Nat.le_of_ble_eq_true rfl)
  rw [lg_entry_eq]
  generalize (lg_sl ([.ref (a 11), .int (nI k)]) ++ List.replicate (2 - (lg_sl ([.ref (a 11), .int (nI k)])).length) Slot.unset).toArray = ls at hl ⊢
  have hl : lv_has ls 2 [(0, .ref (a 11)), (1, .int (nI k))] := hl
  refine lv_aload_n hx hb dX1_workedInAll_0 rfl (lv_at hl 0 rfl) ?_
  refine va_get (D := D) (ci := 1) (v := .ref (a 16)) (C := RX1) (T := TX1) (N := 5) hx hb hts (by decide +kernel) hown hK.1 hP 0 rfl rfl 4 (by decide) (hts (.fieldLink RX1 24 "Turbineorchard$Fleet" "inAll" "[I") (by decide +kernel)) (fun _ h9 => h9) rfl dX1_workedInAll_1 ?_
  refine lv_iload_n hx hb dX1_workedInAll_4 rfl (lv_at hl 1 rfl) ?_
  refine k_iald hx hb hK.1 hP 5 0 rfl rfl k (rfl) (by omega) (by decide) dX1_workedInAll_5 ?_
  exact k_endR (ty := .int) hx hb hr hlocks (rfl) (rfl) dX1_workedInAll_6

set_option maxHeartbeats 4000000 in
set_option maxRecDepth 100000 in
theorem c_X1_setCrewHours (l : Launch) (D : va_G) (a : Nat → Nat) (cI cZ : ClassId) (sz : Nat) (tu : Nat → Int32) (le : Nat → Int32) (cr : Nat → Int32) (to : Nat → Int32) (ia : Nat → Int32) (k : Nat) (x : Int32) (hk : k < 3) : kUv l yX1_setCrewHours wsX1_setCrewHours ({ frames := 0, cells := 0, slots := 0, locals := 0 }) [.ref (a 11), .int (nI k), .int x] D cI cZ sz (wE a cI cZ tu le cr to ia) (wE a cI cZ tu le (upd cr k x) to ia) := by
  refine Met.ofW (cc := cX1_setCrewHours) (maxL := 3) (ret := none) (by decide) rfl ?_
  intro p e s m args below meth c s₁ B hml hv
  obtain ⟨rfl, hsz, hP, hK, hD0⟩ := hv
  have hx := B.exec
  have hb := B.bytes
  have hr := B.returns
  have hts := atoms_spec (ws := wsX1_setCrewHours) B.pre
  have hown : s.vm.findClass RX1 = some m.cls := findClass_of_methodNamed B.named
  have hlocks := B.notSynchronized
  subst hsz
  have hD := hD0.self (sz := s.heap.size)
  generalize hAe : va_A (wE a cI cZ tu le cr to ia) s.heap.size = A at hD ⊢
  have hA : ∀ q : Nat, s.heap.size ≤ q → A q := fun q h => by rw [← hAe]; exact Or.inr h
  have hS : va_S A s.heap s.heap [] := va_S.rf
  have hl := lv_entry ([.ref (a 11), .int (nI k), .int x]) (n := 3) (Nat.le_of_ble_eq_true rfl)
  rw [lg_entry_eq]
  generalize (lg_sl ([.ref (a 11), .int (nI k), .int x]) ++ List.replicate (3 - (lg_sl ([.ref (a 11), .int (nI k), .int x])).length) Slot.unset).toArray = ls at hl ⊢
  have hl : lv_has ls 3 [(0, .ref (a 11)), (1, .int (nI k)), (2, .int x)] := hl
  refine lv_aload_n hx hb dX1_setCrewHours_0 rfl (lv_at hl 0 rfl) ?_
  refine va_get (D := D) (ci := 1) (v := .ref (a 14)) (C := RX1) (T := TX1) (N := 5) hx hb hts (by decide +kernel) hown hK.1 hP 0 rfl rfl 2 (by decide) (hts (.fieldLink RX1 18 "Turbineorchard$Fleet" "crewLimits" "[I") (by decide +kernel)) (fun _ h9 => h9) rfl dX1_setCrewHours_1 ?_
  refine lv_iload_n hx hb dX1_setCrewHours_4 rfl (lv_at hl 1 rfl) ?_
  refine lv_iload_n hx hb dX1_setCrewHours_5 rfl (lv_at hl 2 rfl) ?_
  refine k_iast hx hb hK.1 hP hD hS 3 0 rfl rfl k (rfl) (by omega) (by decide) dX1_setCrewHours_6 (fun H locs hP hD hS => ?_)
  have hP : va_P D vwCl (wE a cI cZ tu le (upd cr k x) to ia) H := hP
  have hD : va_D A (wE a cI cZ tu le (upd cr k x) to ia) := hD
  exact k_endV (sz := 0) hx hb hr hlocks hP hD hS dX1_setCrewHours_7

set_option maxHeartbeats 4000000 in
set_option maxRecDepth 100000 in
theorem c_X1_isFree (l : Launch) (D : va_G) (a : Nat → Nat) (cI cZ : ClassId) (tu : Nat → Int32) (le : Nat → Int32) (cr : Nat → Int32) (to : Nat → Int32) (ia : Nat → Int32) (k : Nat) (hk : k < 3) : kRd l yX1_isFree wsX1_isFree ({ frames := 0, cells := 0, slots := 0, locals := 0 }) [.ref (a 11), .int (nI k)] D cI cZ (wE a cI cZ tu le cr to ia) (fun r => r = bI (tu k = -1)) := by
  refine Met.ofW (cc := cX1_isFree) (maxL := 2) (ret := (some .boolean)) (by decide) rfl ?_
  intro p e s m args below meth c s₁ B hml hv
  obtain ⟨rfl, hP, hK⟩ := hv
  have hx := B.exec
  have hb := B.bytes
  have hr := B.returns
  have hts := atoms_spec (ws := wsX1_isFree) B.pre
  have hown : s.vm.findClass RX1 = some m.cls := findClass_of_methodNamed B.named
  have hlocks := B.notSynchronized
  have hl := lv_entry ([.ref (a 11), .int (nI k)]) (n := 2) (Nat.le_of_ble_eq_true rfl)
  rw [lg_entry_eq]
  generalize (lg_sl ([.ref (a 11), .int (nI k)]) ++ List.replicate (2 - (lg_sl ([.ref (a 11), .int (nI k)])).length) Slot.unset).toArray = ls at hl ⊢
  have hl : lv_has ls 2 [(0, .ref (a 11)), (1, .int (nI k))] := hl
  refine lv_aload_n hx hb dX1_isFree_0 rfl (lv_at hl 0 rfl) ?_
  refine va_get (D := D) (ci := 1) (v := .ref (a 12)) (C := RX1) (T := TX1) (N := 5) hx hb hts (by decide +kernel) hown hK.1 hP 0 rfl rfl 0 (by decide) (hts (.fieldLink RX1 9 "Turbineorchard$Fleet" "turbines" "[I") (by decide +kernel)) (fun _ h9 => h9) rfl dX1_isFree_1 ?_
  refine lv_iload_n hx hb dX1_isFree_4 rfl (lv_at hl 1 rfl) ?_
  refine k_iald hx hb hK.1 hP 1 0 rfl rfl k (rfl) (by omega) (by decide) dX1_isFree_5 ?_
  refine lv_iconst (v := (-1)) hx hb dX1_isFree_6 (by decide) ?_
  refine lv_icmp_ne (tgt := 14) hx hb dX1_isFree_7 (by decide) (fun c_7 => ?_) (fun c_7 => ?_)
  · refine lv_iconst (v := 0) hx hb dX1_isFree_14 (by decide) ?_
    exact k_endR (ty := .boolean) hx hb hr hlocks (rfl) ((bI_f c_7).symm) dX1_isFree_15
  · refine lv_iconst (v := 1) hx hb dX1_isFree_10 (by decide) ?_
    refine lv_goto (tgt := 15) hx hb dX1_isFree_11 (by decide) ?_
    exact k_endR (ty := .boolean) hx hb hr hlocks (rfl) ((bI_t c_7).symm) dX1_isFree_15

set_option maxHeartbeats 4000000 in
set_option maxRecDepth 100000 in
theorem c_X1_send (l : Launch) (D : va_G) (a : Nat → Nat) (cI cZ : ClassId) (sz : Nat) (tu : Nat → Int32) (le : Nat → Int32) (cr : Nat → Int32) (to : Nat → Int32) (ia : Nat → Int32) (k : Nat) (x : Int32) (y : Int32) (hk : k < 3) : kUv l yX1_send wsX1_send ({ frames := 0, cells := 0, slots := 0, locals := 0 }) [.ref (a 11), .int (nI k), .int x, .int y] D cI cZ sz (wE a cI cZ tu le cr to ia) (wE a cI cZ (upd tu k x) (upd le k y) cr to ia) := by
  refine Met.ofW (cc := cX1_send) (maxL := 4) (ret := none) (by decide) rfl ?_
  intro p e s m args below meth c s₁ B hml hv
  obtain ⟨rfl, hsz, hP, hK, hD0⟩ := hv
  have hx := B.exec
  have hb := B.bytes
  have hr := B.returns
  have hts := atoms_spec (ws := wsX1_send) B.pre
  have hown : s.vm.findClass RX1 = some m.cls := findClass_of_methodNamed B.named
  have hlocks := B.notSynchronized
  subst hsz
  have hD := hD0.self (sz := s.heap.size)
  generalize hAe : va_A (wE a cI cZ tu le cr to ia) s.heap.size = A at hD ⊢
  have hA : ∀ q : Nat, s.heap.size ≤ q → A q := fun q h => by rw [← hAe]; exact Or.inr h
  have hS : va_S A s.heap s.heap [] := va_S.rf
  have hl := lv_entry ([.ref (a 11), .int (nI k), .int x, .int y]) (n := 4) (Nat.le_of_ble_eq_true rfl)
  rw [lg_entry_eq]
  generalize (lg_sl ([.ref (a 11), .int (nI k), .int x, .int y]) ++ List.replicate (4 - (lg_sl ([.ref (a 11), .int (nI k), .int x, .int y])).length) Slot.unset).toArray = ls at hl ⊢
  have hl : lv_has ls 4 [(0, .ref (a 11)), (1, .int (nI k)), (2, .int x), (3, .int y)] := hl
  refine lv_aload_n hx hb dX1_send_0 rfl (lv_at hl 0 rfl) ?_
  refine va_get (D := D) (ci := 1) (v := .ref (a 12)) (C := RX1) (T := TX1) (N := 5) hx hb hts (by decide +kernel) hown hK.1 hP 0 rfl rfl 0 (by decide) (hts (.fieldLink RX1 9 "Turbineorchard$Fleet" "turbines" "[I") (by decide +kernel)) (fun _ h9 => h9) rfl dX1_send_1 ?_
  refine lv_iload_n hx hb dX1_send_4 rfl (lv_at hl 1 rfl) ?_
  refine lv_iload_n hx hb dX1_send_5 rfl (lv_at hl 2 rfl) ?_
  refine k_iast hx hb hK.1 hP hD hS 1 0 rfl rfl k (rfl) (by omega) (by decide) dX1_send_6 (fun H locs hP hD hS => ?_)
  have hP : va_P D vwCl (wE a cI cZ (upd tu k x) le cr to ia) H := hP
  have hD : va_D A (wE a cI cZ (upd tu k x) le cr to ia) := hD
  refine lv_aload_n hx hb dX1_send_7 rfl (lv_at hl 0 rfl) ?_
  refine va_get (D := D) (ci := 1) (v := .ref (a 13)) (C := RX1) (T := TX1) (N := 5) hx hb hts (by decide +kernel) hown hK.1 hP 0 rfl rfl 1 (by decide) (hts (.fieldLink RX1 15 "Turbineorchard$Fleet" "left" "[I") (by decide +kernel)) (fun _ h9 => h9) rfl dX1_send_8 ?_
  refine lv_iload_n hx hb dX1_send_11 rfl (lv_at hl 1 rfl) ?_
  refine lv_iload_n hx hb dX1_send_12 rfl (lv_at hl 3 rfl) ?_
  refine k_iast hx hb hK.1 hP hD hS 2 0 rfl rfl k (rfl) (by omega) (by decide) dX1_send_13 (fun H locs hP hD hS => ?_)
  have hP : va_P D vwCl (wE a cI cZ (upd tu k x) (upd le k y) cr to ia) H := hP
  have hD : va_D A (wE a cI cZ (upd tu k x) (upd le k y) cr to ia) := hD
  exact k_endV (sz := 0) hx hb hr hlocks hP hD hS dX1_send_14

set_option maxHeartbeats 4000000 in
set_option maxRecDepth 100000 in
theorem c_X1_isAtWorkOn (l : Launch) (D : va_G) (a : Nat → Nat) (cI cZ : ClassId) (tu : Nat → Int32) (le : Nat → Int32) (cr : Nat → Int32) (to : Nat → Int32) (ia : Nat → Int32) (x : Int32) : kRd l yX1_isAtWorkOn wsX1_isAtWorkOn ({ frames := 0, cells := 0, slots := 0, locals := 0 }) [.ref (a 11), .int x] D cI cZ (wE a cI cZ tu le cr to ia) (fun r => r = bI (tu 0 = x ∨ tu 1 = x ∨ tu 2 = x)) := by
  refine Met.ofW (cc := cX1_isAtWorkOn) (maxL := 3) (ret := (some .boolean)) (by decide) rfl ?_
  intro p e s m args below meth c s₁ B hml hv
  obtain ⟨rfl, hP, hK⟩ := hv
  have hx := B.exec
  have hb := B.bytes
  have hr := B.returns
  have hts := atoms_spec (ws := wsX1_isAtWorkOn) B.pre
  have hown : s.vm.findClass RX1 = some m.cls := findClass_of_methodNamed B.named
  have hlocks := B.notSynchronized
  have hl := lv_entry ([.ref (a 11), .int x]) (n := 3) (Nat.le_of_ble_eq_true rfl)
  rw [lg_entry_eq]
  generalize (lg_sl ([.ref (a 11), .int x]) ++ List.replicate (3 - (lg_sl ([.ref (a 11), .int x])).length) Slot.unset).toArray = ls at hl ⊢
  have hl : lv_has ls 3 [(0, .ref (a 11)), (1, .int x)] := hl
  refine lv_iconst (v := 0) hx hb dX1_isAtWorkOn_0 (by decide) ?_
  refine lv_istore_n (lv' := [(2, .int 0), (0, .ref (a 11)), (1, .int x)]) hx hb dX1_isAtWorkOn_1 rfl hl (by decide) rfl (fun ls hl => ?_)
  have loop_2 : ∀ (nn : Nat) (k : Nat), 3 - k < nn → (k ≤ 3) → (∀ j, j < k → ¬ tu j = x) → ∀ (ls : Array Slot), lv_has ls 3 [(0, .ref (a 11)), (1, .int x), (2, .int (nI k))] → W p l e (headSpec wsX1_isAtWorkOn ({ frames := 0, cells := 0, slots := 0, locals := 0 })).room s m ([.ref (a 11), .int x] : List Value).toArray below meth c s.heap [] 0 0 (MQ below (vp_Si (fun r => r = bI (tu 0 = x ∨ tu 1 = x ∨ tu 2 = x))) ([.ref (a 11), .int x] : List Value).toArray s 0 0 (fun _ => False)) (F0 m 2 ls []) := by
    intro nn
    induction nn with
    | zero => intro k hm; exact absurd hm (by omega)
    | succ nn ih_2 =>
      intro k hm hk hi  ls hl
      refine lv_iload_n hx hb dX1_isAtWorkOn_2 rfl (lv_at hl 2 rfl) ?_
      refine lv_iconst (v := 3) hx hb dX1_isAtWorkOn_3 (by decide) ?_
      refine lv_icmp_ge (tgt := 25) hx hb dX1_isAtWorkOn_4 (by decide) (fun c_4 => ?_) (fun c_4 => ?_)
      · have e8 : k = 3 := by have := (nI_leI (a := 3) (b := k) (by omega) (by omega)).mp c_4; omega
        subst e8
        refine lv_iconst (v := 0) hx hb dX1_isAtWorkOn_25 (by decide) ?_
        exact k_endR (ty := .boolean) hx hb hr hlocks (rfl) ((bI_f (fun h => h.elim (hi 0 (by omega)) (fun h => h.elim (hi 1 (by omega)) (hi 2 (by omega))))).symm) dX1_isAtWorkOn_26
      · have c_4 : k < 3 := Nat.lt_of_not_le (fun h => c_4 ((nI_leI (a := 3) (b := k) (by omega) (by omega)).mpr h))
        refine lv_aload_n hx hb dX1_isAtWorkOn_7 rfl (lv_at hl 0 rfl) ?_
        refine va_get (D := D) (ci := 1) (v := .ref (a 12)) (C := RX1) (T := TX1) (N := 5) hx hb hts (by decide +kernel) hown hK.1 hP 0 rfl rfl 0 (by decide) (hts (.fieldLink RX1 9 "Turbineorchard$Fleet" "turbines" "[I") (by decide +kernel)) (fun _ h9 => h9) rfl dX1_isAtWorkOn_8 ?_
        refine lv_iload_n hx hb dX1_isAtWorkOn_11 rfl (lv_at hl 2 rfl) ?_
        refine k_iald hx hb hK.1 hP 1 0 rfl rfl k (rfl) (by omega) (by decide) dX1_isAtWorkOn_12 ?_
        refine lv_iload_n hx hb dX1_isAtWorkOn_13 rfl (lv_at hl 1 rfl) ?_
        refine lv_icmp_ne (tgt := 19) hx hb dX1_isAtWorkOn_14 (by decide) (fun c_14 => ?_) (fun c_14 => ?_)
        · refine lv_iinc (v := nI (k + 1)) (lv' := [(2, .int (nI (k + 1))), (0, .ref (a 11)), (1, .int x)]) hx hb dX1_isAtWorkOn_19 hl (k := 2) rfl (nI_1 _) (by decide) rfl (fun ls hl => ?_)
          refine lv_goto (tgt := 2) hx hb dX1_isAtWorkOn_22 (by decide) ?_
          exact ih_2 (k + 1) (by omega) (by omega) (fun j hj => (Nat.lt_succ_iff_lt_or_eq.mp hj).elim (hi j) (fun h => by rw [h]; exact c_14)) _ (lv_sub hl [1, 2, 0] rfl)
        · refine lv_iconst (v := 1) hx hb dX1_isAtWorkOn_17 (by decide) ?_
          exact k_endR (ty := .boolean) hx hb hr hlocks (rfl) (by refine (bI_t ?_).symm; rcases (show k = 0 ∨ k = 1 ∨ k = 2 by omega) with h | h | h <;> subst h <;> simp [c_14]) dX1_isAtWorkOn_18
  exact loop_2 (3 - 0 + 1) 0 (by omega) (by omega) (fun j hj => absurd hj (by omega)) _ (lv_sub hl [1, 2, 0] rfl)

set_option maxHeartbeats 4000000 in
set_option maxRecDepth 100000 in
theorem c_X1_canWork (l : Launch) (D : va_G) (a : Nat → Nat) (cI cZ : ClassId) (tu : Nat → Int32) (le : Nat → Int32) (cr : Nat → Int32) (to : Nat → Int32) (ia : Nat → Int32) (k : Nat) (hk : k < 3) : kRd l yX1_canWork wsX1_canWork ({ frames := 1, cells := 0, slots := 0, locals := 21 }) [.ref (a 11), .int (nI k)] D cI cZ (wE a cI cZ tu le cr to ia) (fun r => r = bI (¬ tu k = -1 ∧ to k < cr k)) := by
  refine Met.ofW (cc := cX1_canWork) (maxL := 2) (ret := (some .boolean)) (by decide) rfl ?_
  intro p e s m args below meth c s₁ B hml hv
  obtain ⟨rfl, hP, hK⟩ := hv
  have hx := B.exec
  have hb := B.bytes
  have hr := B.returns
  have hts := atoms_spec (ws := wsX1_canWork) B.pre
  have hown : s.vm.findClass RX1 = some m.cls := findClass_of_methodNamed B.named
  have hlocks := B.notSynchronized
  have hl := lv_entry ([.ref (a 11), .int (nI k)]) (n := 2) (Nat.le_of_ble_eq_true rfl)
  rw [lg_entry_eq]
  generalize (lg_sl ([.ref (a 11), .int (nI k)]) ++ List.replicate (2 - (lg_sl ([.ref (a 11), .int (nI k)])).length) Slot.unset).toArray = ls at hl ⊢
  have hl : lv_has ls 2 [(0, .ref (a 11)), (1, .int (nI k))] := hl
  refine lv_aload_n hx hb dX1_canWork_0 rfl (lv_at hl 0 rfl) ?_
  refine lv_iload_n hx hb dX1_canWork_1 rfl (lv_at hl 1 rfl) ?_
  refine k_rd (As := [.int (nI k)]) (rest := []) (nL := 2) ⟨hx, hb, hml, hown, hts⟩ hK hP (c_X1_isFree l D a cI cZ tu le cr to ia k (by omega)) [0, 1, 2, 3, 4, 5] rfl 0 rfl rfl rfl (cwV 1 hts gX1_canWork_X1_isFree rfl rfl rfl (by decide +kernel) ⟨Nat.le_of_ble_eq_true rfl, Nat.le_of_ble_eq_true rfl⟩) rfl hl.1 rfl (Nat.le_of_ble_eq_true rfl) dX1_canWork_2 ⟨Nat.zero_le _, Nat.zero_le _⟩ (fun r9 hr9 => ?_)
  subst hr9
  refine lv_if_ne (tgt := 27) hx hb dX1_canWork_5 (by decide) (fun c_5 => ?_) (fun c_5 => ?_)
  · have c_5 := bI_n c_5
    refine lv_iconst (v := 0) hx hb dX1_canWork_27 (by decide) ?_
    exact k_endR (ty := .boolean) hx hb hr hlocks (rfl) ((bI_f (fun h => h.1 c_5)).symm) dX1_canWork_28
  · have c_5 := bI_0 c_5
    refine lv_aload_n hx hb dX1_canWork_8 rfl (lv_at hl 0 rfl) ?_
    refine va_get (D := D) (ci := 1) (v := .ref (a 15)) (C := RX1) (T := TX1) (N := 5) hx hb hts (by decide +kernel) hown hK.1 hP 0 rfl rfl 3 (by decide) (hts (.fieldLink RX1 21 "Turbineorchard$Fleet" "today" "[I") (by decide +kernel)) (fun _ h9 => h9) rfl dX1_canWork_9 ?_
    refine lv_iload_n hx hb dX1_canWork_12 rfl (lv_at hl 1 rfl) ?_
    refine k_iald hx hb hK.1 hP 4 0 rfl rfl k (rfl) (by omega) (by decide) dX1_canWork_13 ?_
    refine lv_aload_n hx hb dX1_canWork_14 rfl (lv_at hl 0 rfl) ?_
    refine va_get (D := D) (ci := 1) (v := .ref (a 14)) (C := RX1) (T := TX1) (N := 5) hx hb hts (by decide +kernel) hown hK.1 hP 0 rfl rfl 2 (by decide) (hts (.fieldLink RX1 18 "Turbineorchard$Fleet" "crewLimits" "[I") (by decide +kernel)) (fun _ h9 => h9) rfl dX1_canWork_15 ?_
    refine lv_iload_n hx hb dX1_canWork_18 rfl (lv_at hl 1 rfl) ?_
    refine k_iald hx hb hK.1 hP 3 0 rfl rfl k (rfl) (by omega) (by decide) dX1_canWork_19 ?_
    refine lv_icmp_ge (tgt := 27) hx hb dX1_canWork_20 (by decide) (fun c_20 => ?_) (fun c_20 => ?_)
    · refine lv_iconst (v := 0) hx hb dX1_canWork_27 (by decide) ?_
      exact k_endR (ty := .boolean) hx hb hr hlocks (rfl) ((bI_f (fun h => absurd h.2 (Int32.not_lt.mpr c_20))).symm) dX1_canWork_28
    · refine lv_iconst (v := 1) hx hb dX1_canWork_23 (by decide) ?_
      refine lv_goto (tgt := 28) hx hb dX1_canWork_24 (by decide) ?_
      exact k_endR (ty := .boolean) hx hb hr hlocks (rfl) ((bI_t ⟨c_5, Int32.not_le.mp c_20⟩).symm) dX1_canWork_28

set_option maxHeartbeats 4000000 in
set_option maxRecDepth 100000 in
theorem c_X1_workAnHour (l : Launch) (D : va_G) (a : Nat → Nat) (cI cZ : ClassId) (sz : Nat) (tu : Nat → Int32) (le : Nat → Int32) (cr : Nat → Int32) (to : Nat → Int32) (ia : Nat → Int32) (k : Nat) (hk : k < 3) : kUv l yX1_workAnHour wsX1_workAnHour ({ frames := 0, cells := 0, slots := 0, locals := 0 }) [.ref (a 11), .int (nI k)] D cI cZ sz (wE a cI cZ tu le cr to ia) (wE a cI cZ tu (upd le k (le k - 1)) cr (upd to k (to k + 1)) (upd ia k (ia k + 1))) := by
  refine Met.ofW (cc := cX1_workAnHour) (maxL := 2) (ret := none) (by decide) rfl ?_
  intro p e s m args below meth c s₁ B hml hv
  obtain ⟨rfl, hsz, hP, hK, hD0⟩ := hv
  have hx := B.exec
  have hb := B.bytes
  have hr := B.returns
  have hts := atoms_spec (ws := wsX1_workAnHour) B.pre
  have hown : s.vm.findClass RX1 = some m.cls := findClass_of_methodNamed B.named
  have hlocks := B.notSynchronized
  subst hsz
  have hD := hD0.self (sz := s.heap.size)
  generalize hAe : va_A (wE a cI cZ tu le cr to ia) s.heap.size = A at hD ⊢
  have hA : ∀ q : Nat, s.heap.size ≤ q → A q := fun q h => by rw [← hAe]; exact Or.inr h
  have hS : va_S A s.heap s.heap [] := va_S.rf
  have hl := lv_entry ([.ref (a 11), .int (nI k)]) (n := 2) (Nat.le_of_ble_eq_true rfl)
  rw [lg_entry_eq]
  generalize (lg_sl ([.ref (a 11), .int (nI k)]) ++ List.replicate (2 - (lg_sl ([.ref (a 11), .int (nI k)])).length) Slot.unset).toArray = ls at hl ⊢
  have hl : lv_has ls 2 [(0, .ref (a 11)), (1, .int (nI k))] := hl
  refine lv_aload_n hx hb dX1_workAnHour_0 rfl (lv_at hl 0 rfl) ?_
  refine va_get (D := D) (ci := 1) (v := .ref (a 13)) (C := RX1) (T := TX1) (N := 5) hx hb hts (by decide +kernel) hown hK.1 hP 0 rfl rfl 1 (by decide) (hts (.fieldLink RX1 15 "Turbineorchard$Fleet" "left" "[I") (by decide +kernel)) (fun _ h9 => h9) rfl dX1_workAnHour_1 ?_
  refine lv_iload_n hx hb dX1_workAnHour_4 rfl (lv_at hl 1 rfl) ?_
  refine lv_dup2_11 hx hb dX1_workAnHour_5 rfl rfl ?_
  refine k_iald hx hb hK.1 hP 2 0 rfl rfl k (rfl) (by omega) (by decide) dX1_workAnHour_6 ?_
  refine lv_iconst (v := 1) hx hb dX1_workAnHour_7 (by decide) ?_
  refine lv_isub hx hb dX1_workAnHour_8 ?_
  refine k_iast hx hb hK.1 hP hD hS 2 0 rfl rfl k (rfl) (by omega) (by decide) dX1_workAnHour_9 (fun H locs hP hD hS => ?_)
  have hP : va_P D vwCl (wE a cI cZ tu (upd le k ((le k) - 1)) cr to ia) H := hP
  have hD : va_D A (wE a cI cZ tu (upd le k ((le k) - 1)) cr to ia) := hD
  refine lv_aload_n hx hb dX1_workAnHour_10 rfl (lv_at hl 0 rfl) ?_
  refine va_get (D := D) (ci := 1) (v := .ref (a 15)) (C := RX1) (T := TX1) (N := 5) hx hb hts (by decide +kernel) hown hK.1 hP 0 rfl rfl 3 (by decide) (hts (.fieldLink RX1 21 "Turbineorchard$Fleet" "today" "[I") (by decide +kernel)) (fun _ h9 => h9) rfl dX1_workAnHour_11 ?_
  refine lv_iload_n hx hb dX1_workAnHour_14 rfl (lv_at hl 1 rfl) ?_
  refine lv_dup2_11 hx hb dX1_workAnHour_15 rfl rfl ?_
  refine k_iald hx hb hK.1 hP 4 0 rfl rfl k (rfl) (by omega) (by decide) dX1_workAnHour_16 ?_
  refine lv_iconst (v := 1) hx hb dX1_workAnHour_17 (by decide) ?_
  refine lv_iadd hx hb dX1_workAnHour_18 ?_
  refine k_iast hx hb hK.1 hP hD hS 4 0 rfl rfl k (rfl) (by omega) (by decide) dX1_workAnHour_19 (fun H locs hP hD hS => ?_)
  have hP : va_P D vwCl (wE a cI cZ tu (upd le k ((le k) - 1)) cr (upd to k ((to k) + 1)) ia) H := hP
  have hD : va_D A (wE a cI cZ tu (upd le k ((le k) - 1)) cr (upd to k ((to k) + 1)) ia) := hD
  refine lv_aload_n hx hb dX1_workAnHour_20 rfl (lv_at hl 0 rfl) ?_
  refine va_get (D := D) (ci := 1) (v := .ref (a 16)) (C := RX1) (T := TX1) (N := 5) hx hb hts (by decide +kernel) hown hK.1 hP 0 rfl rfl 4 (by decide) (hts (.fieldLink RX1 24 "Turbineorchard$Fleet" "inAll" "[I") (by decide +kernel)) (fun _ h9 => h9) rfl dX1_workAnHour_21 ?_
  refine lv_iload_n hx hb dX1_workAnHour_24 rfl (lv_at hl 1 rfl) ?_
  refine lv_dup2_11 hx hb dX1_workAnHour_25 rfl rfl ?_
  refine k_iald hx hb hK.1 hP 5 0 rfl rfl k (rfl) (by omega) (by decide) dX1_workAnHour_26 ?_
  refine lv_iconst (v := 1) hx hb dX1_workAnHour_27 (by decide) ?_
  refine lv_iadd hx hb dX1_workAnHour_28 ?_
  refine k_iast hx hb hK.1 hP hD hS 5 0 rfl rfl k (rfl) (by omega) (by decide) dX1_workAnHour_29 (fun H locs hP hD hS => ?_)
  have hP : va_P D vwCl (wE a cI cZ tu (upd le k ((le k) - 1)) cr (upd to k ((to k) + 1)) (upd ia k ((ia k) + 1))) H := hP
  have hD : va_D A (wE a cI cZ tu (upd le k ((le k) - 1)) cr (upd to k ((to k) + 1)) (upd ia k ((ia k) + 1))) := hD
  exact k_endV (sz := 0) hx hb hr hlocks hP hD hS dX1_workAnHour_30

set_option maxHeartbeats 4000000 in
set_option maxRecDepth 100000 in
theorem c_X1_hasEnded (l : Launch) (D : va_G) (a : Nat → Nat) (cI cZ : ClassId) (tu : Nat → Int32) (le : Nat → Int32) (cr : Nat → Int32) (to : Nat → Int32) (ia : Nat → Int32) (k : Nat) (hk : k < 3) : kRd l yX1_hasEnded wsX1_hasEnded ({ frames := 1, cells := 0, slots := 0, locals := 21 }) [.ref (a 11), .int (nI k)] D cI cZ (wE a cI cZ tu le cr to ia) (fun r => r = bI (¬ tu k = -1 ∧ le k = 0)) := by
  refine Met.ofW (cc := cX1_hasEnded) (maxL := 2) (ret := (some .boolean)) (by decide) rfl ?_
  intro p e s m args below meth c s₁ B hml hv
  obtain ⟨rfl, hP, hK⟩ := hv
  have hx := B.exec
  have hb := B.bytes
  have hr := B.returns
  have hts := atoms_spec (ws := wsX1_hasEnded) B.pre
  have hown : s.vm.findClass RX1 = some m.cls := findClass_of_methodNamed B.named
  have hlocks := B.notSynchronized
  have hl := lv_entry ([.ref (a 11), .int (nI k)]) (n := 2) (Nat.le_of_ble_eq_true rfl)
  rw [lg_entry_eq]
  generalize (lg_sl ([.ref (a 11), .int (nI k)]) ++ List.replicate (2 - (lg_sl ([.ref (a 11), .int (nI k)])).length) Slot.unset).toArray = ls at hl ⊢
  have hl : lv_has ls 2 [(0, .ref (a 11)), (1, .int (nI k))] := hl
  refine lv_aload_n hx hb dX1_hasEnded_0 rfl (lv_at hl 0 rfl) ?_
  refine lv_iload_n hx hb dX1_hasEnded_1 rfl (lv_at hl 1 rfl) ?_
  refine k_rd (As := [.int (nI k)]) (rest := []) (nL := 2) ⟨hx, hb, hml, hown, hts⟩ hK hP (c_X1_isFree l D a cI cZ tu le cr to ia k (by omega)) [0, 1, 2, 3, 4, 5] rfl 0 rfl rfl rfl (cwV 1 hts gX1_hasEnded_X1_isFree rfl rfl rfl (by decide +kernel) ⟨Nat.le_of_ble_eq_true rfl, Nat.le_of_ble_eq_true rfl⟩) rfl hl.1 rfl (Nat.le_of_ble_eq_true rfl) dX1_hasEnded_2 ⟨Nat.zero_le _, Nat.zero_le _⟩ (fun r9 hr9 => ?_)
  subst hr9
  refine lv_if_ne (tgt := 21) hx hb dX1_hasEnded_5 (by decide) (fun c_5 => ?_) (fun c_5 => ?_)
  · have c_5 := bI_n c_5
    refine lv_iconst (v := 0) hx hb dX1_hasEnded_21 (by decide) ?_
    exact k_endR (ty := .boolean) hx hb hr hlocks (rfl) ((bI_f (fun h => h.1 c_5)).symm) dX1_hasEnded_22
  · have c_5 := bI_0 c_5
    refine lv_aload_n hx hb dX1_hasEnded_8 rfl (lv_at hl 0 rfl) ?_
    refine va_get (D := D) (ci := 1) (v := .ref (a 13)) (C := RX1) (T := TX1) (N := 5) hx hb hts (by decide +kernel) hown hK.1 hP 0 rfl rfl 1 (by decide) (hts (.fieldLink RX1 15 "Turbineorchard$Fleet" "left" "[I") (by decide +kernel)) (fun _ h9 => h9) rfl dX1_hasEnded_9 ?_
    refine lv_iload_n hx hb dX1_hasEnded_12 rfl (lv_at hl 1 rfl) ?_
    refine k_iald hx hb hK.1 hP 2 0 rfl rfl k (rfl) (by omega) (by decide) dX1_hasEnded_13 ?_
    refine lv_if_ne (tgt := 21) hx hb dX1_hasEnded_14 (by decide) (fun c_14 => ?_) (fun c_14 => ?_)
    · refine lv_iconst (v := 0) hx hb dX1_hasEnded_21 (by decide) ?_
      exact k_endR (ty := .boolean) hx hb hr hlocks (rfl) ((bI_f (fun h => c_14 h.2)).symm) dX1_hasEnded_22
    · refine lv_iconst (v := 1) hx hb dX1_hasEnded_17 (by decide) ?_
      refine lv_goto (tgt := 22) hx hb dX1_hasEnded_18 (by decide) ?_
      exact k_endR (ty := .boolean) hx hb hr hlocks (rfl) ((bI_t ⟨c_5, c_14⟩).symm) dX1_hasEnded_22

set_option maxHeartbeats 4000000 in
set_option maxRecDepth 100000 in
theorem c_X1_release (l : Launch) (D : va_G) (a : Nat → Nat) (cI cZ : ClassId) (sz : Nat) (tu : Nat → Int32) (le : Nat → Int32) (cr : Nat → Int32) (to : Nat → Int32) (ia : Nat → Int32) (k : Nat) (hk : k < 3) : kUv l yX1_release wsX1_release ({ frames := 0, cells := 0, slots := 0, locals := 0 }) [.ref (a 11), .int (nI k)] D cI cZ sz (wE a cI cZ tu le cr to ia) (wE a cI cZ (upd tu k (-1)) le cr to ia) := by
  refine Met.ofW (cc := cX1_release) (maxL := 2) (ret := none) (by decide) rfl ?_
  intro p e s m args below meth c s₁ B hml hv
  obtain ⟨rfl, hsz, hP, hK, hD0⟩ := hv
  have hx := B.exec
  have hb := B.bytes
  have hr := B.returns
  have hts := atoms_spec (ws := wsX1_release) B.pre
  have hown : s.vm.findClass RX1 = some m.cls := findClass_of_methodNamed B.named
  have hlocks := B.notSynchronized
  subst hsz
  have hD := hD0.self (sz := s.heap.size)
  generalize hAe : va_A (wE a cI cZ tu le cr to ia) s.heap.size = A at hD ⊢
  have hA : ∀ q : Nat, s.heap.size ≤ q → A q := fun q h => by rw [← hAe]; exact Or.inr h
  have hS : va_S A s.heap s.heap [] := va_S.rf
  have hl := lv_entry ([.ref (a 11), .int (nI k)]) (n := 2) (Nat.le_of_ble_eq_true rfl)
  rw [lg_entry_eq]
  generalize (lg_sl ([.ref (a 11), .int (nI k)]) ++ List.replicate (2 - (lg_sl ([.ref (a 11), .int (nI k)])).length) Slot.unset).toArray = ls at hl ⊢
  have hl : lv_has ls 2 [(0, .ref (a 11)), (1, .int (nI k))] := hl
  refine lv_aload_n hx hb dX1_release_0 rfl (lv_at hl 0 rfl) ?_
  refine va_get (D := D) (ci := 1) (v := .ref (a 12)) (C := RX1) (T := TX1) (N := 5) hx hb hts (by decide +kernel) hown hK.1 hP 0 rfl rfl 0 (by decide) (hts (.fieldLink RX1 9 "Turbineorchard$Fleet" "turbines" "[I") (by decide +kernel)) (fun _ h9 => h9) rfl dX1_release_1 ?_
  refine lv_iload_n hx hb dX1_release_4 rfl (lv_at hl 1 rfl) ?_
  refine lv_iconst (v := (-1)) hx hb dX1_release_5 (by decide) ?_
  refine k_iast hx hb hK.1 hP hD hS 1 0 rfl rfl k (rfl) (by omega) (by decide) dX1_release_6 (fun H locs hP hD hS => ?_)
  have hP : va_P D vwCl (wE a cI cZ (upd tu k (-1)) le cr to ia) H := hP
  have hD : va_D A (wE a cI cZ (upd tu k (-1)) le cr to ia) := hD
  exact k_endV (sz := 0) hx hb hr hlocks hP hD hS dX1_release_7

set_option maxHeartbeats 4000000 in
set_option maxRecDepth 100000 in
theorem c_X1_beginDay (l : Launch) (D : va_G) (a : Nat → Nat) (cI cZ : ClassId) (sz : Nat) (tu : Nat → Int32) (le : Nat → Int32) (cr : Nat → Int32) (to : Nat → Int32) (ia : Nat → Int32) : kUv l yX1_beginDay wsX1_beginDay ({ frames := 0, cells := 0, slots := 0, locals := 0 }) [.ref (a 11)] D cI cZ sz (wE a cI cZ tu le cr to ia) (wE a cI cZ tu le cr (setR to 0 3 0) ia) := by
  refine Met.ofW (cc := cX1_beginDay) (maxL := 2) (ret := none) (by decide) rfl ?_
  intro p e s m args below meth c s₁ B hml hv
  obtain ⟨rfl, hsz, hP, hK, hD0⟩ := hv
  have hx := B.exec
  have hb := B.bytes
  have hr := B.returns
  have hts := atoms_spec (ws := wsX1_beginDay) B.pre
  have hown : s.vm.findClass RX1 = some m.cls := findClass_of_methodNamed B.named
  have hlocks := B.notSynchronized
  subst hsz
  have hD := hD0.self (sz := s.heap.size)
  generalize hAe : va_A (wE a cI cZ tu le cr to ia) s.heap.size = A at hD ⊢
  have hA : ∀ q : Nat, s.heap.size ≤ q → A q := fun q h => by rw [← hAe]; exact Or.inr h
  have hS : va_S A s.heap s.heap [] := va_S.rf
  have hl := lv_entry ([.ref (a 11)]) (n := 2) (Nat.le_of_ble_eq_true rfl)
  rw [lg_entry_eq]
  generalize (lg_sl ([.ref (a 11)]) ++ List.replicate (2 - (lg_sl ([.ref (a 11)])).length) Slot.unset).toArray = ls at hl ⊢
  have hl : lv_has ls 2 [(0, .ref (a 11))] := hl
  refine lv_iconst (v := 0) hx hb dX1_beginDay_0 (by decide) ?_
  have e9 : to = (setR to 0 0 0) := (setR_0 to 0 0).symm
  rw [e9] at hP hD
  clear e9
  refine lv_istore_n (lv' := [(1, .int 0), (0, .ref (a 11))]) hx hb dX1_beginDay_1 rfl hl (by decide) rfl (fun ls hl => ?_)
  have loop_2 : ∀ (nn : Nat) (k : Nat), 3 - k < nn → (k ≤ 3) → ∀ (H : Heap) (locs : List Loc), va_P D vwCl (wE a cI cZ tu le cr (setR to 0 k 0) ia) H → va_D A (wE a cI cZ tu le cr (setR to 0 k 0) ia) → va_S A s.heap H locs → ∀ (ls : Array Slot), lv_has ls 2 [(0, .ref (a 11)), (1, .int (nI k))] → W p l e (headSpec wsX1_beginDay ({ frames := 0, cells := 0, slots := 0, locals := 0 })).room s m ([.ref (a 11)] : List Value).toArray below meth c H locs 0 0 (MQ below (va_Qv (fun _ : Unit => True) (fun _ t9 => kAt D A (wE a cI cZ tu le cr (setR to 0 3 0) ia) t9) A) ([.ref (a 11)] : List Value).toArray s 0 0 A) (F0 m 2 ls []) := by
    intro nn
    induction nn with
    | zero => intro k hm; exact absurd hm (by omega)
    | succ nn ih_2 =>
      intro k hm hk H locs hP hD hS ls hl
      refine lv_iload_n hx hb dX1_beginDay_2 rfl (lv_at hl 1 rfl) ?_
      refine lv_iconst (v := 3) hx hb dX1_beginDay_3 (by decide) ?_
      refine lv_icmp_ge (tgt := 20) hx hb dX1_beginDay_4 (by decide) (fun c_4 => ?_) (fun c_4 => ?_)
      · have e8 : k = 3 := by have := (nI_leI (a := 3) (b := k) (by omega) (by omega)).mp c_4; omega
        subst e8
        exact k_endV (sz := 0) hx hb hr hlocks hP hD hS dX1_beginDay_20
      · have c_4 : k < 3 := Nat.lt_of_not_le (fun h => c_4 ((nI_leI (a := 3) (b := k) (by omega) (by omega)).mpr h))
        refine lv_aload_n hx hb dX1_beginDay_7 rfl (lv_at hl 0 rfl) ?_
        refine va_get (D := D) (ci := 1) (v := .ref (a 15)) (C := RX1) (T := TX1) (N := 5) hx hb hts (by decide +kernel) hown hK.1 hP 0 rfl rfl 3 (by decide) (hts (.fieldLink RX1 21 "Turbineorchard$Fleet" "today" "[I") (by decide +kernel)) (fun _ h9 => h9) rfl dX1_beginDay_8 ?_
        refine lv_iload_n hx hb dX1_beginDay_11 rfl (lv_at hl 1 rfl) ?_
        refine lv_iconst (v := 0) hx hb dX1_beginDay_12 (by decide) ?_
        refine k_iast hx hb hK.1 hP hD hS 4 0 rfl rfl k (rfl) (by omega) (by decide) dX1_beginDay_13 (fun H locs hP hD hS => ?_)
        have hP : va_P D vwCl (wE a cI cZ tu le cr (upd (setR to 0 k 0) k 0) ia) H := hP
        have hD : va_D A (wE a cI cZ tu le cr (upd (setR to 0 k 0) k 0) ia) := hD
        have e9 : (upd (setR to 0 k 0) k 0) = (setR to 0 (k + 1) 0) := setR_1 to 0 (Nat.zero_le k)
        rw [e9] at hP hD
        clear e9
        refine lv_iinc (v := nI (k + 1)) (lv' := [(1, .int (nI (k + 1))), (0, .ref (a 11))]) hx hb dX1_beginDay_14 hl (k := 1) rfl (nI_1 _) (by decide) rfl (fun ls hl => ?_)
        refine lv_goto (tgt := 2) hx hb dX1_beginDay_17 (by decide) ?_
        exact ih_2 (k + 1) (by omega) (by omega) _ _ hP hD hS _ (lv_sub hl [1, 0] rfl)
  exact loop_2 (3 - 0 + 1) 0 (by omega) (by omega) _ _ hP hD hS _ (lv_sub hl [1, 0] rfl)
end
section
set_option maxHeartbeats 4000000 in
set_option maxRecDepth 100000 in
theorem c_X2_slotUnits (l : Launch) (D : va_G) (a : Nat → Nat) (cI cZ : ClassId) (sl : Nat → Int32) (pr : Nat → Int32) (mk : Nat → Int32) (pc : Int64) (k : Nat) (hk : k < 480) : kRd l yX2_slotUnits wsX2_slotUnits ({ frames := 0, cells := 0, slots := 0, locals := 0 }) [.ref (a 17), .int (nI k)] D cI cZ (wG a cI cZ sl pr mk pc) (fun r => r = sl k) := by
  refine Met.ofW (cc := cX2_slotUnits) (maxL := 2) (ret := (some .int)) (by decide) rfl ?_
  intro p e s m args below meth c s₁ B hml hv
  obtain ⟨rfl, hP, hK⟩ := hv
  have hx := B.exec
  have hb := B.bytes
  have hr := B.returns
  have hts := atoms_spec (ws := wsX2_slotUnits) B.pre
  have hown : s.vm.findClass RX2 = some m.cls := findClass_of_methodNamed B.named
  have hlocks := B.notSynchronized
  have hl := lv_entry ([.ref (a 17), .int (nI k)]) (n := 2) (Nat.le_of_ble_eq_true rfl)
  rw [lg_entry_eq]
  generalize (lg_sl ([.ref (a 17), .int (nI k)]) ++ List.replicate (2 - (lg_sl ([.ref (a 17), .int (nI k)])).length) Slot.unset).toArray = ls at hl ⊢
  have hl : lv_has ls 2 [(0, .ref (a 17)), (1, .int (nI k))] := hl
  refine lv_aload_n hx hb dX2_slotUnits_0 rfl (lv_at hl 0 rfl) ?_
  refine va_get (D := D) (ci := 2) (v := .ref (a 18)) (C := RX2) (T := TX2) (N := 4) hx hb hts (by decide +kernel) hown hK.1 hP 0 rfl rfl 0 (by decide) (hts (.fieldLink RX2 9 "Turbineorchard$Ledger" "slots" "[I") (by decide +kernel)) (fun _ h9 => h9) rfl dX2_slotUnits_1 ?_
  refine lv_iload_n hx hb dX2_slotUnits_4 rfl (lv_at hl 1 rfl) ?_
  refine k_iald hx hb hK.1 hP 1 0 rfl rfl k (rfl) (by omega) (by decide) dX2_slotUnits_5 ?_
  exact k_endR (ty := .int) hx hb hr hlocks (rfl) (rfl) dX2_slotUnits_6

set_option maxHeartbeats 4000000 in
set_option maxRecDepth 100000 in
theorem c_X2_madeIn (l : Launch) (D : va_G) (a : Nat → Nat) (cI cZ : ClassId) (sl : Nat → Int32) (pr : Nat → Int32) (mk : Nat → Int32) (pc : Int64) (k : Nat) (hk : k < 480) : kRd l yX2_madeIn wsX2_madeIn ({ frames := 0, cells := 0, slots := 0, locals := 0 }) [.ref (a 17), .int (nI k)] D cI cZ (wG a cI cZ sl pr mk pc) (fun r => r = mk k) := by
  refine Met.ofW (cc := cX2_madeIn) (maxL := 2) (ret := (some .int)) (by decide) rfl ?_
  intro p e s m args below meth c s₁ B hml hv
  obtain ⟨rfl, hP, hK⟩ := hv
  have hx := B.exec
  have hb := B.bytes
  have hr := B.returns
  have hts := atoms_spec (ws := wsX2_madeIn) B.pre
  have hown : s.vm.findClass RX2 = some m.cls := findClass_of_methodNamed B.named
  have hlocks := B.notSynchronized
  have hl := lv_entry ([.ref (a 17), .int (nI k)]) (n := 2) (Nat.le_of_ble_eq_true rfl)
  rw [lg_entry_eq]
  generalize (lg_sl ([.ref (a 17), .int (nI k)]) ++ List.replicate (2 - (lg_sl ([.ref (a 17), .int (nI k)])).length) Slot.unset).toArray = ls at hl ⊢
  have hl : lv_has ls 2 [(0, .ref (a 17)), (1, .int (nI k))] := hl
  refine lv_aload_n hx hb dX2_madeIn_0 rfl (lv_at hl 0 rfl) ?_
  refine va_get (D := D) (ci := 2) (v := .ref (a 20)) (C := RX2) (T := TX2) (N := 4) hx hb hts (by decide +kernel) hown hK.1 hP 0 rfl rfl 2 (by decide) (hts (.fieldLink RX2 18 "Turbineorchard$Ledger" "made" "[I") (by decide +kernel)) (fun _ h9 => h9) rfl dX2_madeIn_1 ?_
  refine lv_iload_n hx hb dX2_madeIn_4 rfl (lv_at hl 1 rfl) ?_
  refine k_iald hx hb hK.1 hP 3 0 rfl rfl k (rfl) (by omega) (by decide) dX2_madeIn_5 ?_
  exact k_endR (ty := .int) hx hb hr hlocks (rfl) (rfl) dX2_madeIn_6

set_option maxHeartbeats 4000000 in
set_option maxRecDepth 100000 in
theorem c_X2_setSlot (l : Launch) (D : va_G) (a : Nat → Nat) (cI cZ : ClassId) (sz : Nat) (sl : Nat → Int32) (pr : Nat → Int32) (mk : Nat → Int32) (pc : Int64) (k : Nat) (x : Int32) (y : Int32) (hk : k < 480) : kUv l yX2_setSlot wsX2_setSlot ({ frames := 0, cells := 0, slots := 0, locals := 0 }) [.ref (a 17), .int (nI k), .int x, .int y] D cI cZ sz (wG a cI cZ sl pr mk pc) (wG a cI cZ (upd sl k x) (upd pr k y) mk pc) := by
  refine Met.ofW (cc := cX2_setSlot) (maxL := 4) (ret := none) (by decide) rfl ?_
  intro p e s m args below meth c s₁ B hml hv
  obtain ⟨rfl, hsz, hP, hK, hD0⟩ := hv
  have hx := B.exec
  have hb := B.bytes
  have hr := B.returns
  have hts := atoms_spec (ws := wsX2_setSlot) B.pre
  have hown : s.vm.findClass RX2 = some m.cls := findClass_of_methodNamed B.named
  have hlocks := B.notSynchronized
  subst hsz
  have hD := hD0.self (sz := s.heap.size)
  generalize hAe : va_A (wG a cI cZ sl pr mk pc) s.heap.size = A at hD ⊢
  have hA : ∀ q : Nat, s.heap.size ≤ q → A q := fun q h => by rw [← hAe]; exact Or.inr h
  have hS : va_S A s.heap s.heap [] := va_S.rf
  have hl := lv_entry ([.ref (a 17), .int (nI k), .int x, .int y]) (n := 4) (Nat.le_of_ble_eq_true rfl)
  rw [lg_entry_eq]
  generalize (lg_sl ([.ref (a 17), .int (nI k), .int x, .int y]) ++ List.replicate (4 - (lg_sl ([.ref (a 17), .int (nI k), .int x, .int y])).length) Slot.unset).toArray = ls at hl ⊢
  have hl : lv_has ls 4 [(0, .ref (a 17)), (1, .int (nI k)), (2, .int x), (3, .int y)] := hl
  refine lv_aload_n hx hb dX2_setSlot_0 rfl (lv_at hl 0 rfl) ?_
  refine va_get (D := D) (ci := 2) (v := .ref (a 18)) (C := RX2) (T := TX2) (N := 4) hx hb hts (by decide +kernel) hown hK.1 hP 0 rfl rfl 0 (by decide) (hts (.fieldLink RX2 9 "Turbineorchard$Ledger" "slots" "[I") (by decide +kernel)) (fun _ h9 => h9) rfl dX2_setSlot_1 ?_
  refine lv_iload_n hx hb dX2_setSlot_4 rfl (lv_at hl 1 rfl) ?_
  refine lv_iload_n hx hb dX2_setSlot_5 rfl (lv_at hl 2 rfl) ?_
  refine k_iast hx hb hK.1 hP hD hS 1 0 rfl rfl k (rfl) (by omega) (by decide) dX2_setSlot_6 (fun H locs hP hD hS => ?_)
  have hP : va_P D vwCl (wG a cI cZ (upd sl k x) pr mk pc) H := hP
  have hD : va_D A (wG a cI cZ (upd sl k x) pr mk pc) := hD
  refine lv_aload_n hx hb dX2_setSlot_7 rfl (lv_at hl 0 rfl) ?_
  refine va_get (D := D) (ci := 2) (v := .ref (a 19)) (C := RX2) (T := TX2) (N := 4) hx hb hts (by decide +kernel) hown hK.1 hP 0 rfl rfl 1 (by decide) (hts (.fieldLink RX2 15 "Turbineorchard$Ledger" "prices" "[I") (by decide +kernel)) (fun _ h9 => h9) rfl dX2_setSlot_8 ?_
  refine lv_iload_n hx hb dX2_setSlot_11 rfl (lv_at hl 1 rfl) ?_
  refine lv_iload_n hx hb dX2_setSlot_12 rfl (lv_at hl 3 rfl) ?_
  refine k_iast hx hb hK.1 hP hD hS 2 0 rfl rfl k (rfl) (by omega) (by decide) dX2_setSlot_13 (fun H locs hP hD hS => ?_)
  have hP : va_P D vwCl (wG a cI cZ (upd sl k x) (upd pr k y) mk pc) H := hP
  have hD : va_D A (wG a cI cZ (upd sl k x) (upd pr k y) mk pc) := hD
  exact k_endV (sz := 0) hx hb hr hlocks hP hD hS dX2_setSlot_14

set_option maxHeartbeats 4000000 in
set_option maxRecDepth 100000 in
theorem c_X2_soldFor (l : Launch) (D : va_G) (a : Nat → Nat) (cI cZ : ClassId) (sl : Nat → Int32) (pr : Nat → Int32) (mk : Nat → Int32) (pc : Int64) (k : Nat) (hk : k < 480) : kRd l yX2_soldFor wsX2_soldFor ({ frames := 0, cells := 0, slots := 0, locals := 0 }) [.ref (a 17), .int (nI k)] D cI cZ (wG a cI cZ sl pr mk pc) (fun r => r = fSold sl k) := by
  refine Met.ofW (cc := cX2_soldFor) (maxL := 2) (ret := (some .int)) (by decide) rfl ?_
  intro p e s m args below meth c s₁ B hml hv
  obtain ⟨rfl, hP, hK⟩ := hv
  have hx := B.exec
  have hb := B.bytes
  have hr := B.returns
  have hts := atoms_spec (ws := wsX2_soldFor) B.pre
  have hown : s.vm.findClass RX2 = some m.cls := findClass_of_methodNamed B.named
  have hlocks := B.notSynchronized
  have hl := lv_entry ([.ref (a 17), .int (nI k)]) (n := 2) (Nat.le_of_ble_eq_true rfl)
  rw [lg_entry_eq]
  generalize (lg_sl ([.ref (a 17), .int (nI k)]) ++ List.replicate (2 - (lg_sl ([.ref (a 17), .int (nI k)])).length) Slot.unset).toArray = ls at hl ⊢
  have hl : lv_has ls 2 [(0, .ref (a 17)), (1, .int (nI k))] := hl
  refine lv_aload_n hx hb dX2_soldFor_0 rfl (lv_at hl 0 rfl) ?_
  refine va_get (D := D) (ci := 2) (v := .ref (a 18)) (C := RX2) (T := TX2) (N := 4) hx hb hts (by decide +kernel) hown hK.1 hP 0 rfl rfl 0 (by decide) (hts (.fieldLink RX2 9 "Turbineorchard$Ledger" "slots" "[I") (by decide +kernel)) (fun _ h9 => h9) rfl dX2_soldFor_1 ?_
  refine lv_iload_n hx hb dX2_soldFor_4 rfl (lv_at hl 1 rfl) ?_
  refine k_iald hx hb hK.1 hP 1 0 rfl rfl k (rfl) (by omega) (by decide) dX2_soldFor_5 ?_
  refine lv_iconst (v := (-1)) hx hb dX2_soldFor_6 (by decide) ?_
  refine lv_icmp_ne (tgt := 14) hx hb dX2_soldFor_7 (by decide) (fun c_7 => ?_) (fun c_7 => ?_)
  · refine lv_aload_n hx hb dX2_soldFor_14 rfl (lv_at hl 0 rfl) ?_
    refine va_get (D := D) (ci := 2) (v := .ref (a 18)) (C := RX2) (T := TX2) (N := 4) hx hb hts (by decide +kernel) hown hK.1 hP 0 rfl rfl 0 (by decide) (hts (.fieldLink RX2 9 "Turbineorchard$Ledger" "slots" "[I") (by decide +kernel)) (fun _ h9 => h9) rfl dX2_soldFor_15 ?_
    refine lv_iload_n hx hb dX2_soldFor_18 rfl (lv_at hl 1 rfl) ?_
    refine k_iald hx hb hK.1 hP 1 0 rfl rfl k (rfl) (by omega) (by decide) dX2_soldFor_19 ?_
    exact k_endR (ty := .int) hx hb hr hlocks (rfl) (by unfold fSold; first | rw [if_pos c_7] | rw [if_neg c_7]) dX2_soldFor_20
  · refine lv_iconst (v := 0) hx hb dX2_soldFor_10 (by decide) ?_
    refine lv_goto (tgt := 20) hx hb dX2_soldFor_11 (by decide) ?_
    exact k_endR (ty := .int) hx hb hr hlocks (rfl) (by unfold fSold; first | rw [if_pos c_7] | rw [if_neg c_7]) dX2_soldFor_20

set_option maxHeartbeats 4000000 in
set_option maxRecDepth 100000 in
theorem c_X2_imbalanceOf (l : Launch) (D : va_G) (a : Nat → Nat) (cI cZ : ClassId) (sl : Nat → Int32) (pr : Nat → Int32) (mk : Nat → Int32) (pc : Int64) (k : Nat) (hk : k < 480) : kRd l yX2_imbalanceOf wsX2_imbalanceOf ({ frames := 1, cells := 0, slots := 0, locals := 21 }) [.ref (a 17), .int (nI k)] D cI cZ (wG a cI cZ sl pr mk pc) (fun r => r = fSold sl k - mk k) := by
  refine Met.ofW (cc := cX2_imbalanceOf) (maxL := 2) (ret := (some .int)) (by decide) rfl ?_
  intro p e s m args below meth c s₁ B hml hv
  obtain ⟨rfl, hP, hK⟩ := hv
  have hx := B.exec
  have hb := B.bytes
  have hr := B.returns
  have hts := atoms_spec (ws := wsX2_imbalanceOf) B.pre
  have hown : s.vm.findClass RX2 = some m.cls := findClass_of_methodNamed B.named
  have hlocks := B.notSynchronized
  have hl := lv_entry ([.ref (a 17), .int (nI k)]) (n := 2) (Nat.le_of_ble_eq_true rfl)
  rw [lg_entry_eq]
  generalize (lg_sl ([.ref (a 17), .int (nI k)]) ++ List.replicate (2 - (lg_sl ([.ref (a 17), .int (nI k)])).length) Slot.unset).toArray = ls at hl ⊢
  have hl : lv_has ls 2 [(0, .ref (a 17)), (1, .int (nI k))] := hl
  refine lv_aload_n hx hb dX2_imbalanceOf_0 rfl (lv_at hl 0 rfl) ?_
  refine lv_iload_n hx hb dX2_imbalanceOf_1 rfl (lv_at hl 1 rfl) ?_
  refine k_rd (As := [.int (nI k)]) (rest := []) (nL := 2) ⟨hx, hb, hml, hown, hts⟩ hK hP (c_X2_soldFor l D a cI cZ sl pr mk pc k (by omega)) [0, 1, 2, 3] rfl 0 rfl rfl rfl (cwV 1 hts gX2_imbalanceOf_X2_soldFor rfl rfl rfl (by decide +kernel) ⟨Nat.le_of_ble_eq_true rfl, Nat.le_of_ble_eq_true rfl⟩) rfl hl.1 rfl (Nat.le_of_ble_eq_true rfl) dX2_imbalanceOf_2 ⟨Nat.zero_le _, Nat.zero_le _⟩ (fun r9 hr9 => ?_)
  subst hr9
  refine lv_aload_n hx hb dX2_imbalanceOf_5 rfl (lv_at hl 0 rfl) ?_
  refine va_get (D := D) (ci := 2) (v := .ref (a 20)) (C := RX2) (T := TX2) (N := 4) hx hb hts (by decide +kernel) hown hK.1 hP 0 rfl rfl 2 (by decide) (hts (.fieldLink RX2 18 "Turbineorchard$Ledger" "made" "[I") (by decide +kernel)) (fun _ h9 => h9) rfl dX2_imbalanceOf_6 ?_
  refine lv_iload_n hx hb dX2_imbalanceOf_9 rfl (lv_at hl 1 rfl) ?_
  refine k_iald hx hb hK.1 hP 3 0 rfl rfl k (rfl) (by omega) (by decide) dX2_imbalanceOf_10 ?_
  refine lv_isub hx hb dX2_imbalanceOf_11 ?_
  exact k_endR (ty := .int) hx hb hr hlocks (rfl) (rfl) dX2_imbalanceOf_12

set_option maxHeartbeats 4000000 in
set_option maxRecDepth 100000 in
theorem c_X2_proceedsOf (l : Launch) (D : va_G) (a : Nat → Nat) (cI cZ : ClassId) (sl : Nat → Int32) (pr : Nat → Int32) (mk : Nat → Int32) (pc : Int64) (k : Nat) (hk : k < 480) : kRd l yX2_proceedsOf wsX2_proceedsOf ({ frames := 2, cells := 0, slots := 0, locals := 42 }) [.ref (a 17), .int (nI k)] D cI cZ (wG a cI cZ sl pr mk pc) (fun r => r = fBring sl pr mk k) := by
  refine Met.ofW (cc := cX2_proceedsOf) (maxL := 5) (ret := (some .int)) (by decide) rfl ?_
  intro p e s m args below meth c s₁ B hml hv
  obtain ⟨rfl, hP, hK⟩ := hv
  have hx := B.exec
  have hb := B.bytes
  have hr := B.returns
  have hts := atoms_spec (ws := wsX2_proceedsOf) B.pre
  have hown : s.vm.findClass RX2 = some m.cls := findClass_of_methodNamed B.named
  have hlocks := B.notSynchronized
  have hl := lv_entry ([.ref (a 17), .int (nI k)]) (n := 5) (Nat.le_of_ble_eq_true rfl)
  rw [lg_entry_eq]
  generalize (lg_sl ([.ref (a 17), .int (nI k)]) ++ List.replicate (5 - (lg_sl ([.ref (a 17), .int (nI k)])).length) Slot.unset).toArray = ls at hl ⊢
  have hl : lv_has ls 5 [(0, .ref (a 17)), (1, .int (nI k))] := hl
  refine lv_aload_n hx hb dX2_proceedsOf_0 rfl (lv_at hl 0 rfl) ?_
  refine va_get (D := D) (ci := 2) (v := .ref (a 19)) (C := RX2) (T := TX2) (N := 4) hx hb hts (by decide +kernel) hown hK.1 hP 0 rfl rfl 1 (by decide) (hts (.fieldLink RX2 15 "Turbineorchard$Ledger" "prices" "[I") (by decide +kernel)) (fun _ h9 => h9) rfl dX2_proceedsOf_1 ?_
  refine lv_iload_n hx hb dX2_proceedsOf_4 rfl (lv_at hl 1 rfl) ?_
  refine k_iald hx hb hK.1 hP 2 0 rfl rfl k (rfl) (by omega) (by decide) dX2_proceedsOf_5 ?_
  refine lv_istore_n (lv' := [(2, .int (pr k)), (0, .ref (a 17)), (1, .int (nI k))]) hx hb dX2_proceedsOf_6 rfl hl (by decide) rfl (fun ls hl => ?_)
  refine lv_aload_n hx hb dX2_proceedsOf_7 rfl (lv_at hl 1 rfl) ?_
  refine lv_iload_n hx hb dX2_proceedsOf_8 rfl (lv_at hl 2 rfl) ?_
  refine k_rd (As := [.int (nI k)]) (rest := []) (nL := 5) ⟨hx, hb, hml, hown, hts⟩ hK hP (c_X2_imbalanceOf l D a cI cZ sl pr mk pc k (by omega)) [0, 1, 2, 3] rfl 0 rfl rfl rfl (cwV 1 hts gX2_proceedsOf_X2_imbalanceOf rfl rfl rfl (by decide +kernel) ⟨Nat.le_of_ble_eq_true rfl, Nat.le_of_ble_eq_true rfl⟩) rfl hl.1 rfl (Nat.le_of_ble_eq_true rfl) dX2_proceedsOf_9 ⟨Nat.zero_le _, Nat.zero_le _⟩ (fun r9 hr9 => ?_)
  subst hr9
  refine lv_istore_n (lv' := [(3, .int (fSold sl k - mk k)), (2, .int (pr k)), (0, .ref (a 17)), (1, .int (nI k))]) hx hb dX2_proceedsOf_12 rfl hl (by decide) rfl (fun ls hl => ?_)
  refine lv_aload_n hx hb dX2_proceedsOf_13 rfl (lv_at hl 2 rfl) ?_
  refine lv_iload_n hx hb dX2_proceedsOf_14 rfl (lv_at hl 3 rfl) ?_
  refine k_rd (As := [.int (nI k)]) (rest := []) (nL := 5) ⟨hx, hb, hml, hown, hts⟩ hK hP (c_X2_soldFor l D a cI cZ sl pr mk pc k (by omega)) [0, 1, 2, 3] rfl 0 rfl rfl rfl (cwV 1 hts gX2_proceedsOf_X2_soldFor rfl rfl rfl (by decide +kernel) ⟨Nat.le_of_ble_eq_true rfl, Nat.le_of_ble_eq_true rfl⟩) rfl hl.1 rfl (Nat.le_of_ble_eq_true rfl) dX2_proceedsOf_15 ⟨Nat.zero_le _, Nat.zero_le _⟩ (fun r9 hr9 => ?_)
  subst hr9
  refine lv_iload_n hx hb dX2_proceedsOf_18 rfl (lv_at hl 1 rfl) ?_
  refine lv_imul hx hb dX2_proceedsOf_19 ?_
  refine lv_istore (lv' := [(4, .int ((fSold sl k) * (pr k))), (3, .int (fSold sl k - mk k)), (2, .int (pr k)), (0, .ref (a 17)), (1, .int (nI k))]) hx hb dX2_proceedsOf_20 hl (by decide) rfl (fun ls hl => ?_)
  refine lv_iload_n hx hb dX2_proceedsOf_22 rfl (lv_at hl 1 rfl) ?_
  refine lv_if_le (tgt := 37) hx hb dX2_proceedsOf_23 (by decide) (fun c_23 => ?_) (fun c_23 => ?_)
  · refine lv_iload hx hb dX2_proceedsOf_37 (lv_at hl 0 rfl) ?_
    refine lv_iload_n hx hb dX2_proceedsOf_39 rfl (lv_at hl 1 rfl) ?_
    refine lv_iload_n hx hb dX2_proceedsOf_40 rfl (lv_at hl 2 rfl) ?_
    refine lv_iconst (v := 2) hx hb dX2_proceedsOf_41 (by decide) ?_
    refine lv_idiv hx hb dX2_proceedsOf_42 (by decide) ?_
    refine lv_imul hx hb dX2_proceedsOf_43 ?_
    refine lv_isub hx hb dX2_proceedsOf_44 ?_
    exact k_endR (ty := .int) hx hb hr hlocks (rfl) (by unfold fBring; first | rw [if_pos (Int32.not_le.mp c_23)] | rw [if_neg (Int32.not_lt.mpr c_23)]) dX2_proceedsOf_45
  · refine lv_iload hx hb dX2_proceedsOf_26 (lv_at hl 0 rfl) ?_
    refine lv_iload_n hx hb dX2_proceedsOf_28 rfl (lv_at hl 1 rfl) ?_
    refine lv_iconst (v := 2) hx hb dX2_proceedsOf_29 (by decide) ?_
    refine lv_imul hx hb dX2_proceedsOf_30 ?_
    refine lv_iload_n hx hb dX2_proceedsOf_31 rfl (lv_at hl 2 rfl) ?_
    refine lv_imul hx hb dX2_proceedsOf_32 ?_
    refine lv_isub hx hb dX2_proceedsOf_33 ?_
    refine lv_goto (tgt := 45) hx hb dX2_proceedsOf_34 (by decide) ?_
    exact k_endR (ty := .int) hx hb hr hlocks (rfl) (by unfold fBring; first | rw [if_pos (Int32.not_le.mp c_23)] | rw [if_neg (Int32.not_lt.mpr c_23)]) dX2_proceedsOf_45

set_option maxHeartbeats 4000000 in
set_option maxRecDepth 100000 in
theorem c_X2_endHour (l : Launch) (D : va_G) (a : Nat → Nat) (cI cZ : ClassId) (sz : Nat) (sl : Nat → Int32) (pr : Nat → Int32) (mk : Nat → Int32) (pc : Int64) (k : Nat) (x : Int32) (hk : k < 480) : kUv l yX2_endHour wsX2_endHour ({ frames := 3, cells := 0, slots := 0, locals := 66 }) [.ref (a 17), .int (nI k), .int x] D cI cZ sz (wG a cI cZ sl pr mk pc) (wG a cI cZ sl pr (upd mk k x) (pc + (fBring sl pr (upd mk k x) k).toInt64)) := by
  refine Met.ofW (cc := cX2_endHour) (maxL := 3) (ret := none) (by decide) rfl ?_
  intro p e s m args below meth c s₁ B hml hv
  obtain ⟨rfl, hsz, hP, hK, hD0⟩ := hv
  have hx := B.exec
  have hb := B.bytes
  have hr := B.returns
  have hts := atoms_spec (ws := wsX2_endHour) B.pre
  have hown : s.vm.findClass RX2 = some m.cls := findClass_of_methodNamed B.named
  have hlocks := B.notSynchronized
  subst hsz
  have hD := hD0.self (sz := s.heap.size)
  generalize hAe : va_A (wG a cI cZ sl pr mk pc) s.heap.size = A at hD ⊢
  have hA : ∀ q : Nat, s.heap.size ≤ q → A q := fun q h => by rw [← hAe]; exact Or.inr h
  have hS : va_S A s.heap s.heap [] := va_S.rf
  have hl := lv_entry ([.ref (a 17), .int (nI k), .int x]) (n := 3) (Nat.le_of_ble_eq_true rfl)
  rw [lg_entry_eq]
  generalize (lg_sl ([.ref (a 17), .int (nI k), .int x]) ++ List.replicate (3 - (lg_sl ([.ref (a 17), .int (nI k), .int x])).length) Slot.unset).toArray = ls at hl ⊢
  have hl : lv_has ls 3 [(0, .ref (a 17)), (1, .int (nI k)), (2, .int x)] := hl
  refine lv_aload_n hx hb dX2_endHour_0 rfl (lv_at hl 0 rfl) ?_
  refine va_get (D := D) (ci := 2) (v := .ref (a 20)) (C := RX2) (T := TX2) (N := 4) hx hb hts (by decide +kernel) hown hK.1 hP 0 rfl rfl 2 (by decide) (hts (.fieldLink RX2 18 "Turbineorchard$Ledger" "made" "[I") (by decide +kernel)) (fun _ h9 => h9) rfl dX2_endHour_1 ?_
  refine lv_iload_n hx hb dX2_endHour_4 rfl (lv_at hl 1 rfl) ?_
  refine lv_iload_n hx hb dX2_endHour_5 rfl (lv_at hl 2 rfl) ?_
  refine k_iast hx hb hK.1 hP hD hS 3 0 rfl rfl k (rfl) (by omega) (by decide) dX2_endHour_6 (fun H locs hP hD hS => ?_)
  have hP : va_P D vwCl (wG a cI cZ sl pr (upd mk k x) pc) H := hP
  have hD : va_D A (wG a cI cZ sl pr (upd mk k x) pc) := hD
  refine lv_aload_n hx hb dX2_endHour_7 rfl (lv_at hl 0 rfl) ?_
  refine lv_dup hx hb dX2_endHour_8 rfl ?_
  refine va_get (D := D) (ci := 2) (v := .long pc) (C := RX2) (T := TX2) (N := 4) hx hb hts (by decide +kernel) hown hK.1 hP 0 rfl rfl 3 (by decide) (hts (.fieldLink RX2 21 "Turbineorchard$Ledger" "proceeds" "J") (by decide +kernel)) (fun _ h9 => h9) rfl dX2_endHour_9 ?_
  refine lv_aload_n hx hb dX2_endHour_12 rfl (lv_at hl 0 rfl) ?_
  refine lv_iload_n hx hb dX2_endHour_13 rfl (lv_at hl 1 rfl) ?_
  refine k_rd (As := [.int (nI k)]) (rest := [.long pc, .ref (a 17)]) (nL := 3) ⟨hx, hb, hml, hown, hts⟩ hK hP (c_X2_proceedsOf l D a cI cZ sl pr (upd mk k x) pc k (by omega)) [0, 1, 2, 3] rfl 0 rfl rfl rfl (cwV 1 hts gX2_endHour_X2_proceedsOf rfl rfl rfl (by decide +kernel) ⟨Nat.le_of_ble_eq_true rfl, Nat.le_of_ble_eq_true rfl⟩) rfl hl.1 rfl (Nat.le_of_ble_eq_true rfl) dX2_endHour_14 ⟨Nat.zero_le _, Nat.zero_le _⟩ (fun r9 hr9 => ?_)
  subst hr9
  refine lv_i2l hx hb dX2_endHour_17 rfl ?_
  refine lv_ladd hx hb dX2_endHour_18 ?_
  refine va_put (D := D) (ci := 2) (v := .long (pc + ((fBring sl pr (upd mk k x) k).toInt64))) (ty := .long) (C := RX2) (T := TX2) (N := 4) hx hb hts (by decide +kernel) tyX2 tyX2_ok nmX2 hown hK.1 hP hD hS 0 rfl rfl 3 (by decide) (hts (.fieldLink RX2 21 "Turbineorchard$Ledger" "proceeds" "J") (by decide +kernel)) (fun _ h9 => h9) rfl (by decide +kernel) rfl rfl (Nat.le_of_ble_eq_true rfl) dX2_endHour_19 (fun H locs hP hD hS => ?_)
  have hP : va_P D vwCl (wG a cI cZ sl pr (upd mk k x) (pc + ((fBring sl pr (upd mk k x) k).toInt64))) H := hP
  have hD : va_D A (wG a cI cZ sl pr (upd mk k x) (pc + ((fBring sl pr (upd mk k x) k).toInt64))) := hD
  exact k_endV (sz := 0) hx hb hr hlocks hP hD hS dX2_endHour_22
end
section
set_option maxHeartbeats 4000000 in
set_option maxRecDepth 100000 in
theorem c_X0_has (l : Launch) (D : va_G) (a : Nat → Nat) (cI cZ : ClassId) (ta : Nat → Int32) (pl : Nat → Int32) (br : Nat → Int32) (st : Nat → Int32) (md : Nat → Int32) (bc : Int32) (n : Nat) (x : Int32) (hn : n ≤ 12) : kRd l yX0_has wsX0_has ({ frames := 1, cells := 0, slots := 0, locals := 22 }) [.ref (a 5), .int x] D cI cZ (wF a cI cZ ta pl br st md (nI n) bc) (fun r => r = bI (hasT n x)) := by
  refine Met.ofW (cc := cX0_has) (maxL := 2) (ret := (some .boolean)) (by decide) rfl ?_
  intro p e s m args below meth c s₁ B hml hv
  obtain ⟨rfl, hP, hK⟩ := hv
  have hx := B.exec
  have hb := B.bytes
  have hr := B.returns
  have hts := atoms_spec (ws := wsX0_has) B.pre
  have hown : s.vm.findClass RX0 = some m.cls := findClass_of_methodNamed B.named
  have hlocks := B.notSynchronized
  have hl := lv_entry ([.ref (a 5), .int x]) (n := 2) (Nat.le_of_ble_eq_true rfl)
  rw [lg_entry_eq]
  generalize (lg_sl ([.ref (a 5), .int x]) ++ List.replicate (2 - (lg_sl ([.ref (a 5), .int x])).length) Slot.unset).toArray = ls at hl ⊢
  have hl : lv_has ls 2 [(0, .ref (a 5)), (1, .int x)] := hl
  refine lv_iload_n hx hb dX0_has_0 rfl (lv_at hl 1 rfl) ?_
  refine lv_iconst (v := 0) hx hb dX0_has_1 (by decide) ?_
  refine lv_aload_n hx hb dX0_has_2 rfl (lv_at hl 0 rfl) ?_
  refine va_get (D := D) (ci := 0) (v := .int (nI n)) (C := RX0) (T := TX0) (N := 7) hx hb hts (by decide +kernel) hown hK.1 hP 0 rfl rfl 5 (by decide) (hts (.fieldLink RX0 28 "Turbineorchard$Field" "count" "I") (by decide +kernel)) (fun _ h9 => h9) rfl dX0_has_3 ?_
  refine lv_iconst (v := 1) hx hb dX0_has_6 (by decide) ?_
  refine lv_isub hx hb dX0_has_7 ?_
  refine k_psN (As := [.int x, .int 0, .int ((nI n) - 1)]) (rest := []) (nL := 2) ⟨hx, hb, hml, hown, hts⟩ (c_X4_isWithin l x 0 ((nI n) - 1)) ⟨va_cnB 3 hts gX0_has_X4_isWithin_n32 rfl rfl rfl hK.2 (hts (.initialized RX4) (by decide +kernel)) (by decide +kernel) ⟨Nat.le_of_ble_eq_true rfl, Nat.le_of_ble_eq_true rfl⟩, hts (.static yX4_isWithin) (by decide +kernel), trivial⟩ rfl hl.1 rfl (Nat.le_of_ble_eq_true rfl) dX0_has_8 ⟨Nat.zero_le _, Nat.zero_le _⟩ (fun r9 hr9 => ?_)
  subst hr9
  exact k_endR (ty := .boolean) hx hb hr hlocks (bI_z) (rfl) dX0_has_11

set_option maxHeartbeats 4000000 in
set_option maxRecDepth 100000 in
theorem c_X0_hasRoomAt (l : Launch) (D : va_G) (a : Nat → Nat) (cI cZ : ClassId) (ta : Nat → Int32) (pl : Nat → Int32) (br : Nat → Int32) (st : Nat → Int32) (md : Nat → Int32) (bc : Int32) (n : Nat) (q : Nat) (hn : n ≤ 12) (hq : q < 24) : kRd l yX0_hasRoomAt wsX0_hasRoomAt ({ frames := 0, cells := 0, slots := 0, locals := 0 }) [.ref (a 5), .int (nI q)] D cI cZ (wF a cI cZ ta pl br st md (nI n) bc) (fun r => r = bI (ta q = -1 ∧ n < 12)) := by
  refine Met.ofW (cc := cX0_hasRoomAt) (maxL := 2) (ret := (some .boolean)) (by decide) rfl ?_
  intro p e s m args below meth c s₁ B hml hv
  obtain ⟨rfl, hP, hK⟩ := hv
  have hx := B.exec
  have hb := B.bytes
  have hr := B.returns
  have hts := atoms_spec (ws := wsX0_hasRoomAt) B.pre
  have hown : s.vm.findClass RX0 = some m.cls := findClass_of_methodNamed B.named
  have hlocks := B.notSynchronized
  have hl := lv_entry ([.ref (a 5), .int (nI q)]) (n := 2) (Nat.le_of_ble_eq_true rfl)
  rw [lg_entry_eq]
  generalize (lg_sl ([.ref (a 5), .int (nI q)]) ++ List.replicate (2 - (lg_sl ([.ref (a 5), .int (nI q)])).length) Slot.unset).toArray = ls at hl ⊢
  have hl : lv_has ls 2 [(0, .ref (a 5)), (1, .int (nI q))] := hl
  refine lv_aload_n hx hb dX0_hasRoomAt_0 rfl (lv_at hl 0 rfl) ?_
  refine va_get (D := D) (ci := 0) (v := .ref (a 6)) (C := RX0) (T := TX0) (N := 7) hx hb hts (by decide +kernel) hown hK.1 hP 0 rfl rfl 0 (by decide) (hts (.fieldLink RX0 9 "Turbineorchard$Field" "turbineAt" "[I") (by decide +kernel)) (fun _ h9 => h9) rfl dX0_hasRoomAt_1 ?_
  refine lv_iload_n hx hb dX0_hasRoomAt_4 rfl (lv_at hl 1 rfl) ?_
  refine k_iald hx hb hK.1 hP 1 0 rfl rfl q (rfl) (by omega) (by decide) dX0_hasRoomAt_5 ?_
  refine lv_iconst (v := (-1)) hx hb dX0_hasRoomAt_6 (by decide) ?_
  refine lv_icmp_ne (tgt := 23) hx hb dX0_hasRoomAt_7 (by decide) (fun c_7 => ?_) (fun c_7 => ?_)
  · refine lv_iconst (v := 0) hx hb dX0_hasRoomAt_23 (by decide) ?_
    exact k_endR (ty := .boolean) hx hb hr hlocks (rfl) ((bI_f (fun h => c_7 h.1)).symm) dX0_hasRoomAt_24
  · refine lv_aload_n hx hb dX0_hasRoomAt_10 rfl (lv_at hl 0 rfl) ?_
    refine va_get (D := D) (ci := 0) (v := .int (nI n)) (C := RX0) (T := TX0) (N := 7) hx hb hts (by decide +kernel) hown hK.1 hP 0 rfl rfl 5 (by decide) (hts (.fieldLink RX0 28 "Turbineorchard$Field" "count" "I") (by decide +kernel)) (fun _ h9 => h9) rfl dX0_hasRoomAt_11 ?_
    refine lv_bipush (v := 12) hx hb dX0_hasRoomAt_14 (by decide) ?_
    refine lv_icmp_ge (tgt := 23) hx hb dX0_hasRoomAt_16 (by decide) (fun c_16 => ?_) (fun c_16 => ?_)
    · have c_16 : 12 ≤ n := (nI_leI (a := 12) (b := n) (by omega) (by omega)).mp c_16
      refine lv_iconst (v := 0) hx hb dX0_hasRoomAt_23 (by decide) ?_
      exact k_endR (ty := .boolean) hx hb hr hlocks (rfl) ((bI_f (fun h => absurd h.2 (Nat.not_lt.mpr c_16))).symm) dX0_hasRoomAt_24
    · have c_16 : n < 12 := Nat.lt_of_not_le (fun h => c_16 ((nI_leI (a := 12) (b := n) (by omega) (by omega)).mpr h))
      refine lv_iconst (v := 1) hx hb dX0_hasRoomAt_19 (by decide) ?_
      refine lv_goto (tgt := 24) hx hb dX0_hasRoomAt_20 (by decide) ?_
      exact k_endR (ty := .boolean) hx hb hr hlocks (rfl) ((bI_t ⟨c_7, c_16⟩).symm) dX0_hasRoomAt_24

set_option maxHeartbeats 4000000 in
set_option maxRecDepth 100000 in
theorem c_X0_build (l : Launch) (D : va_G) (a : Nat → Nat) (cI cZ : ClassId) (sz : Nat) (ta : Nat → Int32) (pl : Nat → Int32) (br : Nat → Int32) (st : Nat → Int32) (md : Nat → Int32) (bc : Int32) (n : Nat) (q : Nat) (hn : n ≤ 12) (hq : q < 24) (hn2 : n < 12) : kUi l yX0_build wsX0_build ({ frames := 0, cells := 0, slots := 0, locals := 0 }) [.ref (a 5), .int (nI q)] D cI cZ sz (wF a cI cZ ta pl br st md (nI n) bc) (wF a cI cZ (upd ta q (nI n)) (upd pl n (nI q)) br st md (nI (n + 1)) bc) (fun r => r = nI n) := by
  refine Met.ofW (cc := cX0_build) (maxL := 3) (ret := (some .int)) (by decide) rfl ?_
  intro p e s m args below meth c s₁ B hml hv
  obtain ⟨rfl, hsz, hP, hK, hD0⟩ := hv
  have hx := B.exec
  have hb := B.bytes
  have hr := B.returns
  have hts := atoms_spec (ws := wsX0_build) B.pre
  have hown : s.vm.findClass RX0 = some m.cls := findClass_of_methodNamed B.named
  have hlocks := B.notSynchronized
  subst hsz
  have hD := hD0.self (sz := s.heap.size)
  generalize hAe : va_A (wF a cI cZ ta pl br st md (nI n) bc) s.heap.size = A at hD ⊢
  have hA : ∀ q : Nat, s.heap.size ≤ q → A q := fun q h => by rw [← hAe]; exact Or.inr h
  have hS : va_S A s.heap s.heap [] := va_S.rf
  have hl := lv_entry ([.ref (a 5), .int (nI q)]) (n := 3) (Nat.le_of_ble_eq_true rfl)
  rw [lg_entry_eq]
  generalize (lg_sl ([.ref (a 5), .int (nI q)]) ++ List.replicate (3 - (lg_sl ([.ref (a 5), .int (nI q)])).length) Slot.unset).toArray = ls at hl ⊢
  have hl : lv_has ls 3 [(0, .ref (a 5)), (1, .int (nI q))] := hl
  refine lv_aload_n hx hb dX0_build_0 rfl (lv_at hl 0 rfl) ?_
  refine va_get (D := D) (ci := 0) (v := .int (nI n)) (C := RX0) (T := TX0) (N := 7) hx hb hts (by decide +kernel) hown hK.1 hP 0 rfl rfl 5 (by decide) (hts (.fieldLink RX0 28 "Turbineorchard$Field" "count" "I") (by decide +kernel)) (fun _ h9 => h9) rfl dX0_build_1 ?_
  refine lv_istore_n (lv' := [(2, .int (nI n)), (0, .ref (a 5)), (1, .int (nI q))]) hx hb dX0_build_4 rfl hl (by decide) rfl (fun ls hl => ?_)
  refine lv_aload_n hx hb dX0_build_5 rfl (lv_at hl 1 rfl) ?_
  refine va_get (D := D) (ci := 0) (v := .ref (a 6)) (C := RX0) (T := TX0) (N := 7) hx hb hts (by decide +kernel) hown hK.1 hP 0 rfl rfl 0 (by decide) (hts (.fieldLink RX0 9 "Turbineorchard$Field" "turbineAt" "[I") (by decide +kernel)) (fun _ h9 => h9) rfl dX0_build_6 ?_
  refine lv_iload_n hx hb dX0_build_9 rfl (lv_at hl 2 rfl) ?_
  refine lv_iload_n hx hb dX0_build_10 rfl (lv_at hl 0 rfl) ?_
  refine k_iast hx hb hK.1 hP hD hS 1 0 rfl rfl q (rfl) (by omega) (by decide) dX0_build_11 (fun H locs hP hD hS => ?_)
  have hP : va_P D vwCl (wF a cI cZ (upd ta q (nI n)) pl br st md (nI n) bc) H := hP
  have hD : va_D A (wF a cI cZ (upd ta q (nI n)) pl br st md (nI n) bc) := hD
  refine lv_aload_n hx hb dX0_build_12 rfl (lv_at hl 1 rfl) ?_
  refine va_get (D := D) (ci := 0) (v := .ref (a 7)) (C := RX0) (T := TX0) (N := 7) hx hb hts (by decide +kernel) hown hK.1 hP 0 rfl rfl 1 (by decide) (hts (.fieldLink RX0 15 "Turbineorchard$Field" "places" "[I") (by decide +kernel)) (fun _ h9 => h9) rfl dX0_build_13 ?_
  refine lv_iload_n hx hb dX0_build_16 rfl (lv_at hl 0 rfl) ?_
  refine lv_iload_n hx hb dX0_build_17 rfl (lv_at hl 2 rfl) ?_
  refine k_iast hx hb hK.1 hP hD hS 2 0 rfl rfl n (rfl) (by omega) (by decide) dX0_build_18 (fun H locs hP hD hS => ?_)
  have hP : va_P D vwCl (wF a cI cZ (upd ta q (nI n)) (upd pl n (nI q)) br st md (nI n) bc) H := hP
  have hD : va_D A (wF a cI cZ (upd ta q (nI n)) (upd pl n (nI q)) br st md (nI n) bc) := hD
  refine lv_aload_n hx hb dX0_build_19 rfl (lv_at hl 1 rfl) ?_
  refine lv_dup hx hb dX0_build_20 rfl ?_
  refine va_get (D := D) (ci := 0) (v := .int (nI n)) (C := RX0) (T := TX0) (N := 7) hx hb hts (by decide +kernel) hown hK.1 hP 0 rfl rfl 5 (by decide) (hts (.fieldLink RX0 28 "Turbineorchard$Field" "count" "I") (by decide +kernel)) (fun _ h9 => h9) rfl dX0_build_21 ?_
  refine lv_iconst (v := 1) hx hb dX0_build_24 (by decide) ?_
  refine lv_iadd hx hb dX0_build_25 ?_
  refine k_rw (y := nI (n + 1)) (nI_1 n) ?_
  refine va_put (D := D) (ci := 0) (v := .int (nI (n + 1))) (ty := .int) (C := RX0) (T := TX0) (N := 7) hx hb hts (by decide +kernel) tyX0 tyX0_ok nmX0 hown hK.1 hP hD hS 0 rfl rfl 5 (by decide) (hts (.fieldLink RX0 28 "Turbineorchard$Field" "count" "I") (by decide +kernel)) (fun _ h9 => h9) rfl (by decide +kernel) rfl rfl (Nat.le_of_ble_eq_true rfl) dX0_build_26 (fun H locs hP hD hS => ?_)
  have hP : va_P D vwCl (wF a cI cZ (upd ta q (nI n)) (upd pl n (nI q)) br st md (nI (n + 1)) bc) H := hP
  have hD : va_D A (wF a cI cZ (upd ta q (nI n)) (upd pl n (nI q)) br st md (nI (n + 1)) bc) := hD
  refine lv_iload_n hx hb dX0_build_29 rfl (lv_at hl 0 rfl) ?_
  exact k_endI (ty := .int) hx hb hr hlocks (rfl) (rfl) hP hD hS dX0_build_30

set_option maxHeartbeats 4000000 in
set_option maxRecDepth 100000 in
theorem c_X0_placeOf (l : Launch) (D : va_G) (a : Nat → Nat) (cI cZ : ClassId) (ta : Nat → Int32) (pl : Nat → Int32) (br : Nat → Int32) (st : Nat → Int32) (md : Nat → Int32) (bc : Int32) (n : Nat) (k : Nat) (hn : n ≤ 12) (hk : k < n) : kRd l yX0_placeOf wsX0_placeOf ({ frames := 0, cells := 0, slots := 0, locals := 0 }) [.ref (a 5), .int (nI k)] D cI cZ (wF a cI cZ ta pl br st md (nI n) bc) (fun r => r = pl k) := by
  refine Met.ofW (cc := cX0_placeOf) (maxL := 2) (ret := (some .int)) (by decide) rfl ?_
  intro p e s m args below meth c s₁ B hml hv
  obtain ⟨rfl, hP, hK⟩ := hv
  have hx := B.exec
  have hb := B.bytes
  have hr := B.returns
  have hts := atoms_spec (ws := wsX0_placeOf) B.pre
  have hown : s.vm.findClass RX0 = some m.cls := findClass_of_methodNamed B.named
  have hlocks := B.notSynchronized
  have hl := lv_entry ([.ref (a 5), .int (nI k)]) (n := 2) (Nat.le_of_ble_eq_true rfl)
  rw [lg_entry_eq]
  generalize (lg_sl ([.ref (a 5), .int (nI k)]) ++ List.replicate (2 - (lg_sl ([.ref (a 5), .int (nI k)])).length) Slot.unset).toArray = ls at hl ⊢
  have hl : lv_has ls 2 [(0, .ref (a 5)), (1, .int (nI k))] := hl
  refine lv_aload_n hx hb dX0_placeOf_0 rfl (lv_at hl 0 rfl) ?_
  refine va_get (D := D) (ci := 0) (v := .ref (a 7)) (C := RX0) (T := TX0) (N := 7) hx hb hts (by decide +kernel) hown hK.1 hP 0 rfl rfl 1 (by decide) (hts (.fieldLink RX0 15 "Turbineorchard$Field" "places" "[I") (by decide +kernel)) (fun _ h9 => h9) rfl dX0_placeOf_1 ?_
  refine lv_iload_n hx hb dX0_placeOf_4 rfl (lv_at hl 1 rfl) ?_
  refine k_iald hx hb hK.1 hP 2 0 rfl rfl k (rfl) (by omega) (by decide) dX0_placeOf_5 ?_
  exact k_endR (ty := .int) hx hb hr hlocks (rfl) (rfl) dX0_placeOf_6

set_option maxHeartbeats 4000000 in
set_option maxRecDepth 100000 in
theorem c_X0_isBroken (l : Launch) (D : va_G) (a : Nat → Nat) (cI cZ : ClassId) (ta : Nat → Int32) (pl : Nat → Int32) (br : Nat → Int32) (st : Nat → Int32) (md : Nat → Int32) (bc : Int32) (n : Nat) (k : Nat) (hn : n ≤ 12) (hk : k < n) (hbr : br k = 0 ∨ br k = 1) : kRd l yX0_isBroken wsX0_isBroken ({ frames := 0, cells := 0, slots := 0, locals := 0 }) [.ref (a 5), .int (nI k)] D cI cZ (wF a cI cZ ta pl br st md (nI n) bc) (fun r => r = br k) := by
  refine Met.ofW (cc := cX0_isBroken) (maxL := 2) (ret := (some .boolean)) (by decide) rfl ?_
  intro p e s m args below meth c s₁ B hml hv
  obtain ⟨rfl, hP, hK⟩ := hv
  have hx := B.exec
  have hb := B.bytes
  have hr := B.returns
  have hts := atoms_spec (ws := wsX0_isBroken) B.pre
  have hown : s.vm.findClass RX0 = some m.cls := findClass_of_methodNamed B.named
  have hlocks := B.notSynchronized
  have hl := lv_entry ([.ref (a 5), .int (nI k)]) (n := 2) (Nat.le_of_ble_eq_true rfl)
  rw [lg_entry_eq]
  generalize (lg_sl ([.ref (a 5), .int (nI k)]) ++ List.replicate (2 - (lg_sl ([.ref (a 5), .int (nI k)])).length) Slot.unset).toArray = ls at hl ⊢
  have hl : lv_has ls 2 [(0, .ref (a 5)), (1, .int (nI k))] := hl
  refine lv_aload_n hx hb dX0_isBroken_0 rfl (lv_at hl 0 rfl) ?_
  refine va_get (D := D) (ci := 0) (v := .ref (a 8)) (C := RX0) (T := TX0) (N := 7) hx hb hts (by decide +kernel) hown hK.1 hP 0 rfl rfl 2 (by decide) (hts (.fieldLink RX0 18 "Turbineorchard$Field" "broken" "[Z") (by decide +kernel)) (fun _ h9 => h9) rfl dX0_isBroken_1 ?_
  refine lv_iload_n hx hb dX0_isBroken_4 rfl (lv_at hl 1 rfl) ?_
  refine k_zald hx hb hK.1 hP 3 1 rfl rfl k (rfl) (by omega) (by decide) dX0_isBroken_5 ?_
  exact k_endR (ty := .boolean) hx hb hr hlocks (by rcases hbr with h | h <;> rw [h] <;> rfl) (rfl) dX0_isBroken_6

set_option maxHeartbeats 4000000 in
set_option maxRecDepth 100000 in
theorem c_X0_countBroken (l : Launch) (D : va_G) (a : Nat → Nat) (cI cZ : ClassId) (ta : Nat → Int32) (pl : Nat → Int32) (br : Nat → Int32) (st : Nat → Int32) (md : Nat → Int32) (bc : Int32) (n : Nat) (hn : n ≤ 12) : kRd l yX0_countBroken wsX0_countBroken ({ frames := 0, cells := 0, slots := 0, locals := 0 }) [.ref (a 5)] D cI cZ (wF a cI cZ ta pl br st md (nI n) bc) (fun r => r = bc) := by
  refine Met.ofW (cc := cX0_countBroken) (maxL := 1) (ret := (some .int)) (by decide) rfl ?_
  intro p e s m args below meth c s₁ B hml hv
  obtain ⟨rfl, hP, hK⟩ := hv
  have hx := B.exec
  have hb := B.bytes
  have hr := B.returns
  have hts := atoms_spec (ws := wsX0_countBroken) B.pre
  have hown : s.vm.findClass RX0 = some m.cls := findClass_of_methodNamed B.named
  have hlocks := B.notSynchronized
  have hl := lv_entry ([.ref (a 5)]) (n := 1) (Nat.le_of_ble_eq_true rfl)
  rw [lg_entry_eq]
  generalize (lg_sl ([.ref (a 5)]) ++ List.replicate (1 - (lg_sl ([.ref (a 5)])).length) Slot.unset).toArray = ls at hl ⊢
  have hl : lv_has ls 1 [(0, .ref (a 5))] := hl
  refine lv_aload_n hx hb dX0_countBroken_0 rfl (lv_at hl 0 rfl) ?_
  refine va_get (D := D) (ci := 0) (v := .int bc) (C := RX0) (T := TX0) (N := 7) hx hb hts (by decide +kernel) hown hK.1 hP 0 rfl rfl 6 (by decide) (hts (.fieldLink RX0 36 "Turbineorchard$Field" "brokenCount" "I") (by decide +kernel)) (fun _ h9 => h9) rfl dX0_countBroken_1 ?_
  exact k_endR (ty := .int) hx hb hr hlocks (rfl) (rfl) dX0_countBroken_4

set_option maxHeartbeats 4000000 in
set_option maxRecDepth 100000 in
theorem c_X0_madeInAllBy (l : Launch) (D : va_G) (a : Nat → Nat) (cI cZ : ClassId) (ta : Nat → Int32) (pl : Nat → Int32) (br : Nat → Int32) (st : Nat → Int32) (md : Nat → Int32) (bc : Int32) (n : Nat) (k : Nat) (hn : n ≤ 12) (hk : k < n) : kRd l yX0_madeInAllBy wsX0_madeInAllBy ({ frames := 0, cells := 0, slots := 0, locals := 0 }) [.ref (a 5), .int (nI k)] D cI cZ (wF a cI cZ ta pl br st md (nI n) bc) (fun r => r = md k) := by
  refine Met.ofW (cc := cX0_madeInAllBy) (maxL := 2) (ret := (some .int)) (by decide) rfl ?_
  intro p e s m args below meth c s₁ B hml hv
  obtain ⟨rfl, hP, hK⟩ := hv
  have hx := B.exec
  have hb := B.bytes
  have hr := B.returns
  have hts := atoms_spec (ws := wsX0_madeInAllBy) B.pre
  have hown : s.vm.findClass RX0 = some m.cls := findClass_of_methodNamed B.named
  have hlocks := B.notSynchronized
  have hl := lv_entry ([.ref (a 5), .int (nI k)]) (n := 2) (Nat.le_of_ble_eq_true rfl)
  rw [lg_entry_eq]
  generalize (lg_sl ([.ref (a 5), .int (nI k)]) ++ List.replicate (2 - (lg_sl ([.ref (a 5), .int (nI k)])).length) Slot.unset).toArray = ls at hl ⊢
  have hl : lv_has ls 2 [(0, .ref (a 5)), (1, .int (nI k))] := hl
  refine lv_aload_n hx hb dX0_madeInAllBy_0 rfl (lv_at hl 0 rfl) ?_
  refine va_get (D := D) (ci := 0) (v := .ref (a 10)) (C := RX0) (T := TX0) (N := 7) hx hb hts (by decide +kernel) hown hK.1 hP 0 rfl rfl 4 (by decide) (hts (.fieldLink RX0 25 "Turbineorchard$Field" "madeInAll" "[I") (by decide +kernel)) (fun _ h9 => h9) rfl dX0_madeInAllBy_1 ?_
  refine lv_iload_n hx hb dX0_madeInAllBy_4 rfl (lv_at hl 1 rfl) ?_
  refine k_iald hx hb hK.1 hP 5 0 rfl rfl k (rfl) (by omega) (by decide) dX0_madeInAllBy_5 ?_
  exact k_endR (ty := .int) hx hb hr hlocks (rfl) (rfl) dX0_madeInAllBy_6

set_option maxHeartbeats 4000000 in
set_option maxRecDepth 100000 in
theorem c_X0_breakDown (l : Launch) (D : va_G) (a : Nat → Nat) (cI cZ : ClassId) (sz : Nat) (ta : Nat → Int32) (pl : Nat → Int32) (br : Nat → Int32) (st : Nat → Int32) (md : Nat → Int32) (bc : Int32) (n : Nat) (k : Nat) (hn : n ≤ 12) (hk : k < n) : kUv l yX0_breakDown wsX0_breakDown ({ frames := 0, cells := 0, slots := 0, locals := 0 }) [.ref (a 5), .int (nI k)] D cI cZ sz (wF a cI cZ ta pl br st md (nI n) bc) (wF a cI cZ ta pl (upd br k 1) st md (nI n) (bc + 1)) := by
  refine Met.ofW (cc := cX0_breakDown) (maxL := 2) (ret := none) (by decide) rfl ?_
  intro p e s m args below meth c s₁ B hml hv
  obtain ⟨rfl, hsz, hP, hK, hD0⟩ := hv
  have hx := B.exec
  have hb := B.bytes
  have hr := B.returns
  have hts := atoms_spec (ws := wsX0_breakDown) B.pre
  have hown : s.vm.findClass RX0 = some m.cls := findClass_of_methodNamed B.named
  have hlocks := B.notSynchronized
  subst hsz
  have hD := hD0.self (sz := s.heap.size)
  generalize hAe : va_A (wF a cI cZ ta pl br st md (nI n) bc) s.heap.size = A at hD ⊢
  have hA : ∀ q : Nat, s.heap.size ≤ q → A q := fun q h => by rw [← hAe]; exact Or.inr h
  have hS : va_S A s.heap s.heap [] := va_S.rf
  have hl := lv_entry ([.ref (a 5), .int (nI k)]) (n := 2) (Nat.le_of_ble_eq_true rfl)
  rw [lg_entry_eq]
  generalize (lg_sl ([.ref (a 5), .int (nI k)]) ++ List.replicate (2 - (lg_sl ([.ref (a 5), .int (nI k)])).length) Slot.unset).toArray = ls at hl ⊢
  have hl : lv_has ls 2 [(0, .ref (a 5)), (1, .int (nI k))] := hl
  refine lv_aload_n hx hb dX0_breakDown_0 rfl (lv_at hl 0 rfl) ?_
  refine va_get (D := D) (ci := 0) (v := .ref (a 8)) (C := RX0) (T := TX0) (N := 7) hx hb hts (by decide +kernel) hown hK.1 hP 0 rfl rfl 2 (by decide) (hts (.fieldLink RX0 18 "Turbineorchard$Field" "broken" "[Z") (by decide +kernel)) (fun _ h9 => h9) rfl dX0_breakDown_1 ?_
  refine lv_iload_n hx hb dX0_breakDown_4 rfl (lv_at hl 1 rfl) ?_
  refine lv_iconst (v := 1) hx hb dX0_breakDown_5 (by decide) ?_
  refine k_zast hx hb hK.1 hP hD hS 3 1 rfl rfl (rfl) k (rfl) (by omega) (by decide) dX0_breakDown_6 (fun H locs hP hD hS => ?_)
  have hP : va_P D vwCl (wF a cI cZ ta pl (upd br k 1) st md (nI n) bc) H := hP
  have hD : va_D A (wF a cI cZ ta pl (upd br k 1) st md (nI n) bc) := hD
  refine lv_aload_n hx hb dX0_breakDown_7 rfl (lv_at hl 0 rfl) ?_
  refine lv_dup hx hb dX0_breakDown_8 rfl ?_
  refine va_get (D := D) (ci := 0) (v := .int bc) (C := RX0) (T := TX0) (N := 7) hx hb hts (by decide +kernel) hown hK.1 hP 0 rfl rfl 6 (by decide) (hts (.fieldLink RX0 36 "Turbineorchard$Field" "brokenCount" "I") (by decide +kernel)) (fun _ h9 => h9) rfl dX0_breakDown_9 ?_
  refine lv_iconst (v := 1) hx hb dX0_breakDown_12 (by decide) ?_
  refine lv_iadd hx hb dX0_breakDown_13 ?_
  refine va_put (D := D) (ci := 0) (v := .int (bc + 1)) (ty := .int) (C := RX0) (T := TX0) (N := 7) hx hb hts (by decide +kernel) tyX0 tyX0_ok nmX0 hown hK.1 hP hD hS 0 rfl rfl 6 (by decide) (hts (.fieldLink RX0 36 "Turbineorchard$Field" "brokenCount" "I") (by decide +kernel)) (fun _ h9 => h9) rfl (by decide +kernel) rfl rfl (Nat.le_of_ble_eq_true rfl) dX0_breakDown_14 (fun H locs hP hD hS => ?_)
  have hP : va_P D vwCl (wF a cI cZ ta pl (upd br k 1) st md (nI n) (bc + 1)) H := hP
  have hD : va_D A (wF a cI cZ ta pl (upd br k 1) st md (nI n) (bc + 1)) := hD
  exact k_endV (sz := 0) hx hb hr hlocks hP hD hS dX0_breakDown_17

set_option maxHeartbeats 4000000 in
set_option maxRecDepth 100000 in
theorem c_X0_mend (l : Launch) (D : va_G) (a : Nat → Nat) (cI cZ : ClassId) (sz : Nat) (ta : Nat → Int32) (pl : Nat → Int32) (br : Nat → Int32) (st : Nat → Int32) (md : Nat → Int32) (bc : Int32) (n : Nat) (k : Nat) (hn : n ≤ 12) (hk : k < n) : kUv l yX0_mend wsX0_mend ({ frames := 0, cells := 0, slots := 0, locals := 0 }) [.ref (a 5), .int (nI k)] D cI cZ sz (wF a cI cZ ta pl br st md (nI n) bc) (wF a cI cZ ta pl (upd br k 0) st md (nI n) (bc - 1)) := by
  refine Met.ofW (cc := cX0_mend) (maxL := 2) (ret := none) (by decide) rfl ?_
  intro p e s m args below meth c s₁ B hml hv
  obtain ⟨rfl, hsz, hP, hK, hD0⟩ := hv
  have hx := B.exec
  have hb := B.bytes
  have hr := B.returns
  have hts := atoms_spec (ws := wsX0_mend) B.pre
  have hown : s.vm.findClass RX0 = some m.cls := findClass_of_methodNamed B.named
  have hlocks := B.notSynchronized
  subst hsz
  have hD := hD0.self (sz := s.heap.size)
  generalize hAe : va_A (wF a cI cZ ta pl br st md (nI n) bc) s.heap.size = A at hD ⊢
  have hA : ∀ q : Nat, s.heap.size ≤ q → A q := fun q h => by rw [← hAe]; exact Or.inr h
  have hS : va_S A s.heap s.heap [] := va_S.rf
  have hl := lv_entry ([.ref (a 5), .int (nI k)]) (n := 2) (Nat.le_of_ble_eq_true rfl)
  rw [lg_entry_eq]
  generalize (lg_sl ([.ref (a 5), .int (nI k)]) ++ List.replicate (2 - (lg_sl ([.ref (a 5), .int (nI k)])).length) Slot.unset).toArray = ls at hl ⊢
  have hl : lv_has ls 2 [(0, .ref (a 5)), (1, .int (nI k))] := hl
  refine lv_aload_n hx hb dX0_mend_0 rfl (lv_at hl 0 rfl) ?_
  refine va_get (D := D) (ci := 0) (v := .ref (a 8)) (C := RX0) (T := TX0) (N := 7) hx hb hts (by decide +kernel) hown hK.1 hP 0 rfl rfl 2 (by decide) (hts (.fieldLink RX0 18 "Turbineorchard$Field" "broken" "[Z") (by decide +kernel)) (fun _ h9 => h9) rfl dX0_mend_1 ?_
  refine lv_iload_n hx hb dX0_mend_4 rfl (lv_at hl 1 rfl) ?_
  refine lv_iconst (v := 0) hx hb dX0_mend_5 (by decide) ?_
  refine k_zast hx hb hK.1 hP hD hS 3 1 rfl rfl (rfl) k (rfl) (by omega) (by decide) dX0_mend_6 (fun H locs hP hD hS => ?_)
  have hP : va_P D vwCl (wF a cI cZ ta pl (upd br k 0) st md (nI n) bc) H := hP
  have hD : va_D A (wF a cI cZ ta pl (upd br k 0) st md (nI n) bc) := hD
  refine lv_aload_n hx hb dX0_mend_7 rfl (lv_at hl 0 rfl) ?_
  refine lv_dup hx hb dX0_mend_8 rfl ?_
  refine va_get (D := D) (ci := 0) (v := .int bc) (C := RX0) (T := TX0) (N := 7) hx hb hts (by decide +kernel) hown hK.1 hP 0 rfl rfl 6 (by decide) (hts (.fieldLink RX0 36 "Turbineorchard$Field" "brokenCount" "I") (by decide +kernel)) (fun _ h9 => h9) rfl dX0_mend_9 ?_
  refine lv_iconst (v := 1) hx hb dX0_mend_12 (by decide) ?_
  refine lv_isub hx hb dX0_mend_13 ?_
  refine va_put (D := D) (ci := 0) (v := .int (bc - 1)) (ty := .int) (C := RX0) (T := TX0) (N := 7) hx hb hts (by decide +kernel) tyX0 tyX0_ok nmX0 hown hK.1 hP hD hS 0 rfl rfl 6 (by decide) (hts (.fieldLink RX0 36 "Turbineorchard$Field" "brokenCount" "I") (by decide +kernel)) (fun _ h9 => h9) rfl (by decide +kernel) rfl rfl (Nat.le_of_ble_eq_true rfl) dX0_mend_14 (fun H locs hP hD hS => ?_)
  have hP : va_P D vwCl (wF a cI cZ ta pl (upd br k 0) st md (nI n) (bc - 1)) H := hP
  have hD : va_D A (wF a cI cZ ta pl (upd br k 0) st md (nI n) (bc - 1)) := hD
  exact k_endV (sz := 0) hx hb hr hlocks hP hD hS dX0_mend_17

set_option maxHeartbeats 4000000 in
set_option maxRecDepth 100000 in
theorem c_X0_turns (l : Launch) (D : va_G) (a : Nat → Nat) (cI cZ : ClassId) (ta : Nat → Int32) (pl : Nat → Int32) (br : Nat → Int32) (st : Nat → Int32) (md : Nat → Int32) (bc : Int32) (n : Nat) (k : Nat) (hn : n ≤ 12) (hk : k < n) : kRd l yX0_turns wsX0_turns ({ frames := 0, cells := 0, slots := 0, locals := 0 }) [.ref (a 5), .int (nI k)] D cI cZ (wF a cI cZ ta pl br st md (nI n) bc) (fun r => r = bI (br k = 0 ∧ st k = 0)) := by
  refine Met.ofW (cc := cX0_turns) (maxL := 2) (ret := (some .boolean)) (by decide) rfl ?_
  intro p e s m args below meth c s₁ B hml hv
  obtain ⟨rfl, hP, hK⟩ := hv
  have hx := B.exec
  have hb := B.bytes
  have hr := B.returns
  have hts := atoms_spec (ws := wsX0_turns) B.pre
  have hown : s.vm.findClass RX0 = some m.cls := findClass_of_methodNamed B.named
  have hlocks := B.notSynchronized
  have hl := lv_entry ([.ref (a 5), .int (nI k)]) (n := 2) (Nat.le_of_ble_eq_true rfl)
  rw [lg_entry_eq]
  generalize (lg_sl ([.ref (a 5), .int (nI k)]) ++ List.replicate (2 - (lg_sl ([.ref (a 5), .int (nI k)])).length) Slot.unset).toArray = ls at hl ⊢
  have hl : lv_has ls 2 [(0, .ref (a 5)), (1, .int (nI k))] := hl
  refine lv_aload_n hx hb dX0_turns_0 rfl (lv_at hl 0 rfl) ?_
  refine va_get (D := D) (ci := 0) (v := .ref (a 8)) (C := RX0) (T := TX0) (N := 7) hx hb hts (by decide +kernel) hown hK.1 hP 0 rfl rfl 2 (by decide) (hts (.fieldLink RX0 18 "Turbineorchard$Field" "broken" "[Z") (by decide +kernel)) (fun _ h9 => h9) rfl dX0_turns_1 ?_
  refine lv_iload_n hx hb dX0_turns_4 rfl (lv_at hl 1 rfl) ?_
  refine k_zald hx hb hK.1 hP 3 1 rfl rfl k (rfl) (by omega) (by decide) dX0_turns_5 ?_
  refine lv_if_ne (tgt := 22) hx hb dX0_turns_6 (by decide) (fun c_6 => ?_) (fun c_6 => ?_)
  · refine lv_iconst (v := 0) hx hb dX0_turns_22 (by decide) ?_
    exact k_endR (ty := .boolean) hx hb hr hlocks (rfl) ((bI_f (fun h => c_6 h.1)).symm) dX0_turns_23
  · refine lv_aload_n hx hb dX0_turns_9 rfl (lv_at hl 0 rfl) ?_
    refine va_get (D := D) (ci := 0) (v := .ref (a 9)) (C := RX0) (T := TX0) (N := 7) hx hb hts (by decide +kernel) hown hK.1 hP 0 rfl rfl 3 (by decide) (hts (.fieldLink RX0 22 "Turbineorchard$Field" "stilled" "[Z") (by decide +kernel)) (fun _ h9 => h9) rfl dX0_turns_10 ?_
    refine lv_iload_n hx hb dX0_turns_13 rfl (lv_at hl 1 rfl) ?_
    refine k_zald hx hb hK.1 hP 4 1 rfl rfl k (rfl) (by omega) (by decide) dX0_turns_14 ?_
    refine lv_if_ne (tgt := 22) hx hb dX0_turns_15 (by decide) (fun c_15 => ?_) (fun c_15 => ?_)
    · refine lv_iconst (v := 0) hx hb dX0_turns_22 (by decide) ?_
      exact k_endR (ty := .boolean) hx hb hr hlocks (rfl) ((bI_f (fun h => c_15 h.2)).symm) dX0_turns_23
    · refine lv_iconst (v := 1) hx hb dX0_turns_18 (by decide) ?_
      refine lv_goto (tgt := 23) hx hb dX0_turns_19 (by decide) ?_
      exact k_endR (ty := .boolean) hx hb hr hlocks (rfl) ((bI_t ⟨c_6, c_15⟩).symm) dX0_turns_23

set_option maxHeartbeats 4000000 in
set_option maxRecDepth 100000 in
theorem c_X0_stillAt (l : Launch) (D : va_G) (a : Nat → Nat) (cI cZ : ClassId) (sz : Nat) (ta : Nat → Int32) (pl : Nat → Int32) (br : Nat → Int32) (st : Nat → Int32) (md : Nat → Int32) (bc : Int32) (n : Nat) (q : Nat) (hn : n ≤ 12) (hq : q < 24) : kUv l yX0_stillAt wsX0_stillAt ({ frames := 2, cells := 0, slots := 0, locals := 43 }) [.ref (a 5), .int (nI q)] D cI cZ sz (wF a cI cZ ta pl br st md (nI n) bc) (wF a cI cZ ta pl br (fStillAt n ta st q) md (nI n) bc) := by
  refine Met.ofW (cc := cX0_stillAt) (maxL := 3) (ret := none) (by decide) rfl ?_
  intro p e s m args below meth c s₁ B hml hv
  obtain ⟨rfl, hsz, hP, hK, hD0⟩ := hv
  have hx := B.exec
  have hb := B.bytes
  have hr := B.returns
  have hts := atoms_spec (ws := wsX0_stillAt) B.pre
  have hown : s.vm.findClass RX0 = some m.cls := findClass_of_methodNamed B.named
  have hlocks := B.notSynchronized
  subst hsz
  have hD := hD0.self (sz := s.heap.size)
  generalize hAe : va_A (wF a cI cZ ta pl br st md (nI n) bc) s.heap.size = A at hD ⊢
  have hA : ∀ q : Nat, s.heap.size ≤ q → A q := fun q h => by rw [← hAe]; exact Or.inr h
  have hS : va_S A s.heap s.heap [] := va_S.rf
  have hl := lv_entry ([.ref (a 5), .int (nI q)]) (n := 3) (Nat.le_of_ble_eq_true rfl)
  rw [lg_entry_eq]
  generalize (lg_sl ([.ref (a 5), .int (nI q)]) ++ List.replicate (3 - (lg_sl ([.ref (a 5), .int (nI q)])).length) Slot.unset).toArray = ls at hl ⊢
  have hl : lv_has ls 3 [(0, .ref (a 5)), (1, .int (nI q))] := hl
  refine lv_aload_n hx hb dX0_stillAt_0 rfl (lv_at hl 0 rfl) ?_
  refine va_get (D := D) (ci := 0) (v := .ref (a 6)) (C := RX0) (T := TX0) (N := 7) hx hb hts (by decide +kernel) hown hK.1 hP 0 rfl rfl 0 (by decide) (hts (.fieldLink RX0 9 "Turbineorchard$Field" "turbineAt" "[I") (by decide +kernel)) (fun _ h9 => h9) rfl dX0_stillAt_1 ?_
  refine lv_iload_n hx hb dX0_stillAt_4 rfl (lv_at hl 1 rfl) ?_
  refine k_iald hx hb hK.1 hP 1 0 rfl rfl q (rfl) (by omega) (by decide) dX0_stillAt_5 ?_
  refine lv_istore_n (lv' := [(2, .int (ta q)), (0, .ref (a 5)), (1, .int (nI q))]) hx hb dX0_stillAt_6 rfl hl (by decide) rfl (fun ls hl => ?_)
  refine lv_aload_n hx hb dX0_stillAt_7 rfl (lv_at hl 1 rfl) ?_
  refine lv_iload_n hx hb dX0_stillAt_8 rfl (lv_at hl 0 rfl) ?_
  refine k_rd (As := [.int (ta q)]) (rest := []) (nL := 3) ⟨hx, hb, hml, hown, hts⟩ hK hP (c_X0_has l D a cI cZ ta pl br st md bc n (ta q) (hn)) [0, 1, 2, 3, 4, 5] rfl 0 rfl rfl rfl (cwV 1 hts gX0_stillAt_X0_has rfl rfl rfl (by decide +kernel) ⟨Nat.le_of_ble_eq_true rfl, Nat.le_of_ble_eq_true rfl⟩) rfl hl.1 rfl (Nat.le_of_ble_eq_true rfl) dX0_stillAt_9 ⟨Nat.zero_le _, Nat.zero_le _⟩ (fun r9 hr9 => ?_)
  subst hr9
  refine lv_if_eq (tgt := 22) hx hb dX0_stillAt_12 (by decide) (fun c_12 => ?_) (fun c_12 => ?_)
  · have c_12 := bI_0 c_12
    have e9 : st = (fStillAt n ta st q) := by unfold fStillAt; rw [if_neg c_12]
    rw [e9] at hP hD
    clear e9
    exact k_endV (sz := 0) hx hb hr hlocks hP hD hS dX0_stillAt_22
  · have c_12 := bI_n c_12
    have c9 := hasT_P hn c_12
    refine lv_aload_n hx hb dX0_stillAt_15 rfl (lv_at hl 1 rfl) ?_
    refine va_get (D := D) (ci := 0) (v := .ref (a 9)) (C := RX0) (T := TX0) (N := 7) hx hb hts (by decide +kernel) hown hK.1 hP 0 rfl rfl 3 (by decide) (hts (.fieldLink RX0 22 "Turbineorchard$Field" "stilled" "[Z") (by decide +kernel)) (fun _ h9 => h9) rfl dX0_stillAt_16 ?_
    refine lv_iload_n hx hb dX0_stillAt_19 rfl (lv_at hl 0 rfl) ?_
    refine lv_iconst (v := 1) hx hb dX0_stillAt_20 (by decide) ?_
    refine k_zast hx hb hK.1 hP hD hS 4 1 rfl rfl (rfl) (fP ta q) (c9.2) (by omega) (by decide) dX0_stillAt_21 (fun H locs hP hD hS => ?_)
    have hP : va_P D vwCl (wF a cI cZ ta pl br (upd st (fP ta q) 1) md (nI n) bc) H := hP
    have hD : va_D A (wF a cI cZ ta pl br (upd st (fP ta q) 1) md (nI n) bc) := hD
    have e9 : (upd st (fP ta q) 1) = (fStillAt n ta st q) := by unfold fStillAt; rw [if_pos c_12]
    rw [e9] at hP hD
    clear e9
    exact k_endV (sz := 0) hx hb hr hlocks hP hD hS dX0_stillAt_22

set_option maxHeartbeats 4000000 in
set_option maxRecDepth 100000 in
theorem c_X0_stillBeside (l : Launch) (D : va_G) (a : Nat → Nat) (cI cZ : ClassId) (sz : Nat) (ta : Nat → Int32) (pl : Nat → Int32) (br : Nat → Int32) (st : Nat → Int32) (md : Nat → Int32) (bc : Int32) (n : Nat) (k : Nat) (hn : n ≤ 12) (hk : k < n) (hpl : ∀ k, k < n → pl k = nI (fP pl k) ∧ fP pl k < 24) : kUv l yX0_stillBeside wsX0_stillBeside ({ frames := 3, cells := 0, slots := 0, locals := 65 }) [.ref (a 5), .int (nI k)] D cI cZ sz (wF a cI cZ ta pl br st md (nI n) bc) (wF a cI cZ ta pl br (fB4 n ta st (fP pl k)) md (nI n) bc) := by
  refine Met.ofW (cc := cX0_stillBeside) (maxL := 4) (ret := none) (by decide) rfl ?_
  intro p e s m args below meth c s₁ B hml hv
  obtain ⟨rfl, hsz, hP, hK, hD0⟩ := hv
  have hx := B.exec
  have hb := B.bytes
  have hr := B.returns
  have hts := atoms_spec (ws := wsX0_stillBeside) B.pre
  have hown : s.vm.findClass RX0 = some m.cls := findClass_of_methodNamed B.named
  have hlocks := B.notSynchronized
  subst hsz
  have hD := hD0.self (sz := s.heap.size)
  generalize hAe : va_A (wF a cI cZ ta pl br st md (nI n) bc) s.heap.size = A at hD ⊢
  have hA : ∀ q : Nat, s.heap.size ≤ q → A q := fun q h => by rw [← hAe]; exact Or.inr h
  have hS : va_S A s.heap s.heap [] := va_S.rf
  have hl := lv_entry ([.ref (a 5), .int (nI k)]) (n := 4) (Nat.le_of_ble_eq_true rfl)
  rw [lg_entry_eq]
  generalize (lg_sl ([.ref (a 5), .int (nI k)]) ++ List.replicate (4 - (lg_sl ([.ref (a 5), .int (nI k)])).length) Slot.unset).toArray = ls at hl ⊢
  have hl : lv_has ls 4 [(0, .ref (a 5)), (1, .int (nI k))] := hl
  refine lv_aload_n hx hb dX0_stillBeside_0 rfl (lv_at hl 0 rfl) ?_
  refine va_get (D := D) (ci := 0) (v := .ref (a 7)) (C := RX0) (T := TX0) (N := 7) hx hb hts (by decide +kernel) hown hK.1 hP 0 rfl rfl 1 (by decide) (hts (.fieldLink RX0 15 "Turbineorchard$Field" "places" "[I") (by decide +kernel)) (fun _ h9 => h9) rfl dX0_stillBeside_1 ?_
  refine lv_iload_n hx hb dX0_stillBeside_4 rfl (lv_at hl 1 rfl) ?_
  refine k_iald hx hb hK.1 hP 2 0 rfl rfl k (rfl) (by omega) (by decide) dX0_stillBeside_5 ?_
  have hp := (hpl k hk).2
  refine k_rw (y := nI (fP pl k)) ((hpl k hk).1) ?_
  refine lv_istore_n (lv' := [(2, .int (nI (fP pl k))), (0, .ref (a 5)), (1, .int (nI k))]) hx hb dX0_stillBeside_6 rfl hl (by decide) rfl (fun ls hl => ?_)
  refine lv_iload_n hx hb dX0_stillBeside_7 rfl (lv_at hl 0 rfl) ?_
  refine lv_bipush (v := 6) hx hb dX0_stillBeside_8 (by decide) ?_
  refine lv_irem hx hb dX0_stillBeside_10 (by decide) ?_
  refine k_rw (y := nI (fP pl k % 6)) (nI_rm (by omega)) ?_
  refine lv_istore_n (lv' := [(3, .int (nI (fP pl k % 6))), (2, .int (nI (fP pl k))), (0, .ref (a 5)), (1, .int (nI k))]) hx hb dX0_stillBeside_11 rfl hl (by decide) rfl (fun ls hl => ?_)
  have join_26 :  ∀ (H : Heap) (locs : List Loc), va_P D vwCl (wF a cI cZ ta pl br (fB1 n ta st (fP pl k)) md (nI n) bc) H → va_D A (wF a cI cZ ta pl br (fB1 n ta st (fP pl k)) md (nI n) bc) → va_S A s.heap H locs → ∀ (ls : Array Slot), lv_has ls 4 [(0, .ref (a 5)), (1, .int (nI k)), (2, .int (nI (fP pl k))), (3, .int (nI (fP pl k % 6)))] → W p l e (headSpec wsX0_stillBeside ({ frames := 3, cells := 0, slots := 0, locals := 65 })).room s m ([.ref (a 5), .int (nI k)] : List Value).toArray below meth c H locs 0 0 (MQ below (va_Qv (fun _ : Unit => True) (fun _ t9 => kAt D A (wF a cI cZ ta pl br (fB4 n ta st (fP pl k)) md (nI n) bc) t9) A) ([.ref (a 5), .int (nI k)] : List Value).toArray s 0 0 A) (F0 m 26 ls []) := by
    intro   H locs hP hD hS ls hl
    have join_40 :  ∀ (H : Heap) (locs : List Loc), va_P D vwCl (wF a cI cZ ta pl br (fB2 n ta st (fP pl k)) md (nI n) bc) H → va_D A (wF a cI cZ ta pl br (fB2 n ta st (fP pl k)) md (nI n) bc) → va_S A s.heap H locs → ∀ (ls : Array Slot), lv_has ls 4 [(0, .ref (a 5)), (1, .int (nI k)), (2, .int (nI (fP pl k))), (3, .int (nI (fP pl k % 6)))] → W p l e (headSpec wsX0_stillBeside ({ frames := 3, cells := 0, slots := 0, locals := 65 })).room s m ([.ref (a 5), .int (nI k)] : List Value).toArray below meth c H locs 0 0 (MQ below (va_Qv (fun _ : Unit => True) (fun _ t9 => kAt D A (wF a cI cZ ta pl br (fB4 n ta st (fP pl k)) md (nI n) bc) t9) A) ([.ref (a 5), .int (nI k)] : List Value).toArray s 0 0 A) (F0 m 40 ls []) := by
      intro   H locs hP hD hS ls hl
      have join_51 :  ∀ (H : Heap) (locs : List Loc), va_P D vwCl (wF a cI cZ ta pl br (fB3 n ta st (fP pl k)) md (nI n) bc) H → va_D A (wF a cI cZ ta pl br (fB3 n ta st (fP pl k)) md (nI n) bc) → va_S A s.heap H locs → ∀ (ls : Array Slot), lv_has ls 4 [(0, .ref (a 5)), (1, .int (nI k)), (2, .int (nI (fP pl k))), (3, .int (nI (fP pl k % 6)))] → W p l e (headSpec wsX0_stillBeside ({ frames := 3, cells := 0, slots := 0, locals := 65 })).room s m ([.ref (a 5), .int (nI k)] : List Value).toArray below meth c H locs 0 0 (MQ below (va_Qv (fun _ : Unit => True) (fun _ t9 => kAt D A (wF a cI cZ ta pl br (fB4 n ta st (fP pl k)) md (nI n) bc) t9) A) ([.ref (a 5), .int (nI k)] : List Value).toArray s 0 0 A) (F0 m 51 ls []) := by
        intro   H locs hP hD hS ls hl
        have join_63 :  ∀ (H : Heap) (locs : List Loc), va_P D vwCl (wF a cI cZ ta pl br (fB4 n ta st (fP pl k)) md (nI n) bc) H → va_D A (wF a cI cZ ta pl br (fB4 n ta st (fP pl k)) md (nI n) bc) → va_S A s.heap H locs → ∀ (ls : Array Slot), lv_has ls 4 [(0, .ref (a 5)), (1, .int (nI k)), (2, .int (nI (fP pl k))), (3, .int (nI (fP pl k % 6)))] → W p l e (headSpec wsX0_stillBeside ({ frames := 3, cells := 0, slots := 0, locals := 65 })).room s m ([.ref (a 5), .int (nI k)] : List Value).toArray below meth c H locs 0 0 (MQ below (va_Qv (fun _ : Unit => True) (fun _ t9 => kAt D A (wF a cI cZ ta pl br (fB4 n ta st (fP pl k)) md (nI n) bc) t9) A) ([.ref (a 5), .int (nI k)] : List Value).toArray s 0 0 A) (F0 m 63 ls []) := by
          intro   H locs hP hD hS ls hl
          exact k_endV (sz := 0) hx hb hr hlocks hP hD hS dX0_stillBeside_63
        refine lv_iload_n hx hb dX0_stillBeside_51 rfl (lv_at hl 3 rfl) ?_
        refine lv_iconst (v := 5) hx hb dX0_stillBeside_52 (by decide) ?_
        refine lv_icmp_ge (tgt := 63) hx hb dX0_stillBeside_53 (by decide) (fun c_53 => ?_) (fun c_53 => ?_)
        · have c_53 : ¬ fP pl k % 6 < 5 := Nat.not_lt.mpr ((nI_leI (a := 5) (b := fP pl k % 6) (by omega) (by omega)).mp c_53)
          have e9 : (fB3 n ta st (fP pl k)) = (fB4 n ta st (fP pl k)) := by unfold fB4; rw [if_neg c_53]
          rw [e9] at hP hD
          clear e9
          exact join_63   _ _ hP hD hS _ (lv_sub hl [0, 1, 2, 3] rfl)
        · have c_53 : fP pl k % 6 < 5 := Nat.lt_of_not_le (fun h => c_53 ((nI_leI (a := 5) (b := fP pl k % 6) (by omega) (by omega)).mpr h))
          refine lv_aload_n hx hb dX0_stillBeside_56 rfl (lv_at hl 0 rfl) ?_
          refine lv_iload_n hx hb dX0_stillBeside_57 rfl (lv_at hl 2 rfl) ?_
          refine lv_iconst (v := 1) hx hb dX0_stillBeside_58 (by decide) ?_
          refine lv_iadd hx hb dX0_stillBeside_59 ?_
          refine k_rw (y := nI (fP pl k + 1)) (nI_1 _) ?_
          refine k_uv (WR := []) (WN := (wF a cI cZ ta pl br (fStillAt n ta (fB3 n ta st (fP pl k)) (fP pl k + 1)) md (nI n) bc)) (As := [.int (nI (fP pl k + 1))]) (rest := []) (nL := 4) ⟨hx, hb, hml, hown, hts⟩ hK hP hD hS hA (c_X0_stillAt l D a cI cZ H.size ta pl br (fB3 n ta st (fP pl k)) md bc n (fP pl k + 1) (hn) (by omega)) [0, 1, 2, 3, 4, 5] [] [0, 1, 2, 3, 4, 5] rfl rfl (by decide) rfl (by decide) (by decide) rfl rfl (by decide) 0 rfl rfl rfl (cwV 1 hts gX0_stillBeside_X0_stillAt rfl rfl rfl (by decide +kernel) ⟨Nat.le_of_ble_eq_true rfl, Nat.le_of_ble_eq_true rfl⟩) rfl hl.1 rfl (Nat.le_of_ble_eq_true rfl) dX0_stillBeside_60 ⟨Nat.zero_le _, Nat.zero_le _⟩ (fun H locs hP hD hS => ?_)
          have e9 : (fStillAt n ta (fB3 n ta st (fP pl k)) (fP pl k + 1)) = (fB4 n ta st (fP pl k)) := by unfold fB4; rw [if_pos c_53]
          rw [e9] at hP hD
          clear e9
          exact join_63   _ _ hP hD hS _ (lv_sub hl [0, 1, 2, 3] rfl)
      refine lv_iload_n hx hb dX0_stillBeside_40 rfl (lv_at hl 3 rfl) ?_
      refine lv_if_le (tgt := 51) hx hb dX0_stillBeside_41 (by decide) (fun c_41 => ?_) (fun c_41 => ?_)
      · have c_41 : ¬ 0 < fP pl k % 6 := Nat.not_lt.mpr ((nI_leI (a := fP pl k % 6) (b := 0) (by omega) (by omega)).mp c_41)
        have e9 : (fB2 n ta st (fP pl k)) = (fB3 n ta st (fP pl k)) := by unfold fB3; rw [if_neg c_41]
        rw [e9] at hP hD
        clear e9
        exact join_51   _ _ hP hD hS _ (lv_sub hl [0, 1, 2, 3] rfl)
      · have c_41 : 0 < fP pl k % 6 := Nat.lt_of_not_le (fun h => c_41 ((nI_leI (a := fP pl k % 6) (b := 0) (by omega) (by omega)).mpr h))
        refine lv_aload_n hx hb dX0_stillBeside_44 rfl (lv_at hl 0 rfl) ?_
        refine lv_iload_n hx hb dX0_stillBeside_45 rfl (lv_at hl 2 rfl) ?_
        refine lv_iconst (v := 1) hx hb dX0_stillBeside_46 (by decide) ?_
        refine lv_isub hx hb dX0_stillBeside_47 ?_
        refine k_rw (y := nI (fP pl k - 1)) (pk_sub (a := fP pl k) (b := 1) (by omega)) ?_
        refine k_uv (WR := []) (WN := (wF a cI cZ ta pl br (fStillAt n ta (fB2 n ta st (fP pl k)) (fP pl k - 1)) md (nI n) bc)) (As := [.int (nI (fP pl k - 1))]) (rest := []) (nL := 4) ⟨hx, hb, hml, hown, hts⟩ hK hP hD hS hA (c_X0_stillAt l D a cI cZ H.size ta pl br (fB2 n ta st (fP pl k)) md bc n (fP pl k - 1) (hn) (by omega)) [0, 1, 2, 3, 4, 5] [] [0, 1, 2, 3, 4, 5] rfl rfl (by decide) rfl (by decide) (by decide) rfl rfl (by decide) 0 rfl rfl rfl (cwV 1 hts gX0_stillBeside_X0_stillAt rfl rfl rfl (by decide +kernel) ⟨Nat.le_of_ble_eq_true rfl, Nat.le_of_ble_eq_true rfl⟩) rfl hl.1 rfl (Nat.le_of_ble_eq_true rfl) dX0_stillBeside_48 ⟨Nat.zero_le _, Nat.zero_le _⟩ (fun H locs hP hD hS => ?_)
        have e9 : (fStillAt n ta (fB2 n ta st (fP pl k)) (fP pl k - 1)) = (fB3 n ta st (fP pl k)) := by unfold fB3; rw [if_pos c_41]
        rw [e9] at hP hD
        clear e9
        exact join_51   _ _ hP hD hS _ (lv_sub hl [0, 1, 2, 3] rfl)
    refine lv_iload_n hx hb dX0_stillBeside_26 rfl (lv_at hl 2 rfl) ?_
    refine lv_bipush (v := 18) hx hb dX0_stillBeside_27 (by decide) ?_
    refine lv_icmp_ge (tgt := 40) hx hb dX0_stillBeside_29 (by decide) (fun c_29 => ?_) (fun c_29 => ?_)
    · have c_29 : ¬ fP pl k < 18 := Nat.not_lt.mpr ((nI_leI (a := 18) (b := fP pl k) (by omega) (by omega)).mp c_29)
      have e9 : (fB1 n ta st (fP pl k)) = (fB2 n ta st (fP pl k)) := by unfold fB2; rw [if_neg c_29]
      rw [e9] at hP hD
      clear e9
      exact join_40   _ _ hP hD hS _ (lv_sub hl [0, 1, 2, 3] rfl)
    · have c_29 : fP pl k < 18 := Nat.lt_of_not_le (fun h => c_29 ((nI_leI (a := 18) (b := fP pl k) (by omega) (by omega)).mpr h))
      refine lv_aload_n hx hb dX0_stillBeside_32 rfl (lv_at hl 0 rfl) ?_
      refine lv_iload_n hx hb dX0_stillBeside_33 rfl (lv_at hl 2 rfl) ?_
      refine lv_bipush (v := 6) hx hb dX0_stillBeside_34 (by decide) ?_
      refine lv_iadd hx hb dX0_stillBeside_36 ?_
      refine k_rw (y := nI (fP pl k + 6)) (nI_add _ 6) ?_
      refine k_uv (WR := []) (WN := (wF a cI cZ ta pl br (fStillAt n ta (fB1 n ta st (fP pl k)) (fP pl k + 6)) md (nI n) bc)) (As := [.int (nI (fP pl k + 6))]) (rest := []) (nL := 4) ⟨hx, hb, hml, hown, hts⟩ hK hP hD hS hA (c_X0_stillAt l D a cI cZ H.size ta pl br (fB1 n ta st (fP pl k)) md bc n (fP pl k + 6) (hn) (by omega)) [0, 1, 2, 3, 4, 5] [] [0, 1, 2, 3, 4, 5] rfl rfl (by decide) rfl (by decide) (by decide) rfl rfl (by decide) 0 rfl rfl rfl (cwV 1 hts gX0_stillBeside_X0_stillAt rfl rfl rfl (by decide +kernel) ⟨Nat.le_of_ble_eq_true rfl, Nat.le_of_ble_eq_true rfl⟩) rfl hl.1 rfl (Nat.le_of_ble_eq_true rfl) dX0_stillBeside_37 ⟨Nat.zero_le _, Nat.zero_le _⟩ (fun H locs hP hD hS => ?_)
      have e9 : (fStillAt n ta (fB1 n ta st (fP pl k)) (fP pl k + 6)) = (fB2 n ta st (fP pl k)) := by unfold fB2; rw [if_pos c_29]
      rw [e9] at hP hD
      clear e9
      exact join_40   _ _ hP hD hS _ (lv_sub hl [0, 1, 2, 3] rfl)
  refine lv_iload_n hx hb dX0_stillBeside_12 rfl (lv_at hl 1 rfl) ?_
  refine lv_bipush (v := 6) hx hb dX0_stillBeside_13 (by decide) ?_
  refine lv_icmp_lt (tgt := 26) hx hb dX0_stillBeside_15 (by decide) (fun c_15 => ?_) (fun c_15 => ?_)
  · have c_15 : ¬ 6 ≤ fP pl k := Nat.not_le.mpr ((nI_ltI (a := fP pl k) (b := 6) (by omega) (by omega)).mp c_15)
    have e9 : st = (fB1 n ta st (fP pl k)) := by unfold fB1; rw [if_neg c_15]
    rw [e9] at hP hD
    clear e9
    exact join_26   _ _ hP hD hS _ (lv_sub hl [2, 3, 1, 0] rfl)
  · have c_15 : 6 ≤ fP pl k := Nat.le_of_not_lt (fun h => c_15 ((nI_ltI (a := fP pl k) (b := 6) (by omega) (by omega)).mpr h))
    refine lv_aload_n hx hb dX0_stillBeside_18 rfl (lv_at hl 2 rfl) ?_
    refine lv_iload_n hx hb dX0_stillBeside_19 rfl (lv_at hl 1 rfl) ?_
    refine lv_bipush (v := 6) hx hb dX0_stillBeside_20 (by decide) ?_
    refine lv_isub hx hb dX0_stillBeside_22 ?_
    refine k_rw (y := nI (fP pl k - 6)) (pk_sub c_15) ?_
    refine k_uv (WR := []) (WN := (wF a cI cZ ta pl br (fStillAt n ta st (fP pl k - 6)) md (nI n) bc)) (As := [.int (nI (fP pl k - 6))]) (rest := []) (nL := 4) ⟨hx, hb, hml, hown, hts⟩ hK hP hD hS hA (c_X0_stillAt l D a cI cZ _ ta pl br st md bc n (fP pl k - 6) (hn) (by omega)) [0, 1, 2, 3, 4, 5] [] [0, 1, 2, 3, 4, 5] rfl rfl (by decide) rfl (by decide) (by decide) rfl rfl (by decide) 0 rfl rfl rfl (cwV 1 hts gX0_stillBeside_X0_stillAt rfl rfl rfl (by decide +kernel) ⟨Nat.le_of_ble_eq_true rfl, Nat.le_of_ble_eq_true rfl⟩) rfl hl.1 rfl (Nat.le_of_ble_eq_true rfl) dX0_stillBeside_23 ⟨Nat.zero_le _, Nat.zero_le _⟩ (fun H locs hP hD hS => ?_)
    have e9 : (fStillAt n ta st (fP pl k - 6)) = (fB1 n ta st (fP pl k)) := by unfold fB1; rw [if_pos c_15]
    rw [e9] at hP hD
    clear e9
    exact join_26   _ _ hP hD hS _ (lv_sub hl [2, 3, 1, 0] rfl)

set_option maxHeartbeats 4000000 in
set_option maxRecDepth 100000 in
theorem c_X0_endStillness (l : Launch) (D : va_G) (a : Nat → Nat) (cI cZ : ClassId) (sz : Nat) (ta : Nat → Int32) (pl : Nat → Int32) (br : Nat → Int32) (st : Nat → Int32) (md : Nat → Int32) (bc : Int32) (n : Nat) (hn : n ≤ 12) : kUv l yX0_endStillness wsX0_endStillness ({ frames := 0, cells := 0, slots := 0, locals := 0 }) [.ref (a 5)] D cI cZ sz (wF a cI cZ ta pl br st md (nI n) bc) (wF a cI cZ ta pl br (setR st 0 n 0) md (nI n) bc) := by
  refine Met.ofW (cc := cX0_endStillness) (maxL := 2) (ret := none) (by decide) rfl ?_
  intro p e s m args below meth c s₁ B hml hv
  obtain ⟨rfl, hsz, hP, hK, hD0⟩ := hv
  have hx := B.exec
  have hb := B.bytes
  have hr := B.returns
  have hts := atoms_spec (ws := wsX0_endStillness) B.pre
  have hown : s.vm.findClass RX0 = some m.cls := findClass_of_methodNamed B.named
  have hlocks := B.notSynchronized
  subst hsz
  have hD := hD0.self (sz := s.heap.size)
  generalize hAe : va_A (wF a cI cZ ta pl br st md (nI n) bc) s.heap.size = A at hD ⊢
  have hA : ∀ q : Nat, s.heap.size ≤ q → A q := fun q h => by rw [← hAe]; exact Or.inr h
  have hS : va_S A s.heap s.heap [] := va_S.rf
  have hl := lv_entry ([.ref (a 5)]) (n := 2) (Nat.le_of_ble_eq_true rfl)
  rw [lg_entry_eq]
  generalize (lg_sl ([.ref (a 5)]) ++ List.replicate (2 - (lg_sl ([.ref (a 5)])).length) Slot.unset).toArray = ls at hl ⊢
  have hl : lv_has ls 2 [(0, .ref (a 5))] := hl
  refine lv_iconst (v := 0) hx hb dX0_endStillness_0 (by decide) ?_
  have e9 : st = (setR st 0 0 0) := (setR_0 st 0 0).symm
  rw [e9] at hP hD
  clear e9
  refine lv_istore_n (lv' := [(1, .int 0), (0, .ref (a 5))]) hx hb dX0_endStillness_1 rfl hl (by decide) rfl (fun ls hl => ?_)
  have loop_2 : ∀ (nn : Nat) (k : Nat), n - k < nn → (k ≤ n) → ∀ (H : Heap) (locs : List Loc), va_P D vwCl (wF a cI cZ ta pl br (setR st 0 k 0) md (nI n) bc) H → va_D A (wF a cI cZ ta pl br (setR st 0 k 0) md (nI n) bc) → va_S A s.heap H locs → ∀ (ls : Array Slot), lv_has ls 2 [(0, .ref (a 5)), (1, .int (nI k))] → W p l e (headSpec wsX0_endStillness ({ frames := 0, cells := 0, slots := 0, locals := 0 })).room s m ([.ref (a 5)] : List Value).toArray below meth c H locs 0 0 (MQ below (va_Qv (fun _ : Unit => True) (fun _ t9 => kAt D A (wF a cI cZ ta pl br (setR st 0 n 0) md (nI n) bc) t9) A) ([.ref (a 5)] : List Value).toArray s 0 0 A) (F0 m 2 ls []) := by
    intro nn
    induction nn with
    | zero => intro k hm; exact absurd hm (by omega)
    | succ nn ih_2 =>
      intro k hm hk H locs hP hD hS ls hl
      refine lv_iload_n hx hb dX0_endStillness_2 rfl (lv_at hl 1 rfl) ?_
      refine lv_aload_n hx hb dX0_endStillness_3 rfl (lv_at hl 0 rfl) ?_
      refine va_get (D := D) (ci := 0) (v := .int (nI n)) (C := RX0) (T := TX0) (N := 7) hx hb hts (by decide +kernel) hown hK.1 hP 0 rfl rfl 5 (by decide) (hts (.fieldLink RX0 28 "Turbineorchard$Field" "count" "I") (by decide +kernel)) (fun _ h9 => h9) rfl dX0_endStillness_4 ?_
      refine lv_icmp_ge (tgt := 23) hx hb dX0_endStillness_7 (by decide) (fun c_7 => ?_) (fun c_7 => ?_)
      · have e8 : k = n := by have := (nI_leI (a := n) (b := k) (by omega) (by omega)).mp c_7; omega
        rw [e8] at hP hD
        exact k_endV (sz := 0) hx hb hr hlocks hP hD hS dX0_endStillness_23
      · have c_7 : k < n := Nat.lt_of_not_le (fun h => c_7 ((nI_leI (a := n) (b := k) (by omega) (by omega)).mpr h))
        refine lv_aload_n hx hb dX0_endStillness_10 rfl (lv_at hl 0 rfl) ?_
        refine va_get (D := D) (ci := 0) (v := .ref (a 9)) (C := RX0) (T := TX0) (N := 7) hx hb hts (by decide +kernel) hown hK.1 hP 0 rfl rfl 3 (by decide) (hts (.fieldLink RX0 22 "Turbineorchard$Field" "stilled" "[Z") (by decide +kernel)) (fun _ h9 => h9) rfl dX0_endStillness_11 ?_
        refine lv_iload_n hx hb dX0_endStillness_14 rfl (lv_at hl 1 rfl) ?_
        refine lv_iconst (v := 0) hx hb dX0_endStillness_15 (by decide) ?_
        refine k_zast hx hb hK.1 hP hD hS 4 1 rfl rfl (rfl) k (rfl) (by omega) (by decide) dX0_endStillness_16 (fun H locs hP hD hS => ?_)
        have hP : va_P D vwCl (wF a cI cZ ta pl br (upd (setR st 0 k 0) k 0) md (nI n) bc) H := hP
        have hD : va_D A (wF a cI cZ ta pl br (upd (setR st 0 k 0) k 0) md (nI n) bc) := hD
        have e9 : (upd (setR st 0 k 0) k 0) = (setR st 0 (k + 1) 0) := setR_1 st 0 (Nat.zero_le k)
        rw [e9] at hP hD
        clear e9
        refine lv_iinc (v := nI (k + 1)) (lv' := [(1, .int (nI (k + 1))), (0, .ref (a 5))]) hx hb dX0_endStillness_17 hl (k := 1) rfl (nI_1 _) (by decide) rfl (fun ls hl => ?_)
        refine lv_goto (tgt := 2) hx hb dX0_endStillness_20 (by decide) ?_
        exact ih_2 (k + 1) (by omega) (by omega) _ _ hP hD hS _ (lv_sub hl [1, 0] rfl)
  exact loop_2 (n - 0 + 1) 0 (by omega) (by omega) _ _ hP hD hS _ (lv_sub hl [1, 0] rfl)

set_option maxHeartbeats 4000000 in
set_option maxRecDepth 100000 in
theorem c_X0_distancesAhead (l : Launch) (D : va_G) (a : Nat → Nat) (cI cZ : ClassId) (ta : Nat → Int32) (pl : Nat → Int32) (br : Nat → Int32) (st : Nat → Int32) (md : Nat → Int32) (bc : Int32) (n : Nat) (q : Nat) (w : Int32) (hn : n ≤ 12) (hq : q < 24) (hpl : ∀ k, k < n → pl k = nI (fP pl k) ∧ fP pl k < 24) : kRd l yX0_distancesAhead wsX0_distancesAhead ({ frames := 1, cells := 0, slots := 0, locals := 21 }) [.ref (a 5), .int (nI q), .int w] D cI cZ (wF a cI cZ ta pl br st md (nI n) bc) (fun r => r = fMask (fAw w pl br st q) n) := by
  refine Met.ofW (cc := cX0_distancesAhead) (maxL := 6) (ret := (some .int)) (by decide) rfl ?_
  intro p e s m args below meth c s₁ B hml hv
  obtain ⟨rfl, hP, hK⟩ := hv
  have hx := B.exec
  have hb := B.bytes
  have hr := B.returns
  have hts := atoms_spec (ws := wsX0_distancesAhead) B.pre
  have hown : s.vm.findClass RX0 = some m.cls := findClass_of_methodNamed B.named
  have hlocks := B.notSynchronized
  have hl := lv_entry ([.ref (a 5), .int (nI q), .int w]) (n := 6) (Nat.le_of_ble_eq_true rfl)
  rw [lg_entry_eq]
  generalize (lg_sl ([.ref (a 5), .int (nI q), .int w]) ++ List.replicate (6 - (lg_sl ([.ref (a 5), .int (nI q), .int w])).length) Slot.unset).toArray = ls at hl ⊢
  have hl : lv_has ls 6 [(0, .ref (a 5)), (1, .int (nI q)), (2, .int w)] := hl
  refine lv_iconst (v := 0) hx hb dX0_distancesAhead_0 (by decide) ?_
  refine lv_istore_n (lv' := [(3, .int 0), (0, .ref (a 5)), (1, .int (nI q)), (2, .int w)]) hx hb dX0_distancesAhead_1 rfl hl (by decide) rfl (fun ls hl => ?_)
  refine lv_iconst (v := 0) hx hb dX0_distancesAhead_2 (by decide) ?_
  refine lv_istore (lv' := [(4, .int 0), (3, .int 0), (0, .ref (a 5)), (1, .int (nI q)), (2, .int w)]) hx hb dX0_distancesAhead_3 hl (by decide) rfl (fun ls hl => ?_)
  have loop_5 : ∀ (nn : Nat) (k : Nat) (x : Int32), n - k < nn → (k ≤ n) → (x = fMask (fAw w pl br st q) k) → ∀ (ls : Array Slot), lv_has ls 6 [(0, .ref (a 5)), (1, .int (nI q)), (2, .int w), (3, .int x), (4, .int (nI k))] → W p l e (headSpec wsX0_distancesAhead ({ frames := 1, cells := 0, slots := 0, locals := 21 })).room s m ([.ref (a 5), .int (nI q), .int w] : List Value).toArray below meth c s.heap [] 0 0 (MQ below (vp_Si (fun r => r = fMask (fAw w pl br st q) n)) ([.ref (a 5), .int (nI q), .int w] : List Value).toArray s 0 0 (fun _ => False)) (F0 m 5 ls []) := by
    intro nn
    induction nn with
    | zero => intro k x hm; exact absurd hm (by omega)
    | succ nn ih_5 =>
      intro k x hm hk hx9  ls hl
      refine lv_iload hx hb dX0_distancesAhead_5 (lv_at hl 4 rfl) ?_
      refine lv_aload_n hx hb dX0_distancesAhead_7 rfl (lv_at hl 0 rfl) ?_
      refine va_get (D := D) (ci := 0) (v := .int (nI n)) (C := RX0) (T := TX0) (N := 7) hx hb hts (by decide +kernel) hown hK.1 hP 0 rfl rfl 5 (by decide) (hts (.fieldLink RX0 28 "Turbineorchard$Field" "count" "I") (by decide +kernel)) (fun _ h9 => h9) rfl dX0_distancesAhead_8 ?_
      refine lv_icmp_ge (tgt := 79) hx hb dX0_distancesAhead_11 (by decide) (fun c_11 => ?_) (fun c_11 => ?_)
      · have e8 : k = n := by have := (nI_leI (a := n) (b := k) (by omega) (by omega)).mp c_11; omega
        refine lv_iload_n hx hb dX0_distancesAhead_79 rfl (lv_at hl 3 rfl) ?_
        exact k_endR (ty := .int) hx hb hr hlocks (rfl) (by rw [hx9, e8]) dX0_distancesAhead_80
      · have c_11 : k < n := Nat.lt_of_not_le (fun h => c_11 ((nI_leI (a := n) (b := k) (by omega) (by omega)).mpr h))
        refine lv_iload_n hx hb dX0_distancesAhead_14 rfl (lv_at hl 1 rfl) ?_
        refine lv_iload_n hx hb dX0_distancesAhead_15 rfl (lv_at hl 2 rfl) ?_
        refine k_ps (As := [.int (nI q), .int w]) (rest := []) (nL := 6) ⟨hx, hb, hml, hown, hts⟩ (c_X0_placesAhead l q w (by omega)) (va_cwS 2 hts gX0_distancesAhead_X0_placesAhead rfl rfl rfl (by decide +kernel) ⟨Nat.le_of_ble_eq_true rfl, Nat.le_of_ble_eq_true rfl⟩) rfl hl.1 rfl (Nat.le_of_ble_eq_true rfl) dX0_distancesAhead_16 ⟨Nat.zero_le _, Nat.zero_le _⟩ (fun r9 hr9 => ?_)
        subst hr9
        refine lv_aload_n hx hb dX0_distancesAhead_19 rfl (lv_at hl 0 rfl) ?_
        refine va_get (D := D) (ci := 0) (v := .ref (a 7)) (C := RX0) (T := TX0) (N := 7) hx hb hts (by decide +kernel) hown hK.1 hP 0 rfl rfl 1 (by decide) (hts (.fieldLink RX0 15 "Turbineorchard$Field" "places" "[I") (by decide +kernel)) (fun _ h9 => h9) rfl dX0_distancesAhead_20 ?_
        refine lv_iload hx hb dX0_distancesAhead_23 (lv_at hl 4 rfl) ?_
        refine k_iald hx hb hK.1 hP 2 0 rfl rfl k (rfl) (by omega) (by decide) dX0_distancesAhead_25 ?_
        refine k_rw (y := nI (fP pl k)) ((hpl k c_11).1) ?_
        refine lv_iload_n hx hb dX0_distancesAhead_26 rfl (lv_at hl 2 rfl) ?_
        refine k_ps (As := [.int (nI (fP pl k)), .int w]) (rest := [.int (nI (fAhd w q))]) (nL := 6) ⟨hx, hb, hml, hown, hts⟩ (c_X0_placesAhead l (fP pl k) w ((hpl k c_11).2)) (va_cwS 2 hts gX0_distancesAhead_X0_placesAhead rfl rfl rfl (by decide +kernel) ⟨Nat.le_of_ble_eq_true rfl, Nat.le_of_ble_eq_true rfl⟩) rfl hl.1 rfl (Nat.le_of_ble_eq_true rfl) dX0_distancesAhead_27 ⟨Nat.zero_le _, Nat.zero_le _⟩ (fun r9 hr9 => ?_)
        subst hr9
        refine lv_isub hx hb dX0_distancesAhead_30 ?_
        refine lv_istore (lv' := [(5, .int ((nI (fAhd w q)) - (nI (fAhd w (fP pl k))))), (0, .ref (a 5)), (1, .int (nI q)), (2, .int w), (3, .int x), (4, .int (nI k))]) hx hb dX0_distancesAhead_31 hl (by decide) rfl (fun ls hl => ?_)
        have ha1 := fAhd_lt (w := w) hq
        have ha2 := fAhd_lt (w := w) (hpl k c_11).2
        refine lv_iload hx hb dX0_distancesAhead_33 (lv_at hl 0 rfl) ?_
        refine lv_if_le (tgt := 73) hx hb dX0_distancesAhead_35 (by decide) (fun c_35 => ?_) (fun c_35 => ?_)
        · have c_35 : fAhd w q ≤ fAhd w (fP pl k) := (sub_le0 (by omega) (by omega)).mp c_35
          refine lv_iinc (v := nI (k + 1)) (lv' := [(4, .int (nI (k + 1))), (5, .int ((nI (fAhd w q)) - (nI (fAhd w (fP pl k))))), (0, .ref (a 5)), (1, .int (nI q)), (2, .int w), (3, .int x)]) hx hb dX0_distancesAhead_73 hl (k := 5) rfl (nI_1 _) (by decide) rfl (fun ls hl => ?_)
          refine lv_goto (tgt := 5) hx hb dX0_distancesAhead_76 (by decide) ?_
          exact ih_5 (k + 1) x (by omega) (by omega) (by simp only [fMask]; rw [if_pos (by unfold fAw; exact if_neg (fun h => absurd h.1 (Nat.not_lt.mpr c_35)))]; exact hx9) _ (lv_sub hl [2, 3, 4, 5, 0] rfl)
        · have c_35 : fAhd w (fP pl k) < fAhd w q := Nat.lt_of_not_le (fun h => c_35 ((sub_le0 (by omega) (by omega)).mpr h))
          refine lv_aload_n hx hb dX0_distancesAhead_38 rfl (lv_at hl 1 rfl) ?_
          refine va_get (D := D) (ci := 0) (v := .ref (a 7)) (C := RX0) (T := TX0) (N := 7) hx hb hts (by decide +kernel) hown hK.1 hP 0 rfl rfl 1 (by decide) (hts (.fieldLink RX0 15 "Turbineorchard$Field" "places" "[I") (by decide +kernel)) (fun _ h9 => h9) rfl dX0_distancesAhead_39 ?_
          refine lv_iload hx hb dX0_distancesAhead_42 (lv_at hl 5 rfl) ?_
          refine k_iald hx hb hK.1 hP 2 0 rfl rfl k (rfl) (by omega) (by decide) dX0_distancesAhead_44 ?_
          refine k_rw (y := nI (fP pl k)) ((hpl k c_11).1) ?_
          refine lv_iload_n hx hb dX0_distancesAhead_45 rfl (lv_at hl 3 rfl) ?_
          refine k_ps (As := [.int (nI (fP pl k)), .int w]) (rest := []) (nL := 6) ⟨hx, hb, hml, hown, hts⟩ (c_X0_lane l (fP pl k) w ((hpl k c_11).2)) (va_cwS 2 hts gX0_distancesAhead_X0_lane rfl rfl rfl (by decide +kernel) ⟨Nat.le_of_ble_eq_true rfl, Nat.le_of_ble_eq_true rfl⟩) rfl hl.1 rfl (Nat.le_of_ble_eq_true rfl) dX0_distancesAhead_46 ⟨Nat.zero_le _, Nat.zero_le _⟩ (fun r9 hr9 => ?_)
          subst hr9
          refine lv_iload_n hx hb dX0_distancesAhead_49 rfl (lv_at hl 2 rfl) ?_
          refine lv_iload_n hx hb dX0_distancesAhead_50 rfl (lv_at hl 3 rfl) ?_
          refine k_ps (As := [.int (nI q), .int w]) (rest := [.int (nI (fLane w (fP pl k)))]) (nL := 6) ⟨hx, hb, hml, hown, hts⟩ (c_X0_lane l q w (by omega)) (va_cwS 2 hts gX0_distancesAhead_X0_lane rfl rfl rfl (by decide +kernel) ⟨Nat.le_of_ble_eq_true rfl, Nat.le_of_ble_eq_true rfl⟩) rfl hl.1 rfl (Nat.le_of_ble_eq_true rfl) dX0_distancesAhead_51 ⟨Nat.zero_le _, Nat.zero_le _⟩ (fun r9 hr9 => ?_)
          subst hr9
          refine lv_icmp_ne (tgt := 73) hx hb dX0_distancesAhead_54 (by decide) (fun c_54 => ?_) (fun c_54 => ?_)
          · refine lv_iinc (v := nI (k + 1)) (lv' := [(4, .int (nI (k + 1))), (5, .int ((nI (fAhd w q)) - (nI (fAhd w (fP pl k))))), (0, .ref (a 5)), (1, .int (nI q)), (2, .int w), (3, .int x)]) hx hb dX0_distancesAhead_73 hl (k := 5) rfl (nI_1 _) (by decide) rfl (fun ls hl => ?_)
            refine lv_goto (tgt := 5) hx hb dX0_distancesAhead_76 (by decide) ?_
            exact ih_5 (k + 1) x (by omega) (by omega) (by simp only [fMask]; rw [if_pos (by unfold fAw; exact if_neg (fun h => c_54 (by rw [h.2.1])))]; exact hx9) _ (lv_sub hl [2, 3, 4, 5, 0] rfl)
          · have c_54 : fLane w (fP pl k) = fLane w q := (nI_eq (Nat.lt_trans (fLane_lt (hpl k c_11).2) (by decide)) (Nat.lt_trans (fLane_lt hq) (by decide))).mp c_54
            refine lv_aload_n hx hb dX0_distancesAhead_57 rfl (lv_at hl 1 rfl) ?_
            refine lv_iload hx hb dX0_distancesAhead_58 (lv_at hl 5 rfl) ?_
            refine k_rd (As := [.int (nI k)]) (rest := []) (nL := 6) ⟨hx, hb, hml, hown, hts⟩ hK hP (c_X0_turns l D a cI cZ ta pl br st md bc n k (hn) (by omega)) [0, 1, 2, 3, 4, 5] rfl 0 rfl rfl rfl (cwV 1 hts gX0_distancesAhead_X0_turns rfl rfl rfl (by decide +kernel) ⟨Nat.le_of_ble_eq_true rfl, Nat.le_of_ble_eq_true rfl⟩) rfl hl.1 rfl (Nat.le_of_ble_eq_true rfl) dX0_distancesAhead_60 ⟨Nat.zero_le _, Nat.zero_le _⟩ (fun r9 hr9 => ?_)
            subst hr9
            refine lv_if_eq (tgt := 73) hx hb dX0_distancesAhead_63 (by decide) (fun c_63 => ?_) (fun c_63 => ?_)
            · have c_63 := bI_0 c_63
              refine lv_iinc (v := nI (k + 1)) (lv' := [(4, .int (nI (k + 1))), (5, .int ((nI (fAhd w q)) - (nI (fAhd w (fP pl k))))), (0, .ref (a 5)), (1, .int (nI q)), (2, .int w), (3, .int x)]) hx hb dX0_distancesAhead_73 hl (k := 5) rfl (nI_1 _) (by decide) rfl (fun ls hl => ?_)
              refine lv_goto (tgt := 5) hx hb dX0_distancesAhead_76 (by decide) ?_
              exact ih_5 (k + 1) x (by omega) (by omega) (by simp only [fMask]; rw [if_pos (by unfold fAw; exact if_neg (fun h => c_63 h.2.2))]; exact hx9) _ (lv_sub hl [2, 3, 4, 5, 0] rfl)
            · have c_63 := bI_n c_63
              refine lv_iload_n hx hb dX0_distancesAhead_66 rfl (lv_at hl 4 rfl) ?_
              refine lv_iconst (v := 1) hx hb dX0_distancesAhead_67 (by decide) ?_
              refine lv_iload hx hb dX0_distancesAhead_68 (lv_at hl 0 rfl) ?_
              refine lv_ishl hx hb dX0_distancesAhead_70 ?_
              refine lv_ior hx hb dX0_distancesAhead_71 ?_
              have e9 : fAw w pl br st q k = fAhd w q - fAhd w (fP pl k) := by unfold fAw; exact if_pos ⟨c_35, c_54, c_63⟩
              refine k_rw (y := fMask (fAw w pl br st q) (k + 1)) (by simp only [fMask]; rw [if_neg (by omega), e9, hx9, pk_sub (by omega)]) ?_
              refine lv_istore_n (lv' := [(3, .int (fMask (fAw w pl br st q) (k + 1))), (5, .int ((nI (fAhd w q)) - (nI (fAhd w (fP pl k))))), (0, .ref (a 5)), (1, .int (nI q)), (2, .int w), (4, .int (nI k))]) hx hb dX0_distancesAhead_72 rfl hl (by decide) rfl (fun ls hl => ?_)
              refine lv_iinc (v := nI (k + 1)) (lv' := [(4, .int (nI (k + 1))), (3, .int (fMask (fAw w pl br st q) (k + 1))), (5, .int ((nI (fAhd w q)) - (nI (fAhd w (fP pl k))))), (0, .ref (a 5)), (1, .int (nI q)), (2, .int w)]) hx hb dX0_distancesAhead_73 hl (k := 5) rfl (nI_1 _) (by decide) rfl (fun ls hl => ?_)
              refine lv_goto (tgt := 5) hx hb dX0_distancesAhead_76 (by decide) ?_
              exact ih_5 (k + 1) (fMask (fAw w pl br st q) (k + 1)) (by omega) (by omega) (rfl) _ (lv_sub hl [3, 4, 5, 1, 0] rfl)
  exact loop_5 (n - 0 + 1) 0 0 (by omega) (by omega) (rfl) _ (lv_sub hl [2, 3, 4, 1, 0] rfl)

set_option maxHeartbeats 4000000 in
set_option maxRecDepth 100000 in
theorem c_X0_windLeft (l : Launch) (D : va_G) (a : Nat → Nat) (cI cZ : ClassId) (ta : Nat → Int32) (pl : Nat → Int32) (br : Nat → Int32) (st : Nat → Int32) (md : Nat → Int32) (bc : Int32) (n : Nat) (t : Nat) (v : Int32) (w : Int32) (hn : n ≤ 12) (ht : t < n) (hpl : ∀ k, k < n → pl k = nI (fP pl k) ∧ fP pl k < 24) : kRd l yX0_windLeft wsX0_windLeft ({ frames := 2, cells := 0, slots := 0, locals := 46 }) [.ref (a 5), .int (nI t), .int v, .int w] D cI cZ (wF a cI cZ ta pl br st md (nI n) bc) (fun r => r = fWind w pl br st n v (fP pl t)) := by
  refine Met.ofW (cc := cX0_windLeft) (maxL := 7) (ret := (some .int)) (by decide) rfl ?_
  intro p e s m args below meth c s₁ B hml hv
  obtain ⟨rfl, hP, hK⟩ := hv
  have hx := B.exec
  have hb := B.bytes
  have hr := B.returns
  have hts := atoms_spec (ws := wsX0_windLeft) B.pre
  have hown : s.vm.findClass RX0 = some m.cls := findClass_of_methodNamed B.named
  have hlocks := B.notSynchronized
  have hl := lv_entry ([.ref (a 5), .int (nI t), .int v, .int w]) (n := 7) (Nat.le_of_ble_eq_true rfl)
  rw [lg_entry_eq]
  generalize (lg_sl ([.ref (a 5), .int (nI t), .int v, .int w]) ++ List.replicate (7 - (lg_sl ([.ref (a 5), .int (nI t), .int v, .int w])).length) Slot.unset).toArray = ls at hl ⊢
  have hl : lv_has ls 7 [(0, .ref (a 5)), (1, .int (nI t)), (2, .int v), (3, .int w)] := hl
  refine lv_aload_n hx hb dX0_windLeft_0 rfl (lv_at hl 0 rfl) ?_
  refine lv_aload_n hx hb dX0_windLeft_1 rfl (lv_at hl 0 rfl) ?_
  refine va_get (D := D) (ci := 0) (v := .ref (a 7)) (C := RX0) (T := TX0) (N := 7) hx hb hts (by decide +kernel) hown hK.1 hP 0 rfl rfl 1 (by decide) (hts (.fieldLink RX0 15 "Turbineorchard$Field" "places" "[I") (by decide +kernel)) (fun _ h9 => h9) rfl dX0_windLeft_2 ?_
  refine lv_iload_n hx hb dX0_windLeft_5 rfl (lv_at hl 1 rfl) ?_
  refine k_iald hx hb hK.1 hP 2 0 rfl rfl t (rfl) (by omega) (by decide) dX0_windLeft_6 ?_
  have hp := (hpl t ht).2
  refine k_rw (y := nI (fP pl t)) ((hpl t ht).1) ?_
  refine lv_iload_n hx hb dX0_windLeft_7 rfl (lv_at hl 3 rfl) ?_
  refine k_rd (As := [.int (nI (fP pl t)), .int w]) (rest := []) (nL := 7) ⟨hx, hb, hml, hown, hts⟩ hK hP (c_X0_distancesAhead l D a cI cZ ta pl br st md bc n (fP pl t) w (hn) (by omega) (hpl)) [0, 1, 2, 3, 4, 5] rfl 0 rfl rfl rfl (cwV 2 hts gX0_windLeft_X0_distancesAhead rfl rfl rfl (by decide +kernel) ⟨Nat.le_of_ble_eq_true rfl, Nat.le_of_ble_eq_true rfl⟩) rfl hl.1 rfl (Nat.le_of_ble_eq_true rfl) dX0_windLeft_8 ⟨Nat.zero_le _, Nat.zero_le _⟩ (fun r9 hr9 => ?_)
  subst hr9
  refine lv_istore (lv' := [(4, .int (fMask (fAw w pl br st (fP pl t)) n)), (0, .ref (a 5)), (1, .int (nI t)), (2, .int v), (3, .int w)]) hx hb dX0_windLeft_11 hl (by decide) rfl (fun ls hl => ?_)
  refine lv_iload_n hx hb dX0_windLeft_13 rfl (lv_at hl 3 rfl) ?_
  refine lv_istore (lv' := [(5, .int v), (4, .int (fMask (fAw w pl br st (fP pl t)) n)), (0, .ref (a 5)), (1, .int (nI t)), (2, .int v), (3, .int w)]) hx hb dX0_windLeft_14 hl (by decide) rfl (fun ls hl => ?_)
  refine lv_iconst (v := 1) hx hb dX0_windLeft_16 (by decide) ?_
  refine lv_istore (lv' := [(6, .int 1), (5, .int v), (4, .int (fMask (fAw w pl br st (fP pl t)) n)), (0, .ref (a 5)), (1, .int (nI t)), (2, .int v), (3, .int w)]) hx hb dX0_windLeft_17 hl (by decide) rfl (fun ls hl => ?_)
  have loop_19 : ∀ (nn : Nat) (k : Nat) (x : Int32), 5 - k < nn → (k ≤ 5) → (x = fStep (fHits w pl br st n (fP pl t)) v k) → ∀ (ls : Array Slot), lv_has ls 7 [(0, .ref (a 5)), (4, .int (fMask (fAw w pl br st (fP pl t)) n)), (5, .int x), (6, .int (nI (k + 1)))] → W p l e (headSpec wsX0_windLeft ({ frames := 2, cells := 0, slots := 0, locals := 46 })).room s m ([.ref (a 5), .int (nI t), .int v, .int w] : List Value).toArray below meth c s.heap [] 0 0 (MQ below (vp_Si (fun r => r = fWind w pl br st n v (fP pl t))) ([.ref (a 5), .int (nI t), .int v, .int w] : List Value).toArray s 0 0 (fun _ => False)) (F0 m 19 ls []) := by
    intro nn
    induction nn with
    | zero => intro k x hm; exact absurd hm (by omega)
    | succ nn ih_19 =>
      intro k x hm hk hx9  ls hl
      refine lv_iload hx hb dX0_windLeft_19 (lv_at hl 3 rfl) ?_
      refine lv_bipush (v := 6) hx hb dX0_windLeft_21 (by decide) ?_
      refine lv_icmp_ge (tgt := 54) hx hb dX0_windLeft_23 (by decide) (fun c_23 => ?_) (fun c_23 => ?_)
      · have e8 : k = 5 := by have := (nI_leI (a := 6) (b := k + 1) (by omega) (by omega)).mp c_23; omega
        refine lv_iload hx hb dX0_windLeft_54 (lv_at hl 2 rfl) ?_
        exact k_endR (ty := .int) hx hb hr hlocks (rfl) (by rw [hx9, e8]; rfl) dX0_windLeft_56
      · have c_23 : k < 5 := Nat.lt_of_not_le (fun h => c_23 ((nI_leI (a := 6) (b := k + 1) (by omega) (by omega)).mpr (by omega)))
        refine lv_iload hx hb dX0_windLeft_26 (lv_at hl 1 rfl) ?_
        refine lv_iconst (v := 1) hx hb dX0_windLeft_28 (by decide) ?_
        refine lv_iload hx hb dX0_windLeft_29 (lv_at hl 3 rfl) ?_
        refine lv_ishl hx hb dX0_windLeft_31 ?_
        refine lv_iand hx hb dX0_windLeft_32 ?_
        refine lv_if_eq (tgt := 48) hx hb dX0_windLeft_33 (by decide) (fun c_33 => ?_) (fun c_33 => ?_)
        · have c_33 : fHits w pl br st n (fP pl t) (k + 1) = false := (fMask_bit (fun k => fAw_le hp) (by omega) (by omega) n).mp c_33
          refine lv_iinc (v := nI ((k + 1) + 1)) (lv' := [(6, .int (nI ((k + 1) + 1))), (0, .ref (a 5)), (4, .int (fMask (fAw w pl br st (fP pl t)) n)), (5, .int x)]) hx hb dX0_windLeft_48 hl (k := 3) rfl (nI_1 _) (by decide) rfl (fun ls hl => ?_)
          refine lv_goto (tgt := 19) hx hb dX0_windLeft_51 (by decide) ?_
          exact ih_19 (k + 1) x (by omega) (by omega) (by simp only [fStep]; rw [if_neg (by rw [c_33]; decide), hx9]) _ (lv_sub hl [1, 2, 3, 0] rfl)
        · have c_33 : fHits w pl br st n (fP pl t) (k + 1) = true := (Bool.not_eq_false _).mp (fun h => c_33 ((fMask_bit (fun k => fAw_le hp) (by omega) (by omega) n).mpr h))
          refine lv_iload hx hb dX0_windLeft_36 (lv_at hl 2 rfl) ?_
          refine lv_iload hx hb dX0_windLeft_38 (lv_at hl 2 rfl) ?_
          refine lv_iload hx hb dX0_windLeft_40 (lv_at hl 3 rfl) ?_
          refine k_ps (As := [.int x, .int (nI (k + 1))]) (rest := [.int x]) (nL := 7) ⟨hx, hb, hml, hown, hts⟩ (c_X0_takenByWake l x (k + 1) (by omega)) (va_cwS 2 hts gX0_windLeft_X0_takenByWake rfl rfl rfl (by decide +kernel) ⟨Nat.le_of_ble_eq_true rfl, Nat.le_of_ble_eq_true rfl⟩) rfl hl.1 rfl (Nat.le_of_ble_eq_true rfl) dX0_windLeft_42 ⟨Nat.zero_le _, Nat.zero_le _⟩ (fun r9 hr9 => ?_)
          subst hr9
          refine lv_isub hx hb dX0_windLeft_45 ?_
          refine lv_istore (lv' := [(5, .int (x - (fTaken x (k + 1)))), (0, .ref (a 5)), (4, .int (fMask (fAw w pl br st (fP pl t)) n)), (6, .int (nI (k + 1)))]) hx hb dX0_windLeft_46 hl (by decide) rfl (fun ls hl => ?_)
          refine lv_iinc (v := nI ((k + 1) + 1)) (lv' := [(6, .int (nI ((k + 1) + 1))), (5, .int (x - (fTaken x (k + 1)))), (0, .ref (a 5)), (4, .int (fMask (fAw w pl br st (fP pl t)) n))]) hx hb dX0_windLeft_48 hl (k := 3) rfl (nI_1 _) (by decide) rfl (fun ls hl => ?_)
          refine lv_goto (tgt := 19) hx hb dX0_windLeft_51 (by decide) ?_
          exact ih_19 (k + 1) (x - (fTaken x (k + 1))) (by omega) (by omega) (by simp only [fStep]; rw [if_pos c_33, hx9]) _ (lv_sub hl [2, 3, 1, 0] rfl)
  exact loop_19 (5 - 0 + 1) 0 v (by omega) (by omega) (rfl) _ (lv_sub hl [3, 2, 1, 0] rfl)

set_option maxHeartbeats 4000000 in
set_option maxRecDepth 100000 in
theorem c_X0_powerOf (l : Launch) (D : va_G) (a : Nat → Nat) (cI cZ : ClassId) (ta : Nat → Int32) (pl : Nat → Int32) (br : Nat → Int32) (st : Nat → Int32) (md : Nat → Int32) (bc : Int32) (n : Nat) (t : Nat) (v : Int32) (w : Int32) (hn : n ≤ 12) (ht : t < n) (hpl : ∀ k, k < n → pl k = nI (fP pl k) ∧ fP pl k < 24) : kRd l yX0_powerOf wsX0_powerOf ({ frames := 3, cells := 0, slots := 0, locals := 72 }) [.ref (a 5), .int (nI t), .int v, .int w] D cI cZ (wF a cI cZ ta pl br st md (nI n) bc) (fun r => r = fPw w pl br st n v t) := by
  refine Met.ofW (cc := cX0_powerOf) (maxL := 4) (ret := (some .int)) (by decide) rfl ?_
  intro p e s m args below meth c s₁ B hml hv
  obtain ⟨rfl, hP, hK⟩ := hv
  have hx := B.exec
  have hb := B.bytes
  have hr := B.returns
  have hts := atoms_spec (ws := wsX0_powerOf) B.pre
  have hown : s.vm.findClass RX0 = some m.cls := findClass_of_methodNamed B.named
  have hlocks := B.notSynchronized
  have hl := lv_entry ([.ref (a 5), .int (nI t), .int v, .int w]) (n := 4) (Nat.le_of_ble_eq_true rfl)
  rw [lg_entry_eq]
  generalize (lg_sl ([.ref (a 5), .int (nI t), .int v, .int w]) ++ List.replicate (4 - (lg_sl ([.ref (a 5), .int (nI t), .int v, .int w])).length) Slot.unset).toArray = ls at hl ⊢
  have hl : lv_has ls 4 [(0, .ref (a 5)), (1, .int (nI t)), (2, .int v), (3, .int w)] := hl
  refine lv_aload_n hx hb dX0_powerOf_0 rfl (lv_at hl 0 rfl) ?_
  refine lv_iload_n hx hb dX0_powerOf_1 rfl (lv_at hl 1 rfl) ?_
  refine k_rd (As := [.int (nI t)]) (rest := []) (nL := 4) ⟨hx, hb, hml, hown, hts⟩ hK hP (c_X0_turns l D a cI cZ ta pl br st md bc n t (hn) (by omega)) [0, 1, 2, 3, 4, 5] rfl 0 rfl rfl rfl (cwV 1 hts gX0_powerOf_X0_turns rfl rfl rfl (by decide +kernel) ⟨Nat.le_of_ble_eq_true rfl, Nat.le_of_ble_eq_true rfl⟩) rfl hl.1 rfl (Nat.le_of_ble_eq_true rfl) dX0_powerOf_2 ⟨Nat.zero_le _, Nat.zero_le _⟩ (fun r9 hr9 => ?_)
  subst hr9
  refine lv_if_eq (tgt := 21) hx hb dX0_powerOf_5 (by decide) (fun c_5 => ?_) (fun c_5 => ?_)
  · have c_5 := bI_0 c_5
    refine lv_iconst (v := 0) hx hb dX0_powerOf_21 (by decide) ?_
    exact k_endR (ty := .int) hx hb hr hlocks (rfl) (by unfold fPw; rw [if_neg c_5]) dX0_powerOf_22
  · have c_5 := bI_n c_5
    refine lv_aload_n hx hb dX0_powerOf_8 rfl (lv_at hl 0 rfl) ?_
    refine lv_iload_n hx hb dX0_powerOf_9 rfl (lv_at hl 1 rfl) ?_
    refine lv_iload_n hx hb dX0_powerOf_10 rfl (lv_at hl 2 rfl) ?_
    refine lv_iload_n hx hb dX0_powerOf_11 rfl (lv_at hl 3 rfl) ?_
    refine k_rd (As := [.int (nI t), .int v, .int w]) (rest := []) (nL := 4) ⟨hx, hb, hml, hown, hts⟩ hK hP (c_X0_windLeft l D a cI cZ ta pl br st md bc n t v w (hn) (by omega) (hpl)) [0, 1, 2, 3, 4, 5] rfl 0 rfl rfl rfl (cwV 3 hts gX0_powerOf_X0_windLeft rfl rfl rfl (by decide +kernel) ⟨Nat.le_of_ble_eq_true rfl, Nat.le_of_ble_eq_true rfl⟩) rfl hl.1 rfl (Nat.le_of_ble_eq_true rfl) dX0_powerOf_12 ⟨Nat.zero_le _, Nat.zero_le _⟩ (fun r9 hr9 => ?_)
    subst hr9
    refine k_pk (As := [.int (fWind w pl br st n v (fP pl t))]) (rest := []) (nL := 4) ⟨hx, hb, hml, hown, hts⟩ hK (c_X0_powerOfWind l D cI cZ (fWind w pl br st n v (fP pl t))) (va_cwS 1 hts gX0_powerOf_X0_powerOfWind rfl rfl rfl (by decide +kernel) ⟨Nat.le_of_ble_eq_true rfl, Nat.le_of_ble_eq_true rfl⟩) rfl hl.1 rfl (Nat.le_of_ble_eq_true rfl) dX0_powerOf_15 ⟨Nat.zero_le _, Nat.zero_le _⟩ (fun r9 hr9 => ?_)
    subst hr9
    refine lv_goto (tgt := 22) hx hb dX0_powerOf_18 (by decide) ?_
    exact k_endR (ty := .int) hx hb hr hlocks (rfl) (by unfold fPw; rw [if_pos c_5]) dX0_powerOf_22

set_option maxHeartbeats 4000000 in
set_option maxRecDepth 100000 in
theorem c_X0_powerOfAll (l : Launch) (D : va_G) (a : Nat → Nat) (cI cZ : ClassId) (ta : Nat → Int32) (pl : Nat → Int32) (br : Nat → Int32) (st : Nat → Int32) (md : Nat → Int32) (bc : Int32) (n : Nat) (v : Int32) (w : Int32) (hn : n ≤ 12) (hpl : ∀ k, k < n → pl k = nI (fP pl k) ∧ fP pl k < 24) : kRd l yX0_powerOfAll wsX0_powerOfAll ({ frames := 4, cells := 0, slots := 0, locals := 95 }) [.ref (a 5), .int v, .int w] D cI cZ (wF a cI cZ ta pl br st md (nI n) bc) (fun r => r = fSum (fPw w pl br st n v) n) := by
  refine Met.ofW (cc := cX0_powerOfAll) (maxL := 5) (ret := (some .int)) (by decide) rfl ?_
  intro p e s m args below meth c s₁ B hml hv
  obtain ⟨rfl, hP, hK⟩ := hv
  have hx := B.exec
  have hb := B.bytes
  have hr := B.returns
  have hts := atoms_spec (ws := wsX0_powerOfAll) B.pre
  have hown : s.vm.findClass RX0 = some m.cls := findClass_of_methodNamed B.named
  have hlocks := B.notSynchronized
  have hl := lv_entry ([.ref (a 5), .int v, .int w]) (n := 5) (Nat.le_of_ble_eq_true rfl)
  rw [lg_entry_eq]
  generalize (lg_sl ([.ref (a 5), .int v, .int w]) ++ List.replicate (5 - (lg_sl ([.ref (a 5), .int v, .int w])).length) Slot.unset).toArray = ls at hl ⊢
  have hl : lv_has ls 5 [(0, .ref (a 5)), (1, .int v), (2, .int w)] := hl
  refine lv_iconst (v := 0) hx hb dX0_powerOfAll_0 (by decide) ?_
  refine lv_istore_n (lv' := [(3, .int 0), (0, .ref (a 5)), (1, .int v), (2, .int w)]) hx hb dX0_powerOfAll_1 rfl hl (by decide) rfl (fun ls hl => ?_)
  refine lv_iconst (v := 0) hx hb dX0_powerOfAll_2 (by decide) ?_
  refine lv_istore (lv' := [(4, .int 0), (3, .int 0), (0, .ref (a 5)), (1, .int v), (2, .int w)]) hx hb dX0_powerOfAll_3 hl (by decide) rfl (fun ls hl => ?_)
  have loop_5 : ∀ (nn : Nat) (k : Nat) (x : Int32), n - k < nn → (k ≤ n) → (x = fSum (fPw w pl br st n v) k) → ∀ (ls : Array Slot), lv_has ls 5 [(0, .ref (a 5)), (1, .int v), (2, .int w), (3, .int x), (4, .int (nI k))] → W p l e (headSpec wsX0_powerOfAll ({ frames := 4, cells := 0, slots := 0, locals := 95 })).room s m ([.ref (a 5), .int v, .int w] : List Value).toArray below meth c s.heap [] 0 0 (MQ below (vp_Si (fun r => r = fSum (fPw w pl br st n v) n)) ([.ref (a 5), .int v, .int w] : List Value).toArray s 0 0 (fun _ => False)) (F0 m 5 ls []) := by
    intro nn
    induction nn with
    | zero => intro k x hm; exact absurd hm (by omega)
    | succ nn ih_5 =>
      intro k x hm hk hx9  ls hl
      refine lv_iload hx hb dX0_powerOfAll_5 (lv_at hl 4 rfl) ?_
      refine lv_aload_n hx hb dX0_powerOfAll_7 rfl (lv_at hl 0 rfl) ?_
      refine va_get (D := D) (ci := 0) (v := .int (nI n)) (C := RX0) (T := TX0) (N := 7) hx hb hts (by decide +kernel) hown hK.1 hP 0 rfl rfl 5 (by decide) (hts (.fieldLink RX0 28 "Turbineorchard$Field" "count" "I") (by decide +kernel)) (fun _ h9 => h9) rfl dX0_powerOfAll_8 ?_
      refine lv_icmp_ge (tgt := 31) hx hb dX0_powerOfAll_11 (by decide) (fun c_11 => ?_) (fun c_11 => ?_)
      · have e8 : k = n := by have := (nI_leI (a := n) (b := k) (by omega) (by omega)).mp c_11; omega
        refine lv_iload_n hx hb dX0_powerOfAll_31 rfl (lv_at hl 3 rfl) ?_
        exact k_endR (ty := .int) hx hb hr hlocks (rfl) (by rw [hx9, e8]) dX0_powerOfAll_32
      · have c_11 : k < n := Nat.lt_of_not_le (fun h => c_11 ((nI_leI (a := n) (b := k) (by omega) (by omega)).mpr h))
        refine lv_iload_n hx hb dX0_powerOfAll_14 rfl (lv_at hl 3 rfl) ?_
        refine lv_aload_n hx hb dX0_powerOfAll_15 rfl (lv_at hl 0 rfl) ?_
        refine lv_iload hx hb dX0_powerOfAll_16 (lv_at hl 4 rfl) ?_
        refine lv_iload_n hx hb dX0_powerOfAll_18 rfl (lv_at hl 1 rfl) ?_
        refine lv_iload_n hx hb dX0_powerOfAll_19 rfl (lv_at hl 2 rfl) ?_
        refine k_rd (As := [.int (nI k), .int v, .int w]) (rest := [.int x]) (nL := 5) ⟨hx, hb, hml, hown, hts⟩ hK hP (c_X0_powerOf l D a cI cZ ta pl br st md bc n k v w (hn) (by omega) (hpl)) [0, 1, 2, 3, 4, 5] rfl 0 rfl rfl rfl (cwV 3 hts gX0_powerOfAll_X0_powerOf rfl rfl rfl (by decide +kernel) ⟨Nat.le_of_ble_eq_true rfl, Nat.le_of_ble_eq_true rfl⟩) rfl hl.1 rfl (Nat.le_of_ble_eq_true rfl) dX0_powerOfAll_20 ⟨Nat.zero_le _, Nat.zero_le _⟩ (fun r9 hr9 => ?_)
        subst hr9
        refine lv_iadd hx hb dX0_powerOfAll_23 ?_
        refine lv_istore_n (lv' := [(3, .int (x + (fPw w pl br st n v k))), (0, .ref (a 5)), (1, .int v), (2, .int w), (4, .int (nI k))]) hx hb dX0_powerOfAll_24 rfl hl (by decide) rfl (fun ls hl => ?_)
        refine lv_iinc (v := nI (k + 1)) (lv' := [(4, .int (nI (k + 1))), (3, .int (x + (fPw w pl br st n v k))), (0, .ref (a 5)), (1, .int v), (2, .int w)]) hx hb dX0_powerOfAll_25 hl (k := 4) rfl (nI_1 _) (by decide) rfl (fun ls hl => ?_)
        refine lv_goto (tgt := 5) hx hb dX0_powerOfAll_28 (by decide) ?_
        exact ih_5 (k + 1) (x + (fPw w pl br st n v k)) (by omega) (by omega) (by rw [hx9]; rfl) _ (lv_sub hl [2, 3, 4, 1, 0] rfl)
  exact loop_5 (n - 0 + 1) 0 0 (by omega) (by omega) (rfl) _ (lv_sub hl [2, 3, 4, 1, 0] rfl)

set_option maxHeartbeats 4000000 in
set_option maxRecDepth 100000 in
theorem c_X0_generate (l : Launch) (D : va_G) (a : Nat → Nat) (cI cZ : ClassId) (sz : Nat) (ta : Nat → Int32) (pl : Nat → Int32) (br : Nat → Int32) (st : Nat → Int32) (md : Nat → Int32) (bc : Int32) (n : Nat) (v : Int32) (w : Int32) (hn : n ≤ 12) (hpl : ∀ k, k < n → pl k = nI (fP pl k) ∧ fP pl k < 24) : kUi l yX0_generate wsX0_generate ({ frames := 4, cells := 0, slots := 0, locals := 95 }) [.ref (a 5), .int v, .int w] D cI cZ sz (wF a cI cZ ta pl br st md (nI n) bc) (wF a cI cZ ta pl br st (fAddR md (fPw w pl br st n v) n) (nI n) bc) (fun r => r = fSum (fPw w pl br st n v) n) := by
  refine Met.ofW (cc := cX0_generate) (maxL := 6) (ret := (some .int)) (by decide) rfl ?_
  intro p e s m args below meth c s₁ B hml hv
  obtain ⟨rfl, hsz, hP, hK, hD0⟩ := hv
  have hx := B.exec
  have hb := B.bytes
  have hr := B.returns
  have hts := atoms_spec (ws := wsX0_generate) B.pre
  have hown : s.vm.findClass RX0 = some m.cls := findClass_of_methodNamed B.named
  have hlocks := B.notSynchronized
  subst hsz
  have hD := hD0.self (sz := s.heap.size)
  generalize hAe : va_A (wF a cI cZ ta pl br st md (nI n) bc) s.heap.size = A at hD ⊢
  have hA : ∀ q : Nat, s.heap.size ≤ q → A q := fun q h => by rw [← hAe]; exact Or.inr h
  have hS : va_S A s.heap s.heap [] := va_S.rf
  have hl := lv_entry ([.ref (a 5), .int v, .int w]) (n := 6) (Nat.le_of_ble_eq_true rfl)
  rw [lg_entry_eq]
  generalize (lg_sl ([.ref (a 5), .int v, .int w]) ++ List.replicate (6 - (lg_sl ([.ref (a 5), .int v, .int w])).length) Slot.unset).toArray = ls at hl ⊢
  have hl : lv_has ls 6 [(0, .ref (a 5)), (1, .int v), (2, .int w)] := hl
  refine lv_iconst (v := 0) hx hb dX0_generate_0 (by decide) ?_
  have e9 : md = (fAddR md (fPw w pl br st n v) 0) := (fAddR_0 md _).symm
  rw [e9] at hP hD
  clear e9
  refine lv_istore_n (lv' := [(3, .int 0), (0, .ref (a 5)), (1, .int v), (2, .int w)]) hx hb dX0_generate_1 rfl hl (by decide) rfl (fun ls hl => ?_)
  refine lv_iconst (v := 0) hx hb dX0_generate_2 (by decide) ?_
  refine lv_istore (lv' := [(4, .int 0), (3, .int 0), (0, .ref (a 5)), (1, .int v), (2, .int w)]) hx hb dX0_generate_3 hl (by decide) rfl (fun ls hl => ?_)
  have loop_5 : ∀ (nn : Nat) (k : Nat) (x : Int32), n - k < nn → (k ≤ n) → (x = fSum (fPw w pl br st n v) k) → ∀ (H : Heap) (locs : List Loc), va_P D vwCl (wF a cI cZ ta pl br st (fAddR md (fPw w pl br st n v) k) (nI n) bc) H → va_D A (wF a cI cZ ta pl br st (fAddR md (fPw w pl br st n v) k) (nI n) bc) → va_S A s.heap H locs → ∀ (ls : Array Slot), lv_has ls 6 [(0, .ref (a 5)), (1, .int v), (2, .int w), (3, .int x), (4, .int (nI k))] → W p l e (headSpec wsX0_generate ({ frames := 4, cells := 0, slots := 0, locals := 95 })).room s m ([.ref (a 5), .int v, .int w] : List Value).toArray below meth c H locs 0 0 (MQ below (va_Qi (fun (r : Int32) (_ : Unit) => (fun r => r = fSum (fPw w pl br st n v) n) r) (fun _ t9 => kAt D A (wF a cI cZ ta pl br st (fAddR md (fPw w pl br st n v) n) (nI n) bc) t9) A) ([.ref (a 5), .int v, .int w] : List Value).toArray s 0 0 A) (F0 m 5 ls []) := by
    intro nn
    induction nn with
    | zero => intro k x hm; exact absurd hm (by omega)
    | succ nn ih_5 =>
      intro k x hm hk hx9 H locs hP hD hS ls hl
      refine lv_iload hx hb dX0_generate_5 (lv_at hl 4 rfl) ?_
      refine lv_aload_n hx hb dX0_generate_7 rfl (lv_at hl 0 rfl) ?_
      refine va_get (D := D) (ci := 0) (v := .int (nI n)) (C := RX0) (T := TX0) (N := 7) hx hb hts (by decide +kernel) hown hK.1 hP 0 rfl rfl 5 (by decide) (hts (.fieldLink RX0 28 "Turbineorchard$Field" "count" "I") (by decide +kernel)) (fun _ h9 => h9) rfl dX0_generate_8 ?_
      refine lv_icmp_ge (tgt := 47) hx hb dX0_generate_11 (by decide) (fun c_11 => ?_) (fun c_11 => ?_)
      · have e8 : k = n := by have := (nI_leI (a := n) (b := k) (by omega) (by omega)).mp c_11; omega
        rw [e8] at hP hD hx9
        refine lv_iload_n hx hb dX0_generate_47 rfl (lv_at hl 3 rfl) ?_
        exact k_endI (ty := .int) hx hb hr hlocks (rfl) (hx9) hP hD hS dX0_generate_48
      · have c_11 : k < n := Nat.lt_of_not_le (fun h => c_11 ((nI_leI (a := n) (b := k) (by omega) (by omega)).mpr h))
        refine lv_aload_n hx hb dX0_generate_14 rfl (lv_at hl 0 rfl) ?_
        refine lv_iload hx hb dX0_generate_15 (lv_at hl 4 rfl) ?_
        refine lv_iload_n hx hb dX0_generate_17 rfl (lv_at hl 1 rfl) ?_
        refine lv_iload_n hx hb dX0_generate_18 rfl (lv_at hl 2 rfl) ?_
        refine k_rd (As := [.int (nI k), .int v, .int w]) (rest := []) (nL := 6) ⟨hx, hb, hml, hown, hts⟩ hK hP (c_X0_powerOf l D a cI cZ ta pl br st (fAddR md (fPw w pl br st n v) k) bc n k v w (hn) (by omega) (hpl)) [0, 1, 2, 3, 4, 5] rfl 0 rfl rfl rfl (cwV 3 hts gX0_generate_X0_powerOf rfl rfl rfl (by decide +kernel) ⟨Nat.le_of_ble_eq_true rfl, Nat.le_of_ble_eq_true rfl⟩) rfl hl.1 rfl (Nat.le_of_ble_eq_true rfl) dX0_generate_19 ⟨Nat.zero_le _, Nat.zero_le _⟩ (fun r9 hr9 => ?_)
        subst hr9
        refine lv_istore (lv' := [(5, .int (fPw w pl br st n v k)), (0, .ref (a 5)), (1, .int v), (2, .int w), (3, .int x), (4, .int (nI k))]) hx hb dX0_generate_22 hl (by decide) rfl (fun ls hl => ?_)
        refine lv_aload_n hx hb dX0_generate_24 rfl (lv_at hl 1 rfl) ?_
        refine va_get (D := D) (ci := 0) (v := .ref (a 10)) (C := RX0) (T := TX0) (N := 7) hx hb hts (by decide +kernel) hown hK.1 hP 0 rfl rfl 4 (by decide) (hts (.fieldLink RX0 25 "Turbineorchard$Field" "madeInAll" "[I") (by decide +kernel)) (fun _ h9 => h9) rfl dX0_generate_25 ?_
        refine lv_iload hx hb dX0_generate_28 (lv_at hl 5 rfl) ?_
        refine lv_dup2_11 hx hb dX0_generate_30 rfl rfl ?_
        refine k_iald hx hb hK.1 hP 5 0 rfl rfl k (rfl) (by omega) (by decide) dX0_generate_31 ?_
        refine lv_iload hx hb dX0_generate_32 (lv_at hl 0 rfl) ?_
        refine lv_iadd hx hb dX0_generate_34 ?_
        refine k_iast hx hb hK.1 hP hD hS 5 0 rfl rfl k (rfl) (by omega) (by decide) dX0_generate_35 (fun H locs hP hD hS => ?_)
        have hP : va_P D vwCl (wF a cI cZ ta pl br st (upd (fAddR md (fPw w pl br st n v) k) k (((fAddR md (fPw w pl br st n v) k) k) + (fPw w pl br st n v k))) (nI n) bc) H := hP
        have hD : va_D A (wF a cI cZ ta pl br st (upd (fAddR md (fPw w pl br st n v) k) k (((fAddR md (fPw w pl br st n v) k) k) + (fPw w pl br st n v k))) (nI n) bc) := hD
        have e9 : (upd (fAddR md (fPw w pl br st n v) k) k (((fAddR md (fPw w pl br st n v) k) k) + (fPw w pl br st n v k))) = (fAddR md (fPw w pl br st n v) (k + 1)) := fAddR_1 md _ k
        rw [e9] at hP hD
        clear e9
        refine lv_iload_n hx hb dX0_generate_36 rfl (lv_at hl 4 rfl) ?_
        refine lv_iload hx hb dX0_generate_37 (lv_at hl 0 rfl) ?_
        refine lv_iadd hx hb dX0_generate_39 ?_
        refine lv_istore_n (lv' := [(3, .int (x + (fPw w pl br st n v k))), (5, .int (fPw w pl br st n v k)), (0, .ref (a 5)), (1, .int v), (2, .int w), (4, .int (nI k))]) hx hb dX0_generate_40 rfl hl (by decide) rfl (fun ls hl => ?_)
        refine lv_iinc (v := nI (k + 1)) (lv' := [(4, .int (nI (k + 1))), (3, .int (x + (fPw w pl br st n v k))), (5, .int (fPw w pl br st n v k)), (0, .ref (a 5)), (1, .int v), (2, .int w)]) hx hb dX0_generate_41 hl (k := 5) rfl (nI_1 _) (by decide) rfl (fun ls hl => ?_)
        refine lv_goto (tgt := 5) hx hb dX0_generate_44 (by decide) ?_
        exact ih_5 (k + 1) (x + (fPw w pl br st n v k)) (by omega) (by omega) (by rw [hx9]; rfl) _ _ hP hD hS _ (lv_sub hl [3, 4, 5, 1, 0] rfl)
  exact loop_5 (n - 0 + 1) 0 0 (by omega) (by omega) (rfl) _ _ hP hD hS _ (lv_sub hl [2, 3, 4, 1, 0] rfl)

set_option maxHeartbeats 4000000 in
set_option maxRecDepth 100000 in
theorem c_X0_windLeftAnew (l : Launch) (D : va_G) (a : Nat → Nat) (cI cZ : ClassId) (ta : Nat → Int32) (pl : Nat → Int32) (br : Nat → Int32) (st : Nat → Int32) (md : Nat → Int32) (bc : Int32) (n : Nat) (q : Nat) (v : Int32) (w : Int32) (hn : n ≤ 12) (hq : q < 24) : kRd l yX0_windLeftAnew wsX0_windLeftAnew ({ frames := 2, cells := 0, slots := 0, locals := 43 }) [.ref (a 5), .int (nI q), .int v, .int w] D cI cZ (wF a cI cZ ta pl br st md (nI n) bc) (fun r => r = fAnew w ta br st n v q) := by
  refine Met.ofW (cc := cX0_windLeftAnew) (maxL := 9) (ret := (some .int)) (by decide) rfl ?_
  intro p e s m args below meth c s₁ B hml hv
  obtain ⟨rfl, hP, hK⟩ := hv
  have hx := B.exec
  have hb := B.bytes
  have hr := B.returns
  have hts := atoms_spec (ws := wsX0_windLeftAnew) B.pre
  have hown : s.vm.findClass RX0 = some m.cls := findClass_of_methodNamed B.named
  have hlocks := B.notSynchronized
  have hl := lv_entry ([.ref (a 5), .int (nI q), .int v, .int w]) (n := 9) (Nat.le_of_ble_eq_true rfl)
  rw [lg_entry_eq]
  generalize (lg_sl ([.ref (a 5), .int (nI q), .int v, .int w]) ++ List.replicate (9 - (lg_sl ([.ref (a 5), .int (nI q), .int v, .int w])).length) Slot.unset).toArray = ls at hl ⊢
  have hl : lv_has ls 9 [(0, .ref (a 5)), (1, .int (nI q)), (2, .int v), (3, .int w)] := hl
  have join_10 :  ∀ (ls : Array Slot), lv_has ls 9 [(0, .ref (a 5)), (1, .int (nI q)), (2, .int v), (3, .int w)] → W p l e (headSpec wsX0_windLeftAnew ({ frames := 2, cells := 0, slots := 0, locals := 43 })).room s m ([.ref (a 5), .int (nI q), .int v, .int w] : List Value).toArray below meth c s.heap [] 0 0 (MQ below (vp_Si (fun r => r = fAnew w ta br st n v q)) ([.ref (a 5), .int (nI q), .int v, .int w] : List Value).toArray s 0 0 (fun _ => False)) (F0 m 10 ls [.int (nI (fPace w))]) := by
    intro    ls hl
    refine lv_istore (lv' := [(4, .int (nI (fPace w))), (0, .ref (a 5)), (1, .int (nI q)), (2, .int v), (3, .int w)]) hx hb dX0_windLeftAnew_10 hl (by decide) rfl (fun ls hl => ?_)
    have ha := fAhd_lt (w := w) hq
    refine lv_iload_n hx hb dX0_windLeftAnew_12 rfl (lv_at hl 2 rfl) ?_
    refine lv_iload_n hx hb dX0_windLeftAnew_13 rfl (lv_at hl 4 rfl) ?_
    refine k_ps (As := [.int (nI q), .int w]) (rest := []) (nL := 9) ⟨hx, hb, hml, hown, hts⟩ (c_X0_placesAhead l q w (by omega)) (va_cwS 2 hts gX0_windLeftAnew_X0_placesAhead rfl rfl rfl (by decide +kernel) ⟨Nat.le_of_ble_eq_true rfl, Nat.le_of_ble_eq_true rfl⟩) rfl hl.1 rfl (Nat.le_of_ble_eq_true rfl) dX0_windLeftAnew_14 ⟨Nat.zero_le _, Nat.zero_le _⟩ (fun r9 hr9 => ?_)
    subst hr9
    refine lv_istore (lv' := [(5, .int (nI (fAhd w q))), (4, .int (nI (fPace w))), (0, .ref (a 5)), (1, .int (nI q)), (2, .int v), (3, .int w)]) hx hb dX0_windLeftAnew_17 hl (by decide) rfl (fun ls hl => ?_)
    refine lv_iload_n hx hb dX0_windLeftAnew_19 rfl (lv_at hl 4 rfl) ?_
    refine lv_istore (lv' := [(6, .int v), (5, .int (nI (fAhd w q))), (4, .int (nI (fPace w))), (0, .ref (a 5)), (1, .int (nI q)), (2, .int v), (3, .int w)]) hx hb dX0_windLeftAnew_20 hl (by decide) rfl (fun ls hl => ?_)
    refine lv_iconst (v := 1) hx hb dX0_windLeftAnew_22 (by decide) ?_
    refine lv_istore (lv' := [(7, .int 1), (6, .int v), (5, .int (nI (fAhd w q))), (4, .int (nI (fPace w))), (0, .ref (a 5)), (1, .int (nI q)), (2, .int v), (3, .int w)]) hx hb dX0_windLeftAnew_23 hl (by decide) rfl (fun ls hl => ?_)
    have loop_25 : ∀ (nn : Nat) (k : Nat) (x : Int32), fAhd w q - k < nn → (k ≤ fAhd w q) → (x = fStep (fun d => fOther n ta br st (q - d * fPace w)) v k) → ∀ (ls : Array Slot), lv_has ls 9 [(0, .ref (a 5)), (1, .int (nI q)), (4, .int (nI (fPace w))), (5, .int (nI (fAhd w q))), (6, .int x), (7, .int (nI (k + 1)))] → W p l e (headSpec wsX0_windLeftAnew ({ frames := 2, cells := 0, slots := 0, locals := 43 })).room s m ([.ref (a 5), .int (nI q), .int v, .int w] : List Value).toArray below meth c s.heap [] 0 0 (MQ below (vp_Si (fun r => r = fAnew w ta br st n v q)) ([.ref (a 5), .int (nI q), .int v, .int w] : List Value).toArray s 0 0 (fun _ => False)) (F0 m 25 ls []) := by
      intro nn
      induction nn with
      | zero => intro k x hm; exact absurd hm (by omega)
      | succ nn ih_25 =>
        intro k x hm hk hx9  ls hl
        refine lv_iload hx hb dX0_windLeftAnew_25 (lv_at hl 5 rfl) ?_
        refine lv_iload hx hb dX0_windLeftAnew_27 (lv_at hl 3 rfl) ?_
        refine lv_icmp_gt (tgt := 82) hx hb dX0_windLeftAnew_29 (by decide) (fun c_29 => ?_) (fun c_29 => ?_)
        · have e8 : k = fAhd w q := by have := (nI_ltI (a := fAhd w q) (b := k + 1) (by omega) (by omega)).mp c_29; omega
          refine lv_iload hx hb dX0_windLeftAnew_82 (lv_at hl 4 rfl) ?_
          exact k_endR (ty := .int) hx hb hr hlocks (rfl) (by rw [hx9, e8]; rfl) dX0_windLeftAnew_84
        · have c_29 : k + 1 ≤ fAhd w q := Nat.le_of_not_lt (fun h => c_29 ((nI_ltI (a := fAhd w q) (b := k + 1) (by omega) (by omega)).mpr h))
          refine lv_aload_n hx hb dX0_windLeftAnew_32 rfl (lv_at hl 0 rfl) ?_
          refine va_get (D := D) (ci := 0) (v := .ref (a 6)) (C := RX0) (T := TX0) (N := 7) hx hb hts (by decide +kernel) hown hK.1 hP 0 rfl rfl 0 (by decide) (hts (.fieldLink RX0 9 "Turbineorchard$Field" "turbineAt" "[I") (by decide +kernel)) (fun _ h9 => h9) rfl dX0_windLeftAnew_33 ?_
          refine lv_iload_n hx hb dX0_windLeftAnew_36 rfl (lv_at hl 1 rfl) ?_
          refine lv_iload hx hb dX0_windLeftAnew_37 (lv_at hl 5 rfl) ?_
          refine lv_iload hx hb dX0_windLeftAnew_39 (lv_at hl 2 rfl) ?_
          refine lv_imul hx hb dX0_windLeftAnew_41 ?_
          refine lv_isub hx hb dX0_windLeftAnew_42 ?_
          have hpc := pace_in (d := k + 1) hq c_29
          refine k_rw (y := nI (q - (k + 1) * fPace w)) (by rw [pk_mul, pk_sub hpc]) ?_
          refine k_iald hx hb hK.1 hP 1 0 rfl rfl (q - (k + 1) * fPace w) (rfl) (by omega) (by decide) dX0_windLeftAnew_43 ?_
          refine lv_istore (lv' := [(8, .int (ta (q - (k + 1) * fPace w))), (0, .ref (a 5)), (1, .int (nI q)), (4, .int (nI (fPace w))), (5, .int (nI (fAhd w q))), (6, .int x), (7, .int (nI (k + 1)))]) hx hb dX0_windLeftAnew_44 hl (by decide) rfl (fun ls hl => ?_)
          refine lv_aload_n hx hb dX0_windLeftAnew_46 rfl (lv_at hl 1 rfl) ?_
          refine lv_iload hx hb dX0_windLeftAnew_47 (lv_at hl 0 rfl) ?_
          refine k_rd (As := [.int (ta (q - (k + 1) * fPace w))]) (rest := []) (nL := 9) ⟨hx, hb, hml, hown, hts⟩ hK hP (c_X0_has l D a cI cZ ta pl br st md bc n (ta (q - (k + 1) * fPace w)) (hn)) [0, 1, 2, 3, 4, 5] rfl 0 rfl rfl rfl (cwV 1 hts gX0_windLeftAnew_X0_has rfl rfl rfl (by decide +kernel) ⟨Nat.le_of_ble_eq_true rfl, Nat.le_of_ble_eq_true rfl⟩) rfl hl.1 rfl (Nat.le_of_ble_eq_true rfl) dX0_windLeftAnew_49 ⟨Nat.zero_le _, Nat.zero_le _⟩ (fun r9 hr9 => ?_)
          subst hr9
          refine lv_if_eq (tgt := 76) hx hb dX0_windLeftAnew_52 (by decide) (fun c_52 => ?_) (fun c_52 => ?_)
          · have c_52 := bI_0 c_52
            refine lv_iinc (v := nI ((k + 1) + 1)) (lv' := [(7, .int (nI ((k + 1) + 1))), (8, .int (ta (q - (k + 1) * fPace w))), (0, .ref (a 5)), (1, .int (nI q)), (4, .int (nI (fPace w))), (5, .int (nI (fAhd w q))), (6, .int x)]) hx hb dX0_windLeftAnew_76 hl (k := 6) rfl (nI_1 _) (by decide) rfl (fun ls hl => ?_)
            refine lv_goto (tgt := 25) hx hb dX0_windLeftAnew_79 (by decide) ?_
            exact ih_25 (k + 1) x (by omega) (by omega) (by simp only [fStep]; rw [if_neg (fun h => c_52 (of_decide_eq_true h).1), hx9]) _ (lv_sub hl [2, 3, 4, 5, 6, 0] rfl)
          · have c_52 := bI_n c_52
            have c9 := hasT_P hn c_52
            refine lv_aload_n hx hb dX0_windLeftAnew_55 rfl (lv_at hl 1 rfl) ?_
            refine lv_iload hx hb dX0_windLeftAnew_56 (lv_at hl 0 rfl) ?_
            refine k_rw (y := nI (fP ta (q - (k + 1) * fPace w))) (c9.2) ?_
            refine k_rd (As := [.int (nI (fP ta (q - (k + 1) * fPace w)))]) (rest := []) (nL := 9) ⟨hx, hb, hml, hown, hts⟩ hK hP (c_X0_turns l D a cI cZ ta pl br st md bc n (fP ta (q - (k + 1) * fPace w)) (hn) (c9.1)) [0, 1, 2, 3, 4, 5] rfl 0 rfl rfl rfl (cwV 1 hts gX0_windLeftAnew_X0_turns rfl rfl rfl (by decide +kernel) ⟨Nat.le_of_ble_eq_true rfl, Nat.le_of_ble_eq_true rfl⟩) rfl hl.1 rfl (Nat.le_of_ble_eq_true rfl) dX0_windLeftAnew_58 ⟨Nat.zero_le _, Nat.zero_le _⟩ (fun r9 hr9 => ?_)
            subst hr9
            refine lv_if_eq (tgt := 76) hx hb dX0_windLeftAnew_61 (by decide) (fun c_61 => ?_) (fun c_61 => ?_)
            · have c_61 := bI_0 c_61
              refine lv_iinc (v := nI ((k + 1) + 1)) (lv' := [(7, .int (nI ((k + 1) + 1))), (8, .int (ta (q - (k + 1) * fPace w))), (0, .ref (a 5)), (1, .int (nI q)), (4, .int (nI (fPace w))), (5, .int (nI (fAhd w q))), (6, .int x)]) hx hb dX0_windLeftAnew_76 hl (k := 6) rfl (nI_1 _) (by decide) rfl (fun ls hl => ?_)
              refine lv_goto (tgt := 25) hx hb dX0_windLeftAnew_79 (by decide) ?_
              exact ih_25 (k + 1) x (by omega) (by omega) (by simp only [fStep]; rw [if_neg (fun h => c_61 (of_decide_eq_true h).2), hx9]) _ (lv_sub hl [2, 3, 4, 5, 6, 0] rfl)
            · have c_61 := bI_n c_61
              refine lv_iload hx hb dX0_windLeftAnew_64 (lv_at hl 5 rfl) ?_
              refine lv_iload hx hb dX0_windLeftAnew_66 (lv_at hl 5 rfl) ?_
              refine lv_iload hx hb dX0_windLeftAnew_68 (lv_at hl 6 rfl) ?_
              refine k_ps (As := [.int x, .int (nI (k + 1))]) (rest := [.int x]) (nL := 9) ⟨hx, hb, hml, hown, hts⟩ (c_X0_takenByWake l x (k + 1) (by omega)) (va_cwS 2 hts gX0_windLeftAnew_X0_takenByWake rfl rfl rfl (by decide +kernel) ⟨Nat.le_of_ble_eq_true rfl, Nat.le_of_ble_eq_true rfl⟩) rfl hl.1 rfl (Nat.le_of_ble_eq_true rfl) dX0_windLeftAnew_70 ⟨Nat.zero_le _, Nat.zero_le _⟩ (fun r9 hr9 => ?_)
              subst hr9
              refine lv_isub hx hb dX0_windLeftAnew_73 ?_
              refine lv_istore (lv' := [(6, .int (x - (fTaken x (k + 1)))), (8, .int (ta (q - (k + 1) * fPace w))), (0, .ref (a 5)), (1, .int (nI q)), (4, .int (nI (fPace w))), (5, .int (nI (fAhd w q))), (7, .int (nI (k + 1)))]) hx hb dX0_windLeftAnew_74 hl (by decide) rfl (fun ls hl => ?_)
              refine lv_iinc (v := nI ((k + 1) + 1)) (lv' := [(7, .int (nI ((k + 1) + 1))), (6, .int (x - (fTaken x (k + 1)))), (8, .int (ta (q - (k + 1) * fPace w))), (0, .ref (a 5)), (1, .int (nI q)), (4, .int (nI (fPace w))), (5, .int (nI (fAhd w q)))]) hx hb dX0_windLeftAnew_76 hl (k := 6) rfl (nI_1 _) (by decide) rfl (fun ls hl => ?_)
              refine lv_goto (tgt := 25) hx hb dX0_windLeftAnew_79 (by decide) ?_
              exact ih_25 (k + 1) (x - (fTaken x (k + 1))) (by omega) (by omega) (by simp only [fStep]; rw [if_pos (show fOther n ta br st (q - (k + 1) * fPace w) = true from decide_eq_true ⟨c_52, c_61⟩), hx9]) _ (lv_sub hl [3, 4, 5, 6, 1, 0] rfl)
    exact loop_25 (fAhd w q - 0 + 1) 0 v (by omega) (by omega) (rfl) _ (lv_sub hl [4, 5, 3, 2, 1, 0] rfl)
  refine lv_iload_n hx hb dX0_windLeftAnew_0 rfl (lv_at hl 3 rfl) ?_
  refine lv_if_eq (tgt := 8) hx hb dX0_windLeftAnew_1 (by decide) (fun c_1 => ?_) (fun c_1 => ?_)
  · refine lv_bipush (v := 6) hx hb dX0_windLeftAnew_8 (by decide) ?_
    refine k_rw (y := nI (fPace w)) (by unfold fPace; rw [if_pos c_1]; rfl) ?_
    exact join_10   _ (lv_sub hl [0, 1, 2, 3] rfl)
  · refine lv_iconst (v := 1) hx hb dX0_windLeftAnew_4 (by decide) ?_
    refine lv_goto (tgt := 10) hx hb dX0_windLeftAnew_5 (by decide) ?_
    refine k_rw (y := nI (fPace w)) (by unfold fPace; rw [if_neg c_1]; rfl) ?_
    exact join_10   _ (lv_sub hl [0, 1, 2, 3] rfl)

set_option maxHeartbeats 4000000 in
set_option maxRecDepth 100000 in
theorem c_X0_powerOfAllAnew (l : Launch) (D : va_G) (a : Nat → Nat) (cI cZ : ClassId) (ta : Nat → Int32) (pl : Nat → Int32) (br : Nat → Int32) (st : Nat → Int32) (md : Nat → Int32) (bc : Int32) (n : Nat) (v : Int32) (w : Int32) (hn : n ≤ 12) (hpl : ∀ k, k < n → pl k = nI (fP pl k) ∧ fP pl k < 24) : kRd l yX0_powerOfAllAnew wsX0_powerOfAllAnew ({ frames := 3, cells := 0, slots := 0, locals := 71 }) [.ref (a 5), .int v, .int w] D cI cZ (wF a cI cZ ta pl br st md (nI n) bc) (fun r => r = fSum (fPwAnew w pl ta br st n v) n) := by
  refine Met.ofW (cc := cX0_powerOfAllAnew) (maxL := 5) (ret := (some .int)) (by decide) rfl ?_
  intro p e s m args below meth c s₁ B hml hv
  obtain ⟨rfl, hP, hK⟩ := hv
  have hx := B.exec
  have hb := B.bytes
  have hr := B.returns
  have hts := atoms_spec (ws := wsX0_powerOfAllAnew) B.pre
  have hown : s.vm.findClass RX0 = some m.cls := findClass_of_methodNamed B.named
  have hlocks := B.notSynchronized
  have hl := lv_entry ([.ref (a 5), .int v, .int w]) (n := 5) (Nat.le_of_ble_eq_true rfl)
  rw [lg_entry_eq]
  generalize (lg_sl ([.ref (a 5), .int v, .int w]) ++ List.replicate (5 - (lg_sl ([.ref (a 5), .int v, .int w])).length) Slot.unset).toArray = ls at hl ⊢
  have hl : lv_has ls 5 [(0, .ref (a 5)), (1, .int v), (2, .int w)] := hl
  refine lv_iconst (v := 0) hx hb dX0_powerOfAllAnew_0 (by decide) ?_
  refine lv_istore_n (lv' := [(3, .int 0), (0, .ref (a 5)), (1, .int v), (2, .int w)]) hx hb dX0_powerOfAllAnew_1 rfl hl (by decide) rfl (fun ls hl => ?_)
  refine lv_aload_n hx hb dX0_powerOfAllAnew_2 rfl (lv_at hl 1 rfl) ?_
  refine va_get (D := D) (ci := 0) (v := .int (nI n)) (C := RX0) (T := TX0) (N := 7) hx hb hts (by decide +kernel) hown hK.1 hP 0 rfl rfl 5 (by decide) (hts (.fieldLink RX0 28 "Turbineorchard$Field" "count" "I") (by decide +kernel)) (fun _ h9 => h9) rfl dX0_powerOfAllAnew_3 ?_
  refine lv_iconst (v := 1) hx hb dX0_powerOfAllAnew_6 (by decide) ?_
  refine lv_isub hx hb dX0_powerOfAllAnew_7 ?_
  refine k_rw (y := nI n + -1) (by rw [Int32.sub_eq_add_neg]) ?_
  refine lv_istore (lv' := [(4, .int (nI n + -1)), (3, .int 0), (0, .ref (a 5)), (1, .int v), (2, .int w)]) hx hb dX0_powerOfAllAnew_8 hl (by decide) rfl (fun ls hl => ?_)
  have loop_10 : ∀ (nn : Nat) (j : Nat) (x : Int32), j < nn → (j ≤ n) → (x = fSum (fPwAnew w pl ta br st n v) n - fSum (fPwAnew w pl ta br st n v) j) → ∀ (ls : Array Slot), lv_has ls 5 [(0, .ref (a 5)), (1, .int v), (2, .int w), (3, .int x), (4, .int (nI j + -1))] → W p l e (headSpec wsX0_powerOfAllAnew ({ frames := 3, cells := 0, slots := 0, locals := 71 })).room s m ([.ref (a 5), .int v, .int w] : List Value).toArray below meth c s.heap [] 0 0 (MQ below (vp_Si (fun r => r = fSum (fPwAnew w pl ta br st n v) n)) ([.ref (a 5), .int v, .int w] : List Value).toArray s 0 0 (fun _ => False)) (F0 m 10 ls []) := by
    intro nn
    induction nn with
    | zero => intro j x hm; exact absurd hm (by omega)
    | succ nn ih_10 =>
      intro j x hm hj hx9  ls hl
      refine lv_iload hx hb dX0_powerOfAllAnew_10 (lv_at hl 4 rfl) ?_
      refine lv_if_lt (tgt := 49) hx hb dX0_powerOfAllAnew_12 (by decide) (fun c_12 => ?_) (fun c_12 => ?_)
      · have e8 : j = 0 := (nI_m1_lt (by omega)).mp c_12
        refine lv_iload_n hx hb dX0_powerOfAllAnew_49 rfl (lv_at hl 3 rfl) ?_
        exact k_endR (ty := .int) hx hb hr hlocks (rfl) (by rw [hx9, e8]; exact Int32.sub_zero _) dX0_powerOfAllAnew_50
      · have h8 : ¬ j = 0 := fun h => c_12 ((nI_m1_lt (by omega)).mpr h)
        obtain ⟨k, rfl⟩ : ∃ k, j = k + 1 := ⟨j - 1, by omega⟩
        rw [pk_m1] at hl
        refine lv_aload_n hx hb dX0_powerOfAllAnew_15 rfl (lv_at hl 0 rfl) ?_
        refine lv_iload hx hb dX0_powerOfAllAnew_16 (lv_at hl 4 rfl) ?_
        refine k_rd (As := [.int (nI k)]) (rest := []) (nL := 5) ⟨hx, hb, hml, hown, hts⟩ hK hP (c_X0_turns l D a cI cZ ta pl br st md bc n k (hn) (by omega)) [0, 1, 2, 3, 4, 5] rfl 0 rfl rfl rfl (cwV 1 hts gX0_powerOfAllAnew_X0_turns rfl rfl rfl (by decide +kernel) ⟨Nat.le_of_ble_eq_true rfl, Nat.le_of_ble_eq_true rfl⟩) rfl hl.1 rfl (Nat.le_of_ble_eq_true rfl) dX0_powerOfAllAnew_18 ⟨Nat.zero_le _, Nat.zero_le _⟩ (fun r9 hr9 => ?_)
        subst hr9
        refine lv_if_eq (tgt := 43) hx hb dX0_powerOfAllAnew_21 (by decide) (fun c_21 => ?_) (fun c_21 => ?_)
        · have c_21 := bI_0 c_21
          refine lv_iinc (v := (nI k) + (-1)) (lv' := [(4, .int ((nI k) + (-1))), (0, .ref (a 5)), (1, .int v), (2, .int w), (3, .int x)]) hx hb dX0_powerOfAllAnew_43 hl (k := 4) rfl (rfl) (by decide) rfl (fun ls hl => ?_)
          refine lv_goto (tgt := 10) hx hb dX0_powerOfAllAnew_46 (by decide) ?_
          exact ih_10 k x (by omega) (by omega) (by rw [hx9, ← fSum_back _ n k, show (fPwAnew w pl ta br st n v) k = 0 from if_neg c_21, Int32.add_zero]) _ (lv_sub hl [1, 2, 3, 4, 0] rfl)
        · have c_21 := bI_n c_21
          refine lv_iload_n hx hb dX0_powerOfAllAnew_24 rfl (lv_at hl 3 rfl) ?_
          refine lv_aload_n hx hb dX0_powerOfAllAnew_25 rfl (lv_at hl 0 rfl) ?_
          refine lv_aload_n hx hb dX0_powerOfAllAnew_26 rfl (lv_at hl 0 rfl) ?_
          refine va_get (D := D) (ci := 0) (v := .ref (a 7)) (C := RX0) (T := TX0) (N := 7) hx hb hts (by decide +kernel) hown hK.1 hP 0 rfl rfl 1 (by decide) (hts (.fieldLink RX0 15 "Turbineorchard$Field" "places" "[I") (by decide +kernel)) (fun _ h9 => h9) rfl dX0_powerOfAllAnew_27 ?_
          refine lv_iload hx hb dX0_powerOfAllAnew_30 (lv_at hl 4 rfl) ?_
          refine k_iald hx hb hK.1 hP 2 0 rfl rfl k (rfl) (by omega) (by decide) dX0_powerOfAllAnew_32 ?_
          refine k_rw (y := nI (fP pl k)) ((hpl k (by omega)).1) ?_
          refine lv_iload_n hx hb dX0_powerOfAllAnew_33 rfl (lv_at hl 1 rfl) ?_
          refine lv_iload_n hx hb dX0_powerOfAllAnew_34 rfl (lv_at hl 2 rfl) ?_
          refine k_rd (As := [.int (nI (fP pl k)), .int v, .int w]) (rest := [.int x]) (nL := 5) ⟨hx, hb, hml, hown, hts⟩ hK hP (c_X0_windLeftAnew l D a cI cZ ta pl br st md bc n (fP pl k) v w (hn) ((hpl k (by omega)).2)) [0, 1, 2, 3, 4, 5] rfl 0 rfl rfl rfl (cwV 3 hts gX0_powerOfAllAnew_X0_windLeftAnew rfl rfl rfl (by decide +kernel) ⟨Nat.le_of_ble_eq_true rfl, Nat.le_of_ble_eq_true rfl⟩) rfl hl.1 rfl (Nat.le_of_ble_eq_true rfl) dX0_powerOfAllAnew_35 ⟨Nat.zero_le _, Nat.zero_le _⟩ (fun r9 hr9 => ?_)
          subst hr9
          refine k_pk (As := [.int (fAnew w ta br st n v (fP pl k))]) (rest := [.int x]) (nL := 5) ⟨hx, hb, hml, hown, hts⟩ hK (c_X0_powerOfWind l D cI cZ (fAnew w ta br st n v (fP pl k))) (va_cwS 1 hts gX0_powerOfAllAnew_X0_powerOfWind rfl rfl rfl (by decide +kernel) ⟨Nat.le_of_ble_eq_true rfl, Nat.le_of_ble_eq_true rfl⟩) rfl hl.1 rfl (Nat.le_of_ble_eq_true rfl) dX0_powerOfAllAnew_38 ⟨Nat.zero_le _, Nat.zero_le _⟩ (fun r9 hr9 => ?_)
          subst hr9
          refine lv_iadd hx hb dX0_powerOfAllAnew_41 ?_
          refine lv_istore_n (lv' := [(3, .int (x + (fPow (fAnew w ta br st n v (fP pl k))))), (0, .ref (a 5)), (1, .int v), (2, .int w), (4, .int (nI k))]) hx hb dX0_powerOfAllAnew_42 rfl hl (by decide) rfl (fun ls hl => ?_)
          refine lv_iinc (v := (nI k) + (-1)) (lv' := [(4, .int ((nI k) + (-1))), (3, .int (x + (fPow (fAnew w ta br st n v (fP pl k))))), (0, .ref (a 5)), (1, .int v), (2, .int w)]) hx hb dX0_powerOfAllAnew_43 hl (k := 4) rfl (rfl) (by decide) rfl (fun ls hl => ?_)
          refine lv_goto (tgt := 10) hx hb dX0_powerOfAllAnew_46 (by decide) ?_
          exact ih_10 k (x + (fPow (fAnew w ta br st n v (fP pl k)))) (by omega) (by omega) (by rw [hx9, ← fSum_back _ n k, show (fPwAnew w pl ta br st n v) k = _ from if_pos c_21]) _ (lv_sub hl [2, 3, 4, 1, 0] rfl)
  exact loop_10 (n + 1) n 0 (by omega) (by omega) ((Int32.sub_self _).symm) _ (lv_sub hl [2, 3, 4, 1, 0] rfl)
end
section
set_option maxHeartbeats 4000000 in
set_option maxRecDepth 100000 in
theorem c_X4_isBoat (l : Launch) (x : Int32) : kPs l yX4_isBoat wsX4_isBoat ({ frames := 1, cells := 0, slots := 0, locals := 22 }) [.int x] (fun r => r = bI (0 ≤ x ∧ x ≤ 2)) := by
  refine Met.ofW (cc := cX4_isBoat) (maxL := 1) (ret := (some .boolean)) (by decide) rfl ?_
  intro p e s m args below meth c s₁ B hml hv
  obtain ⟨rfl, -⟩ := hv
  have hx := B.exec
  have hb := B.bytes
  have hr := B.returns
  have hts := atoms_spec (ws := wsX4_isBoat) B.pre
  have hown : s.vm.findClass RX4 = some m.cls := findClass_of_methodNamed B.named
  have hlocks := B.notSynchronized
  have hl := lv_entry ([.int x]) (n := 1) (Nat.le_of_ble_eq_true rfl)
  rw [lg_entry_eq]
  generalize (lg_sl ([.int x]) ++ List.replicate (1 - (lg_sl ([.int x])).length) Slot.unset).toArray = ls at hl ⊢
  have hl : lv_has ls 1 [(0, .int x)] := hl
  refine lv_iload_n hx hb dX4_isBoat_0 rfl (lv_at hl 0 rfl) ?_
  refine lv_iconst (v := 0) hx hb dX4_isBoat_1 (by decide) ?_
  refine lv_iconst (v := 2) hx hb dX4_isBoat_2 (by decide) ?_
  refine k_ps (As := [.int x, .int 0, .int 2]) (rest := []) (nL := 1) ⟨hx, hb, hml, hown, hts⟩ (c_X4_isWithin l x 0 2) (va_cwS 3 hts gX4_isBoat_X4_isWithin rfl rfl rfl (by decide +kernel) ⟨Nat.le_of_ble_eq_true rfl, Nat.le_of_ble_eq_true rfl⟩) rfl hl.1 rfl (Nat.le_of_ble_eq_true rfl) dX4_isBoat_3 ⟨Nat.zero_le _, Nat.zero_le _⟩ (fun r9 hr9 => ?_)
  subst hr9
  exact k_endR (ty := .boolean) hx hb hr hlocks (bI_z) (rfl) dX4_isBoat_6

set_option maxHeartbeats 4000000 in
set_option maxRecDepth 100000 in
theorem c_X4_isToCome (l : Launch) (D : va_G) (a : Nat → Nat) (cI cZ : ClassId) (h : Nat) (x : Int32) : kRd l yX4_isToCome wsX4_isToCome ({ frames := 1, cells := 0, slots := 0, locals := 22 }) [.ref (a 0), .int x] D cI cZ (wT a cI cZ (nI h)) (fun r => r = bI (nI h ≤ x ∧ x ≤ 479)) := by
  refine Met.ofW (cc := cX4_isToCome) (maxL := 2) (ret := (some .boolean)) (by decide) rfl ?_
  intro p e s m args below meth c s₁ B hml hv
  obtain ⟨rfl, hP, hK⟩ := hv
  have hx := B.exec
  have hb := B.bytes
  have hr := B.returns
  have hts := atoms_spec (ws := wsX4_isToCome) B.pre
  have hown : s.vm.findClass RX4 = some m.cls := findClass_of_methodNamed B.named
  have hlocks := B.notSynchronized
  have hl := lv_entry ([.ref (a 0), .int x]) (n := 2) (Nat.le_of_ble_eq_true rfl)
  rw [lg_entry_eq]
  generalize (lg_sl ([.ref (a 0), .int x]) ++ List.replicate (2 - (lg_sl ([.ref (a 0), .int x])).length) Slot.unset).toArray = ls at hl ⊢
  have hl : lv_has ls 2 [(0, .ref (a 0)), (1, .int x)] := hl
  refine lv_iload_n hx hb dX4_isToCome_0 rfl (lv_at hl 1 rfl) ?_
  refine lv_aload_n hx hb dX4_isToCome_1 rfl (lv_at hl 0 rfl) ?_
  refine va_get (D := D) (ci := 4) (v := .int (nI h)) (C := RX4) (T := TX4) (N := 5) hx hb hts (by decide +kernel) hown hK.1 hP 0 rfl rfl 4 (by decide) (hts (.fieldLink RX4 37 "Turbineorchard" "now" "I") (by decide +kernel)) (fun _ h9 => h9) rfl dX4_isToCome_2 ?_
  refine lv_sipush (v := 479) hx hb dX4_isToCome_5 (by decide) ?_
  refine k_ps (As := [.int x, .int (nI h), .int 479]) (rest := []) (nL := 2) ⟨hx, hb, hml, hown, hts⟩ (c_X4_isWithin l x (nI h) 479) (va_cwS 3 hts gX4_isToCome_X4_isWithin rfl rfl rfl (by decide +kernel) ⟨Nat.le_of_ble_eq_true rfl, Nat.le_of_ble_eq_true rfl⟩) rfl hl.1 rfl (Nat.le_of_ble_eq_true rfl) dX4_isToCome_8 ⟨Nat.zero_le _, Nat.zero_le _⟩ (fun r9 hr9 => ?_)
  subst hr9
  exact k_endR (ty := .boolean) hx hb hr hlocks (bI_z) (rfl) dX4_isToCome_11

set_option maxHeartbeats 4000000 in
set_option maxRecDepth 100000 in
theorem c_X4_isOver (l : Launch) (D : va_G) (a : Nat → Nat) (cI cZ : ClassId) (h : Nat) (x : Int32) : kRd l yX4_isOver wsX4_isOver ({ frames := 1, cells := 0, slots := 0, locals := 22 }) [.ref (a 0), .int x] D cI cZ (wT a cI cZ (nI h)) (fun r => r = bI (0 ≤ x ∧ x ≤ nI h - 1)) := by
  refine Met.ofW (cc := cX4_isOver) (maxL := 2) (ret := (some .boolean)) (by decide) rfl ?_
  intro p e s m args below meth c s₁ B hml hv
  obtain ⟨rfl, hP, hK⟩ := hv
  have hx := B.exec
  have hb := B.bytes
  have hr := B.returns
  have hts := atoms_spec (ws := wsX4_isOver) B.pre
  have hown : s.vm.findClass RX4 = some m.cls := findClass_of_methodNamed B.named
  have hlocks := B.notSynchronized
  have hl := lv_entry ([.ref (a 0), .int x]) (n := 2) (Nat.le_of_ble_eq_true rfl)
  rw [lg_entry_eq]
  generalize (lg_sl ([.ref (a 0), .int x]) ++ List.replicate (2 - (lg_sl ([.ref (a 0), .int x])).length) Slot.unset).toArray = ls at hl ⊢
  have hl : lv_has ls 2 [(0, .ref (a 0)), (1, .int x)] := hl
  refine lv_iload_n hx hb dX4_isOver_0 rfl (lv_at hl 1 rfl) ?_
  refine lv_iconst (v := 0) hx hb dX4_isOver_1 (by decide) ?_
  refine lv_aload_n hx hb dX4_isOver_2 rfl (lv_at hl 0 rfl) ?_
  refine va_get (D := D) (ci := 4) (v := .int (nI h)) (C := RX4) (T := TX4) (N := 5) hx hb hts (by decide +kernel) hown hK.1 hP 0 rfl rfl 4 (by decide) (hts (.fieldLink RX4 37 "Turbineorchard" "now" "I") (by decide +kernel)) (fun _ h9 => h9) rfl dX4_isOver_3 ?_
  refine lv_iconst (v := 1) hx hb dX4_isOver_6 (by decide) ?_
  refine lv_isub hx hb dX4_isOver_7 ?_
  refine k_ps (As := [.int x, .int 0, .int ((nI h) - 1)]) (rest := []) (nL := 2) ⟨hx, hb, hml, hown, hts⟩ (c_X4_isWithin l x 0 ((nI h) - 1)) (va_cwS 3 hts gX4_isOver_X4_isWithin rfl rfl rfl (by decide +kernel) ⟨Nat.le_of_ble_eq_true rfl, Nat.le_of_ble_eq_true rfl⟩) rfl hl.1 rfl (Nat.le_of_ble_eq_true rfl) dX4_isOver_8 ⟨Nat.zero_le _, Nat.zero_le _⟩ (fun r9 hr9 => ?_)
  subst hr9
  exact k_endR (ty := .boolean) hx hb hr hlocks (bI_z) (rfl) dX4_isOver_11

set_option maxHeartbeats 4000000 in
set_option maxRecDepth 100000 in
theorem c_X4_workOnRepairs (l : Launch) (D : va_G) (a : Nat → Nat) (cI cZ : ClassId) (sz : Nat) (sp : Nat → Int32) (we : Nat → Int32) (tw : Nat → Int32) (ta : Nat → Int32) (pl : Nat → Int32) (br : Nat → Int32) (st : Nat → Int32) (md : Nat → Int32) (bc : Int32) (tu : Nat → Int32) (le : Nat → Int32) (cr : Nat → Int32) (to : Nat → Int32) (ia : Nat → Int32) (sl : Nat → Int32) (pr : Nat → Int32) (mk : Nat → Int32) (pc : Int64) (n : Nat) (h : Nat) (hn : n ≤ 12) (hh : h < 480) (hpl : ∀ k, k < n → pl k = nI (fP pl k) ∧ fP pl k < 24) (htu : ∀ b, b < 3 → ¬ tu b = -1 → tu b = nI (fP tu b) ∧ fP tu b < n) : kUv l yX4_workOnRepairs wsX4_workOnRepairs ({ frames := 4, cells := 0, slots := 0, locals := 88 }) [.ref (a 0)] D cI cZ sz (wT a cI cZ (nI h) ++ (wW a cI cZ sp we tw ++ (wF a cI cZ ta pl br st md (nI n) bc ++ (wE a cI cZ tu le cr to ia ++ (wG a cI cZ sl pr mk pc))))) (wT a cI cZ (nI h) ++ (wW a cI cZ sp we tw ++ (wF a cI cZ ta pl br (fStW n ta pl tu st (fWk (fWaves sp tw h) tu cr to) 3) md (nI n) bc ++ (wE a cI cZ tu (fDec le (fWk (fWaves sp tw h) tu cr to) 3) cr (fInc to (fWk (fWaves sp tw h) tu cr to) 3) (fInc ia (fWk (fWaves sp tw h) tu cr to) 3) ++ (wG a cI cZ sl pr mk pc))))) := by
  refine Met.ofW (cc := cX4_workOnRepairs) (maxL := 2) (ret := none) (by decide) rfl ?_
  intro p e s m args below meth c s₁ B hml hv
  obtain ⟨rfl, hsz, hP, hK, hD0⟩ := hv
  have hx := B.exec
  have hb := B.bytes
  have hr := B.returns
  have hts := atoms_spec (ws := wsX4_workOnRepairs) B.pre
  have hown : s.vm.findClass RX4 = some m.cls := findClass_of_methodNamed B.named
  have hlocks := B.notSynchronized
  subst hsz
  have hD := hD0.self (sz := s.heap.size)
  generalize hAe : va_A (wT a cI cZ (nI h) ++ (wW a cI cZ sp we tw ++ (wF a cI cZ ta pl br st md (nI n) bc ++ (wE a cI cZ tu le cr to ia ++ (wG a cI cZ sl pr mk pc))))) s.heap.size = A at hD ⊢
  have hA : ∀ q : Nat, s.heap.size ≤ q → A q := fun q h => by rw [← hAe]; exact Or.inr h
  have hS : va_S A s.heap s.heap [] := va_S.rf
  have hl := lv_entry ([.ref (a 0)]) (n := 2) (Nat.le_of_ble_eq_true rfl)
  rw [lg_entry_eq]
  generalize (lg_sl ([.ref (a 0)]) ++ List.replicate (2 - (lg_sl ([.ref (a 0)])).length) Slot.unset).toArray = ls at hl ⊢
  have hl : lv_has ls 2 [(0, .ref (a 0))] := hl
  refine lv_aload_n hx hb dX4_workOnRepairs_0 rfl (lv_at hl 0 rfl) ?_
  refine va_get (D := D) (ci := 4) (v := .ref (a 1)) (C := RX4) (T := TX4) (N := 5) hx hb hts (by decide +kernel) hown hK.1 hP 0 rfl rfl 0 (by decide) (hts (.fieldLink RX4 12 "Turbineorchard" "weather" "LTurbineorchard$Weather;") (by decide +kernel)) (fun _ h9 => h9) rfl dX4_workOnRepairs_1 ?_
  refine lv_aload_n hx hb dX4_workOnRepairs_4 rfl (lv_at hl 0 rfl) ?_
  refine va_get (D := D) (ci := 4) (v := .int (nI h)) (C := RX4) (T := TX4) (N := 5) hx hb hts (by decide +kernel) hown hK.1 hP 0 rfl rfl 4 (by decide) (hts (.fieldLink RX4 37 "Turbineorchard" "now" "I") (by decide +kernel)) (fun _ h9 => h9) rfl dX4_workOnRepairs_5 ?_
  refine k_rd (As := [.int (nI h)]) (rest := []) (nL := 2) ⟨hx, hb, hml, hown, hts⟩ hK hP (c_X3_wavesIn l D a cI cZ sp we tw h (by omega)) [1, 2, 3, 4] rfl 1 rfl rfl rfl (cwV 1 hts gX4_workOnRepairs_X3_wavesIn rfl rfl rfl (by decide +kernel) ⟨Nat.le_of_ble_eq_true rfl, Nat.le_of_ble_eq_true rfl⟩) rfl hl.1 rfl (Nat.le_of_ble_eq_true rfl) dX4_workOnRepairs_8 ⟨Nat.zero_le _, Nat.zero_le _⟩ (fun r9 hr9 => ?_)
  subst hr9
  refine lv_iconst (v := 4) hx hb dX4_workOnRepairs_11 (by decide) ?_
  refine lv_icmp_le (tgt := 16) hx hb dX4_workOnRepairs_12 (by decide) (fun c_12 => ?_) (fun c_12 => ?_)
  · refine lv_iconst (v := 0) hx hb dX4_workOnRepairs_16 (by decide) ?_
    have e9 : to = (fInc to (fWk (fWaves sp tw h) tu cr to) 0) := (fInc_0 _ _).symm
    rw [e9] at hP hD
    clear e9
    have e9 : le = (fDec le (fWk (fWaves sp tw h) tu cr to) 0) := (fDec_0 _ _).symm
    rw [e9] at hP hD
    clear e9
    have e9 : ia = (fInc ia (fWk (fWaves sp tw h) tu cr to) 0) := (fInc_0 _ _).symm
    rw [e9] at hP hD
    clear e9
    have e9 : st = (fStW n ta pl tu st (fWk (fWaves sp tw h) tu cr to) 0) := rfl
    rw [e9] at hP hD
    clear e9
    refine lv_istore_n (lv' := [(1, .int 0), (0, .ref (a 0))]) hx hb dX4_workOnRepairs_17 rfl hl (by decide) rfl (fun ls hl => ?_)
    have loop_18 : ∀ (nn : Nat) (k : Nat), 3 - k < nn → (k ≤ 3) → ∀ (H : Heap) (locs : List Loc), va_P D vwCl (wT a cI cZ (nI h) ++ (wW a cI cZ sp we tw ++ (wF a cI cZ ta pl br (fStW n ta pl tu st (fWk (fWaves sp tw h) tu cr to) k) md (nI n) bc ++ (wE a cI cZ tu (fDec le (fWk (fWaves sp tw h) tu cr to) k) cr (fInc to (fWk (fWaves sp tw h) tu cr to) k) (fInc ia (fWk (fWaves sp tw h) tu cr to) k) ++ (wG a cI cZ sl pr mk pc))))) H → va_D A (wT a cI cZ (nI h) ++ (wW a cI cZ sp we tw ++ (wF a cI cZ ta pl br (fStW n ta pl tu st (fWk (fWaves sp tw h) tu cr to) k) md (nI n) bc ++ (wE a cI cZ tu (fDec le (fWk (fWaves sp tw h) tu cr to) k) cr (fInc to (fWk (fWaves sp tw h) tu cr to) k) (fInc ia (fWk (fWaves sp tw h) tu cr to) k) ++ (wG a cI cZ sl pr mk pc))))) → va_S A s.heap H locs → ∀ (ls : Array Slot), lv_has ls 2 [(0, .ref (a 0)), (1, .int (nI k))] → W p l e (headSpec wsX4_workOnRepairs ({ frames := 4, cells := 0, slots := 0, locals := 88 })).room s m ([.ref (a 0)] : List Value).toArray below meth c H locs 0 0 (MQ below (va_Qv (fun _ : Unit => True) (fun _ t9 => kAt D A (wT a cI cZ (nI h) ++ (wW a cI cZ sp we tw ++ (wF a cI cZ ta pl br (fStW n ta pl tu st (fWk (fWaves sp tw h) tu cr to) 3) md (nI n) bc ++ (wE a cI cZ tu (fDec le (fWk (fWaves sp tw h) tu cr to) 3) cr (fInc to (fWk (fWaves sp tw h) tu cr to) 3) (fInc ia (fWk (fWaves sp tw h) tu cr to) 3) ++ (wG a cI cZ sl pr mk pc))))) t9) A) ([.ref (a 0)] : List Value).toArray s 0 0 A) (F0 m 18 ls []) := by
      intro nn
      induction nn with
      | zero => intro k hm; exact absurd hm (by omega)
      | succ nn ih_18 =>
        intro k hm hk H locs hP hD hS ls hl
        refine lv_iload_n hx hb dX4_workOnRepairs_18 rfl (lv_at hl 1 rfl) ?_
        refine lv_iconst (v := 3) hx hb dX4_workOnRepairs_19 (by decide) ?_
        refine lv_icmp_ge (tgt := 63) hx hb dX4_workOnRepairs_20 (by decide) (fun c_20 => ?_) (fun c_20 => ?_)
        · have e8 : k = 3 := by have := (nI_leI (a := 3) (b := k) (by omega) (by omega)).mp c_20; omega
          subst e8
          exact k_endV (sz := 0) hx hb hr hlocks hP hD hS dX4_workOnRepairs_63
        · have c_20 : k < 3 := Nat.lt_of_not_le (fun h => c_20 ((nI_leI (a := 3) (b := k) (by omega) (by omega)).mpr h))
          refine lv_aload_n hx hb dX4_workOnRepairs_23 rfl (lv_at hl 0 rfl) ?_
          refine va_get (D := D) (ci := 4) (v := .ref (a 11)) (C := RX4) (T := TX4) (N := 5) hx hb hts (by decide +kernel) hown hK.1 hP 0 rfl rfl 2 (by decide) (hts (.fieldLink RX4 26 "Turbineorchard" "fleet" "LTurbineorchard$Fleet;") (by decide +kernel)) (fun _ h9 => h9) rfl dX4_workOnRepairs_24 ?_
          refine lv_iload_n hx hb dX4_workOnRepairs_27 rfl (lv_at hl 1 rfl) ?_
          refine k_rd (As := [.int (nI k)]) (rest := []) (nL := 2) ⟨hx, hb, hml, hown, hts⟩ hK hP (c_X1_canWork l D a cI cZ tu (fDec le (fWk (fWaves sp tw h) tu cr to) k) cr (fInc to (fWk (fWaves sp tw h) tu cr to) k) (fInc ia (fWk (fWaves sp tw h) tu cr to) k) k (by omega)) [11, 12, 13, 14, 15, 16] rfl 11 rfl rfl rfl (cwV 1 hts gX4_workOnRepairs_X1_canWork rfl rfl rfl (by decide +kernel) ⟨Nat.le_of_ble_eq_true rfl, Nat.le_of_ble_eq_true rfl⟩) rfl hl.1 rfl (Nat.le_of_ble_eq_true rfl) dX4_workOnRepairs_28 ⟨Nat.zero_le _, Nat.zero_le _⟩ (fun r9 hr9 => ?_)
          subst hr9
          refine lv_if_eq (tgt := 57) hx hb dX4_workOnRepairs_31 (by decide) (fun c_31 => ?_) (fun c_31 => ?_)
          · have c_31 := bI_0 c_31
            have c9 : (fWk (fWaves sp tw h) tu cr to) k = false := decide_eq_false (fun q => c_31 ⟨q.2.1, by rw [fInc_k]; exact q.2.2⟩)
            have e9 : (fDec le (fWk (fWaves sp tw h) tu cr to) k) = (fDec le (fWk (fWaves sp tw h) tu cr to) (k + 1)) := fDec_f c9
            rw [e9] at hP hD
            clear e9
            have e9 : (fInc to (fWk (fWaves sp tw h) tu cr to) k) = (fInc to (fWk (fWaves sp tw h) tu cr to) (k + 1)) := fInc_f c9
            rw [e9] at hP hD
            clear e9
            have e9 : (fInc ia (fWk (fWaves sp tw h) tu cr to) k) = (fInc ia (fWk (fWaves sp tw h) tu cr to) (k + 1)) := fInc_f c9
            rw [e9] at hP hD
            clear e9
            have e9 : (fStW n ta pl tu st (fWk (fWaves sp tw h) tu cr to) k) = (fStW n ta pl tu st (fWk (fWaves sp tw h) tu cr to) (k + 1)) := by rw [show fStW n ta pl tu st (fWk (fWaves sp tw h) tu cr to) (k + 1) = if (fWk (fWaves sp tw h) tu cr to) k = true then _ else _ from rfl, if_neg (by rw [c9]; decide)]
            rw [e9] at hP hD
            clear e9
            refine lv_iinc (v := nI (k + 1)) (lv' := [(1, .int (nI (k + 1))), (0, .ref (a 0))]) hx hb dX4_workOnRepairs_57 hl (k := 1) rfl (nI_1 _) (by decide) rfl (fun ls hl => ?_)
            refine lv_goto (tgt := 18) hx hb dX4_workOnRepairs_60 (by decide) ?_
            exact ih_18 (k + 1) (by omega) (by omega) _ _ hP hD hS _ (lv_sub hl [1, 0] rfl)
          · have c_31 := bI_n c_31
            have c9 : (fWk (fWaves sp tw h) tu cr to) k = true := decide_eq_true ⟨c_12, c_31.1, by have := c_31.2; rw [fInc_k] at this; exact this⟩
            refine lv_aload_n hx hb dX4_workOnRepairs_34 rfl (lv_at hl 0 rfl) ?_
            refine va_get (D := D) (ci := 4) (v := .ref (a 11)) (C := RX4) (T := TX4) (N := 5) hx hb hts (by decide +kernel) hown hK.1 hP 0 rfl rfl 2 (by decide) (hts (.fieldLink RX4 26 "Turbineorchard" "fleet" "LTurbineorchard$Fleet;") (by decide +kernel)) (fun _ h9 => h9) rfl dX4_workOnRepairs_35 ?_
            refine lv_iload_n hx hb dX4_workOnRepairs_38 rfl (lv_at hl 1 rfl) ?_
            refine k_uv (WR := (wT a cI cZ (nI h) ++ (wW a cI cZ sp we tw ++ (wF a cI cZ ta pl br (fStW n ta pl tu st (fWk (fWaves sp tw h) tu cr to) k) md (nI n) bc ++ (wG a cI cZ sl pr mk pc))))) (WN := (wT a cI cZ (nI h) ++ (wW a cI cZ sp we tw ++ (wF a cI cZ ta pl br (fStW n ta pl tu st (fWk (fWaves sp tw h) tu cr to) k) md (nI n) bc ++ (wE a cI cZ tu (upd (fDec le (fWk (fWaves sp tw h) tu cr to) k) k ((fDec le (fWk (fWaves sp tw h) tu cr to) k) k - 1)) cr (upd (fInc to (fWk (fWaves sp tw h) tu cr to) k) k ((fInc to (fWk (fWaves sp tw h) tu cr to) k) k + 1)) (upd (fInc ia (fWk (fWaves sp tw h) tu cr to) k) k ((fInc ia (fWk (fWaves sp tw h) tu cr to) k) k + 1)) ++ (wG a cI cZ sl pr mk pc)))))) (As := [.int (nI k)]) (rest := []) (nL := 2) ⟨hx, hb, hml, hown, hts⟩ hK hP hD hS hA (c_X1_workAnHour l D a cI cZ H.size tu (fDec le (fWk (fWaves sp tw h) tu cr to) k) cr (fInc to (fWk (fWaves sp tw h) tu cr to) k) (fInc ia (fWk (fWaves sp tw h) tu cr to) k) k (by omega)) [11, 12, 13, 14, 15, 16] [0, 1, 2, 3, 4, 5, 6, 7, 8, 9, 10, 17, 18, 19, 20] [0, 1, 2, 3, 4, 5, 6, 7, 8, 9, 10, 15, 16, 17, 18, 19, 20, 11, 12, 13, 14] rfl rfl (by decide) rfl (by decide) (by decide) rfl rfl (by decide) 11 rfl rfl rfl (cwV 1 hts gX4_workOnRepairs_X1_workAnHour rfl rfl rfl (by decide +kernel) ⟨Nat.le_of_ble_eq_true rfl, Nat.le_of_ble_eq_true rfl⟩) rfl hl.1 rfl (Nat.le_of_ble_eq_true rfl) dX4_workOnRepairs_39 ⟨Nat.zero_le _, Nat.zero_le _⟩ (fun H locs hP hD hS => ?_)
            refine lv_aload_n hx hb dX4_workOnRepairs_42 rfl (lv_at hl 0 rfl) ?_
            refine va_get (D := D) (ci := 4) (v := .ref (a 5)) (C := RX4) (T := TX4) (N := 5) hx hb hts (by decide +kernel) hown hK.1 hP 0 rfl rfl 1 (by decide) (hts (.fieldLink RX4 19 "Turbineorchard" "field" "LTurbineorchard$Field;") (by decide +kernel)) (fun _ h9 => h9) rfl dX4_workOnRepairs_43 ?_
            refine lv_aload_n hx hb dX4_workOnRepairs_46 rfl (lv_at hl 0 rfl) ?_
            refine va_get (D := D) (ci := 4) (v := .ref (a 11)) (C := RX4) (T := TX4) (N := 5) hx hb hts (by decide +kernel) hown hK.1 hP 0 rfl rfl 2 (by decide) (hts (.fieldLink RX4 26 "Turbineorchard" "fleet" "LTurbineorchard$Fleet;") (by decide +kernel)) (fun _ h9 => h9) rfl dX4_workOnRepairs_47 ?_
            refine lv_iload_n hx hb dX4_workOnRepairs_50 rfl (lv_at hl 1 rfl) ?_
            refine k_rd (As := [.int (nI k)]) (rest := [.ref (a 5)]) (nL := 2) ⟨hx, hb, hml, hown, hts⟩ hK hP (c_X1_turbineOf l D a cI cZ tu (upd (fDec le (fWk (fWaves sp tw h) tu cr to) k) k ((fDec le (fWk (fWaves sp tw h) tu cr to) k) k - 1)) cr (upd (fInc to (fWk (fWaves sp tw h) tu cr to) k) k ((fInc to (fWk (fWaves sp tw h) tu cr to) k) k + 1)) (upd (fInc ia (fWk (fWaves sp tw h) tu cr to) k) k ((fInc ia (fWk (fWaves sp tw h) tu cr to) k) k + 1)) k (by omega)) [11, 12, 13, 14, 15, 16] rfl 11 rfl rfl rfl (cwV 1 hts gX4_workOnRepairs_X1_turbineOf rfl rfl rfl (by decide +kernel) ⟨Nat.le_of_ble_eq_true rfl, Nat.le_of_ble_eq_true rfl⟩) rfl hl.1 rfl (Nat.le_of_ble_eq_true rfl) dX4_workOnRepairs_51 ⟨Nat.zero_le _, Nat.zero_le _⟩ (fun r9 hr9 => ?_)
            subst hr9
            refine k_rw (y := nI (fP tu k)) ((htu k c_20 c_31.1).1) ?_
            refine k_uv (WR := (wT a cI cZ (nI h) ++ (wW a cI cZ sp we tw ++ (wE a cI cZ tu (upd (fDec le (fWk (fWaves sp tw h) tu cr to) k) k ((fDec le (fWk (fWaves sp tw h) tu cr to) k) k - 1)) cr (upd (fInc to (fWk (fWaves sp tw h) tu cr to) k) k ((fInc to (fWk (fWaves sp tw h) tu cr to) k) k + 1)) (upd (fInc ia (fWk (fWaves sp tw h) tu cr to) k) k ((fInc ia (fWk (fWaves sp tw h) tu cr to) k) k + 1)) ++ (wG a cI cZ sl pr mk pc))))) (WN := (wT a cI cZ (nI h) ++ (wW a cI cZ sp we tw ++ (wF a cI cZ ta pl br (fB4 n ta (fStW n ta pl tu st (fWk (fWaves sp tw h) tu cr to) k) (fP pl (fP tu k))) md (nI n) bc ++ (wE a cI cZ tu (upd (fDec le (fWk (fWaves sp tw h) tu cr to) k) k ((fDec le (fWk (fWaves sp tw h) tu cr to) k) k - 1)) cr (upd (fInc to (fWk (fWaves sp tw h) tu cr to) k) k ((fInc to (fWk (fWaves sp tw h) tu cr to) k) k + 1)) (upd (fInc ia (fWk (fWaves sp tw h) tu cr to) k) k ((fInc ia (fWk (fWaves sp tw h) tu cr to) k) k + 1)) ++ (wG a cI cZ sl pr mk pc)))))) (As := [.int (nI (fP tu k))]) (rest := []) (nL := 2) ⟨hx, hb, hml, hown, hts⟩ hK hP hD hS hA (c_X0_stillBeside l D a cI cZ H.size ta pl br (fStW n ta pl tu st (fWk (fWaves sp tw h) tu cr to) k) md bc n (fP tu k) (hn) ((htu k c_20 c_31.1).2) (hpl)) [5, 6, 7, 8, 9, 10] [0, 1, 2, 3, 4, 11, 12, 13, 14, 15, 16, 17, 18, 19, 20] [0, 1, 2, 3, 4, 15, 16, 17, 18, 19, 20, 5, 6, 7, 8, 9, 10, 11, 12, 13, 14] rfl rfl (by decide) rfl (by decide) (by decide) rfl rfl (by decide) 5 rfl rfl rfl (cwV 1 hts gX4_workOnRepairs_X0_stillBeside rfl rfl rfl (by decide +kernel) ⟨Nat.le_of_ble_eq_true rfl, Nat.le_of_ble_eq_true rfl⟩) rfl hl.1 rfl (Nat.le_of_ble_eq_true rfl) dX4_workOnRepairs_54 ⟨Nat.zero_le _, Nat.zero_le _⟩ (fun H locs hP hD hS => ?_)
            have e9 : (upd (fDec le (fWk (fWaves sp tw h) tu cr to) k) k ((fDec le (fWk (fWaves sp tw h) tu cr to) k) k - 1)) = (fDec le (fWk (fWaves sp tw h) tu cr to) (k + 1)) := fDec_t c9
            rw [e9] at hP hD
            clear e9
            have e9 : (upd (fInc to (fWk (fWaves sp tw h) tu cr to) k) k ((fInc to (fWk (fWaves sp tw h) tu cr to) k) k + 1)) = (fInc to (fWk (fWaves sp tw h) tu cr to) (k + 1)) := fInc_t c9
            rw [e9] at hP hD
            clear e9
            have e9 : (upd (fInc ia (fWk (fWaves sp tw h) tu cr to) k) k ((fInc ia (fWk (fWaves sp tw h) tu cr to) k) k + 1)) = (fInc ia (fWk (fWaves sp tw h) tu cr to) (k + 1)) := fInc_t c9
            rw [e9] at hP hD
            clear e9
            have e9 : (fB4 n ta (fStW n ta pl tu st (fWk (fWaves sp tw h) tu cr to) k) (fP pl (fP tu k))) = (fStW n ta pl tu st (fWk (fWaves sp tw h) tu cr to) (k + 1)) := by rw [show fStW n ta pl tu st (fWk (fWaves sp tw h) tu cr to) (k + 1) = if (fWk (fWaves sp tw h) tu cr to) k = true then _ else _ from rfl, if_pos c9]
            rw [e9] at hP hD
            clear e9
            refine lv_iinc (v := nI (k + 1)) (lv' := [(1, .int (nI (k + 1))), (0, .ref (a 0))]) hx hb dX4_workOnRepairs_57 hl (k := 1) rfl (nI_1 _) (by decide) rfl (fun ls hl => ?_)
            refine lv_goto (tgt := 18) hx hb dX4_workOnRepairs_60 (by decide) ?_
            exact ih_18 (k + 1) (by omega) (by omega) _ _ hP hD hS _ (lv_sub hl [1, 0] rfl)
    exact loop_18 (3 - 0 + 1) 0 (by omega) (by omega) _ _ hP hD hS _ (lv_sub hl [1, 0] rfl)
  · have c9 : ∀ b, (fWk (fWaves sp tw h) tu cr to) b = false := fun b => decide_eq_false (fun q => c_12 q.1)
    have e9 : to = (fInc to (fWk (fWaves sp tw h) tu cr to) 3) := fInc_no c9
    rw [e9] at hP hD
    clear e9
    have e9 : le = (fDec le (fWk (fWaves sp tw h) tu cr to) 3) := fDec_no c9
    rw [e9] at hP hD
    clear e9
    have e9 : ia = (fInc ia (fWk (fWaves sp tw h) tu cr to) 3) := fInc_no c9
    rw [e9] at hP hD
    clear e9
    have e9 : st = (fStW n ta pl tu st (fWk (fWaves sp tw h) tu cr to) 3) := fStW_no c9
    rw [e9] at hP hD
    clear e9
    exact k_endV (sz := 0) hx hb hr hlocks hP hD hS dX4_workOnRepairs_15

set_option maxHeartbeats 4000000 in
set_option maxRecDepth 100000 in
theorem c_X4_endRepairs (l : Launch) (D : va_G) (a : Nat → Nat) (cI cZ : ClassId) (sz : Nat) (sp : Nat → Int32) (we : Nat → Int32) (tw : Nat → Int32) (ta : Nat → Int32) (pl : Nat → Int32) (br : Nat → Int32) (st : Nat → Int32) (md : Nat → Int32) (bc : Int32) (tu : Nat → Int32) (le : Nat → Int32) (cr : Nat → Int32) (to : Nat → Int32) (ia : Nat → Int32) (sl : Nat → Int32) (pr : Nat → Int32) (mk : Nat → Int32) (pc : Int64) (n : Nat) (h : Nat) (hn : n ≤ 12) (hh : h < 480) (htu : ∀ b, b < 3 → ¬ tu b = -1 → tu b = nI (fP tu b) ∧ fP tu b < n) : kUv l yX4_endRepairs wsX4_endRepairs ({ frames := 2, cells := 0, slots := 0, locals := 42 }) [.ref (a 0)] D cI cZ sz (wT a cI cZ (nI h) ++ (wW a cI cZ sp we tw ++ (wF a cI cZ ta pl br st md (nI n) bc ++ (wE a cI cZ tu le cr to ia ++ (wG a cI cZ sl pr mk pc))))) (wT a cI cZ (nI h) ++ (wW a cI cZ sp we tw ++ (wF a cI cZ ta pl (fBrE br tu (fEn tu le) 3) st md (nI n) (fBcE bc (fEn tu le) 3) ++ (wE a cI cZ (fTuE tu (fEn tu le) 3) le cr to ia ++ (wG a cI cZ sl pr mk pc))))) := by
  refine Met.ofW (cc := cX4_endRepairs) (maxL := 2) (ret := none) (by decide) rfl ?_
  intro p e s m args below meth c s₁ B hml hv
  obtain ⟨rfl, hsz, hP, hK, hD0⟩ := hv
  have hx := B.exec
  have hb := B.bytes
  have hr := B.returns
  have hts := atoms_spec (ws := wsX4_endRepairs) B.pre
  have hown : s.vm.findClass RX4 = some m.cls := findClass_of_methodNamed B.named
  have hlocks := B.notSynchronized
  subst hsz
  have hD := hD0.self (sz := s.heap.size)
  generalize hAe : va_A (wT a cI cZ (nI h) ++ (wW a cI cZ sp we tw ++ (wF a cI cZ ta pl br st md (nI n) bc ++ (wE a cI cZ tu le cr to ia ++ (wG a cI cZ sl pr mk pc))))) s.heap.size = A at hD ⊢
  have hA : ∀ q : Nat, s.heap.size ≤ q → A q := fun q h => by rw [← hAe]; exact Or.inr h
  have hS : va_S A s.heap s.heap [] := va_S.rf
  have hl := lv_entry ([.ref (a 0)]) (n := 2) (Nat.le_of_ble_eq_true rfl)
  rw [lg_entry_eq]
  generalize (lg_sl ([.ref (a 0)]) ++ List.replicate (2 - (lg_sl ([.ref (a 0)])).length) Slot.unset).toArray = ls at hl ⊢
  have hl : lv_has ls 2 [(0, .ref (a 0))] := hl
  refine lv_iconst (v := 0) hx hb dX4_endRepairs_0 (by decide) ?_
  have e9 : tu = (fTuE tu (fEn tu le) 0) := (fTuE_0 _ _).symm
  rw [e9] at hP hD
  clear e9
  have e9 : br = (fBrE br tu (fEn tu le) 0) := rfl
  rw [e9] at hP hD
  clear e9
  have e9 : bc = (fBcE bc (fEn tu le) 0) := rfl
  rw [e9] at hP hD
  clear e9
  refine lv_istore_n (lv' := [(1, .int 0), (0, .ref (a 0))]) hx hb dX4_endRepairs_1 rfl hl (by decide) rfl (fun ls hl => ?_)
  have loop_2 : ∀ (nn : Nat) (k : Nat), 3 - k < nn → (k ≤ 3) → ∀ (H : Heap) (locs : List Loc), va_P D vwCl (wT a cI cZ (nI h) ++ (wW a cI cZ sp we tw ++ (wF a cI cZ ta pl (fBrE br tu (fEn tu le) k) st md (nI n) (fBcE bc (fEn tu le) k) ++ (wE a cI cZ (fTuE tu (fEn tu le) k) le cr to ia ++ (wG a cI cZ sl pr mk pc))))) H → va_D A (wT a cI cZ (nI h) ++ (wW a cI cZ sp we tw ++ (wF a cI cZ ta pl (fBrE br tu (fEn tu le) k) st md (nI n) (fBcE bc (fEn tu le) k) ++ (wE a cI cZ (fTuE tu (fEn tu le) k) le cr to ia ++ (wG a cI cZ sl pr mk pc))))) → va_S A s.heap H locs → ∀ (ls : Array Slot), lv_has ls 2 [(0, .ref (a 0)), (1, .int (nI k))] → W p l e (headSpec wsX4_endRepairs ({ frames := 2, cells := 0, slots := 0, locals := 42 })).room s m ([.ref (a 0)] : List Value).toArray below meth c H locs 0 0 (MQ below (va_Qv (fun _ : Unit => True) (fun _ t9 => kAt D A (wT a cI cZ (nI h) ++ (wW a cI cZ sp we tw ++ (wF a cI cZ ta pl (fBrE br tu (fEn tu le) 3) st md (nI n) (fBcE bc (fEn tu le) 3) ++ (wE a cI cZ (fTuE tu (fEn tu le) 3) le cr to ia ++ (wG a cI cZ sl pr mk pc))))) t9) A) ([.ref (a 0)] : List Value).toArray s 0 0 A) (F0 m 2 ls []) := by
    intro nn
    induction nn with
    | zero => intro k hm; exact absurd hm (by omega)
    | succ nn ih_2 =>
      intro k hm hk H locs hP hD hS ls hl
      refine lv_iload_n hx hb dX4_endRepairs_2 rfl (lv_at hl 1 rfl) ?_
      refine lv_iconst (v := 3) hx hb dX4_endRepairs_3 (by decide) ?_
      refine lv_icmp_ge (tgt := 47) hx hb dX4_endRepairs_4 (by decide) (fun c_4 => ?_) (fun c_4 => ?_)
      · have e8 : k = 3 := by have := (nI_leI (a := 3) (b := k) (by omega) (by omega)).mp c_4; omega
        subst e8
        exact k_endV (sz := 0) hx hb hr hlocks hP hD hS dX4_endRepairs_47
      · have c_4 : k < 3 := Nat.lt_of_not_le (fun h => c_4 ((nI_leI (a := 3) (b := k) (by omega) (by omega)).mpr h))
        refine lv_aload_n hx hb dX4_endRepairs_7 rfl (lv_at hl 0 rfl) ?_
        refine va_get (D := D) (ci := 4) (v := .ref (a 11)) (C := RX4) (T := TX4) (N := 5) hx hb hts (by decide +kernel) hown hK.1 hP 0 rfl rfl 2 (by decide) (hts (.fieldLink RX4 26 "Turbineorchard" "fleet" "LTurbineorchard$Fleet;") (by decide +kernel)) (fun _ h9 => h9) rfl dX4_endRepairs_8 ?_
        refine lv_iload_n hx hb dX4_endRepairs_11 rfl (lv_at hl 1 rfl) ?_
        refine k_rd (As := [.int (nI k)]) (rest := []) (nL := 2) ⟨hx, hb, hml, hown, hts⟩ hK hP (c_X1_hasEnded l D a cI cZ (fTuE tu (fEn tu le) k) le cr to ia k (by omega)) [11, 12, 13, 14, 15, 16] rfl 11 rfl rfl rfl (cwV 1 hts gX4_endRepairs_X1_hasEnded rfl rfl rfl (by decide +kernel) ⟨Nat.le_of_ble_eq_true rfl, Nat.le_of_ble_eq_true rfl⟩) rfl hl.1 rfl (Nat.le_of_ble_eq_true rfl) dX4_endRepairs_12 ⟨Nat.zero_le _, Nat.zero_le _⟩ (fun r9 hr9 => ?_)
        subst hr9
        refine lv_if_eq (tgt := 41) hx hb dX4_endRepairs_15 (by decide) (fun c_15 => ?_) (fun c_15 => ?_)
        · have c_15 := bI_0 c_15
          have c9 : (fEn tu le) k = false := decide_eq_false (fun q => c_15 ⟨by rw [fTuE_k]; exact q.1, q.2⟩)
          have e9 : (fTuE tu (fEn tu le) k) = (fTuE tu (fEn tu le) (k + 1)) := fTuE_f c9
          rw [e9] at hP hD
          clear e9
          have e9 : (fBrE br tu (fEn tu le) k) = (fBrE br tu (fEn tu le) (k + 1)) := by rw [show fBrE br tu (fEn tu le) (k + 1) = if (fEn tu le) k = true then _ else _ from rfl, if_neg (by rw [c9]; decide)]
          rw [e9] at hP hD
          clear e9
          have e9 : (fBcE bc (fEn tu le) k) = (fBcE bc (fEn tu le) (k + 1)) := by rw [show fBcE bc (fEn tu le) (k + 1) = if (fEn tu le) k = true then _ else _ from rfl, if_neg (by rw [c9]; decide)]
          rw [e9] at hP hD
          clear e9
          refine lv_iinc (v := nI (k + 1)) (lv' := [(1, .int (nI (k + 1))), (0, .ref (a 0))]) hx hb dX4_endRepairs_41 hl (k := 1) rfl (nI_1 _) (by decide) rfl (fun ls hl => ?_)
          refine lv_goto (tgt := 2) hx hb dX4_endRepairs_44 (by decide) ?_
          exact ih_2 (k + 1) (by omega) (by omega) _ _ hP hD hS _ (lv_sub hl [1, 0] rfl)
        · have c_15 := bI_n c_15
          rw [fTuE_k] at c_15
          have c9 : (fEn tu le) k = true := decide_eq_true c_15
          refine lv_aload_n hx hb dX4_endRepairs_18 rfl (lv_at hl 0 rfl) ?_
          refine va_get (D := D) (ci := 4) (v := .ref (a 5)) (C := RX4) (T := TX4) (N := 5) hx hb hts (by decide +kernel) hown hK.1 hP 0 rfl rfl 1 (by decide) (hts (.fieldLink RX4 19 "Turbineorchard" "field" "LTurbineorchard$Field;") (by decide +kernel)) (fun _ h9 => h9) rfl dX4_endRepairs_19 ?_
          refine lv_aload_n hx hb dX4_endRepairs_22 rfl (lv_at hl 0 rfl) ?_
          refine va_get (D := D) (ci := 4) (v := .ref (a 11)) (C := RX4) (T := TX4) (N := 5) hx hb hts (by decide +kernel) hown hK.1 hP 0 rfl rfl 2 (by decide) (hts (.fieldLink RX4 26 "Turbineorchard" "fleet" "LTurbineorchard$Fleet;") (by decide +kernel)) (fun _ h9 => h9) rfl dX4_endRepairs_23 ?_
          refine lv_iload_n hx hb dX4_endRepairs_26 rfl (lv_at hl 1 rfl) ?_
          refine k_rd (As := [.int (nI k)]) (rest := [.ref (a 5)]) (nL := 2) ⟨hx, hb, hml, hown, hts⟩ hK hP (c_X1_turbineOf l D a cI cZ (fTuE tu (fEn tu le) k) le cr to ia k (by omega)) [11, 12, 13, 14, 15, 16] rfl 11 rfl rfl rfl (cwV 1 hts gX4_endRepairs_X1_turbineOf rfl rfl rfl (by decide +kernel) ⟨Nat.le_of_ble_eq_true rfl, Nat.le_of_ble_eq_true rfl⟩) rfl hl.1 rfl (Nat.le_of_ble_eq_true rfl) dX4_endRepairs_27 ⟨Nat.zero_le _, Nat.zero_le _⟩ (fun r9 hr9 => ?_)
          subst hr9
          refine k_rw (y := nI (fP tu k)) (by rw [fTuE_k]; exact (htu k c_4 c_15.1).1) ?_
          refine k_uv (WR := (wT a cI cZ (nI h) ++ (wW a cI cZ sp we tw ++ (wE a cI cZ (fTuE tu (fEn tu le) k) le cr to ia ++ (wG a cI cZ sl pr mk pc))))) (WN := (wT a cI cZ (nI h) ++ (wW a cI cZ sp we tw ++ (wF a cI cZ ta pl (upd (fBrE br tu (fEn tu le) k) (fP tu k) 0) st md (nI n) ((fBcE bc (fEn tu le) k) - 1) ++ (wE a cI cZ (fTuE tu (fEn tu le) k) le cr to ia ++ (wG a cI cZ sl pr mk pc)))))) (As := [.int (nI (fP tu k))]) (rest := []) (nL := 2) ⟨hx, hb, hml, hown, hts⟩ hK hP hD hS hA (c_X0_mend l D a cI cZ H.size ta pl (fBrE br tu (fEn tu le) k) st md (fBcE bc (fEn tu le) k) n (fP tu k) (hn) ((htu k c_4 c_15.1).2)) [5, 6, 7, 8, 9, 10] [0, 1, 2, 3, 4, 11, 12, 13, 14, 15, 16, 17, 18, 19, 20] [0, 1, 2, 3, 4, 15, 16, 17, 18, 19, 20, 5, 6, 7, 8, 9, 10, 11, 12, 13, 14] rfl rfl (by decide) rfl (by decide) (by decide) rfl rfl (by decide) 5 rfl rfl rfl (cwV 1 hts gX4_endRepairs_X0_mend rfl rfl rfl (by decide +kernel) ⟨Nat.le_of_ble_eq_true rfl, Nat.le_of_ble_eq_true rfl⟩) rfl hl.1 rfl (Nat.le_of_ble_eq_true rfl) dX4_endRepairs_30 ⟨Nat.zero_le _, Nat.zero_le _⟩ (fun H locs hP hD hS => ?_)
          refine lv_aload_n hx hb dX4_endRepairs_33 rfl (lv_at hl 0 rfl) ?_
          refine va_get (D := D) (ci := 4) (v := .ref (a 11)) (C := RX4) (T := TX4) (N := 5) hx hb hts (by decide +kernel) hown hK.1 hP 0 rfl rfl 2 (by decide) (hts (.fieldLink RX4 26 "Turbineorchard" "fleet" "LTurbineorchard$Fleet;") (by decide +kernel)) (fun _ h9 => h9) rfl dX4_endRepairs_34 ?_
          refine lv_iload_n hx hb dX4_endRepairs_37 rfl (lv_at hl 1 rfl) ?_
          refine k_uv (WR := (wT a cI cZ (nI h) ++ (wW a cI cZ sp we tw ++ (wF a cI cZ ta pl (upd (fBrE br tu (fEn tu le) k) (fP tu k) 0) st md (nI n) ((fBcE bc (fEn tu le) k) - 1) ++ (wG a cI cZ sl pr mk pc))))) (WN := (wT a cI cZ (nI h) ++ (wW a cI cZ sp we tw ++ (wF a cI cZ ta pl (upd (fBrE br tu (fEn tu le) k) (fP tu k) 0) st md (nI n) ((fBcE bc (fEn tu le) k) - 1) ++ (wE a cI cZ (upd (fTuE tu (fEn tu le) k) k (-1)) le cr to ia ++ (wG a cI cZ sl pr mk pc)))))) (As := [.int (nI k)]) (rest := []) (nL := 2) ⟨hx, hb, hml, hown, hts⟩ hK hP hD hS hA (c_X1_release l D a cI cZ H.size (fTuE tu (fEn tu le) k) le cr to ia k (by omega)) [11, 12, 13, 14, 15, 16] [0, 1, 2, 3, 4, 5, 6, 7, 8, 9, 10, 17, 18, 19, 20] [0, 1, 2, 3, 4, 5, 6, 7, 8, 9, 10, 15, 16, 17, 18, 19, 20, 11, 12, 13, 14] rfl rfl (by decide) rfl (by decide) (by decide) rfl rfl (by decide) 11 rfl rfl rfl (cwV 1 hts gX4_endRepairs_X1_release rfl rfl rfl (by decide +kernel) ⟨Nat.le_of_ble_eq_true rfl, Nat.le_of_ble_eq_true rfl⟩) rfl hl.1 rfl (Nat.le_of_ble_eq_true rfl) dX4_endRepairs_38 ⟨Nat.zero_le _, Nat.zero_le _⟩ (fun H locs hP hD hS => ?_)
          have e9 : (upd (fTuE tu (fEn tu le) k) k (-1)) = (fTuE tu (fEn tu le) (k + 1)) := fTuE_t c9
          rw [e9] at hP hD
          clear e9
          have e9 : (upd (fBrE br tu (fEn tu le) k) (fP tu k) 0) = (fBrE br tu (fEn tu le) (k + 1)) := by rw [show fBrE br tu (fEn tu le) (k + 1) = if (fEn tu le) k = true then _ else _ from rfl, if_pos c9]
          rw [e9] at hP hD
          clear e9
          have e9 : ((fBcE bc (fEn tu le) k) - 1) = (fBcE bc (fEn tu le) (k + 1)) := by rw [show fBcE bc (fEn tu le) (k + 1) = if (fEn tu le) k = true then _ else _ from rfl, if_pos c9]
          rw [e9] at hP hD
          clear e9
          refine lv_iinc (v := nI (k + 1)) (lv' := [(1, .int (nI (k + 1))), (0, .ref (a 0))]) hx hb dX4_endRepairs_41 hl (k := 1) rfl (nI_1 _) (by decide) rfl (fun ls hl => ?_)
          refine lv_goto (tgt := 2) hx hb dX4_endRepairs_44 (by decide) ?_
          exact ih_2 (k + 1) (by omega) (by omega) _ _ hP hD hS _ (lv_sub hl [1, 0] rfl)
  exact loop_2 (3 - 0 + 1) 0 (by omega) (by omega) _ _ hP hD hS _ (lv_sub hl [1, 0] rfl)

set_option maxHeartbeats 4000000 in
set_option maxRecDepth 100000 in
theorem c_X4_liveHour (l : Launch) (D : va_G) (a : Nat → Nat) (cI cZ : ClassId) (sz : Nat) (sp : Nat → Int32) (we : Nat → Int32) (tw : Nat → Int32) (ta : Nat → Int32) (pl : Nat → Int32) (br : Nat → Int32) (st : Nat → Int32) (md : Nat → Int32) (bc : Int32) (tu : Nat → Int32) (le : Nat → Int32) (cr : Nat → Int32) (to : Nat → Int32) (ia : Nat → Int32) (sl : Nat → Int32) (pr : Nat → Int32) (mk : Nat → Int32) (pc : Int64) (n : Nat) (h : Nat) (hn : n ≤ 12) (hh : h < 480) (hpl : ∀ k, k < n → pl k = nI (fP pl k) ∧ fP pl k < 24) (htu : ∀ b, b < 3 → ¬ tu b = -1 → tu b = nI (fP tu b) ∧ fP tu b < n) (hwe : ∀ k, we k = 0 ∨ we k = 1) : kUv l yX4_liveHour wsX4_liveHour ({ frames := 5, cells := 0, slots := 0, locals := 120 }) [.ref (a 0)] D cI cZ sz (wT a cI cZ (nI h) ++ (wW a cI cZ sp we tw ++ (wF a cI cZ ta pl br st md (nI n) bc ++ (wE a cI cZ tu le cr to ia ++ (wG a cI cZ sl pr mk pc))))) (wT a cI cZ (nI (h + 1)) ++ (wW a cI cZ sp we tw ++ (wF a cI cZ ta pl (fBrE br tu (fEn tu (fDec le (fWk (fWaves sp tw h) tu cr to) 3)) 3) (setR (fStW n ta pl tu st (fWk (fWaves sp tw h) tu cr to) 3) 0 n 0) (fAddR md (fPw (we h) pl br (fStW n ta pl tu st (fWk (fWaves sp tw h) tu cr to) 3) n (sp h)) n) (nI n) (fBcE bc (fEn tu (fDec le (fWk (fWaves sp tw h) tu cr to) 3)) 3) ++ (wE a cI cZ (fTuE tu (fEn tu (fDec le (fWk (fWaves sp tw h) tu cr to) 3)) 3) (fDec le (fWk (fWaves sp tw h) tu cr to) 3) cr (fDay (h + 1) (fInc to (fWk (fWaves sp tw h) tu cr to) 3)) (fInc ia (fWk (fWaves sp tw h) tu cr to) 3) ++ (wG a cI cZ sl pr (upd mk h (fSum (fPw (we h) pl br (fStW n ta pl tu st (fWk (fWaves sp tw h) tu cr to) 3) n (sp h)) n)) (pc + (fBring sl pr (upd mk h (fSum (fPw (we h) pl br (fStW n ta pl tu st (fWk (fWaves sp tw h) tu cr to) 3) n (sp h)) n)) h).toInt64)))))) := by
  refine Met.ofW (cc := cX4_liveHour) (maxL := 1) (ret := none) (by decide) rfl ?_
  intro p e s m args below meth c s₁ B hml hv
  obtain ⟨rfl, hsz, hP, hK, hD0⟩ := hv
  have hx := B.exec
  have hb := B.bytes
  have hr := B.returns
  have hts := atoms_spec (ws := wsX4_liveHour) B.pre
  have hown : s.vm.findClass RX4 = some m.cls := findClass_of_methodNamed B.named
  have hlocks := B.notSynchronized
  subst hsz
  have hD := hD0.self (sz := s.heap.size)
  generalize hAe : va_A (wT a cI cZ (nI h) ++ (wW a cI cZ sp we tw ++ (wF a cI cZ ta pl br st md (nI n) bc ++ (wE a cI cZ tu le cr to ia ++ (wG a cI cZ sl pr mk pc))))) s.heap.size = A at hD ⊢
  have hA : ∀ q : Nat, s.heap.size ≤ q → A q := fun q h => by rw [← hAe]; exact Or.inr h
  have hS : va_S A s.heap s.heap [] := va_S.rf
  have hl := lv_entry ([.ref (a 0)]) (n := 1) (Nat.le_of_ble_eq_true rfl)
  rw [lg_entry_eq]
  generalize (lg_sl ([.ref (a 0)]) ++ List.replicate (1 - (lg_sl ([.ref (a 0)])).length) Slot.unset).toArray = ls at hl ⊢
  have hl : lv_has ls 1 [(0, .ref (a 0))] := hl
  refine lv_aload_n hx hb dX4_liveHour_0 rfl (lv_at hl 0 rfl) ?_
  refine k_uv (WR := []) (WN := (wT a cI cZ (nI h) ++ (wW a cI cZ sp we tw ++ (wF a cI cZ ta pl br (fStW n ta pl tu st (fWk (fWaves sp tw h) tu cr to) 3) md (nI n) bc ++ (wE a cI cZ tu (fDec le (fWk (fWaves sp tw h) tu cr to) 3) cr (fInc to (fWk (fWaves sp tw h) tu cr to) 3) (fInc ia (fWk (fWaves sp tw h) tu cr to) 3) ++ (wG a cI cZ sl pr mk pc)))))) (As := []) (rest := []) (nL := 1) ⟨hx, hb, hml, hown, hts⟩ hK hP hD hS hA (c_X4_workOnRepairs l D a cI cZ _ sp we tw ta pl br st md bc tu le cr to ia sl pr mk pc n h (hn) (hh) (hpl) (htu)) [0, 1, 2, 3, 4, 5, 6, 7, 8, 9, 10, 11, 12, 13, 14, 15, 16, 17, 18, 19, 20] [] [0, 1, 2, 3, 4, 5, 6, 7, 8, 9, 10, 11, 12, 13, 14, 15, 16, 17, 18, 19, 20] rfl rfl (by decide) rfl (by decide) (by decide) rfl rfl (by decide) 0 rfl rfl rfl (cwV 0 hts gX4_liveHour_X4_workOnRepairs rfl rfl rfl (by decide +kernel) ⟨Nat.le_of_ble_eq_true rfl, Nat.le_of_ble_eq_true rfl⟩) rfl hl.1 rfl (Nat.le_of_ble_eq_true rfl) dX4_liveHour_1 ⟨Nat.zero_le _, Nat.zero_le _⟩ (fun H locs hP hD hS => ?_)
  refine lv_aload_n hx hb dX4_liveHour_4 rfl (lv_at hl 0 rfl) ?_
  refine va_get (D := D) (ci := 4) (v := .ref (a 17)) (C := RX4) (T := TX4) (N := 5) hx hb hts (by decide +kernel) hown hK.1 hP 0 rfl rfl 3 (by decide) (hts (.fieldLink RX4 33 "Turbineorchard" "ledger" "LTurbineorchard$Ledger;") (by decide +kernel)) (fun _ h9 => h9) rfl dX4_liveHour_5 ?_
  refine lv_aload_n hx hb dX4_liveHour_8 rfl (lv_at hl 0 rfl) ?_
  refine va_get (D := D) (ci := 4) (v := .int (nI h)) (C := RX4) (T := TX4) (N := 5) hx hb hts (by decide +kernel) hown hK.1 hP 0 rfl rfl 4 (by decide) (hts (.fieldLink RX4 37 "Turbineorchard" "now" "I") (by decide +kernel)) (fun _ h9 => h9) rfl dX4_liveHour_9 ?_
  refine lv_aload_n hx hb dX4_liveHour_12 rfl (lv_at hl 0 rfl) ?_
  refine va_get (D := D) (ci := 4) (v := .ref (a 5)) (C := RX4) (T := TX4) (N := 5) hx hb hts (by decide +kernel) hown hK.1 hP 0 rfl rfl 1 (by decide) (hts (.fieldLink RX4 19 "Turbineorchard" "field" "LTurbineorchard$Field;") (by decide +kernel)) (fun _ h9 => h9) rfl dX4_liveHour_13 ?_
  refine lv_aload_n hx hb dX4_liveHour_16 rfl (lv_at hl 0 rfl) ?_
  refine va_get (D := D) (ci := 4) (v := .ref (a 1)) (C := RX4) (T := TX4) (N := 5) hx hb hts (by decide +kernel) hown hK.1 hP 0 rfl rfl 0 (by decide) (hts (.fieldLink RX4 12 "Turbineorchard" "weather" "LTurbineorchard$Weather;") (by decide +kernel)) (fun _ h9 => h9) rfl dX4_liveHour_17 ?_
  refine lv_aload_n hx hb dX4_liveHour_20 rfl (lv_at hl 0 rfl) ?_
  refine va_get (D := D) (ci := 4) (v := .int (nI h)) (C := RX4) (T := TX4) (N := 5) hx hb hts (by decide +kernel) hown hK.1 hP 0 rfl rfl 4 (by decide) (hts (.fieldLink RX4 37 "Turbineorchard" "now" "I") (by decide +kernel)) (fun _ h9 => h9) rfl dX4_liveHour_21 ?_
  refine k_rd (As := [.int (nI h)]) (rest := [.ref (a 5), .int (nI h), .ref (a 17)]) (nL := 1) ⟨hx, hb, hml, hown, hts⟩ hK hP (c_X3_speedIn l D a cI cZ sp we tw h (by omega)) [1, 2, 3, 4] rfl 1 rfl rfl rfl (cwV 1 hts gX4_liveHour_X3_speedIn rfl rfl rfl (by decide +kernel) ⟨Nat.le_of_ble_eq_true rfl, Nat.le_of_ble_eq_true rfl⟩) rfl hl.1 rfl (Nat.le_of_ble_eq_true rfl) dX4_liveHour_24 ⟨Nat.zero_le _, Nat.zero_le _⟩ (fun r9 hr9 => ?_)
  subst hr9
  refine lv_aload_n hx hb dX4_liveHour_27 rfl (lv_at hl 0 rfl) ?_
  refine va_get (D := D) (ci := 4) (v := .ref (a 1)) (C := RX4) (T := TX4) (N := 5) hx hb hts (by decide +kernel) hown hK.1 hP 0 rfl rfl 0 (by decide) (hts (.fieldLink RX4 12 "Turbineorchard" "weather" "LTurbineorchard$Weather;") (by decide +kernel)) (fun _ h9 => h9) rfl dX4_liveHour_28 ?_
  refine lv_aload_n hx hb dX4_liveHour_31 rfl (lv_at hl 0 rfl) ?_
  refine va_get (D := D) (ci := 4) (v := .int (nI h)) (C := RX4) (T := TX4) (N := 5) hx hb hts (by decide +kernel) hown hK.1 hP 0 rfl rfl 4 (by decide) (hts (.fieldLink RX4 37 "Turbineorchard" "now" "I") (by decide +kernel)) (fun _ h9 => h9) rfl dX4_liveHour_32 ?_
  refine k_rd (As := [.int (nI h)]) (rest := [.int (sp h), .ref (a 5), .int (nI h), .ref (a 17)]) (nL := 1) ⟨hx, hb, hml, hown, hts⟩ hK hP (c_X3_isWestIn l D a cI cZ sp we tw h (by omega) (hwe h)) [1, 2, 3, 4] rfl 1 rfl rfl rfl (cwV 1 hts gX4_liveHour_X3_isWestIn rfl rfl rfl (by decide +kernel) ⟨Nat.le_of_ble_eq_true rfl, Nat.le_of_ble_eq_true rfl⟩) rfl hl.1 rfl (Nat.le_of_ble_eq_true rfl) dX4_liveHour_35 ⟨Nat.zero_le _, Nat.zero_le _⟩ (fun r9 hr9 => ?_)
  subst hr9
  refine k_ui (WR := (wT a cI cZ (nI h) ++ (wW a cI cZ sp we tw ++ (wE a cI cZ tu (fDec le (fWk (fWaves sp tw h) tu cr to) 3) cr (fInc to (fWk (fWaves sp tw h) tu cr to) 3) (fInc ia (fWk (fWaves sp tw h) tu cr to) 3) ++ (wG a cI cZ sl pr mk pc))))) (WN := (wT a cI cZ (nI h) ++ (wW a cI cZ sp we tw ++ (wF a cI cZ ta pl br (fStW n ta pl tu st (fWk (fWaves sp tw h) tu cr to) 3) (fAddR md (fPw (we h) pl br (fStW n ta pl tu st (fWk (fWaves sp tw h) tu cr to) 3) n (sp h)) n) (nI n) bc ++ (wE a cI cZ tu (fDec le (fWk (fWaves sp tw h) tu cr to) 3) cr (fInc to (fWk (fWaves sp tw h) tu cr to) 3) (fInc ia (fWk (fWaves sp tw h) tu cr to) 3) ++ (wG a cI cZ sl pr mk pc)))))) (As := [.int (sp h), .int (we h)]) (rest := [.int (nI h), .ref (a 17)]) (nL := 1) ⟨hx, hb, hml, hown, hts⟩ hK hP hD hS hA (c_X0_generate l D a cI cZ H.size ta pl br (fStW n ta pl tu st (fWk (fWaves sp tw h) tu cr to) 3) md bc n (sp h) (we h) (hn) (hpl)) [5, 6, 7, 8, 9, 10] [0, 1, 2, 3, 4, 11, 12, 13, 14, 15, 16, 17, 18, 19, 20] [0, 1, 2, 3, 4, 15, 16, 17, 18, 19, 20, 5, 6, 7, 8, 9, 10, 11, 12, 13, 14] rfl rfl (by decide) rfl (by decide) (by decide) rfl rfl (by decide) 5 rfl rfl rfl (cwV 2 hts gX4_liveHour_X0_generate rfl rfl rfl (by decide +kernel) ⟨Nat.le_of_ble_eq_true rfl, Nat.le_of_ble_eq_true rfl⟩) rfl hl.1 rfl (Nat.le_of_ble_eq_true rfl) dX4_liveHour_38 ⟨Nat.zero_le _, Nat.zero_le _⟩ (fun r9 H locs hr9 hP hD hS => ?_)
  subst hr9
  refine k_uv (WR := (wT a cI cZ (nI h) ++ (wW a cI cZ sp we tw ++ (wF a cI cZ ta pl br (fStW n ta pl tu st (fWk (fWaves sp tw h) tu cr to) 3) (fAddR md (fPw (we h) pl br (fStW n ta pl tu st (fWk (fWaves sp tw h) tu cr to) 3) n (sp h)) n) (nI n) bc ++ (wE a cI cZ tu (fDec le (fWk (fWaves sp tw h) tu cr to) 3) cr (fInc to (fWk (fWaves sp tw h) tu cr to) 3) (fInc ia (fWk (fWaves sp tw h) tu cr to) 3)))))) (WN := (wT a cI cZ (nI h) ++ (wW a cI cZ sp we tw ++ (wF a cI cZ ta pl br (fStW n ta pl tu st (fWk (fWaves sp tw h) tu cr to) 3) (fAddR md (fPw (we h) pl br (fStW n ta pl tu st (fWk (fWaves sp tw h) tu cr to) 3) n (sp h)) n) (nI n) bc ++ (wE a cI cZ tu (fDec le (fWk (fWaves sp tw h) tu cr to) 3) cr (fInc to (fWk (fWaves sp tw h) tu cr to) 3) (fInc ia (fWk (fWaves sp tw h) tu cr to) 3) ++ (wG a cI cZ sl pr (upd mk h (fSum (fPw (we h) pl br (fStW n ta pl tu st (fWk (fWaves sp tw h) tu cr to) 3) n (sp h)) n)) (pc + (fBring sl pr (upd mk h (fSum (fPw (we h) pl br (fStW n ta pl tu st (fWk (fWaves sp tw h) tu cr to) 3) n (sp h)) n)) h).toInt64))))))) (As := [.int (nI h), .int (fSum (fPw (we h) pl br (fStW n ta pl tu st (fWk (fWaves sp tw h) tu cr to) 3) n (sp h)) n)]) (rest := []) (nL := 1) ⟨hx, hb, hml, hown, hts⟩ hK hP hD hS hA (c_X2_endHour l D a cI cZ H.size sl pr mk pc h (fSum (fPw (we h) pl br (fStW n ta pl tu st (fWk (fWaves sp tw h) tu cr to) 3) n (sp h)) n) (by omega)) [17, 18, 19, 20] [0, 1, 2, 3, 4, 5, 6, 7, 8, 9, 10, 11, 12, 13, 14, 15, 16] [0, 1, 2, 3, 4, 5, 6, 7, 8, 9, 10, 11, 12, 13, 14, 15, 16, 17, 18, 19, 20] rfl rfl (by decide) rfl (by decide) (by decide) rfl rfl (by decide) 17 rfl rfl rfl (cwV 2 hts gX4_liveHour_X2_endHour rfl rfl rfl (by decide +kernel) ⟨Nat.le_of_ble_eq_true rfl, Nat.le_of_ble_eq_true rfl⟩) rfl hl.1 rfl (Nat.le_of_ble_eq_true rfl) dX4_liveHour_41 ⟨Nat.zero_le _, Nat.zero_le _⟩ (fun H locs hP hD hS => ?_)
  refine lv_aload_n hx hb dX4_liveHour_44 rfl (lv_at hl 0 rfl) ?_
  refine va_get (D := D) (ci := 4) (v := .ref (a 5)) (C := RX4) (T := TX4) (N := 5) hx hb hts (by decide +kernel) hown hK.1 hP 0 rfl rfl 1 (by decide) (hts (.fieldLink RX4 19 "Turbineorchard" "field" "LTurbineorchard$Field;") (by decide +kernel)) (fun _ h9 => h9) rfl dX4_liveHour_45 ?_
  refine k_uv (WR := (wT a cI cZ (nI h) ++ (wW a cI cZ sp we tw ++ (wE a cI cZ tu (fDec le (fWk (fWaves sp tw h) tu cr to) 3) cr (fInc to (fWk (fWaves sp tw h) tu cr to) 3) (fInc ia (fWk (fWaves sp tw h) tu cr to) 3) ++ (wG a cI cZ sl pr (upd mk h (fSum (fPw (we h) pl br (fStW n ta pl tu st (fWk (fWaves sp tw h) tu cr to) 3) n (sp h)) n)) (pc + (fBring sl pr (upd mk h (fSum (fPw (we h) pl br (fStW n ta pl tu st (fWk (fWaves sp tw h) tu cr to) 3) n (sp h)) n)) h).toInt64)))))) (WN := (wT a cI cZ (nI h) ++ (wW a cI cZ sp we tw ++ (wF a cI cZ ta pl br (setR (fStW n ta pl tu st (fWk (fWaves sp tw h) tu cr to) 3) 0 n 0) (fAddR md (fPw (we h) pl br (fStW n ta pl tu st (fWk (fWaves sp tw h) tu cr to) 3) n (sp h)) n) (nI n) bc ++ (wE a cI cZ tu (fDec le (fWk (fWaves sp tw h) tu cr to) 3) cr (fInc to (fWk (fWaves sp tw h) tu cr to) 3) (fInc ia (fWk (fWaves sp tw h) tu cr to) 3) ++ (wG a cI cZ sl pr (upd mk h (fSum (fPw (we h) pl br (fStW n ta pl tu st (fWk (fWaves sp tw h) tu cr to) 3) n (sp h)) n)) (pc + (fBring sl pr (upd mk h (fSum (fPw (we h) pl br (fStW n ta pl tu st (fWk (fWaves sp tw h) tu cr to) 3) n (sp h)) n)) h).toInt64))))))) (As := []) (rest := []) (nL := 1) ⟨hx, hb, hml, hown, hts⟩ hK hP hD hS hA (c_X0_endStillness l D a cI cZ H.size ta pl br (fStW n ta pl tu st (fWk (fWaves sp tw h) tu cr to) 3) (fAddR md (fPw (we h) pl br (fStW n ta pl tu st (fWk (fWaves sp tw h) tu cr to) 3) n (sp h)) n) bc n (hn)) [5, 6, 7, 8, 9, 10] [0, 1, 2, 3, 4, 11, 12, 13, 14, 15, 16, 17, 18, 19, 20] [0, 1, 2, 3, 4, 15, 16, 17, 18, 19, 20, 5, 6, 7, 8, 9, 10, 11, 12, 13, 14] rfl rfl (by decide) rfl (by decide) (by decide) rfl rfl (by decide) 5 rfl rfl rfl (cwV 0 hts gX4_liveHour_X0_endStillness rfl rfl rfl (by decide +kernel) ⟨Nat.le_of_ble_eq_true rfl, Nat.le_of_ble_eq_true rfl⟩) rfl hl.1 rfl (Nat.le_of_ble_eq_true rfl) dX4_liveHour_48 ⟨Nat.zero_le _, Nat.zero_le _⟩ (fun H locs hP hD hS => ?_)
  refine lv_aload_n hx hb dX4_liveHour_51 rfl (lv_at hl 0 rfl) ?_
  refine k_uv (WR := []) (WN := (wT a cI cZ (nI h) ++ (wW a cI cZ sp we tw ++ (wF a cI cZ ta pl (fBrE br tu (fEn tu (fDec le (fWk (fWaves sp tw h) tu cr to) 3)) 3) (setR (fStW n ta pl tu st (fWk (fWaves sp tw h) tu cr to) 3) 0 n 0) (fAddR md (fPw (we h) pl br (fStW n ta pl tu st (fWk (fWaves sp tw h) tu cr to) 3) n (sp h)) n) (nI n) (fBcE bc (fEn tu (fDec le (fWk (fWaves sp tw h) tu cr to) 3)) 3) ++ (wE a cI cZ (fTuE tu (fEn tu (fDec le (fWk (fWaves sp tw h) tu cr to) 3)) 3) (fDec le (fWk (fWaves sp tw h) tu cr to) 3) cr (fInc to (fWk (fWaves sp tw h) tu cr to) 3) (fInc ia (fWk (fWaves sp tw h) tu cr to) 3) ++ (wG a cI cZ sl pr (upd mk h (fSum (fPw (we h) pl br (fStW n ta pl tu st (fWk (fWaves sp tw h) tu cr to) 3) n (sp h)) n)) (pc + (fBring sl pr (upd mk h (fSum (fPw (we h) pl br (fStW n ta pl tu st (fWk (fWaves sp tw h) tu cr to) 3) n (sp h)) n)) h).toInt64))))))) (As := []) (rest := []) (nL := 1) ⟨hx, hb, hml, hown, hts⟩ hK hP hD hS hA (c_X4_endRepairs l D a cI cZ H.size sp we tw ta pl br (setR (fStW n ta pl tu st (fWk (fWaves sp tw h) tu cr to) 3) 0 n 0) (fAddR md (fPw (we h) pl br (fStW n ta pl tu st (fWk (fWaves sp tw h) tu cr to) 3) n (sp h)) n) bc tu (fDec le (fWk (fWaves sp tw h) tu cr to) 3) cr (fInc to (fWk (fWaves sp tw h) tu cr to) 3) (fInc ia (fWk (fWaves sp tw h) tu cr to) 3) sl pr (upd mk h (fSum (fPw (we h) pl br (fStW n ta pl tu st (fWk (fWaves sp tw h) tu cr to) 3) n (sp h)) n)) (pc + (fBring sl pr (upd mk h (fSum (fPw (we h) pl br (fStW n ta pl tu st (fWk (fWaves sp tw h) tu cr to) 3) n (sp h)) n)) h).toInt64) n h (hn) (hh) (htu)) [0, 1, 2, 3, 4, 5, 6, 7, 8, 9, 10, 11, 12, 13, 14, 15, 16, 17, 18, 19, 20] [] [0, 1, 2, 3, 4, 5, 6, 7, 8, 9, 10, 11, 12, 13, 14, 15, 16, 17, 18, 19, 20] rfl rfl (by decide) rfl (by decide) (by decide) rfl rfl (by decide) 0 rfl rfl rfl (cwV 0 hts gX4_liveHour_X4_endRepairs rfl rfl rfl (by decide +kernel) ⟨Nat.le_of_ble_eq_true rfl, Nat.le_of_ble_eq_true rfl⟩) rfl hl.1 rfl (Nat.le_of_ble_eq_true rfl) dX4_liveHour_52 ⟨Nat.zero_le _, Nat.zero_le _⟩ (fun H locs hP hD hS => ?_)
  refine lv_aload_n hx hb dX4_liveHour_55 rfl (lv_at hl 0 rfl) ?_
  refine lv_dup hx hb dX4_liveHour_56 rfl ?_
  refine va_get (D := D) (ci := 4) (v := .int (nI h)) (C := RX4) (T := TX4) (N := 5) hx hb hts (by decide +kernel) hown hK.1 hP 0 rfl rfl 4 (by decide) (hts (.fieldLink RX4 37 "Turbineorchard" "now" "I") (by decide +kernel)) (fun _ h9 => h9) rfl dX4_liveHour_57 ?_
  refine lv_iconst (v := 1) hx hb dX4_liveHour_60 (by decide) ?_
  refine lv_iadd hx hb dX4_liveHour_61 ?_
  refine k_rw (y := nI (h + 1)) (nI_1 h) ?_
  refine va_put (D := D) (ci := 4) (v := .int (nI (h + 1))) (ty := .int) (C := RX4) (T := TX4) (N := 5) hx hb hts (by decide +kernel) tyX4 tyX4_ok nmX4 hown hK.1 hP hD hS 0 rfl rfl 4 (by decide) (hts (.fieldLink RX4 37 "Turbineorchard" "now" "I") (by decide +kernel)) (fun _ h9 => h9) rfl (by decide +kernel) rfl rfl (Nat.le_of_ble_eq_true rfl) dX4_liveHour_62 (fun H locs hP hD hS => ?_)
  have hP : va_P D vwCl (wT a cI cZ (nI (h + 1)) ++ (wW a cI cZ sp we tw ++ (wF a cI cZ ta pl (fBrE br tu (fEn tu (fDec le (fWk (fWaves sp tw h) tu cr to) 3)) 3) (setR (fStW n ta pl tu st (fWk (fWaves sp tw h) tu cr to) 3) 0 n 0) (fAddR md (fPw (we h) pl br (fStW n ta pl tu st (fWk (fWaves sp tw h) tu cr to) 3) n (sp h)) n) (nI n) (fBcE bc (fEn tu (fDec le (fWk (fWaves sp tw h) tu cr to) 3)) 3) ++ (wE a cI cZ (fTuE tu (fEn tu (fDec le (fWk (fWaves sp tw h) tu cr to) 3)) 3) (fDec le (fWk (fWaves sp tw h) tu cr to) 3) cr (fInc to (fWk (fWaves sp tw h) tu cr to) 3) (fInc ia (fWk (fWaves sp tw h) tu cr to) 3) ++ (wG a cI cZ sl pr (upd mk h (fSum (fPw (we h) pl br (fStW n ta pl tu st (fWk (fWaves sp tw h) tu cr to) 3) n (sp h)) n)) (pc + (fBring sl pr (upd mk h (fSum (fPw (we h) pl br (fStW n ta pl tu st (fWk (fWaves sp tw h) tu cr to) 3) n (sp h)) n)) h).toInt64)))))) H := hP
  have hD : va_D A (wT a cI cZ (nI (h + 1)) ++ (wW a cI cZ sp we tw ++ (wF a cI cZ ta pl (fBrE br tu (fEn tu (fDec le (fWk (fWaves sp tw h) tu cr to) 3)) 3) (setR (fStW n ta pl tu st (fWk (fWaves sp tw h) tu cr to) 3) 0 n 0) (fAddR md (fPw (we h) pl br (fStW n ta pl tu st (fWk (fWaves sp tw h) tu cr to) 3) n (sp h)) n) (nI n) (fBcE bc (fEn tu (fDec le (fWk (fWaves sp tw h) tu cr to) 3)) 3) ++ (wE a cI cZ (fTuE tu (fEn tu (fDec le (fWk (fWaves sp tw h) tu cr to) 3)) 3) (fDec le (fWk (fWaves sp tw h) tu cr to) 3) cr (fInc to (fWk (fWaves sp tw h) tu cr to) 3) (fInc ia (fWk (fWaves sp tw h) tu cr to) 3) ++ (wG a cI cZ sl pr (upd mk h (fSum (fPw (we h) pl br (fStW n ta pl tu st (fWk (fWaves sp tw h) tu cr to) 3) n (sp h)) n)) (pc + (fBring sl pr (upd mk h (fSum (fPw (we h) pl br (fStW n ta pl tu st (fWk (fWaves sp tw h) tu cr to) 3) n (sp h)) n)) h).toInt64)))))) := hD
  refine lv_aload_n hx hb dX4_liveHour_65 rfl (lv_at hl 0 rfl) ?_
  refine va_get (D := D) (ci := 4) (v := .int (nI (h + 1))) (C := RX4) (T := TX4) (N := 5) hx hb hts (by decide +kernel) hown hK.1 hP 0 rfl rfl 4 (by decide) (hts (.fieldLink RX4 37 "Turbineorchard" "now" "I") (by decide +kernel)) (fun _ h9 => h9) rfl dX4_liveHour_66 ?_
  refine lv_bipush (v := 24) hx hb dX4_liveHour_69 (by decide) ?_
  refine lv_irem hx hb dX4_liveHour_71 (by decide) ?_
  refine k_rw (y := nI ((h + 1) % 24)) (nI_r24 (by omega)) ?_
  refine lv_if_ne (tgt := 82) hx hb dX4_liveHour_72 (by decide) (fun c_72 => ?_) (fun c_72 => ?_)
  · have c_72 : ¬ (h + 1) % 24 = 0 := fun q => c_72 (by rw [q]; rfl)
    have e9 : (fInc to (fWk (fWaves sp tw h) tu cr to) 3) = (fDay (h + 1) (fInc to (fWk (fWaves sp tw h) tu cr to) 3)) := by unfold fDay; rw [if_neg c_72]
    rw [e9] at hP hD
    clear e9
    exact k_endV (sz := 0) hx hb hr hlocks hP hD hS dX4_liveHour_82
  · have c_72 : (h + 1) % 24 = 0 := (nI_eq (by omega) (by decide)).mp c_72
    refine lv_aload_n hx hb dX4_liveHour_75 rfl (lv_at hl 0 rfl) ?_
    refine va_get (D := D) (ci := 4) (v := .ref (a 11)) (C := RX4) (T := TX4) (N := 5) hx hb hts (by decide +kernel) hown hK.1 hP 0 rfl rfl 2 (by decide) (hts (.fieldLink RX4 26 "Turbineorchard" "fleet" "LTurbineorchard$Fleet;") (by decide +kernel)) (fun _ h9 => h9) rfl dX4_liveHour_76 ?_
    refine k_uv (WR := (wT a cI cZ (nI (h + 1)) ++ (wW a cI cZ sp we tw ++ (wF a cI cZ ta pl (fBrE br tu (fEn tu (fDec le (fWk (fWaves sp tw h) tu cr to) 3)) 3) (setR (fStW n ta pl tu st (fWk (fWaves sp tw h) tu cr to) 3) 0 n 0) (fAddR md (fPw (we h) pl br (fStW n ta pl tu st (fWk (fWaves sp tw h) tu cr to) 3) n (sp h)) n) (nI n) (fBcE bc (fEn tu (fDec le (fWk (fWaves sp tw h) tu cr to) 3)) 3) ++ (wG a cI cZ sl pr (upd mk h (fSum (fPw (we h) pl br (fStW n ta pl tu st (fWk (fWaves sp tw h) tu cr to) 3) n (sp h)) n)) (pc + (fBring sl pr (upd mk h (fSum (fPw (we h) pl br (fStW n ta pl tu st (fWk (fWaves sp tw h) tu cr to) 3) n (sp h)) n)) h).toInt64)))))) (WN := (wT a cI cZ (nI (h + 1)) ++ (wW a cI cZ sp we tw ++ (wF a cI cZ ta pl (fBrE br tu (fEn tu (fDec le (fWk (fWaves sp tw h) tu cr to) 3)) 3) (setR (fStW n ta pl tu st (fWk (fWaves sp tw h) tu cr to) 3) 0 n 0) (fAddR md (fPw (we h) pl br (fStW n ta pl tu st (fWk (fWaves sp tw h) tu cr to) 3) n (sp h)) n) (nI n) (fBcE bc (fEn tu (fDec le (fWk (fWaves sp tw h) tu cr to) 3)) 3) ++ (wE a cI cZ (fTuE tu (fEn tu (fDec le (fWk (fWaves sp tw h) tu cr to) 3)) 3) (fDec le (fWk (fWaves sp tw h) tu cr to) 3) cr (setR (fInc to (fWk (fWaves sp tw h) tu cr to) 3) 0 3 0) (fInc ia (fWk (fWaves sp tw h) tu cr to) 3) ++ (wG a cI cZ sl pr (upd mk h (fSum (fPw (we h) pl br (fStW n ta pl tu st (fWk (fWaves sp tw h) tu cr to) 3) n (sp h)) n)) (pc + (fBring sl pr (upd mk h (fSum (fPw (we h) pl br (fStW n ta pl tu st (fWk (fWaves sp tw h) tu cr to) 3) n (sp h)) n)) h).toInt64))))))) (As := []) (rest := []) (nL := 1) ⟨hx, hb, hml, hown, hts⟩ hK hP hD hS hA (c_X1_beginDay l D a cI cZ H.size (fTuE tu (fEn tu (fDec le (fWk (fWaves sp tw h) tu cr to) 3)) 3) (fDec le (fWk (fWaves sp tw h) tu cr to) 3) cr (fInc to (fWk (fWaves sp tw h) tu cr to) 3) (fInc ia (fWk (fWaves sp tw h) tu cr to) 3) ) [11, 12, 13, 14, 15, 16] [0, 1, 2, 3, 4, 5, 6, 7, 8, 9, 10, 17, 18, 19, 20] [0, 1, 2, 3, 4, 5, 6, 7, 8, 9, 10, 15, 16, 17, 18, 19, 20, 11, 12, 13, 14] rfl rfl (by decide) rfl (by decide) (by decide) rfl rfl (by decide) 11 rfl rfl rfl (cwV 0 hts gX4_liveHour_X1_beginDay rfl rfl rfl (by decide +kernel) ⟨Nat.le_of_ble_eq_true rfl, Nat.le_of_ble_eq_true rfl⟩) rfl hl.1 rfl (Nat.le_of_ble_eq_true rfl) dX4_liveHour_79 ⟨Nat.zero_le _, Nat.zero_le _⟩ (fun H locs hP hD hS => ?_)
    have e9 : (setR (fInc to (fWk (fWaves sp tw h) tu cr to) 3) 0 3 0) = (fDay (h + 1) (fInc to (fWk (fWaves sp tw h) tu cr to) 3)) := by unfold fDay; rw [if_pos c_72]
    rw [e9] at hP hD
    clear e9
    exact k_endV (sz := 0) hx hb hr hlocks hP hD hS dX4_liveHour_82
end
section
/-! Throws: three classes of exceptions, sixteen texts; contracts of methods that may throw. Floats that are numbers. -/
abbrev kIOB : String := "java/lang/IndexOutOfBoundsException"
abbrev kISE : String := "java/lang/IllegalStateException"
abbrev kIAE : String := "java/lang/IllegalArgumentException"
abbrev kNm : List String := ["java/lang/RuntimeException", "java/lang/Exception"]
def kExc : List (String × Nat) := [(kIOB, 49), (kISE, 60), (kIAE, 72)]
def kStr : List (Nat × String) := [(47, "no such place"), (58, "the place is taken, or the field is full"), (70, "from, to or speed is out of range"), (77, "hour or waves is out of range"), (89, "no such turbine"), (94, "the turbine is broken"), (107, "no such boat"), (109, "hours is out of range"), (117, "no such boat or turbine"), (125, "the boat or the turbine is not fit for a repair"), (131, "hour, units or price is out of range"), (133, "the day ahead has ended"), (141, "there are no hours beyond the last"), (156, "hour is out of range"), (168, "hour or what is out of range"), (186, "what is out of range")]
def kDec : List MethodName := [Bundle.initS "java/lang/RuntimeException", Bundle.initS "java/lang/Exception", Bundle.initS Bundle.tN]
theorem kExc_ok : ∀ q ∈ kExc, Bundle.fit q.1 = true ∧ (∀ w ∈ vx_atS RX4 q.2 q.1 kNm, vx_ot w = true) ∧ (∀ w ∈ (vx_atS RX4 q.2 q.1 kNm).filter (fun w => !goodWord w), w ∈ Cond.castable q.1 q.1 :: kDec.map Cond.declares) := by decide +kernel
theorem kNm_ok : ∀ n ∈ kNm, Bundle.fit n = true := by decide +kernel
/-- what a throw needs -/
def kX (A : Nat → Prop) (U : State) (H : Heap) : Prop := vx_Zq Bundle.tN "UNASSIGNED_STACK" Bundle.steD A U H ∧ vx_Zq Bundle.tN "SUPPRESSED_SENTINEL" Bundle.listD A U H ∧ (∀ q ∈ kExc, va_Nw (.castable q.1 q.1) U) ∧ (∀ n ∈ kDec, va_Nw (.declares n) U) ∧ ∀ q ∈ kStr, ∃ sa, vk_R RX4 q.1 q.2 sa U
theorem kX.warm {A : Nat → Prop} {s U : State} {H : Heap} (h : kX A s H) (hW : s.WarmedH U.vm) : kX A U H := ⟨vx_Zq.moved hW.alike h.1, vx_Zq.moved hW.alike h.2.1, fun q hq => va_Nw.warmC hW (h.2.2.1 q hq), fun q hq => va_Nw.warmD hW (h.2.2.2.1 q hq), fun q hq => by obtain ⟨sa, z⟩ := h.2.2.2.2 q hq; exact ⟨sa, z.warm hW⟩⟩
theorem kX.call {A : Nat → Prop} {U : State} {H : Heap} {a : Array Value} {g : JFrame} {mk : MethodId} (h : kX A U H) : kX A (U.calling g mk a) H := ⟨vx_Zq.moved (u := U) (U := U.calling g mk a) (Vm.Alike.refl U.vm) h.1, vx_Zq.moved (u := U) (U := U.calling g mk a) (Vm.Alike.refl U.vm) h.2.1, fun q hq => va_Nw.same rfl (u := U) (U := U.calling g mk a) rfl (h.2.2.1 q hq), fun q hq => va_Nw.same rfl (u := U) (U := U.calling g mk a) rfl (h.2.2.2.1 q hq), fun q hq => by obtain ⟨sa, z⟩ := h.2.2.2.2 q hq; exact ⟨sa, z.same (u := U) (U := U.calling g mk a) rfl⟩⟩
theorem kX.narrow {A B : Nat → Prop} {U : State} {H : Heap} (h : kX A U H) (hAB : ∀ q, B q → A q) : kX B U H := ⟨h.1.narrow hAB, h.2.1.narrow hAB, h.2.2⟩
theorem kX.kept {A : Nat → Prop} {U : State} {H H1 : Heap} (h : kX A U H) (hq : ∀ a : Nat, a < H.size → ¬ A a → H1[a]? = H[a]?) : kX A U H1 := ⟨h.1.kept hq, h.2.1.kept hq, h.2.2⟩
/-- which exception it is, by the number that stands for it; 0: none -/
def kEx (c : Nat) (Es : List String) (E : String) : Prop := c ≠ 0 ∧ Es[c - 1]? = some E
theorem kEx_of {c k : Nat} {Es : List String} {E : String} (h : c = k + 1) (h2 : Es[k]? = some E) : kEx c Es E := by
  subst h; exact ⟨by omega, h2⟩
abbrev kXPre (D : va_G) (cI cZ : ClassId) (sz : Nat) (W : va_W) (U : State) : Prop := kPre D cI cZ sz W U ∧ kX (va_A W sz) U U.heap
abbrev kXX (D : va_G) (A : Nat → Prop) (W : va_W) (code : Nat) (Es : List String) : String → State → State → Prop := vx_X (fun _ : Unit => True) (fun E _ t => kEx code Es E ∧ kAt D A W t) A
abbrev kXi (l : Launch) (y : MethodName) (ws : List Cond) (rm : Room) (av : List Value) (D : va_G) (cI cZ : ClassId) (sz : Nat) (W W' : va_W) (code : Nat) (Es : List String) (post : Int32 → Prop) : Prop := vx_Met l y ws rm (va_Pc av (kXPre D cI cZ sz W)) (va_Qi (fun (r : Int32) (_ : Unit) => code = 0 ∧ post r) (fun _ t => kAt D (va_A W sz) W' t) (va_A W sz)) (kXX D (va_A W sz) W code Es) 1 6 (va_A W sz)
abbrev kXf (l : Launch) (y : MethodName) (ws : List Cond) (rm : Room) (av : List Value) (D : va_G) (cI cZ : ClassId) (sz : Nat) (W W' : va_W) (code : Nat) (Es : List String) (post : UInt32 → Prop) : Prop := vx_Met l y ws rm (va_Pc av (kXPre D cI cZ sz W)) (va_Qf (fun (r : UInt32) (_ : Unit) => code = 0 ∧ post r) (fun _ t => kAt D (va_A W sz) W' t) (va_A W sz)) (kXX D (va_A W sz) W code Es) 1 6 (va_A W sz)
abbrev kXv (l : Launch) (y : MethodName) (ws : List Cond) (rm : Room) (av : List Value) (D : va_G) (cI cZ : ClassId) (sz : Nat) (W W' : va_W) (code : Nat) (Es : List String) : Prop := vx_Met l y ws rm (va_Pc av (kXPre D cI cZ sz W)) (va_Qv (fun _ : Unit => code = 0) (fun _ t => kAt D (va_A W sz) W' t) (va_A W sz)) (kXX D (va_A W sz) W code Es) 1 6 (va_A W sz)
theorem kXPre_blind {D : va_G} {cI cZ : ClassId} {W1 : va_W} {av : List Value} {sz : Nat} : FrameBlind (va_Pc av (kXPre D cI cZ sz W1)) := fun a U g mk q => ⟨q.1, ⟨q.2.1.1, q.2.1.2.1, q.2.1.2.2.1.call, q.2.1.2.2.2⟩, q.2.2.call⟩
/-- a world that is read, a float's, a long's answer -/
abbrev kRf (l : Launch) (y : MethodName) (ws : List Cond) (rm : Room) (av : List Value) (D : va_G) (cI cZ : ClassId) (W : va_W) (post : UInt32 → Prop) : Prop := Met l y ws rm (va_Pc av (fun U => va_P D vwCl W U.heap ∧ kK D cI cZ U)) (vp_Sf post) 0 0 (fun _ => False)
abbrev kRl (l : Launch) (y : MethodName) (ws : List Cond) (rm : Room) (av : List Value) (D : va_G) (cI cZ : ClassId) (W : va_W) (post : Int64 → Prop) : Prop := Met l y ws rm (va_Pc av (fun U => va_P D vwCl W U.heap ∧ kK D cI cZ U)) (vp_Sl post) 0 0 (fun _ => False)
section KITX
variable {p : Program} {l : Launch} {e : Env} {R : Room} {s : State} {m : MethodId} {args : Array Value} {below : List Frame} {meth : Method} {c : Code} {H : Heap} {locs : List Loc} {cells slots : Nat} {Q : State → Prop}
variable {cc : ByteArray} {pc : Nat} {ls : Array Slot} {rest : List Value} {D : va_G} {A : Nat → Prop} {ws : va_W} {H0 : Heap}
theorem k_throw {Qc : Array Value → State → Outcome → State → Prop} {W1 : va_W} {E text : String} {ik is ic code k : Nat} {Es : List String} (hexec : p.tables.exec = Jvm.exec) (hb : c.code = cc) (hl : l.stackTraces = false) (hown : s.vm.findClass RX4 = some m.cls) (hE : (E, ic) ∈ kExc) (hk : (Cond.classLink RX4 ik E).before args s = true) (hini : (Cond.initialized E).before args s = true) (hq : (is, text) ∈ kStr) (hg : ∀ w ∈ (vx_atS RX4 ic E kNm).filter goodWord, w.before args s = true)
    (hX : kX A s s.heap) (hP : va_P D vwCl W1 s.heap) (hD : va_D A W1) (hsize : ls.size = c.maxLocals) (d0 : decode cc pc = .ok (.new ik, 3)) (d3 : decode cc (pc + 3) = .ok (.dup, 1)) (d4 : decode cc (pc + 4) = .ok (.ldc is, 2)) (d6 : decode cc (pc + 6) = .ok (.invokespecial ic, 3)) (d9 : decode cc (pc + 9) = .ok (.athrow, 1)) (ht : ∀ x ∈ c.exceptionTable.toList, False) (hfr : 5 < R.frames) (hlo : (rest.map fun v => v.category).sum + 82 ≤ R.locals) (hc : 1 ≤ R.cells) (hs : 6 ≤ R.slots) (hlocks : meth.locks = false) (hcode : code = k + 1) (hEs : Es[k]? = some E) :
    W p l e R s m args below meth c s.heap [] 0 0 (vx_MQ below Qc (kXX D A W1 code Es) args s 1 6 A) (F0 m pc ls rest) := by
  obtain ⟨hU, hN, hcast, hdec, hstr⟩ := hX
  obtain ⟨sa, hsa⟩ := hstr _ hq
  obtain ⟨o1, o2, o3⟩ := kExc_ok _ hE
  have hgood : ∀ w ∈ Cond.classLink RX4 ik E :: Cond.initialized E :: vx_atS RX4 ic E kNm, vx_ot w = true := by
    intro w hw
    rcases List.mem_cons.mp hw with h | h
    · rw [h]; rfl
    · rcases List.mem_cons.mp h with h | h
      · rw [h]; rfl
      · exact o2 w h
  exact vx_throwS (names := kNm) hexec hb hl hown o1 kNm_ok hk hini hsa (vx_hat hg o3 (vx_c (va_Nw.use rfl (hcast _ hE)) (fun w hw => by obtain ⟨n9, h8, rfl⟩ := List.mem_map.mp hw; exact va_Nw.use rfl (hdec _ h8)))) hgood hU hN va_S.rf hsize d0 d3 d4 d6 d9 (fun x h => (ht x h).elim) hfr hlo (by omega) (by omega) hlocks
    (fun t hA hz hq9 => ⟨(), trivial, ⟨kEx_of hcode hEs, hP.kept (fun k9 q9 h9 => hq9 q9.1 (hP k9 q9 h9).lt), hD⟩, hz, fun q9 h1 _ => hq9 q9 h1⟩) (fun z h => nomatch h) (Nat.le_refl _) (Nat.le_refl _)
theorem k_endXi {ty : FieldType} {v : Int32} {post : Int32 → Prop} {W' W1 : va_W} {code : Nat} {Es : List String} (hexec : p.tables.exec = Jvm.exec) (hb : c.code = cc) (hr : meth.sig.returnType = some ty) (hlocks : meth.locks = false) (hn : narrow ty (.int v) = .int v) (hp : code = 0 ∧ post v) (hP : va_P D vwCl W' H) (hD : va_D A W') (hS : va_S A s.heap H locs) (hdg : decode cc pc = .ok (.ireturn, 1)) : W p l e R s m args below meth c H locs 0 0 (vx_MQ below (va_Qi (fun (r : Int32) (_ : Unit) => code = 0 ∧ post r) (fun _ t => kAt D A W' t) A) (kXX D A W1 code Es) args s 1 6 A) (F0 m pc ls [.int v]) := by
  refine W.widen (k := 1) (n := 6) (by decide) (by decide) (vx_ret ?_)
  exact W.zret hexec hb hr hn (fun t ht hW => ⟨⟨v, (), rfl, hp, by rw [ht]; exact hP, hD⟩, hS.F ht⟩) hS.2.2 hdg hlocks
theorem k_endXf {v : UInt32} {post : UInt32 → Prop} {W' W1 : va_W} {code : Nat} {Es : List String} (hexec : p.tables.exec = Jvm.exec) (hb : c.code = cc) (hr : meth.sig.returnType = some .float) (hlocks : meth.locks = false) (hp : code = 0 ∧ post v) (hP : va_P D vwCl W' H) (hD : va_D A W') (hS : va_S A s.heap H locs) (hdg : decode cc pc = .ok (.freturn, 1)) : W p l e R s m args below meth c H locs 0 0 (vx_MQ below (va_Qf (fun (r : UInt32) (_ : Unit) => code = 0 ∧ post r) (fun _ t => kAt D A W' t) A) (kXX D A W1 code Es) args s 1 6 A) (F0 m pc ls [.float v]) := by
  refine W.widen (k := 1) (n := 6) (by decide) (by decide) (vx_ret ?_)
  exact W.fret hexec hb hr (fun t ht hW => ⟨⟨v, (), rfl, hp, by rw [ht]; exact hP, hD⟩, hS.F ht⟩) hS.2.2 hdg hlocks
theorem k_endXv {W' W1 : va_W} {code : Nat} {Es : List String} (hexec : p.tables.exec = Jvm.exec) (hb : c.code = cc) (hr : meth.sig.returnType = none) (hlocks : meth.locks = false) (hp : code = 0) (hP : va_P D vwCl W' H) (hD : va_D A W') (hS : va_S A s.heap H locs) (hdg : decode cc pc = .ok (.return_, 1)) : W p l e R s m args below meth c H locs 0 0 (vx_MQ below (va_Qv (fun _ : Unit => code = 0) (fun _ t => kAt D A W' t) A) (kXX D A W1 code Es) args s 1 6 A) (F0 m pc ls []) := by
  refine W.widen (k := 1) (n := 6) (by decide) (by decide) (vx_ret ?_)
  exact W.vret hexec hb hr (fun t ht hW => ⟨⟨(), rfl, hp, by rw [ht]; exact hP, hD⟩, hS.F ht⟩) hS.2.2 hdg hlocks
theorem k_endRf {v : UInt32} {post : UInt32 → Prop} (hexec : p.tables.exec = Jvm.exec) (hb : c.code = cc) (hr : meth.sig.returnType = some .float) (hlocks : meth.locks = false) (hp : post v) (hdg : decode cc pc = .ok (.freturn, 1)) : W p l e R s m args below meth c s.heap [] 0 0 (MQ below (vp_Sf post) args s 0 0 (fun _ => False)) (F0 m pc ls [.float v]) :=
  W.fret hexec hb hr (fun t ht hW => ⟨v, rfl, hp, ht⟩) (fun q hq => absurd hq List.not_mem_nil) hdg hlocks
theorem k_endRl {v : Int64} {post : Int64 → Prop} (hexec : p.tables.exec = Jvm.exec) (hb : c.code = cc) (hr : meth.sig.returnType = some .long) (hlocks : meth.locks = false) (hp : post v) (hdg : decode cc pc = .ok (.lreturn, 1)) : W p l e R s m args below meth c s.heap [] 0 0 (MQ below (vp_Sl post) args s 0 0 (fun _ => False)) (F0 m pc ls [.long v]) :=
  W.lret hexec hb hr (fun t ht hW => ⟨v, rfl, hp, ht⟩) (fun q hq => absurd hq List.not_mem_nil) hdg hlocks
variable {Ts wsY ws' : List Cond} {bytes : ByteArray} {nL maxL index n : Nat} {own C : String} {y : MethodName} {ret : Option FieldType} {rm : Room} {b : Addr} {As st0 : List Value} {cI cZ : ClassId} {W1 W2 : va_W}
theorem k_rdf {post : UInt32 → Prop} (S : CallFix p m c cc nL s args Ts own) (hK : kK D cI cZ s) (hP : va_P D vwCl ws H) (hM : kRf l y wsY rm (.ref b :: As) D cI cZ W1 post) (is : List Nat) (hC : is.filterMap (fun i => ws[i]?) = W1) (q0 : Nat) {ci : Nat} {fs : List Value} {q : vw_C} (hq : ws[q0]? = some (b, .inr (ci, fs))) (hcl : vwCl[ci]? = some q) (hn1 : q.1 = C) (cw : CallW R s args own C index y bytes maxL ret wsY rm 0 0 n) (hn : As.length = n) (hsize : ls.size = nL) (hst : st0 = As.reverse ++ .ref b :: rest) (hW : (rest.map fun v => v.category).sum ≤ 8) (hdg : decode cc pc = .ok (.invokevirtual index, 3)) (hf : cells ≤ R.cells ∧ slots ≤ R.slots)
    (kk : ∀ r : UInt32, post r → W p l e R s m args below meth c H locs cells slots Q (F0 m (pc + 3) ls (.float r :: rest))) : W p l e R s m args below meth c H locs cells slots Q (F0 m pc ls st0) := by
  subst hn1
  exact vp_callSf (va_runV S hM cw ⟨kRd_blind, va_recv hK.1 hP hcl hq, fun U hU hW => ⟨rfl, by rw [hU]; exact hP.sub is hC, hK.warm hW⟩⟩ rfl hn hsize hst (lv_room hW) hdg hf).run kk
theorem k_rdl {post : Int64 → Prop} (S : CallFix p m c cc nL s args Ts own) (hK : kK D cI cZ s) (hP : va_P D vwCl ws H) (hM : kRl l y wsY rm (.ref b :: As) D cI cZ W1 post) (is : List Nat) (hC : is.filterMap (fun i => ws[i]?) = W1) (q0 : Nat) {ci : Nat} {fs : List Value} {q : vw_C} (hq : ws[q0]? = some (b, .inr (ci, fs))) (hcl : vwCl[ci]? = some q) (hn1 : q.1 = C) (cw : CallW R s args own C index y bytes maxL ret wsY rm 0 0 n) (hn : As.length = n) (hsize : ls.size = nL) (hst : st0 = As.reverse ++ .ref b :: rest) (hW : (rest.map fun v => v.category).sum ≤ 8) (hdg : decode cc pc = .ok (.invokevirtual index, 3)) (hf : cells ≤ R.cells ∧ slots ≤ R.slots)
    (kk : ∀ r : Int64, post r → W p l e R s m args below meth c H locs cells slots Q (F0 m (pc + 3) ls (.long r :: rest))) : W p l e R s m args below meth c H locs cells slots Q (F0 m pc ls st0) := by
  subst hn1
  exact vp_callSl (va_runV S hM cw ⟨kRd_blind, va_recv hK.1 hP hcl hq, fun U hU hW => ⟨rfl, by rw [hU]; exact hP.sub is hC, hK.warm hW⟩⟩ rfl hn hsize hst (lv_room hW) hdg hf).run kk
end KITX
/-! a quotient of two ints, the second not 0, is a number -/
theorem vf_no {x : UInt32} (h : FP.Core.fIsNaN x = false) : vf_n32 x := by
  unfold vf_n32
  rw [UInt32.le_iff_toNat_le, UInt32.toNat_and]
  have h1 : (0x7fffffff : UInt32).toNat = 2 ^ 31 - 1 := by decide
  have h2 : (0x7f800000 : UInt32).toNat = 2139095040 := by decide
  rw [h1, h2, Nat.and_two_pow_sub_one_eq_mod]
  rw [← Bool.not_eq_true, FP.Core.isNaN_bits32] at h
  omega
theorem fq_core {x y : Int32} (hy : ¬ y = 0) : FP.Core.fIsNaN (FP.fdiv (FP.i2f x) (FP.i2f y)) = false :=
  FP.Core.fdiv_out (FP.Core.i2f_fin x).notNaN (FP.Core.i2f_fin y) (fun h => FP.Core.i2f_ne_zero hy ((FP.Core.zero_bits232 _).mp h))
theorem fq_no {x y : Int32} (hy : ¬ y = 0) : vf_n32 (FP.fdiv (FP.i2f x) (FP.i2f y)) := vf_no (fq_core hy)
/-- the ratio of an hour -/
def fRatio (sl mk : Nat → Int32) (k : Nat) : UInt32 := if fSold sl k = 0 then 0 else FP.fdiv (FP.i2f (mk k)) (FP.i2f (fSold sl k))
theorem fRatio_no (sl mk : Nat → Int32) (k : Nat) : FP.Core.fIsNaN (fRatio sl mk k) = false := by
  unfold fRatio
  by_cases h : fSold sl k = 0
  · rw [if_pos h]; decide
  · rw [if_neg h]; exact fq_core h
end
