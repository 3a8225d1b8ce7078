/-! More shapes of contracts: a world that is changed, a float's or a long's answer; what is changed only where nothing is refused. -/
def kIf (c : Nat) (x y : Nat → Int32) : Nat → Int32 := if c = 0 then x else y
def kIfi (c : Nat) (x y : Int32) : Int32 := if c = 0 then x else y
theorem kIf_0 {c : Nat} {x y : Nat → Int32} (h : c = 0) : kIf c x y = x := if_pos h
theorem kIf_s {c : Nat} {x y : Nat → Int32} (h : ¬ c = 0) : kIf c x y = y := if_neg h
theorem kIfi_0 {c : Nat} {x y : Int32} (h : c = 0) : kIfi c x y = x := if_pos h
theorem kIfi_s {c : Nat} {x y : Int32} (h : ¬ c = 0) : kIfi c x y = y := if_neg h
abbrev kUf (l : Launch) (y : MethodName) (ws : List Cond) (rm : Room) (av : List Value) (D : va_G) (cI cZ : ClassId) (sz : Nat) (W W' : va_W) (post : UInt32 → Prop) : Prop := Met l y ws rm (va_Pc av (kPre D cI cZ sz W)) (va_Qf (fun (r : UInt32) (_ : Unit) => post r) (fun _ t => kAt D (va_A W sz) W' t) (va_A W sz)) 0 0 (va_A W sz)
abbrev kUl (l : Launch) (y : MethodName) (ws : List Cond) (rm : Room) (av : List Value) (D : va_G) (cI cZ : ClassId) (sz : Nat) (W W' : va_W) (post : Int64 → Prop) : Prop := Met l y ws rm (va_Pc av (kPre D cI cZ sz W)) (va_Ql (fun (r : Int64) (_ : Unit) => post r) (fun _ t => kAt D (va_A W sz) W' t) (va_A W sz)) 0 0 (va_A W sz)
section KIT2
variable {p : Program} {l : Launch} {e : Env} {R : Room} {s : State} {m : MethodId} {args : Array Value} {below : List Frame} {meth : Method} {c : Code} {H : Heap} {locs : List Loc} {cells slots : Nat} {Q : State → Prop}
variable {cc : ByteArray} {pc : Nat} {ls : Array Slot} {rest : List Value} {D : va_G} {A : Nat → Prop} {ws : va_W} {H0 : Heap}
theorem k_endUf {v : UInt32} {post : UInt32 → Prop} {W' : va_W} (hexec : p.tables.exec = Jvm.exec) (hb : c.code = cc) (hr : meth.sig.returnType = some .float) (hlocks : meth.locks = false) (hp : post v) (hP : va_P D vwCl W' H) (hD : va_D A W') (hS : va_S A s.heap H locs) (hdg : decode cc pc = .ok (.freturn, 1)) : W p l e R s m args below meth c H locs cells slots (MQ below (va_Qf (fun (r : UInt32) (_ : Unit) => post r) (fun _ t => kAt D A W' t) A) args s cells slots A) (F0 m pc ls [.float v]) :=
  W.fret hexec hb hr (fun t ht hW => ⟨⟨v, (), rfl, hp, by rw [ht]; exact hP, hD⟩, hS.F ht⟩) hS.2.2 hdg hlocks
theorem k_endUl {v : Int64} {post : Int64 → Prop} {W' : va_W} (hexec : p.tables.exec = Jvm.exec) (hb : c.code = cc) (hr : meth.sig.returnType = some .long) (hlocks : meth.locks = false) (hp : post v) (hP : va_P D vwCl W' H) (hD : va_D A W') (hS : va_S A s.heap H locs) (hdg : decode cc pc = .ok (.lreturn, 1)) : W p l e R s m args below meth c H locs cells slots (MQ below (va_Ql (fun (r : Int64) (_ : Unit) => post r) (fun _ t => kAt D A W' t) A) args s cells slots A) (F0 m pc ls [.long v]) :=
  W.lret hexec hb hr (fun t ht hW => ⟨⟨v, (), rfl, hp, by rw [ht]; exact hP, hD⟩, hS.F ht⟩) hS.2.2 hdg hlocks
end KIT2
/-! the reference's own numbers -/
def cTurbM (n : Nat) (pl : Nat → Int32) (x : Int32) : Nat := if 0 ≤ x ∧ x ≤ 23 then (if fAny (fun j => decide (pl j = x)) n = true ∨ n = 12 then 2 else 0) else 1
def fBes (p q : Nat) : Prop := (p % 6 = q % 6 ∧ (p / 6 = q / 6 + 1 ∨ q / 6 = p / 6 + 1)) ∨ (p / 6 = q / 6 ∧ (p % 6 = q % 6 + 1 ∨ q % 6 = p % 6 + 1))
def fTnAll (n : Nat) (br tn : Nat → Int32) (k : Nat) : Nat → Int32 := fun t => if t < k then 1 - br t else tn t
def fTnB (pl tn : Nat → Int32) (p : Nat) (k : Nat) : Nat → Int32 := fun t => if t < k ∧ ((fP pl t % 6 = p % 6 ∧ (fP pl t / 6 = p / 6 + 1 ∨ p / 6 = fP pl t / 6 + 1)) ∨ (fP pl t / 6 = p / 6 ∧ (fP pl t % 6 = p % 6 + 1 ∨ p % 6 = fP pl t % 6 + 1))) then 0 else tn t
def fTnW (n : Nat) (pl tu tn : Nat → Int32) (wk : Nat → Bool) : Nat → (Nat → Int32)
  | 0 => tn
  | k + 1 => if wk k = true then fTnB pl (fTnW n pl tu tn wk k) (fP pl (fP tu k)) n else fTnW n pl tu tn wk k
theorem bI_or1 {P : Prop} [Decidable P] : bI P ||| 1 = 1 := by by_cases h : P <;> simp only [bI, h, if_true, if_false] <;> decide
theorem bI_or0 {P : Prop} [Decidable P] : bI P ||| 0 = bI P := by by_cases h : P <;> simp only [bI, h, if_true, if_false] <;> decide
/-- the place so far ahead, as the reference reckons -/
theorem all3 {f : Nat → Nat → Nat → Bool} {a b c : Nat} (h : (List.range a).all (fun x => (List.range b).all fun y => (List.range c).all fun z => f x y z) = true) {x y z : Nat} (hx : x < a) (hy : y < b) (hz : z < c) : f x y z = true :=
  List.all_eq_true.mp (List.all_eq_true.mp (List.all_eq_true.mp h x (List.mem_range.mpr hx)) y (List.mem_range.mpr hy)) z (List.mem_range.mpr hz)
theorem ahead_w {q r d : Nat} (hq : q < 24) (hr : r < 24) (hd : d < 6) : (¬ nI (q % 6) - nI d < 0 ∧ ¬ nI (q / 6) - 0 < 0 ∧ nI r = 6 * (nI (q / 6) - 0) + (nI (q % 6) - nI d)) ↔ (r % 6 + d = q % 6 ∧ r / 6 = q / 6) :=
  of_decide_eq_true (all3 (f := fun q r d => decide ((¬ nI (q % 6) - nI d < 0 ∧ ¬ nI (q / 6) - 0 < 0 ∧ nI r = 6 * (nI (q / 6) - 0) + (nI (q % 6) - nI d)) ↔ (r % 6 + d = q % 6 ∧ r / 6 = q / 6))) (a := 24) (b := 24) (c := 6) (by decide +kernel) hq hr hd)
theorem ahead_n {q r d : Nat} (hq : q < 24) (hr : r < 24) (hd : d < 6) : (¬ nI (q % 6) - 0 < 0 ∧ ¬ nI (q / 6) - nI d < 0 ∧ nI r = 6 * (nI (q / 6) - nI d) + (nI (q % 6) - 0)) ↔ (r / 6 + d = q / 6 ∧ r % 6 = q % 6) :=
  of_decide_eq_true (all3 (f := fun q r d => decide ((¬ nI (q % 6) - 0 < 0 ∧ ¬ nI (q / 6) - nI d < 0 ∧ nI r = 6 * (nI (q / 6) - nI d) + (nI (q % 6) - 0)) ↔ (r / 6 + d = q / 6 ∧ r % 6 = q % 6))) (a := 24) (b := 24) (c := 6) (by decide +kernel) hq hr hd)
theorem beside_dec : ∀ q, q < 24 → ∀ r, r < 24 → ((nI (q % 6) - nI (r % 6)) * (nI (q % 6) - nI (r % 6)) + (nI (q / 6) - nI (r / 6)) * (nI (q / 6) - nI (r / 6)) = 1 ↔ ((q % 6 = r % 6 ∧ (q / 6 = r / 6 + 1 ∨ r / 6 = q / 6 + 1)) ∨ (q / 6 = r / 6 ∧ (q % 6 = r % 6 + 1 ∨ r % 6 = q % 6 + 1)))) := by decide +kernel
