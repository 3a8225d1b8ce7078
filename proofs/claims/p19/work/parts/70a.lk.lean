/-! The law's body: what its pieces share. -/
abbrev lA (s : State) : Nat → Prop := fun q => s.heap.size ≤ q
def LH (p : Program) (l : Launch) (s : State) (m : MethodId) (c : Code) (sb L : Nat) (xs : Nat → Int32) (D : va_G) (cI cZ : ClassId) : Prop := p.tables.exec = Jvm.exec ∧ c.code = code ∧ c.maxLocals = 10 ∧ s.vm.findClass RL = some m.cls ∧ (∀ w ∈ wsL_law, w.before #[.ref sb] s = true) ∧ va_X sb L xs s s.heap ∧ sb < s.heap.size ∧ kL D cI cZ s ∧ kX (lA s) s s.heap ∧ l.stackTraces = false ∧ L ≤ 260
section LK
variable {p : Program} {l : Launch} {e : Env} {R : Room} {s : State} {m : MethodId} {args : Array Value} {below : List Frame} {meth : Method} {c : Code} {H : Heap} {locs : List Loc} {cells slots : Nat} {Q : State → Prop}
variable {cc : ByteArray} {pc : Nat} {ls : Array Slot} {rest : List Value}
variable {Ts wsY : List Cond} {bytes : ByteArray} {nL maxL index n : Nat} {own : String} {y : MethodName} {ret : Option FieldType} {rm : Room} {As st0 : List Value}
theorem k_cell {b L : Nat} {xs : Nat → Int32} (S : CallFix p m c cc nL s args Ts own) (hXs : va_X b L xs s s.heap) (hbl : b < s.heap.size) (hS : va_S (lA s) s.heap H locs) (hM : Met l y wsY rm (va_Pc As (cellPre b L xs)) (vp_Si (fun _ => True)) 0 0 (fun _ => False)) (cw : CallB R s args own index y bytes maxL ret wsY rm 0 0 n ∧ (Cond.static y).before args s = true) (hn : As.length = n) (hsize : ls.size = nL) (hst : st0 = As.reverse ++ rest) (hW : (rest.map fun v => v.category).sum ≤ 8) (hdg : decode cc pc = .ok (.invokestatic index, 3)) (hf : cells ≤ R.cells ∧ slots ≤ R.slots)
    (kk : ∀ r : Int32, W p l e R s m args below meth c H locs cells slots Q (F0 m (pc + 3) ls (.int r :: rest))) : W p l e R s m args below meth c H locs cells slots Q (F0 m pc ls st0) :=
  vp_callSi (va_runS S hM cw ⟨cellPre_blind, fun U hU hW => ⟨rfl, by rw [hU]; exact va_X.moved hW.alike (hXs.kept (hS.2.1 b hbl (Nat.not_le.mpr hbl))), by rw [hU]; exact Nat.lt_of_lt_of_le hbl hS.1⟩⟩ rfl hn hsize hst (lv_room hW) hdg hf).run (fun r _ => kk r)
end LK
theorem pass_0 {h j : Nat} (hh : h + 8 ≤ 479) (hj : j < 8) : cPass h (nI (1 + j)) = 0 := by
  unfold cPass
  rw [if_pos ⟨nI_le (a := 1) (by omega) (by omega), nI_le (b := 48) (by omega) (by decide)⟩, show cl (nI (1 + j)) = 1 + j from nI_clamp (by omega), if_pos (by omega)]
theorem dP_0 {code : Nat} {v r : Int32} {L : List Int32} {new old u : St} (h : dP code v L new old r u) (hc : code = 0) : r = v ∧ u = new := by
  rcases h with ⟨-, h1, h2⟩ | ⟨h1, -, -⟩
  · exact ⟨h1, h2⟩
  · exact absurd hc h1
theorem dP_n {code i : Nat} {v r x : Int32} {L : List Int32} {new old u : St} (h : dP code v L new old r u) (hc : code = i + 1) (hx : L.getD i (-4) = x) : r = x ∧ u = old := by
  rcases h with ⟨h1, -, -⟩ | ⟨-, h1, h2⟩
  · omega
  · rw [hc, Nat.add_sub_cancel, hx] at h1
    exact ⟨h1, h2⟩
theorem no_turb {n : Nat} {ta : Nat → Int32} : cTurb n ta (-1) = 0 + 1 := by unfold cTurb; rw [if_neg (by decide)]
theorem no_wind {h : Nat} {t v : Int32} (hh : h < 480) : cWind h (nI h - 1) t v = 0 + 1 := by
  unfold cWind
  rw [if_neg (fun q => by
    have h1 := le_i q.1.1
    have h2 := pk_sub_toInt (a := h) (b := 1) (by omega) (by decide)
    rw [show (nI 1 : Int32) = 1 from rfl] at h2
    rw [h2, nI_toInt (by omega)] at h1
    omega)]
theorem no_waves {h : Nat} {w : Int32} : cWaves h 480 w = 0 + 1 := by unfold cWaves; rw [if_neg (fun q => absurd q.1.2 (by decide))]
theorem no_breaks {n : Nat} {br : Nat → Int32} : cBreaks n br (-1) = 0 + 1 := by unfold cBreaks; rw [if_neg (hasT_m1 n)]
theorem no_crew {x : Int32} : cCrew 3 x = 0 + 1 := by unfold cCrew; rw [if_neg (by decide)]
theorem no_repair {n : Nat} {br tu : Nat → Int32} {t x : Int32} : cRepair n br tu (-1) t x = 0 + 1 := by unfold cRepair; rw [if_neg (fun q => absurd q.1.1 (by decide))]
theorem no_pass {h : Nat} : cPass h 0 = 0 + 1 := by unfold cPass; rw [if_neg (by decide)]
theorem no_of {σ : St} {w : Int32} : ofV σ (-1) w = -2 := by unfold ofV; rw [if_neg (hasT_m1 _)]
