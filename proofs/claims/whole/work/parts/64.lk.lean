/-! The law's body: what its pieces share. -/
theorem lv_lcmp_self {p : Program} {l : Launch} {e : Env} {R : Room} {s : State} {m : MethodId} {args : Array Value} {below : List Frame} {meth : Method} {c : Code} {H : Heap} {locs : List Loc} {cells slots : Nat} {Q : State → Prop} {cc : ByteArray} {pc : Nat} {ls : Array Slot} {rest : List Value} (hexec : p.tables.exec = Jvm.exec) (hb : c.code = cc) {x y : Int64} (hxy : x = y) (hdg : decode cc pc = .ok (.lcmp, 1))
    (k : W p l e R s m args below meth c H locs cells slots Q (F0 m (pc + 1) ls (.int 0 :: rest))) : W p l e R s m args below meth c H locs cells slots Q (F0 m pc ls (.long y :: .long x :: rest)) := by
  subst hxy
  intro T hT X
  obtain ⟨t, a, b⟩ := k T hT X
  refine ⟨t, ?_, b⟩
  jvm_step X.here [X.here.top, hexec, hb, hdg]
  exact a
abbrev lA (s : State) : Nat → Prop := fun q => s.heap.size ≤ q
section LK
variable {p : Program} {l : Launch} {e : Env} {R : Room} {s : State} {m : MethodId} {args : Array Value} {below : List Frame} {meth : Method} {c : Code} {H : Heap} {locs : List Loc} {cells slots : Nat} {Q : State → Prop}
variable {cc : ByteArray} {pc : Nat} {ls : Array Slot} {rest : List Value} {D : va_G} {A : Nat → Prop} {ws : va_W} {H0 : Heap} {cI cZ cJ cD : ClassId}
variable {Ts wsY ws' : List Cond} {bytes : ByteArray} {nL maxL index n : Nat} {own C : String} {y : MethodName} {ret : Option FieldType} {hh : List (Nat × Nat × Nat × Nat)} {rm : Room} {As st0 : List Value} {W1 W2 WR WN : va_W} {code : Nat}
theorem k_lw (S : CallFix p m c cc nL s args Ts own) (hK : kL D cI cZ cJ cD s) (hX : kX A s H0) (hP : va_P D vwCl ws H) (hD : va_D A ws) (hS : va_S A H0 H locs) (hA : ∀ q, H0.size ≤ q → A q) (hM : kW l y wsY rm As D cI cZ cJ cD H.size W1 W2 code) (isC isR is9 : List Nat) (hC : isC.map (fun i => ws[i]?) = W1.map some) (hC2 : isC.filterMap (fun i => ws[i]?) = W1) (hnC : va_nd isC = true) (hR : isR.map (fun i => ws[i]?) = WR.map some) (hnR : va_nd isR = true) (hdis : ∀ i ∈ isR, i ∉ isC) (h9 : is9.map (fun i => (WR ++ W2)[i]?) = WN.map some) (h92 : is9.filterMap (fun i => (WR ++ W2)[i]?) = WN) (hn9 : va_nd is9 = true)
    (cw : vx_CSW R s args own index y bytes maxL ret hh wsY rm 1 6 n) (hn : As.length = n) (hsize : ls.size = nL) (hst : st0 = As.reverse ++ rest) (hW : (rest.map fun v => v.category).sum ≤ 8) (hdg : decode cc pc = .ok (.invokestatic index, 3)) (hf : cells + 1 ≤ R.cells ∧ slots + 6 ≤ R.slots)
    (kk : ∀ (H1 : Heap) (locs1 : List Loc), va_P D vwCl WN H1 → va_D A WN → va_S A H0 H1 locs1 → W p l e R s m args below meth c H1 locs1 (cells + 1) (slots + 6) Q (F0 m (pc + 3) ls (.int (nI code) :: rest))) : W p l e R s m args below meth c H locs cells slots Q (F0 m pc ls st0) := by
  have hPc : va_P D vwCl W1 H := hP.sub isC hC2
  have hDc : va_D A W1 := hD.sub isC hnC hC
  have hFc := va_free (wc := W1) hD hS hA isC hC
  have hXH : kX A s H := hX.kept hS.2.1
  refine va_calli (vx_runSW S hM cw ⟨kWPre_blind, fun U hU hW => ⟨rfl, by rw [hU], by rw [hU]; exact hPc, hK.warm hW, hDc.weaken (fun _ _ _ _ => trivial), by rw [hU]; exact (hXH.narrow hFc).warm hW⟩⟩ rfl hn hsize hst (lv_room hW) hdg hf) hS (fun q _ h => hFc q h) hFc (fun r u t H1 locs1 ht hvm hw hB hz1 hk1 hS1 => ?_)
  obtain ⟨hP1, hD1⟩ := hB
  rw [ht] at hP1
  subst hw
  obtain ⟨hP2, hD2⟩ := va_join (wr := WR) hP hD isC isR hC hR hnR hdis hk1 hFc hP1 hD1
  exact kk H1 locs1 (hP2.sub is9 h92) (hD2.sub is9 hn9 h9) hS1
theorem k_scr {sb L i0 : Nat} {xs : Nat → Int32} (hexec : p.tables.exec = Jvm.exec) (hb : c.code = cc) (hXs : va_X sb L xs s s.heap) (hbl : sb < s.heap.size) (hL : L ≤ 2560) (hS : va_S (lA s) s.heap H locs) (e0 : ls[0]? = some (.val (.ref sb))) (e5 : ls[5]? = some (.val (.int (nI i0)))) (j : Nat) {jz : Int} (hjz : Int32.ofInt jz = nI j) (hj : i0 + j < L) (d0 : decode cc pc = .ok (.aload_n 0, 1)) (d1 : decode cc (pc + 1) = .ok (.iload 5, 2)) (d3 : decode cc (pc + 3) = .ok (.iconst jz, 1)) (d4 : decode cc (pc + 4) = .ok (.iadd, 1)) (d5 : decode cc (pc + 5) = .ok (.iaload, 1))
    (kk : W p l e R s m args below meth c H locs cells slots Q (F0 m (pc + 6) ls (.int (xs (i0 + j)) :: rest))) : W p l e R s m args below meth c H locs cells slots Q (F0 m pc ls rest) := by
  refine lv_aload_n hexec hb d0 rfl e0 ?_
  refine lv_iload hexec hb d1 e5 ?_
  refine lv_iconst hexec hb d3 hjz ?_
  refine lv_iadd hexec hb d4 ?_
  rw [nI_add]
  refine va_sld (A := lA s) hexec hb hXs hbl (fun h => absurd hbl (Nat.not_lt.mpr h)) hS (vp_in_nI hj (by omega)) d5 ?_
  rw [nI_clamp (by omega)]
  exact kk
end LK
def LH (p : Program) (l : Launch) (s : State) (m : MethodId) (c : Code) (sb L : Nat) (xs : Nat → Int32) (D : va_G) (cI cZ cJ cD : ClassId) : Prop := p.tables.exec = Jvm.exec ∧ c.code = cL_law ∧ c.maxLocals = 8 ∧ s.vm.findClass RL = some m.cls ∧ (∀ w ∈ wsL_law, w.before #[.ref sb] s = true) ∧ va_X sb L xs s s.heap ∧ sb < s.heap.size ∧ kL D cI cZ cJ cD s ∧ kX (lA s) s s.heap ∧ l.stackTraces = false ∧ L ≤ 2560
/-- what holds between two calls -/
def LInv (n h : Nat) (we tw ta pl br md tu le to ia sl pr al mo : Nat → Int32) : Prop := n ≤ 12 ∧ h < 480 ∧ (∀ k, k < n → pl k = nI (fP pl k) ∧ fP pl k < 24) ∧ taOk n pl ta ∧ hOk n (mkS br md tu le to ia al) ∧ (∀ k, we k = 0 ∨ we k = 1) ∧ (∀ k, tw k = -1 ∨ 0 ≤ tw k) ∧ (∀ k, sl k = -1 ∨ 0 ≤ sl k) ∧ (∀ j, h ≤ j → al j = 0) ∧ (∀ j, j < h → mo j = fBring sl pr al j)
