/-! The law's small methods: a cell of the script, a number made small, two rows that are the same. -/
def cellPre (b L : Nat) (xs : Nat → Int32) (U : State) : Prop := va_X b L xs U U.heap ∧ b < U.heap.size
theorem cellPre_blind {av : List Value} {b L : Nat} {xs : Nat → Int32} : FrameBlind (va_Pc av (cellPre b L xs)) := fun a U g mk q => ⟨q.1, va_X.moved (u := U) (U := U.calling g mk a) (Vm.Alike.refl U.vm) q.2.1, q.2.2⟩
set_option maxHeartbeats 4000000 in
set_option maxRecDepth 100000 in
theorem c_L_cell (l : Launch) (b L : Nat) (xs : Nat → Int32) (j : Nat) (hj : j < 2 ^ 31) (hL : L ≤ 260) : Met l yL_cell wsL_cell ({ frames := 0, cells := 0, slots := 0, locals := 0 }) (va_Pc [.ref b, .int (nI j)] (cellPre b L xs)) (vp_Si (fun _ => True)) 0 0 (fun _ => False) := by
  refine Met.ofW (cc := cL_cell) (maxL := 2) (ret := (some .int)) (by decide) rfl ?_
  intro p e s m args below meth c s₁ B hml hv
  obtain ⟨rfl, hX, hbl⟩ := hv
  have hx := B.exec
  have hb := B.bytes
  have hr := B.returns
  have hts := atoms_spec (ws := wsL_cell) B.pre
  have hown : s.vm.findClass RL = some m.cls := findClass_of_methodNamed B.named
  have hlocks := B.notSynchronized
  have hl := lv_entry ([.ref b, .int (nI j)]) (n := 2) (Nat.le_of_ble_eq_true rfl)
  rw [lg_entry_eq]
  generalize (lg_sl ([.ref b, .int (nI j)]) ++ List.replicate (2 - (lg_sl ([.ref b, .int (nI j)])).length) Slot.unset).toArray = ls at hl ⊢
  have hl : lv_has ls 2 [(0, .ref b), (1, .int (nI j))] := hl
  have hS : va_S (fun q => s.heap.size ≤ q) s.heap s.heap [] := va_S.rf
  have hbA : ¬ s.heap.size ≤ b := Nat.not_le.mpr hbl
  refine lv_iload_n hx hb dL_cell_0 rfl (lv_at hl 1 rfl) ?_
  refine lv_aload_n hx hb dL_cell_1 rfl (lv_at hl 0 rfl) ?_
  refine va_slen (A := fun q => s.heap.size ≤ q) hx hb hX hbl hbA hS dL_cell_2 ?_
  refine lv_icmp_ge (tgt := 12) hx hb dL_cell_3 (by decide) (fun c1 => ?_) (fun c1 => ?_)
  · refine lv_ldc (v := 2753917) hx hb hown (hts (.constant RL 7 (2753917)) (by decide +kernel)) dL_cell_12 ?_
    refine lv_iload_n hx hb dL_cell_14 rfl (lv_at hl 1 rfl) ?_
    refine lv_imul hx hb dL_cell_15 ?_
    refine lv_sipush (v := 12809) hx hb dL_cell_16 (by decide) ?_
    refine lv_iadd hx hb dL_cell_19 ?_
    exact k_endR (ty := .int) hx hb hr hlocks rfl trivial dL_cell_20
  · have c2 : j < L := Nat.lt_of_not_le (fun z => c1 (nI_le z hj))
    refine lv_aload_n hx hb dL_cell_6 rfl (lv_at hl 0 rfl) ?_
    refine lv_iload_n hx hb dL_cell_7 rfl (lv_at hl 1 rfl) ?_
    refine va_sld (A := fun q => s.heap.size ≤ q) hx hb hX hbl hbA hS (vp_in_nI c2 (by omega)) dL_cell_8 ?_
    refine lv_goto (tgt := 20) hx hb dL_cell_9 (by decide) ?_
    exact k_endR (ty := .int) hx hb hr hlocks rfl trivial dL_cell_20

set_option maxHeartbeats 4000000 in
set_option maxRecDepth 100000 in
theorem c_L_low (l : Launch) (v : Int32) (k : Nat) (h0 : 0 < k) (hk : k < 2 ^ 31) : kPs l yL_low wsL_low ({ frames := 0, cells := 0, slots := 0, locals := 0 }) [.int v, .int (nI k)] (fun r => ∃ j : Nat, j < k ∧ r = nI j) := by
  refine Met.ofW (cc := cL_low) (maxL := 2) (ret := (some .int)) (by decide) rfl ?_
  intro p e s m args below meth c s₁ B hml hv
  obtain ⟨rfl, -⟩ := hv
  have hx := B.exec
  have hb := B.bytes
  have hr := B.returns
  have hts := atoms_spec (ws := wsL_low) B.pre
  have hown : s.vm.findClass RL = some m.cls := findClass_of_methodNamed B.named
  have hlocks := B.notSynchronized
  have hl := lv_entry ([.int v, .int (nI k)]) (n := 2) (Nat.le_of_ble_eq_true rfl)
  rw [lg_entry_eq]
  generalize (lg_sl ([.int v, .int (nI k)]) ++ List.replicate (2 - (lg_sl ([.int v, .int (nI k)])).length) Slot.unset).toArray = ls at hl ⊢
  have hl : lv_has ls 2 [(0, .int v), (1, .int (nI k))] := hl
  refine lv_iload_n hx hb dL_low_0 rfl (lv_at hl 0 rfl) ?_
  refine lv_ldc (v := 2147483647) hx hb hown (hts (.constant RL 8 (2147483647)) (by decide +kernel)) dL_low_1 ?_
  refine lv_iand hx hb dL_low_3 ?_
  refine lv_iload_n hx hb dL_low_4 rfl (lv_at hl 1 rfl) ?_
  obtain ⟨i, hi, ei⟩ := pk_andE v (m := 2147483647) 31 (by decide)
  refine lv_irem hx hb dL_low_5 (nI_ne0 h0 hk) ?_
  rw [ei, pk_rem hi h0 hk]
  exact k_endR (ty := .int) hx hb hr hlocks rfl ⟨i % k, Nat.mod_lt _ h0, rfl⟩ dL_low_6

set_option maxHeartbeats 4000000 in
set_option maxRecDepth 100000 in
theorem c_L_same (l : Launch) (D : va_G) (q1 q2 : Nat) (cI cZ : ClassId) (f : Nat → Int32) : kRd l yL_same wsL_same ({ frames := 0, cells := 0, slots := 0, locals := 0 }) [.ref q1, .ref q2] D cI cZ [(q1, .inl (cI, 64, .inl f)), (q2, .inl (cI, 64, .inl f))] (fun r => r = 1) := by
  refine Met.ofW (cc := cL_same) (maxL := 3) (ret := (some .boolean)) (by decide) rfl ?_
  intro p e s m args below meth c s₁ B hml hv
  obtain ⟨rfl, hP, hK⟩ := hv
  have hx := B.exec
  have hb := B.bytes
  have hr := B.returns
  have hts := atoms_spec (ws := wsL_same) B.pre
  have hown : s.vm.findClass RL = some m.cls := findClass_of_methodNamed B.named
  have hlocks := B.notSynchronized
  have hl := lv_entry ([.ref q1, .ref q2]) (n := 3) (Nat.le_of_ble_eq_true rfl)
  rw [lg_entry_eq]
  generalize (lg_sl ([.ref q1, .ref q2]) ++ List.replicate (3 - (lg_sl ([.ref q1, .ref q2])).length) Slot.unset).toArray = ls at hl ⊢
  have hl : lv_has ls 3 [(0, .ref q1), (1, .ref q2)] := hl
  refine lv_iconst (v := 0) hx hb dL_same_0 (by decide) ?_
  refine lv_istore_n (lv' := [(2, .int 0), (0, .ref q1), (1, .ref q2)]) hx hb dL_same_1 rfl hl (by decide) rfl (fun ls hl => ?_)
  have loop : ∀ (nn k : Nat), 64 - k < nn → k ≤ 64 → ∀ (ls : Array Slot), lv_has ls 3 [(2, .int (nI k)), (0, .ref q1), (1, .ref q2)] → W p l e (headSpec wsL_same ({ frames := 0, cells := 0, slots := 0, locals := 0 })).room s m (([.ref q1, .ref q2] : List Value).toArray) below meth c s.heap [] 0 0 (MQ below (vp_Si (fun r => r = 1)) (([.ref q1, .ref q2] : List Value).toArray) s 0 0 (fun _ => False)) (F0 m 2 ls []) := by
    intro nn
    induction nn with
    | zero => intro k h; omega
    | succ nn ih =>
      intro k hm hk ls hl
      refine lv_iload_n hx hb dL_same_2 rfl (lv_at hl 0 rfl) ?_
      refine lv_bipush (v := 64) hx hb dL_same_3 (by decide) ?_
      refine lv_icmp_ge (tgt := 25) hx hb dL_same_5 (by decide) (fun c1 => ?_) (fun c1 => ?_)
      · refine lv_iconst (v := 1) hx hb dL_same_25 (by decide) ?_
        exact k_endR (ty := .boolean) hx hb hr hlocks rfl rfl dL_same_26
      · have c2 : k < 64 := Nat.lt_of_not_le (fun z => c1 (nI_le (a := 64) (b := k) z (by omega)))
        refine lv_aload_n hx hb dL_same_8 rfl (lv_at hl 1 rfl) ?_
        refine lv_iload_n hx hb dL_same_9 rfl (lv_at hl 0 rfl) ?_
        refine k_iald hx hb hK.1 hP 0 0 rfl rfl k rfl c2 (by decide) dL_same_10 ?_
        refine lv_aload_n hx hb dL_same_11 rfl (lv_at hl 2 rfl) ?_
        refine lv_iload_n hx hb dL_same_12 rfl (lv_at hl 0 rfl) ?_
        refine k_iald hx hb hK.1 hP 1 0 rfl rfl k rfl c2 (by decide) dL_same_13 ?_
        refine lv_icmp_eq (tgt := 19) hx hb dL_same_14 (by decide) (fun _ => ?_) (fun q => absurd rfl q)
        refine lv_iinc (v := nI (k + 1)) (lv' := [(2, .int (nI (k + 1))), (0, .ref q1), (1, .ref q2)]) hx hb dL_same_19 hl (k := 0) rfl (nI_1 _) (by decide) rfl (fun ls hl => ?_)
        refine lv_goto (tgt := 2) hx hb dL_same_22 (by decide) ?_
        exact ih (k + 1) (by omega) (by omega) ls hl
  exact loop 65 0 (by omega) (by omega) ls hl
