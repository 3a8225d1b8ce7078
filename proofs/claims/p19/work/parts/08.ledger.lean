set_option maxHeartbeats 4000000 in
set_option maxRecDepth 100000 in
theorem c_X2_slotUnits (l : Launch) (D : va_G) (a : Nat → Nat) (cI cZ : ClassId) (sl : Nat → Int32) (pr : Nat → Int32) (mk : Nat → Int32) (pc : Int64) (k : Nat) (hk : k < 480) : kRd l yX2_slotUnits wsX2_slotUnits ({ frames := 0, cells := 0, slots := 0, locals := 0 }) [.ref (a 17), .int (nI k)] D cI cZ (wG a cI cZ sl pr mk pc) (fun r => r = sl k) := by
  refine Met.ofW (cc := cX2_slotUnits) (maxL := 2) (ret := (some .int)) (by decide) rfl ?_
  intro p e s m args below meth c s₁ B hml hv
  obtain ⟨rfl, hP, hK⟩ := hv
  have hx := B.exec
  have hb := B.bytes
  have hr := B.returns
  have hts := atoms_spec (ws := wsX2_slotUnits) B.pre
  have hown : s.vm.findClass RX2 = some m.cls := findClass_of_methodNamed B.named
  have hlocks := B.notSynchronized
  have hl := lv_entry ([.ref (a 17), .int (nI k)]) (n := 2) (Nat.le_of_ble_eq_true rfl)
  rw [lg_entry_eq]
  generalize (lg_sl ([.ref (a 17), .int (nI k)]) ++ List.replicate (2 - (lg_sl ([.ref (a 17), .int (nI k)])).length) Slot.unset).toArray = ls at hl ⊢
  have hl : lv_has ls 2 [(0, .ref (a 17)), (1, .int (nI k))] := hl
  refine lv_aload_n hx hb dX2_slotUnits_0 rfl (lv_at hl 0 rfl) ?_
  refine va_get (D := D) (ci := 2) (v := .ref (a 18)) (C := RX2) (T := TX2) (N := 4) hx hb hts (by decide +kernel) hown hK.1 hP 0 rfl rfl 0 (by decide) (hts (.fieldLink RX2 9 "Turbineorchard$Ledger" "slots" "[I") (by decide +kernel)) (fun _ h9 => h9) rfl dX2_slotUnits_1 ?_
  refine lv_iload_n hx hb dX2_slotUnits_4 rfl (lv_at hl 1 rfl) ?_
  refine k_iald hx hb hK.1 hP 1 0 rfl rfl k (rfl) (by omega) (by decide) dX2_slotUnits_5 ?_
  exact k_endR (ty := .int) hx hb hr hlocks (rfl) (rfl) dX2_slotUnits_6

set_option maxHeartbeats 4000000 in
set_option maxRecDepth 100000 in
theorem c_X2_madeIn (l : Launch) (D : va_G) (a : Nat → Nat) (cI cZ : ClassId) (sl : Nat → Int32) (pr : Nat → Int32) (mk : Nat → Int32) (pc : Int64) (k : Nat) (hk : k < 480) : kRd l yX2_madeIn wsX2_madeIn ({ frames := 0, cells := 0, slots := 0, locals := 0 }) [.ref (a 17), .int (nI k)] D cI cZ (wG a cI cZ sl pr mk pc) (fun r => r = mk k) := by
  refine Met.ofW (cc := cX2_madeIn) (maxL := 2) (ret := (some .int)) (by decide) rfl ?_
  intro p e s m args below meth c s₁ B hml hv
  obtain ⟨rfl, hP, hK⟩ := hv
  have hx := B.exec
  have hb := B.bytes
  have hr := B.returns
  have hts := atoms_spec (ws := wsX2_madeIn) B.pre
  have hown : s.vm.findClass RX2 = some m.cls := findClass_of_methodNamed B.named
  have hlocks := B.notSynchronized
  have hl := lv_entry ([.ref (a 17), .int (nI k)]) (n := 2) (Nat.le_of_ble_eq_true rfl)
  rw [lg_entry_eq]
  generalize (lg_sl ([.ref (a 17), .int (nI k)]) ++ List.replicate (2 - (lg_sl ([.ref (a 17), .int (nI k)])).length) Slot.unset).toArray = ls at hl ⊢
  have hl : lv_has ls 2 [(0, .ref (a 17)), (1, .int (nI k))] := hl
  refine lv_aload_n hx hb dX2_madeIn_0 rfl (lv_at hl 0 rfl) ?_
  refine va_get (D := D) (ci := 2) (v := .ref (a 20)) (C := RX2) (T := TX2) (N := 4) hx hb hts (by decide +kernel) hown hK.1 hP 0 rfl rfl 2 (by decide) (hts (.fieldLink RX2 18 "Turbineorchard$Ledger" "made" "[I") (by decide +kernel)) (fun _ h9 => h9) rfl dX2_madeIn_1 ?_
  refine lv_iload_n hx hb dX2_madeIn_4 rfl (lv_at hl 1 rfl) ?_
  refine k_iald hx hb hK.1 hP 3 0 rfl rfl k (rfl) (by omega) (by decide) dX2_madeIn_5 ?_
  exact k_endR (ty := .int) hx hb hr hlocks (rfl) (rfl) dX2_madeIn_6

set_option maxHeartbeats 4000000 in
set_option maxRecDepth 100000 in
theorem c_X2_setSlot (l : Launch) (D : va_G) (a : Nat → Nat) (cI cZ : ClassId) (sz : Nat) (sl : Nat → Int32) (pr : Nat → Int32) (mk : Nat → Int32) (pc : Int64) (k : Nat) (x : Int32) (y : Int32) (hk : k < 480) : kUv l yX2_setSlot wsX2_setSlot ({ frames := 0, cells := 0, slots := 0, locals := 0 }) [.ref (a 17), .int (nI k), .int x, .int y] D cI cZ sz (wG a cI cZ sl pr mk pc) (wG a cI cZ (upd sl k x) (upd pr k y) mk pc) := by
  refine Met.ofW (cc := cX2_setSlot) (maxL := 4) (ret := none) (by decide) rfl ?_
  intro p e s m args below meth c s₁ B hml hv
  obtain ⟨rfl, hsz, hP, hK, hD0⟩ := hv
  have hx := B.exec
  have hb := B.bytes
  have hr := B.returns
  have hts := atoms_spec (ws := wsX2_setSlot) B.pre
  have hown : s.vm.findClass RX2 = some m.cls := findClass_of_methodNamed B.named
  have hlocks := B.notSynchronized
  subst hsz
  have hD := hD0.self (sz := s.heap.size)
  generalize hAe : va_A (wG a cI cZ sl pr mk pc) s.heap.size = A at hD ⊢
  have hA : ∀ q : Nat, s.heap.size ≤ q → A q := fun q h => by rw [← hAe]; exact Or.inr h
  have hS : va_S A s.heap s.heap [] := va_S.rf
  have hl := lv_entry ([.ref (a 17), .int (nI k), .int x, .int y]) (n := 4) (Nat.le_of_ble_eq_true rfl)
  rw [lg_entry_eq]
  generalize (lg_sl ([.ref (a 17), .int (nI k), .int x, .int y]) ++ List.replicate (4 - (lg_sl ([.ref (a 17), .int (nI k), .int x, .int y])).length) Slot.unset).toArray = ls at hl ⊢
  have hl : lv_has ls 4 [(0, .ref (a 17)), (1, .int (nI k)), (2, .int x), (3, .int y)] := hl
  refine lv_aload_n hx hb dX2_setSlot_0 rfl (lv_at hl 0 rfl) ?_
  refine va_get (D := D) (ci := 2) (v := .ref (a 18)) (C := RX2) (T := TX2) (N := 4) hx hb hts (by decide +kernel) hown hK.1 hP 0 rfl rfl 0 (by decide) (hts (.fieldLink RX2 9 "Turbineorchard$Ledger" "slots" "[I") (by decide +kernel)) (fun _ h9 => h9) rfl dX2_setSlot_1 ?_
  refine lv_iload_n hx hb dX2_setSlot_4 rfl (lv_at hl 1 rfl) ?_
  refine lv_iload_n hx hb dX2_setSlot_5 rfl (lv_at hl 2 rfl) ?_
  refine k_iast hx hb hK.1 hP hD hS 1 0 rfl rfl k (rfl) (by omega) (by decide) dX2_setSlot_6 (fun H locs hP hD hS => ?_)
  have hP : va_P D vwCl (wG a cI cZ (upd sl k x) pr mk pc) H := hP
  have hD : va_D A (wG a cI cZ (upd sl k x) pr mk pc) := hD
  refine lv_aload_n hx hb dX2_setSlot_7 rfl (lv_at hl 0 rfl) ?_
  refine va_get (D := D) (ci := 2) (v := .ref (a 19)) (C := RX2) (T := TX2) (N := 4) hx hb hts (by decide +kernel) hown hK.1 hP 0 rfl rfl 1 (by decide) (hts (.fieldLink RX2 15 "Turbineorchard$Ledger" "prices" "[I") (by decide +kernel)) (fun _ h9 => h9) rfl dX2_setSlot_8 ?_
  refine lv_iload_n hx hb dX2_setSlot_11 rfl (lv_at hl 1 rfl) ?_
  refine lv_iload_n hx hb dX2_setSlot_12 rfl (lv_at hl 3 rfl) ?_
  refine k_iast hx hb hK.1 hP hD hS 2 0 rfl rfl k (rfl) (by omega) (by decide) dX2_setSlot_13 (fun H locs hP hD hS => ?_)
  have hP : va_P D vwCl (wG a cI cZ (upd sl k x) (upd pr k y) mk pc) H := hP
  have hD : va_D A (wG a cI cZ (upd sl k x) (upd pr k y) mk pc) := hD
  exact k_endV (sz := 0) hx hb hr hlocks hP hD hS dX2_setSlot_14

set_option maxHeartbeats 4000000 in
set_option maxRecDepth 100000 in
theorem c_X2_soldFor (l : Launch) (D : va_G) (a : Nat → Nat) (cI cZ : ClassId) (sl : Nat → Int32) (pr : Nat → Int32) (mk : Nat → Int32) (pc : Int64) (k : Nat) (hk : k < 480) : kRd l yX2_soldFor wsX2_soldFor ({ frames := 0, cells := 0, slots := 0, locals := 0 }) [.ref (a 17), .int (nI k)] D cI cZ (wG a cI cZ sl pr mk pc) (fun r => r = fSold sl k) := by
  refine Met.ofW (cc := cX2_soldFor) (maxL := 2) (ret := (some .int)) (by decide) rfl ?_
  intro p e s m args below meth c s₁ B hml hv
  obtain ⟨rfl, hP, hK⟩ := hv
  have hx := B.exec
  have hb := B.bytes
  have hr := B.returns
  have hts := atoms_spec (ws := wsX2_soldFor) B.pre
  have hown : s.vm.findClass RX2 = some m.cls := findClass_of_methodNamed B.named
  have hlocks := B.notSynchronized
  have hl := lv_entry ([.ref (a 17), .int (nI k)]) (n := 2) (Nat.le_of_ble_eq_true rfl)
  rw [lg_entry_eq]
  generalize (lg_sl ([.ref (a 17), .int (nI k)]) ++ List.replicate (2 - (lg_sl ([.ref (a 17), .int (nI k)])).length) Slot.unset).toArray = ls at hl ⊢
  have hl : lv_has ls 2 [(0, .ref (a 17)), (1, .int (nI k))] := hl
  refine lv_aload_n hx hb dX2_soldFor_0 rfl (lv_at hl 0 rfl) ?_
  refine va_get (D := D) (ci := 2) (v := .ref (a 18)) (C := RX2) (T := TX2) (N := 4) hx hb hts (by decide +kernel) hown hK.1 hP 0 rfl rfl 0 (by decide) (hts (.fieldLink RX2 9 "Turbineorchard$Ledger" "slots" "[I") (by decide +kernel)) (fun _ h9 => h9) rfl dX2_soldFor_1 ?_
  refine lv_iload_n hx hb dX2_soldFor_4 rfl (lv_at hl 1 rfl) ?_
  refine k_iald hx hb hK.1 hP 1 0 rfl rfl k (rfl) (by omega) (by decide) dX2_soldFor_5 ?_
  refine lv_iconst (v := (-1)) hx hb dX2_soldFor_6 (by decide) ?_
  refine lv_icmp_ne (tgt := 14) hx hb dX2_soldFor_7 (by decide) (fun c_7 => ?_) (fun c_7 => ?_)
  · refine lv_aload_n hx hb dX2_soldFor_14 rfl (lv_at hl 0 rfl) ?_
    refine va_get (D := D) (ci := 2) (v := .ref (a 18)) (C := RX2) (T := TX2) (N := 4) hx hb hts (by decide +kernel) hown hK.1 hP 0 rfl rfl 0 (by decide) (hts (.fieldLink RX2 9 "Turbineorchard$Ledger" "slots" "[I") (by decide +kernel)) (fun _ h9 => h9) rfl dX2_soldFor_15 ?_
    refine lv_iload_n hx hb dX2_soldFor_18 rfl (lv_at hl 1 rfl) ?_
    refine k_iald hx hb hK.1 hP 1 0 rfl rfl k (rfl) (by omega) (by decide) dX2_soldFor_19 ?_
    exact k_endR (ty := .int) hx hb hr hlocks (rfl) (by unfold fSold; first | rw [if_pos c_7] | rw [if_neg c_7]) dX2_soldFor_20
  · refine lv_iconst (v := 0) hx hb dX2_soldFor_10 (by decide) ?_
    refine lv_goto (tgt := 20) hx hb dX2_soldFor_11 (by decide) ?_
    exact k_endR (ty := .int) hx hb hr hlocks (rfl) (by unfold fSold; first | rw [if_pos c_7] | rw [if_neg c_7]) dX2_soldFor_20

set_option maxHeartbeats 4000000 in
set_option maxRecDepth 100000 in
theorem c_X2_imbalanceOf (l : Launch) (D : va_G) (a : Nat → Nat) (cI cZ : ClassId) (sl : Nat → Int32) (pr : Nat → Int32) (mk : Nat → Int32) (pc : Int64) (k : Nat) (hk : k < 480) : kRd l yX2_imbalanceOf wsX2_imbalanceOf ({ frames := 1, cells := 0, slots := 0, locals := 21 }) [.ref (a 17), .int (nI k)] D cI cZ (wG a cI cZ sl pr mk pc) (fun r => r = fSold sl k - mk k) := by
  refine Met.ofW (cc := cX2_imbalanceOf) (maxL := 2) (ret := (some .int)) (by decide) rfl ?_
  intro p e s m args below meth c s₁ B hml hv
  obtain ⟨rfl, hP, hK⟩ := hv
  have hx := B.exec
  have hb := B.bytes
  have hr := B.returns
  have hts := atoms_spec (ws := wsX2_imbalanceOf) B.pre
  have hown : s.vm.findClass RX2 = some m.cls := findClass_of_methodNamed B.named
  have hlocks := B.notSynchronized
  have hl := lv_entry ([.ref (a 17), .int (nI k)]) (n := 2) (Nat.le_of_ble_eq_true rfl)
  rw [lg_entry_eq]
  generalize (lg_sl ([.ref (a 17), .int (nI k)]) ++ List.replicate (2 - (lg_sl ([.ref (a 17), .int (nI k)])).length) Slot.unset).toArray = ls at hl ⊢
  have hl : lv_has ls 2 [(0, .ref (a 17)), (1, .int (nI k))] := hl
  refine lv_aload_n hx hb dX2_imbalanceOf_0 rfl (lv_at hl 0 rfl) ?_
  refine lv_iload_n hx hb dX2_imbalanceOf_1 rfl (lv_at hl 1 rfl) ?_
  refine k_rd (As := [.int (nI k)]) (rest := []) (nL := 2) ⟨hx, hb, hml, hown, hts⟩ hK hP (c_X2_soldFor l D a cI cZ sl pr mk pc k (by omega)) [0, 1, 2, 3] rfl 0 rfl rfl rfl (cwV 1 hts gX2_imbalanceOf_X2_soldFor rfl rfl rfl (by decide +kernel) ⟨Nat.le_of_ble_eq_true rfl, Nat.le_of_ble_eq_true rfl⟩) rfl hl.1 rfl (Nat.le_of_ble_eq_true rfl) dX2_imbalanceOf_2 ⟨Nat.zero_le _, Nat.zero_le _⟩ (fun r9 hr9 => ?_)
  subst hr9
  refine lv_aload_n hx hb dX2_imbalanceOf_5 rfl (lv_at hl 0 rfl) ?_
  refine va_get (D := D) (ci := 2) (v := .ref (a 20)) (C := RX2) (T := TX2) (N := 4) hx hb hts (by decide +kernel) hown hK.1 hP 0 rfl rfl 2 (by decide) (hts (.fieldLink RX2 18 "Turbineorchard$Ledger" "made" "[I") (by decide +kernel)) (fun _ h9 => h9) rfl dX2_imbalanceOf_6 ?_
  refine lv_iload_n hx hb dX2_imbalanceOf_9 rfl (lv_at hl 1 rfl) ?_
  refine k_iald hx hb hK.1 hP 3 0 rfl rfl k (rfl) (by omega) (by decide) dX2_imbalanceOf_10 ?_
  refine lv_isub hx hb dX2_imbalanceOf_11 ?_
  exact k_endR (ty := .int) hx hb hr hlocks (rfl) (rfl) dX2_imbalanceOf_12

set_option maxHeartbeats 4000000 in
set_option maxRecDepth 100000 in
theorem c_X2_proceedsOf (l : Launch) (D : va_G) (a : Nat → Nat) (cI cZ : ClassId) (sl : Nat → Int32) (pr : Nat → Int32) (mk : Nat → Int32) (pc : Int64) (k : Nat) (hk : k < 480) : kRd l yX2_proceedsOf wsX2_proceedsOf ({ frames := 2, cells := 0, slots := 0, locals := 42 }) [.ref (a 17), .int (nI k)] D cI cZ (wG a cI cZ sl pr mk pc) (fun r => r = fBring sl pr mk k) := by
  refine Met.ofW (cc := cX2_proceedsOf) (maxL := 5) (ret := (some .int)) (by decide) rfl ?_
  intro p e s m args below meth c s₁ B hml hv
  obtain ⟨rfl, hP, hK⟩ := hv
  have hx := B.exec
  have hb := B.bytes
  have hr := B.returns
  have hts := atoms_spec (ws := wsX2_proceedsOf) B.pre
  have hown : s.vm.findClass RX2 = some m.cls := findClass_of_methodNamed B.named
  have hlocks := B.notSynchronized
  have hl := lv_entry ([.ref (a 17), .int (nI k)]) (n := 5) (Nat.le_of_ble_eq_true rfl)
  rw [lg_entry_eq]
  generalize (lg_sl ([.ref (a 17), .int (nI k)]) ++ List.replicate (5 - (lg_sl ([.ref (a 17), .int (nI k)])).length) Slot.unset).toArray = ls at hl ⊢
  have hl : lv_has ls 5 [(0, .ref (a 17)), (1, .int (nI k))] := hl
  refine lv_aload_n hx hb dX2_proceedsOf_0 rfl (lv_at hl 0 rfl) ?_
  refine va_get (D := D) (ci := 2) (v := .ref (a 19)) (C := RX2) (T := TX2) (N := 4) hx hb hts (by decide +kernel) hown hK.1 hP 0 rfl rfl 1 (by decide) (hts (.fieldLink RX2 15 "Turbineorchard$Ledger" "prices" "[I") (by decide +kernel)) (fun _ h9 => h9) rfl dX2_proceedsOf_1 ?_
  refine lv_iload_n hx hb dX2_proceedsOf_4 rfl (lv_at hl 1 rfl) ?_
  refine k_iald hx hb hK.1 hP 2 0 rfl rfl k (rfl) (by omega) (by decide) dX2_proceedsOf_5 ?_
  refine lv_istore_n (lv' := [(2, .int (pr k)), (0, .ref (a 17)), (1, .int (nI k))]) hx hb dX2_proceedsOf_6 rfl hl (by decide) rfl (fun ls hl => ?_)
  refine lv_aload_n hx hb dX2_proceedsOf_7 rfl (lv_at hl 1 rfl) ?_
  refine lv_iload_n hx hb dX2_proceedsOf_8 rfl (lv_at hl 2 rfl) ?_
  refine k_rd (As := [.int (nI k)]) (rest := []) (nL := 5) ⟨hx, hb, hml, hown, hts⟩ hK hP (c_X2_imbalanceOf l D a cI cZ sl pr mk pc k (by omega)) [0, 1, 2, 3] rfl 0 rfl rfl rfl (cwV 1 hts gX2_proceedsOf_X2_imbalanceOf rfl rfl rfl (by decide +kernel) ⟨Nat.le_of_ble_eq_true rfl, Nat.le_of_ble_eq_true rfl⟩) rfl hl.1 rfl (Nat.le_of_ble_eq_true rfl) dX2_proceedsOf_9 ⟨Nat.zero_le _, Nat.zero_le _⟩ (fun r9 hr9 => ?_)
  subst hr9
  refine lv_istore_n (lv' := [(3, .int (fSold sl k - mk k)), (2, .int (pr k)), (0, .ref (a 17)), (1, .int (nI k))]) hx hb dX2_proceedsOf_12 rfl hl (by decide) rfl (fun ls hl => ?_)
  refine lv_aload_n hx hb dX2_proceedsOf_13 rfl (lv_at hl 2 rfl) ?_
  refine lv_iload_n hx hb dX2_proceedsOf_14 rfl (lv_at hl 3 rfl) ?_
  refine k_rd (As := [.int (nI k)]) (rest := []) (nL := 5) ⟨hx, hb, hml, hown, hts⟩ hK hP (c_X2_soldFor l D a cI cZ sl pr mk pc k (by omega)) [0, 1, 2, 3] rfl 0 rfl rfl rfl (cwV 1 hts gX2_proceedsOf_X2_soldFor rfl rfl rfl (by decide +kernel) ⟨Nat.le_of_ble_eq_true rfl, Nat.le_of_ble_eq_true rfl⟩) rfl hl.1 rfl (Nat.le_of_ble_eq_true rfl) dX2_proceedsOf_15 ⟨Nat.zero_le _, Nat.zero_le _⟩ (fun r9 hr9 => ?_)
  subst hr9
  refine lv_iload_n hx hb dX2_proceedsOf_18 rfl (lv_at hl 1 rfl) ?_
  refine lv_imul hx hb dX2_proceedsOf_19 ?_
  refine lv_istore (lv' := [(4, .int ((fSold sl k) * (pr k))), (3, .int (fSold sl k - mk k)), (2, .int (pr k)), (0, .ref (a 17)), (1, .int (nI k))]) hx hb dX2_proceedsOf_20 hl (by decide) rfl (fun ls hl => ?_)
  refine lv_iload_n hx hb dX2_proceedsOf_22 rfl (lv_at hl 1 rfl) ?_
  refine lv_if_le (tgt := 37) hx hb dX2_proceedsOf_23 (by decide) (fun c_23 => ?_) (fun c_23 => ?_)
  · refine lv_iload hx hb dX2_proceedsOf_37 (lv_at hl 0 rfl) ?_
    refine lv_iload_n hx hb dX2_proceedsOf_39 rfl (lv_at hl 1 rfl) ?_
    refine lv_iload_n hx hb dX2_proceedsOf_40 rfl (lv_at hl 2 rfl) ?_
    refine lv_iconst (v := 2) hx hb dX2_proceedsOf_41 (by decide) ?_
    refine lv_idiv hx hb dX2_proceedsOf_42 (by decide) ?_
    refine lv_imul hx hb dX2_proceedsOf_43 ?_
    refine lv_isub hx hb dX2_proceedsOf_44 ?_
    exact k_endR (ty := .int) hx hb hr hlocks (rfl) (by unfold fBring; first | rw [if_pos (Int32.not_le.mp c_23)] | rw [if_neg (Int32.not_lt.mpr c_23)]) dX2_proceedsOf_45
  · refine lv_iload hx hb dX2_proceedsOf_26 (lv_at hl 0 rfl) ?_
    refine lv_iload_n hx hb dX2_proceedsOf_28 rfl (lv_at hl 1 rfl) ?_
    refine lv_iconst (v := 2) hx hb dX2_proceedsOf_29 (by decide) ?_
    refine lv_imul hx hb dX2_proceedsOf_30 ?_
    refine lv_iload_n hx hb dX2_proceedsOf_31 rfl (lv_at hl 2 rfl) ?_
    refine lv_imul hx hb dX2_proceedsOf_32 ?_
    refine lv_isub hx hb dX2_proceedsOf_33 ?_
    refine lv_goto (tgt := 45) hx hb dX2_proceedsOf_34 (by decide) ?_
    exact k_endR (ty := .int) hx hb hr hlocks (rfl) (by unfold fBring; first | rw [if_pos (Int32.not_le.mp c_23)] | rw [if_neg (Int32.not_lt.mpr c_23)]) dX2_proceedsOf_45

set_option maxHeartbeats 4000000 in
set_option maxRecDepth 100000 in
theorem c_X2_endHour (l : Launch) (D : va_G) (a : Nat → Nat) (cI cZ : ClassId) (sz : Nat) (sl : Nat → Int32) (pr : Nat → Int32) (mk : Nat → Int32) (pc : Int64) (k : Nat) (x : Int32) (hk : k < 480) : kUv l yX2_endHour wsX2_endHour ({ frames := 3, cells := 0, slots := 0, locals := 66 }) [.ref (a 17), .int (nI k), .int x] D cI cZ sz (wG a cI cZ sl pr mk pc) (wG a cI cZ sl pr (upd mk k x) (pc + (fBring sl pr (upd mk k x) k).toInt64)) := by
  refine Met.ofW (cc := cX2_endHour) (maxL := 3) (ret := none) (by decide) rfl ?_
  intro p e s m args below meth c s₁ B hml hv
  obtain ⟨rfl, hsz, hP, hK, hD0⟩ := hv
  have hx := B.exec
  have hb := B.bytes
  have hr := B.returns
  have hts := atoms_spec (ws := wsX2_endHour) B.pre
  have hown : s.vm.findClass RX2 = some m.cls := findClass_of_methodNamed B.named
  have hlocks := B.notSynchronized
  subst hsz
  have hD := hD0.self (sz := s.heap.size)
  generalize hAe : va_A (wG a cI cZ sl pr mk pc) s.heap.size = A at hD ⊢
  have hA : ∀ q : Nat, s.heap.size ≤ q → A q := fun q h => by rw [← hAe]; exact Or.inr h
  have hS : va_S A s.heap s.heap [] := va_S.rf
  have hl := lv_entry ([.ref (a 17), .int (nI k), .int x]) (n := 3) (Nat.le_of_ble_eq_true rfl)
  rw [lg_entry_eq]
  generalize (lg_sl ([.ref (a 17), .int (nI k), .int x]) ++ List.replicate (3 - (lg_sl ([.ref (a 17), .int (nI k), .int x])).length) Slot.unset).toArray = ls at hl ⊢
  have hl : lv_has ls 3 [(0, .ref (a 17)), (1, .int (nI k)), (2, .int x)] := hl
  refine lv_aload_n hx hb dX2_endHour_0 rfl (lv_at hl 0 rfl) ?_
  refine va_get (D := D) (ci := 2) (v := .ref (a 20)) (C := RX2) (T := TX2) (N := 4) hx hb hts (by decide +kernel) hown hK.1 hP 0 rfl rfl 2 (by decide) (hts (.fieldLink RX2 18 "Turbineorchard$Ledger" "made" "[I") (by decide +kernel)) (fun _ h9 => h9) rfl dX2_endHour_1 ?_
  refine lv_iload_n hx hb dX2_endHour_4 rfl (lv_at hl 1 rfl) ?_
  refine lv_iload_n hx hb dX2_endHour_5 rfl (lv_at hl 2 rfl) ?_
  refine k_iast hx hb hK.1 hP hD hS 3 0 rfl rfl k (rfl) (by omega) (by decide) dX2_endHour_6 (fun H locs hP hD hS => ?_)
  have hP : va_P D vwCl (wG a cI cZ sl pr (upd mk k x) pc) H := hP
  have hD : va_D A (wG a cI cZ sl pr (upd mk k x) pc) := hD
  refine lv_aload_n hx hb dX2_endHour_7 rfl (lv_at hl 0 rfl) ?_
  refine lv_dup hx hb dX2_endHour_8 rfl ?_
  refine va_get (D := D) (ci := 2) (v := .long pc) (C := RX2) (T := TX2) (N := 4) hx hb hts (by decide +kernel) hown hK.1 hP 0 rfl rfl 3 (by decide) (hts (.fieldLink RX2 21 "Turbineorchard$Ledger" "proceeds" "J") (by decide +kernel)) (fun _ h9 => h9) rfl dX2_endHour_9 ?_
  refine lv_aload_n hx hb dX2_endHour_12 rfl (lv_at hl 0 rfl) ?_
  refine lv_iload_n hx hb dX2_endHour_13 rfl (lv_at hl 1 rfl) ?_
  refine k_rd (As := [.int (nI k)]) (rest := [.long pc, .ref (a 17)]) (nL := 3) ⟨hx, hb, hml, hown, hts⟩ hK hP (c_X2_proceedsOf l D a cI cZ sl pr (upd mk k x) pc k (by omega)) [0, 1, 2, 3] rfl 0 rfl rfl rfl (cwV 1 hts gX2_endHour_X2_proceedsOf rfl rfl rfl (by decide +kernel) ⟨Nat.le_of_ble_eq_true rfl, Nat.le_of_ble_eq_true rfl⟩) rfl hl.1 rfl (Nat.le_of_ble_eq_true rfl) dX2_endHour_14 ⟨Nat.zero_le _, Nat.zero_le _⟩ (fun r9 hr9 => ?_)
  subst hr9
  refine lv_i2l hx hb dX2_endHour_17 rfl ?_
  refine lv_ladd hx hb dX2_endHour_18 ?_
  refine va_put (D := D) (ci := 2) (v := .long (pc + ((fBring sl pr (upd mk k x) k).toInt64))) (ty := .long) (C := RX2) (T := TX2) (N := 4) hx hb hts (by decide +kernel) tyX2 tyX2_ok nmX2 hown hK.1 hP hD hS 0 rfl rfl 3 (by decide) (hts (.fieldLink RX2 21 "Turbineorchard$Ledger" "proceeds" "J") (by decide +kernel)) (fun _ h9 => h9) rfl (by decide +kernel) rfl rfl (Nat.le_of_ble_eq_true rfl) dX2_endHour_19 (fun H locs hP hD hS => ?_)
  have hP : va_P D vwCl (wG a cI cZ sl pr (upd mk k x) (pc + ((fBring sl pr (upd mk k x) k).toInt64))) H := hP
  have hD : va_D A (wG a cI cZ sl pr (upd mk k x) (pc + ((fBring sl pr (upd mk k x) k).toInt64))) := hD
  exact k_endV (sz := 0) hx hb hr hlocks hP hD hS dX2_endHour_22
