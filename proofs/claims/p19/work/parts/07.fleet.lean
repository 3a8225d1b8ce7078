set_option maxHeartbeats 4000000 in
set_option maxRecDepth 100000 in
theorem c_X1_crewHours (l : Launch) (D : va_G) (a : Nat → Nat) (cI cZ : ClassId) (tu : Nat → Int32) (le : Nat → Int32) (cr : Nat → Int32) (to : Nat → Int32) (ia : Nat → Int32) (k : Nat) (hk : k < 3) : kRd l yX1_crewHours wsX1_crewHours ({ frames := 0, cells := 0, slots := 0, locals := 0 }) [.ref (a 11), .int (nI k)] D cI cZ (wE a cI cZ tu le cr to ia) (fun r => r = cr k) := by
  refine Met.ofW (cc := cX1_crewHours) (maxL := 2) (ret := (some .int)) (by decide) rfl ?_
  intro p e s m args below meth c s₁ B hml hv
  obtain ⟨rfl, hP, hK⟩ := hv
  have hx := B.exec
  have hb := B.bytes
  have hr := B.returns
  have hts := atoms_spec (ws := wsX1_crewHours) B.pre
  have hown : s.vm.findClass RX1 = some m.cls := findClass_of_methodNamed B.named
  have hlocks := B.notSynchronized
  have hl := lv_entry ([.ref (a 11), .int (nI k)]) (n := 2) (Nat.le_of_ble_eq_true rfl)
  rw [lg_entry_eq]
  generalize (lg_sl ([.ref (a 11), .int (nI k)]) ++ List.replicate (2 - (lg_sl ([.ref (a 11), .int (nI k)])).length) Slot.unset).toArray = ls at hl ⊢
  have hl : lv_has ls 2 [(0, .ref (a 11)), (1, .int (nI k))] := hl
  refine lv_aload_n hx hb dX1_crewHours_0 rfl (lv_at hl 0 rfl) ?_
  refine va_get (D := D) (ci := 1) (v := .ref (a 14)) (C := RX1) (T := TX1) (N := 5) hx hb hts (by decide +kernel) hown hK.1 hP 0 rfl rfl 2 (by decide) (hts (.fieldLink RX1 18 "Turbineorchard$Fleet" "crewLimits" "[I") (by decide +kernel)) (fun _ h9 => h9) rfl dX1_crewHours_1 ?_
  refine lv_iload_n hx hb dX1_crewHours_4 rfl (lv_at hl 1 rfl) ?_
  refine k_iald hx hb hK.1 hP 3 0 rfl rfl k (rfl) (by omega) (by decide) dX1_crewHours_5 ?_
  exact k_endR (ty := .int) hx hb hr hlocks (rfl) (rfl) dX1_crewHours_6

set_option maxHeartbeats 4000000 in
set_option maxRecDepth 100000 in
theorem c_X1_turbineOf (l : Launch) (D : va_G) (a : Nat → Nat) (cI cZ : ClassId) (tu : Nat → Int32) (le : Nat → Int32) (cr : Nat → Int32) (to : Nat → Int32) (ia : Nat → Int32) (k : Nat) (hk : k < 3) : kRd l yX1_turbineOf wsX1_turbineOf ({ frames := 0, cells := 0, slots := 0, locals := 0 }) [.ref (a 11), .int (nI k)] D cI cZ (wE a cI cZ tu le cr to ia) (fun r => r = tu k) := by
  refine Met.ofW (cc := cX1_turbineOf) (maxL := 2) (ret := (some .int)) (by decide) rfl ?_
  intro p e s m args below meth c s₁ B hml hv
  obtain ⟨rfl, hP, hK⟩ := hv
  have hx := B.exec
  have hb := B.bytes
  have hr := B.returns
  have hts := atoms_spec (ws := wsX1_turbineOf) B.pre
  have hown : s.vm.findClass RX1 = some m.cls := findClass_of_methodNamed B.named
  have hlocks := B.notSynchronized
  have hl := lv_entry ([.ref (a 11), .int (nI k)]) (n := 2) (Nat.le_of_ble_eq_true rfl)
  rw [lg_entry_eq]
  generalize (lg_sl ([.ref (a 11), .int (nI k)]) ++ List.replicate (2 - (lg_sl ([.ref (a 11), .int (nI k)])).length) Slot.unset).toArray = ls at hl ⊢
  have hl : lv_has ls 2 [(0, .ref (a 11)), (1, .int (nI k))] := hl
  refine lv_aload_n hx hb dX1_turbineOf_0 rfl (lv_at hl 0 rfl) ?_
  refine va_get (D := D) (ci := 1) (v := .ref (a 12)) (C := RX1) (T := TX1) (N := 5) hx hb hts (by decide +kernel) hown hK.1 hP 0 rfl rfl 0 (by decide) (hts (.fieldLink RX1 9 "Turbineorchard$Fleet" "turbines" "[I") (by decide +kernel)) (fun _ h9 => h9) rfl dX1_turbineOf_1 ?_
  refine lv_iload_n hx hb dX1_turbineOf_4 rfl (lv_at hl 1 rfl) ?_
  refine k_iald hx hb hK.1 hP 1 0 rfl rfl k (rfl) (by omega) (by decide) dX1_turbineOf_5 ?_
  exact k_endR (ty := .int) hx hb hr hlocks (rfl) (rfl) dX1_turbineOf_6

set_option maxHeartbeats 4000000 in
set_option maxRecDepth 100000 in
theorem c_X1_hoursLeft (l : Launch) (D : va_G) (a : Nat → Nat) (cI cZ : ClassId) (tu : Nat → Int32) (le : Nat → Int32) (cr : Nat → Int32) (to : Nat → Int32) (ia : Nat → Int32) (k : Nat) (hk : k < 3) : kRd l yX1_hoursLeft wsX1_hoursLeft ({ frames := 0, cells := 0, slots := 0, locals := 0 }) [.ref (a 11), .int (nI k)] D cI cZ (wE a cI cZ tu le cr to ia) (fun r => r = le k) := by
  refine Met.ofW (cc := cX1_hoursLeft) (maxL := 2) (ret := (some .int)) (by decide) rfl ?_
  intro p e s m args below meth c s₁ B hml hv
  obtain ⟨rfl, hP, hK⟩ := hv
  have hx := B.exec
  have hb := B.bytes
  have hr := B.returns
  have hts := atoms_spec (ws := wsX1_hoursLeft) B.pre
  have hown : s.vm.findClass RX1 = some m.cls := findClass_of_methodNamed B.named
  have hlocks := B.notSynchronized
  have hl := lv_entry ([.ref (a 11), .int (nI k)]) (n := 2) (Nat.le_of_ble_eq_true rfl)
  rw [lg_entry_eq]
  generalize (lg_sl ([.ref (a 11), .int (nI k)]) ++ List.replicate (2 - (lg_sl ([.ref (a 11), .int (nI k)])).length) Slot.unset).toArray = ls at hl ⊢
  have hl : lv_has ls 2 [(0, .ref (a 11)), (1, .int (nI k))] := hl
  refine lv_aload_n hx hb dX1_hoursLeft_0 rfl (lv_at hl 0 rfl) ?_
  refine va_get (D := D) (ci := 1) (v := .ref (a 13)) (C := RX1) (T := TX1) (N := 5) hx hb hts (by decide +kernel) hown hK.1 hP 0 rfl rfl 1 (by decide) (hts (.fieldLink RX1 15 "Turbineorchard$Fleet" "left" "[I") (by decide +kernel)) (fun _ h9 => h9) rfl dX1_hoursLeft_1 ?_
  refine lv_iload_n hx hb dX1_hoursLeft_4 rfl (lv_at hl 1 rfl) ?_
  refine k_iald hx hb hK.1 hP 2 0 rfl rfl k (rfl) (by omega) (by decide) dX1_hoursLeft_5 ?_
  exact k_endR (ty := .int) hx hb hr hlocks (rfl) (rfl) dX1_hoursLeft_6

set_option maxHeartbeats 4000000 in
set_option maxRecDepth 100000 in
theorem c_X1_workedToday (l : Launch) (D : va_G) (a : Nat → Nat) (cI cZ : ClassId) (tu : Nat → Int32) (le : Nat → Int32) (cr : Nat → Int32) (to : Nat → Int32) (ia : Nat → Int32) (k : Nat) (hk : k < 3) : kRd l yX1_workedToday wsX1_workedToday ({ frames := 0, cells := 0, slots := 0, locals := 0 }) [.ref (a 11), .int (nI k)] D cI cZ (wE a cI cZ tu le cr to ia) (fun r => r = to k) := by
  refine Met.ofW (cc := cX1_workedToday) (maxL := 2) (ret := (some .int)) (by decide) rfl ?_
  intro p e s m args below meth c s₁ B hml hv
  obtain ⟨rfl, hP, hK⟩ := hv
  have hx := B.exec
  have hb := B.bytes
  have hr := B.returns
  have hts := atoms_spec (ws := wsX1_workedToday) B.pre
  have hown : s.vm.findClass RX1 = some m.cls := findClass_of_methodNamed B.named
  have hlocks := B.notSynchronized
  have hl := lv_entry ([.ref (a 11), .int (nI k)]) (n := 2) (Nat.le_of_ble_eq_true rfl)
  rw [lg_entry_eq]
  generalize (lg_sl ([.ref (a 11), .int (nI k)]) ++ List.replicate (2 - (lg_sl ([.ref (a 11), .int (nI k)])).length) Slot.unset).toArray = ls at hl ⊢
  have hl : lv_has ls 2 [(0, .ref (a 11)), (1, .int (nI k))] := hl
  refine lv_aload_n hx hb dX1_workedToday_0 rfl (lv_at hl 0 rfl) ?_
  refine va_get (D := D) (ci := 1) (v := .ref (a 15)) (C := RX1) (T := TX1) (N := 5) hx hb hts (by decide +kernel) hown hK.1 hP 0 rfl rfl 3 (by decide) (hts (.fieldLink RX1 21 "Turbineorchard$Fleet" "today" "[I") (by decide +kernel)) (fun _ h9 => h9) rfl dX1_workedToday_1 ?_
  refine lv_iload_n hx hb dX1_workedToday_4 rfl (lv_at hl 1 rfl) ?_
  refine k_iald hx hb hK.1 hP 4 0 rfl rfl k (rfl) (by omega) (by decide) dX1_workedToday_5 ?_
  exact k_endR (ty := .int) hx hb hr hlocks (rfl) (rfl) dX1_workedToday_6

set_option maxHeartbeats 4000000 in
set_option maxRecDepth 100000 in
theorem c_X1_workedInAll (l : Launch) (D : va_G) (a : Nat → Nat) (cI cZ : ClassId) (tu : Nat → Int32) (le : Nat → Int32) (cr : Nat → Int32) (to : Nat → Int32) (ia : Nat → Int32) (k : Nat) (hk : k < 3) : kRd l yX1_workedInAll wsX1_workedInAll ({ frames := 0, cells := 0, slots := 0, locals := 0 }) [.ref (a 11), .int (nI k)] D cI cZ (wE a cI cZ tu le cr to ia) (fun r => r = ia k) := by
  refine Met.ofW (cc := cX1_workedInAll) (maxL := 2) (ret := (some .int)) (by decide) rfl ?_
  intro p e s m args below meth c s₁ B hml hv
  obtain ⟨rfl, hP, hK⟩ := hv
  have hx := B.exec
  have hb := B.bytes
  have hr := B.returns
  have hts := atoms_spec (ws := wsX1_workedInAll) B.pre
  have hown : s.vm.findClass RX1 = some m.cls := findClass_of_methodNamed B.named
  have hlocks := B.notSynchronized
  have hl := lv_entry ([.ref (a 11), .int (nI k)]) (n := 2) (Nat.le_of_ble_eq_true rfl)
  rw [lg_entry_eq]
  generalize (lg_sl ([.ref (a 11), .int (nI k)]) ++ List.replicate (2 - (lg_sl ([.ref (a 11), .int (nI k)])).length) Slot.unset).toArray = ls at hl ⊢
  have hl : lv_has ls 2 [(0, .ref (a 11)), (1, .int (nI k))] := hl
  refine lv_aload_n hx hb dX1_workedInAll_0 rfl (lv_at hl 0 rfl) ?_
  refine va_get (D := D) (ci := 1) (v := .ref (a 16)) (C := RX1) (T := TX1) (N := 5) hx hb hts (by decide +kernel) hown hK.1 hP 0 rfl rfl 4 (by decide) (hts (.fieldLink RX1 24 "Turbineorchard$Fleet" "inAll" "[I") (by decide +kernel)) (fun _ h9 => h9) rfl dX1_workedInAll_1 ?_
  refine lv_iload_n hx hb dX1_workedInAll_4 rfl (lv_at hl 1 rfl) ?_
  refine k_iald hx hb hK.1 hP 5 0 rfl rfl k (rfl) (by omega) (by decide) dX1_workedInAll_5 ?_
  exact k_endR (ty := .int) hx hb hr hlocks (rfl) (rfl) dX1_workedInAll_6

set_option maxHeartbeats 4000000 in
set_option maxRecDepth 100000 in
theorem c_X1_setCrewHours (l : Launch) (D : va_G) (a : Nat → Nat) (cI cZ : ClassId) (sz : Nat) (tu : Nat → Int32) (le : Nat → Int32) (cr : Nat → Int32) (to : Nat → Int32) (ia : Nat → Int32) (k : Nat) (x : Int32) (hk : k < 3) : kUv l yX1_setCrewHours wsX1_setCrewHours ({ frames := 0, cells := 0, slots := 0, locals := 0 }) [.ref (a 11), .int (nI k), .int x] D cI cZ sz (wE a cI cZ tu le cr to ia) (wE a cI cZ tu le (upd cr k x) to ia) := by
  refine Met.ofW (cc := cX1_setCrewHours) (maxL := 3) (ret := none) (by decide) rfl ?_
  intro p e s m args below meth c s₁ B hml hv
  obtain ⟨rfl, hsz, hP, hK, hD0⟩ := hv
  have hx := B.exec
  have hb := B.bytes
  have hr := B.returns
  have hts := atoms_spec (ws := wsX1_setCrewHours) B.pre
  have hown : s.vm.findClass RX1 = some m.cls := findClass_of_methodNamed B.named
  have hlocks := B.notSynchronized
  subst hsz
  have hD := hD0.self (sz := s.heap.size)
  generalize hAe : va_A (wE a cI cZ tu le cr to ia) s.heap.size = A at hD ⊢
  have hA : ∀ q : Nat, s.heap.size ≤ q → A q := fun q h => by rw [← hAe]; exact Or.inr h
  have hS : va_S A s.heap s.heap [] := va_S.rf
  have hl := lv_entry ([.ref (a 11), .int (nI k), .int x]) (n := 3) (Nat.le_of_ble_eq_true rfl)
  rw [lg_entry_eq]
  generalize (lg_sl ([.ref (a 11), .int (nI k), .int x]) ++ List.replicate (3 - (lg_sl ([.ref (a 11), .int (nI k), .int x])).length) Slot.unset).toArray = ls at hl ⊢
  have hl : lv_has ls 3 [(0, .ref (a 11)), (1, .int (nI k)), (2, .int x)] := hl
  refine lv_aload_n hx hb dX1_setCrewHours_0 rfl (lv_at hl 0 rfl) ?_
  refine va_get (D := D) (ci := 1) (v := .ref (a 14)) (C := RX1) (T := TX1) (N := 5) hx hb hts (by decide +kernel) hown hK.1 hP 0 rfl rfl 2 (by decide) (hts (.fieldLink RX1 18 "Turbineorchard$Fleet" "crewLimits" "[I") (by decide +kernel)) (fun _ h9 => h9) rfl dX1_setCrewHours_1 ?_
  refine lv_iload_n hx hb dX1_setCrewHours_4 rfl (lv_at hl 1 rfl) ?_
  refine lv_iload_n hx hb dX1_setCrewHours_5 rfl (lv_at hl 2 rfl) ?_
  refine k_iast hx hb hK.1 hP hD hS 3 0 rfl rfl k (rfl) (by omega) (by decide) dX1_setCrewHours_6 (fun H locs hP hD hS => ?_)
  have hP : va_P D vwCl (wE a cI cZ tu le (upd cr k x) to ia) H := hP
  have hD : va_D A (wE a cI cZ tu le (upd cr k x) to ia) := hD
  exact k_endV (sz := 0) hx hb hr hlocks hP hD hS dX1_setCrewHours_7

set_option maxHeartbeats 4000000 in
set_option maxRecDepth 100000 in
theorem c_X1_isFree (l : Launch) (D : va_G) (a : Nat → Nat) (cI cZ : ClassId) (tu : Nat → Int32) (le : Nat → Int32) (cr : Nat → Int32) (to : Nat → Int32) (ia : Nat → Int32) (k : Nat) (hk : k < 3) : kRd l yX1_isFree wsX1_isFree ({ frames := 0, cells := 0, slots := 0, locals := 0 }) [.ref (a 11), .int (nI k)] D cI cZ (wE a cI cZ tu le cr to ia) (fun r => r = bI (tu k = -1)) := by
  refine Met.ofW (cc := cX1_isFree) (maxL := 2) (ret := (some .boolean)) (by decide) rfl ?_
  intro p e s m args below meth c s₁ B hml hv
  obtain ⟨rfl, hP, hK⟩ := hv
  have hx := B.exec
  have hb := B.bytes
  have hr := B.returns
  have hts := atoms_spec (ws := wsX1_isFree) B.pre
  have hown : s.vm.findClass RX1 = some m.cls := findClass_of_methodNamed B.named
  have hlocks := B.notSynchronized
  have hl := lv_entry ([.ref (a 11), .int (nI k)]) (n := 2) (Nat.le_of_ble_eq_true rfl)
  rw [lg_entry_eq]
  generalize (lg_sl ([.ref (a 11), .int (nI k)]) ++ List.replicate (2 - (lg_sl ([.ref (a 11), .int (nI k)])).length) Slot.unset).toArray = ls at hl ⊢
  have hl : lv_has ls 2 [(0, .ref (a 11)), (1, .int (nI k))] := hl
  refine lv_aload_n hx hb dX1_isFree_0 rfl (lv_at hl 0 rfl) ?_
  refine va_get (D := D) (ci := 1) (v := .ref (a 12)) (C := RX1) (T := TX1) (N := 5) hx hb hts (by decide +kernel) hown hK.1 hP 0 rfl rfl 0 (by decide) (hts (.fieldLink RX1 9 "Turbineorchard$Fleet" "turbines" "[I") (by decide +kernel)) (fun _ h9 => h9) rfl dX1_isFree_1 ?_
  refine lv_iload_n hx hb dX1_isFree_4 rfl (lv_at hl 1 rfl) ?_
  refine k_iald hx hb hK.1 hP 1 0 rfl rfl k (rfl) (by omega) (by decide) dX1_isFree_5 ?_
  refine lv_iconst (v := (-1)) hx hb dX1_isFree_6 (by decide) ?_
  refine lv_icmp_ne (tgt := 14) hx hb dX1_isFree_7 (by decide) (fun c_7 => ?_) (fun c_7 => ?_)
  · refine lv_iconst (v := 0) hx hb dX1_isFree_14 (by decide) ?_
    exact k_endR (ty := .boolean) hx hb hr hlocks (rfl) ((bI_f c_7).symm) dX1_isFree_15
  · refine lv_iconst (v := 1) hx hb dX1_isFree_10 (by decide) ?_
    refine lv_goto (tgt := 15) hx hb dX1_isFree_11 (by decide) ?_
    exact k_endR (ty := .boolean) hx hb hr hlocks (rfl) ((bI_t c_7).symm) dX1_isFree_15

set_option maxHeartbeats 4000000 in
set_option maxRecDepth 100000 in
theorem c_X1_send (l : Launch) (D : va_G) (a : Nat → Nat) (cI cZ : ClassId) (sz : Nat) (tu : Nat → Int32) (le : Nat → Int32) (cr : Nat → Int32) (to : Nat → Int32) (ia : Nat → Int32) (k : Nat) (x : Int32) (y : Int32) (hk : k < 3) : kUv l yX1_send wsX1_send ({ frames := 0, cells := 0, slots := 0, locals := 0 }) [.ref (a 11), .int (nI k), .int x, .int y] D cI cZ sz (wE a cI cZ tu le cr to ia) (wE a cI cZ (upd tu k x) (upd le k y) cr to ia) := by
  refine Met.ofW (cc := cX1_send) (maxL := 4) (ret := none) (by decide) rfl ?_
  intro p e s m args below meth c s₁ B hml hv
  obtain ⟨rfl, hsz, hP, hK, hD0⟩ := hv
  have hx := B.exec
  have hb := B.bytes
  have hr := B.returns
  have hts := atoms_spec (ws := wsX1_send) B.pre
  have hown : s.vm.findClass RX1 = some m.cls := findClass_of_methodNamed B.named
  have hlocks := B.notSynchronized
  subst hsz
  have hD := hD0.self (sz := s.heap.size)
  generalize hAe : va_A (wE a cI cZ tu le cr to ia) s.heap.size = A at hD ⊢
  have hA : ∀ q : Nat, s.heap.size ≤ q → A q := fun q h => by rw [← hAe]; exact Or.inr h
  have hS : va_S A s.heap s.heap [] := va_S.rf
  have hl := lv_entry ([.ref (a 11), .int (nI k), .int x, .int y]) (n := 4) (Nat.le_of_ble_eq_true rfl)
  rw [lg_entry_eq]
  generalize (lg_sl ([.ref (a 11), .int (nI k), .int x, .int y]) ++ List.replicate (4 - (lg_sl ([.ref (a 11), .int (nI k), .int x, .int y])).length) Slot.unset).toArray = ls at hl ⊢
  have hl : lv_has ls 4 [(0, .ref (a 11)), (1, .int (nI k)), (2, .int x), (3, .int y)] := hl
  refine lv_aload_n hx hb dX1_send_0 rfl (lv_at hl 0 rfl) ?_
  refine va_get (D := D) (ci := 1) (v := .ref (a 12)) (C := RX1) (T := TX1) (N := 5) hx hb hts (by decide +kernel) hown hK.1 hP 0 rfl rfl 0 (by decide) (hts (.fieldLink RX1 9 "Turbineorchard$Fleet" "turbines" "[I") (by decide +kernel)) (fun _ h9 => h9) rfl dX1_send_1 ?_
  refine lv_iload_n hx hb dX1_send_4 rfl (lv_at hl 1 rfl) ?_
  refine lv_iload_n hx hb dX1_send_5 rfl (lv_at hl 2 rfl) ?_
  refine k_iast hx hb hK.1 hP hD hS 1 0 rfl rfl k (rfl) (by omega) (by decide) dX1_send_6 (fun H locs hP hD hS => ?_)
  have hP : va_P D vwCl (wE a cI cZ (upd tu k x) le cr to ia) H := hP
  have hD : va_D A (wE a cI cZ (upd tu k x) le cr to ia) := hD
  refine lv_aload_n hx hb dX1_send_7 rfl (lv_at hl 0 rfl) ?_
  refine va_get (D := D) (ci := 1) (v := .ref (a 13)) (C := RX1) (T := TX1) (N := 5) hx hb hts (by decide +kernel) hown hK.1 hP 0 rfl rfl 1 (by decide) (hts (.fieldLink RX1 15 "Turbineorchard$Fleet" "left" "[I") (by decide +kernel)) (fun _ h9 => h9) rfl dX1_send_8 ?_
  refine lv_iload_n hx hb dX1_send_11 rfl (lv_at hl 1 rfl) ?_
  refine lv_iload_n hx hb dX1_send_12 rfl (lv_at hl 3 rfl) ?_
  refine k_iast hx hb hK.1 hP hD hS 2 0 rfl rfl k (rfl) (by omega) (by decide) dX1_send_13 (fun H locs hP hD hS => ?_)
  have hP : va_P D vwCl (wE a cI cZ (upd tu k x) (upd le k y) cr to ia) H := hP
  have hD : va_D A (wE a cI cZ (upd tu k x) (upd le k y) cr to ia) := hD
  exact k_endV (sz := 0) hx hb hr hlocks hP hD hS dX1_send_14

set_option maxHeartbeats 4000000 in
set_option maxRecDepth 100000 in
theorem c_X1_isAtWorkOn (l : Launch) (D : va_G) (a : Nat → Nat) (cI cZ : ClassId) (tu : Nat → Int32) (le : Nat → Int32) (cr : Nat → Int32) (to : Nat → Int32) (ia : Nat → Int32) (x : Int32) : kRd l yX1_isAtWorkOn wsX1_isAtWorkOn ({ frames := 0, cells := 0, slots := 0, locals := 0 }) [.ref (a 11), .int x] D cI cZ (wE a cI cZ tu le cr to ia) (fun r => r = bI (tu 0 = x ∨ tu 1 = x ∨ tu 2 = x)) := by
  refine Met.ofW (cc := cX1_isAtWorkOn) (maxL := 3) (ret := (some .boolean)) (by decide) rfl ?_
  intro p e s m args below meth c s₁ B hml hv
  obtain ⟨rfl, hP, hK⟩ := hv
  have hx := B.exec
  have hb := B.bytes
  have hr := B.returns
  have hts := atoms_spec (ws := wsX1_isAtWorkOn) B.pre
  have hown : s.vm.findClass RX1 = some m.cls := findClass_of_methodNamed B.named
  have hlocks := B.notSynchronized
  have hl := lv_entry ([.ref (a 11), .int x]) (n := 3) (Nat.le_of_ble_eq_true rfl)
  rw [lg_entry_eq]
  generalize (lg_sl ([.ref (a 11), .int x]) ++ List.replicate (3 - (lg_sl ([.ref (a 11), .int x])).length) Slot.unset).toArray = ls at hl ⊢
  have hl : lv_has ls 3 [(0, .ref (a 11)), (1, .int x)] := hl
  refine lv_iconst (v := 0) hx hb dX1_isAtWorkOn_0 (by decide) ?_
  refine lv_istore_n (lv' := [(2, .int 0), (0, .ref (a 11)), (1, .int x)]) hx hb dX1_isAtWorkOn_1 rfl hl (by decide) rfl (fun ls hl => ?_)
  have loop_2 : ∀ (nn : Nat) (k : Nat), 3 - k < nn → (k ≤ 3) → (∀ j, j < k → ¬ tu j = x) → ∀ (ls : Array Slot), lv_has ls 3 [(0, .ref (a 11)), (1, .int x), (2, .int (nI k))] → W p l e (headSpec wsX1_isAtWorkOn ({ frames := 0, cells := 0, slots := 0, locals := 0 })).room s m ([.ref (a 11), .int x] : List Value).toArray below meth c s.heap [] 0 0 (MQ below (vp_Si (fun r => r = bI (tu 0 = x ∨ tu 1 = x ∨ tu 2 = x))) ([.ref (a 11), .int x] : List Value).toArray s 0 0 (fun _ => False)) (F0 m 2 ls []) := by
    intro nn
    induction nn with
    | zero => intro k hm; exact absurd hm (by omega)
    | succ nn ih_2 =>
      intro k hm hk hi  ls hl
      refine lv_iload_n hx hb dX1_isAtWorkOn_2 rfl (lv_at hl 2 rfl) ?_
      refine lv_iconst (v := 3) hx hb dX1_isAtWorkOn_3 (by decide) ?_
      refine lv_icmp_ge (tgt := 25) hx hb dX1_isAtWorkOn_4 (by decide) (fun c_4 => ?_) (fun c_4 => ?_)
      · have e8 : k = 3 := by have := (nI_leI (a := 3) (b := k) (by omega) (by omega)).mp c_4; omega
        subst e8
        refine lv_iconst (v := 0) hx hb dX1_isAtWorkOn_25 (by decide) ?_
        exact k_endR (ty := .boolean) hx hb hr hlocks (rfl) ((bI_f (fun h => h.elim (hi 0 (by omega)) (fun h => h.elim (hi 1 (by omega)) (hi 2 (by omega))))).symm) dX1_isAtWorkOn_26
      · have c_4 : k < 3 := Nat.lt_of_not_le (fun h => c_4 ((nI_leI (a := 3) (b := k) (by omega) (by omega)).mpr h))
        refine lv_aload_n hx hb dX1_isAtWorkOn_7 rfl (lv_at hl 0 rfl) ?_
        refine va_get (D := D) (ci := 1) (v := .ref (a 12)) (C := RX1) (T := TX1) (N := 5) hx hb hts (by decide +kernel) hown hK.1 hP 0 rfl rfl 0 (by decide) (hts (.fieldLink RX1 9 "Turbineorchard$Fleet" "turbines" "[I") (by decide +kernel)) (fun _ h9 => h9) rfl dX1_isAtWorkOn_8 ?_
        refine lv_iload_n hx hb dX1_isAtWorkOn_11 rfl (lv_at hl 2 rfl) ?_
        refine k_iald hx hb hK.1 hP 1 0 rfl rfl k (rfl) (by omega) (by decide) dX1_isAtWorkOn_12 ?_
        refine lv_iload_n hx hb dX1_isAtWorkOn_13 rfl (lv_at hl 1 rfl) ?_
        refine lv_icmp_ne (tgt := 19) hx hb dX1_isAtWorkOn_14 (by decide) (fun c_14 => ?_) (fun c_14 => ?_)
        · refine lv_iinc (v := nI (k + 1)) (lv' := [(2, .int (nI (k + 1))), (0, .ref (a 11)), (1, .int x)]) hx hb dX1_isAtWorkOn_19 hl (k := 2) rfl (nI_1 _) (by decide) rfl (fun ls hl => ?_)
          refine lv_goto (tgt := 2) hx hb dX1_isAtWorkOn_22 (by decide) ?_
          exact ih_2 (k + 1) (by omega) (by omega) (fun j hj => (Nat.lt_succ_iff_lt_or_eq.mp hj).elim (hi j) (fun h => by rw [h]; exact c_14)) _ (lv_sub hl [1, 2, 0] rfl)
        · refine lv_iconst (v := 1) hx hb dX1_isAtWorkOn_17 (by decide) ?_
          exact k_endR (ty := .boolean) hx hb hr hlocks (rfl) (by refine (bI_t ?_).symm; rcases (show k = 0 ∨ k = 1 ∨ k = 2 by omega) with h | h | h <;> subst h <;> simp [c_14]) dX1_isAtWorkOn_18
  exact loop_2 (3 - 0 + 1) 0 (by omega) (by omega) (fun j hj => absurd hj (by omega)) _ (lv_sub hl [1, 2, 0] rfl)

set_option maxHeartbeats 4000000 in
set_option maxRecDepth 100000 in
theorem c_X1_canWork (l : Launch) (D : va_G) (a : Nat → Nat) (cI cZ : ClassId) (tu : Nat → Int32) (le : Nat → Int32) (cr : Nat → Int32) (to : Nat → Int32) (ia : Nat → Int32) (k : Nat) (hk : k < 3) : kRd l yX1_canWork wsX1_canWork ({ frames := 1, cells := 0, slots := 0, locals := 21 }) [.ref (a 11), .int (nI k)] D cI cZ (wE a cI cZ tu le cr to ia) (fun r => r = bI (¬ tu k = -1 ∧ to k < cr k)) := by
  refine Met.ofW (cc := cX1_canWork) (maxL := 2) (ret := (some .boolean)) (by decide) rfl ?_
  intro p e s m args below meth c s₁ B hml hv
  obtain ⟨rfl, hP, hK⟩ := hv
  have hx := B.exec
  have hb := B.bytes
  have hr := B.returns
  have hts := atoms_spec (ws := wsX1_canWork) B.pre
  have hown : s.vm.findClass RX1 = some m.cls := findClass_of_methodNamed B.named
  have hlocks := B.notSynchronized
  have hl := lv_entry ([.ref (a 11), .int (nI k)]) (n := 2) (Nat.le_of_ble_eq_true rfl)
  rw [lg_entry_eq]
  generalize (lg_sl ([.ref (a 11), .int (nI k)]) ++ List.replicate (2 - (lg_sl ([.ref (a 11), .int (nI k)])).length) Slot.unset).toArray = ls at hl ⊢
  have hl : lv_has ls 2 [(0, .ref (a 11)), (1, .int (nI k))] := hl
  refine lv_aload_n hx hb dX1_canWork_0 rfl (lv_at hl 0 rfl) ?_
  refine lv_iload_n hx hb dX1_canWork_1 rfl (lv_at hl 1 rfl) ?_
  refine k_rd (As := [.int (nI k)]) (rest := []) (nL := 2) ⟨hx, hb, hml, hown, hts⟩ hK hP (c_X1_isFree l D a cI cZ tu le cr to ia k (by omega)) [0, 1, 2, 3, 4, 5] rfl 0 rfl rfl rfl (cwV 1 hts gX1_canWork_X1_isFree rfl rfl rfl (by decide +kernel) ⟨Nat.le_of_ble_eq_true rfl, Nat.le_of_ble_eq_true rfl⟩) rfl hl.1 rfl (Nat.le_of_ble_eq_true rfl) dX1_canWork_2 ⟨Nat.zero_le _, Nat.zero_le _⟩ (fun r9 hr9 => ?_)
  subst hr9
  refine lv_if_ne (tgt := 27) hx hb dX1_canWork_5 (by decide) (fun c_5 => ?_) (fun c_5 => ?_)
  · have c_5 := bI_n c_5
    refine lv_iconst (v := 0) hx hb dX1_canWork_27 (by decide) ?_
    exact k_endR (ty := .boolean) hx hb hr hlocks (rfl) ((bI_f (fun h => h.1 c_5)).symm) dX1_canWork_28
  · have c_5 := bI_0 c_5
    refine lv_aload_n hx hb dX1_canWork_8 rfl (lv_at hl 0 rfl) ?_
    refine va_get (D := D) (ci := 1) (v := .ref (a 15)) (C := RX1) (T := TX1) (N := 5) hx hb hts (by decide +kernel) hown hK.1 hP 0 rfl rfl 3 (by decide) (hts (.fieldLink RX1 21 "Turbineorchard$Fleet" "today" "[I") (by decide +kernel)) (fun _ h9 => h9) rfl dX1_canWork_9 ?_
    refine lv_iload_n hx hb dX1_canWork_12 rfl (lv_at hl 1 rfl) ?_
    refine k_iald hx hb hK.1 hP 4 0 rfl rfl k (rfl) (by omega) (by decide) dX1_canWork_13 ?_
    refine lv_aload_n hx hb dX1_canWork_14 rfl (lv_at hl 0 rfl) ?_
    refine va_get (D := D) (ci := 1) (v := .ref (a 14)) (C := RX1) (T := TX1) (N := 5) hx hb hts (by decide +kernel) hown hK.1 hP 0 rfl rfl 2 (by decide) (hts (.fieldLink RX1 18 "Turbineorchard$Fleet" "crewLimits" "[I") (by decide +kernel)) (fun _ h9 => h9) rfl dX1_canWork_15 ?_
    refine lv_iload_n hx hb dX1_canWork_18 rfl (lv_at hl 1 rfl) ?_
    refine k_iald hx hb hK.1 hP 3 0 rfl rfl k (rfl) (by omega) (by decide) dX1_canWork_19 ?_
    refine lv_icmp_ge (tgt := 27) hx hb dX1_canWork_20 (by decide) (fun c_20 => ?_) (fun c_20 => ?_)
    · refine lv_iconst (v := 0) hx hb dX1_canWork_27 (by decide) ?_
      exact k_endR (ty := .boolean) hx hb hr hlocks (rfl) ((bI_f (fun h => absurd h.2 (Int32.not_lt.mpr c_20))).symm) dX1_canWork_28
    · refine lv_iconst (v := 1) hx hb dX1_canWork_23 (by decide) ?_
      refine lv_goto (tgt := 28) hx hb dX1_canWork_24 (by decide) ?_
      exact k_endR (ty := .boolean) hx hb hr hlocks (rfl) ((bI_t ⟨c_5, Int32.not_le.mp c_20⟩).symm) dX1_canWork_28

set_option maxHeartbeats 4000000 in
set_option maxRecDepth 100000 in
theorem c_X1_workAnHour (l : Launch) (D : va_G) (a : Nat → Nat) (cI cZ : ClassId) (sz : Nat) (tu : Nat → Int32) (le : Nat → Int32) (cr : Nat → Int32) (to : Nat → Int32) (ia : Nat → Int32) (k : Nat) (hk : k < 3) : kUv l yX1_workAnHour wsX1_workAnHour ({ frames := 0, cells := 0, slots := 0, locals := 0 }) [.ref (a 11), .int (nI k)] D cI cZ sz (wE a cI cZ tu le cr to ia) (wE a cI cZ tu (upd le k (le k - 1)) cr (upd to k (to k + 1)) (upd ia k (ia k + 1))) := by
  refine Met.ofW (cc := cX1_workAnHour) (maxL := 2) (ret := none) (by decide) rfl ?_
  intro p e s m args below meth c s₁ B hml hv
  obtain ⟨rfl, hsz, hP, hK, hD0⟩ := hv
  have hx := B.exec
  have hb := B.bytes
  have hr := B.returns
  have hts := atoms_spec (ws := wsX1_workAnHour) B.pre
  have hown : s.vm.findClass RX1 = some m.cls := findClass_of_methodNamed B.named
  have hlocks := B.notSynchronized
  subst hsz
  have hD := hD0.self (sz := s.heap.size)
  generalize hAe : va_A (wE a cI cZ tu le cr to ia) s.heap.size = A at hD ⊢
  have hA : ∀ q : Nat, s.heap.size ≤ q → A q := fun q h => by rw [← hAe]; exact Or.inr h
  have hS : va_S A s.heap s.heap [] := va_S.rf
  have hl := lv_entry ([.ref (a 11), .int (nI k)]) (n := 2) (Nat.le_of_ble_eq_true rfl)
  rw [lg_entry_eq]
  generalize (lg_sl ([.ref (a 11), .int (nI k)]) ++ List.replicate (2 - (lg_sl ([.ref (a 11), .int (nI k)])).length) Slot.unset).toArray = ls at hl ⊢
  have hl : lv_has ls 2 [(0, .ref (a 11)), (1, .int (nI k))] := hl
  refine lv_aload_n hx hb dX1_workAnHour_0 rfl (lv_at hl 0 rfl) ?_
  refine va_get (D := D) (ci := 1) (v := .ref (a 13)) (C := RX1) (T := TX1) (N := 5) hx hb hts (by decide +kernel) hown hK.1 hP 0 rfl rfl 1 (by decide) (hts (.fieldLink RX1 15 "Turbineorchard$Fleet" "left" "[I") (by decide +kernel)) (fun _ h9 => h9) rfl dX1_workAnHour_1 ?_
  refine lv_iload_n hx hb dX1_workAnHour_4 rfl (lv_at hl 1 rfl) ?_
  refine lv_dup2_11 hx hb dX1_workAnHour_5 rfl rfl ?_
  refine k_iald hx hb hK.1 hP 2 0 rfl rfl k (rfl) (by omega) (by decide) dX1_workAnHour_6 ?_
  refine lv_iconst (v := 1) hx hb dX1_workAnHour_7 (by decide) ?_
  refine lv_isub hx hb dX1_workAnHour_8 ?_
  refine k_iast hx hb hK.1 hP hD hS 2 0 rfl rfl k (rfl) (by omega) (by decide) dX1_workAnHour_9 (fun H locs hP hD hS => ?_)
  have hP : va_P D vwCl (wE a cI cZ tu (upd le k ((le k) - 1)) cr to ia) H := hP
  have hD : va_D A (wE a cI cZ tu (upd le k ((le k) - 1)) cr to ia) := hD
  refine lv_aload_n hx hb dX1_workAnHour_10 rfl (lv_at hl 0 rfl) ?_
  refine va_get (D := D) (ci := 1) (v := .ref (a 15)) (C := RX1) (T := TX1) (N := 5) hx hb hts (by decide +kernel) hown hK.1 hP 0 rfl rfl 3 (by decide) (hts (.fieldLink RX1 21 "Turbineorchard$Fleet" "today" "[I") (by decide +kernel)) (fun _ h9 => h9) rfl dX1_workAnHour_11 ?_
  refine lv_iload_n hx hb dX1_workAnHour_14 rfl (lv_at hl 1 rfl) ?_
  refine lv_dup2_11 hx hb dX1_workAnHour_15 rfl rfl ?_
  refine k_iald hx hb hK.1 hP 4 0 rfl rfl k (rfl) (by omega) (by decide) dX1_workAnHour_16 ?_
  refine lv_iconst (v := 1) hx hb dX1_workAnHour_17 (by decide) ?_
  refine lv_iadd hx hb dX1_workAnHour_18 ?_
  refine k_iast hx hb hK.1 hP hD hS 4 0 rfl rfl k (rfl) (by omega) (by decide) dX1_workAnHour_19 (fun H locs hP hD hS => ?_)
  have hP : va_P D vwCl (wE a cI cZ tu (upd le k ((le k) - 1)) cr (upd to k ((to k) + 1)) ia) H := hP
  have hD : va_D A (wE a cI cZ tu (upd le k ((le k) - 1)) cr (upd to k ((to k) + 1)) ia) := hD
  refine lv_aload_n hx hb dX1_workAnHour_20 rfl (lv_at hl 0 rfl) ?_
  refine va_get (D := D) (ci := 1) (v := .ref (a 16)) (C := RX1) (T := TX1) (N := 5) hx hb hts (by decide +kernel) hown hK.1 hP 0 rfl rfl 4 (by decide) (hts (.fieldLink RX1 24 "Turbineorchard$Fleet" "inAll" "[I") (by decide +kernel)) (fun _ h9 => h9) rfl dX1_workAnHour_21 ?_
  refine lv_iload_n hx hb dX1_workAnHour_24 rfl (lv_at hl 1 rfl) ?_
  refine lv_dup2_11 hx hb dX1_workAnHour_25 rfl rfl ?_
  refine k_iald hx hb hK.1 hP 5 0 rfl rfl k (rfl) (by omega) (by decide) dX1_workAnHour_26 ?_
  refine lv_iconst (v := 1) hx hb dX1_workAnHour_27 (by decide) ?_
  refine lv_iadd hx hb dX1_workAnHour_28 ?_
  refine k_iast hx hb hK.1 hP hD hS 5 0 rfl rfl k (rfl) (by omega) (by decide) dX1_workAnHour_29 (fun H locs hP hD hS => ?_)
  have hP : va_P D vwCl (wE a cI cZ tu (upd le k ((le k) - 1)) cr (upd to k ((to k) + 1)) (upd ia k ((ia k) + 1))) H := hP
  have hD : va_D A (wE a cI cZ tu (upd le k ((le k) - 1)) cr (upd to k ((to k) + 1)) (upd ia k ((ia k) + 1))) := hD
  exact k_endV (sz := 0) hx hb hr hlocks hP hD hS dX1_workAnHour_30

set_option maxHeartbeats 4000000 in
set_option maxRecDepth 100000 in
theorem c_X1_hasEnded (l : Launch) (D : va_G) (a : Nat → Nat) (cI cZ : ClassId) (tu : Nat → Int32) (le : Nat → Int32) (cr : Nat → Int32) (to : Nat → Int32) (ia : Nat → Int32) (k : Nat) (hk : k < 3) : kRd l yX1_hasEnded wsX1_hasEnded ({ frames := 1, cells := 0, slots := 0, locals := 21 }) [.ref (a 11), .int (nI k)] D cI cZ (wE a cI cZ tu le cr to ia) (fun r => r = bI (¬ tu k = -1 ∧ le k = 0)) := by
  refine Met.ofW (cc := cX1_hasEnded) (maxL := 2) (ret := (some .boolean)) (by decide) rfl ?_
  intro p e s m args below meth c s₁ B hml hv
  obtain ⟨rfl, hP, hK⟩ := hv
  have hx := B.exec
  have hb := B.bytes
  have hr := B.returns
  have hts := atoms_spec (ws := wsX1_hasEnded) B.pre
  have hown : s.vm.findClass RX1 = some m.cls := findClass_of_methodNamed B.named
  have hlocks := B.notSynchronized
  have hl := lv_entry ([.ref (a 11), .int (nI k)]) (n := 2) (Nat.le_of_ble_eq_true rfl)
  rw [lg_entry_eq]
  generalize (lg_sl ([.ref (a 11), .int (nI k)]) ++ List.replicate (2 - (lg_sl ([.ref (a 11), .int (nI k)])).length) Slot.unset).toArray = ls at hl ⊢
  have hl : lv_has ls 2 [(0, .ref (a 11)), (1, .int (nI k))] := hl
  refine lv_aload_n hx hb dX1_hasEnded_0 rfl (lv_at hl 0 rfl) ?_
  refine lv_iload_n hx hb dX1_hasEnded_1 rfl (lv_at hl 1 rfl) ?_
  refine k_rd (As := [.int (nI k)]) (rest := []) (nL := 2) ⟨hx, hb, hml, hown, hts⟩ hK hP (c_X1_isFree l D a cI cZ tu le cr to ia k (by omega)) [0, 1, 2, 3, 4, 5] rfl 0 rfl rfl rfl (cwV 1 hts gX1_hasEnded_X1_isFree rfl rfl rfl (by decide +kernel) ⟨Nat.le_of_ble_eq_true rfl, Nat.le_of_ble_eq_true rfl⟩) rfl hl.1 rfl (Nat.le_of_ble_eq_true rfl) dX1_hasEnded_2 ⟨Nat.zero_le _, Nat.zero_le _⟩ (fun r9 hr9 => ?_)
  subst hr9
  refine lv_if_ne (tgt := 21) hx hb dX1_hasEnded_5 (by decide) (fun c_5 => ?_) (fun c_5 => ?_)
  · have c_5 := bI_n c_5
    refine lv_iconst (v := 0) hx hb dX1_hasEnded_21 (by decide) ?_
    exact k_endR (ty := .boolean) hx hb hr hlocks (rfl) ((bI_f (fun h => h.1 c_5)).symm) dX1_hasEnded_22
  · have c_5 := bI_0 c_5
    refine lv_aload_n hx hb dX1_hasEnded_8 rfl (lv_at hl 0 rfl) ?_
    refine va_get (D := D) (ci := 1) (v := .ref (a 13)) (C := RX1) (T := TX1) (N := 5) hx hb hts (by decide +kernel) hown hK.1 hP 0 rfl rfl 1 (by decide) (hts (.fieldLink RX1 15 "Turbineorchard$Fleet" "left" "[I") (by decide +kernel)) (fun _ h9 => h9) rfl dX1_hasEnded_9 ?_
    refine lv_iload_n hx hb dX1_hasEnded_12 rfl (lv_at hl 1 rfl) ?_
    refine k_iald hx hb hK.1 hP 2 0 rfl rfl k (rfl) (by omega) (by decide) dX1_hasEnded_13 ?_
    refine lv_if_ne (tgt := 21) hx hb dX1_hasEnded_14 (by decide) (fun c_14 => ?_) (fun c_14 => ?_)
    · refine lv_iconst (v := 0) hx hb dX1_hasEnded_21 (by decide) ?_
      exact k_endR (ty := .boolean) hx hb hr hlocks (rfl) ((bI_f (fun h => c_14 h.2)).symm) dX1_hasEnded_22
    · refine lv_iconst (v := 1) hx hb dX1_hasEnded_17 (by decide) ?_
      refine lv_goto (tgt := 22) hx hb dX1_hasEnded_18 (by decide) ?_
      exact k_endR (ty := .boolean) hx hb hr hlocks (rfl) ((bI_t ⟨c_5, c_14⟩).symm) dX1_hasEnded_22

set_option maxHeartbeats 4000000 in
set_option maxRecDepth 100000 in
theorem c_X1_release (l : Launch) (D : va_G) (a : Nat → Nat) (cI cZ : ClassId) (sz : Nat) (tu : Nat → Int32) (le : Nat → Int32) (cr : Nat → Int32) (to : Nat → Int32) (ia : Nat → Int32) (k : Nat) (hk : k < 3) : kUv l yX1_release wsX1_release ({ frames := 0, cells := 0, slots := 0, locals := 0 }) [.ref (a 11), .int (nI k)] D cI cZ sz (wE a cI cZ tu le cr to ia) (wE a cI cZ (upd tu k (-1)) le cr to ia) := by
  refine Met.ofW (cc := cX1_release) (maxL := 2) (ret := none) (by decide) rfl ?_
  intro p e s m args below meth c s₁ B hml hv
  obtain ⟨rfl, hsz, hP, hK, hD0⟩ := hv
  have hx := B.exec
  have hb := B.bytes
  have hr := B.returns
  have hts := atoms_spec (ws := wsX1_release) B.pre
  have hown : s.vm.findClass RX1 = some m.cls := findClass_of_methodNamed B.named
  have hlocks := B.notSynchronized
  subst hsz
  have hD := hD0.self (sz := s.heap.size)
  generalize hAe : va_A (wE a cI cZ tu le cr to ia) s.heap.size = A at hD ⊢
  have hA : ∀ q : Nat, s.heap.size ≤ q → A q := fun q h => by rw [← hAe]; exact Or.inr h
  have hS : va_S A s.heap s.heap [] := va_S.rf
  have hl := lv_entry ([.ref (a 11), .int (nI k)]) (n := 2) (Nat.le_of_ble_eq_true rfl)
  rw [lg_entry_eq]
  generalize (lg_sl ([.ref (a 11), .int (nI k)]) ++ List.replicate (2 - (lg_sl ([.ref (a 11), .int (nI k)])).length) Slot.unset).toArray = ls at hl ⊢
  have hl : lv_has ls 2 [(0, .ref (a 11)), (1, .int (nI k))] := hl
  refine lv_aload_n hx hb dX1_release_0 rfl (lv_at hl 0 rfl) ?_
  refine va_get (D := D) (ci := 1) (v := .ref (a 12)) (C := RX1) (T := TX1) (N := 5) hx hb hts (by decide +kernel) hown hK.1 hP 0 rfl rfl 0 (by decide) (hts (.fieldLink RX1 9 "Turbineorchard$Fleet" "turbines" "[I") (by decide +kernel)) (fun _ h9 => h9) rfl dX1_release_1 ?_
  refine lv_iload_n hx hb dX1_release_4 rfl (lv_at hl 1 rfl) ?_
  refine lv_iconst (v := (-1)) hx hb dX1_release_5 (by decide) ?_
  refine k_iast hx hb hK.1 hP hD hS 1 0 rfl rfl k (rfl) (by omega) (by decide) dX1_release_6 (fun H locs hP hD hS => ?_)
  have hP : va_P D vwCl (wE a cI cZ (upd tu k (-1)) le cr to ia) H := hP
  have hD : va_D A (wE a cI cZ (upd tu k (-1)) le cr to ia) := hD
  exact k_endV (sz := 0) hx hb hr hlocks hP hD hS dX1_release_7

set_option maxHeartbeats 4000000 in
set_option maxRecDepth 100000 in
theorem c_X1_beginDay (l : Launch) (D : va_G) (a : Nat → Nat) (cI cZ : ClassId) (sz : Nat) (tu : Nat → Int32) (le : Nat → Int32) (cr : Nat → Int32) (to : Nat → Int32) (ia : Nat → Int32) : kUv l yX1_beginDay wsX1_beginDay ({ frames := 0, cells := 0, slots := 0, locals := 0 }) [.ref (a 11)] D cI cZ sz (wE a cI cZ tu le cr to ia) (wE a cI cZ tu le cr (setR to 0 3 0) ia) := by
  refine Met.ofW (cc := cX1_beginDay) (maxL := 2) (ret := none) (by decide) rfl ?_
  intro p e s m args below meth c s₁ B hml hv
  obtain ⟨rfl, hsz, hP, hK, hD0⟩ := hv
  have hx := B.exec
  have hb := B.bytes
  have hr := B.returns
  have hts := atoms_spec (ws := wsX1_beginDay) B.pre
  have hown : s.vm.findClass RX1 = some m.cls := findClass_of_methodNamed B.named
  have hlocks := B.notSynchronized
  subst hsz
  have hD := hD0.self (sz := s.heap.size)
  generalize hAe : va_A (wE a cI cZ tu le cr to ia) s.heap.size = A at hD ⊢
  have hA : ∀ q : Nat, s.heap.size ≤ q → A q := fun q h => by rw [← hAe]; exact Or.inr h
  have hS : va_S A s.heap s.heap [] := va_S.rf
  have hl := lv_entry ([.ref (a 11)]) (n := 2) (Nat.le_of_ble_eq_true rfl)
  rw [lg_entry_eq]
  generalize (lg_sl ([.ref (a 11)]) ++ List.replicate (2 - (lg_sl ([.ref (a 11)])).length) Slot.unset).toArray = ls at hl ⊢
  have hl : lv_has ls 2 [(0, .ref (a 11))] := hl
  refine lv_iconst (v := 0) hx hb dX1_beginDay_0 (by decide) ?_
  have e9 : to = (setR to 0 0 0) := (setR_0 to 0 0).symm
  rw [e9] at hP hD
  clear e9
  refine lv_istore_n (lv' := [(1, .int 0), (0, .ref (a 11))]) hx hb dX1_beginDay_1 rfl hl (by decide) rfl (fun ls hl => ?_)
  have loop_2 : ∀ (nn : Nat) (k : Nat), 3 - k < nn → (k ≤ 3) → ∀ (H : Heap) (locs : List Loc), va_P D vwCl (wE a cI cZ tu le cr (setR to 0 k 0) ia) H → va_D A (wE a cI cZ tu le cr (setR to 0 k 0) ia) → va_S A s.heap H locs → ∀ (ls : Array Slot), lv_has ls 2 [(0, .ref (a 11)), (1, .int (nI k))] → W p l e (headSpec wsX1_beginDay ({ frames := 0, cells := 0, slots := 0, locals := 0 })).room s m ([.ref (a 11)] : List Value).toArray below meth c H locs 0 0 (MQ below (va_Qv (fun _ : Unit => True) (fun _ t9 => kAt D A (wE a cI cZ tu le cr (setR to 0 3 0) ia) t9) A) ([.ref (a 11)] : List Value).toArray s 0 0 A) (F0 m 2 ls []) := by
    intro nn
    induction nn with
    | zero => intro k hm; exact absurd hm (by omega)
    | succ nn ih_2 =>
      intro k hm hk H locs hP hD hS ls hl
      refine lv_iload_n hx hb dX1_beginDay_2 rfl (lv_at hl 1 rfl) ?_
      refine lv_iconst (v := 3) hx hb dX1_beginDay_3 (by decide) ?_
      refine lv_icmp_ge (tgt := 20) hx hb dX1_beginDay_4 (by decide) (fun c_4 => ?_) (fun c_4 => ?_)
      · have e8 : k = 3 := by have := (nI_leI (a := 3) (b := k) (by omega) (by omega)).mp c_4; omega
        subst e8
        exact k_endV (sz := 0) hx hb hr hlocks hP hD hS dX1_beginDay_20
      · have c_4 : k < 3 := Nat.lt_of_not_le (fun h => c_4 ((nI_leI (a := 3) (b := k) (by omega) (by omega)).mpr h))
        refine lv_aload_n hx hb dX1_beginDay_7 rfl (lv_at hl 0 rfl) ?_
        refine va_get (D := D) (ci := 1) (v := .ref (a 15)) (C := RX1) (T := TX1) (N := 5) hx hb hts (by decide +kernel) hown hK.1 hP 0 rfl rfl 3 (by decide) (hts (.fieldLink RX1 21 "Turbineorchard$Fleet" "today" "[I") (by decide +kernel)) (fun _ h9 => h9) rfl dX1_beginDay_8 ?_
        refine lv_iload_n hx hb dX1_beginDay_11 rfl (lv_at hl 1 rfl) ?_
        refine lv_iconst (v := 0) hx hb dX1_beginDay_12 (by decide) ?_
        refine k_iast hx hb hK.1 hP hD hS 4 0 rfl rfl k (rfl) (by omega) (by decide) dX1_beginDay_13 (fun H locs hP hD hS => ?_)
        have hP : va_P D vwCl (wE a cI cZ tu le cr (upd (setR to 0 k 0) k 0) ia) H := hP
        have hD : va_D A (wE a cI cZ tu le cr (upd (setR to 0 k 0) k 0) ia) := hD
        have e9 : (upd (setR to 0 k 0) k 0) = (setR to 0 (k + 1) 0) := setR_1 to 0 (Nat.zero_le k)
        rw [e9] at hP hD
        clear e9
        refine lv_iinc (v := nI (k + 1)) (lv' := [(1, .int (nI (k + 1))), (0, .ref (a 11))]) hx hb dX1_beginDay_14 hl (k := 1) rfl (nI_1 _) (by decide) rfl (fun ls hl => ?_)
        refine lv_goto (tgt := 2) hx hb dX1_beginDay_17 (by decide) ?_
        exact ih_2 (k + 1) (by omega) (by omega) _ _ hP hD hS _ (lv_sub hl [1, 0] rfl)
  exact loop_2 (3 - 0 + 1) 0 (by omega) (by omega) _ _ hP hD hS _ (lv_sub hl [1, 0] rfl)
