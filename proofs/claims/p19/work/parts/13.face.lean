set_option maxHeartbeats 4000000 in
set_option maxRecDepth 100000 in
theorem c_X2_proceedsInAll (l : Launch) (D : va_G) (a : Nat → Nat) (cI cZ : ClassId) (sl : Nat → Int32) (pr : Nat → Int32) (mk : Nat → Int32) (pc : Int64) : kRl l yX2_proceedsInAll wsX2_proceedsInAll ({ frames := 0, cells := 0, slots := 0, locals := 0 }) [.ref (a 17)] D cI cZ (wG a cI cZ sl pr mk pc) (fun r => r = pc) := by
  refine Met.ofW (cc := cX2_proceedsInAll) (maxL := 1) (ret := (some .long)) (by decide) rfl ?_
  intro p e s m args below meth c s₁ B hml hv
  obtain ⟨rfl, hP, hK⟩ := hv
  have hx := B.exec
  have hb := B.bytes
  have hr := B.returns
  have hts := atoms_spec (ws := wsX2_proceedsInAll) B.pre
  have hown : s.vm.findClass RX2 = some m.cls := findClass_of_methodNamed B.named
  have hlocks := B.notSynchronized
  have hl := lv_entry ([.ref (a 17)]) (n := 1) (Nat.le_of_ble_eq_true rfl)
  rw [lg_entry_eq]
  generalize (lg_sl ([.ref (a 17)]) ++ List.replicate (1 - (lg_sl ([.ref (a 17)])).length) Slot.unset).toArray = ls at hl ⊢
  have hl : lv_has ls 1 [(0, .ref (a 17))] := hl
  refine lv_aload_n hx hb dX2_proceedsInAll_0 rfl (lv_at hl 0 rfl) ?_
  refine va_get (D := D) (ci := 2) (v := .long pc) (C := RX2) (T := TX2) (N := 4) hx hb hts (by decide +kernel) hown hK.1 hP 0 rfl rfl 3 (by decide) (hts (.fieldLink RX2 21 "Turbineorchard$Ledger" "proceeds" "J") (by decide +kernel)) (fun _ h9 => h9) rfl dX2_proceedsInAll_1 ?_
  exact k_endRl hx hb hr hlocks (rfl) dX2_proceedsInAll_4

set_option maxHeartbeats 4000000 in
set_option maxRecDepth 100000 in
theorem c_X2_madeToSold (l : Launch) (D : va_G) (a : Nat → Nat) (cI cZ : ClassId) (sl : Nat → Int32) (pr : Nat → Int32) (mk : Nat → Int32) (pc : Int64) (k : Nat) (hk : k < 480) : kRf l yX2_madeToSold wsX2_madeToSold ({ frames := 1, cells := 0, slots := 0, locals := 21 }) [.ref (a 17), .int (nI k)] D cI cZ (wG a cI cZ sl pr mk pc) (fun r => r = fRatio sl mk k) := by
  refine Met.ofW (cc := cX2_madeToSold) (maxL := 3) (ret := (some .float)) (by decide) rfl ?_
  intro p e s m args below meth c s₁ B hml hv
  obtain ⟨rfl, hP, hK⟩ := hv
  have hx := B.exec
  have hb := B.bytes
  have hr := B.returns
  have hts := atoms_spec (ws := wsX2_madeToSold) B.pre
  have hown : s.vm.findClass RX2 = some m.cls := findClass_of_methodNamed B.named
  have hlocks := B.notSynchronized
  have hl := lv_entry ([.ref (a 17), .int (nI k)]) (n := 3) (Nat.le_of_ble_eq_true rfl)
  rw [lg_entry_eq]
  generalize (lg_sl ([.ref (a 17), .int (nI k)]) ++ List.replicate (3 - (lg_sl ([.ref (a 17), .int (nI k)])).length) Slot.unset).toArray = ls at hl ⊢
  have hl : lv_has ls 3 [(0, .ref (a 17)), (1, .int (nI k))] := hl
  refine lv_aload_n hx hb dX2_madeToSold_0 rfl (lv_at hl 0 rfl) ?_
  refine lv_iload_n hx hb dX2_madeToSold_1 rfl (lv_at hl 1 rfl) ?_
  refine k_rd (As := [.int (nI k)]) (rest := []) (nL := 3) ⟨hx, hb, hml, hown, hts⟩ hK hP (c_X2_soldFor l D a cI cZ sl pr mk pc k (by omega)) [0, 1, 2, 3] rfl 0 rfl rfl rfl (cwV 1 hts gX2_madeToSold_X2_soldFor rfl rfl rfl (by decide +kernel) ⟨Nat.le_of_ble_eq_true rfl, Nat.le_of_ble_eq_true rfl⟩) rfl hl.1 rfl (Nat.le_of_ble_eq_true rfl) dX2_madeToSold_2 ⟨Nat.zero_le _, Nat.zero_le _⟩ (fun r9 hr9 => ?_)
  subst hr9
  refine lv_istore_n (lv' := [(2, .int (fSold sl k)), (0, .ref (a 17)), (1, .int (nI k))]) hx hb dX2_madeToSold_5 rfl hl (by decide) rfl (fun ls hl => ?_)
  refine lv_iload_n hx hb dX2_madeToSold_6 rfl (lv_at hl 0 rfl) ?_
  refine lv_if_ne (tgt := 14) hx hb dX2_madeToSold_7 (by decide) (fun c_7 => ?_) (fun c_7 => ?_)
  · refine lv_aload_n hx hb dX2_madeToSold_14 rfl (lv_at hl 1 rfl) ?_
    refine va_get (D := D) (ci := 2) (v := .ref (a 20)) (C := RX2) (T := TX2) (N := 4) hx hb hts (by decide +kernel) hown hK.1 hP 0 rfl rfl 2 (by decide) (hts (.fieldLink RX2 18 "Turbineorchard$Ledger" "made" "[I") (by decide +kernel)) (fun _ h9 => h9) rfl dX2_madeToSold_15 ?_
    refine lv_iload_n hx hb dX2_madeToSold_18 rfl (lv_at hl 2 rfl) ?_
    refine k_iald hx hb hK.1 hP 3 0 rfl rfl k (rfl) (by omega) (by decide) dX2_madeToSold_19 ?_
    refine lv_i2f hx hb dX2_madeToSold_20 ?_
    refine lv_iload_n hx hb dX2_madeToSold_21 rfl (lv_at hl 0 rfl) ?_
    refine lv_i2f hx hb dX2_madeToSold_22 ?_
    refine lv_fdiv hx hb dX2_madeToSold_23 (fq_no c_7) ?_
    exact k_endRf hx hb hr hlocks (by unfold fRatio; rw [if_neg c_7]) dX2_madeToSold_24
  · refine lv_fconst0 hx hb dX2_madeToSold_10 ?_
    refine lv_goto (tgt := 24) hx hb dX2_madeToSold_11 (by decide) ?_
    exact k_endRf hx hb hr hlocks (by unfold fRatio; rw [if_pos c_7]) dX2_madeToSold_24

set_option maxHeartbeats 4000000 in
set_option maxRecDepth 100000 in
theorem c_X4_brought (l : Launch) (D : va_G) (a : Nat → Nat) (cI cZ : ClassId) (sp : Nat → Int32) (we : Nat → Int32) (tw : Nat → Int32) (ta : Nat → Int32) (pl : Nat → Int32) (br : Nat → Int32) (st : Nat → Int32) (md : Nat → Int32) (bc : Int32) (tu : Nat → Int32) (le : Nat → Int32) (cr : Nat → Int32) (to : Nat → Int32) (ia : Nat → Int32) (sl : Nat → Int32) (pr : Nat → Int32) (mk : Nat → Int32) (pc : Int64) (n : Nat) (h : Nat) : kRl l yX4_brought wsX4_brought ({ frames := 1, cells := 0, slots := 0, locals := 20 }) [.ref (a 0)] D cI cZ (wT a cI cZ (nI h) ++ (wW a cI cZ sp we tw ++ (wF a cI cZ ta pl br st md (nI n) bc ++ (wE a cI cZ tu le cr to ia ++ (wG a cI cZ sl pr mk pc))))) (fun r => r = pc) := by
  refine Met.ofW (cc := cX4_brought) (maxL := 1) (ret := (some .long)) (by decide) rfl ?_
  intro p e s m args below meth c s₁ B hml hv
  obtain ⟨rfl, hP, hK⟩ := hv
  have hx := B.exec
  have hb := B.bytes
  have hr := B.returns
  have hts := atoms_spec (ws := wsX4_brought) B.pre
  have hown : s.vm.findClass RX4 = some m.cls := findClass_of_methodNamed B.named
  have hlocks := B.notSynchronized
  have hl := lv_entry ([.ref (a 0)]) (n := 1) (Nat.le_of_ble_eq_true rfl)
  rw [lg_entry_eq]
  generalize (lg_sl ([.ref (a 0)]) ++ List.replicate (1 - (lg_sl ([.ref (a 0)])).length) Slot.unset).toArray = ls at hl ⊢
  have hl : lv_has ls 1 [(0, .ref (a 0))] := hl
  refine lv_aload_n hx hb dX4_brought_0 rfl (lv_at hl 0 rfl) ?_
  refine va_get (D := D) (ci := 4) (v := .ref (a 17)) (C := RX4) (T := TX4) (N := 5) hx hb hts (by decide +kernel) hown hK.1 hP 0 rfl rfl 3 (by decide) (hts (.fieldLink RX4 33 "Turbineorchard" "ledger" "LTurbineorchard$Ledger;") (by decide +kernel)) (fun _ h9 => h9) rfl dX4_brought_1 ?_
  refine k_rdl (As := []) (rest := []) (nL := 1) ⟨hx, hb, hml, hown, hts⟩ hK hP (c_X2_proceedsInAll l D a cI cZ sl pr mk pc ) [17, 18, 19, 20] rfl 17 rfl rfl rfl (cwV 0 hts gX4_brought_X2_proceedsInAll rfl rfl rfl (by decide +kernel) ⟨Nat.le_of_ble_eq_true rfl, Nat.le_of_ble_eq_true rfl⟩) rfl hl.1 rfl (Nat.le_of_ble_eq_true rfl) dX4_brought_4 ⟨Nat.zero_le _, Nat.zero_le _⟩ (fun r9 hr9 => ?_)
  subst hr9
  exact k_endRl hx hb hr hlocks (rfl) dX4_brought_7

set_option maxHeartbeats 4000000 in
set_option maxRecDepth 100000 in
theorem c_X4_turbine (l : Launch) (D : va_G) (a : Nat → Nat) (cI cZ : ClassId) (sz : Nat) (sp : Nat → Int32) (we : Nat → Int32) (tw : Nat → Int32) (ta : Nat → Int32) (pl : Nat → Int32) (br : Nat → Int32) (st : Nat → Int32) (md : Nat → Int32) (bc : Int32) (tu : Nat → Int32) (le : Nat → Int32) (cr : Nat → Int32) (to : Nat → Int32) (ia : Nat → Int32) (sl : Nat → Int32) (pr : Nat → Int32) (mk : Nat → Int32) (pc : Int64) (n : Nat) (h : Nat) (x : Int32) (hflag : l.stackTraces = false) (hn : n ≤ 12) (hh : h < 480) : kXi l yX4_turbine wsX4_turbine ({ frames := 6, cells := 1, slots := 6, locals := 82 }) [.ref (a 0), .int x] D cI cZ sz (wT a cI cZ (nI h) ++ (wW a cI cZ sp we tw ++ (wF a cI cZ ta pl br st md (nI n) bc ++ (wE a cI cZ tu le cr to ia ++ (wG a cI cZ sl pr mk pc))))) (wT a cI cZ (nI h) ++ (wW a cI cZ sp we tw ++ (wF a cI cZ (upd ta (cl x) (nI n)) (upd pl n (nI (cl x))) br st md (nI (n + 1)) bc ++ (wE a cI cZ tu le cr to ia ++ (wG a cI cZ sl pr mk pc))))) (cTurb n ta x) [kIOB, kISE] (fun r => r = nI n) := by
  refine vx_ofW (cc := cX4_turbine) (maxL := 2) (ret := (some .int)) (by decide) rfl ?_
  intro p e s m args below meth c s₁ B hml hxt hv
  obtain ⟨rfl, ⟨hsz, hP, hK, hD0⟩, hX⟩ := hv
  have hx := B.exec
  have hb := B.bytes
  have hr := B.returns
  have hts := atoms_spec (ws := wsX4_turbine) B.pre
  have hown : s.vm.findClass RX4 = some m.cls := findClass_of_methodNamed B.named
  have hlocks := B.notSynchronized
  subst hsz
  have hD := hD0.self (sz := s.heap.size)
  generalize hAe : va_A (wT a cI cZ (nI h) ++ (wW a cI cZ sp we tw ++ (wF a cI cZ ta pl br st md (nI n) bc ++ (wE a cI cZ tu le cr to ia ++ (wG a cI cZ sl pr mk pc))))) s.heap.size = A at hD hX ⊢
  have hA : ∀ q : Nat, s.heap.size ≤ q → A q := fun q h => by rw [← hAe]; exact Or.inr h
  have hS : va_S A s.heap s.heap [] := va_S.rf
  have hl := lv_entry ([.ref (a 0), .int x]) (n := 2) (Nat.le_of_ble_eq_true rfl)
  rw [lg_entry_eq]
  generalize (lg_sl ([.ref (a 0), .int x]) ++ List.replicate (2 - (lg_sl ([.ref (a 0), .int x])).length) Slot.unset).toArray = ls at hl ⊢
  have hl : lv_has ls 2 [(0, .ref (a 0)), (1, .int x)] := hl
  refine lv_iload_n hx hb dX4_turbine_0 rfl (lv_at hl 1 rfl) ?_
  refine lv_iconst (v := 0) hx hb dX4_turbine_1 (by decide) ?_
  refine lv_bipush (v := 23) hx hb dX4_turbine_2 (by decide) ?_
  refine k_ps (As := [.int x, .int 0, .int 23]) (rest := []) (nL := 2) ⟨hx, hb, hml, hown, hts⟩ (c_X4_isWithin l x 0 23) (va_cwS 3 hts gX4_turbine_X4_isWithin rfl rfl rfl (by decide +kernel) ⟨Nat.le_of_ble_eq_true rfl, Nat.le_of_ble_eq_true rfl⟩) rfl hl.1 rfl (Nat.le_of_ble_eq_true rfl) dX4_turbine_4 ⟨Nat.zero_le _, Nat.zero_le _⟩ (fun r9 hr9 => ?_)
  subst hr9
  refine lv_if_ne (tgt := 20) hx hb dX4_turbine_7 (by decide) (fun c_7 => ?_) (fun c_7 => ?_)
  · have c_7 := bI_n c_7
    have hq := cl_rng (n := 0) (m := 23) (by decide) (by decide) c_7
    rw [hq.1] at hl
    refine lv_aload_n hx hb dX4_turbine_20 rfl (lv_at hl 0 rfl) ?_
    refine va_get (D := D) (ci := 4) (v := .ref (a 5)) (C := RX4) (T := TX4) (N := 5) hx hb hts (by decide +kernel) hown hK.1 hP 0 rfl rfl 1 (by decide) (hts (.fieldLink RX4 19 "Turbineorchard" "field" "LTurbineorchard$Field;") (by decide +kernel)) (fun _ h9 => h9) rfl dX4_turbine_21 ?_
    refine lv_iload_n hx hb dX4_turbine_24 rfl (lv_at hl 1 rfl) ?_
    refine k_rd (As := [.int (nI (cl x))]) (rest := []) (nL := 2) ⟨hx, hb, hml, hown, hts⟩ hK hP (c_X0_hasRoomAt l D a cI cZ ta pl br st md bc n (cl x) (hn) (by omega)) [5, 6, 7, 8, 9, 10] rfl 5 rfl rfl rfl (cwV 1 hts gX4_turbine_X0_hasRoomAt rfl rfl rfl (by decide +kernel) ⟨Nat.le_of_ble_eq_true rfl, Nat.le_of_ble_eq_true rfl⟩) rfl hl.1 rfl (Nat.le_of_ble_eq_true rfl) dX4_turbine_25 ⟨Nat.zero_le _, Nat.zero_le _⟩ (fun r9 hr9 => ?_)
    subst hr9
    refine lv_if_ne (tgt := 41) hx hb dX4_turbine_28 (by decide) (fun c_28 => ?_) (fun c_28 => ?_)
    · have c_28 := bI_n c_28
      refine lv_aload_n hx hb dX4_turbine_41 rfl (lv_at hl 0 rfl) ?_
      refine va_get (D := D) (ci := 4) (v := .ref (a 5)) (C := RX4) (T := TX4) (N := 5) hx hb hts (by decide +kernel) hown hK.1 hP 0 rfl rfl 1 (by decide) (hts (.fieldLink RX4 19 "Turbineorchard" "field" "LTurbineorchard$Field;") (by decide +kernel)) (fun _ h9 => h9) rfl dX4_turbine_42 ?_
      refine lv_iload_n hx hb dX4_turbine_45 rfl (lv_at hl 1 rfl) ?_
      refine k_ui (WR := (wT a cI cZ (nI h) ++ (wW a cI cZ sp we tw ++ (wE a cI cZ tu le cr to ia ++ (wG a cI cZ sl pr mk pc))))) (WN := (wT a cI cZ (nI h) ++ (wW a cI cZ sp we tw ++ (wF a cI cZ (upd ta (cl x) (nI n)) (upd pl n (nI (cl x))) br st md (nI (n + 1)) bc ++ (wE a cI cZ tu le cr to ia ++ (wG a cI cZ sl pr mk pc)))))) (As := [.int (nI (cl x))]) (rest := []) (nL := 2) ⟨hx, hb, hml, hown, hts⟩ hK hP hD hS hA (c_X0_build l D a cI cZ _ ta pl br st md bc n (cl x) (hn) (by omega) (c_28.2)) [5, 6, 7, 8, 9, 10] [0, 1, 2, 3, 4, 11, 12, 13, 14, 15, 16, 17, 18, 19, 20] [0, 1, 2, 3, 4, 15, 16, 17, 18, 19, 20, 5, 6, 7, 8, 9, 10, 11, 12, 13, 14] rfl rfl (by decide) rfl (by decide) (by decide) rfl rfl (by decide) 5 rfl rfl rfl (cwV 1 hts gX4_turbine_X0_build rfl rfl rfl (by decide +kernel) ⟨Nat.le_of_ble_eq_true rfl, Nat.le_of_ble_eq_true rfl⟩) rfl hl.1 rfl (Nat.le_of_ble_eq_true rfl) dX4_turbine_46 ⟨Nat.zero_le _, Nat.zero_le _⟩ (fun r9 H locs hr9 hP hD hS => ?_)
      subst hr9
      exact k_endXi (ty := .int) hx hb hr hlocks (rfl) (⟨by unfold cTurb; rw [if_pos c_7, if_pos c_28], rfl⟩) hP hD hS dX4_turbine_49
    · have c_28 := bI_0 c_28
      exact k_throw (k := 1) (text := "the place is taken, or the field is full") hx hb hflag hown (by decide +kernel) (hts (.classLink RX4 56 kISE) (by decide +kernel)) (hts (.initialized kISE) (by decide +kernel)) (by decide +kernel) (fun w h => hts w (List.mem_cons_of_mem _ (List.mem_append_right _ h))) hX hP hD (hl.1.trans hml.symm) dX4_turbine_31 dX4_turbine_34 dX4_turbine_35 dX4_turbine_37 dX4_turbine_40 hxt (Nat.le_of_ble_eq_true rfl) (Nat.le_of_ble_eq_true rfl) (Nat.le_of_ble_eq_true rfl) (Nat.le_of_ble_eq_true rfl) hlocks (by unfold cTurb; rw [if_pos c_7, if_neg c_28]) rfl
  · have c_7 := bI_0 c_7
    exact k_throw (k := 0) (text := "no such place") hx hb hflag hown (by decide +kernel) (hts (.classLink RX4 45 kIOB) (by decide +kernel)) (hts (.initialized kIOB) (by decide +kernel)) (by decide +kernel) (fun w h => hts w (List.mem_cons_of_mem _ (List.mem_append_left _ (List.mem_append_right _ h)))) hX hP hD (hl.1.trans hml.symm) dX4_turbine_10 dX4_turbine_13 dX4_turbine_14 dX4_turbine_16 dX4_turbine_19 hxt (Nat.le_of_ble_eq_true rfl) (Nat.le_of_ble_eq_true rfl) (Nat.le_of_ble_eq_true rfl) (Nat.le_of_ble_eq_true rfl) hlocks (by unfold cTurb; rw [if_neg c_7]) rfl

set_option maxHeartbeats 4000000 in
set_option maxRecDepth 100000 in
theorem c_X4_wind (l : Launch) (D : va_G) (a : Nat → Nat) (cI cZ : ClassId) (sz : Nat) (sp : Nat → Int32) (we : Nat → Int32) (tw : Nat → Int32) (ta : Nat → Int32) (pl : Nat → Int32) (br : Nat → Int32) (st : Nat → Int32) (md : Nat → Int32) (bc : Int32) (tu : Nat → Int32) (le : Nat → Int32) (cr : Nat → Int32) (to : Nat → Int32) (ia : Nat → Int32) (sl : Nat → Int32) (pr : Nat → Int32) (mk : Nat → Int32) (pc : Int64) (n : Nat) (h : Nat) (f : Int32) (t : Int32) (v : Int32) (w : Int32) (hflag : l.stackTraces = false) (hn : n ≤ 12) (hh : h < 480) (hw : w = 0 ∨ w = 1) : kXi l yX4_wind wsX4_wind ({ frames := 6, cells := 1, slots := 6, locals := 82 }) [.ref (a 0), .int f, .int t, .int v, .int w] D cI cZ sz (wT a cI cZ (nI h) ++ (wW a cI cZ sp we tw ++ (wF a cI cZ ta pl br st md (nI n) bc ++ (wE a cI cZ tu le cr to ia ++ (wG a cI cZ sl pr mk pc))))) (wT a cI cZ (nI h) ++ (wW a cI cZ (setR sp (cl f) (cl t + 1) v) (setR we (cl f) (cl t + 1) w) tw ++ (wF a cI cZ ta pl br st md (nI n) bc ++ (wE a cI cZ tu le cr to ia ++ (wG a cI cZ sl pr mk pc))))) (cWind h f t v) [kIAE] (fun r => r = t - f + 1) := by
  refine vx_ofW (cc := cX4_wind) (maxL := 5) (ret := (some .int)) (by decide) rfl ?_
  intro p e s m args below meth c s₁ B hml hxt hv
  obtain ⟨rfl, ⟨hsz, hP, hK, hD0⟩, hX⟩ := hv
  have hx := B.exec
  have hb := B.bytes
  have hr := B.returns
  have hts := atoms_spec (ws := wsX4_wind) B.pre
  have hown : s.vm.findClass RX4 = some m.cls := findClass_of_methodNamed B.named
  have hlocks := B.notSynchronized
  subst hsz
  have hD := hD0.self (sz := s.heap.size)
  generalize hAe : va_A (wT a cI cZ (nI h) ++ (wW a cI cZ sp we tw ++ (wF a cI cZ ta pl br st md (nI n) bc ++ (wE a cI cZ tu le cr to ia ++ (wG a cI cZ sl pr mk pc))))) s.heap.size = A at hD hX ⊢
  have hA : ∀ q : Nat, s.heap.size ≤ q → A q := fun q h => by rw [← hAe]; exact Or.inr h
  have hS : va_S A s.heap s.heap [] := va_S.rf
  have hl := lv_entry ([.ref (a 0), .int f, .int t, .int v, .int w]) (n := 5) (Nat.le_of_ble_eq_true rfl)
  rw [lg_entry_eq]
  generalize (lg_sl ([.ref (a 0), .int f, .int t, .int v, .int w]) ++ List.replicate (5 - (lg_sl ([.ref (a 0), .int f, .int t, .int v, .int w])).length) Slot.unset).toArray = ls at hl ⊢
  have hl : lv_has ls 5 [(0, .ref (a 0)), (1, .int f), (2, .int t), (3, .int v), (4, .int w)] := hl
  refine lv_aload_n hx hb dX4_wind_0 rfl (lv_at hl 0 rfl) ?_
  refine lv_iload_n hx hb dX4_wind_1 rfl (lv_at hl 1 rfl) ?_
  refine k_rd (As := [.int f]) (rest := []) (nL := 5) ⟨hx, hb, hml, hown, hts⟩ hK hP (c_X4_isToCome l D a cI cZ h f) [0] rfl 0 rfl rfl rfl (cwV 1 hts gX4_wind_X4_isToCome rfl rfl rfl (by decide +kernel) ⟨Nat.le_of_ble_eq_true rfl, Nat.le_of_ble_eq_true rfl⟩) rfl hl.1 rfl (Nat.le_of_ble_eq_true rfl) dX4_wind_2 ⟨Nat.zero_le _, Nat.zero_le _⟩ (fun r9 hr9 => ?_)
  subst hr9
  refine lv_if_eq (tgt := 29) hx hb dX4_wind_5 (by decide) (fun c_5 => ?_) (fun c_5 => ?_)
  · have c_5 := bI_0 c_5
    exact k_throw (k := 0) (text := "from, to or speed is out of range") hx hb hflag hown (by decide +kernel) (hts (.classLink RX4 68 kIAE) (by decide +kernel)) (hts (.initialized kIAE) (by decide +kernel)) (by decide +kernel) (fun w h => hts w (List.mem_cons_of_mem _ (List.mem_append_right _ h))) hX hP hD (hl.1.trans hml.symm) dX4_wind_29 dX4_wind_32 dX4_wind_33 dX4_wind_35 dX4_wind_38 hxt (Nat.le_of_ble_eq_true rfl) (Nat.le_of_ble_eq_true rfl) (Nat.le_of_ble_eq_true rfl) (Nat.le_of_ble_eq_true rfl) hlocks (by unfold cWind; rw [if_neg (fun q => c_5 q.1)]) rfl
  · have c_5 := bI_n c_5
    refine lv_iload_n hx hb dX4_wind_8 rfl (lv_at hl 2 rfl) ?_
    refine lv_iload_n hx hb dX4_wind_9 rfl (lv_at hl 1 rfl) ?_
    refine lv_sipush (v := 479) hx hb dX4_wind_10 (by decide) ?_
    refine k_ps (As := [.int t, .int f, .int 479]) (rest := []) (nL := 5) ⟨hx, hb, hml, hown, hts⟩ (c_X4_isWithin l t f 479) (va_cwS 3 hts gX4_wind_X4_isWithin rfl rfl rfl (by decide +kernel) ⟨Nat.le_of_ble_eq_true rfl, Nat.le_of_ble_eq_true rfl⟩) rfl hl.1 rfl (Nat.le_of_ble_eq_true rfl) dX4_wind_13 ⟨Nat.zero_le _, Nat.zero_le _⟩ (fun r9 hr9 => ?_)
    subst hr9
    refine lv_if_eq (tgt := 29) hx hb dX4_wind_16 (by decide) (fun c_16 => ?_) (fun c_16 => ?_)
    · have c_16 := bI_0 c_16
      exact k_throw (k := 0) (text := "from, to or speed is out of range") hx hb hflag hown (by decide +kernel) (hts (.classLink RX4 68 kIAE) (by decide +kernel)) (hts (.initialized kIAE) (by decide +kernel)) (by decide +kernel) (fun w h => hts w (List.mem_cons_of_mem _ (List.mem_append_right _ h))) hX hP hD (hl.1.trans hml.symm) dX4_wind_29 dX4_wind_32 dX4_wind_33 dX4_wind_35 dX4_wind_38 hxt (Nat.le_of_ble_eq_true rfl) (Nat.le_of_ble_eq_true rfl) (Nat.le_of_ble_eq_true rfl) (Nat.le_of_ble_eq_true rfl) hlocks (by unfold cWind; rw [if_neg (fun q => c_16 q.2.1)]) rfl
    · have c_16 := bI_n c_16
      refine lv_iload_n hx hb dX4_wind_19 rfl (lv_at hl 3 rfl) ?_
      refine lv_iconst (v := 0) hx hb dX4_wind_20 (by decide) ?_
      refine lv_bipush (v := 40) hx hb dX4_wind_21 (by decide) ?_
      refine k_ps (As := [.int v, .int 0, .int 40]) (rest := []) (nL := 5) ⟨hx, hb, hml, hown, hts⟩ (c_X4_isWithin l v 0 40) (va_cwS 3 hts gX4_wind_X4_isWithin rfl rfl rfl (by decide +kernel) ⟨Nat.le_of_ble_eq_true rfl, Nat.le_of_ble_eq_true rfl⟩) rfl hl.1 rfl (Nat.le_of_ble_eq_true rfl) dX4_wind_23 ⟨Nat.zero_le _, Nat.zero_le _⟩ (fun r9 hr9 => ?_)
      subst hr9
      refine lv_if_ne (tgt := 39) hx hb dX4_wind_26 (by decide) (fun c_26 => ?_) (fun c_26 => ?_)
      · have c_26 := bI_n c_26
        have hq := cl_rng (n := h) (m := 479) (nI_toInt (by omega)) (by decide) c_5
        have hf9 : f.toInt = (cl f : Int) := by have := nI_toInt (n := cl f) (by omega); rw [← hq.1] at this; exact this
        have hr9 := cl_rng (n := cl f) (m := 479) hf9 (by decide) c_16
        rw [hq.1] at hl
        rw [hr9.1] at hl
        refine lv_aload_n hx hb dX4_wind_39 rfl (lv_at hl 0 rfl) ?_
        refine va_get (D := D) (ci := 4) (v := .ref (a 1)) (C := RX4) (T := TX4) (N := 5) hx hb hts (by decide +kernel) hown hK.1 hP 0 rfl rfl 0 (by decide) (hts (.fieldLink RX4 12 "Turbineorchard" "weather" "LTurbineorchard$Weather;") (by decide +kernel)) (fun _ h9 => h9) rfl dX4_wind_40 ?_
        refine lv_iload_n hx hb dX4_wind_43 rfl (lv_at hl 1 rfl) ?_
        refine lv_iload_n hx hb dX4_wind_44 rfl (lv_at hl 2 rfl) ?_
        refine lv_iload_n hx hb dX4_wind_45 rfl (lv_at hl 3 rfl) ?_
        refine lv_iload hx hb dX4_wind_46 (lv_at hl 4 rfl) ?_
        refine k_uv (WR := (wT a cI cZ (nI h) ++ (wF a cI cZ ta pl br st md (nI n) bc ++ (wE a cI cZ tu le cr to ia ++ (wG a cI cZ sl pr mk pc))))) (WN := (wT a cI cZ (nI h) ++ (wW a cI cZ (setR sp (cl f) ((cl t) + 1) v) (setR we (cl f) ((cl t) + 1) w) tw ++ (wF a cI cZ ta pl br st md (nI n) bc ++ (wE a cI cZ tu le cr to ia ++ (wG a cI cZ sl pr mk pc)))))) (As := [.int (nI (cl f)), .int (nI (cl t)), .int v, .int w]) (rest := []) (nL := 5) ⟨hx, hb, hml, hown, hts⟩ hK hP hD hS hA (c_X3_tellWind l D a cI cZ _ sp we tw (cl f) (cl t) v w (by omega) (by omega) (hw)) [1, 2, 3, 4] [0, 5, 6, 7, 8, 9, 10, 11, 12, 13, 14, 15, 16, 17, 18, 19, 20] [0, 17, 18, 19, 20, 1, 2, 3, 4, 5, 6, 7, 8, 9, 10, 11, 12, 13, 14, 15, 16] rfl rfl (by decide) rfl (by decide) (by decide) rfl rfl (by decide) 1 rfl rfl rfl (cwV 4 hts gX4_wind_X3_tellWind rfl rfl rfl (by decide +kernel) ⟨Nat.le_of_ble_eq_true rfl, Nat.le_of_ble_eq_true rfl⟩) rfl hl.1 rfl (Nat.le_of_ble_eq_true rfl) dX4_wind_48 ⟨Nat.zero_le _, Nat.zero_le _⟩ (fun H locs hP hD hS => ?_)
        refine lv_iload_n hx hb dX4_wind_51 rfl (lv_at hl 2 rfl) ?_
        refine lv_iload_n hx hb dX4_wind_52 rfl (lv_at hl 1 rfl) ?_
        refine lv_isub hx hb dX4_wind_53 ?_
        refine lv_iconst (v := 1) hx hb dX4_wind_54 (by decide) ?_
        refine lv_iadd hx hb dX4_wind_55 ?_
        exact k_endXi (ty := .int) hx hb hr hlocks (rfl) (⟨by unfold cWind; rw [if_pos ⟨c_5, c_16, c_26⟩], by rw [← hq.1, ← hr9.1]⟩) hP hD hS dX4_wind_56
      · have c_26 := bI_0 c_26
        exact k_throw (k := 0) (text := "from, to or speed is out of range") hx hb hflag hown (by decide +kernel) (hts (.classLink RX4 68 kIAE) (by decide +kernel)) (hts (.initialized kIAE) (by decide +kernel)) (by decide +kernel) (fun w h => hts w (List.mem_cons_of_mem _ (List.mem_append_right _ h))) hX hP hD (hl.1.trans hml.symm) dX4_wind_29 dX4_wind_32 dX4_wind_33 dX4_wind_35 dX4_wind_38 hxt (Nat.le_of_ble_eq_true rfl) (Nat.le_of_ble_eq_true rfl) (Nat.le_of_ble_eq_true rfl) (Nat.le_of_ble_eq_true rfl) hlocks (by unfold cWind; rw [if_neg (fun q => c_26 q.2.2)]) rfl

set_option maxHeartbeats 4000000 in
set_option maxRecDepth 100000 in
theorem c_X4_waves (l : Launch) (D : va_G) (a : Nat → Nat) (cI cZ : ClassId) (sz : Nat) (sp : Nat → Int32) (we : Nat → Int32) (tw : Nat → Int32) (ta : Nat → Int32) (pl : Nat → Int32) (br : Nat → Int32) (st : Nat → Int32) (md : Nat → Int32) (bc : Int32) (tu : Nat → Int32) (le : Nat → Int32) (cr : Nat → Int32) (to : Nat → Int32) (ia : Nat → Int32) (sl : Nat → Int32) (pr : Nat → Int32) (mk : Nat → Int32) (pc : Int64) (n : Nat) (h : Nat) (k : Int32) (w : Int32) (hflag : l.stackTraces = false) (hn : n ≤ 12) (hh : h < 480) : kXi l yX4_waves wsX4_waves ({ frames := 6, cells := 1, slots := 6, locals := 82 }) [.ref (a 0), .int k, .int w] D cI cZ sz (wT a cI cZ (nI h) ++ (wW a cI cZ sp we tw ++ (wF a cI cZ ta pl br st md (nI n) bc ++ (wE a cI cZ tu le cr to ia ++ (wG a cI cZ sl pr mk pc))))) (wT a cI cZ (nI h) ++ (wW a cI cZ sp we (upd tw (cl k) w) ++ (wF a cI cZ ta pl br st md (nI n) bc ++ (wE a cI cZ tu le cr to ia ++ (wG a cI cZ sl pr mk pc))))) (cWaves h k w) [kIAE] (fun r => r = fWaves sp tw (cl k)) := by
  refine vx_ofW (cc := cX4_waves) (maxL := 4) (ret := (some .int)) (by decide) rfl ?_
  intro p e s m args below meth c s₁ B hml hxt hv
  obtain ⟨rfl, ⟨hsz, hP, hK, hD0⟩, hX⟩ := hv
  have hx := B.exec
  have hb := B.bytes
  have hr := B.returns
  have hts := atoms_spec (ws := wsX4_waves) B.pre
  have hown : s.vm.findClass RX4 = some m.cls := findClass_of_methodNamed B.named
  have hlocks := B.notSynchronized
  subst hsz
  have hD := hD0.self (sz := s.heap.size)
  generalize hAe : va_A (wT a cI cZ (nI h) ++ (wW a cI cZ sp we tw ++ (wF a cI cZ ta pl br st md (nI n) bc ++ (wE a cI cZ tu le cr to ia ++ (wG a cI cZ sl pr mk pc))))) s.heap.size = A at hD hX ⊢
  have hA : ∀ q : Nat, s.heap.size ≤ q → A q := fun q h => by rw [← hAe]; exact Or.inr h
  have hS : va_S A s.heap s.heap [] := va_S.rf
  have hl := lv_entry ([.ref (a 0), .int k, .int w]) (n := 4) (Nat.le_of_ble_eq_true rfl)
  rw [lg_entry_eq]
  generalize (lg_sl ([.ref (a 0), .int k, .int w]) ++ List.replicate (4 - (lg_sl ([.ref (a 0), .int k, .int w])).length) Slot.unset).toArray = ls at hl ⊢
  have hl : lv_has ls 4 [(0, .ref (a 0)), (1, .int k), (2, .int w)] := hl
  refine lv_aload_n hx hb dX4_waves_0 rfl (lv_at hl 0 rfl) ?_
  refine lv_iload_n hx hb dX4_waves_1 rfl (lv_at hl 1 rfl) ?_
  refine k_rd (As := [.int k]) (rest := []) (nL := 4) ⟨hx, hb, hml, hown, hts⟩ hK hP (c_X4_isToCome l D a cI cZ h k) [0] rfl 0 rfl rfl rfl (cwV 1 hts gX4_waves_X4_isToCome rfl rfl rfl (by decide +kernel) ⟨Nat.le_of_ble_eq_true rfl, Nat.le_of_ble_eq_true rfl⟩) rfl hl.1 rfl (Nat.le_of_ble_eq_true rfl) dX4_waves_2 ⟨Nat.zero_le _, Nat.zero_le _⟩ (fun r9 hr9 => ?_)
  subst hr9
  refine lv_if_eq (tgt := 18) hx hb dX4_waves_5 (by decide) (fun c_5 => ?_) (fun c_5 => ?_)
  · have c_5 := bI_0 c_5
    exact k_throw (k := 0) (text := "hour or waves is out of range") hx hb hflag hown (by decide +kernel) (hts (.classLink RX4 68 kIAE) (by decide +kernel)) (hts (.initialized kIAE) (by decide +kernel)) (by decide +kernel) (fun w h => hts w (List.mem_cons_of_mem _ (List.mem_append_right _ h))) hX hP hD (hl.1.trans hml.symm) dX4_waves_18 dX4_waves_21 dX4_waves_22 dX4_waves_24 dX4_waves_27 hxt (Nat.le_of_ble_eq_true rfl) (Nat.le_of_ble_eq_true rfl) (Nat.le_of_ble_eq_true rfl) (Nat.le_of_ble_eq_true rfl) hlocks (by unfold cWaves; rw [if_neg (fun q => c_5 q.1)]) rfl
  · have c_5 := bI_n c_5
    refine lv_iload_n hx hb dX4_waves_8 rfl (lv_at hl 2 rfl) ?_
    refine lv_iconst (v := 0) hx hb dX4_waves_9 (by decide) ?_
    refine lv_bipush (v := 20) hx hb dX4_waves_10 (by decide) ?_
    refine k_ps (As := [.int w, .int 0, .int 20]) (rest := []) (nL := 4) ⟨hx, hb, hml, hown, hts⟩ (c_X4_isWithin l w 0 20) (va_cwS 3 hts gX4_waves_X4_isWithin rfl rfl rfl (by decide +kernel) ⟨Nat.le_of_ble_eq_true rfl, Nat.le_of_ble_eq_true rfl⟩) rfl hl.1 rfl (Nat.le_of_ble_eq_true rfl) dX4_waves_12 ⟨Nat.zero_le _, Nat.zero_le _⟩ (fun r9 hr9 => ?_)
    subst hr9
    refine lv_if_ne (tgt := 28) hx hb dX4_waves_15 (by decide) (fun c_15 => ?_) (fun c_15 => ?_)
    · have c_15 := bI_n c_15
      have hq := cl_rng (n := h) (m := 479) (nI_toInt (by omega)) (by decide) c_5
      rw [hq.1] at hl
      refine lv_aload_n hx hb dX4_waves_28 rfl (lv_at hl 0 rfl) ?_
      refine va_get (D := D) (ci := 4) (v := .ref (a 1)) (C := RX4) (T := TX4) (N := 5) hx hb hts (by decide +kernel) hown hK.1 hP 0 rfl rfl 0 (by decide) (hts (.fieldLink RX4 12 "Turbineorchard" "weather" "LTurbineorchard$Weather;") (by decide +kernel)) (fun _ h9 => h9) rfl dX4_waves_29 ?_
      refine lv_iload_n hx hb dX4_waves_32 rfl (lv_at hl 1 rfl) ?_
      refine k_rd (As := [.int (nI (cl k))]) (rest := []) (nL := 4) ⟨hx, hb, hml, hown, hts⟩ hK hP (c_X3_wavesIn l D a cI cZ sp we tw (cl k) (by omega)) [1, 2, 3, 4] rfl 1 rfl rfl rfl (cwV 1 hts gX4_waves_X3_wavesIn rfl rfl rfl (by decide +kernel) ⟨Nat.le_of_ble_eq_true rfl, Nat.le_of_ble_eq_true rfl⟩) rfl hl.1 rfl (Nat.le_of_ble_eq_true rfl) dX4_waves_33 ⟨Nat.zero_le _, Nat.zero_le _⟩ (fun r9 hr9 => ?_)
      subst hr9
      refine lv_istore_n (lv' := [(3, .int (fWaves sp tw (cl k))), (0, .ref (a 0)), (1, .int (nI (cl k))), (2, .int w)]) hx hb dX4_waves_36 rfl hl (by decide) rfl (fun ls hl => ?_)
      refine lv_aload_n hx hb dX4_waves_37 rfl (lv_at hl 1 rfl) ?_
      refine va_get (D := D) (ci := 4) (v := .ref (a 1)) (C := RX4) (T := TX4) (N := 5) hx hb hts (by decide +kernel) hown hK.1 hP 0 rfl rfl 0 (by decide) (hts (.fieldLink RX4 12 "Turbineorchard" "weather" "LTurbineorchard$Weather;") (by decide +kernel)) (fun _ h9 => h9) rfl dX4_waves_38 ?_
      refine lv_iload_n hx hb dX4_waves_41 rfl (lv_at hl 2 rfl) ?_
      refine lv_iload_n hx hb dX4_waves_42 rfl (lv_at hl 3 rfl) ?_
      refine k_uv (WR := (wT a cI cZ (nI h) ++ (wF a cI cZ ta pl br st md (nI n) bc ++ (wE a cI cZ tu le cr to ia ++ (wG a cI cZ sl pr mk pc))))) (WN := (wT a cI cZ (nI h) ++ (wW a cI cZ sp we (upd tw (cl k) w) ++ (wF a cI cZ ta pl br st md (nI n) bc ++ (wE a cI cZ tu le cr to ia ++ (wG a cI cZ sl pr mk pc)))))) (As := [.int (nI (cl k)), .int w]) (rest := []) (nL := 4) ⟨hx, hb, hml, hown, hts⟩ hK hP hD hS hA (c_X3_tellWaves l D a cI cZ _ sp we tw (cl k) w (by omega)) [1, 2, 3, 4] [0, 5, 6, 7, 8, 9, 10, 11, 12, 13, 14, 15, 16, 17, 18, 19, 20] [0, 17, 18, 19, 20, 1, 2, 3, 4, 5, 6, 7, 8, 9, 10, 11, 12, 13, 14, 15, 16] rfl rfl (by decide) rfl (by decide) (by decide) rfl rfl (by decide) 1 rfl rfl rfl (cwV 2 hts gX4_waves_X3_tellWaves rfl rfl rfl (by decide +kernel) ⟨Nat.le_of_ble_eq_true rfl, Nat.le_of_ble_eq_true rfl⟩) rfl hl.1 rfl (Nat.le_of_ble_eq_true rfl) dX4_waves_43 ⟨Nat.zero_le _, Nat.zero_le _⟩ (fun H locs hP hD hS => ?_)
      refine lv_iload_n hx hb dX4_waves_46 rfl (lv_at hl 0 rfl) ?_
      exact k_endXi (ty := .int) hx hb hr hlocks (rfl) (⟨by unfold cWaves; rw [if_pos ⟨c_5, c_15⟩], rfl⟩) hP hD hS dX4_waves_47
    · have c_15 := bI_0 c_15
      exact k_throw (k := 0) (text := "hour or waves is out of range") hx hb hflag hown (by decide +kernel) (hts (.classLink RX4 68 kIAE) (by decide +kernel)) (hts (.initialized kIAE) (by decide +kernel)) (by decide +kernel) (fun w h => hts w (List.mem_cons_of_mem _ (List.mem_append_right _ h))) hX hP hD (hl.1.trans hml.symm) dX4_waves_18 dX4_waves_21 dX4_waves_22 dX4_waves_24 dX4_waves_27 hxt (Nat.le_of_ble_eq_true rfl) (Nat.le_of_ble_eq_true rfl) (Nat.le_of_ble_eq_true rfl) (Nat.le_of_ble_eq_true rfl) hlocks (by unfold cWaves; rw [if_neg (fun q => c_15 q.2)]) rfl

set_option maxHeartbeats 4000000 in
set_option maxRecDepth 100000 in
theorem c_X4_breaks (l : Launch) (D : va_G) (a : Nat → Nat) (cI cZ : ClassId) (sz : Nat) (sp : Nat → Int32) (we : Nat → Int32) (tw : Nat → Int32) (ta : Nat → Int32) (pl : Nat → Int32) (br : Nat → Int32) (st : Nat → Int32) (md : Nat → Int32) (bc : Int32) (tu : Nat → Int32) (le : Nat → Int32) (cr : Nat → Int32) (to : Nat → Int32) (ia : Nat → Int32) (sl : Nat → Int32) (pr : Nat → Int32) (mk : Nat → Int32) (pc : Int64) (n : Nat) (h : Nat) (t : Int32) (hflag : l.stackTraces = false) (hn : n ≤ 12) (hh : h < 480) (hbr : ∀ k, br k = 0 ∨ br k = 1) : kXi l yX4_breaks wsX4_breaks ({ frames := 6, cells := 1, slots := 6, locals := 82 }) [.ref (a 0), .int t] D cI cZ sz (wT a cI cZ (nI h) ++ (wW a cI cZ sp we tw ++ (wF a cI cZ ta pl br st md (nI n) bc ++ (wE a cI cZ tu le cr to ia ++ (wG a cI cZ sl pr mk pc))))) (wT a cI cZ (nI h) ++ (wW a cI cZ sp we tw ++ (wF a cI cZ ta pl (upd br (cl t) 1) st md (nI n) (bc + 1) ++ (wE a cI cZ tu le cr to ia ++ (wG a cI cZ sl pr mk pc))))) (cBreaks n br t) [kIOB, kISE] (fun r => r = bc + 1) := by
  refine vx_ofW (cc := cX4_breaks) (maxL := 2) (ret := (some .int)) (by decide) rfl ?_
  intro p e s m args below meth c s₁ B hml hxt hv
  obtain ⟨rfl, ⟨hsz, hP, hK, hD0⟩, hX⟩ := hv
  have hx := B.exec
  have hb := B.bytes
  have hr := B.returns
  have hts := atoms_spec (ws := wsX4_breaks) B.pre
  have hown : s.vm.findClass RX4 = some m.cls := findClass_of_methodNamed B.named
  have hlocks := B.notSynchronized
  subst hsz
  have hD := hD0.self (sz := s.heap.size)
  generalize hAe : va_A (wT a cI cZ (nI h) ++ (wW a cI cZ sp we tw ++ (wF a cI cZ ta pl br st md (nI n) bc ++ (wE a cI cZ tu le cr to ia ++ (wG a cI cZ sl pr mk pc))))) s.heap.size = A at hD hX ⊢
  have hA : ∀ q : Nat, s.heap.size ≤ q → A q := fun q h => by rw [← hAe]; exact Or.inr h
  have hS : va_S A s.heap s.heap [] := va_S.rf
  have hl := lv_entry ([.ref (a 0), .int t]) (n := 2) (Nat.le_of_ble_eq_true rfl)
  rw [lg_entry_eq]
  generalize (lg_sl ([.ref (a 0), .int t]) ++ List.replicate (2 - (lg_sl ([.ref (a 0), .int t])).length) Slot.unset).toArray = ls at hl ⊢
  have hl : lv_has ls 2 [(0, .ref (a 0)), (1, .int t)] := hl
  refine lv_aload_n hx hb dX4_breaks_0 rfl (lv_at hl 0 rfl) ?_
  refine va_get (D := D) (ci := 4) (v := .ref (a 5)) (C := RX4) (T := TX4) (N := 5) hx hb hts (by decide +kernel) hown hK.1 hP 0 rfl rfl 1 (by decide) (hts (.fieldLink RX4 19 "Turbineorchard" "field" "LTurbineorchard$Field;") (by decide +kernel)) (fun _ h9 => h9) rfl dX4_breaks_1 ?_
  refine lv_iload_n hx hb dX4_breaks_4 rfl (lv_at hl 1 rfl) ?_
  refine k_rd (As := [.int t]) (rest := []) (nL := 2) ⟨hx, hb, hml, hown, hts⟩ hK hP (c_X0_has l D a cI cZ ta pl br st md bc n t (hn)) [5, 6, 7, 8, 9, 10] rfl 5 rfl rfl rfl (cwV 1 hts gX4_breaks_X0_has rfl rfl rfl (by decide +kernel) ⟨Nat.le_of_ble_eq_true rfl, Nat.le_of_ble_eq_true rfl⟩) rfl hl.1 rfl (Nat.le_of_ble_eq_true rfl) dX4_breaks_5 ⟨Nat.zero_le _, Nat.zero_le _⟩ (fun r9 hr9 => ?_)
  subst hr9
  refine lv_if_ne (tgt := 21) hx hb dX4_breaks_8 (by decide) (fun c_8 => ?_) (fun c_8 => ?_)
  · have c_8 := bI_n c_8
    have hq := has_cl hn c_8
    rw [hq.1] at hl
    refine lv_aload_n hx hb dX4_breaks_21 rfl (lv_at hl 0 rfl) ?_
    refine va_get (D := D) (ci := 4) (v := .ref (a 5)) (C := RX4) (T := TX4) (N := 5) hx hb hts (by decide +kernel) hown hK.1 hP 0 rfl rfl 1 (by decide) (hts (.fieldLink RX4 19 "Turbineorchard" "field" "LTurbineorchard$Field;") (by decide +kernel)) (fun _ h9 => h9) rfl dX4_breaks_22 ?_
    refine lv_iload_n hx hb dX4_breaks_25 rfl (lv_at hl 1 rfl) ?_
    refine k_rd (As := [.int (nI (cl t))]) (rest := []) (nL := 2) ⟨hx, hb, hml, hown, hts⟩ hK hP (c_X0_isBroken l D a cI cZ ta pl br st md bc n (cl t) (hn) (by omega) (hbr _)) [5, 6, 7, 8, 9, 10] rfl 5 rfl rfl rfl (cwV 1 hts gX4_breaks_X0_isBroken rfl rfl rfl (by decide +kernel) ⟨Nat.le_of_ble_eq_true rfl, Nat.le_of_ble_eq_true rfl⟩) rfl hl.1 rfl (Nat.le_of_ble_eq_true rfl) dX4_breaks_26 ⟨Nat.zero_le _, Nat.zero_le _⟩ (fun r9 hr9 => ?_)
    subst hr9
    refine lv_if_eq (tgt := 42) hx hb dX4_breaks_29 (by decide) (fun c_29 => ?_) (fun c_29 => ?_)
    · refine lv_aload_n hx hb dX4_breaks_42 rfl (lv_at hl 0 rfl) ?_
      refine va_get (D := D) (ci := 4) (v := .ref (a 5)) (C := RX4) (T := TX4) (N := 5) hx hb hts (by decide +kernel) hown hK.1 hP 0 rfl rfl 1 (by decide) (hts (.fieldLink RX4 19 "Turbineorchard" "field" "LTurbineorchard$Field;") (by decide +kernel)) (fun _ h9 => h9) rfl dX4_breaks_43 ?_
      refine lv_iload_n hx hb dX4_breaks_46 rfl (lv_at hl 1 rfl) ?_
      refine k_uv (WR := (wT a cI cZ (nI h) ++ (wW a cI cZ sp we tw ++ (wE a cI cZ tu le cr to ia ++ (wG a cI cZ sl pr mk pc))))) (WN := (wT a cI cZ (nI h) ++ (wW a cI cZ sp we tw ++ (wF a cI cZ ta pl (upd br (cl t) 1) st md (nI n) (bc + 1) ++ (wE a cI cZ tu le cr to ia ++ (wG a cI cZ sl pr mk pc)))))) (As := [.int (nI (cl t))]) (rest := []) (nL := 2) ⟨hx, hb, hml, hown, hts⟩ hK hP hD hS hA (c_X0_breakDown l D a cI cZ _ ta pl br st md bc n (cl t) (hn) (by omega)) [5, 6, 7, 8, 9, 10] [0, 1, 2, 3, 4, 11, 12, 13, 14, 15, 16, 17, 18, 19, 20] [0, 1, 2, 3, 4, 15, 16, 17, 18, 19, 20, 5, 6, 7, 8, 9, 10, 11, 12, 13, 14] rfl rfl (by decide) rfl (by decide) (by decide) rfl rfl (by decide) 5 rfl rfl rfl (cwV 1 hts gX4_breaks_X0_breakDown rfl rfl rfl (by decide +kernel) ⟨Nat.le_of_ble_eq_true rfl, Nat.le_of_ble_eq_true rfl⟩) rfl hl.1 rfl (Nat.le_of_ble_eq_true rfl) dX4_breaks_47 ⟨Nat.zero_le _, Nat.zero_le _⟩ (fun H locs hP hD hS => ?_)
      refine lv_aload_n hx hb dX4_breaks_50 rfl (lv_at hl 0 rfl) ?_
      refine va_get (D := D) (ci := 4) (v := .ref (a 5)) (C := RX4) (T := TX4) (N := 5) hx hb hts (by decide +kernel) hown hK.1 hP 0 rfl rfl 1 (by decide) (hts (.fieldLink RX4 19 "Turbineorchard" "field" "LTurbineorchard$Field;") (by decide +kernel)) (fun _ h9 => h9) rfl dX4_breaks_51 ?_
      refine k_rd (As := []) (rest := []) (nL := 2) ⟨hx, hb, hml, hown, hts⟩ hK hP (c_X0_countBroken l D a cI cZ ta pl (upd br (cl t) 1) st md (bc + 1) n (hn)) [5, 6, 7, 8, 9, 10] rfl 5 rfl rfl rfl (cwV 0 hts gX4_breaks_X0_countBroken rfl rfl rfl (by decide +kernel) ⟨Nat.le_of_ble_eq_true rfl, Nat.le_of_ble_eq_true rfl⟩) rfl hl.1 rfl (Nat.le_of_ble_eq_true rfl) dX4_breaks_54 ⟨Nat.zero_le _, Nat.zero_le _⟩ (fun r9 hr9 => ?_)
      subst hr9
      exact k_endXi (ty := .int) hx hb hr hlocks (rfl) (⟨by unfold cBreaks; rw [if_pos c_8, if_pos c_29], rfl⟩) hP hD hS dX4_breaks_57
    · exact k_throw (k := 1) (text := "the turbine is broken") hx hb hflag hown (by decide +kernel) (hts (.classLink RX4 56 kISE) (by decide +kernel)) (hts (.initialized kISE) (by decide +kernel)) (by decide +kernel) (fun w h => hts w (List.mem_cons_of_mem _ (List.mem_append_right _ h))) hX hP hD (hl.1.trans hml.symm) dX4_breaks_32 dX4_breaks_35 dX4_breaks_36 dX4_breaks_38 dX4_breaks_41 hxt (Nat.le_of_ble_eq_true rfl) (Nat.le_of_ble_eq_true rfl) (Nat.le_of_ble_eq_true rfl) (Nat.le_of_ble_eq_true rfl) hlocks (by unfold cBreaks; rw [if_pos c_8, if_neg c_29]) rfl
  · have c_8 := bI_0 c_8
    exact k_throw (k := 0) (text := "no such turbine") hx hb hflag hown (by decide +kernel) (hts (.classLink RX4 45 kIOB) (by decide +kernel)) (hts (.initialized kIOB) (by decide +kernel)) (by decide +kernel) (fun w h => hts w (List.mem_cons_of_mem _ (List.mem_append_left _ (List.mem_append_right _ h)))) hX hP hD (hl.1.trans hml.symm) dX4_breaks_11 dX4_breaks_14 dX4_breaks_15 dX4_breaks_17 dX4_breaks_20 hxt (Nat.le_of_ble_eq_true rfl) (Nat.le_of_ble_eq_true rfl) (Nat.le_of_ble_eq_true rfl) (Nat.le_of_ble_eq_true rfl) hlocks (by unfold cBreaks; rw [if_neg c_8]) rfl

set_option maxHeartbeats 4000000 in
set_option maxRecDepth 100000 in
theorem c_X4_crew (l : Launch) (D : va_G) (a : Nat → Nat) (cI cZ : ClassId) (sz : Nat) (sp : Nat → Int32) (we : Nat → Int32) (tw : Nat → Int32) (ta : Nat → Int32) (pl : Nat → Int32) (br : Nat → Int32) (st : Nat → Int32) (md : Nat → Int32) (bc : Int32) (tu : Nat → Int32) (le : Nat → Int32) (cr : Nat → Int32) (to : Nat → Int32) (ia : Nat → Int32) (sl : Nat → Int32) (pr : Nat → Int32) (mk : Nat → Int32) (pc : Int64) (n : Nat) (h : Nat) (b : Int32) (x : Int32) (hflag : l.stackTraces = false) (hn : n ≤ 12) (hh : h < 480) : kXi l yX4_crew wsX4_crew ({ frames := 6, cells := 1, slots := 6, locals := 82 }) [.ref (a 0), .int b, .int x] D cI cZ sz (wT a cI cZ (nI h) ++ (wW a cI cZ sp we tw ++ (wF a cI cZ ta pl br st md (nI n) bc ++ (wE a cI cZ tu le cr to ia ++ (wG a cI cZ sl pr mk pc))))) (wT a cI cZ (nI h) ++ (wW a cI cZ sp we tw ++ (wF a cI cZ ta pl br st md (nI n) bc ++ (wE a cI cZ tu le (upd cr (cl b) x) to ia ++ (wG a cI cZ sl pr mk pc))))) (cCrew b x) [kIOB, kIAE] (fun r => r = cr (cl b)) := by
  refine vx_ofW (cc := cX4_crew) (maxL := 4) (ret := (some .int)) (by decide) rfl ?_
  intro p e s m args below meth c s₁ B hml hxt hv
  obtain ⟨rfl, ⟨hsz, hP, hK, hD0⟩, hX⟩ := hv
  have hx := B.exec
  have hb := B.bytes
  have hr := B.returns
  have hts := atoms_spec (ws := wsX4_crew) B.pre
  have hown : s.vm.findClass RX4 = some m.cls := findClass_of_methodNamed B.named
  have hlocks := B.notSynchronized
  subst hsz
  have hD := hD0.self (sz := s.heap.size)
  generalize hAe : va_A (wT a cI cZ (nI h) ++ (wW a cI cZ sp we tw ++ (wF a cI cZ ta pl br st md (nI n) bc ++ (wE a cI cZ tu le cr to ia ++ (wG a cI cZ sl pr mk pc))))) s.heap.size = A at hD hX ⊢
  have hA : ∀ q : Nat, s.heap.size ≤ q → A q := fun q h => by rw [← hAe]; exact Or.inr h
  have hS : va_S A s.heap s.heap [] := va_S.rf
  have hl := lv_entry ([.ref (a 0), .int b, .int x]) (n := 4) (Nat.le_of_ble_eq_true rfl)
  rw [lg_entry_eq]
  generalize (lg_sl ([.ref (a 0), .int b, .int x]) ++ List.replicate (4 - (lg_sl ([.ref (a 0), .int b, .int x])).length) Slot.unset).toArray = ls at hl ⊢
  have hl : lv_has ls 4 [(0, .ref (a 0)), (1, .int b), (2, .int x)] := hl
  refine lv_iload_n hx hb dX4_crew_0 rfl (lv_at hl 1 rfl) ?_
  refine k_ps (As := [.int b]) (rest := []) (nL := 4) ⟨hx, hb, hml, hown, hts⟩ (c_X4_isBoat l b) (va_cwS 1 hts gX4_crew_X4_isBoat rfl rfl rfl (by decide +kernel) ⟨Nat.le_of_ble_eq_true rfl, Nat.le_of_ble_eq_true rfl⟩) rfl hl.1 rfl (Nat.le_of_ble_eq_true rfl) dX4_crew_1 ⟨Nat.zero_le _, Nat.zero_le _⟩ (fun r9 hr9 => ?_)
  subst hr9
  refine lv_if_ne (tgt := 17) hx hb dX4_crew_4 (by decide) (fun c_4 => ?_) (fun c_4 => ?_)
  · have c_4 := bI_n c_4
    refine lv_iload_n hx hb dX4_crew_17 rfl (lv_at hl 2 rfl) ?_
    refine lv_iconst (v := 0) hx hb dX4_crew_18 (by decide) ?_
    refine lv_bipush (v := 24) hx hb dX4_crew_19 (by decide) ?_
    refine k_ps (As := [.int x, .int 0, .int 24]) (rest := []) (nL := 4) ⟨hx, hb, hml, hown, hts⟩ (c_X4_isWithin l x 0 24) (va_cwS 3 hts gX4_crew_X4_isWithin rfl rfl rfl (by decide +kernel) ⟨Nat.le_of_ble_eq_true rfl, Nat.le_of_ble_eq_true rfl⟩) rfl hl.1 rfl (Nat.le_of_ble_eq_true rfl) dX4_crew_21 ⟨Nat.zero_le _, Nat.zero_le _⟩ (fun r9 hr9 => ?_)
    subst hr9
    refine lv_if_ne (tgt := 37) hx hb dX4_crew_24 (by decide) (fun c_24 => ?_) (fun c_24 => ?_)
    · have c_24 := bI_n c_24
      have hq := cl_rng (n := 0) (m := 2) (by decide) (by decide) c_4
      rw [hq.1] at hl
      refine lv_aload_n hx hb dX4_crew_37 rfl (lv_at hl 0 rfl) ?_
      refine va_get (D := D) (ci := 4) (v := .ref (a 11)) (C := RX4) (T := TX4) (N := 5) hx hb hts (by decide +kernel) hown hK.1 hP 0 rfl rfl 2 (by decide) (hts (.fieldLink RX4 26 "Turbineorchard" "fleet" "LTurbineorchard$Fleet;") (by decide +kernel)) (fun _ h9 => h9) rfl dX4_crew_38 ?_
      refine lv_iload_n hx hb dX4_crew_41 rfl (lv_at hl 1 rfl) ?_
      refine k_rd (As := [.int (nI (cl b))]) (rest := []) (nL := 4) ⟨hx, hb, hml, hown, hts⟩ hK hP (c_X1_crewHours l D a cI cZ tu le cr to ia (cl b) (by omega)) [11, 12, 13, 14, 15, 16] rfl 11 rfl rfl rfl (cwV 1 hts gX4_crew_X1_crewHours rfl rfl rfl (by decide +kernel) ⟨Nat.le_of_ble_eq_true rfl, Nat.le_of_ble_eq_true rfl⟩) rfl hl.1 rfl (Nat.le_of_ble_eq_true rfl) dX4_crew_42 ⟨Nat.zero_le _, Nat.zero_le _⟩ (fun r9 hr9 => ?_)
      subst hr9
      refine lv_istore_n (lv' := [(3, .int (cr (cl b))), (0, .ref (a 0)), (1, .int (nI (cl b))), (2, .int x)]) hx hb dX4_crew_45 rfl hl (by decide) rfl (fun ls hl => ?_)
      refine lv_aload_n hx hb dX4_crew_46 rfl (lv_at hl 1 rfl) ?_
      refine va_get (D := D) (ci := 4) (v := .ref (a 11)) (C := RX4) (T := TX4) (N := 5) hx hb hts (by decide +kernel) hown hK.1 hP 0 rfl rfl 2 (by decide) (hts (.fieldLink RX4 26 "Turbineorchard" "fleet" "LTurbineorchard$Fleet;") (by decide +kernel)) (fun _ h9 => h9) rfl dX4_crew_47 ?_
      refine lv_iload_n hx hb dX4_crew_50 rfl (lv_at hl 2 rfl) ?_
      refine lv_iload_n hx hb dX4_crew_51 rfl (lv_at hl 3 rfl) ?_
      refine k_uv (WR := (wT a cI cZ (nI h) ++ (wW a cI cZ sp we tw ++ (wF a cI cZ ta pl br st md (nI n) bc ++ (wG a cI cZ sl pr mk pc))))) (WN := (wT a cI cZ (nI h) ++ (wW a cI cZ sp we tw ++ (wF a cI cZ ta pl br st md (nI n) bc ++ (wE a cI cZ tu le (upd cr (cl b) x) to ia ++ (wG a cI cZ sl pr mk pc)))))) (As := [.int (nI (cl b)), .int x]) (rest := []) (nL := 4) ⟨hx, hb, hml, hown, hts⟩ hK hP hD hS hA (c_X1_setCrewHours l D a cI cZ _ tu le cr to ia (cl b) x (by omega)) [11, 12, 13, 14, 15, 16] [0, 1, 2, 3, 4, 5, 6, 7, 8, 9, 10, 17, 18, 19, 20] [0, 1, 2, 3, 4, 5, 6, 7, 8, 9, 10, 15, 16, 17, 18, 19, 20, 11, 12, 13, 14] rfl rfl (by decide) rfl (by decide) (by decide) rfl rfl (by decide) 11 rfl rfl rfl (cwV 2 hts gX4_crew_X1_setCrewHours rfl rfl rfl (by decide +kernel) ⟨Nat.le_of_ble_eq_true rfl, Nat.le_of_ble_eq_true rfl⟩) rfl hl.1 rfl (Nat.le_of_ble_eq_true rfl) dX4_crew_52 ⟨Nat.zero_le _, Nat.zero_le _⟩ (fun H locs hP hD hS => ?_)
      refine lv_iload_n hx hb dX4_crew_55 rfl (lv_at hl 0 rfl) ?_
      exact k_endXi (ty := .int) hx hb hr hlocks (rfl) (⟨by unfold cCrew; rw [if_pos c_4, if_pos c_24], rfl⟩) hP hD hS dX4_crew_56
    · have c_24 := bI_0 c_24
      exact k_throw (k := 1) (text := "hours is out of range") hx hb hflag hown (by decide +kernel) (hts (.classLink RX4 68 kIAE) (by decide +kernel)) (hts (.initialized kIAE) (by decide +kernel)) (by decide +kernel) (fun w h => hts w (List.mem_cons_of_mem _ (List.mem_append_right _ h))) hX hP hD (hl.1.trans hml.symm) dX4_crew_27 dX4_crew_30 dX4_crew_31 dX4_crew_33 dX4_crew_36 hxt (Nat.le_of_ble_eq_true rfl) (Nat.le_of_ble_eq_true rfl) (Nat.le_of_ble_eq_true rfl) (Nat.le_of_ble_eq_true rfl) hlocks (by unfold cCrew; rw [if_pos c_4, if_neg c_24]) rfl
  · have c_4 := bI_0 c_4
    exact k_throw (k := 0) (text := "no such boat") hx hb hflag hown (by decide +kernel) (hts (.classLink RX4 45 kIOB) (by decide +kernel)) (hts (.initialized kIOB) (by decide +kernel)) (by decide +kernel) (fun w h => hts w (List.mem_cons_of_mem _ (List.mem_append_left _ (List.mem_append_right _ h)))) hX hP hD (hl.1.trans hml.symm) dX4_crew_7 dX4_crew_10 dX4_crew_11 dX4_crew_13 dX4_crew_16 hxt (Nat.le_of_ble_eq_true rfl) (Nat.le_of_ble_eq_true rfl) (Nat.le_of_ble_eq_true rfl) (Nat.le_of_ble_eq_true rfl) hlocks (by unfold cCrew; rw [if_neg c_4]) rfl

set_option maxHeartbeats 4000000 in
set_option maxRecDepth 100000 in
theorem c_X4_repair (l : Launch) (D : va_G) (a : Nat → Nat) (cI cZ : ClassId) (sz : Nat) (sp : Nat → Int32) (we : Nat → Int32) (tw : Nat → Int32) (ta : Nat → Int32) (pl : Nat → Int32) (br : Nat → Int32) (st : Nat → Int32) (md : Nat → Int32) (bc : Int32) (tu : Nat → Int32) (le : Nat → Int32) (cr : Nat → Int32) (to : Nat → Int32) (ia : Nat → Int32) (sl : Nat → Int32) (pr : Nat → Int32) (mk : Nat → Int32) (pc : Int64) (n : Nat) (h : Nat) (b : Int32) (t : Int32) (x : Int32) (hflag : l.stackTraces = false) (hn : n ≤ 12) (hh : h < 480) (hbr : ∀ k, br k = 0 ∨ br k = 1) : kXv l yX4_repair wsX4_repair ({ frames := 6, cells := 1, slots := 6, locals := 82 }) [.ref (a 0), .int b, .int t, .int x] D cI cZ sz (wT a cI cZ (nI h) ++ (wW a cI cZ sp we tw ++ (wF a cI cZ ta pl br st md (nI n) bc ++ (wE a cI cZ tu le cr to ia ++ (wG a cI cZ sl pr mk pc))))) (wT a cI cZ (nI h) ++ (wW a cI cZ sp we tw ++ (wF a cI cZ ta pl br st md (nI n) bc ++ (wE a cI cZ (upd tu (cl b) t) (upd le (cl b) x) cr to ia ++ (wG a cI cZ sl pr mk pc))))) (cRepair n br tu b t x) [kIOB, kIAE, kISE] := by
  refine vx_ofW (cc := cX4_repair) (maxL := 4) (ret := none) (by decide) rfl ?_
  intro p e s m args below meth c s₁ B hml hxt hv
  obtain ⟨rfl, ⟨hsz, hP, hK, hD0⟩, hX⟩ := hv
  have hx := B.exec
  have hb := B.bytes
  have hr := B.returns
  have hts := atoms_spec (ws := wsX4_repair) B.pre
  have hown : s.vm.findClass RX4 = some m.cls := findClass_of_methodNamed B.named
  have hlocks := B.notSynchronized
  subst hsz
  have hD := hD0.self (sz := s.heap.size)
  generalize hAe : va_A (wT a cI cZ (nI h) ++ (wW a cI cZ sp we tw ++ (wF a cI cZ ta pl br st md (nI n) bc ++ (wE a cI cZ tu le cr to ia ++ (wG a cI cZ sl pr mk pc))))) s.heap.size = A at hD hX ⊢
  have hA : ∀ q : Nat, s.heap.size ≤ q → A q := fun q h => by rw [← hAe]; exact Or.inr h
  have hS : va_S A s.heap s.heap [] := va_S.rf
  have hl := lv_entry ([.ref (a 0), .int b, .int t, .int x]) (n := 4) (Nat.le_of_ble_eq_true rfl)
  rw [lg_entry_eq]
  generalize (lg_sl ([.ref (a 0), .int b, .int t, .int x]) ++ List.replicate (4 - (lg_sl ([.ref (a 0), .int b, .int t, .int x])).length) Slot.unset).toArray = ls at hl ⊢
  have hl : lv_has ls 4 [(0, .ref (a 0)), (1, .int b), (2, .int t), (3, .int x)] := hl
  refine lv_iload_n hx hb dX4_repair_0 rfl (lv_at hl 1 rfl) ?_
  refine k_ps (As := [.int b]) (rest := []) (nL := 4) ⟨hx, hb, hml, hown, hts⟩ (c_X4_isBoat l b) (va_cwS 1 hts gX4_repair_X4_isBoat rfl rfl rfl (by decide +kernel) ⟨Nat.le_of_ble_eq_true rfl, Nat.le_of_ble_eq_true rfl⟩) rfl hl.1 rfl (Nat.le_of_ble_eq_true rfl) dX4_repair_1 ⟨Nat.zero_le _, Nat.zero_le _⟩ (fun r9 hr9 => ?_)
  subst hr9
  refine lv_if_eq (tgt := 18) hx hb dX4_repair_4 (by decide) (fun c_4 => ?_) (fun c_4 => ?_)
  · have c_4 := bI_0 c_4
    exact k_throw (k := 0) (text := "no such boat or turbine") hx hb hflag hown (by decide +kernel) (hts (.classLink RX4 45 kIOB) (by decide +kernel)) (hts (.initialized kIOB) (by decide +kernel)) (by decide +kernel) (fun w h => hts w (List.mem_cons_of_mem _ (List.mem_append_left _ (List.mem_append_left _ (List.mem_append_right _ h))))) hX hP hD (hl.1.trans hml.symm) dX4_repair_18 dX4_repair_21 dX4_repair_22 dX4_repair_24 dX4_repair_27 hxt (Nat.le_of_ble_eq_true rfl) (Nat.le_of_ble_eq_true rfl) (Nat.le_of_ble_eq_true rfl) (Nat.le_of_ble_eq_true rfl) hlocks (by unfold cRepair; rw [if_neg (fun q => c_4 q.1)]) rfl
  · have c_4 := bI_n c_4
    refine lv_aload_n hx hb dX4_repair_7 rfl (lv_at hl 0 rfl) ?_
    refine va_get (D := D) (ci := 4) (v := .ref (a 5)) (C := RX4) (T := TX4) (N := 5) hx hb hts (by decide +kernel) hown hK.1 hP 0 rfl rfl 1 (by decide) (hts (.fieldLink RX4 19 "Turbineorchard" "field" "LTurbineorchard$Field;") (by decide +kernel)) (fun _ h9 => h9) rfl dX4_repair_8 ?_
    refine lv_iload_n hx hb dX4_repair_11 rfl (lv_at hl 2 rfl) ?_
    refine k_rd (As := [.int t]) (rest := []) (nL := 4) ⟨hx, hb, hml, hown, hts⟩ hK hP (c_X0_has l D a cI cZ ta pl br st md bc n t (hn)) [5, 6, 7, 8, 9, 10] rfl 5 rfl rfl rfl (cwV 1 hts gX4_repair_X0_has rfl rfl rfl (by decide +kernel) ⟨Nat.le_of_ble_eq_true rfl, Nat.le_of_ble_eq_true rfl⟩) rfl hl.1 rfl (Nat.le_of_ble_eq_true rfl) dX4_repair_12 ⟨Nat.zero_le _, Nat.zero_le _⟩ (fun r9 hr9 => ?_)
    subst hr9
    refine lv_if_ne (tgt := 28) hx hb dX4_repair_15 (by decide) (fun c_15 => ?_) (fun c_15 => ?_)
    · have c_15 := bI_n c_15
      refine lv_iload_n hx hb dX4_repair_28 rfl (lv_at hl 3 rfl) ?_
      refine lv_iconst (v := 1) hx hb dX4_repair_29 (by decide) ?_
      refine lv_bipush (v := 40) hx hb dX4_repair_30 (by decide) ?_
      refine k_ps (As := [.int x, .int 1, .int 40]) (rest := []) (nL := 4) ⟨hx, hb, hml, hown, hts⟩ (c_X4_isWithin l x 1 40) (va_cwS 3 hts gX4_repair_X4_isWithin rfl rfl rfl (by decide +kernel) ⟨Nat.le_of_ble_eq_true rfl, Nat.le_of_ble_eq_true rfl⟩) rfl hl.1 rfl (Nat.le_of_ble_eq_true rfl) dX4_repair_32 ⟨Nat.zero_le _, Nat.zero_le _⟩ (fun r9 hr9 => ?_)
      subst hr9
      refine lv_if_ne (tgt := 48) hx hb dX4_repair_35 (by decide) (fun c_35 => ?_) (fun c_35 => ?_)
      · have c_35 := bI_n c_35
        have hq := cl_rng (n := 0) (m := 2) (by decide) (by decide) c_4
        have ht9 := has_cl hn c_15
        rw [hq.1] at hl
        refine lv_aload_n hx hb dX4_repair_48 rfl (lv_at hl 0 rfl) ?_
        refine va_get (D := D) (ci := 4) (v := .ref (a 11)) (C := RX4) (T := TX4) (N := 5) hx hb hts (by decide +kernel) hown hK.1 hP 0 rfl rfl 2 (by decide) (hts (.fieldLink RX4 26 "Turbineorchard" "fleet" "LTurbineorchard$Fleet;") (by decide +kernel)) (fun _ h9 => h9) rfl dX4_repair_49 ?_
        refine lv_iload_n hx hb dX4_repair_52 rfl (lv_at hl 1 rfl) ?_
        refine k_rd (As := [.int (nI (cl b))]) (rest := []) (nL := 4) ⟨hx, hb, hml, hown, hts⟩ hK hP (c_X1_isFree l D a cI cZ tu le cr to ia (cl b) (by omega)) [11, 12, 13, 14, 15, 16] rfl 11 rfl rfl rfl (cwV 1 hts gX4_repair_X1_isFree rfl rfl rfl (by decide +kernel) ⟨Nat.le_of_ble_eq_true rfl, Nat.le_of_ble_eq_true rfl⟩) rfl hl.1 rfl (Nat.le_of_ble_eq_true rfl) dX4_repair_53 ⟨Nat.zero_le _, Nat.zero_le _⟩ (fun r9 hr9 => ?_)
        subst hr9
        refine lv_if_eq (tgt := 81) hx hb dX4_repair_56 (by decide) (fun c_56 => ?_) (fun c_56 => ?_)
        · have c_56 := bI_0 c_56
          exact k_throw (k := 2) (text := "the boat or the turbine is not fit for a repair") hx hb hflag hown (by decide +kernel) (hts (.classLink RX4 56 kISE) (by decide +kernel)) (hts (.initialized kISE) (by decide +kernel)) (by decide +kernel) (fun w h => hts w (List.mem_cons_of_mem _ (List.mem_append_right _ h))) hX hP hD (hl.1.trans hml.symm) dX4_repair_81 dX4_repair_84 dX4_repair_85 dX4_repair_87 dX4_repair_90 hxt (Nat.le_of_ble_eq_true rfl) (Nat.le_of_ble_eq_true rfl) (Nat.le_of_ble_eq_true rfl) (Nat.le_of_ble_eq_true rfl) hlocks (by unfold cRepair; rw [if_pos ⟨c_4, c_15⟩, if_pos c_35, if_neg (fun q => c_56 q.1)]) rfl
        · have c_56 := bI_n c_56
          refine lv_aload_n hx hb dX4_repair_59 rfl (lv_at hl 0 rfl) ?_
          refine va_get (D := D) (ci := 4) (v := .ref (a 5)) (C := RX4) (T := TX4) (N := 5) hx hb hts (by decide +kernel) hown hK.1 hP 0 rfl rfl 1 (by decide) (hts (.fieldLink RX4 19 "Turbineorchard" "field" "LTurbineorchard$Field;") (by decide +kernel)) (fun _ h9 => h9) rfl dX4_repair_60 ?_
          refine lv_iload_n hx hb dX4_repair_63 rfl (lv_at hl 2 rfl) ?_
          refine k_rw (y := nI (cl t)) (ht9.1) ?_
          refine k_rd (As := [.int (nI (cl t))]) (rest := []) (nL := 4) ⟨hx, hb, hml, hown, hts⟩ hK hP (c_X0_isBroken l D a cI cZ ta pl br st md bc n (cl t) (hn) (by omega) (hbr _)) [5, 6, 7, 8, 9, 10] rfl 5 rfl rfl rfl (cwV 1 hts gX4_repair_X0_isBroken rfl rfl rfl (by decide +kernel) ⟨Nat.le_of_ble_eq_true rfl, Nat.le_of_ble_eq_true rfl⟩) rfl hl.1 rfl (Nat.le_of_ble_eq_true rfl) dX4_repair_64 ⟨Nat.zero_le _, Nat.zero_le _⟩ (fun r9 hr9 => ?_)
          subst hr9
          refine lv_if_eq (tgt := 81) hx hb dX4_repair_67 (by decide) (fun c_67 => ?_) (fun c_67 => ?_)
          · exact k_throw (k := 2) (text := "the boat or the turbine is not fit for a repair") hx hb hflag hown (by decide +kernel) (hts (.classLink RX4 56 kISE) (by decide +kernel)) (hts (.initialized kISE) (by decide +kernel)) (by decide +kernel) (fun w h => hts w (List.mem_cons_of_mem _ (List.mem_append_right _ h))) hX hP hD (hl.1.trans hml.symm) dX4_repair_81 dX4_repair_84 dX4_repair_85 dX4_repair_87 dX4_repair_90 hxt (Nat.le_of_ble_eq_true rfl) (Nat.le_of_ble_eq_true rfl) (Nat.le_of_ble_eq_true rfl) (Nat.le_of_ble_eq_true rfl) hlocks (by unfold cRepair; rw [if_pos ⟨c_4, c_15⟩, if_pos c_35, if_neg (fun q => q.2.1 c_67)]) rfl
          · refine lv_aload_n hx hb dX4_repair_70 rfl (lv_at hl 0 rfl) ?_
            refine va_get (D := D) (ci := 4) (v := .ref (a 11)) (C := RX4) (T := TX4) (N := 5) hx hb hts (by decide +kernel) hown hK.1 hP 0 rfl rfl 2 (by decide) (hts (.fieldLink RX4 26 "Turbineorchard" "fleet" "LTurbineorchard$Fleet;") (by decide +kernel)) (fun _ h9 => h9) rfl dX4_repair_71 ?_
            refine lv_iload_n hx hb dX4_repair_74 rfl (lv_at hl 2 rfl) ?_
            refine k_rd (As := [.int t]) (rest := []) (nL := 4) ⟨hx, hb, hml, hown, hts⟩ hK hP (c_X1_isAtWorkOn l D a cI cZ tu le cr to ia t) [11, 12, 13, 14, 15, 16] rfl 11 rfl rfl rfl (cwV 1 hts gX4_repair_X1_isAtWorkOn rfl rfl rfl (by decide +kernel) ⟨Nat.le_of_ble_eq_true rfl, Nat.le_of_ble_eq_true rfl⟩) rfl hl.1 rfl (Nat.le_of_ble_eq_true rfl) dX4_repair_75 ⟨Nat.zero_le _, Nat.zero_le _⟩ (fun r9 hr9 => ?_)
            subst hr9
            refine lv_if_eq (tgt := 91) hx hb dX4_repair_78 (by decide) (fun c_78 => ?_) (fun c_78 => ?_)
            · have c_78 := bI_0 c_78
              refine lv_aload_n hx hb dX4_repair_91 rfl (lv_at hl 0 rfl) ?_
              refine va_get (D := D) (ci := 4) (v := .ref (a 11)) (C := RX4) (T := TX4) (N := 5) hx hb hts (by decide +kernel) hown hK.1 hP 0 rfl rfl 2 (by decide) (hts (.fieldLink RX4 26 "Turbineorchard" "fleet" "LTurbineorchard$Fleet;") (by decide +kernel)) (fun _ h9 => h9) rfl dX4_repair_92 ?_
              refine lv_iload_n hx hb dX4_repair_95 rfl (lv_at hl 1 rfl) ?_
              refine lv_iload_n hx hb dX4_repair_96 rfl (lv_at hl 2 rfl) ?_
              refine lv_iload_n hx hb dX4_repair_97 rfl (lv_at hl 3 rfl) ?_
              refine k_uv (WR := (wT a cI cZ (nI h) ++ (wW a cI cZ sp we tw ++ (wF a cI cZ ta pl br st md (nI n) bc ++ (wG a cI cZ sl pr mk pc))))) (WN := (wT a cI cZ (nI h) ++ (wW a cI cZ sp we tw ++ (wF a cI cZ ta pl br st md (nI n) bc ++ (wE a cI cZ (upd tu (cl b) t) (upd le (cl b) x) cr to ia ++ (wG a cI cZ sl pr mk pc)))))) (As := [.int (nI (cl b)), .int t, .int x]) (rest := []) (nL := 4) ⟨hx, hb, hml, hown, hts⟩ hK hP hD hS hA (c_X1_send l D a cI cZ _ tu le cr to ia (cl b) t x (by omega)) [11, 12, 13, 14, 15, 16] [0, 1, 2, 3, 4, 5, 6, 7, 8, 9, 10, 17, 18, 19, 20] [0, 1, 2, 3, 4, 5, 6, 7, 8, 9, 10, 15, 16, 17, 18, 19, 20, 11, 12, 13, 14] rfl rfl (by decide) rfl (by decide) (by decide) rfl rfl (by decide) 11 rfl rfl rfl (cwV 3 hts gX4_repair_X1_send rfl rfl rfl (by decide +kernel) ⟨Nat.le_of_ble_eq_true rfl, Nat.le_of_ble_eq_true rfl⟩) rfl hl.1 rfl (Nat.le_of_ble_eq_true rfl) dX4_repair_98 ⟨Nat.zero_le _, Nat.zero_le _⟩ (fun H locs hP hD hS => ?_)
              exact k_endXv hx hb hr hlocks (by unfold cRepair; rw [if_pos ⟨c_4, c_15⟩, if_pos c_35, if_pos ⟨c_56, c_67, c_78⟩]) hP hD hS dX4_repair_101
            · have c_78 := bI_n c_78
              exact k_throw (k := 2) (text := "the boat or the turbine is not fit for a repair") hx hb hflag hown (by decide +kernel) (hts (.classLink RX4 56 kISE) (by decide +kernel)) (hts (.initialized kISE) (by decide +kernel)) (by decide +kernel) (fun w h => hts w (List.mem_cons_of_mem _ (List.mem_append_right _ h))) hX hP hD (hl.1.trans hml.symm) dX4_repair_81 dX4_repair_84 dX4_repair_85 dX4_repair_87 dX4_repair_90 hxt (Nat.le_of_ble_eq_true rfl) (Nat.le_of_ble_eq_true rfl) (Nat.le_of_ble_eq_true rfl) (Nat.le_of_ble_eq_true rfl) hlocks (by unfold cRepair; rw [if_pos ⟨c_4, c_15⟩, if_pos c_35, if_neg (fun q => q.2.2 c_78)]) rfl
      · have c_35 := bI_0 c_35
        exact k_throw (k := 1) (text := "hours is out of range") hx hb hflag hown (by decide +kernel) (hts (.classLink RX4 68 kIAE) (by decide +kernel)) (hts (.initialized kIAE) (by decide +kernel)) (by decide +kernel) (fun w h => hts w (List.mem_cons_of_mem _ (List.mem_append_left _ (List.mem_append_right _ h)))) hX hP hD (hl.1.trans hml.symm) dX4_repair_38 dX4_repair_41 dX4_repair_42 dX4_repair_44 dX4_repair_47 hxt (Nat.le_of_ble_eq_true rfl) (Nat.le_of_ble_eq_true rfl) (Nat.le_of_ble_eq_true rfl) (Nat.le_of_ble_eq_true rfl) hlocks (by unfold cRepair; rw [if_pos ⟨c_4, c_15⟩, if_neg c_35]) rfl
    · have c_15 := bI_0 c_15
      exact k_throw (k := 0) (text := "no such boat or turbine") hx hb hflag hown (by decide +kernel) (hts (.classLink RX4 45 kIOB) (by decide +kernel)) (hts (.initialized kIOB) (by decide +kernel)) (by decide +kernel) (fun w h => hts w (List.mem_cons_of_mem _ (List.mem_append_left _ (List.mem_append_left _ (List.mem_append_right _ h))))) hX hP hD (hl.1.trans hml.symm) dX4_repair_18 dX4_repair_21 dX4_repair_22 dX4_repair_24 dX4_repair_27 hxt (Nat.le_of_ble_eq_true rfl) (Nat.le_of_ble_eq_true rfl) (Nat.le_of_ble_eq_true rfl) (Nat.le_of_ble_eq_true rfl) hlocks (by unfold cRepair; rw [if_neg (fun q => c_15 q.2)]) rfl

set_option maxHeartbeats 4000000 in
set_option maxRecDepth 100000 in
theorem c_X4_sell (l : Launch) (D : va_G) (a : Nat → Nat) (cI cZ : ClassId) (sz : Nat) (sp : Nat → Int32) (we : Nat → Int32) (tw : Nat → Int32) (ta : Nat → Int32) (pl : Nat → Int32) (br : Nat → Int32) (st : Nat → Int32) (md : Nat → Int32) (bc : Int32) (tu : Nat → Int32) (le : Nat → Int32) (cr : Nat → Int32) (to : Nat → Int32) (ia : Nat → Int32) (sl : Nat → Int32) (pr : Nat → Int32) (mk : Nat → Int32) (pc : Int64) (n : Nat) (h : Nat) (k : Int32) (u : Int32) (q : Int32) (hflag : l.stackTraces = false) (hn : n ≤ 12) (hh : h < 480) : kXi l yX4_sell wsX4_sell ({ frames := 6, cells := 1, slots := 6, locals := 82 }) [.ref (a 0), .int k, .int u, .int q] D cI cZ sz (wT a cI cZ (nI h) ++ (wW a cI cZ sp we tw ++ (wF a cI cZ ta pl br st md (nI n) bc ++ (wE a cI cZ tu le cr to ia ++ (wG a cI cZ sl pr mk pc))))) (wT a cI cZ (nI h) ++ (wW a cI cZ sp we tw ++ (wF a cI cZ ta pl br st md (nI n) bc ++ (wE a cI cZ tu le cr to ia ++ (wG a cI cZ (upd sl (cl k) u) (upd pr (cl k) q) mk pc))))) (cSell h k u q) [kIAE, kISE] (fun r => r = sl (cl k)) := by
  refine vx_ofW (cc := cX4_sell) (maxL := 5) (ret := (some .int)) (by decide) rfl ?_
  intro p e s m args below meth c s₁ B hml hxt hv
  obtain ⟨rfl, ⟨hsz, hP, hK, hD0⟩, hX⟩ := hv
  have hx := B.exec
  have hb := B.bytes
  have hr := B.returns
  have hts := atoms_spec (ws := wsX4_sell) B.pre
  have hown : s.vm.findClass RX4 = some m.cls := findClass_of_methodNamed B.named
  have hlocks := B.notSynchronized
  subst hsz
  have hD := hD0.self (sz := s.heap.size)
  generalize hAe : va_A (wT a cI cZ (nI h) ++ (wW a cI cZ sp we tw ++ (wF a cI cZ ta pl br st md (nI n) bc ++ (wE a cI cZ tu le cr to ia ++ (wG a cI cZ sl pr mk pc))))) s.heap.size = A at hD hX ⊢
  have hA : ∀ q : Nat, s.heap.size ≤ q → A q := fun q h => by rw [← hAe]; exact Or.inr h
  have hS : va_S A s.heap s.heap [] := va_S.rf
  have hl := lv_entry ([.ref (a 0), .int k, .int u, .int q]) (n := 5) (Nat.le_of_ble_eq_true rfl)
  rw [lg_entry_eq]
  generalize (lg_sl ([.ref (a 0), .int k, .int u, .int q]) ++ List.replicate (5 - (lg_sl ([.ref (a 0), .int k, .int u, .int q])).length) Slot.unset).toArray = ls at hl ⊢
  have hl : lv_has ls 5 [(0, .ref (a 0)), (1, .int k), (2, .int u), (3, .int q)] := hl
  refine lv_iload_n hx hb dX4_sell_0 rfl (lv_at hl 1 rfl) ?_
  refine lv_iconst (v := 0) hx hb dX4_sell_1 (by decide) ?_
  refine lv_sipush (v := 479) hx hb dX4_sell_2 (by decide) ?_
  refine k_ps (As := [.int k, .int 0, .int 479]) (rest := []) (nL := 5) ⟨hx, hb, hml, hown, hts⟩ (c_X4_isWithin l k 0 479) (va_cwS 3 hts gX4_sell_X4_isWithin rfl rfl rfl (by decide +kernel) ⟨Nat.le_of_ble_eq_true rfl, Nat.le_of_ble_eq_true rfl⟩) rfl hl.1 rfl (Nat.le_of_ble_eq_true rfl) dX4_sell_5 ⟨Nat.zero_le _, Nat.zero_le _⟩ (fun r9 hr9 => ?_)
  subst hr9
  refine lv_if_eq (tgt := 32) hx hb dX4_sell_8 (by decide) (fun c_8 => ?_) (fun c_8 => ?_)
  · have c_8 := bI_0 c_8
    exact k_throw (k := 0) (text := "hour, units or price is out of range") hx hb hflag hown (by decide +kernel) (hts (.classLink RX4 68 kIAE) (by decide +kernel)) (hts (.initialized kIAE) (by decide +kernel)) (by decide +kernel) (fun w h => hts w (List.mem_cons_of_mem _ (List.mem_append_left _ (List.mem_append_right _ h)))) hX hP hD (hl.1.trans hml.symm) dX4_sell_32 dX4_sell_35 dX4_sell_36 dX4_sell_38 dX4_sell_41 hxt (Nat.le_of_ble_eq_true rfl) (Nat.le_of_ble_eq_true rfl) (Nat.le_of_ble_eq_true rfl) (Nat.le_of_ble_eq_true rfl) hlocks (by unfold cSell; rw [if_neg (fun q => c_8 q.1)]) rfl
  · have c_8 := bI_n c_8
    refine lv_iload_n hx hb dX4_sell_11 rfl (lv_at hl 2 rfl) ?_
    refine lv_iconst (v := 0) hx hb dX4_sell_12 (by decide) ?_
    refine lv_sipush (v := 30000) hx hb dX4_sell_13 (by decide) ?_
    refine k_ps (As := [.int u, .int 0, .int 30000]) (rest := []) (nL := 5) ⟨hx, hb, hml, hown, hts⟩ (c_X4_isWithin l u 0 30000) (va_cwS 3 hts gX4_sell_X4_isWithin rfl rfl rfl (by decide +kernel) ⟨Nat.le_of_ble_eq_true rfl, Nat.le_of_ble_eq_true rfl⟩) rfl hl.1 rfl (Nat.le_of_ble_eq_true rfl) dX4_sell_16 ⟨Nat.zero_le _, Nat.zero_le _⟩ (fun r9 hr9 => ?_)
    subst hr9
    refine lv_if_eq (tgt := 32) hx hb dX4_sell_19 (by decide) (fun c_19 => ?_) (fun c_19 => ?_)
    · have c_19 := bI_0 c_19
      exact k_throw (k := 0) (text := "hour, units or price is out of range") hx hb hflag hown (by decide +kernel) (hts (.classLink RX4 68 kIAE) (by decide +kernel)) (hts (.initialized kIAE) (by decide +kernel)) (by decide +kernel) (fun w h => hts w (List.mem_cons_of_mem _ (List.mem_append_left _ (List.mem_append_right _ h)))) hX hP hD (hl.1.trans hml.symm) dX4_sell_32 dX4_sell_35 dX4_sell_36 dX4_sell_38 dX4_sell_41 hxt (Nat.le_of_ble_eq_true rfl) (Nat.le_of_ble_eq_true rfl) (Nat.le_of_ble_eq_true rfl) (Nat.le_of_ble_eq_true rfl) hlocks (by unfold cSell; rw [if_neg (fun q => c_19 q.2.1)]) rfl
    · have c_19 := bI_n c_19
      refine lv_iload_n hx hb dX4_sell_22 rfl (lv_at hl 3 rfl) ?_
      refine lv_iconst (v := 1) hx hb dX4_sell_23 (by decide) ?_
      refine lv_bipush (v := 100) hx hb dX4_sell_24 (by decide) ?_
      refine k_ps (As := [.int q, .int 1, .int 100]) (rest := []) (nL := 5) ⟨hx, hb, hml, hown, hts⟩ (c_X4_isWithin l q 1 100) (va_cwS 3 hts gX4_sell_X4_isWithin rfl rfl rfl (by decide +kernel) ⟨Nat.le_of_ble_eq_true rfl, Nat.le_of_ble_eq_true rfl⟩) rfl hl.1 rfl (Nat.le_of_ble_eq_true rfl) dX4_sell_26 ⟨Nat.zero_le _, Nat.zero_le _⟩ (fun r9 hr9 => ?_)
      subst hr9
      refine lv_if_ne (tgt := 42) hx hb dX4_sell_29 (by decide) (fun c_29 => ?_) (fun c_29 => ?_)
      · have c_29 := bI_n c_29
        have hq := cl_rng (n := 0) (m := 479) (by decide) (by decide) c_8
        rw [hq.1] at hl
        refine lv_aload_n hx hb dX4_sell_42 rfl (lv_at hl 0 rfl) ?_
        refine va_get (D := D) (ci := 4) (v := .int (nI h)) (C := RX4) (T := TX4) (N := 5) hx hb hts (by decide +kernel) hown hK.1 hP 0 rfl rfl 4 (by decide) (hts (.fieldLink RX4 37 "Turbineorchard" "now" "I") (by decide +kernel)) (fun _ h9 => h9) rfl dX4_sell_43 ?_
        refine lv_bipush (v := 24) hx hb dX4_sell_46 (by decide) ?_
        refine lv_idiv hx hb dX4_sell_48 (by decide) ?_
        refine k_rw (y := nI (h / 24)) (pk_div (by omega) (by decide) (by decide)) ?_
        refine lv_iload_n hx hb dX4_sell_49 rfl (lv_at hl 1 rfl) ?_
        refine lv_bipush (v := 24) hx hb dX4_sell_50 (by decide) ?_
        refine lv_idiv hx hb dX4_sell_52 (by decide) ?_
        refine k_rw (y := nI (cl k / 24)) (pk_div (by omega) (by decide) (by decide)) ?_
        refine lv_icmp_lt (tgt := 66) hx hb dX4_sell_53 (by decide) (fun c_53 => ?_) (fun c_53 => ?_)
        · have c_53 : h / 24 < cl k / 24 := (nI_ltI (by omega) (by omega)).mp c_53
          refine lv_aload_n hx hb dX4_sell_66 rfl (lv_at hl 0 rfl) ?_
          refine va_get (D := D) (ci := 4) (v := .ref (a 17)) (C := RX4) (T := TX4) (N := 5) hx hb hts (by decide +kernel) hown hK.1 hP 0 rfl rfl 3 (by decide) (hts (.fieldLink RX4 33 "Turbineorchard" "ledger" "LTurbineorchard$Ledger;") (by decide +kernel)) (fun _ h9 => h9) rfl dX4_sell_67 ?_
          refine lv_iload_n hx hb dX4_sell_70 rfl (lv_at hl 1 rfl) ?_
          refine k_rd (As := [.int (nI (cl k))]) (rest := []) (nL := 5) ⟨hx, hb, hml, hown, hts⟩ hK hP (c_X2_slotUnits l D a cI cZ sl pr mk pc (cl k) (by omega)) [17, 18, 19, 20] rfl 17 rfl rfl rfl (cwV 1 hts gX4_sell_X2_slotUnits rfl rfl rfl (by decide +kernel) ⟨Nat.le_of_ble_eq_true rfl, Nat.le_of_ble_eq_true rfl⟩) rfl hl.1 rfl (Nat.le_of_ble_eq_true rfl) dX4_sell_71 ⟨Nat.zero_le _, Nat.zero_le _⟩ (fun r9 hr9 => ?_)
          subst hr9
          refine lv_istore (lv' := [(4, .int (sl (cl k))), (0, .ref (a 0)), (1, .int (nI (cl k))), (2, .int u), (3, .int q)]) hx hb dX4_sell_74 hl (by decide) rfl (fun ls hl => ?_)
          refine lv_aload_n hx hb dX4_sell_76 rfl (lv_at hl 1 rfl) ?_
          refine va_get (D := D) (ci := 4) (v := .ref (a 17)) (C := RX4) (T := TX4) (N := 5) hx hb hts (by decide +kernel) hown hK.1 hP 0 rfl rfl 3 (by decide) (hts (.fieldLink RX4 33 "Turbineorchard" "ledger" "LTurbineorchard$Ledger;") (by decide +kernel)) (fun _ h9 => h9) rfl dX4_sell_77 ?_
          refine lv_iload_n hx hb dX4_sell_80 rfl (lv_at hl 2 rfl) ?_
          refine lv_iload_n hx hb dX4_sell_81 rfl (lv_at hl 3 rfl) ?_
          refine lv_iload_n hx hb dX4_sell_82 rfl (lv_at hl 4 rfl) ?_
          refine k_uv (WR := (wT a cI cZ (nI h) ++ (wW a cI cZ sp we tw ++ (wF a cI cZ ta pl br st md (nI n) bc ++ (wE a cI cZ tu le cr to ia))))) (WN := (wT a cI cZ (nI h) ++ (wW a cI cZ sp we tw ++ (wF a cI cZ ta pl br st md (nI n) bc ++ (wE a cI cZ tu le cr to ia ++ (wG a cI cZ (upd sl (cl k) u) (upd pr (cl k) q) mk pc)))))) (As := [.int (nI (cl k)), .int u, .int q]) (rest := []) (nL := 5) ⟨hx, hb, hml, hown, hts⟩ hK hP hD hS hA (c_X2_setSlot l D a cI cZ _ sl pr mk pc (cl k) u q (by omega)) [17, 18, 19, 20] [0, 1, 2, 3, 4, 5, 6, 7, 8, 9, 10, 11, 12, 13, 14, 15, 16] [0, 1, 2, 3, 4, 5, 6, 7, 8, 9, 10, 11, 12, 13, 14, 15, 16, 17, 18, 19, 20] rfl rfl (by decide) rfl (by decide) (by decide) rfl rfl (by decide) 17 rfl rfl rfl (cwV 3 hts gX4_sell_X2_setSlot rfl rfl rfl (by decide +kernel) ⟨Nat.le_of_ble_eq_true rfl, Nat.le_of_ble_eq_true rfl⟩) rfl hl.1 rfl (Nat.le_of_ble_eq_true rfl) dX4_sell_83 ⟨Nat.zero_le _, Nat.zero_le _⟩ (fun H locs hP hD hS => ?_)
          refine lv_iload hx hb dX4_sell_86 (lv_at hl 0 rfl) ?_
          exact k_endXi (ty := .int) hx hb hr hlocks (rfl) (⟨by unfold cSell; rw [if_pos ⟨c_8, c_19, c_29⟩, if_pos c_53], rfl⟩) hP hD hS dX4_sell_88
        · have c_53 : ¬ h / 24 < cl k / 24 := fun q => c_53 ((nI_ltI (by omega) (by omega)).mpr q)
          exact k_throw (k := 1) (text := "the day ahead has ended") hx hb hflag hown (by decide +kernel) (hts (.classLink RX4 56 kISE) (by decide +kernel)) (hts (.initialized kISE) (by decide +kernel)) (by decide +kernel) (fun w h => hts w (List.mem_cons_of_mem _ (List.mem_append_right _ h))) hX hP hD (hl.1.trans hml.symm) dX4_sell_56 dX4_sell_59 dX4_sell_60 dX4_sell_62 dX4_sell_65 hxt (Nat.le_of_ble_eq_true rfl) (Nat.le_of_ble_eq_true rfl) (Nat.le_of_ble_eq_true rfl) (Nat.le_of_ble_eq_true rfl) hlocks (by unfold cSell; rw [if_pos ⟨c_8, c_19, c_29⟩, if_neg c_53]) rfl
      · have c_29 := bI_0 c_29
        exact k_throw (k := 0) (text := "hour, units or price is out of range") hx hb hflag hown (by decide +kernel) (hts (.classLink RX4 68 kIAE) (by decide +kernel)) (hts (.initialized kIAE) (by decide +kernel)) (by decide +kernel) (fun w h => hts w (List.mem_cons_of_mem _ (List.mem_append_left _ (List.mem_append_right _ h)))) hX hP hD (hl.1.trans hml.symm) dX4_sell_32 dX4_sell_35 dX4_sell_36 dX4_sell_38 dX4_sell_41 hxt (Nat.le_of_ble_eq_true rfl) (Nat.le_of_ble_eq_true rfl) (Nat.le_of_ble_eq_true rfl) (Nat.le_of_ble_eq_true rfl) hlocks (by unfold cSell; rw [if_neg (fun q => c_29 q.2.2)]) rfl

set_option maxHeartbeats 4000000 in
set_option maxRecDepth 100000 in
theorem c_X4_windAt (l : Launch) (D : va_G) (a : Nat → Nat) (cI cZ : ClassId) (sz : Nat) (sp : Nat → Int32) (we : Nat → Int32) (tw : Nat → Int32) (ta : Nat → Int32) (pl : Nat → Int32) (br : Nat → Int32) (st : Nat → Int32) (md : Nat → Int32) (bc : Int32) (tu : Nat → Int32) (le : Nat → Int32) (cr : Nat → Int32) (to : Nat → Int32) (ia : Nat → Int32) (sl : Nat → Int32) (pr : Nat → Int32) (mk : Nat → Int32) (pc : Int64) (n : Nat) (h : Nat) (t : Int32) (hflag : l.stackTraces = false) (hn : n ≤ 12) (hh : h < 480) (hpl : ∀ k, k < n → pl k = nI (fP pl k) ∧ fP pl k < 24) (hwe : ∀ k, we k = 0 ∨ we k = 1) : kXi l yX4_windAt wsX4_windAt ({ frames := 6, cells := 1, slots := 6, locals := 82 }) [.ref (a 0), .int t] D cI cZ sz (wT a cI cZ (nI h) ++ (wW a cI cZ sp we tw ++ (wF a cI cZ ta pl br st md (nI n) bc ++ (wE a cI cZ tu le cr to ia ++ (wG a cI cZ sl pr mk pc))))) (wT a cI cZ (nI h) ++ (wW a cI cZ sp we tw ++ (wF a cI cZ ta pl br st md (nI n) bc ++ (wE a cI cZ tu le cr to ia ++ (wG a cI cZ sl pr mk pc))))) (cWindAt n t) [kIOB] (fun r => r = fWind (we h) pl br st n (sp h) (fP pl (cl t))) := by
  refine vx_ofW (cc := cX4_windAt) (maxL := 2) (ret := (some .int)) (by decide) rfl ?_
  intro p e s m args below meth c s₁ B hml hxt hv
  obtain ⟨rfl, ⟨hsz, hP, hK, hD0⟩, hX⟩ := hv
  have hx := B.exec
  have hb := B.bytes
  have hr := B.returns
  have hts := atoms_spec (ws := wsX4_windAt) B.pre
  have hown : s.vm.findClass RX4 = some m.cls := findClass_of_methodNamed B.named
  have hlocks := B.notSynchronized
  subst hsz
  have hD := hD0.self (sz := s.heap.size)
  generalize hAe : va_A (wT a cI cZ (nI h) ++ (wW a cI cZ sp we tw ++ (wF a cI cZ ta pl br st md (nI n) bc ++ (wE a cI cZ tu le cr to ia ++ (wG a cI cZ sl pr mk pc))))) s.heap.size = A at hD hX ⊢
  have hA : ∀ q : Nat, s.heap.size ≤ q → A q := fun q h => by rw [← hAe]; exact Or.inr h
  have hS : va_S A s.heap s.heap [] := va_S.rf
  have hl := lv_entry ([.ref (a 0), .int t]) (n := 2) (Nat.le_of_ble_eq_true rfl)
  rw [lg_entry_eq]
  generalize (lg_sl ([.ref (a 0), .int t]) ++ List.replicate (2 - (lg_sl ([.ref (a 0), .int t])).length) Slot.unset).toArray = ls at hl ⊢
  have hl : lv_has ls 2 [(0, .ref (a 0)), (1, .int t)] := hl
  refine lv_aload_n hx hb dX4_windAt_0 rfl (lv_at hl 0 rfl) ?_
  refine va_get (D := D) (ci := 4) (v := .ref (a 5)) (C := RX4) (T := TX4) (N := 5) hx hb hts (by decide +kernel) hown hK.1 hP 0 rfl rfl 1 (by decide) (hts (.fieldLink RX4 19 "Turbineorchard" "field" "LTurbineorchard$Field;") (by decide +kernel)) (fun _ h9 => h9) rfl dX4_windAt_1 ?_
  refine lv_iload_n hx hb dX4_windAt_4 rfl (lv_at hl 1 rfl) ?_
  refine k_rd (As := [.int t]) (rest := []) (nL := 2) ⟨hx, hb, hml, hown, hts⟩ hK hP (c_X0_has l D a cI cZ ta pl br st md bc n t (hn)) [5, 6, 7, 8, 9, 10] rfl 5 rfl rfl rfl (cwV 1 hts gX4_windAt_X0_has rfl rfl rfl (by decide +kernel) ⟨Nat.le_of_ble_eq_true rfl, Nat.le_of_ble_eq_true rfl⟩) rfl hl.1 rfl (Nat.le_of_ble_eq_true rfl) dX4_windAt_5 ⟨Nat.zero_le _, Nat.zero_le _⟩ (fun r9 hr9 => ?_)
  subst hr9
  refine lv_if_ne (tgt := 21) hx hb dX4_windAt_8 (by decide) (fun c_8 => ?_) (fun c_8 => ?_)
  · have c_8 := bI_n c_8
    have hq := has_cl hn c_8
    rw [hq.1] at hl
    refine lv_aload_n hx hb dX4_windAt_21 rfl (lv_at hl 0 rfl) ?_
    refine va_get (D := D) (ci := 4) (v := .ref (a 5)) (C := RX4) (T := TX4) (N := 5) hx hb hts (by decide +kernel) hown hK.1 hP 0 rfl rfl 1 (by decide) (hts (.fieldLink RX4 19 "Turbineorchard" "field" "LTurbineorchard$Field;") (by decide +kernel)) (fun _ h9 => h9) rfl dX4_windAt_22 ?_
    refine lv_iload_n hx hb dX4_windAt_25 rfl (lv_at hl 1 rfl) ?_
    refine lv_aload_n hx hb dX4_windAt_26 rfl (lv_at hl 0 rfl) ?_
    refine va_get (D := D) (ci := 4) (v := .ref (a 1)) (C := RX4) (T := TX4) (N := 5) hx hb hts (by decide +kernel) hown hK.1 hP 0 rfl rfl 0 (by decide) (hts (.fieldLink RX4 12 "Turbineorchard" "weather" "LTurbineorchard$Weather;") (by decide +kernel)) (fun _ h9 => h9) rfl dX4_windAt_27 ?_
    refine lv_aload_n hx hb dX4_windAt_30 rfl (lv_at hl 0 rfl) ?_
    refine va_get (D := D) (ci := 4) (v := .int (nI h)) (C := RX4) (T := TX4) (N := 5) hx hb hts (by decide +kernel) hown hK.1 hP 0 rfl rfl 4 (by decide) (hts (.fieldLink RX4 37 "Turbineorchard" "now" "I") (by decide +kernel)) (fun _ h9 => h9) rfl dX4_windAt_31 ?_
    refine k_rd (As := [.int (nI h)]) (rest := [.int (nI (cl t)), .ref (a 5)]) (nL := 2) ⟨hx, hb, hml, hown, hts⟩ hK hP (c_X3_speedIn l D a cI cZ sp we tw h (by omega)) [1, 2, 3, 4] rfl 1 rfl rfl rfl (cwV 1 hts gX4_windAt_X3_speedIn rfl rfl rfl (by decide +kernel) ⟨Nat.le_of_ble_eq_true rfl, Nat.le_of_ble_eq_true rfl⟩) rfl hl.1 rfl (Nat.le_of_ble_eq_true rfl) dX4_windAt_34 ⟨Nat.zero_le _, Nat.zero_le _⟩ (fun r9 hr9 => ?_)
    subst hr9
    refine lv_aload_n hx hb dX4_windAt_37 rfl (lv_at hl 0 rfl) ?_
    refine va_get (D := D) (ci := 4) (v := .ref (a 1)) (C := RX4) (T := TX4) (N := 5) hx hb hts (by decide +kernel) hown hK.1 hP 0 rfl rfl 0 (by decide) (hts (.fieldLink RX4 12 "Turbineorchard" "weather" "LTurbineorchard$Weather;") (by decide +kernel)) (fun _ h9 => h9) rfl dX4_windAt_38 ?_
    refine lv_aload_n hx hb dX4_windAt_41 rfl (lv_at hl 0 rfl) ?_
    refine va_get (D := D) (ci := 4) (v := .int (nI h)) (C := RX4) (T := TX4) (N := 5) hx hb hts (by decide +kernel) hown hK.1 hP 0 rfl rfl 4 (by decide) (hts (.fieldLink RX4 37 "Turbineorchard" "now" "I") (by decide +kernel)) (fun _ h9 => h9) rfl dX4_windAt_42 ?_
    refine k_rd (As := [.int (nI h)]) (rest := [.int (sp h), .int (nI (cl t)), .ref (a 5)]) (nL := 2) ⟨hx, hb, hml, hown, hts⟩ hK hP (c_X3_isWestIn l D a cI cZ sp we tw h (by omega) (hwe h)) [1, 2, 3, 4] rfl 1 rfl rfl rfl (cwV 1 hts gX4_windAt_X3_isWestIn rfl rfl rfl (by decide +kernel) ⟨Nat.le_of_ble_eq_true rfl, Nat.le_of_ble_eq_true rfl⟩) rfl hl.1 rfl (Nat.le_of_ble_eq_true rfl) dX4_windAt_45 ⟨Nat.zero_le _, Nat.zero_le _⟩ (fun r9 hr9 => ?_)
    subst hr9
    refine k_rd (As := [.int (nI (cl t)), .int (sp h), .int (we h)]) (rest := []) (nL := 2) ⟨hx, hb, hml, hown, hts⟩ hK hP (c_X0_windLeft l D a cI cZ ta pl br st md bc n (cl t) (sp h) (we h) (hn) (by omega) (hpl)) [5, 6, 7, 8, 9, 10] rfl 5 rfl rfl rfl (cwV 3 hts gX4_windAt_X0_windLeft rfl rfl rfl (by decide +kernel) ⟨Nat.le_of_ble_eq_true rfl, Nat.le_of_ble_eq_true rfl⟩) rfl hl.1 rfl (Nat.le_of_ble_eq_true rfl) dX4_windAt_48 ⟨Nat.zero_le _, Nat.zero_le _⟩ (fun r9 hr9 => ?_)
    subst hr9
    exact k_endXi (ty := .int) hx hb hr hlocks (rfl) (⟨by unfold cWindAt; rw [if_pos c_8], rfl⟩) hP hD hS dX4_windAt_51
  · have c_8 := bI_0 c_8
    exact k_throw (k := 0) (text := "no such turbine") hx hb hflag hown (by decide +kernel) (hts (.classLink RX4 45 kIOB) (by decide +kernel)) (hts (.initialized kIOB) (by decide +kernel)) (by decide +kernel) (fun w h => hts w (List.mem_cons_of_mem _ (List.mem_append_right _ h))) hX hP hD (hl.1.trans hml.symm) dX4_windAt_11 dX4_windAt_14 dX4_windAt_15 dX4_windAt_17 dX4_windAt_20 hxt (Nat.le_of_ble_eq_true rfl) (Nat.le_of_ble_eq_true rfl) (Nat.le_of_ble_eq_true rfl) (Nat.le_of_ble_eq_true rfl) hlocks (by unfold cWindAt; rw [if_neg c_8]) rfl

set_option maxHeartbeats 4000000 in
set_option maxRecDepth 100000 in
theorem c_X4_foretold (l : Launch) (D : va_G) (a : Nat → Nat) (cI cZ : ClassId) (sz : Nat) (sp : Nat → Int32) (we : Nat → Int32) (tw : Nat → Int32) (ta : Nat → Int32) (pl : Nat → Int32) (br : Nat → Int32) (st : Nat → Int32) (md : Nat → Int32) (bc : Int32) (tu : Nat → Int32) (le : Nat → Int32) (cr : Nat → Int32) (to : Nat → Int32) (ia : Nat → Int32) (sl : Nat → Int32) (pr : Nat → Int32) (mk : Nat → Int32) (pc : Int64) (n : Nat) (h : Nat) (k : Int32) (hflag : l.stackTraces = false) (hn : n ≤ 12) (hh : h < 480) (hpl : ∀ k, k < n → pl k = nI (fP pl k) ∧ fP pl k < 24) (hwe : ∀ k, we k = 0 ∨ we k = 1) : kXi l yX4_foretold wsX4_foretold ({ frames := 6, cells := 1, slots := 6, locals := 119 }) [.ref (a 0), .int k] D cI cZ sz (wT a cI cZ (nI h) ++ (wW a cI cZ sp we tw ++ (wF a cI cZ ta pl br st md (nI n) bc ++ (wE a cI cZ tu le cr to ia ++ (wG a cI cZ sl pr mk pc))))) (wT a cI cZ (nI h) ++ (wW a cI cZ sp we tw ++ (wF a cI cZ ta pl br st md (nI n) bc ++ (wE a cI cZ tu le cr to ia ++ (wG a cI cZ sl pr mk pc))))) (cFore h k) [kIAE] (fun r => r = fSum (fPw (we (cl k)) pl br st n (sp (cl k))) n) := by
  refine vx_ofW (cc := cX4_foretold) (maxL := 2) (ret := (some .int)) (by decide) rfl ?_
  intro p e s m args below meth c s₁ B hml hxt hv
  obtain ⟨rfl, ⟨hsz, hP, hK, hD0⟩, hX⟩ := hv
  have hx := B.exec
  have hb := B.bytes
  have hr := B.returns
  have hts := atoms_spec (ws := wsX4_foretold) B.pre
  have hown : s.vm.findClass RX4 = some m.cls := findClass_of_methodNamed B.named
  have hlocks := B.notSynchronized
  subst hsz
  have hD := hD0.self (sz := s.heap.size)
  generalize hAe : va_A (wT a cI cZ (nI h) ++ (wW a cI cZ sp we tw ++ (wF a cI cZ ta pl br st md (nI n) bc ++ (wE a cI cZ tu le cr to ia ++ (wG a cI cZ sl pr mk pc))))) s.heap.size = A at hD hX ⊢
  have hA : ∀ q : Nat, s.heap.size ≤ q → A q := fun q h => by rw [← hAe]; exact Or.inr h
  have hS : va_S A s.heap s.heap [] := va_S.rf
  have hl := lv_entry ([.ref (a 0), .int k]) (n := 2) (Nat.le_of_ble_eq_true rfl)
  rw [lg_entry_eq]
  generalize (lg_sl ([.ref (a 0), .int k]) ++ List.replicate (2 - (lg_sl ([.ref (a 0), .int k])).length) Slot.unset).toArray = ls at hl ⊢
  have hl : lv_has ls 2 [(0, .ref (a 0)), (1, .int k)] := hl
  refine lv_aload_n hx hb dX4_foretold_0 rfl (lv_at hl 0 rfl) ?_
  refine lv_iload_n hx hb dX4_foretold_1 rfl (lv_at hl 1 rfl) ?_
  refine k_rd (As := [.int k]) (rest := []) (nL := 2) ⟨hx, hb, hml, hown, hts⟩ hK hP (c_X4_isToCome l D a cI cZ h k) [0] rfl 0 rfl rfl rfl (cwV 1 hts gX4_foretold_X4_isToCome rfl rfl rfl (by decide +kernel) ⟨Nat.le_of_ble_eq_true rfl, Nat.le_of_ble_eq_true rfl⟩) rfl hl.1 rfl (Nat.le_of_ble_eq_true rfl) dX4_foretold_2 ⟨Nat.zero_le _, Nat.zero_le _⟩ (fun r9 hr9 => ?_)
  subst hr9
  refine lv_if_ne (tgt := 18) hx hb dX4_foretold_5 (by decide) (fun c_5 => ?_) (fun c_5 => ?_)
  · have c_5 := bI_n c_5
    have hq := cl_rng (n := h) (m := 479) (nI_toInt (by omega)) (by decide) c_5
    rw [hq.1] at hl
    refine lv_aload_n hx hb dX4_foretold_18 rfl (lv_at hl 0 rfl) ?_
    refine va_get (D := D) (ci := 4) (v := .ref (a 5)) (C := RX4) (T := TX4) (N := 5) hx hb hts (by decide +kernel) hown hK.1 hP 0 rfl rfl 1 (by decide) (hts (.fieldLink RX4 19 "Turbineorchard" "field" "LTurbineorchard$Field;") (by decide +kernel)) (fun _ h9 => h9) rfl dX4_foretold_19 ?_
    refine lv_aload_n hx hb dX4_foretold_22 rfl (lv_at hl 0 rfl) ?_
    refine va_get (D := D) (ci := 4) (v := .ref (a 1)) (C := RX4) (T := TX4) (N := 5) hx hb hts (by decide +kernel) hown hK.1 hP 0 rfl rfl 0 (by decide) (hts (.fieldLink RX4 12 "Turbineorchard" "weather" "LTurbineorchard$Weather;") (by decide +kernel)) (fun _ h9 => h9) rfl dX4_foretold_23 ?_
    refine lv_iload_n hx hb dX4_foretold_26 rfl (lv_at hl 1 rfl) ?_
    refine k_rd (As := [.int (nI (cl k))]) (rest := [.ref (a 5)]) (nL := 2) ⟨hx, hb, hml, hown, hts⟩ hK hP (c_X3_speedIn l D a cI cZ sp we tw (cl k) (by omega)) [1, 2, 3, 4] rfl 1 rfl rfl rfl (cwV 1 hts gX4_foretold_X3_speedIn rfl rfl rfl (by decide +kernel) ⟨Nat.le_of_ble_eq_true rfl, Nat.le_of_ble_eq_true rfl⟩) rfl hl.1 rfl (Nat.le_of_ble_eq_true rfl) dX4_foretold_27 ⟨Nat.zero_le _, Nat.zero_le _⟩ (fun r9 hr9 => ?_)
    subst hr9
    refine lv_aload_n hx hb dX4_foretold_30 rfl (lv_at hl 0 rfl) ?_
    refine va_get (D := D) (ci := 4) (v := .ref (a 1)) (C := RX4) (T := TX4) (N := 5) hx hb hts (by decide +kernel) hown hK.1 hP 0 rfl rfl 0 (by decide) (hts (.fieldLink RX4 12 "Turbineorchard" "weather" "LTurbineorchard$Weather;") (by decide +kernel)) (fun _ h9 => h9) rfl dX4_foretold_31 ?_
    refine lv_iload_n hx hb dX4_foretold_34 rfl (lv_at hl 1 rfl) ?_
    refine k_rd (As := [.int (nI (cl k))]) (rest := [.int (sp (cl k)), .ref (a 5)]) (nL := 2) ⟨hx, hb, hml, hown, hts⟩ hK hP (c_X3_isWestIn l D a cI cZ sp we tw (cl k) (by omega) (hwe _)) [1, 2, 3, 4] rfl 1 rfl rfl rfl (cwV 1 hts gX4_foretold_X3_isWestIn rfl rfl rfl (by decide +kernel) ⟨Nat.le_of_ble_eq_true rfl, Nat.le_of_ble_eq_true rfl⟩) rfl hl.1 rfl (Nat.le_of_ble_eq_true rfl) dX4_foretold_35 ⟨Nat.zero_le _, Nat.zero_le _⟩ (fun r9 hr9 => ?_)
    subst hr9
    refine k_rd (As := [.int (sp (cl k)), .int (we (cl k))]) (rest := []) (nL := 2) ⟨hx, hb, hml, hown, hts⟩ hK hP (c_X0_powerOfAll l D a cI cZ ta pl br st md bc n (sp (cl k)) (we (cl k)) (hn) (hpl)) [5, 6, 7, 8, 9, 10] rfl 5 rfl rfl rfl (cwV 2 hts gX4_foretold_X0_powerOfAll rfl rfl rfl (by decide +kernel) ⟨Nat.le_of_ble_eq_true rfl, Nat.le_of_ble_eq_true rfl⟩) rfl hl.1 rfl (Nat.le_of_ble_eq_true rfl) dX4_foretold_38 ⟨Nat.zero_le _, Nat.zero_le _⟩ (fun r9 hr9 => ?_)
    subst hr9
    exact k_endXi (ty := .int) hx hb hr hlocks (rfl) (⟨by unfold cFore; rw [if_pos c_5], rfl⟩) hP hD hS dX4_foretold_41
  · have c_5 := bI_0 c_5
    exact k_throw (k := 0) (text := "hour is out of range") hx hb hflag hown (by decide +kernel) (hts (.classLink RX4 68 kIAE) (by decide +kernel)) (hts (.initialized kIAE) (by decide +kernel)) (by decide +kernel) (fun w h => hts w (List.mem_cons_of_mem _ (List.mem_append_right _ h))) hX hP hD (hl.1.trans hml.symm) dX4_foretold_8 dX4_foretold_11 dX4_foretold_12 dX4_foretold_14 dX4_foretold_17 hxt (Nat.le_of_ble_eq_true rfl) (Nat.le_of_ble_eq_true rfl) (Nat.le_of_ble_eq_true rfl) (Nat.le_of_ble_eq_true rfl) hlocks (by unfold cFore; rw [if_neg c_5]) rfl

set_option maxHeartbeats 4000000 in
set_option maxRecDepth 100000 in
theorem c_X4_foretoldAnew (l : Launch) (D : va_G) (a : Nat → Nat) (cI cZ : ClassId) (sz : Nat) (sp : Nat → Int32) (we : Nat → Int32) (tw : Nat → Int32) (ta : Nat → Int32) (pl : Nat → Int32) (br : Nat → Int32) (st : Nat → Int32) (md : Nat → Int32) (bc : Int32) (tu : Nat → Int32) (le : Nat → Int32) (cr : Nat → Int32) (to : Nat → Int32) (ia : Nat → Int32) (sl : Nat → Int32) (pr : Nat → Int32) (mk : Nat → Int32) (pc : Int64) (n : Nat) (h : Nat) (k : Int32) (hflag : l.stackTraces = false) (hn : n ≤ 12) (hh : h < 480) (hpl : ∀ k, k < n → pl k = nI (fP pl k) ∧ fP pl k < 24) (hwe : ∀ k, we k = 0 ∨ we k = 1) : kXi l yX4_foretoldAnew wsX4_foretoldAnew ({ frames := 6, cells := 1, slots := 6, locals := 95 }) [.ref (a 0), .int k] D cI cZ sz (wT a cI cZ (nI h) ++ (wW a cI cZ sp we tw ++ (wF a cI cZ ta pl br st md (nI n) bc ++ (wE a cI cZ tu le cr to ia ++ (wG a cI cZ sl pr mk pc))))) (wT a cI cZ (nI h) ++ (wW a cI cZ sp we tw ++ (wF a cI cZ ta pl br st md (nI n) bc ++ (wE a cI cZ tu le cr to ia ++ (wG a cI cZ sl pr mk pc))))) (cFore h k) [kIAE] (fun r => r = fSum (fPwAnew (we (cl k)) pl ta br st n (sp (cl k))) n) := by
  refine vx_ofW (cc := cX4_foretoldAnew) (maxL := 2) (ret := (some .int)) (by decide) rfl ?_
  intro p e s m args below meth c s₁ B hml hxt hv
  obtain ⟨rfl, ⟨hsz, hP, hK, hD0⟩, hX⟩ := hv
  have hx := B.exec
  have hb := B.bytes
  have hr := B.returns
  have hts := atoms_spec (ws := wsX4_foretoldAnew) B.pre
  have hown : s.vm.findClass RX4 = some m.cls := findClass_of_methodNamed B.named
  have hlocks := B.notSynchronized
  subst hsz
  have hD := hD0.self (sz := s.heap.size)
  generalize hAe : va_A (wT a cI cZ (nI h) ++ (wW a cI cZ sp we tw ++ (wF a cI cZ ta pl br st md (nI n) bc ++ (wE a cI cZ tu le cr to ia ++ (wG a cI cZ sl pr mk pc))))) s.heap.size = A at hD hX ⊢
  have hA : ∀ q : Nat, s.heap.size ≤ q → A q := fun q h => by rw [← hAe]; exact Or.inr h
  have hS : va_S A s.heap s.heap [] := va_S.rf
  have hl := lv_entry ([.ref (a 0), .int k]) (n := 2) (Nat.le_of_ble_eq_true rfl)
  rw [lg_entry_eq]
  generalize (lg_sl ([.ref (a 0), .int k]) ++ List.replicate (2 - (lg_sl ([.ref (a 0), .int k])).length) Slot.unset).toArray = ls at hl ⊢
  have hl : lv_has ls 2 [(0, .ref (a 0)), (1, .int k)] := hl
  refine lv_aload_n hx hb dX4_foretoldAnew_0 rfl (lv_at hl 0 rfl) ?_
  refine lv_iload_n hx hb dX4_foretoldAnew_1 rfl (lv_at hl 1 rfl) ?_
  refine k_rd (As := [.int k]) (rest := []) (nL := 2) ⟨hx, hb, hml, hown, hts⟩ hK hP (c_X4_isToCome l D a cI cZ h k) [0] rfl 0 rfl rfl rfl (cwV 1 hts gX4_foretoldAnew_X4_isToCome rfl rfl rfl (by decide +kernel) ⟨Nat.le_of_ble_eq_true rfl, Nat.le_of_ble_eq_true rfl⟩) rfl hl.1 rfl (Nat.le_of_ble_eq_true rfl) dX4_foretoldAnew_2 ⟨Nat.zero_le _, Nat.zero_le _⟩ (fun r9 hr9 => ?_)
  subst hr9
  refine lv_if_ne (tgt := 18) hx hb dX4_foretoldAnew_5 (by decide) (fun c_5 => ?_) (fun c_5 => ?_)
  · have c_5 := bI_n c_5
    have hq := cl_rng (n := h) (m := 479) (nI_toInt (by omega)) (by decide) c_5
    rw [hq.1] at hl
    refine lv_aload_n hx hb dX4_foretoldAnew_18 rfl (lv_at hl 0 rfl) ?_
    refine va_get (D := D) (ci := 4) (v := .ref (a 5)) (C := RX4) (T := TX4) (N := 5) hx hb hts (by decide +kernel) hown hK.1 hP 0 rfl rfl 1 (by decide) (hts (.fieldLink RX4 19 "Turbineorchard" "field" "LTurbineorchard$Field;") (by decide +kernel)) (fun _ h9 => h9) rfl dX4_foretoldAnew_19 ?_
    refine lv_aload_n hx hb dX4_foretoldAnew_22 rfl (lv_at hl 0 rfl) ?_
    refine va_get (D := D) (ci := 4) (v := .ref (a 1)) (C := RX4) (T := TX4) (N := 5) hx hb hts (by decide +kernel) hown hK.1 hP 0 rfl rfl 0 (by decide) (hts (.fieldLink RX4 12 "Turbineorchard" "weather" "LTurbineorchard$Weather;") (by decide +kernel)) (fun _ h9 => h9) rfl dX4_foretoldAnew_23 ?_
    refine lv_iload_n hx hb dX4_foretoldAnew_26 rfl (lv_at hl 1 rfl) ?_
    refine k_rd (As := [.int (nI (cl k))]) (rest := [.ref (a 5)]) (nL := 2) ⟨hx, hb, hml, hown, hts⟩ hK hP (c_X3_speedIn l D a cI cZ sp we tw (cl k) (by omega)) [1, 2, 3, 4] rfl 1 rfl rfl rfl (cwV 1 hts gX4_foretoldAnew_X3_speedIn rfl rfl rfl (by decide +kernel) ⟨Nat.le_of_ble_eq_true rfl, Nat.le_of_ble_eq_true rfl⟩) rfl hl.1 rfl (Nat.le_of_ble_eq_true rfl) dX4_foretoldAnew_27 ⟨Nat.zero_le _, Nat.zero_le _⟩ (fun r9 hr9 => ?_)
    subst hr9
    refine lv_aload_n hx hb dX4_foretoldAnew_30 rfl (lv_at hl 0 rfl) ?_
    refine va_get (D := D) (ci := 4) (v := .ref (a 1)) (C := RX4) (T := TX4) (N := 5) hx hb hts (by decide +kernel) hown hK.1 hP 0 rfl rfl 0 (by decide) (hts (.fieldLink RX4 12 "Turbineorchard" "weather" "LTurbineorchard$Weather;") (by decide +kernel)) (fun _ h9 => h9) rfl dX4_foretoldAnew_31 ?_
    refine lv_iload_n hx hb dX4_foretoldAnew_34 rfl (lv_at hl 1 rfl) ?_
    refine k_rd (As := [.int (nI (cl k))]) (rest := [.int (sp (cl k)), .ref (a 5)]) (nL := 2) ⟨hx, hb, hml, hown, hts⟩ hK hP (c_X3_isWestIn l D a cI cZ sp we tw (cl k) (by omega) (hwe _)) [1, 2, 3, 4] rfl 1 rfl rfl rfl (cwV 1 hts gX4_foretoldAnew_X3_isWestIn rfl rfl rfl (by decide +kernel) ⟨Nat.le_of_ble_eq_true rfl, Nat.le_of_ble_eq_true rfl⟩) rfl hl.1 rfl (Nat.le_of_ble_eq_true rfl) dX4_foretoldAnew_35 ⟨Nat.zero_le _, Nat.zero_le _⟩ (fun r9 hr9 => ?_)
    subst hr9
    refine k_rd (As := [.int (sp (cl k)), .int (we (cl k))]) (rest := []) (nL := 2) ⟨hx, hb, hml, hown, hts⟩ hK hP (c_X0_powerOfAllAnew l D a cI cZ ta pl br st md bc n (sp (cl k)) (we (cl k)) (hn) (hpl)) [5, 6, 7, 8, 9, 10] rfl 5 rfl rfl rfl (cwV 2 hts gX4_foretoldAnew_X0_powerOfAllAnew rfl rfl rfl (by decide +kernel) ⟨Nat.le_of_ble_eq_true rfl, Nat.le_of_ble_eq_true rfl⟩) rfl hl.1 rfl (Nat.le_of_ble_eq_true rfl) dX4_foretoldAnew_38 ⟨Nat.zero_le _, Nat.zero_le _⟩ (fun r9 hr9 => ?_)
    subst hr9
    exact k_endXi (ty := .int) hx hb hr hlocks (rfl) (⟨by unfold cFore; rw [if_pos c_5], rfl⟩) hP hD hS dX4_foretoldAnew_41
  · have c_5 := bI_0 c_5
    exact k_throw (k := 0) (text := "hour is out of range") hx hb hflag hown (by decide +kernel) (hts (.classLink RX4 68 kIAE) (by decide +kernel)) (hts (.initialized kIAE) (by decide +kernel)) (by decide +kernel) (fun w h => hts w (List.mem_cons_of_mem _ (List.mem_append_right _ h))) hX hP hD (hl.1.trans hml.symm) dX4_foretoldAnew_8 dX4_foretoldAnew_11 dX4_foretoldAnew_12 dX4_foretoldAnew_14 dX4_foretoldAnew_17 hxt (Nat.le_of_ble_eq_true rfl) (Nat.le_of_ble_eq_true rfl) (Nat.le_of_ble_eq_true rfl) (Nat.le_of_ble_eq_true rfl) hlocks (by unfold cFore; rw [if_neg c_5]) rfl

set_option maxHeartbeats 4000000 in
set_option maxRecDepth 100000 in
theorem c_X4_ofHour (l : Launch) (D : va_G) (a : Nat → Nat) (cI cZ : ClassId) (sz : Nat) (sp : Nat → Int32) (we : Nat → Int32) (tw : Nat → Int32) (ta : Nat → Int32) (pl : Nat → Int32) (br : Nat → Int32) (st : Nat → Int32) (md : Nat → Int32) (bc : Int32) (tu : Nat → Int32) (le : Nat → Int32) (cr : Nat → Int32) (to : Nat → Int32) (ia : Nat → Int32) (sl : Nat → Int32) (pr : Nat → Int32) (mk : Nat → Int32) (pc : Int64) (n : Nat) (h : Nat) (k : Int32) (w : Int32) (hflag : l.stackTraces = false) (hn : n ≤ 12) (hh : h < 480) : kXi l yX4_ofHour wsX4_ofHour ({ frames := 6, cells := 1, slots := 6, locals := 82 }) [.ref (a 0), .int k, .int w] D cI cZ sz (wT a cI cZ (nI h) ++ (wW a cI cZ sp we tw ++ (wF a cI cZ ta pl br st md (nI n) bc ++ (wE a cI cZ tu le cr to ia ++ (wG a cI cZ sl pr mk pc))))) (wT a cI cZ (nI h) ++ (wW a cI cZ sp we tw ++ (wF a cI cZ ta pl br st md (nI n) bc ++ (wE a cI cZ tu le cr to ia ++ (wG a cI cZ sl pr mk pc))))) (cOfHour h k w) [kIAE] (fun r => r = vOfHour sl pr mk (cl k) w) := by
  refine vx_ofW (cc := cX4_ofHour) (maxL := 3) (ret := (some .int)) (by decide) rfl ?_
  intro p e s m args below meth c s₁ B hml hxt hv
  obtain ⟨rfl, ⟨hsz, hP, hK, hD0⟩, hX⟩ := hv
  have hx := B.exec
  have hb := B.bytes
  have hr := B.returns
  have hts := atoms_spec (ws := wsX4_ofHour) B.pre
  have hown : s.vm.findClass RX4 = some m.cls := findClass_of_methodNamed B.named
  have hlocks := B.notSynchronized
  subst hsz
  have hD := hD0.self (sz := s.heap.size)
  generalize hAe : va_A (wT a cI cZ (nI h) ++ (wW a cI cZ sp we tw ++ (wF a cI cZ ta pl br st md (nI n) bc ++ (wE a cI cZ tu le cr to ia ++ (wG a cI cZ sl pr mk pc))))) s.heap.size = A at hD hX ⊢
  have hA : ∀ q : Nat, s.heap.size ≤ q → A q := fun q h => by rw [← hAe]; exact Or.inr h
  have hS : va_S A s.heap s.heap [] := va_S.rf
  have hl := lv_entry ([.ref (a 0), .int k, .int w]) (n := 3) (Nat.le_of_ble_eq_true rfl)
  rw [lg_entry_eq]
  generalize (lg_sl ([.ref (a 0), .int k, .int w]) ++ List.replicate (3 - (lg_sl ([.ref (a 0), .int k, .int w])).length) Slot.unset).toArray = ls at hl ⊢
  have hl : lv_has ls 3 [(0, .ref (a 0)), (1, .int k), (2, .int w)] := hl
  refine lv_aload_n hx hb dX4_ofHour_0 rfl (lv_at hl 0 rfl) ?_
  refine lv_iload_n hx hb dX4_ofHour_1 rfl (lv_at hl 1 rfl) ?_
  refine k_rd (As := [.int k]) (rest := []) (nL := 3) ⟨hx, hb, hml, hown, hts⟩ hK hP (c_X4_isOver l D a cI cZ h k) [0] rfl 0 rfl rfl rfl (cwV 1 hts gX4_ofHour_X4_isOver rfl rfl rfl (by decide +kernel) ⟨Nat.le_of_ble_eq_true rfl, Nat.le_of_ble_eq_true rfl⟩) rfl hl.1 rfl (Nat.le_of_ble_eq_true rfl) dX4_ofHour_2 ⟨Nat.zero_le _, Nat.zero_le _⟩ (fun r9 hr9 => ?_)
  subst hr9
  refine lv_if_eq (tgt := 17) hx hb dX4_ofHour_5 (by decide) (fun c_5 => ?_) (fun c_5 => ?_)
  · have c_5 := bI_0 c_5
    exact k_throw (k := 0) (text := "hour or what is out of range") hx hb hflag hown (by decide +kernel) (hts (.classLink RX4 68 kIAE) (by decide +kernel)) (hts (.initialized kIAE) (by decide +kernel)) (by decide +kernel) (fun w h => hts w (List.mem_cons_of_mem _ (List.mem_append_right _ h))) hX hP hD (hl.1.trans hml.symm) dX4_ofHour_17 dX4_ofHour_20 dX4_ofHour_21 dX4_ofHour_23 dX4_ofHour_26 hxt (Nat.le_of_ble_eq_true rfl) (Nat.le_of_ble_eq_true rfl) (Nat.le_of_ble_eq_true rfl) (Nat.le_of_ble_eq_true rfl) hlocks (by unfold cOfHour; rw [if_neg (fun q => c_5 q.1)]) rfl
  · have c_5 := bI_n c_5
    refine lv_iload_n hx hb dX4_ofHour_8 rfl (lv_at hl 2 rfl) ?_
    refine lv_iconst (v := 0) hx hb dX4_ofHour_9 (by decide) ?_
    refine lv_iconst (v := 3) hx hb dX4_ofHour_10 (by decide) ?_
    refine k_ps (As := [.int w, .int 0, .int 3]) (rest := []) (nL := 3) ⟨hx, hb, hml, hown, hts⟩ (c_X4_isWithin l w 0 3) (va_cwS 3 hts gX4_ofHour_X4_isWithin rfl rfl rfl (by decide +kernel) ⟨Nat.le_of_ble_eq_true rfl, Nat.le_of_ble_eq_true rfl⟩) rfl hl.1 rfl (Nat.le_of_ble_eq_true rfl) dX4_ofHour_11 ⟨Nat.zero_le _, Nat.zero_le _⟩ (fun r9 hr9 => ?_)
    subst hr9
    refine lv_if_ne (tgt := 27) hx hb dX4_ofHour_14 (by decide) (fun c_14 => ?_) (fun c_14 => ?_)
    · have c_14 := bI_n c_14
      have hq := over_cl (by omega) c_5
      rw [hq.1] at hl
      refine lv_iload_n hx hb dX4_ofHour_27 rfl (lv_at hl 2 rfl) ?_
      rcases four c_14 with w9 | w9 | w9 | w9
      · subst w9
        refine lv_tableIn (tgt := 56) (off := 28) hx hb dX4_ofHour_28 (by decide) (by decide) (by decide) (by decide) ?_
        refine lv_aload_n hx hb dX4_ofHour_56 rfl (lv_at hl 0 rfl) ?_
        refine va_get (D := D) (ci := 4) (v := .ref (a 17)) (C := RX4) (T := TX4) (N := 5) hx hb hts (by decide +kernel) hown hK.1 hP 0 rfl rfl 3 (by decide) (hts (.fieldLink RX4 33 "Turbineorchard" "ledger" "LTurbineorchard$Ledger;") (by decide +kernel)) (fun _ h9 => h9) rfl dX4_ofHour_57 ?_
        refine lv_iload_n hx hb dX4_ofHour_60 rfl (lv_at hl 1 rfl) ?_
        refine k_rd (As := [.int (nI (cl k))]) (rest := []) (nL := 3) ⟨hx, hb, hml, hown, hts⟩ hK hP (c_X2_madeIn l D a cI cZ sl pr mk pc (cl k) (by omega)) [17, 18, 19, 20] rfl 17 rfl rfl rfl (cwV 1 hts gX4_ofHour_X2_madeIn rfl rfl rfl (by decide +kernel) ⟨Nat.le_of_ble_eq_true rfl, Nat.le_of_ble_eq_true rfl⟩) rfl hl.1 rfl (Nat.le_of_ble_eq_true rfl) dX4_ofHour_61 ⟨Nat.zero_le _, Nat.zero_le _⟩ (fun r9 hr9 => ?_)
        subst hr9
        exact k_endXi (ty := .int) hx hb hr hlocks (rfl) (⟨by unfold cOfHour; rw [if_pos ⟨c_5, c_14⟩], rfl⟩) hP hD hS dX4_ofHour_64
      · subst w9
        refine lv_tableIn (tgt := 65) (off := 37) hx hb dX4_ofHour_28 (by decide) (by decide) (by decide) (by decide) ?_
        refine lv_aload_n hx hb dX4_ofHour_65 rfl (lv_at hl 0 rfl) ?_
        refine va_get (D := D) (ci := 4) (v := .ref (a 17)) (C := RX4) (T := TX4) (N := 5) hx hb hts (by decide +kernel) hown hK.1 hP 0 rfl rfl 3 (by decide) (hts (.fieldLink RX4 33 "Turbineorchard" "ledger" "LTurbineorchard$Ledger;") (by decide +kernel)) (fun _ h9 => h9) rfl dX4_ofHour_66 ?_
        refine lv_iload_n hx hb dX4_ofHour_69 rfl (lv_at hl 1 rfl) ?_
        refine k_rd (As := [.int (nI (cl k))]) (rest := []) (nL := 3) ⟨hx, hb, hml, hown, hts⟩ hK hP (c_X2_soldFor l D a cI cZ sl pr mk pc (cl k) (by omega)) [17, 18, 19, 20] rfl 17 rfl rfl rfl (cwV 1 hts gX4_ofHour_X2_soldFor rfl rfl rfl (by decide +kernel) ⟨Nat.le_of_ble_eq_true rfl, Nat.le_of_ble_eq_true rfl⟩) rfl hl.1 rfl (Nat.le_of_ble_eq_true rfl) dX4_ofHour_70 ⟨Nat.zero_le _, Nat.zero_le _⟩ (fun r9 hr9 => ?_)
        subst hr9
        exact k_endXi (ty := .int) hx hb hr hlocks (rfl) (⟨by unfold cOfHour; rw [if_pos ⟨c_5, c_14⟩], rfl⟩) hP hD hS dX4_ofHour_73
      · subst w9
        refine lv_tableIn (tgt := 74) (off := 46) hx hb dX4_ofHour_28 (by decide) (by decide) (by decide) (by decide) ?_
        refine lv_aload_n hx hb dX4_ofHour_74 rfl (lv_at hl 0 rfl) ?_
        refine va_get (D := D) (ci := 4) (v := .ref (a 17)) (C := RX4) (T := TX4) (N := 5) hx hb hts (by decide +kernel) hown hK.1 hP 0 rfl rfl 3 (by decide) (hts (.fieldLink RX4 33 "Turbineorchard" "ledger" "LTurbineorchard$Ledger;") (by decide +kernel)) (fun _ h9 => h9) rfl dX4_ofHour_75 ?_
        refine lv_iload_n hx hb dX4_ofHour_78 rfl (lv_at hl 1 rfl) ?_
        refine k_rd (As := [.int (nI (cl k))]) (rest := []) (nL := 3) ⟨hx, hb, hml, hown, hts⟩ hK hP (c_X2_imbalanceOf l D a cI cZ sl pr mk pc (cl k) (by omega)) [17, 18, 19, 20] rfl 17 rfl rfl rfl (cwV 1 hts gX4_ofHour_X2_imbalanceOf rfl rfl rfl (by decide +kernel) ⟨Nat.le_of_ble_eq_true rfl, Nat.le_of_ble_eq_true rfl⟩) rfl hl.1 rfl (Nat.le_of_ble_eq_true rfl) dX4_ofHour_79 ⟨Nat.zero_le _, Nat.zero_le _⟩ (fun r9 hr9 => ?_)
        subst hr9
        exact k_endXi (ty := .int) hx hb hr hlocks (rfl) (⟨by unfold cOfHour; rw [if_pos ⟨c_5, c_14⟩], rfl⟩) hP hD hS dX4_ofHour_82
      · subst w9
        refine lv_tableOut (tgt := 83) hx hb dX4_ofHour_28 (by decide) (by decide) ?_
        refine lv_aload_n hx hb dX4_ofHour_83 rfl (lv_at hl 0 rfl) ?_
        refine va_get (D := D) (ci := 4) (v := .ref (a 17)) (C := RX4) (T := TX4) (N := 5) hx hb hts (by decide +kernel) hown hK.1 hP 0 rfl rfl 3 (by decide) (hts (.fieldLink RX4 33 "Turbineorchard" "ledger" "LTurbineorchard$Ledger;") (by decide +kernel)) (fun _ h9 => h9) rfl dX4_ofHour_84 ?_
        refine lv_iload_n hx hb dX4_ofHour_87 rfl (lv_at hl 1 rfl) ?_
        refine k_rd (As := [.int (nI (cl k))]) (rest := []) (nL := 3) ⟨hx, hb, hml, hown, hts⟩ hK hP (c_X2_proceedsOf l D a cI cZ sl pr mk pc (cl k) (by omega)) [17, 18, 19, 20] rfl 17 rfl rfl rfl (cwV 1 hts gX4_ofHour_X2_proceedsOf rfl rfl rfl (by decide +kernel) ⟨Nat.le_of_ble_eq_true rfl, Nat.le_of_ble_eq_true rfl⟩) rfl hl.1 rfl (Nat.le_of_ble_eq_true rfl) dX4_ofHour_88 ⟨Nat.zero_le _, Nat.zero_le _⟩ (fun r9 hr9 => ?_)
        subst hr9
        exact k_endXi (ty := .int) hx hb hr hlocks (rfl) (⟨by unfold cOfHour; rw [if_pos ⟨c_5, c_14⟩], rfl⟩) hP hD hS dX4_ofHour_91
    · have c_14 := bI_0 c_14
      exact k_throw (k := 0) (text := "hour or what is out of range") hx hb hflag hown (by decide +kernel) (hts (.classLink RX4 68 kIAE) (by decide +kernel)) (hts (.initialized kIAE) (by decide +kernel)) (by decide +kernel) (fun w h => hts w (List.mem_cons_of_mem _ (List.mem_append_right _ h))) hX hP hD (hl.1.trans hml.symm) dX4_ofHour_17 dX4_ofHour_20 dX4_ofHour_21 dX4_ofHour_23 dX4_ofHour_26 hxt (Nat.le_of_ble_eq_true rfl) (Nat.le_of_ble_eq_true rfl) (Nat.le_of_ble_eq_true rfl) (Nat.le_of_ble_eq_true rfl) hlocks (by unfold cOfHour; rw [if_neg (fun q => c_14 q.2)]) rfl

set_option maxHeartbeats 4000000 in
set_option maxRecDepth 100000 in
theorem c_X4_ratio (l : Launch) (D : va_G) (a : Nat → Nat) (cI cZ : ClassId) (sz : Nat) (sp : Nat → Int32) (we : Nat → Int32) (tw : Nat → Int32) (ta : Nat → Int32) (pl : Nat → Int32) (br : Nat → Int32) (st : Nat → Int32) (md : Nat → Int32) (bc : Int32) (tu : Nat → Int32) (le : Nat → Int32) (cr : Nat → Int32) (to : Nat → Int32) (ia : Nat → Int32) (sl : Nat → Int32) (pr : Nat → Int32) (mk : Nat → Int32) (pc : Int64) (n : Nat) (h : Nat) (k : Int32) (hflag : l.stackTraces = false) (hn : n ≤ 12) (hh : h < 480) : kXf l yX4_ratio wsX4_ratio ({ frames := 6, cells := 1, slots := 6, locals := 82 }) [.ref (a 0), .int k] D cI cZ sz (wT a cI cZ (nI h) ++ (wW a cI cZ sp we tw ++ (wF a cI cZ ta pl br st md (nI n) bc ++ (wE a cI cZ tu le cr to ia ++ (wG a cI cZ sl pr mk pc))))) (wT a cI cZ (nI h) ++ (wW a cI cZ sp we tw ++ (wF a cI cZ ta pl br st md (nI n) bc ++ (wE a cI cZ tu le cr to ia ++ (wG a cI cZ sl pr mk pc))))) (cRatio h k) [kIAE] (fun r => r = fRatio sl mk (cl k)) := by
  refine vx_ofW (cc := cX4_ratio) (maxL := 2) (ret := (some .float)) (by decide) rfl ?_
  intro p e s m args below meth c s₁ B hml hxt hv
  obtain ⟨rfl, ⟨hsz, hP, hK, hD0⟩, hX⟩ := hv
  have hx := B.exec
  have hb := B.bytes
  have hr := B.returns
  have hts := atoms_spec (ws := wsX4_ratio) B.pre
  have hown : s.vm.findClass RX4 = some m.cls := findClass_of_methodNamed B.named
  have hlocks := B.notSynchronized
  subst hsz
  have hD := hD0.self (sz := s.heap.size)
  generalize hAe : va_A (wT a cI cZ (nI h) ++ (wW a cI cZ sp we tw ++ (wF a cI cZ ta pl br st md (nI n) bc ++ (wE a cI cZ tu le cr to ia ++ (wG a cI cZ sl pr mk pc))))) s.heap.size = A at hD hX ⊢
  have hA : ∀ q : Nat, s.heap.size ≤ q → A q := fun q h => by rw [← hAe]; exact Or.inr h
  have hS : va_S A s.heap s.heap [] := va_S.rf
  have hl := lv_entry ([.ref (a 0), .int k]) (n := 2) (Nat.le_of_ble_eq_true rfl)
  rw [lg_entry_eq]
  generalize (lg_sl ([.ref (a 0), .int k]) ++ List.replicate (2 - (lg_sl ([.ref (a 0), .int k])).length) Slot.unset).toArray = ls at hl ⊢
  have hl : lv_has ls 2 [(0, .ref (a 0)), (1, .int k)] := hl
  refine lv_aload_n hx hb dX4_ratio_0 rfl (lv_at hl 0 rfl) ?_
  refine lv_iload_n hx hb dX4_ratio_1 rfl (lv_at hl 1 rfl) ?_
  refine k_rd (As := [.int k]) (rest := []) (nL := 2) ⟨hx, hb, hml, hown, hts⟩ hK hP (c_X4_isOver l D a cI cZ h k) [0] rfl 0 rfl rfl rfl (cwV 1 hts gX4_ratio_X4_isOver rfl rfl rfl (by decide +kernel) ⟨Nat.le_of_ble_eq_true rfl, Nat.le_of_ble_eq_true rfl⟩) rfl hl.1 rfl (Nat.le_of_ble_eq_true rfl) dX4_ratio_2 ⟨Nat.zero_le _, Nat.zero_le _⟩ (fun r9 hr9 => ?_)
  subst hr9
  refine lv_if_ne (tgt := 18) hx hb dX4_ratio_5 (by decide) (fun c_5 => ?_) (fun c_5 => ?_)
  · have c_5 := bI_n c_5
    have hq := over_cl (by omega) c_5
    rw [hq.1] at hl
    refine lv_aload_n hx hb dX4_ratio_18 rfl (lv_at hl 0 rfl) ?_
    refine va_get (D := D) (ci := 4) (v := .ref (a 17)) (C := RX4) (T := TX4) (N := 5) hx hb hts (by decide +kernel) hown hK.1 hP 0 rfl rfl 3 (by decide) (hts (.fieldLink RX4 33 "Turbineorchard" "ledger" "LTurbineorchard$Ledger;") (by decide +kernel)) (fun _ h9 => h9) rfl dX4_ratio_19 ?_
    refine lv_iload_n hx hb dX4_ratio_22 rfl (lv_at hl 1 rfl) ?_
    refine k_rdf (As := [.int (nI (cl k))]) (rest := []) (nL := 2) ⟨hx, hb, hml, hown, hts⟩ hK hP (c_X2_madeToSold l D a cI cZ sl pr mk pc (cl k) (by omega)) [17, 18, 19, 20] rfl 17 rfl rfl rfl (cwV 1 hts gX4_ratio_X2_madeToSold rfl rfl rfl (by decide +kernel) ⟨Nat.le_of_ble_eq_true rfl, Nat.le_of_ble_eq_true rfl⟩) rfl hl.1 rfl (Nat.le_of_ble_eq_true rfl) dX4_ratio_23 ⟨Nat.zero_le _, Nat.zero_le _⟩ (fun r9 hr9 => ?_)
    subst hr9
    exact k_endXf hx hb hr hlocks (⟨by unfold cRatio; rw [if_pos c_5], rfl⟩) hP hD hS dX4_ratio_26
  · have c_5 := bI_0 c_5
    exact k_throw (k := 0) (text := "hour is out of range") hx hb hflag hown (by decide +kernel) (hts (.classLink RX4 68 kIAE) (by decide +kernel)) (hts (.initialized kIAE) (by decide +kernel)) (by decide +kernel) (fun w h => hts w (List.mem_cons_of_mem _ (List.mem_append_right _ h))) hX hP hD (hl.1.trans hml.symm) dX4_ratio_8 dX4_ratio_11 dX4_ratio_12 dX4_ratio_14 dX4_ratio_17 hxt (Nat.le_of_ble_eq_true rfl) (Nat.le_of_ble_eq_true rfl) (Nat.le_of_ble_eq_true rfl) (Nat.le_of_ble_eq_true rfl) hlocks (by unfold cRatio; rw [if_neg c_5]) rfl

set_option maxHeartbeats 4000000 in
set_option maxRecDepth 100000 in
theorem c_X4_ofBoat (l : Launch) (D : va_G) (a : Nat → Nat) (cI cZ : ClassId) (sz : Nat) (sp : Nat → Int32) (we : Nat → Int32) (tw : Nat → Int32) (ta : Nat → Int32) (pl : Nat → Int32) (br : Nat → Int32) (st : Nat → Int32) (md : Nat → Int32) (bc : Int32) (tu : Nat → Int32) (le : Nat → Int32) (cr : Nat → Int32) (to : Nat → Int32) (ia : Nat → Int32) (sl : Nat → Int32) (pr : Nat → Int32) (mk : Nat → Int32) (pc : Int64) (n : Nat) (h : Nat) (b : Int32) (w : Int32) (hflag : l.stackTraces = false) (hn : n ≤ 12) (hh : h < 480) : kXi l yX4_ofBoat wsX4_ofBoat ({ frames := 6, cells := 1, slots := 6, locals := 82 }) [.ref (a 0), .int b, .int w] D cI cZ sz (wT a cI cZ (nI h) ++ (wW a cI cZ sp we tw ++ (wF a cI cZ ta pl br st md (nI n) bc ++ (wE a cI cZ tu le cr to ia ++ (wG a cI cZ sl pr mk pc))))) (wT a cI cZ (nI h) ++ (wW a cI cZ sp we tw ++ (wF a cI cZ ta pl br st md (nI n) bc ++ (wE a cI cZ tu le cr to ia ++ (wG a cI cZ sl pr mk pc))))) (cOfBoat b w) [kIOB, kIAE] (fun r => r = vOfBoat tu le to ia (cl b) w) := by
  refine vx_ofW (cc := cX4_ofBoat) (maxL := 3) (ret := (some .int)) (by decide) rfl ?_
  intro p e s m args below meth c s₁ B hml hxt hv
  obtain ⟨rfl, ⟨hsz, hP, hK, hD0⟩, hX⟩ := hv
  have hx := B.exec
  have hb := B.bytes
  have hr := B.returns
  have hts := atoms_spec (ws := wsX4_ofBoat) B.pre
  have hown : s.vm.findClass RX4 = some m.cls := findClass_of_methodNamed B.named
  have hlocks := B.notSynchronized
  subst hsz
  have hD := hD0.self (sz := s.heap.size)
  generalize hAe : va_A (wT a cI cZ (nI h) ++ (wW a cI cZ sp we tw ++ (wF a cI cZ ta pl br st md (nI n) bc ++ (wE a cI cZ tu le cr to ia ++ (wG a cI cZ sl pr mk pc))))) s.heap.size = A at hD hX ⊢
  have hA : ∀ q : Nat, s.heap.size ≤ q → A q := fun q h => by rw [← hAe]; exact Or.inr h
  have hS : va_S A s.heap s.heap [] := va_S.rf
  have hl := lv_entry ([.ref (a 0), .int b, .int w]) (n := 3) (Nat.le_of_ble_eq_true rfl)
  rw [lg_entry_eq]
  generalize (lg_sl ([.ref (a 0), .int b, .int w]) ++ List.replicate (3 - (lg_sl ([.ref (a 0), .int b, .int w])).length) Slot.unset).toArray = ls at hl ⊢
  have hl : lv_has ls 3 [(0, .ref (a 0)), (1, .int b), (2, .int w)] := hl
  refine lv_iload_n hx hb dX4_ofBoat_0 rfl (lv_at hl 1 rfl) ?_
  refine k_ps (As := [.int b]) (rest := []) (nL := 3) ⟨hx, hb, hml, hown, hts⟩ (c_X4_isBoat l b) (va_cwS 1 hts gX4_ofBoat_X4_isBoat rfl rfl rfl (by decide +kernel) ⟨Nat.le_of_ble_eq_true rfl, Nat.le_of_ble_eq_true rfl⟩) rfl hl.1 rfl (Nat.le_of_ble_eq_true rfl) dX4_ofBoat_1 ⟨Nat.zero_le _, Nat.zero_le _⟩ (fun r9 hr9 => ?_)
  subst hr9
  refine lv_if_ne (tgt := 17) hx hb dX4_ofBoat_4 (by decide) (fun c_4 => ?_) (fun c_4 => ?_)
  · have c_4 := bI_n c_4
    refine lv_iload_n hx hb dX4_ofBoat_17 rfl (lv_at hl 2 rfl) ?_
    refine lv_iconst (v := 0) hx hb dX4_ofBoat_18 (by decide) ?_
    refine lv_iconst (v := 3) hx hb dX4_ofBoat_19 (by decide) ?_
    refine k_ps (As := [.int w, .int 0, .int 3]) (rest := []) (nL := 3) ⟨hx, hb, hml, hown, hts⟩ (c_X4_isWithin l w 0 3) (va_cwS 3 hts gX4_ofBoat_X4_isWithin rfl rfl rfl (by decide +kernel) ⟨Nat.le_of_ble_eq_true rfl, Nat.le_of_ble_eq_true rfl⟩) rfl hl.1 rfl (Nat.le_of_ble_eq_true rfl) dX4_ofBoat_20 ⟨Nat.zero_le _, Nat.zero_le _⟩ (fun r9 hr9 => ?_)
    subst hr9
    refine lv_if_ne (tgt := 36) hx hb dX4_ofBoat_23 (by decide) (fun c_23 => ?_) (fun c_23 => ?_)
    · have c_23 := bI_n c_23
      have hq := cl_rng (n := 0) (m := 2) (by decide) (by decide) c_4
      rw [hq.1] at hl
      refine lv_iload_n hx hb dX4_ofBoat_36 rfl (lv_at hl 2 rfl) ?_
      rcases four c_23 with w9 | w9 | w9 | w9
      · subst w9
        refine lv_tableIn (tgt := 64) (off := 27) hx hb dX4_ofBoat_37 (by decide) (by decide) (by decide) (by decide) ?_
        refine lv_aload_n hx hb dX4_ofBoat_64 rfl (lv_at hl 0 rfl) ?_
        refine va_get (D := D) (ci := 4) (v := .ref (a 11)) (C := RX4) (T := TX4) (N := 5) hx hb hts (by decide +kernel) hown hK.1 hP 0 rfl rfl 2 (by decide) (hts (.fieldLink RX4 26 "Turbineorchard" "fleet" "LTurbineorchard$Fleet;") (by decide +kernel)) (fun _ h9 => h9) rfl dX4_ofBoat_65 ?_
        refine lv_iload_n hx hb dX4_ofBoat_68 rfl (lv_at hl 1 rfl) ?_
        refine k_rd (As := [.int (nI (cl b))]) (rest := []) (nL := 3) ⟨hx, hb, hml, hown, hts⟩ hK hP (c_X1_turbineOf l D a cI cZ tu le cr to ia (cl b) (by omega)) [11, 12, 13, 14, 15, 16] rfl 11 rfl rfl rfl (cwV 1 hts gX4_ofBoat_X1_turbineOf rfl rfl rfl (by decide +kernel) ⟨Nat.le_of_ble_eq_true rfl, Nat.le_of_ble_eq_true rfl⟩) rfl hl.1 rfl (Nat.le_of_ble_eq_true rfl) dX4_ofBoat_69 ⟨Nat.zero_le _, Nat.zero_le _⟩ (fun r9 hr9 => ?_)
        subst hr9
        exact k_endXi (ty := .int) hx hb hr hlocks (rfl) (⟨by unfold cOfBoat; rw [if_pos c_4, if_pos c_23], rfl⟩) hP hD hS dX4_ofBoat_72
      · subst w9
        refine lv_tableIn (tgt := 73) (off := 36) hx hb dX4_ofBoat_37 (by decide) (by decide) (by decide) (by decide) ?_
        refine lv_aload_n hx hb dX4_ofBoat_73 rfl (lv_at hl 0 rfl) ?_
        refine va_get (D := D) (ci := 4) (v := .ref (a 11)) (C := RX4) (T := TX4) (N := 5) hx hb hts (by decide +kernel) hown hK.1 hP 0 rfl rfl 2 (by decide) (hts (.fieldLink RX4 26 "Turbineorchard" "fleet" "LTurbineorchard$Fleet;") (by decide +kernel)) (fun _ h9 => h9) rfl dX4_ofBoat_74 ?_
        refine lv_iload_n hx hb dX4_ofBoat_77 rfl (lv_at hl 1 rfl) ?_
        refine k_rd (As := [.int (nI (cl b))]) (rest := []) (nL := 3) ⟨hx, hb, hml, hown, hts⟩ hK hP (c_X1_hoursLeft l D a cI cZ tu le cr to ia (cl b) (by omega)) [11, 12, 13, 14, 15, 16] rfl 11 rfl rfl rfl (cwV 1 hts gX4_ofBoat_X1_hoursLeft rfl rfl rfl (by decide +kernel) ⟨Nat.le_of_ble_eq_true rfl, Nat.le_of_ble_eq_true rfl⟩) rfl hl.1 rfl (Nat.le_of_ble_eq_true rfl) dX4_ofBoat_78 ⟨Nat.zero_le _, Nat.zero_le _⟩ (fun r9 hr9 => ?_)
        subst hr9
        exact k_endXi (ty := .int) hx hb hr hlocks (rfl) (⟨by unfold cOfBoat; rw [if_pos c_4, if_pos c_23], rfl⟩) hP hD hS dX4_ofBoat_81
      · subst w9
        refine lv_tableIn (tgt := 82) (off := 45) hx hb dX4_ofBoat_37 (by decide) (by decide) (by decide) (by decide) ?_
        refine lv_aload_n hx hb dX4_ofBoat_82 rfl (lv_at hl 0 rfl) ?_
        refine va_get (D := D) (ci := 4) (v := .ref (a 11)) (C := RX4) (T := TX4) (N := 5) hx hb hts (by decide +kernel) hown hK.1 hP 0 rfl rfl 2 (by decide) (hts (.fieldLink RX4 26 "Turbineorchard" "fleet" "LTurbineorchard$Fleet;") (by decide +kernel)) (fun _ h9 => h9) rfl dX4_ofBoat_83 ?_
        refine lv_iload_n hx hb dX4_ofBoat_86 rfl (lv_at hl 1 rfl) ?_
        refine k_rd (As := [.int (nI (cl b))]) (rest := []) (nL := 3) ⟨hx, hb, hml, hown, hts⟩ hK hP (c_X1_workedToday l D a cI cZ tu le cr to ia (cl b) (by omega)) [11, 12, 13, 14, 15, 16] rfl 11 rfl rfl rfl (cwV 1 hts gX4_ofBoat_X1_workedToday rfl rfl rfl (by decide +kernel) ⟨Nat.le_of_ble_eq_true rfl, Nat.le_of_ble_eq_true rfl⟩) rfl hl.1 rfl (Nat.le_of_ble_eq_true rfl) dX4_ofBoat_87 ⟨Nat.zero_le _, Nat.zero_le _⟩ (fun r9 hr9 => ?_)
        subst hr9
        exact k_endXi (ty := .int) hx hb hr hlocks (rfl) (⟨by unfold cOfBoat; rw [if_pos c_4, if_pos c_23], rfl⟩) hP hD hS dX4_ofBoat_90
      · subst w9
        refine lv_tableOut (tgt := 91) hx hb dX4_ofBoat_37 (by decide) (by decide) ?_
        refine lv_aload_n hx hb dX4_ofBoat_91 rfl (lv_at hl 0 rfl) ?_
        refine va_get (D := D) (ci := 4) (v := .ref (a 11)) (C := RX4) (T := TX4) (N := 5) hx hb hts (by decide +kernel) hown hK.1 hP 0 rfl rfl 2 (by decide) (hts (.fieldLink RX4 26 "Turbineorchard" "fleet" "LTurbineorchard$Fleet;") (by decide +kernel)) (fun _ h9 => h9) rfl dX4_ofBoat_92 ?_
        refine lv_iload_n hx hb dX4_ofBoat_95 rfl (lv_at hl 1 rfl) ?_
        refine k_rd (As := [.int (nI (cl b))]) (rest := []) (nL := 3) ⟨hx, hb, hml, hown, hts⟩ hK hP (c_X1_workedInAll l D a cI cZ tu le cr to ia (cl b) (by omega)) [11, 12, 13, 14, 15, 16] rfl 11 rfl rfl rfl (cwV 1 hts gX4_ofBoat_X1_workedInAll rfl rfl rfl (by decide +kernel) ⟨Nat.le_of_ble_eq_true rfl, Nat.le_of_ble_eq_true rfl⟩) rfl hl.1 rfl (Nat.le_of_ble_eq_true rfl) dX4_ofBoat_96 ⟨Nat.zero_le _, Nat.zero_le _⟩ (fun r9 hr9 => ?_)
        subst hr9
        exact k_endXi (ty := .int) hx hb hr hlocks (rfl) (⟨by unfold cOfBoat; rw [if_pos c_4, if_pos c_23], rfl⟩) hP hD hS dX4_ofBoat_99
    · have c_23 := bI_0 c_23
      exact k_throw (k := 1) (text := "what is out of range") hx hb hflag hown (by decide +kernel) (hts (.classLink RX4 68 kIAE) (by decide +kernel)) (hts (.initialized kIAE) (by decide +kernel)) (by decide +kernel) (fun w h => hts w (List.mem_cons_of_mem _ (List.mem_append_right _ h))) hX hP hD (hl.1.trans hml.symm) dX4_ofBoat_26 dX4_ofBoat_29 dX4_ofBoat_30 dX4_ofBoat_32 dX4_ofBoat_35 hxt (Nat.le_of_ble_eq_true rfl) (Nat.le_of_ble_eq_true rfl) (Nat.le_of_ble_eq_true rfl) (Nat.le_of_ble_eq_true rfl) hlocks (by unfold cOfBoat; rw [if_pos c_4, if_neg c_23]) rfl
  · have c_4 := bI_0 c_4
    exact k_throw (k := 0) (text := "no such boat") hx hb hflag hown (by decide +kernel) (hts (.classLink RX4 45 kIOB) (by decide +kernel)) (hts (.initialized kIOB) (by decide +kernel)) (by decide +kernel) (fun w h => hts w (List.mem_cons_of_mem _ (List.mem_append_left _ (List.mem_append_right _ h)))) hX hP hD (hl.1.trans hml.symm) dX4_ofBoat_7 dX4_ofBoat_10 dX4_ofBoat_11 dX4_ofBoat_13 dX4_ofBoat_16 hxt (Nat.le_of_ble_eq_true rfl) (Nat.le_of_ble_eq_true rfl) (Nat.le_of_ble_eq_true rfl) (Nat.le_of_ble_eq_true rfl) hlocks (by unfold cOfBoat; rw [if_neg c_4]) rfl

set_option maxHeartbeats 4000000 in
set_option maxRecDepth 100000 in
theorem c_X4_ofTurbine (l : Launch) (D : va_G) (a : Nat → Nat) (cI cZ : ClassId) (sz : Nat) (sp : Nat → Int32) (we : Nat → Int32) (tw : Nat → Int32) (ta : Nat → Int32) (pl : Nat → Int32) (br : Nat → Int32) (st : Nat → Int32) (md : Nat → Int32) (bc : Int32) (tu : Nat → Int32) (le : Nat → Int32) (cr : Nat → Int32) (to : Nat → Int32) (ia : Nat → Int32) (sl : Nat → Int32) (pr : Nat → Int32) (mk : Nat → Int32) (pc : Int64) (n : Nat) (h : Nat) (t : Int32) (w : Int32) (hflag : l.stackTraces = false) (hn : n ≤ 12) (hh : h < 480) (hbr : ∀ k, br k = 0 ∨ br k = 1) : kXi l yX4_ofTurbine wsX4_ofTurbine ({ frames := 6, cells := 1, slots := 6, locals := 82 }) [.ref (a 0), .int t, .int w] D cI cZ sz (wT a cI cZ (nI h) ++ (wW a cI cZ sp we tw ++ (wF a cI cZ ta pl br st md (nI n) bc ++ (wE a cI cZ tu le cr to ia ++ (wG a cI cZ sl pr mk pc))))) (wT a cI cZ (nI h) ++ (wW a cI cZ sp we tw ++ (wF a cI cZ ta pl br st md (nI n) bc ++ (wE a cI cZ tu le cr to ia ++ (wG a cI cZ sl pr mk pc))))) (cOfTurb n t w) [kIOB, kIAE] (fun r => r = vOfTurb pl br md (cl t) w) := by
  refine vx_ofW (cc := cX4_ofTurbine) (maxL := 3) (ret := (some .int)) (by decide) rfl ?_
  intro p e s m args below meth c s₁ B hml hxt hv
  obtain ⟨rfl, ⟨hsz, hP, hK, hD0⟩, hX⟩ := hv
  have hx := B.exec
  have hb := B.bytes
  have hr := B.returns
  have hts := atoms_spec (ws := wsX4_ofTurbine) B.pre
  have hown : s.vm.findClass RX4 = some m.cls := findClass_of_methodNamed B.named
  have hlocks := B.notSynchronized
  subst hsz
  have hD := hD0.self (sz := s.heap.size)
  generalize hAe : va_A (wT a cI cZ (nI h) ++ (wW a cI cZ sp we tw ++ (wF a cI cZ ta pl br st md (nI n) bc ++ (wE a cI cZ tu le cr to ia ++ (wG a cI cZ sl pr mk pc))))) s.heap.size = A at hD hX ⊢
  have hA : ∀ q : Nat, s.heap.size ≤ q → A q := fun q h => by rw [← hAe]; exact Or.inr h
  have hS : va_S A s.heap s.heap [] := va_S.rf
  have hl := lv_entry ([.ref (a 0), .int t, .int w]) (n := 3) (Nat.le_of_ble_eq_true rfl)
  rw [lg_entry_eq]
  generalize (lg_sl ([.ref (a 0), .int t, .int w]) ++ List.replicate (3 - (lg_sl ([.ref (a 0), .int t, .int w])).length) Slot.unset).toArray = ls at hl ⊢
  have hl : lv_has ls 3 [(0, .ref (a 0)), (1, .int t), (2, .int w)] := hl
  refine lv_aload_n hx hb dX4_ofTurbine_0 rfl (lv_at hl 0 rfl) ?_
  refine va_get (D := D) (ci := 4) (v := .ref (a 5)) (C := RX4) (T := TX4) (N := 5) hx hb hts (by decide +kernel) hown hK.1 hP 0 rfl rfl 1 (by decide) (hts (.fieldLink RX4 19 "Turbineorchard" "field" "LTurbineorchard$Field;") (by decide +kernel)) (fun _ h9 => h9) rfl dX4_ofTurbine_1 ?_
  refine lv_iload_n hx hb dX4_ofTurbine_4 rfl (lv_at hl 1 rfl) ?_
  refine k_rd (As := [.int t]) (rest := []) (nL := 3) ⟨hx, hb, hml, hown, hts⟩ hK hP (c_X0_has l D a cI cZ ta pl br st md bc n t (hn)) [5, 6, 7, 8, 9, 10] rfl 5 rfl rfl rfl (cwV 1 hts gX4_ofTurbine_X0_has rfl rfl rfl (by decide +kernel) ⟨Nat.le_of_ble_eq_true rfl, Nat.le_of_ble_eq_true rfl⟩) rfl hl.1 rfl (Nat.le_of_ble_eq_true rfl) dX4_ofTurbine_5 ⟨Nat.zero_le _, Nat.zero_le _⟩ (fun r9 hr9 => ?_)
  subst hr9
  refine lv_if_ne (tgt := 21) hx hb dX4_ofTurbine_8 (by decide) (fun c_8 => ?_) (fun c_8 => ?_)
  · have c_8 := bI_n c_8
    refine lv_iload_n hx hb dX4_ofTurbine_21 rfl (lv_at hl 2 rfl) ?_
    refine lv_iconst (v := 0) hx hb dX4_ofTurbine_22 (by decide) ?_
    refine lv_iconst (v := 2) hx hb dX4_ofTurbine_23 (by decide) ?_
    refine k_ps (As := [.int w, .int 0, .int 2]) (rest := []) (nL := 3) ⟨hx, hb, hml, hown, hts⟩ (c_X4_isWithin l w 0 2) (va_cwS 3 hts gX4_ofTurbine_X4_isWithin rfl rfl rfl (by decide +kernel) ⟨Nat.le_of_ble_eq_true rfl, Nat.le_of_ble_eq_true rfl⟩) rfl hl.1 rfl (Nat.le_of_ble_eq_true rfl) dX4_ofTurbine_24 ⟨Nat.zero_le _, Nat.zero_le _⟩ (fun r9 hr9 => ?_)
    subst hr9
    refine lv_if_ne (tgt := 40) hx hb dX4_ofTurbine_27 (by decide) (fun c_27 => ?_) (fun c_27 => ?_)
    · have c_27 := bI_n c_27
      have hq := has_cl hn c_8
      rw [hq.1] at hl
      refine lv_iload_n hx hb dX4_ofTurbine_40 rfl (lv_at hl 2 rfl) ?_
      rcases three c_27 with w9 | w9 | w9
      · subst w9
        refine lv_lookup (tgt := 68) (off := 27) hx hb dX4_ofTurbine_41 (by decide) (by decide) (by decide) ?_
        refine lv_aload_n hx hb dX4_ofTurbine_68 rfl (lv_at hl 0 rfl) ?_
        refine va_get (D := D) (ci := 4) (v := .ref (a 5)) (C := RX4) (T := TX4) (N := 5) hx hb hts (by decide +kernel) hown hK.1 hP 0 rfl rfl 1 (by decide) (hts (.fieldLink RX4 19 "Turbineorchard" "field" "LTurbineorchard$Field;") (by decide +kernel)) (fun _ h9 => h9) rfl dX4_ofTurbine_69 ?_
        refine lv_iload_n hx hb dX4_ofTurbine_72 rfl (lv_at hl 1 rfl) ?_
        refine k_rd (As := [.int (nI (cl t))]) (rest := []) (nL := 3) ⟨hx, hb, hml, hown, hts⟩ hK hP (c_X0_placeOf l D a cI cZ ta pl br st md bc n (cl t) (hn) (by omega)) [5, 6, 7, 8, 9, 10] rfl 5 rfl rfl rfl (cwV 1 hts gX4_ofTurbine_X0_placeOf rfl rfl rfl (by decide +kernel) ⟨Nat.le_of_ble_eq_true rfl, Nat.le_of_ble_eq_true rfl⟩) rfl hl.1 rfl (Nat.le_of_ble_eq_true rfl) dX4_ofTurbine_73 ⟨Nat.zero_le _, Nat.zero_le _⟩ (fun r9 hr9 => ?_)
        subst hr9
        exact k_endXi (ty := .int) hx hb hr hlocks (rfl) (⟨by unfold cOfTurb; rw [if_pos c_8, if_pos c_27], rfl⟩) hP hD hS dX4_ofTurbine_76
      · subst w9
        refine lv_lookup (tgt := 77) (off := 36) hx hb dX4_ofTurbine_41 (by decide) (by decide) (by decide) ?_
        refine lv_aload_n hx hb dX4_ofTurbine_77 rfl (lv_at hl 0 rfl) ?_
        refine va_get (D := D) (ci := 4) (v := .ref (a 5)) (C := RX4) (T := TX4) (N := 5) hx hb hts (by decide +kernel) hown hK.1 hP 0 rfl rfl 1 (by decide) (hts (.fieldLink RX4 19 "Turbineorchard" "field" "LTurbineorchard$Field;") (by decide +kernel)) (fun _ h9 => h9) rfl dX4_ofTurbine_78 ?_
        refine lv_iload_n hx hb dX4_ofTurbine_81 rfl (lv_at hl 1 rfl) ?_
        refine k_rd (As := [.int (nI (cl t))]) (rest := []) (nL := 3) ⟨hx, hb, hml, hown, hts⟩ hK hP (c_X0_isBroken l D a cI cZ ta pl br st md bc n (cl t) (hn) (by omega) (hbr _)) [5, 6, 7, 8, 9, 10] rfl 5 rfl rfl rfl (cwV 1 hts gX4_ofTurbine_X0_isBroken rfl rfl rfl (by decide +kernel) ⟨Nat.le_of_ble_eq_true rfl, Nat.le_of_ble_eq_true rfl⟩) rfl hl.1 rfl (Nat.le_of_ble_eq_true rfl) dX4_ofTurbine_82 ⟨Nat.zero_le _, Nat.zero_le _⟩ (fun r9 hr9 => ?_)
        subst hr9
        refine lv_if_eq (tgt := 92) hx hb dX4_ofTurbine_85 (by decide) (fun c_85 => ?_) (fun c_85 => ?_)
        · refine lv_iconst (v := 0) hx hb dX4_ofTurbine_92 (by decide) ?_
          exact k_endXi (ty := .int) hx hb hr hlocks (rfl) (⟨by unfold cOfTurb; rw [if_pos c_8, if_pos c_27], c_85.symm⟩) hP hD hS dX4_ofTurbine_93
        · refine lv_iconst (v := 1) hx hb dX4_ofTurbine_88 (by decide) ?_
          refine lv_goto (tgt := 93) hx hb dX4_ofTurbine_89 (by decide) ?_
          exact k_endXi (ty := .int) hx hb hr hlocks (rfl) (⟨by unfold cOfTurb; rw [if_pos c_8, if_pos c_27], ((hbr (cl t)).resolve_left c_85).symm⟩) hP hD hS dX4_ofTurbine_93
      · subst w9
        refine lv_lookup (tgt := 94) (off := 53) hx hb dX4_ofTurbine_41 (by decide) (by decide) (by decide) ?_
        refine lv_aload_n hx hb dX4_ofTurbine_94 rfl (lv_at hl 0 rfl) ?_
        refine va_get (D := D) (ci := 4) (v := .ref (a 5)) (C := RX4) (T := TX4) (N := 5) hx hb hts (by decide +kernel) hown hK.1 hP 0 rfl rfl 1 (by decide) (hts (.fieldLink RX4 19 "Turbineorchard" "field" "LTurbineorchard$Field;") (by decide +kernel)) (fun _ h9 => h9) rfl dX4_ofTurbine_95 ?_
        refine lv_iload_n hx hb dX4_ofTurbine_98 rfl (lv_at hl 1 rfl) ?_
        refine k_rd (As := [.int (nI (cl t))]) (rest := []) (nL := 3) ⟨hx, hb, hml, hown, hts⟩ hK hP (c_X0_madeInAllBy l D a cI cZ ta pl br st md bc n (cl t) (hn) (by omega)) [5, 6, 7, 8, 9, 10] rfl 5 rfl rfl rfl (cwV 1 hts gX4_ofTurbine_X0_madeInAllBy rfl rfl rfl (by decide +kernel) ⟨Nat.le_of_ble_eq_true rfl, Nat.le_of_ble_eq_true rfl⟩) rfl hl.1 rfl (Nat.le_of_ble_eq_true rfl) dX4_ofTurbine_99 ⟨Nat.zero_le _, Nat.zero_le _⟩ (fun r9 hr9 => ?_)
        subst hr9
        exact k_endXi (ty := .int) hx hb hr hlocks (rfl) (⟨by unfold cOfTurb; rw [if_pos c_8, if_pos c_27], rfl⟩) hP hD hS dX4_ofTurbine_102
    · have c_27 := bI_0 c_27
      exact k_throw (k := 1) (text := "what is out of range") hx hb hflag hown (by decide +kernel) (hts (.classLink RX4 68 kIAE) (by decide +kernel)) (hts (.initialized kIAE) (by decide +kernel)) (by decide +kernel) (fun w h => hts w (List.mem_cons_of_mem _ (List.mem_append_right _ h))) hX hP hD (hl.1.trans hml.symm) dX4_ofTurbine_30 dX4_ofTurbine_33 dX4_ofTurbine_34 dX4_ofTurbine_36 dX4_ofTurbine_39 hxt (Nat.le_of_ble_eq_true rfl) (Nat.le_of_ble_eq_true rfl) (Nat.le_of_ble_eq_true rfl) (Nat.le_of_ble_eq_true rfl) hlocks (by unfold cOfTurb; rw [if_pos c_8, if_neg c_27]) rfl
  · have c_8 := bI_0 c_8
    exact k_throw (k := 0) (text := "no such turbine") hx hb hflag hown (by decide +kernel) (hts (.classLink RX4 45 kIOB) (by decide +kernel)) (hts (.initialized kIOB) (by decide +kernel)) (by decide +kernel) (fun w h => hts w (List.mem_cons_of_mem _ (List.mem_append_left _ (List.mem_append_right _ h)))) hX hP hD (hl.1.trans hml.symm) dX4_ofTurbine_11 dX4_ofTurbine_14 dX4_ofTurbine_15 dX4_ofTurbine_17 dX4_ofTurbine_20 hxt (Nat.le_of_ble_eq_true rfl) (Nat.le_of_ble_eq_true rfl) (Nat.le_of_ble_eq_true rfl) (Nat.le_of_ble_eq_true rfl) hlocks (by unfold cOfTurb; rw [if_neg c_8]) rfl

set_option maxHeartbeats 4000000 in
set_option maxRecDepth 100000 in
theorem c_X4_pass (l : Launch) (D : va_G) (a : Nat → Nat) (cI cZ : ClassId) (sz : Nat) (sp : Nat → Int32) (we : Nat → Int32) (tw : Nat → Int32) (ta : Nat → Int32) (pl : Nat → Int32) (br : Nat → Int32) (md : Nat → Int32) (tu : Nat → Int32) (le : Nat → Int32) (cr : Nat → Int32) (to : Nat → Int32) (ia : Nat → Int32) (sl : Nat → Int32) (pr : Nat → Int32) (mk : Nat → Int32) (n : Nat) (h : Nat) (x : Int32) (hflag : l.stackTraces = false) (hn : n ≤ 12) (hh : h < 480) (hpl : ∀ k, k < n → pl k = nI (fP pl k) ∧ fP pl k < 24) (hwe : ∀ k, we k = 0 ∨ we k = 1) (hok : hOk n (mkS br md tu le to ia mk)) : kXi l yX4_pass wsX4_pass ({ frames := 6, cells := 1, slots := 6, locals := 140 }) [.ref (a 0), .int x] D cI cZ sz (wT a cI cZ (nI h) ++ (wW a cI cZ sp we tw ++ (wF a cI cZ ta pl br (fun _ => 0) md (nI n) (fSum br n) ++ (wE a cI cZ tu le cr to ia ++ (wG a cI cZ sl pr mk (fBrt sl pr mk h)))))) (wT a cI cZ (nI (h + (cl x))) ++ (wW a cI cZ sp we tw ++ (wF a cI cZ ta pl (hIt n h ta pl sp we tw cr (mkS br md tu le to ia mk) (cl x) 0) (fun _ => 0) (hIt n h ta pl sp we tw cr (mkS br md tu le to ia mk) (cl x) 1) (nI n) (fSum (hIt n h ta pl sp we tw cr (mkS br md tu le to ia mk) (cl x) 0) n) ++ (wE a cI cZ (hIt n h ta pl sp we tw cr (mkS br md tu le to ia mk) (cl x) 2) (hIt n h ta pl sp we tw cr (mkS br md tu le to ia mk) (cl x) 3) cr (hIt n h ta pl sp we tw cr (mkS br md tu le to ia mk) (cl x) 4) (hIt n h ta pl sp we tw cr (mkS br md tu le to ia mk) (cl x) 5) ++ (wG a cI cZ sl pr (hIt n h ta pl sp we tw cr (mkS br md tu le to ia mk) (cl x) 6) (fBrt sl pr (hIt n h ta pl sp we tw cr (mkS br md tu le to ia mk) (cl x) 6) (h + (cl x)))))))) (cPass h x) [kIAE, kISE] (fun r => r = nI (h + cl x)) := by
  refine vx_ofW (cc := cX4_pass) (maxL := 3) (ret := (some .int)) (by decide) rfl ?_
  intro p e s m args below meth c s₁ B hml hxt hv
  obtain ⟨rfl, ⟨hsz, hP, hK, hD0⟩, hX⟩ := hv
  have hx := B.exec
  have hb := B.bytes
  have hr := B.returns
  have hts := atoms_spec (ws := wsX4_pass) B.pre
  have hown : s.vm.findClass RX4 = some m.cls := findClass_of_methodNamed B.named
  have hlocks := B.notSynchronized
  subst hsz
  have hD := hD0.self (sz := s.heap.size)
  generalize hAe : va_A (wT a cI cZ (nI h) ++ (wW a cI cZ sp we tw ++ (wF a cI cZ ta pl br (fun _ => 0) md (nI n) (fSum br n) ++ (wE a cI cZ tu le cr to ia ++ (wG a cI cZ sl pr mk (fBrt sl pr mk h)))))) s.heap.size = A at hD hX ⊢
  have hA : ∀ q : Nat, s.heap.size ≤ q → A q := fun q h => by rw [← hAe]; exact Or.inr h
  have hS : va_S A s.heap s.heap [] := va_S.rf
  have hl := lv_entry ([.ref (a 0), .int x]) (n := 3) (Nat.le_of_ble_eq_true rfl)
  rw [lg_entry_eq]
  generalize (lg_sl ([.ref (a 0), .int x]) ++ List.replicate (3 - (lg_sl ([.ref (a 0), .int x])).length) Slot.unset).toArray = ls at hl ⊢
  have hl : lv_has ls 3 [(0, .ref (a 0)), (1, .int x)] := hl
  refine lv_iload_n hx hb dX4_pass_0 rfl (lv_at hl 1 rfl) ?_
  refine lv_iconst (v := 1) hx hb dX4_pass_1 (by decide) ?_
  refine lv_bipush (v := 48) hx hb dX4_pass_2 (by decide) ?_
  refine k_ps (As := [.int x, .int 1, .int 48]) (rest := []) (nL := 3) ⟨hx, hb, hml, hown, hts⟩ (c_X4_isWithin l x 1 48) (va_cwS 3 hts gX4_pass_X4_isWithin rfl rfl rfl (by decide +kernel) ⟨Nat.le_of_ble_eq_true rfl, Nat.le_of_ble_eq_true rfl⟩) rfl hl.1 rfl (Nat.le_of_ble_eq_true rfl) dX4_pass_4 ⟨Nat.zero_le _, Nat.zero_le _⟩ (fun r9 hr9 => ?_)
  subst hr9
  refine lv_if_ne (tgt := 20) hx hb dX4_pass_7 (by decide) (fun c_7 => ?_) (fun c_7 => ?_)
  · have c_7 := bI_n c_7
    have hq := cl_rng (n := 1) (m := 48) (by decide) (by decide) c_7
    rw [hq.1] at hl
    refine lv_aload_n hx hb dX4_pass_20 rfl (lv_at hl 0 rfl) ?_
    refine va_get (D := D) (ci := 4) (v := .int (nI h)) (C := RX4) (T := TX4) (N := 5) hx hb hts (by decide +kernel) hown hK.1 hP 0 rfl rfl 4 (by decide) (hts (.fieldLink RX4 37 "Turbineorchard" "now" "I") (by decide +kernel)) (fun _ h9 => h9) rfl dX4_pass_21 ?_
    refine lv_iload_n hx hb dX4_pass_24 rfl (lv_at hl 1 rfl) ?_
    refine lv_iadd hx hb dX4_pass_25 ?_
    refine k_rw (y := nI (h + cl x)) (nI_add _ _) ?_
    refine lv_sipush (v := 479) hx hb dX4_pass_26 (by decide) ?_
    refine lv_icmp_le (tgt := 42) hx hb dX4_pass_29 (by decide) (fun c_29 => ?_) (fun c_29 => ?_)
    · have c_29 : h + cl x ≤ 479 := (nI_leI (a := h + cl x) (b := 479) (by omega) (by omega)).mp c_29
      refine lv_iconst (v := 0) hx hb dX4_pass_42 (by decide) ?_
      refine lv_istore_n (lv' := [(2, .int 0), (0, .ref (a 0)), (1, .int (nI (cl x)))]) hx hb dX4_pass_43 rfl hl (by decide) rfl (fun ls hl => ?_)
      have loop_44 : ∀ (nn : Nat) (k : Nat), cl x - k < nn → (k ≤ cl x) → ∀ (H : Heap) (locs : List Loc), va_P D vwCl (wT a cI cZ (nI (h + k)) ++ (wW a cI cZ sp we tw ++ (wF a cI cZ ta pl (hIt n h ta pl sp we tw cr (mkS br md tu le to ia mk) k 0) (fun _ => 0) (hIt n h ta pl sp we tw cr (mkS br md tu le to ia mk) k 1) (nI n) (fSum (hIt n h ta pl sp we tw cr (mkS br md tu le to ia mk) k 0) n) ++ (wE a cI cZ (hIt n h ta pl sp we tw cr (mkS br md tu le to ia mk) k 2) (hIt n h ta pl sp we tw cr (mkS br md tu le to ia mk) k 3) cr (hIt n h ta pl sp we tw cr (mkS br md tu le to ia mk) k 4) (hIt n h ta pl sp we tw cr (mkS br md tu le to ia mk) k 5) ++ (wG a cI cZ sl pr (hIt n h ta pl sp we tw cr (mkS br md tu le to ia mk) k 6) (fBrt sl pr (hIt n h ta pl sp we tw cr (mkS br md tu le to ia mk) k 6) (h + k))))))) H → va_D A (wT a cI cZ (nI (h + k)) ++ (wW a cI cZ sp we tw ++ (wF a cI cZ ta pl (hIt n h ta pl sp we tw cr (mkS br md tu le to ia mk) k 0) (fun _ => 0) (hIt n h ta pl sp we tw cr (mkS br md tu le to ia mk) k 1) (nI n) (fSum (hIt n h ta pl sp we tw cr (mkS br md tu le to ia mk) k 0) n) ++ (wE a cI cZ (hIt n h ta pl sp we tw cr (mkS br md tu le to ia mk) k 2) (hIt n h ta pl sp we tw cr (mkS br md tu le to ia mk) k 3) cr (hIt n h ta pl sp we tw cr (mkS br md tu le to ia mk) k 4) (hIt n h ta pl sp we tw cr (mkS br md tu le to ia mk) k 5) ++ (wG a cI cZ sl pr (hIt n h ta pl sp we tw cr (mkS br md tu le to ia mk) k 6) (fBrt sl pr (hIt n h ta pl sp we tw cr (mkS br md tu le to ia mk) k 6) (h + k))))))) → va_S A s.heap H locs → ∀ (ls : Array Slot), lv_has ls 3 [(0, .ref (a 0)), (1, .int (nI (cl x))), (2, .int (nI k))] → W p l e (headSpec wsX4_pass ({ frames := 6, cells := 1, slots := 6, locals := 140 })).room s m ([.ref (a 0), .int x] : List Value).toArray below meth c H locs 0 0 (vx_MQ below (va_Qi (fun (r : Int32) (_ : Unit) => cPass h x = 0 ∧ (fun r => r = nI (h + cl x)) r) (fun _ t9 => kAt D A (wT a cI cZ (nI (h + (cl x))) ++ (wW a cI cZ sp we tw ++ (wF a cI cZ ta pl (hIt n h ta pl sp we tw cr (mkS br md tu le to ia mk) (cl x) 0) (fun _ => 0) (hIt n h ta pl sp we tw cr (mkS br md tu le to ia mk) (cl x) 1) (nI n) (fSum (hIt n h ta pl sp we tw cr (mkS br md tu le to ia mk) (cl x) 0) n) ++ (wE a cI cZ (hIt n h ta pl sp we tw cr (mkS br md tu le to ia mk) (cl x) 2) (hIt n h ta pl sp we tw cr (mkS br md tu le to ia mk) (cl x) 3) cr (hIt n h ta pl sp we tw cr (mkS br md tu le to ia mk) (cl x) 4) (hIt n h ta pl sp we tw cr (mkS br md tu le to ia mk) (cl x) 5) ++ (wG a cI cZ sl pr (hIt n h ta pl sp we tw cr (mkS br md tu le to ia mk) (cl x) 6) (fBrt sl pr (hIt n h ta pl sp we tw cr (mkS br md tu le to ia mk) (cl x) 6) (h + (cl x)))))))) t9) A) (kXX D A (wT a cI cZ (nI h) ++ (wW a cI cZ sp we tw ++ (wF a cI cZ ta pl br (fun _ => 0) md (nI n) (fSum br n) ++ (wE a cI cZ tu le cr to ia ++ (wG a cI cZ sl pr mk (fBrt sl pr mk h)))))) (cPass h x) [kIAE, kISE]) ([.ref (a 0), .int x] : List Value).toArray s 1 6 A) (F0 m 44 ls []) := by
        intro nn
        induction nn with
        | zero => intro k hm; exact absurd hm (by omega)
        | succ nn ih_44 =>
          intro k hm hk H locs hP hD hS ls hl
          refine lv_iload_n hx hb dX4_pass_44 rfl (lv_at hl 2 rfl) ?_
          refine lv_iload_n hx hb dX4_pass_45 rfl (lv_at hl 1 rfl) ?_
          refine lv_icmp_ge (tgt := 59) hx hb dX4_pass_46 (by decide) (fun c_46 => ?_) (fun c_46 => ?_)
          · have e8 : k = cl x := by have := (nI_leI (a := cl x) (b := k) (by omega) (by omega)).mp c_46; omega
            subst e8
            refine lv_aload_n hx hb dX4_pass_59 rfl (lv_at hl 0 rfl) ?_
            refine va_get (D := D) (ci := 4) (v := .int (nI (h + (cl x)))) (C := RX4) (T := TX4) (N := 5) hx hb hts (by decide +kernel) hown hK.1 hP 0 rfl rfl 4 (by decide) (hts (.fieldLink RX4 37 "Turbineorchard" "now" "I") (by decide +kernel)) (fun _ h9 => h9) rfl dX4_pass_60 ?_
            exact k_endXi (ty := .int) hx hb hr hlocks (rfl) (⟨by unfold cPass; rw [if_pos c_7, if_pos c_29], rfl⟩) hP hD hS dX4_pass_63
          · have c_46 : k < cl x := Nat.lt_of_not_le (fun q => c_46 ((nI_leI (a := cl x) (b := k) (by omega) (by omega)).mpr q))
            refine lv_aload_n hx hb dX4_pass_49 rfl (lv_at hl 0 rfl) ?_
            refine k_uv (WR := []) (WN := (wT a cI cZ (nI ((h + k) + 1)) ++ (wW a cI cZ sp we tw ++ (wF a cI cZ ta pl (fBrE (hIt n h ta pl sp we tw cr (mkS br md tu le to ia mk) k 0) (hIt n h ta pl sp we tw cr (mkS br md tu le to ia mk) k 2) (fEn (hIt n h ta pl sp we tw cr (mkS br md tu le to ia mk) k 2) (fDec (hIt n h ta pl sp we tw cr (mkS br md tu le to ia mk) k 3) (fWk (fWaves sp tw (h + k)) (hIt n h ta pl sp we tw cr (mkS br md tu le to ia mk) k 2) cr (hIt n h ta pl sp we tw cr (mkS br md tu le to ia mk) k 4)) 3)) 3) (setR (fStW n ta pl (hIt n h ta pl sp we tw cr (mkS br md tu le to ia mk) k 2) (fun _ => 0) (fWk (fWaves sp tw (h + k)) (hIt n h ta pl sp we tw cr (mkS br md tu le to ia mk) k 2) cr (hIt n h ta pl sp we tw cr (mkS br md tu le to ia mk) k 4)) 3) 0 n 0) (fAddR (hIt n h ta pl sp we tw cr (mkS br md tu le to ia mk) k 1) (fPw (we (h + k)) pl (hIt n h ta pl sp we tw cr (mkS br md tu le to ia mk) k 0) (fStW n ta pl (hIt n h ta pl sp we tw cr (mkS br md tu le to ia mk) k 2) (fun _ => 0) (fWk (fWaves sp tw (h + k)) (hIt n h ta pl sp we tw cr (mkS br md tu le to ia mk) k 2) cr (hIt n h ta pl sp we tw cr (mkS br md tu le to ia mk) k 4)) 3) n (sp (h + k))) n) (nI n) (fBcE (fSum (hIt n h ta pl sp we tw cr (mkS br md tu le to ia mk) k 0) n) (fEn (hIt n h ta pl sp we tw cr (mkS br md tu le to ia mk) k 2) (fDec (hIt n h ta pl sp we tw cr (mkS br md tu le to ia mk) k 3) (fWk (fWaves sp tw (h + k)) (hIt n h ta pl sp we tw cr (mkS br md tu le to ia mk) k 2) cr (hIt n h ta pl sp we tw cr (mkS br md tu le to ia mk) k 4)) 3)) 3) ++ (wE a cI cZ (fTuE (hIt n h ta pl sp we tw cr (mkS br md tu le to ia mk) k 2) (fEn (hIt n h ta pl sp we tw cr (mkS br md tu le to ia mk) k 2) (fDec (hIt n h ta pl sp we tw cr (mkS br md tu le to ia mk) k 3) (fWk (fWaves sp tw (h + k)) (hIt n h ta pl sp we tw cr (mkS br md tu le to ia mk) k 2) cr (hIt n h ta pl sp we tw cr (mkS br md tu le to ia mk) k 4)) 3)) 3) (fDec (hIt n h ta pl sp we tw cr (mkS br md tu le to ia mk) k 3) (fWk (fWaves sp tw (h + k)) (hIt n h ta pl sp we tw cr (mkS br md tu le to ia mk) k 2) cr (hIt n h ta pl sp we tw cr (mkS br md tu le to ia mk) k 4)) 3) cr (fDay ((h + k) + 1) (fInc (hIt n h ta pl sp we tw cr (mkS br md tu le to ia mk) k 4) (fWk (fWaves sp tw (h + k)) (hIt n h ta pl sp we tw cr (mkS br md tu le to ia mk) k 2) cr (hIt n h ta pl sp we tw cr (mkS br md tu le to ia mk) k 4)) 3)) (fInc (hIt n h ta pl sp we tw cr (mkS br md tu le to ia mk) k 5) (fWk (fWaves sp tw (h + k)) (hIt n h ta pl sp we tw cr (mkS br md tu le to ia mk) k 2) cr (hIt n h ta pl sp we tw cr (mkS br md tu le to ia mk) k 4)) 3) ++ (wG a cI cZ sl pr (upd (hIt n h ta pl sp we tw cr (mkS br md tu le to ia mk) k 6) (h + k) (fSum (fPw (we (h + k)) pl (hIt n h ta pl sp we tw cr (mkS br md tu le to ia mk) k 0) (fStW n ta pl (hIt n h ta pl sp we tw cr (mkS br md tu le to ia mk) k 2) (fun _ => 0) (fWk (fWaves sp tw (h + k)) (hIt n h ta pl sp we tw cr (mkS br md tu le to ia mk) k 2) cr (hIt n h ta pl sp we tw cr (mkS br md tu le to ia mk) k 4)) 3) n (sp (h + k))) n)) ((fBrt sl pr (hIt n h ta pl sp we tw cr (mkS br md tu le to ia mk) k 6) (h + k)) + (fBring sl pr (upd (hIt n h ta pl sp we tw cr (mkS br md tu le to ia mk) k 6) (h + k) (fSum (fPw (we (h + k)) pl (hIt n h ta pl sp we tw cr (mkS br md tu le to ia mk) k 0) (fStW n ta pl (hIt n h ta pl sp we tw cr (mkS br md tu le to ia mk) k 2) (fun _ => 0) (fWk (fWaves sp tw (h + k)) (hIt n h ta pl sp we tw cr (mkS br md tu le to ia mk) k 2) cr (hIt n h ta pl sp we tw cr (mkS br md tu le to ia mk) k 4)) 3) n (sp (h + k))) n)) (h + k)).toInt64))))))) (As := []) (rest := []) (nL := 3) ⟨hx, hb, hml, hown, hts⟩ hK hP hD hS hA (c_X4_liveHour l D a cI cZ _ sp we tw ta pl (hIt n h ta pl sp we tw cr (mkS br md tu le to ia mk) k 0) (fun _ => 0) (hIt n h ta pl sp we tw cr (mkS br md tu le to ia mk) k 1) (fSum (hIt n h ta pl sp we tw cr (mkS br md tu le to ia mk) k 0) n) (hIt n h ta pl sp we tw cr (mkS br md tu le to ia mk) k 2) (hIt n h ta pl sp we tw cr (mkS br md tu le to ia mk) k 3) cr (hIt n h ta pl sp we tw cr (mkS br md tu le to ia mk) k 4) (hIt n h ta pl sp we tw cr (mkS br md tu le to ia mk) k 5) sl pr (hIt n h ta pl sp we tw cr (mkS br md tu le to ia mk) k 6) (fBrt sl pr (hIt n h ta pl sp we tw cr (mkS br md tu le to ia mk) k 6) (h + k)) n (h + k) (hn) (by omega) (hpl) ((hOk.it (h := h) (ta := ta) (pl := pl) (sp := sp) (we := we) (tw := tw) (cr := cr) hn hok k).htu) (hwe)) [0, 1, 2, 3, 4, 5, 6, 7, 8, 9, 10, 11, 12, 13, 14, 15, 16, 17, 18, 19, 20] [] [0, 1, 2, 3, 4, 5, 6, 7, 8, 9, 10, 11, 12, 13, 14, 15, 16, 17, 18, 19, 20] rfl rfl (by decide) rfl (by decide) (by decide) rfl rfl (by decide) 0 rfl rfl rfl (cwV 0 hts gX4_pass_X4_liveHour rfl rfl rfl (by decide +kernel) ⟨Nat.le_of_ble_eq_true rfl, Nat.le_of_ble_eq_true rfl⟩) rfl hl.1 rfl (Nat.le_of_ble_eq_true rfl) dX4_pass_50 ⟨Nat.zero_le _, Nat.zero_le _⟩ (fun H locs hP hD hS => ?_)
            have hs := hOk.step (n := n) (h := h + k) (ta := ta) (pl := pl) (sp := sp) (we := we) (tw := tw) (cr := cr) (σ := hIt n h ta pl sp we tw cr (mkS br md tu le to ia mk) k) hn (hOk.it hn hok k)
            have e9 : (setR (fStW n ta pl (hIt n h ta pl sp we tw cr (mkS br md tu le to ia mk) k 2) (fun _ => 0) (fWk (fWaves sp tw (h + k)) (hIt n h ta pl sp we tw cr (mkS br md tu le to ia mk) k 2) cr (hIt n h ta pl sp we tw cr (mkS br md tu le to ia mk) k 4)) 3) 0 n 0) = (fun _ => 0) := st_back hn
            rw [e9] at hP hD
            clear e9
            have e9 : (fBcE (fSum (hIt n h ta pl sp we tw cr (mkS br md tu le to ia mk) k 0) n) (fEn (hIt n h ta pl sp we tw cr (mkS br md tu le to ia mk) k 2) (fDec (hIt n h ta pl sp we tw cr (mkS br md tu le to ia mk) k 3) (fWk (fWaves sp tw (h + k)) (hIt n h ta pl sp we tw cr (mkS br md tu le to ia mk) k 2) cr (hIt n h ta pl sp we tw cr (mkS br md tu le to ia mk) k 4)) 3)) 3) = (fSum (hIt n h ta pl sp we tw cr (mkS br md tu le to ia mk) (k + 1) 0) n) := hs.2
            rw [e9] at hP hD
            clear e9
            have e9 : ((fBrt sl pr (hIt n h ta pl sp we tw cr (mkS br md tu le to ia mk) k 6) (h + k)) + (fBring sl pr (upd (hIt n h ta pl sp we tw cr (mkS br md tu le to ia mk) k 6) (h + k) (fSum (fPw (we (h + k)) pl (hIt n h ta pl sp we tw cr (mkS br md tu le to ia mk) k 0) (fStW n ta pl (hIt n h ta pl sp we tw cr (mkS br md tu le to ia mk) k 2) (fun _ => 0) (fWk (fWaves sp tw (h + k)) (hIt n h ta pl sp we tw cr (mkS br md tu le to ia mk) k 2) cr (hIt n h ta pl sp we tw cr (mkS br md tu le to ia mk) k 4)) 3) n (sp (h + k))) n)) (h + k)).toInt64) = (fBrt sl pr (hIt n h ta pl sp we tw cr (mkS br md tu le to ia mk) (k + 1) 6) (h + (k + 1))) := by rw [show fBrt sl pr (hIt n h ta pl sp we tw cr (mkS br md tu le to ia mk) (k + 1) 6) (h + (k + 1)) = fBrt sl pr (hIt n h ta pl sp we tw cr (mkS br md tu le to ia mk) (k + 1) 6) (h + k) + (fBring sl pr (hIt n h ta pl sp we tw cr (mkS br md tu le to ia mk) (k + 1) 6) (h + k)).toInt64 from rfl, show fBrt sl pr (hIt n h ta pl sp we tw cr (mkS br md tu le to ia mk) (k + 1) 6) (h + k) = fBrt sl pr (hIt n h ta pl sp we tw cr (mkS br md tu le to ia mk) k 6) (h + k) from fBrt_upd (Nat.le_refl _)]; rfl
            rw [e9] at hP hD
            clear e9
            refine lv_iinc (v := nI (k + 1)) (lv' := [(2, .int (nI (k + 1))), (0, .ref (a 0)), (1, .int (nI (cl x)))]) hx hb dX4_pass_53 hl (k := 2) rfl (nI_1 _) (by decide) rfl (fun ls hl => ?_)
            refine lv_goto (tgt := 44) hx hb dX4_pass_56 (by decide) ?_
            exact ih_44 (k + 1) (by omega) (by omega) _ _ hP hD hS _ (lv_sub hl [1, 2, 0] rfl)
      exact loop_44 (cl x - 0 + 1) 0 (by omega) (by omega) _ _ hP hD hS _ (lv_sub hl [1, 2, 0] rfl)
    · have c_29 : ¬ h + cl x ≤ 479 := fun q => c_29 ((nI_leI (a := h + cl x) (b := 479) (by omega) (by omega)).mpr q)
      exact k_throw (k := 1) (text := "there are no hours beyond the last") hx hb hflag hown (by decide +kernel) (hts (.classLink RX4 56 kISE) (by decide +kernel)) (hts (.initialized kISE) (by decide +kernel)) (by decide +kernel) (fun w h => hts w (List.mem_cons_of_mem _ (List.mem_append_right _ h))) hX hP hD (hl.1.trans hml.symm) dX4_pass_32 dX4_pass_35 dX4_pass_36 dX4_pass_38 dX4_pass_41 hxt (Nat.le_of_ble_eq_true rfl) (Nat.le_of_ble_eq_true rfl) (Nat.le_of_ble_eq_true rfl) (Nat.le_of_ble_eq_true rfl) hlocks (by unfold cPass; rw [if_pos c_7, if_neg c_29]) rfl
  · have c_7 := bI_0 c_7
    exact k_throw (k := 0) (text := "hours is out of range") hx hb hflag hown (by decide +kernel) (hts (.classLink RX4 68 kIAE) (by decide +kernel)) (hts (.initialized kIAE) (by decide +kernel)) (by decide +kernel) (fun w h => hts w (List.mem_cons_of_mem _ (List.mem_append_left _ (List.mem_append_right _ h)))) hX hP hD (hl.1.trans hml.symm) dX4_pass_10 dX4_pass_13 dX4_pass_14 dX4_pass_16 dX4_pass_19 hxt (Nat.le_of_ble_eq_true rfl) (Nat.le_of_ble_eq_true rfl) (Nat.le_of_ble_eq_true rfl) (Nat.le_of_ble_eq_true rfl) hlocks (by unfold cPass; rw [if_neg c_7]) rfl
