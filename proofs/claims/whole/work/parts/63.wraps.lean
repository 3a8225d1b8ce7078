/-! The law's own methods, one a public method (written by program). -/
set_option maxHeartbeats 4000000 in
set_option maxRecDepth 100000 in
theorem c_L_turbine (l : Launch) (D : va_G) (a : Nat → Nat) (cI cZ cJ cD : ClassId) (sz : Nat) (sp : Nat → Int32) (we : Nat → Int32) (tw : Nat → Int32) (ta : Nat → Int32) (pl : Nat → Int32) (br : Nat → Int32) (st : Nat → Int32) (md : Nat → Int32) (bc : Int32) (tu : Nat → Int32) (le : Nat → Int32) (cr : Nat → Int32) (to : Nat → Int32) (ia : Nat → Int32) (sl : Nat → Int32) (pr : Nat → Int32) (mk : Nat → Int32) (pc : Int64) (n : Nat) (h : Nat) (x : Int32) (o : Nat) (fo : Nat → Int64) (Wn : va_W) (hflag : l.stackTraces = false) (hn : n ≤ 12) (hh : h < 480) (h0 : (cTurb n ta x) = 0 → Wn = wT a cI cZ (nI h) ++ (wW a cI cZ sp we tw ++ (wF a cI cZ (upd ta (cl x) (nI n)) (upd pl n (nI (cl x))) br st md (nI (n + 1)) bc ++ (wE a cI cZ tu le cr to ia ++ (wG a cI cZ sl pr mk pc ++ (wOJ o cJ (vp_updL fo 0 (nI n).toInt64))))))) (h1 : ¬ (cTurb n ta x) = 0 → Wn = wT a cI cZ (nI h) ++ (wW a cI cZ sp we tw ++ (wF a cI cZ ta pl br st md (nI n) bc ++ (wE a cI cZ tu le cr to ia ++ (wG a cI cZ sl pr mk pc ++ (wOJ o cJ fo)))))) : kW l yL_turbine wsL_turbine ({ frames := 7, cells := 1, slots := 6, locals := 103 }) [.ref (a 0), .int x, .ref o] D cI cZ cJ cD sz (wT a cI cZ (nI h) ++ (wW a cI cZ sp we tw ++ (wF a cI cZ ta pl br st md (nI n) bc ++ (wE a cI cZ tu le cr to ia ++ (wG a cI cZ sl pr mk pc ++ (wOJ o cJ fo)))))) Wn (cTurb n ta x) := by
  refine k_ofWH (cc := cL_turbine) (maxL := 4) (ret := (some .int)) (hh := [(0, 9, 12, 13), (0, 9, 15, 15)]) (by decide) rfl ?_
  intro p e s m args below meth c s₁ B hml hv
  obtain ⟨rfl, hsz, hP, hK, hD0, hX⟩ := hv
  have hx := B.exec
  have hb := B.bytes
  have hr := B.returns
  have hts := atoms_spec (ws := wsL_turbine) B.pre
  have hown : s.vm.findClass RL = some m.cls := findClass_of_methodNamed B.named
  have hlocks := B.notSynchronized
  have htab : c.exceptionTable.toList = [⟨0, 9, 12, 13⟩, ⟨0, 9, 15, 15⟩] := vx_table (x := yL_turbine) B (hts (.codeWith yL_turbine cL_turbine 4 (some .int) [(0, 9, 12, 13), (0, 9, 15, 15)]) List.mem_cons_self)
  subst hsz
  have hD := hD0.self (sz := s.heap.size)
  generalize hAe : va_A (wT a cI cZ (nI h) ++ (wW a cI cZ sp we tw ++ (wF a cI cZ ta pl br st md (nI n) bc ++ (wE a cI cZ tu le cr to ia ++ (wG a cI cZ sl pr mk pc ++ (wOJ o cJ fo)))))) s.heap.size = A at hD hX ⊢
  have hA : ∀ q : Nat, s.heap.size ≤ q → A q := fun q h => by rw [← hAe]; exact Or.inr h
  have hl := lv_entry ([.ref (a 0), .int x, .ref o]) (n := 4) (Nat.le_of_ble_eq_true rfl)
  rw [lg_entry_eq]
  generalize (lg_sl ([.ref (a 0), .int x, .ref o]) ++ List.replicate (4 - (lg_sl ([.ref (a 0), .int x, .ref o])).length) Slot.unset).toArray = ls at hl ⊢
  have hl : lv_has ls 4 [(0, .ref (a 0)), (1, .int x), (2, .ref o)] := hl
  refine lv_aload_n hx hb dL_turbine_0 rfl (lv_at hl 2 rfl) ?_
  refine lv_iconst (v := 0) hx hb dL_turbine_1 (by decide) ?_
  refine lv_aload_n hx hb dL_turbine_2 rfl (lv_at hl 0 rfl) ?_
  refine lv_iload_n hx hb dL_turbine_3 rfl (lv_at hl 1 rfl) ?_
  refine k_xwi (As := [.int x]) (rest := [.int 0, .ref o]) (nL := 4) (WR := wOJ o cJ fo) (WN := wT a cI cZ (nI h) ++ (wW a cI cZ sp we tw ++ (wF a cI cZ (upd ta (cl x) (nI n)) (upd pl n (nI (cl x))) br st md (nI (n + 1)) bc ++ (wE a cI cZ tu le cr to ia ++ (wG a cI cZ sl pr mk pc ++ (wOJ o cJ fo)))))) ⟨hx, hb, hml, hown, hts⟩ hK hP hD hX hA (c_X4_turbine l D a cI cZ s.heap.size sp we tw ta pl br st md bc tu le cr to ia sl pr mk pc n h x hflag hn hh) [0, 1, 2, 3, 4, 5, 6, 7, 8, 9, 10, 11, 12, 13, 14, 15, 16, 17, 18, 19, 20] [21] [1, 2, 3, 4, 5, 6, 7, 8, 9, 10, 11, 12, 13, 14, 15, 16, 17, 18, 19, 20, 21, 0] rfl rfl rfl rfl rfl (by decide) rfl rfl rfl rfl rfl 0 rfl rfl rfl (cwV 1 hts gL_turbine_X4_turbine rfl rfl rfl (by decide +kernel) ⟨Nat.le_of_ble_eq_true rfl, Nat.le_of_ble_eq_true rfl⟩) rfl hl.1 rfl (Nat.le_of_ble_eq_true rfl) dL_turbine_4 ⟨Nat.le_of_ble_eq_true rfl, Nat.le_of_ble_eq_true rfl⟩ (fun E ce q9 H1 locs1 hE hP1 hD1 hS1 hc9 hv9 hcl9 => ?_) (fun r9 H1 locs1 hcode hr9 hP1 hD1 hS1 => ?_)
  · rcases kEx2 hE with ⟨hc1, rfl⟩ | ⟨hc1, rfl⟩
    · obtain rfl := h1 (fun z => by rw [hc1] at z; exact absurd z (by decide))
      refine vx_catch (own := RL) (name := kIOB) hown [] ⟨0, 9, 12, 13⟩ [⟨0, 9, 15, 15⟩] htab (fun z h => absurd h List.not_mem_nil) rfl (by decide) (hts (.classLink RL 13 kIOB) (by decide +kernel)) (va_Nw.use rfl (hX.2.2.1 (kIOB, 49) (by decide))) hc9 hv9 hcl9 ?_
      refine lv_astore_n (lv' := [(3, .ref q9), (0, .ref (a 0)), (1, .int x), (2, .ref o)]) hx hb dL_turbine_12 rfl hl (by decide) rfl (fun ls hl => ?_)
      refine lv_iconst (v := 1) hx hb dL_turbine_13 (by decide) ?_
      exact k_endI hx hb hr hlocks rfl (by rw [hc1]; rfl) hP1 hD1 hS1 dL_turbine_14
    · obtain rfl := h1 (fun z => by rw [hc1] at z; exact absurd z (by decide))
      refine vx_catch (own := RL) (name := kISE) hown [⟨0, 9, 12, 13⟩] ⟨0, 9, 15, 15⟩ [] htab (List.forall_mem_cons.mpr ⟨Or.inr ⟨by decide, kIOB, hts (.classLink RL 13 kIOB) (by decide +kernel), hK.2.2 (kISE, kIOB) (by decide)⟩, fun z h => absurd h List.not_mem_nil⟩) rfl (by decide) (hts (.classLink RL 15 kISE) (by decide +kernel)) (va_Nw.use rfl (hX.2.2.1 (kISE, 60) (by decide))) hc9 hv9 hcl9 ?_
      refine lv_astore_n (lv' := [(3, .ref q9), (0, .ref (a 0)), (1, .int x), (2, .ref o)]) hx hb dL_turbine_15 rfl hl (by decide) rfl (fun ls hl => ?_)
      refine lv_iconst (v := 2) hx hb dL_turbine_16 (by decide) ?_
      exact k_endI hx hb hr hlocks rfl (by rw [hc1]; rfl) hP1 hD1 hS1 dL_turbine_17
  · subst hr9
    obtain rfl := h0 hcode
    refine lv_i2l hx hb dL_turbine_7 rfl ?_
    refine k_last0 (WN := wT a cI cZ (nI h) ++ (wW a cI cZ sp we tw ++ (wF a cI cZ (upd ta (cl x) (nI n)) (upd pl n (nI (cl x))) br st md (nI (n + 1)) bc ++ (wE a cI cZ tu le cr to ia ++ (wG a cI cZ sl pr mk pc ++ (wOJ o cJ (vp_updL fo 0 (nI n).toInt64))))))) hx hb hK.1 hP1 hD1 hS1 21 2 rfl rfl rfl dL_turbine_8 (fun H2 locs2 hP2 hD2 hS2 => ?_)
    refine lv_goto (tgt := 18) hx hb dL_turbine_9 (by decide) ?_
    refine lv_iconst (v := 0) hx hb dL_turbine_18 (by decide) ?_
    exact k_endI hx hb hr hlocks rfl (by rw [hcode]; rfl) hP2 hD2 hS2 dL_turbine_19

set_option maxHeartbeats 4000000 in
set_option maxRecDepth 100000 in
theorem c_L_wind (l : Launch) (D : va_G) (a : Nat → Nat) (cI cZ cJ cD : ClassId) (sz : Nat) (sp : Nat → Int32) (we : Nat → Int32) (tw : Nat → Int32) (ta : Nat → Int32) (pl : Nat → Int32) (br : Nat → Int32) (st : Nat → Int32) (md : Nat → Int32) (bc : Int32) (tu : Nat → Int32) (le : Nat → Int32) (cr : Nat → Int32) (to : Nat → Int32) (ia : Nat → Int32) (sl : Nat → Int32) (pr : Nat → Int32) (mk : Nat → Int32) (pc : Int64) (n : Nat) (h : Nat) (f : Int32) (t : Int32) (v : Int32) (w : Int32) (o : Nat) (fo : Nat → Int64) (Wn : va_W) (hflag : l.stackTraces = false) (hn : n ≤ 12) (hh : h < 480) (hw : w = 0 ∨ w = 1) (h0 : (cWind h f t v) = 0 → Wn = wT a cI cZ (nI h) ++ (wW a cI cZ (setR sp (cl f) (cl t + 1) v) (setR we (cl f) (cl t + 1) w) tw ++ (wF a cI cZ ta pl br st md (nI n) bc ++ (wE a cI cZ tu le cr to ia ++ (wG a cI cZ sl pr mk pc ++ (wOJ o cJ (vp_updL fo 0 (t - f + 1).toInt64))))))) (h1 : ¬ (cWind h f t v) = 0 → Wn = wT a cI cZ (nI h) ++ (wW a cI cZ sp we tw ++ (wF a cI cZ ta pl br st md (nI n) bc ++ (wE a cI cZ tu le cr to ia ++ (wG a cI cZ sl pr mk pc ++ (wOJ o cJ fo)))))) : kW l yL_wind wsL_wind ({ frames := 7, cells := 1, slots := 6, locals := 106 }) [.ref (a 0), .int f, .int t, .int v, .int w, .ref o] D cI cZ cJ cD sz (wT a cI cZ (nI h) ++ (wW a cI cZ sp we tw ++ (wF a cI cZ ta pl br st md (nI n) bc ++ (wE a cI cZ tu le cr to ia ++ (wG a cI cZ sl pr mk pc ++ (wOJ o cJ fo)))))) Wn (cWind h f t v) := by
  refine k_ofWH (cc := cL_wind) (maxL := 7) (ret := (some .int)) (hh := [(0, 14, 17, 21)]) (by decide) rfl ?_
  intro p e s m args below meth c s₁ B hml hv
  obtain ⟨rfl, hsz, hP, hK, hD0, hX⟩ := hv
  have hx := B.exec
  have hb := B.bytes
  have hr := B.returns
  have hts := atoms_spec (ws := wsL_wind) B.pre
  have hown : s.vm.findClass RL = some m.cls := findClass_of_methodNamed B.named
  have hlocks := B.notSynchronized
  have htab : c.exceptionTable.toList = [⟨0, 14, 17, 21⟩] := vx_table (x := yL_wind) B (hts (.codeWith yL_wind cL_wind 7 (some .int) [(0, 14, 17, 21)]) List.mem_cons_self)
  subst hsz
  have hD := hD0.self (sz := s.heap.size)
  generalize hAe : va_A (wT a cI cZ (nI h) ++ (wW a cI cZ sp we tw ++ (wF a cI cZ ta pl br st md (nI n) bc ++ (wE a cI cZ tu le cr to ia ++ (wG a cI cZ sl pr mk pc ++ (wOJ o cJ fo)))))) s.heap.size = A at hD hX ⊢
  have hA : ∀ q : Nat, s.heap.size ≤ q → A q := fun q h => by rw [← hAe]; exact Or.inr h
  have hl := lv_entry ([.ref (a 0), .int f, .int t, .int v, .int w, .ref o]) (n := 7) (Nat.le_of_ble_eq_true rfl)
  rw [lg_entry_eq]
  generalize (lg_sl ([.ref (a 0), .int f, .int t, .int v, .int w, .ref o]) ++ List.replicate (7 - (lg_sl ([.ref (a 0), .int f, .int t, .int v, .int w, .ref o])).length) Slot.unset).toArray = ls at hl ⊢
  have hl : lv_has ls 7 [(0, .ref (a 0)), (1, .int f), (2, .int t), (3, .int v), (4, .int w), (5, .ref o)] := hl
  refine lv_aload hx hb dL_wind_0 (lv_at hl 5 rfl) ?_
  refine lv_iconst (v := 0) hx hb dL_wind_2 (by decide) ?_
  refine lv_aload_n hx hb dL_wind_3 rfl (lv_at hl 0 rfl) ?_
  refine lv_iload_n hx hb dL_wind_4 rfl (lv_at hl 1 rfl) ?_
  refine lv_iload_n hx hb dL_wind_5 rfl (lv_at hl 2 rfl) ?_
  refine lv_iload_n hx hb dL_wind_6 rfl (lv_at hl 3 rfl) ?_
  refine lv_iload hx hb dL_wind_7 (lv_at hl 4 rfl) ?_
  refine k_xwi (As := [.int f, .int t, .int v, .int w]) (rest := [.int 0, .ref o]) (nL := 7) (WR := wOJ o cJ fo) (WN := wT a cI cZ (nI h) ++ (wW a cI cZ (setR sp (cl f) (cl t + 1) v) (setR we (cl f) (cl t + 1) w) tw ++ (wF a cI cZ ta pl br st md (nI n) bc ++ (wE a cI cZ tu le cr to ia ++ (wG a cI cZ sl pr mk pc ++ (wOJ o cJ fo)))))) ⟨hx, hb, hml, hown, hts⟩ hK hP hD hX hA (c_X4_wind l D a cI cZ s.heap.size sp we tw ta pl br st md bc tu le cr to ia sl pr mk pc n h f t v w hflag hn hh hw) [0, 1, 2, 3, 4, 5, 6, 7, 8, 9, 10, 11, 12, 13, 14, 15, 16, 17, 18, 19, 20] [21] [1, 2, 3, 4, 5, 6, 7, 8, 9, 10, 11, 12, 13, 14, 15, 16, 17, 18, 19, 20, 21, 0] rfl rfl rfl rfl rfl (by decide) rfl rfl rfl rfl rfl 0 rfl rfl rfl (cwV 4 hts gL_wind_X4_wind rfl rfl rfl (by decide +kernel) ⟨Nat.le_of_ble_eq_true rfl, Nat.le_of_ble_eq_true rfl⟩) rfl hl.1 rfl (Nat.le_of_ble_eq_true rfl) dL_wind_9 ⟨Nat.le_of_ble_eq_true rfl, Nat.le_of_ble_eq_true rfl⟩ (fun E ce q9 H1 locs1 hE hP1 hD1 hS1 hc9 hv9 hcl9 => ?_) (fun r9 H1 locs1 hcode hr9 hP1 hD1 hS1 => ?_)
  · obtain ⟨hc1, rfl⟩ := kEx1 hE
    obtain rfl := h1 (fun z => by rw [hc1] at z; exact absurd z (by decide))
    refine vx_catch (own := RL) (name := kIAE) hown [] ⟨0, 14, 17, 21⟩ [] htab (fun z h => absurd h List.not_mem_nil) rfl (by decide) (hts (.classLink RL 21 kIAE) (by decide +kernel)) (va_Nw.use rfl (hX.2.2.1 (kIAE, 72) (by decide))) hc9 hv9 hcl9 ?_
    refine lv_astore (lv' := [(6, .ref q9), (0, .ref (a 0)), (1, .int f), (2, .int t), (3, .int v), (4, .int w), (5, .ref o)]) hx hb dL_wind_17 hl (by decide) rfl (fun ls hl => ?_)
    refine lv_iconst (v := 1) hx hb dL_wind_19 (by decide) ?_
    exact k_endI hx hb hr hlocks rfl (by rw [hc1]; rfl) hP1 hD1 hS1 dL_wind_20
  · subst hr9
    obtain rfl := h0 hcode
    refine lv_i2l hx hb dL_wind_12 rfl ?_
    refine k_last0 (WN := wT a cI cZ (nI h) ++ (wW a cI cZ (setR sp (cl f) (cl t + 1) v) (setR we (cl f) (cl t + 1) w) tw ++ (wF a cI cZ ta pl br st md (nI n) bc ++ (wE a cI cZ tu le cr to ia ++ (wG a cI cZ sl pr mk pc ++ (wOJ o cJ (vp_updL fo 0 (t - f + 1).toInt64))))))) hx hb hK.1 hP1 hD1 hS1 21 2 rfl rfl rfl dL_wind_13 (fun H2 locs2 hP2 hD2 hS2 => ?_)
    refine lv_goto (tgt := 21) hx hb dL_wind_14 (by decide) ?_
    refine lv_iconst (v := 0) hx hb dL_wind_21 (by decide) ?_
    exact k_endI hx hb hr hlocks rfl (by rw [hcode]; rfl) hP2 hD2 hS2 dL_wind_22

set_option maxHeartbeats 4000000 in
set_option maxRecDepth 100000 in
theorem c_L_waves (l : Launch) (D : va_G) (a : Nat → Nat) (cI cZ cJ cD : ClassId) (sz : Nat) (sp : Nat → Int32) (we : Nat → Int32) (tw : Nat → Int32) (ta : Nat → Int32) (pl : Nat → Int32) (br : Nat → Int32) (st : Nat → Int32) (md : Nat → Int32) (bc : Int32) (tu : Nat → Int32) (le : Nat → Int32) (cr : Nat → Int32) (to : Nat → Int32) (ia : Nat → Int32) (sl : Nat → Int32) (pr : Nat → Int32) (mk : Nat → Int32) (pc : Int64) (n : Nat) (h : Nat) (k : Int32) (w : Int32) (o : Nat) (fo : Nat → Int64) (Wn : va_W) (hflag : l.stackTraces = false) (hn : n ≤ 12) (hh : h < 480) (h0 : (cWaves h k w) = 0 → Wn = wT a cI cZ (nI h) ++ (wW a cI cZ sp we (upd tw (cl k) w) ++ (wF a cI cZ ta pl br st md (nI n) bc ++ (wE a cI cZ tu le cr to ia ++ (wG a cI cZ sl pr mk pc ++ (wOJ o cJ (vp_updL fo 0 (fWaves sp tw (cl k)).toInt64))))))) (h1 : ¬ (cWaves h k w) = 0 → Wn = wT a cI cZ (nI h) ++ (wW a cI cZ sp we tw ++ (wF a cI cZ ta pl br st md (nI n) bc ++ (wE a cI cZ tu le cr to ia ++ (wG a cI cZ sl pr mk pc ++ (wOJ o cJ fo)))))) : kW l yL_waves wsL_waves ({ frames := 7, cells := 1, slots := 6, locals := 105 }) [.ref (a 0), .int k, .int w, .ref o] D cI cZ cJ cD sz (wT a cI cZ (nI h) ++ (wW a cI cZ sp we tw ++ (wF a cI cZ ta pl br st md (nI n) bc ++ (wE a cI cZ tu le cr to ia ++ (wG a cI cZ sl pr mk pc ++ (wOJ o cJ fo)))))) Wn (cWaves h k w) := by
  refine k_ofWH (cc := cL_waves) (maxL := 5) (ret := (some .int)) (hh := [(0, 10, 13, 21)]) (by decide) rfl ?_
  intro p e s m args below meth c s₁ B hml hv
  obtain ⟨rfl, hsz, hP, hK, hD0, hX⟩ := hv
  have hx := B.exec
  have hb := B.bytes
  have hr := B.returns
  have hts := atoms_spec (ws := wsL_waves) B.pre
  have hown : s.vm.findClass RL = some m.cls := findClass_of_methodNamed B.named
  have hlocks := B.notSynchronized
  have htab : c.exceptionTable.toList = [⟨0, 10, 13, 21⟩] := vx_table (x := yL_waves) B (hts (.codeWith yL_waves cL_waves 5 (some .int) [(0, 10, 13, 21)]) List.mem_cons_self)
  subst hsz
  have hD := hD0.self (sz := s.heap.size)
  generalize hAe : va_A (wT a cI cZ (nI h) ++ (wW a cI cZ sp we tw ++ (wF a cI cZ ta pl br st md (nI n) bc ++ (wE a cI cZ tu le cr to ia ++ (wG a cI cZ sl pr mk pc ++ (wOJ o cJ fo)))))) s.heap.size = A at hD hX ⊢
  have hA : ∀ q : Nat, s.heap.size ≤ q → A q := fun q h => by rw [← hAe]; exact Or.inr h
  have hl := lv_entry ([.ref (a 0), .int k, .int w, .ref o]) (n := 5) (Nat.le_of_ble_eq_true rfl)
  rw [lg_entry_eq]
  generalize (lg_sl ([.ref (a 0), .int k, .int w, .ref o]) ++ List.replicate (5 - (lg_sl ([.ref (a 0), .int k, .int w, .ref o])).length) Slot.unset).toArray = ls at hl ⊢
  have hl : lv_has ls 5 [(0, .ref (a 0)), (1, .int k), (2, .int w), (3, .ref o)] := hl
  refine lv_aload_n hx hb dL_waves_0 rfl (lv_at hl 3 rfl) ?_
  refine lv_iconst (v := 0) hx hb dL_waves_1 (by decide) ?_
  refine lv_aload_n hx hb dL_waves_2 rfl (lv_at hl 0 rfl) ?_
  refine lv_iload_n hx hb dL_waves_3 rfl (lv_at hl 1 rfl) ?_
  refine lv_iload_n hx hb dL_waves_4 rfl (lv_at hl 2 rfl) ?_
  refine k_xwi (As := [.int k, .int w]) (rest := [.int 0, .ref o]) (nL := 5) (WR := wOJ o cJ fo) (WN := wT a cI cZ (nI h) ++ (wW a cI cZ sp we (upd tw (cl k) w) ++ (wF a cI cZ ta pl br st md (nI n) bc ++ (wE a cI cZ tu le cr to ia ++ (wG a cI cZ sl pr mk pc ++ (wOJ o cJ fo)))))) ⟨hx, hb, hml, hown, hts⟩ hK hP hD hX hA (c_X4_waves l D a cI cZ s.heap.size sp we tw ta pl br st md bc tu le cr to ia sl pr mk pc n h k w hflag hn hh) [0, 1, 2, 3, 4, 5, 6, 7, 8, 9, 10, 11, 12, 13, 14, 15, 16, 17, 18, 19, 20] [21] [1, 2, 3, 4, 5, 6, 7, 8, 9, 10, 11, 12, 13, 14, 15, 16, 17, 18, 19, 20, 21, 0] rfl rfl rfl rfl rfl (by decide) rfl rfl rfl rfl rfl 0 rfl rfl rfl (cwV 2 hts gL_waves_X4_waves rfl rfl rfl (by decide +kernel) ⟨Nat.le_of_ble_eq_true rfl, Nat.le_of_ble_eq_true rfl⟩) rfl hl.1 rfl (Nat.le_of_ble_eq_true rfl) dL_waves_5 ⟨Nat.le_of_ble_eq_true rfl, Nat.le_of_ble_eq_true rfl⟩ (fun E ce q9 H1 locs1 hE hP1 hD1 hS1 hc9 hv9 hcl9 => ?_) (fun r9 H1 locs1 hcode hr9 hP1 hD1 hS1 => ?_)
  · obtain ⟨hc1, rfl⟩ := kEx1 hE
    obtain rfl := h1 (fun z => by rw [hc1] at z; exact absurd z (by decide))
    refine vx_catch (own := RL) (name := kIAE) hown [] ⟨0, 10, 13, 21⟩ [] htab (fun z h => absurd h List.not_mem_nil) rfl (by decide) (hts (.classLink RL 21 kIAE) (by decide +kernel)) (va_Nw.use rfl (hX.2.2.1 (kIAE, 72) (by decide))) hc9 hv9 hcl9 ?_
    refine lv_astore (lv' := [(4, .ref q9), (0, .ref (a 0)), (1, .int k), (2, .int w), (3, .ref o)]) hx hb dL_waves_13 hl (by decide) rfl (fun ls hl => ?_)
    refine lv_iconst (v := 1) hx hb dL_waves_15 (by decide) ?_
    exact k_endI hx hb hr hlocks rfl (by rw [hc1]; rfl) hP1 hD1 hS1 dL_waves_16
  · subst hr9
    obtain rfl := h0 hcode
    refine lv_i2l hx hb dL_waves_8 rfl ?_
    refine k_last0 (WN := wT a cI cZ (nI h) ++ (wW a cI cZ sp we (upd tw (cl k) w) ++ (wF a cI cZ ta pl br st md (nI n) bc ++ (wE a cI cZ tu le cr to ia ++ (wG a cI cZ sl pr mk pc ++ (wOJ o cJ (vp_updL fo 0 (fWaves sp tw (cl k)).toInt64))))))) hx hb hK.1 hP1 hD1 hS1 21 2 rfl rfl rfl dL_waves_9 (fun H2 locs2 hP2 hD2 hS2 => ?_)
    refine lv_goto (tgt := 17) hx hb dL_waves_10 (by decide) ?_
    refine lv_iconst (v := 0) hx hb dL_waves_17 (by decide) ?_
    exact k_endI hx hb hr hlocks rfl (by rw [hcode]; rfl) hP2 hD2 hS2 dL_waves_18

set_option maxHeartbeats 4000000 in
set_option maxRecDepth 100000 in
theorem c_L_breaks (l : Launch) (D : va_G) (a : Nat → Nat) (cI cZ cJ cD : ClassId) (sz : Nat) (sp : Nat → Int32) (we : Nat → Int32) (tw : Nat → Int32) (ta : Nat → Int32) (pl : Nat → Int32) (br : Nat → Int32) (st : Nat → Int32) (md : Nat → Int32) (bc : Int32) (tu : Nat → Int32) (le : Nat → Int32) (cr : Nat → Int32) (to : Nat → Int32) (ia : Nat → Int32) (sl : Nat → Int32) (pr : Nat → Int32) (mk : Nat → Int32) (pc : Int64) (n : Nat) (h : Nat) (t : Int32) (o : Nat) (fo : Nat → Int64) (Wn : va_W) (hflag : l.stackTraces = false) (hn : n ≤ 12) (hh : h < 480) (hbr : ∀ k, br k = 0 ∨ br k = 1) (h0 : (cBreaks n br t) = 0 → Wn = wT a cI cZ (nI h) ++ (wW a cI cZ sp we tw ++ (wF a cI cZ ta pl (upd br (cl t) 1) st md (nI n) (bc + 1) ++ (wE a cI cZ tu le cr to ia ++ (wG a cI cZ sl pr mk pc ++ (wOJ o cJ (vp_updL fo 0 (bc + 1).toInt64))))))) (h1 : ¬ (cBreaks n br t) = 0 → Wn = wT a cI cZ (nI h) ++ (wW a cI cZ sp we tw ++ (wF a cI cZ ta pl br st md (nI n) bc ++ (wE a cI cZ tu le cr to ia ++ (wG a cI cZ sl pr mk pc ++ (wOJ o cJ fo)))))) : kW l yL_breaks wsL_breaks ({ frames := 7, cells := 1, slots := 6, locals := 103 }) [.ref (a 0), .int t, .ref o] D cI cZ cJ cD sz (wT a cI cZ (nI h) ++ (wW a cI cZ sp we tw ++ (wF a cI cZ ta pl br st md (nI n) bc ++ (wE a cI cZ tu le cr to ia ++ (wG a cI cZ sl pr mk pc ++ (wOJ o cJ fo)))))) Wn (cBreaks n br t) := by
  refine k_ofWH (cc := cL_breaks) (maxL := 4) (ret := (some .int)) (hh := [(0, 9, 12, 13), (0, 9, 15, 15)]) (by decide) rfl ?_
  intro p e s m args below meth c s₁ B hml hv
  obtain ⟨rfl, hsz, hP, hK, hD0, hX⟩ := hv
  have hx := B.exec
  have hb := B.bytes
  have hr := B.returns
  have hts := atoms_spec (ws := wsL_breaks) B.pre
  have hown : s.vm.findClass RL = some m.cls := findClass_of_methodNamed B.named
  have hlocks := B.notSynchronized
  have htab : c.exceptionTable.toList = [⟨0, 9, 12, 13⟩, ⟨0, 9, 15, 15⟩] := vx_table (x := yL_breaks) B (hts (.codeWith yL_breaks cL_breaks 4 (some .int) [(0, 9, 12, 13), (0, 9, 15, 15)]) List.mem_cons_self)
  subst hsz
  have hD := hD0.self (sz := s.heap.size)
  generalize hAe : va_A (wT a cI cZ (nI h) ++ (wW a cI cZ sp we tw ++ (wF a cI cZ ta pl br st md (nI n) bc ++ (wE a cI cZ tu le cr to ia ++ (wG a cI cZ sl pr mk pc ++ (wOJ o cJ fo)))))) s.heap.size = A at hD hX ⊢
  have hA : ∀ q : Nat, s.heap.size ≤ q → A q := fun q h => by rw [← hAe]; exact Or.inr h
  have hl := lv_entry ([.ref (a 0), .int t, .ref o]) (n := 4) (Nat.le_of_ble_eq_true rfl)
  rw [lg_entry_eq]
  generalize (lg_sl ([.ref (a 0), .int t, .ref o]) ++ List.replicate (4 - (lg_sl ([.ref (a 0), .int t, .ref o])).length) Slot.unset).toArray = ls at hl ⊢
  have hl : lv_has ls 4 [(0, .ref (a 0)), (1, .int t), (2, .ref o)] := hl
  refine lv_aload_n hx hb dL_breaks_0 rfl (lv_at hl 2 rfl) ?_
  refine lv_iconst (v := 0) hx hb dL_breaks_1 (by decide) ?_
  refine lv_aload_n hx hb dL_breaks_2 rfl (lv_at hl 0 rfl) ?_
  refine lv_iload_n hx hb dL_breaks_3 rfl (lv_at hl 1 rfl) ?_
  refine k_xwi (As := [.int t]) (rest := [.int 0, .ref o]) (nL := 4) (WR := wOJ o cJ fo) (WN := wT a cI cZ (nI h) ++ (wW a cI cZ sp we tw ++ (wF a cI cZ ta pl (upd br (cl t) 1) st md (nI n) (bc + 1) ++ (wE a cI cZ tu le cr to ia ++ (wG a cI cZ sl pr mk pc ++ (wOJ o cJ fo)))))) ⟨hx, hb, hml, hown, hts⟩ hK hP hD hX hA (c_X4_breaks l D a cI cZ s.heap.size sp we tw ta pl br st md bc tu le cr to ia sl pr mk pc n h t hflag hn hh hbr) [0, 1, 2, 3, 4, 5, 6, 7, 8, 9, 10, 11, 12, 13, 14, 15, 16, 17, 18, 19, 20] [21] [1, 2, 3, 4, 5, 6, 7, 8, 9, 10, 11, 12, 13, 14, 15, 16, 17, 18, 19, 20, 21, 0] rfl rfl rfl rfl rfl (by decide) rfl rfl rfl rfl rfl 0 rfl rfl rfl (cwV 1 hts gL_breaks_X4_breaks rfl rfl rfl (by decide +kernel) ⟨Nat.le_of_ble_eq_true rfl, Nat.le_of_ble_eq_true rfl⟩) rfl hl.1 rfl (Nat.le_of_ble_eq_true rfl) dL_breaks_4 ⟨Nat.le_of_ble_eq_true rfl, Nat.le_of_ble_eq_true rfl⟩ (fun E ce q9 H1 locs1 hE hP1 hD1 hS1 hc9 hv9 hcl9 => ?_) (fun r9 H1 locs1 hcode hr9 hP1 hD1 hS1 => ?_)
  · rcases kEx2 hE with ⟨hc1, rfl⟩ | ⟨hc1, rfl⟩
    · obtain rfl := h1 (fun z => by rw [hc1] at z; exact absurd z (by decide))
      refine vx_catch (own := RL) (name := kIOB) hown [] ⟨0, 9, 12, 13⟩ [⟨0, 9, 15, 15⟩] htab (fun z h => absurd h List.not_mem_nil) rfl (by decide) (hts (.classLink RL 13 kIOB) (by decide +kernel)) (va_Nw.use rfl (hX.2.2.1 (kIOB, 49) (by decide))) hc9 hv9 hcl9 ?_
      refine lv_astore_n (lv' := [(3, .ref q9), (0, .ref (a 0)), (1, .int t), (2, .ref o)]) hx hb dL_breaks_12 rfl hl (by decide) rfl (fun ls hl => ?_)
      refine lv_iconst (v := 1) hx hb dL_breaks_13 (by decide) ?_
      exact k_endI hx hb hr hlocks rfl (by rw [hc1]; rfl) hP1 hD1 hS1 dL_breaks_14
    · obtain rfl := h1 (fun z => by rw [hc1] at z; exact absurd z (by decide))
      refine vx_catch (own := RL) (name := kISE) hown [⟨0, 9, 12, 13⟩] ⟨0, 9, 15, 15⟩ [] htab (List.forall_mem_cons.mpr ⟨Or.inr ⟨by decide, kIOB, hts (.classLink RL 13 kIOB) (by decide +kernel), hK.2.2 (kISE, kIOB) (by decide)⟩, fun z h => absurd h List.not_mem_nil⟩) rfl (by decide) (hts (.classLink RL 15 kISE) (by decide +kernel)) (va_Nw.use rfl (hX.2.2.1 (kISE, 60) (by decide))) hc9 hv9 hcl9 ?_
      refine lv_astore_n (lv' := [(3, .ref q9), (0, .ref (a 0)), (1, .int t), (2, .ref o)]) hx hb dL_breaks_15 rfl hl (by decide) rfl (fun ls hl => ?_)
      refine lv_iconst (v := 2) hx hb dL_breaks_16 (by decide) ?_
      exact k_endI hx hb hr hlocks rfl (by rw [hc1]; rfl) hP1 hD1 hS1 dL_breaks_17
  · subst hr9
    obtain rfl := h0 hcode
    refine lv_i2l hx hb dL_breaks_7 rfl ?_
    refine k_last0 (WN := wT a cI cZ (nI h) ++ (wW a cI cZ sp we tw ++ (wF a cI cZ ta pl (upd br (cl t) 1) st md (nI n) (bc + 1) ++ (wE a cI cZ tu le cr to ia ++ (wG a cI cZ sl pr mk pc ++ (wOJ o cJ (vp_updL fo 0 (bc + 1).toInt64))))))) hx hb hK.1 hP1 hD1 hS1 21 2 rfl rfl rfl dL_breaks_8 (fun H2 locs2 hP2 hD2 hS2 => ?_)
    refine lv_goto (tgt := 18) hx hb dL_breaks_9 (by decide) ?_
    refine lv_iconst (v := 0) hx hb dL_breaks_18 (by decide) ?_
    exact k_endI hx hb hr hlocks rfl (by rw [hcode]; rfl) hP2 hD2 hS2 dL_breaks_19

set_option maxHeartbeats 4000000 in
set_option maxRecDepth 100000 in
theorem c_L_crew (l : Launch) (D : va_G) (a : Nat → Nat) (cI cZ cJ cD : ClassId) (sz : Nat) (sp : Nat → Int32) (we : Nat → Int32) (tw : Nat → Int32) (ta : Nat → Int32) (pl : Nat → Int32) (br : Nat → Int32) (st : Nat → Int32) (md : Nat → Int32) (bc : Int32) (tu : Nat → Int32) (le : Nat → Int32) (cr : Nat → Int32) (to : Nat → Int32) (ia : Nat → Int32) (sl : Nat → Int32) (pr : Nat → Int32) (mk : Nat → Int32) (pc : Int64) (n : Nat) (h : Nat) (b : Int32) (x : Int32) (o : Nat) (fo : Nat → Int64) (Wn : va_W) (hflag : l.stackTraces = false) (hn : n ≤ 12) (hh : h < 480) (h0 : (cCrew b x) = 0 → Wn = wT a cI cZ (nI h) ++ (wW a cI cZ sp we tw ++ (wF a cI cZ ta pl br st md (nI n) bc ++ (wE a cI cZ tu le (upd cr (cl b) x) to ia ++ (wG a cI cZ sl pr mk pc ++ (wOJ o cJ (vp_updL fo 0 (cr (cl b)).toInt64))))))) (h1 : ¬ (cCrew b x) = 0 → Wn = wT a cI cZ (nI h) ++ (wW a cI cZ sp we tw ++ (wF a cI cZ ta pl br st md (nI n) bc ++ (wE a cI cZ tu le cr to ia ++ (wG a cI cZ sl pr mk pc ++ (wOJ o cJ fo)))))) : kW l yL_crew wsL_crew ({ frames := 7, cells := 1, slots := 6, locals := 105 }) [.ref (a 0), .int b, .int x, .ref o] D cI cZ cJ cD sz (wT a cI cZ (nI h) ++ (wW a cI cZ sp we tw ++ (wF a cI cZ ta pl br st md (nI n) bc ++ (wE a cI cZ tu le cr to ia ++ (wG a cI cZ sl pr mk pc ++ (wOJ o cJ fo)))))) Wn (cCrew b x) := by
  refine k_ofWH (cc := cL_crew) (maxL := 5) (ret := (some .int)) (hh := [(0, 10, 13, 13), (0, 10, 17, 21)]) (by decide) rfl ?_
  intro p e s m args below meth c s₁ B hml hv
  obtain ⟨rfl, hsz, hP, hK, hD0, hX⟩ := hv
  have hx := B.exec
  have hb := B.bytes
  have hr := B.returns
  have hts := atoms_spec (ws := wsL_crew) B.pre
  have hown : s.vm.findClass RL = some m.cls := findClass_of_methodNamed B.named
  have hlocks := B.notSynchronized
  have htab : c.exceptionTable.toList = [⟨0, 10, 13, 13⟩, ⟨0, 10, 17, 21⟩] := vx_table (x := yL_crew) B (hts (.codeWith yL_crew cL_crew 5 (some .int) [(0, 10, 13, 13), (0, 10, 17, 21)]) List.mem_cons_self)
  subst hsz
  have hD := hD0.self (sz := s.heap.size)
  generalize hAe : va_A (wT a cI cZ (nI h) ++ (wW a cI cZ sp we tw ++ (wF a cI cZ ta pl br st md (nI n) bc ++ (wE a cI cZ tu le cr to ia ++ (wG a cI cZ sl pr mk pc ++ (wOJ o cJ fo)))))) s.heap.size = A at hD hX ⊢
  have hA : ∀ q : Nat, s.heap.size ≤ q → A q := fun q h => by rw [← hAe]; exact Or.inr h
  have hl := lv_entry ([.ref (a 0), .int b, .int x, .ref o]) (n := 5) (Nat.le_of_ble_eq_true rfl)
  rw [lg_entry_eq]
  generalize (lg_sl ([.ref (a 0), .int b, .int x, .ref o]) ++ List.replicate (5 - (lg_sl ([.ref (a 0), .int b, .int x, .ref o])).length) Slot.unset).toArray = ls at hl ⊢
  have hl : lv_has ls 5 [(0, .ref (a 0)), (1, .int b), (2, .int x), (3, .ref o)] := hl
  refine lv_aload_n hx hb dL_crew_0 rfl (lv_at hl 3 rfl) ?_
  refine lv_iconst (v := 0) hx hb dL_crew_1 (by decide) ?_
  refine lv_aload_n hx hb dL_crew_2 rfl (lv_at hl 0 rfl) ?_
  refine lv_iload_n hx hb dL_crew_3 rfl (lv_at hl 1 rfl) ?_
  refine lv_iload_n hx hb dL_crew_4 rfl (lv_at hl 2 rfl) ?_
  refine k_xwi (As := [.int b, .int x]) (rest := [.int 0, .ref o]) (nL := 5) (WR := wOJ o cJ fo) (WN := wT a cI cZ (nI h) ++ (wW a cI cZ sp we tw ++ (wF a cI cZ ta pl br st md (nI n) bc ++ (wE a cI cZ tu le (upd cr (cl b) x) to ia ++ (wG a cI cZ sl pr mk pc ++ (wOJ o cJ fo)))))) ⟨hx, hb, hml, hown, hts⟩ hK hP hD hX hA (c_X4_crew l D a cI cZ s.heap.size sp we tw ta pl br st md bc tu le cr to ia sl pr mk pc n h b x hflag hn hh) [0, 1, 2, 3, 4, 5, 6, 7, 8, 9, 10, 11, 12, 13, 14, 15, 16, 17, 18, 19, 20] [21] [1, 2, 3, 4, 5, 6, 7, 8, 9, 10, 11, 12, 13, 14, 15, 16, 17, 18, 19, 20, 21, 0] rfl rfl rfl rfl rfl (by decide) rfl rfl rfl rfl rfl 0 rfl rfl rfl (cwV 2 hts gL_crew_X4_crew rfl rfl rfl (by decide +kernel) ⟨Nat.le_of_ble_eq_true rfl, Nat.le_of_ble_eq_true rfl⟩) rfl hl.1 rfl (Nat.le_of_ble_eq_true rfl) dL_crew_5 ⟨Nat.le_of_ble_eq_true rfl, Nat.le_of_ble_eq_true rfl⟩ (fun E ce q9 H1 locs1 hE hP1 hD1 hS1 hc9 hv9 hcl9 => ?_) (fun r9 H1 locs1 hcode hr9 hP1 hD1 hS1 => ?_)
  · rcases kEx2 hE with ⟨hc1, rfl⟩ | ⟨hc1, rfl⟩
    · obtain rfl := h1 (fun z => by rw [hc1] at z; exact absurd z (by decide))
      refine vx_catch (own := RL) (name := kIOB) hown [] ⟨0, 10, 13, 13⟩ [⟨0, 10, 17, 21⟩] htab (fun z h => absurd h List.not_mem_nil) rfl (by decide) (hts (.classLink RL 13 kIOB) (by decide +kernel)) (va_Nw.use rfl (hX.2.2.1 (kIOB, 49) (by decide))) hc9 hv9 hcl9 ?_
      refine lv_astore (lv' := [(4, .ref q9), (0, .ref (a 0)), (1, .int b), (2, .int x), (3, .ref o)]) hx hb dL_crew_13 hl (by decide) rfl (fun ls hl => ?_)
      refine lv_iconst (v := 1) hx hb dL_crew_15 (by decide) ?_
      exact k_endI hx hb hr hlocks rfl (by rw [hc1]; rfl) hP1 hD1 hS1 dL_crew_16
    · obtain rfl := h1 (fun z => by rw [hc1] at z; exact absurd z (by decide))
      refine vx_catch (own := RL) (name := kIAE) hown [⟨0, 10, 13, 13⟩] ⟨0, 10, 17, 21⟩ [] htab (List.forall_mem_cons.mpr ⟨Or.inr ⟨by decide, kIOB, hts (.classLink RL 13 kIOB) (by decide +kernel), hK.2.2 (kIAE, kIOB) (by decide)⟩, fun z h => absurd h List.not_mem_nil⟩) rfl (by decide) (hts (.classLink RL 21 kIAE) (by decide +kernel)) (va_Nw.use rfl (hX.2.2.1 (kIAE, 72) (by decide))) hc9 hv9 hcl9 ?_
      refine lv_astore (lv' := [(4, .ref q9), (0, .ref (a 0)), (1, .int b), (2, .int x), (3, .ref o)]) hx hb dL_crew_17 hl (by decide) rfl (fun ls hl => ?_)
      refine lv_iconst (v := 2) hx hb dL_crew_19 (by decide) ?_
      exact k_endI hx hb hr hlocks rfl (by rw [hc1]; rfl) hP1 hD1 hS1 dL_crew_20
  · subst hr9
    obtain rfl := h0 hcode
    refine lv_i2l hx hb dL_crew_8 rfl ?_
    refine k_last0 (WN := wT a cI cZ (nI h) ++ (wW a cI cZ sp we tw ++ (wF a cI cZ ta pl br st md (nI n) bc ++ (wE a cI cZ tu le (upd cr (cl b) x) to ia ++ (wG a cI cZ sl pr mk pc ++ (wOJ o cJ (vp_updL fo 0 (cr (cl b)).toInt64))))))) hx hb hK.1 hP1 hD1 hS1 21 2 rfl rfl rfl dL_crew_9 (fun H2 locs2 hP2 hD2 hS2 => ?_)
    refine lv_goto (tgt := 21) hx hb dL_crew_10 (by decide) ?_
    refine lv_iconst (v := 0) hx hb dL_crew_21 (by decide) ?_
    exact k_endI hx hb hr hlocks rfl (by rw [hcode]; rfl) hP2 hD2 hS2 dL_crew_22

set_option maxHeartbeats 4000000 in
set_option maxRecDepth 100000 in
theorem c_L_repair (l : Launch) (D : va_G) (a : Nat → Nat) (cI cZ cJ cD : ClassId) (sz : Nat) (sp : Nat → Int32) (we : Nat → Int32) (tw : Nat → Int32) (ta : Nat → Int32) (pl : Nat → Int32) (br : Nat → Int32) (st : Nat → Int32) (md : Nat → Int32) (bc : Int32) (tu : Nat → Int32) (le : Nat → Int32) (cr : Nat → Int32) (to : Nat → Int32) (ia : Nat → Int32) (sl : Nat → Int32) (pr : Nat → Int32) (mk : Nat → Int32) (pc : Int64) (n : Nat) (h : Nat) (b : Int32) (t : Int32) (x : Int32) (Wn : va_W) (hflag : l.stackTraces = false) (hn : n ≤ 12) (hh : h < 480) (hbr : ∀ k, br k = 0 ∨ br k = 1) (h0 : (cRepair n br tu b t x) = 0 → Wn = wT a cI cZ (nI h) ++ (wW a cI cZ sp we tw ++ (wF a cI cZ ta pl br st md (nI n) bc ++ (wE a cI cZ (upd tu (cl b) t) (upd le (cl b) x) cr to ia ++ (wG a cI cZ sl pr mk pc))))) (h1 : ¬ (cRepair n br tu b t x) = 0 → Wn = wT a cI cZ (nI h) ++ (wW a cI cZ sp we tw ++ (wF a cI cZ ta pl br st md (nI n) bc ++ (wE a cI cZ tu le cr to ia ++ (wG a cI cZ sl pr mk pc))))) : kW l yL_repair wsL_repair ({ frames := 7, cells := 1, slots := 6, locals := 105 }) [.ref (a 0), .int b, .int t, .int x] D cI cZ cJ cD sz (wT a cI cZ (nI h) ++ (wW a cI cZ sp we tw ++ (wF a cI cZ ta pl br st md (nI n) bc ++ (wE a cI cZ tu le cr to ia ++ (wG a cI cZ sl pr mk pc))))) Wn (cRepair n br tu b t x) := by
  refine k_ofWH (cc := cL_repair) (maxL := 5) (ret := (some .int)) (hh := [(0, 7, 10, 13), (0, 7, 14, 21), (0, 7, 18, 15)]) (by decide) rfl ?_
  intro p e s m args below meth c s₁ B hml hv
  obtain ⟨rfl, hsz, hP, hK, hD0, hX⟩ := hv
  have hx := B.exec
  have hb := B.bytes
  have hr := B.returns
  have hts := atoms_spec (ws := wsL_repair) B.pre
  have hown : s.vm.findClass RL = some m.cls := findClass_of_methodNamed B.named
  have hlocks := B.notSynchronized
  have htab : c.exceptionTable.toList = [⟨0, 7, 10, 13⟩, ⟨0, 7, 14, 21⟩, ⟨0, 7, 18, 15⟩] := vx_table (x := yL_repair) B (hts (.codeWith yL_repair cL_repair 5 (some .int) [(0, 7, 10, 13), (0, 7, 14, 21), (0, 7, 18, 15)]) List.mem_cons_self)
  subst hsz
  have hD := hD0.self (sz := s.heap.size)
  generalize hAe : va_A (wT a cI cZ (nI h) ++ (wW a cI cZ sp we tw ++ (wF a cI cZ ta pl br st md (nI n) bc ++ (wE a cI cZ tu le cr to ia ++ (wG a cI cZ sl pr mk pc))))) s.heap.size = A at hD hX ⊢
  have hA : ∀ q : Nat, s.heap.size ≤ q → A q := fun q h => by rw [← hAe]; exact Or.inr h
  have hl := lv_entry ([.ref (a 0), .int b, .int t, .int x]) (n := 5) (Nat.le_of_ble_eq_true rfl)
  rw [lg_entry_eq]
  generalize (lg_sl ([.ref (a 0), .int b, .int t, .int x]) ++ List.replicate (5 - (lg_sl ([.ref (a 0), .int b, .int t, .int x])).length) Slot.unset).toArray = ls at hl ⊢
  have hl : lv_has ls 5 [(0, .ref (a 0)), (1, .int b), (2, .int t), (3, .int x)] := hl
  refine lv_aload_n hx hb dL_repair_0 rfl (lv_at hl 0 rfl) ?_
  refine lv_iload_n hx hb dL_repair_1 rfl (lv_at hl 1 rfl) ?_
  refine lv_iload_n hx hb dL_repair_2 rfl (lv_at hl 2 rfl) ?_
  refine lv_iload_n hx hb dL_repair_3 rfl (lv_at hl 3 rfl) ?_
  refine k_xwv (As := [.int b, .int t, .int x]) (rest := []) (nL := 5) (WR := ([] : va_W)) (WN := wT a cI cZ (nI h) ++ (wW a cI cZ sp we tw ++ (wF a cI cZ ta pl br st md (nI n) bc ++ (wE a cI cZ (upd tu (cl b) t) (upd le (cl b) x) cr to ia ++ (wG a cI cZ sl pr mk pc))))) ⟨hx, hb, hml, hown, hts⟩ hK hP hD hX hA (c_X4_repair l D a cI cZ s.heap.size sp we tw ta pl br st md bc tu le cr to ia sl pr mk pc n h b t x hflag hn hh hbr) [0, 1, 2, 3, 4, 5, 6, 7, 8, 9, 10, 11, 12, 13, 14, 15, 16, 17, 18, 19, 20] [] [0, 1, 2, 3, 4, 5, 6, 7, 8, 9, 10, 11, 12, 13, 14, 15, 16, 17, 18, 19, 20] rfl rfl rfl rfl rfl (by decide) rfl rfl rfl rfl rfl 0 rfl rfl rfl (cwV 3 hts gL_repair_X4_repair rfl rfl rfl (by decide +kernel) ⟨Nat.le_of_ble_eq_true rfl, Nat.le_of_ble_eq_true rfl⟩) rfl hl.1 rfl (Nat.le_of_ble_eq_true rfl) dL_repair_4 ⟨Nat.le_of_ble_eq_true rfl, Nat.le_of_ble_eq_true rfl⟩ (fun E ce q9 H1 locs1 hE hP1 hD1 hS1 hc9 hv9 hcl9 => ?_) (fun H1 locs1 hcode hP1 hD1 hS1 => ?_)
  · rcases kEx3 hE with ⟨hc1, rfl⟩ | ⟨hc1, rfl⟩ | ⟨hc1, rfl⟩
    · obtain rfl := h1 (fun z => by rw [hc1] at z; exact absurd z (by decide))
      refine vx_catch (own := RL) (name := kIOB) hown [] ⟨0, 7, 10, 13⟩ [⟨0, 7, 14, 21⟩, ⟨0, 7, 18, 15⟩] htab (fun z h => absurd h List.not_mem_nil) rfl (by decide) (hts (.classLink RL 13 kIOB) (by decide +kernel)) (va_Nw.use rfl (hX.2.2.1 (kIOB, 49) (by decide))) hc9 hv9 hcl9 ?_
      refine lv_astore (lv' := [(4, .ref q9), (0, .ref (a 0)), (1, .int b), (2, .int t), (3, .int x)]) hx hb dL_repair_10 hl (by decide) rfl (fun ls hl => ?_)
      refine lv_iconst (v := 1) hx hb dL_repair_12 (by decide) ?_
      exact k_endI hx hb hr hlocks rfl (by rw [hc1]; rfl) hP1 hD1 hS1 dL_repair_13
    · obtain rfl := h1 (fun z => by rw [hc1] at z; exact absurd z (by decide))
      refine vx_catch (own := RL) (name := kIAE) hown [⟨0, 7, 10, 13⟩] ⟨0, 7, 14, 21⟩ [⟨0, 7, 18, 15⟩] htab (List.forall_mem_cons.mpr ⟨Or.inr ⟨by decide, kIOB, hts (.classLink RL 13 kIOB) (by decide +kernel), hK.2.2 (kIAE, kIOB) (by decide)⟩, fun z h => absurd h List.not_mem_nil⟩) rfl (by decide) (hts (.classLink RL 21 kIAE) (by decide +kernel)) (va_Nw.use rfl (hX.2.2.1 (kIAE, 72) (by decide))) hc9 hv9 hcl9 ?_
      refine lv_astore (lv' := [(4, .ref q9), (0, .ref (a 0)), (1, .int b), (2, .int t), (3, .int x)]) hx hb dL_repair_14 hl (by decide) rfl (fun ls hl => ?_)
      refine lv_iconst (v := 2) hx hb dL_repair_16 (by decide) ?_
      exact k_endI hx hb hr hlocks rfl (by rw [hc1]; rfl) hP1 hD1 hS1 dL_repair_17
    · obtain rfl := h1 (fun z => by rw [hc1] at z; exact absurd z (by decide))
      refine vx_catch (own := RL) (name := kISE) hown [⟨0, 7, 10, 13⟩, ⟨0, 7, 14, 21⟩] ⟨0, 7, 18, 15⟩ [] htab (List.forall_mem_cons.mpr ⟨Or.inr ⟨by decide, kIOB, hts (.classLink RL 13 kIOB) (by decide +kernel), hK.2.2 (kISE, kIOB) (by decide)⟩, List.forall_mem_cons.mpr ⟨Or.inr ⟨by decide, kIAE, hts (.classLink RL 21 kIAE) (by decide +kernel), hK.2.2 (kISE, kIAE) (by decide)⟩, fun z h => absurd h List.not_mem_nil⟩⟩) rfl (by decide) (hts (.classLink RL 15 kISE) (by decide +kernel)) (va_Nw.use rfl (hX.2.2.1 (kISE, 60) (by decide))) hc9 hv9 hcl9 ?_
      refine lv_astore (lv' := [(4, .ref q9), (0, .ref (a 0)), (1, .int b), (2, .int t), (3, .int x)]) hx hb dL_repair_18 hl (by decide) rfl (fun ls hl => ?_)
      refine lv_iconst (v := 3) hx hb dL_repair_20 (by decide) ?_
      exact k_endI hx hb hr hlocks rfl (by rw [hc1]; rfl) hP1 hD1 hS1 dL_repair_21
  · obtain rfl := h0 hcode
    refine lv_goto (tgt := 22) hx hb dL_repair_7 (by decide) ?_
    refine lv_iconst (v := 0) hx hb dL_repair_22 (by decide) ?_
    exact k_endI hx hb hr hlocks rfl (by rw [hcode]; rfl) hP1 hD1 hS1 dL_repair_23

set_option maxHeartbeats 4000000 in
set_option maxRecDepth 100000 in
theorem c_L_sell (l : Launch) (D : va_G) (a : Nat → Nat) (cI cZ cJ cD : ClassId) (sz : Nat) (sp : Nat → Int32) (we : Nat → Int32) (tw : Nat → Int32) (ta : Nat → Int32) (pl : Nat → Int32) (br : Nat → Int32) (st : Nat → Int32) (md : Nat → Int32) (bc : Int32) (tu : Nat → Int32) (le : Nat → Int32) (cr : Nat → Int32) (to : Nat → Int32) (ia : Nat → Int32) (sl : Nat → Int32) (pr : Nat → Int32) (mk : Nat → Int32) (pc : Int64) (n : Nat) (h : Nat) (k : Int32) (u : Int32) (q : Int32) (o : Nat) (fo : Nat → Int64) (Wn : va_W) (hflag : l.stackTraces = false) (hn : n ≤ 12) (hh : h < 480) (h0 : (cSell h k u q) = 0 → Wn = wT a cI cZ (nI h) ++ (wW a cI cZ sp we tw ++ (wF a cI cZ ta pl br st md (nI n) bc ++ (wE a cI cZ tu le cr to ia ++ (wG a cI cZ (upd sl (cl k) u) (upd pr (cl k) q) mk pc ++ (wOJ o cJ (vp_updL fo 0 (sl (cl k)).toInt64))))))) (h1 : ¬ (cSell h k u q) = 0 → Wn = wT a cI cZ (nI h) ++ (wW a cI cZ sp we tw ++ (wF a cI cZ ta pl br st md (nI n) bc ++ (wE a cI cZ tu le cr to ia ++ (wG a cI cZ sl pr mk pc ++ (wOJ o cJ fo)))))) : kW l yL_sell wsL_sell ({ frames := 7, cells := 1, slots := 6, locals := 106 }) [.ref (a 0), .int k, .int u, .int q, .ref o] D cI cZ cJ cD sz (wT a cI cZ (nI h) ++ (wW a cI cZ sp we tw ++ (wF a cI cZ ta pl br st md (nI n) bc ++ (wE a cI cZ tu le cr to ia ++ (wG a cI cZ sl pr mk pc ++ (wOJ o cJ fo)))))) Wn (cSell h k u q) := by
  refine k_ofWH (cc := cL_sell) (maxL := 6) (ret := (some .int)) (hh := [(0, 12, 15, 21), (0, 12, 19, 15)]) (by decide) rfl ?_
  intro p e s m args below meth c s₁ B hml hv
  obtain ⟨rfl, hsz, hP, hK, hD0, hX⟩ := hv
  have hx := B.exec
  have hb := B.bytes
  have hr := B.returns
  have hts := atoms_spec (ws := wsL_sell) B.pre
  have hown : s.vm.findClass RL = some m.cls := findClass_of_methodNamed B.named
  have hlocks := B.notSynchronized
  have htab : c.exceptionTable.toList = [⟨0, 12, 15, 21⟩, ⟨0, 12, 19, 15⟩] := vx_table (x := yL_sell) B (hts (.codeWith yL_sell cL_sell 6 (some .int) [(0, 12, 15, 21), (0, 12, 19, 15)]) List.mem_cons_self)
  subst hsz
  have hD := hD0.self (sz := s.heap.size)
  generalize hAe : va_A (wT a cI cZ (nI h) ++ (wW a cI cZ sp we tw ++ (wF a cI cZ ta pl br st md (nI n) bc ++ (wE a cI cZ tu le cr to ia ++ (wG a cI cZ sl pr mk pc ++ (wOJ o cJ fo)))))) s.heap.size = A at hD hX ⊢
  have hA : ∀ q : Nat, s.heap.size ≤ q → A q := fun q h => by rw [← hAe]; exact Or.inr h
  have hl := lv_entry ([.ref (a 0), .int k, .int u, .int q, .ref o]) (n := 6) (Nat.le_of_ble_eq_true rfl)
  rw [lg_entry_eq]
  generalize (lg_sl ([.ref (a 0), .int k, .int u, .int q, .ref o]) ++ List.replicate (6 - (lg_sl ([.ref (a 0), .int k, .int u, .int q, .ref o])).length) Slot.unset).toArray = ls at hl ⊢
  have hl : lv_has ls 6 [(0, .ref (a 0)), (1, .int k), (2, .int u), (3, .int q), (4, .ref o)] := hl
  refine lv_aload hx hb dL_sell_0 (lv_at hl 4 rfl) ?_
  refine lv_iconst (v := 0) hx hb dL_sell_2 (by decide) ?_
  refine lv_aload_n hx hb dL_sell_3 rfl (lv_at hl 0 rfl) ?_
  refine lv_iload_n hx hb dL_sell_4 rfl (lv_at hl 1 rfl) ?_
  refine lv_iload_n hx hb dL_sell_5 rfl (lv_at hl 2 rfl) ?_
  refine lv_iload_n hx hb dL_sell_6 rfl (lv_at hl 3 rfl) ?_
  refine k_xwi (As := [.int k, .int u, .int q]) (rest := [.int 0, .ref o]) (nL := 6) (WR := wOJ o cJ fo) (WN := wT a cI cZ (nI h) ++ (wW a cI cZ sp we tw ++ (wF a cI cZ ta pl br st md (nI n) bc ++ (wE a cI cZ tu le cr to ia ++ (wG a cI cZ (upd sl (cl k) u) (upd pr (cl k) q) mk pc ++ (wOJ o cJ fo)))))) ⟨hx, hb, hml, hown, hts⟩ hK hP hD hX hA (c_X4_sell l D a cI cZ s.heap.size sp we tw ta pl br st md bc tu le cr to ia sl pr mk pc n h k u q hflag hn hh) [0, 1, 2, 3, 4, 5, 6, 7, 8, 9, 10, 11, 12, 13, 14, 15, 16, 17, 18, 19, 20] [21] [1, 2, 3, 4, 5, 6, 7, 8, 9, 10, 11, 12, 13, 14, 15, 16, 17, 18, 19, 20, 21, 0] rfl rfl rfl rfl rfl (by decide) rfl rfl rfl rfl rfl 0 rfl rfl rfl (cwV 3 hts gL_sell_X4_sell rfl rfl rfl (by decide +kernel) ⟨Nat.le_of_ble_eq_true rfl, Nat.le_of_ble_eq_true rfl⟩) rfl hl.1 rfl (Nat.le_of_ble_eq_true rfl) dL_sell_7 ⟨Nat.le_of_ble_eq_true rfl, Nat.le_of_ble_eq_true rfl⟩ (fun E ce q9 H1 locs1 hE hP1 hD1 hS1 hc9 hv9 hcl9 => ?_) (fun r9 H1 locs1 hcode hr9 hP1 hD1 hS1 => ?_)
  · rcases kEx2 hE with ⟨hc1, rfl⟩ | ⟨hc1, rfl⟩
    · obtain rfl := h1 (fun z => by rw [hc1] at z; exact absurd z (by decide))
      refine vx_catch (own := RL) (name := kIAE) hown [] ⟨0, 12, 15, 21⟩ [⟨0, 12, 19, 15⟩] htab (fun z h => absurd h List.not_mem_nil) rfl (by decide) (hts (.classLink RL 21 kIAE) (by decide +kernel)) (va_Nw.use rfl (hX.2.2.1 (kIAE, 72) (by decide))) hc9 hv9 hcl9 ?_
      refine lv_astore (lv' := [(5, .ref q9), (0, .ref (a 0)), (1, .int k), (2, .int u), (3, .int q), (4, .ref o)]) hx hb dL_sell_15 hl (by decide) rfl (fun ls hl => ?_)
      refine lv_iconst (v := 1) hx hb dL_sell_17 (by decide) ?_
      exact k_endI hx hb hr hlocks rfl (by rw [hc1]; rfl) hP1 hD1 hS1 dL_sell_18
    · obtain rfl := h1 (fun z => by rw [hc1] at z; exact absurd z (by decide))
      refine vx_catch (own := RL) (name := kISE) hown [⟨0, 12, 15, 21⟩] ⟨0, 12, 19, 15⟩ [] htab (List.forall_mem_cons.mpr ⟨Or.inr ⟨by decide, kIAE, hts (.classLink RL 21 kIAE) (by decide +kernel), hK.2.2 (kISE, kIAE) (by decide)⟩, fun z h => absurd h List.not_mem_nil⟩) rfl (by decide) (hts (.classLink RL 15 kISE) (by decide +kernel)) (va_Nw.use rfl (hX.2.2.1 (kISE, 60) (by decide))) hc9 hv9 hcl9 ?_
      refine lv_astore (lv' := [(5, .ref q9), (0, .ref (a 0)), (1, .int k), (2, .int u), (3, .int q), (4, .ref o)]) hx hb dL_sell_19 hl (by decide) rfl (fun ls hl => ?_)
      refine lv_iconst (v := 2) hx hb dL_sell_21 (by decide) ?_
      exact k_endI hx hb hr hlocks rfl (by rw [hc1]; rfl) hP1 hD1 hS1 dL_sell_22
  · subst hr9
    obtain rfl := h0 hcode
    refine lv_i2l hx hb dL_sell_10 rfl ?_
    refine k_last0 (WN := wT a cI cZ (nI h) ++ (wW a cI cZ sp we tw ++ (wF a cI cZ ta pl br st md (nI n) bc ++ (wE a cI cZ tu le cr to ia ++ (wG a cI cZ (upd sl (cl k) u) (upd pr (cl k) q) mk pc ++ (wOJ o cJ (vp_updL fo 0 (sl (cl k)).toInt64))))))) hx hb hK.1 hP1 hD1 hS1 21 2 rfl rfl rfl dL_sell_11 (fun H2 locs2 hP2 hD2 hS2 => ?_)
    refine lv_goto (tgt := 23) hx hb dL_sell_12 (by decide) ?_
    refine lv_iconst (v := 0) hx hb dL_sell_23 (by decide) ?_
    exact k_endI hx hb hr hlocks rfl (by rw [hcode]; rfl) hP2 hD2 hS2 dL_sell_24

set_option maxHeartbeats 4000000 in
set_option maxRecDepth 100000 in
theorem c_L_pass (l : Launch) (D : va_G) (a : Nat → Nat) (cI cZ cJ cD : ClassId) (sz : Nat) (sp : Nat → Int32) (we : Nat → Int32) (tw : Nat → Int32) (ta : Nat → Int32) (pl : Nat → Int32) (br : Nat → Int32) (md : Nat → Int32) (tu : Nat → Int32) (le : Nat → Int32) (cr : Nat → Int32) (to : Nat → Int32) (ia : Nat → Int32) (sl : Nat → Int32) (pr : Nat → Int32) (mk : Nat → Int32) (n : Nat) (h : Nat) (x : Int32) (o : Nat) (fo : Nat → Int64) (Wn : va_W) (hflag : l.stackTraces = false) (hn : n ≤ 12) (hh : h < 480) (hpl : ∀ k, k < n → pl k = nI (fP pl k) ∧ fP pl k < 24) (hwe : ∀ k, we k = 0 ∨ we k = 1) (hok : hOk n (mkS br md tu le to ia mk)) (h0 : (cPass h x) = 0 → Wn = wT a cI cZ (nI (h + (cl x))) ++ (wW a cI cZ sp we tw ++ (wF a cI cZ ta pl (hIt n h ta pl sp we tw cr (mkS br md tu le to ia mk) (cl x) 0) (fun _ => 0) (hIt n h ta pl sp we tw cr (mkS br md tu le to ia mk) (cl x) 1) (nI n) (fSum (hIt n h ta pl sp we tw cr (mkS br md tu le to ia mk) (cl x) 0) n) ++ (wE a cI cZ (hIt n h ta pl sp we tw cr (mkS br md tu le to ia mk) (cl x) 2) (hIt n h ta pl sp we tw cr (mkS br md tu le to ia mk) (cl x) 3) cr (hIt n h ta pl sp we tw cr (mkS br md tu le to ia mk) (cl x) 4) (hIt n h ta pl sp we tw cr (mkS br md tu le to ia mk) (cl x) 5) ++ (wG a cI cZ sl pr (hIt n h ta pl sp we tw cr (mkS br md tu le to ia mk) (cl x) 6) (fBrt sl pr (hIt n h ta pl sp we tw cr (mkS br md tu le to ia mk) (cl x) 6) (h + (cl x))) ++ (wOJ o cJ (vp_updL fo 0 (nI (h + cl x)).toInt64))))))) (h1 : ¬ (cPass h x) = 0 → Wn = wT a cI cZ (nI h) ++ (wW a cI cZ sp we tw ++ (wF a cI cZ ta pl br (fun _ => 0) md (nI n) (fSum br n) ++ (wE a cI cZ tu le cr to ia ++ (wG a cI cZ sl pr mk (fBrt sl pr mk h) ++ (wOJ o cJ fo)))))) : kW l yL_pass wsL_pass ({ frames := 7, cells := 1, slots := 6, locals := 162 }) [.ref (a 0), .int x, .ref o] D cI cZ cJ cD sz (wT a cI cZ (nI h) ++ (wW a cI cZ sp we tw ++ (wF a cI cZ ta pl br (fun _ => 0) md (nI n) (fSum br n) ++ (wE a cI cZ tu le cr to ia ++ (wG a cI cZ sl pr mk (fBrt sl pr mk h) ++ (wOJ o cJ fo)))))) Wn (cPass h x) := by
  refine k_ofWH (cc := cL_pass) (maxL := 4) (ret := (some .int)) (hh := [(0, 9, 12, 21), (0, 9, 15, 15)]) (by decide) rfl ?_
  intro p e s m args below meth c s₁ B hml hv
  obtain ⟨rfl, hsz, hP, hK, hD0, hX⟩ := hv
  have hx := B.exec
  have hb := B.bytes
  have hr := B.returns
  have hts := atoms_spec (ws := wsL_pass) B.pre
  have hown : s.vm.findClass RL = some m.cls := findClass_of_methodNamed B.named
  have hlocks := B.notSynchronized
  have htab : c.exceptionTable.toList = [⟨0, 9, 12, 21⟩, ⟨0, 9, 15, 15⟩] := vx_table (x := yL_pass) B (hts (.codeWith yL_pass cL_pass 4 (some .int) [(0, 9, 12, 21), (0, 9, 15, 15)]) List.mem_cons_self)
  subst hsz
  have hD := hD0.self (sz := s.heap.size)
  generalize hAe : va_A (wT a cI cZ (nI h) ++ (wW a cI cZ sp we tw ++ (wF a cI cZ ta pl br (fun _ => 0) md (nI n) (fSum br n) ++ (wE a cI cZ tu le cr to ia ++ (wG a cI cZ sl pr mk (fBrt sl pr mk h) ++ (wOJ o cJ fo)))))) s.heap.size = A at hD hX ⊢
  have hA : ∀ q : Nat, s.heap.size ≤ q → A q := fun q h => by rw [← hAe]; exact Or.inr h
  have hl := lv_entry ([.ref (a 0), .int x, .ref o]) (n := 4) (Nat.le_of_ble_eq_true rfl)
  rw [lg_entry_eq]
  generalize (lg_sl ([.ref (a 0), .int x, .ref o]) ++ List.replicate (4 - (lg_sl ([.ref (a 0), .int x, .ref o])).length) Slot.unset).toArray = ls at hl ⊢
  have hl : lv_has ls 4 [(0, .ref (a 0)), (1, .int x), (2, .ref o)] := hl
  refine lv_aload_n hx hb dL_pass_0 rfl (lv_at hl 2 rfl) ?_
  refine lv_iconst (v := 0) hx hb dL_pass_1 (by decide) ?_
  refine lv_aload_n hx hb dL_pass_2 rfl (lv_at hl 0 rfl) ?_
  refine lv_iload_n hx hb dL_pass_3 rfl (lv_at hl 1 rfl) ?_
  refine k_xwi (As := [.int x]) (rest := [.int 0, .ref o]) (nL := 4) (WR := wOJ o cJ fo) (WN := wT a cI cZ (nI (h + (cl x))) ++ (wW a cI cZ sp we tw ++ (wF a cI cZ ta pl (hIt n h ta pl sp we tw cr (mkS br md tu le to ia mk) (cl x) 0) (fun _ => 0) (hIt n h ta pl sp we tw cr (mkS br md tu le to ia mk) (cl x) 1) (nI n) (fSum (hIt n h ta pl sp we tw cr (mkS br md tu le to ia mk) (cl x) 0) n) ++ (wE a cI cZ (hIt n h ta pl sp we tw cr (mkS br md tu le to ia mk) (cl x) 2) (hIt n h ta pl sp we tw cr (mkS br md tu le to ia mk) (cl x) 3) cr (hIt n h ta pl sp we tw cr (mkS br md tu le to ia mk) (cl x) 4) (hIt n h ta pl sp we tw cr (mkS br md tu le to ia mk) (cl x) 5) ++ (wG a cI cZ sl pr (hIt n h ta pl sp we tw cr (mkS br md tu le to ia mk) (cl x) 6) (fBrt sl pr (hIt n h ta pl sp we tw cr (mkS br md tu le to ia mk) (cl x) 6) (h + (cl x))) ++ (wOJ o cJ fo)))))) ⟨hx, hb, hml, hown, hts⟩ hK hP hD hX hA (c_X4_pass l D a cI cZ s.heap.size sp we tw ta pl br md tu le cr to ia sl pr mk n h x hflag hn hh hpl hwe hok) [0, 1, 2, 3, 4, 5, 6, 7, 8, 9, 10, 11, 12, 13, 14, 15, 16, 17, 18, 19, 20] [21] [1, 2, 3, 4, 5, 6, 7, 8, 9, 10, 11, 12, 13, 14, 15, 16, 17, 18, 19, 20, 21, 0] rfl rfl rfl rfl rfl (by decide) rfl rfl rfl rfl rfl 0 rfl rfl rfl (cwV 1 hts gL_pass_X4_pass rfl rfl rfl (by decide +kernel) ⟨Nat.le_of_ble_eq_true rfl, Nat.le_of_ble_eq_true rfl⟩) rfl hl.1 rfl (Nat.le_of_ble_eq_true rfl) dL_pass_4 ⟨Nat.le_of_ble_eq_true rfl, Nat.le_of_ble_eq_true rfl⟩ (fun E ce q9 H1 locs1 hE hP1 hD1 hS1 hc9 hv9 hcl9 => ?_) (fun r9 H1 locs1 hcode hr9 hP1 hD1 hS1 => ?_)
  · rcases kEx2 hE with ⟨hc1, rfl⟩ | ⟨hc1, rfl⟩
    · obtain rfl := h1 (fun z => by rw [hc1] at z; exact absurd z (by decide))
      refine vx_catch (own := RL) (name := kIAE) hown [] ⟨0, 9, 12, 21⟩ [⟨0, 9, 15, 15⟩] htab (fun z h => absurd h List.not_mem_nil) rfl (by decide) (hts (.classLink RL 21 kIAE) (by decide +kernel)) (va_Nw.use rfl (hX.2.2.1 (kIAE, 72) (by decide))) hc9 hv9 hcl9 ?_
      refine lv_astore_n (lv' := [(3, .ref q9), (0, .ref (a 0)), (1, .int x), (2, .ref o)]) hx hb dL_pass_12 rfl hl (by decide) rfl (fun ls hl => ?_)
      refine lv_iconst (v := 1) hx hb dL_pass_13 (by decide) ?_
      exact k_endI hx hb hr hlocks rfl (by rw [hc1]; rfl) hP1 hD1 hS1 dL_pass_14
    · obtain rfl := h1 (fun z => by rw [hc1] at z; exact absurd z (by decide))
      refine vx_catch (own := RL) (name := kISE) hown [⟨0, 9, 12, 21⟩] ⟨0, 9, 15, 15⟩ [] htab (List.forall_mem_cons.mpr ⟨Or.inr ⟨by decide, kIAE, hts (.classLink RL 21 kIAE) (by decide +kernel), hK.2.2 (kISE, kIAE) (by decide)⟩, fun z h => absurd h List.not_mem_nil⟩) rfl (by decide) (hts (.classLink RL 15 kISE) (by decide +kernel)) (va_Nw.use rfl (hX.2.2.1 (kISE, 60) (by decide))) hc9 hv9 hcl9 ?_
      refine lv_astore_n (lv' := [(3, .ref q9), (0, .ref (a 0)), (1, .int x), (2, .ref o)]) hx hb dL_pass_15 rfl hl (by decide) rfl (fun ls hl => ?_)
      refine lv_iconst (v := 2) hx hb dL_pass_16 (by decide) ?_
      exact k_endI hx hb hr hlocks rfl (by rw [hc1]; rfl) hP1 hD1 hS1 dL_pass_17
  · subst hr9
    obtain rfl := h0 hcode
    refine lv_i2l hx hb dL_pass_7 rfl ?_
    refine k_last0 (WN := wT a cI cZ (nI (h + (cl x))) ++ (wW a cI cZ sp we tw ++ (wF a cI cZ ta pl (hIt n h ta pl sp we tw cr (mkS br md tu le to ia mk) (cl x) 0) (fun _ => 0) (hIt n h ta pl sp we tw cr (mkS br md tu le to ia mk) (cl x) 1) (nI n) (fSum (hIt n h ta pl sp we tw cr (mkS br md tu le to ia mk) (cl x) 0) n) ++ (wE a cI cZ (hIt n h ta pl sp we tw cr (mkS br md tu le to ia mk) (cl x) 2) (hIt n h ta pl sp we tw cr (mkS br md tu le to ia mk) (cl x) 3) cr (hIt n h ta pl sp we tw cr (mkS br md tu le to ia mk) (cl x) 4) (hIt n h ta pl sp we tw cr (mkS br md tu le to ia mk) (cl x) 5) ++ (wG a cI cZ sl pr (hIt n h ta pl sp we tw cr (mkS br md tu le to ia mk) (cl x) 6) (fBrt sl pr (hIt n h ta pl sp we tw cr (mkS br md tu le to ia mk) (cl x) 6) (h + (cl x))) ++ (wOJ o cJ (vp_updL fo 0 (nI (h + cl x)).toInt64))))))) hx hb hK.1 hP1 hD1 hS1 21 2 rfl rfl rfl dL_pass_8 (fun H2 locs2 hP2 hD2 hS2 => ?_)
    refine lv_goto (tgt := 18) hx hb dL_pass_9 (by decide) ?_
    refine lv_iconst (v := 0) hx hb dL_pass_18 (by decide) ?_
    exact k_endI hx hb hr hlocks rfl (by rw [hcode]; rfl) hP2 hD2 hS2 dL_pass_19

set_option maxHeartbeats 4000000 in
set_option maxRecDepth 100000 in
theorem c_L_windAt (l : Launch) (D : va_G) (a : Nat → Nat) (cI cZ cJ cD : ClassId) (sz : Nat) (sp : Nat → Int32) (we : Nat → Int32) (tw : Nat → Int32) (ta : Nat → Int32) (pl : Nat → Int32) (br : Nat → Int32) (st : Nat → Int32) (md : Nat → Int32) (bc : Int32) (tu : Nat → Int32) (le : Nat → Int32) (cr : Nat → Int32) (to : Nat → Int32) (ia : Nat → Int32) (sl : Nat → Int32) (pr : Nat → Int32) (mk : Nat → Int32) (pc : Int64) (n : Nat) (h : Nat) (t : Int32) (o : Nat) (fo : Nat → Int64) (Wn : va_W) (hflag : l.stackTraces = false) (hn : n ≤ 12) (hh : h < 480) (hpl : ∀ k, k < n → pl k = nI (fP pl k) ∧ fP pl k < 24) (hwe : ∀ k, we k = 0 ∨ we k = 1) (h0 : (cWindAt n t) = 0 → Wn = wT a cI cZ (nI h) ++ (wW a cI cZ sp we tw ++ (wF a cI cZ ta pl br st md (nI n) bc ++ (wE a cI cZ tu le cr to ia ++ (wG a cI cZ sl pr mk pc ++ (wOJ o cJ (vp_updL fo 0 (fWind (we h) pl br st n (sp h) (fP pl (cl t))).toInt64))))))) (h1 : ¬ (cWindAt n t) = 0 → Wn = wT a cI cZ (nI h) ++ (wW a cI cZ sp we tw ++ (wF a cI cZ ta pl br st md (nI n) bc ++ (wE a cI cZ tu le cr to ia ++ (wG a cI cZ sl pr mk pc ++ (wOJ o cJ fo)))))) : kW l yL_windAt wsL_windAt ({ frames := 7, cells := 1, slots := 6, locals := 103 }) [.ref (a 0), .int t, .ref o] D cI cZ cJ cD sz (wT a cI cZ (nI h) ++ (wW a cI cZ sp we tw ++ (wF a cI cZ ta pl br st md (nI n) bc ++ (wE a cI cZ tu le cr to ia ++ (wG a cI cZ sl pr mk pc ++ (wOJ o cJ fo)))))) Wn (cWindAt n t) := by
  refine k_ofWH (cc := cL_windAt) (maxL := 4) (ret := (some .int)) (hh := [(0, 9, 12, 13)]) (by decide) rfl ?_
  intro p e s m args below meth c s₁ B hml hv
  obtain ⟨rfl, hsz, hP, hK, hD0, hX⟩ := hv
  have hx := B.exec
  have hb := B.bytes
  have hr := B.returns
  have hts := atoms_spec (ws := wsL_windAt) B.pre
  have hown : s.vm.findClass RL = some m.cls := findClass_of_methodNamed B.named
  have hlocks := B.notSynchronized
  have htab : c.exceptionTable.toList = [⟨0, 9, 12, 13⟩] := vx_table (x := yL_windAt) B (hts (.codeWith yL_windAt cL_windAt 4 (some .int) [(0, 9, 12, 13)]) List.mem_cons_self)
  subst hsz
  have hD := hD0.self (sz := s.heap.size)
  generalize hAe : va_A (wT a cI cZ (nI h) ++ (wW a cI cZ sp we tw ++ (wF a cI cZ ta pl br st md (nI n) bc ++ (wE a cI cZ tu le cr to ia ++ (wG a cI cZ sl pr mk pc ++ (wOJ o cJ fo)))))) s.heap.size = A at hD hX ⊢
  have hA : ∀ q : Nat, s.heap.size ≤ q → A q := fun q h => by rw [← hAe]; exact Or.inr h
  have hl := lv_entry ([.ref (a 0), .int t, .ref o]) (n := 4) (Nat.le_of_ble_eq_true rfl)
  rw [lg_entry_eq]
  generalize (lg_sl ([.ref (a 0), .int t, .ref o]) ++ List.replicate (4 - (lg_sl ([.ref (a 0), .int t, .ref o])).length) Slot.unset).toArray = ls at hl ⊢
  have hl : lv_has ls 4 [(0, .ref (a 0)), (1, .int t), (2, .ref o)] := hl
  refine lv_aload_n hx hb dL_windAt_0 rfl (lv_at hl 2 rfl) ?_
  refine lv_iconst (v := 0) hx hb dL_windAt_1 (by decide) ?_
  refine lv_aload_n hx hb dL_windAt_2 rfl (lv_at hl 0 rfl) ?_
  refine lv_iload_n hx hb dL_windAt_3 rfl (lv_at hl 1 rfl) ?_
  refine k_xwi (As := [.int t]) (rest := [.int 0, .ref o]) (nL := 4) (WR := wOJ o cJ fo) (WN := wT a cI cZ (nI h) ++ (wW a cI cZ sp we tw ++ (wF a cI cZ ta pl br st md (nI n) bc ++ (wE a cI cZ tu le cr to ia ++ (wG a cI cZ sl pr mk pc ++ (wOJ o cJ fo)))))) ⟨hx, hb, hml, hown, hts⟩ hK hP hD hX hA (c_X4_windAt l D a cI cZ s.heap.size sp we tw ta pl br st md bc tu le cr to ia sl pr mk pc n h t hflag hn hh hpl hwe) [0, 1, 2, 3, 4, 5, 6, 7, 8, 9, 10, 11, 12, 13, 14, 15, 16, 17, 18, 19, 20] [21] [1, 2, 3, 4, 5, 6, 7, 8, 9, 10, 11, 12, 13, 14, 15, 16, 17, 18, 19, 20, 21, 0] rfl rfl rfl rfl rfl (by decide) rfl rfl rfl rfl rfl 0 rfl rfl rfl (cwV 1 hts gL_windAt_X4_windAt rfl rfl rfl (by decide +kernel) ⟨Nat.le_of_ble_eq_true rfl, Nat.le_of_ble_eq_true rfl⟩) rfl hl.1 rfl (Nat.le_of_ble_eq_true rfl) dL_windAt_4 ⟨Nat.le_of_ble_eq_true rfl, Nat.le_of_ble_eq_true rfl⟩ (fun E ce q9 H1 locs1 hE hP1 hD1 hS1 hc9 hv9 hcl9 => ?_) (fun r9 H1 locs1 hcode hr9 hP1 hD1 hS1 => ?_)
  · obtain ⟨hc1, rfl⟩ := kEx1 hE
    obtain rfl := h1 (fun z => by rw [hc1] at z; exact absurd z (by decide))
    refine vx_catch (own := RL) (name := kIOB) hown [] ⟨0, 9, 12, 13⟩ [] htab (fun z h => absurd h List.not_mem_nil) rfl (by decide) (hts (.classLink RL 13 kIOB) (by decide +kernel)) (va_Nw.use rfl (hX.2.2.1 (kIOB, 49) (by decide))) hc9 hv9 hcl9 ?_
    refine lv_astore_n (lv' := [(3, .ref q9), (0, .ref (a 0)), (1, .int t), (2, .ref o)]) hx hb dL_windAt_12 rfl hl (by decide) rfl (fun ls hl => ?_)
    refine lv_iconst (v := 1) hx hb dL_windAt_13 (by decide) ?_
    exact k_endI hx hb hr hlocks rfl (by rw [hc1]; rfl) hP1 hD1 hS1 dL_windAt_14
  · subst hr9
    obtain rfl := h0 hcode
    refine lv_i2l hx hb dL_windAt_7 rfl ?_
    refine k_last0 (WN := wT a cI cZ (nI h) ++ (wW a cI cZ sp we tw ++ (wF a cI cZ ta pl br st md (nI n) bc ++ (wE a cI cZ tu le cr to ia ++ (wG a cI cZ sl pr mk pc ++ (wOJ o cJ (vp_updL fo 0 (fWind (we h) pl br st n (sp h) (fP pl (cl t))).toInt64))))))) hx hb hK.1 hP1 hD1 hS1 21 2 rfl rfl rfl dL_windAt_8 (fun H2 locs2 hP2 hD2 hS2 => ?_)
    refine lv_goto (tgt := 15) hx hb dL_windAt_9 (by decide) ?_
    refine lv_iconst (v := 0) hx hb dL_windAt_15 (by decide) ?_
    exact k_endI hx hb hr hlocks rfl (by rw [hcode]; rfl) hP2 hD2 hS2 dL_windAt_16

set_option maxHeartbeats 4000000 in
set_option maxRecDepth 100000 in
theorem c_L_foretold (l : Launch) (D : va_G) (a : Nat → Nat) (cI cZ cJ cD : ClassId) (sz : Nat) (sp : Nat → Int32) (we : Nat → Int32) (tw : Nat → Int32) (ta : Nat → Int32) (pl : Nat → Int32) (br : Nat → Int32) (st : Nat → Int32) (md : Nat → Int32) (bc : Int32) (tu : Nat → Int32) (le : Nat → Int32) (cr : Nat → Int32) (to : Nat → Int32) (ia : Nat → Int32) (sl : Nat → Int32) (pr : Nat → Int32) (mk : Nat → Int32) (pc : Int64) (n : Nat) (h : Nat) (k : Int32) (o : Nat) (fo : Nat → Int64) (Wn : va_W) (hflag : l.stackTraces = false) (hn : n ≤ 12) (hh : h < 480) (hpl : ∀ k, k < n → pl k = nI (fP pl k) ∧ fP pl k < 24) (hwe : ∀ k, we k = 0 ∨ we k = 1) (h0 : (cFore h k) = 0 → Wn = wT a cI cZ (nI h) ++ (wW a cI cZ sp we tw ++ (wF a cI cZ ta pl br st md (nI n) bc ++ (wE a cI cZ tu le cr to ia ++ (wG a cI cZ sl pr mk pc ++ (wOJ o cJ (vp_updL fo 0 (fSum (fPw (we (cl k)) pl br st n (sp (cl k))) n).toInt64))))))) (h1 : ¬ (cFore h k) = 0 → Wn = wT a cI cZ (nI h) ++ (wW a cI cZ sp we tw ++ (wF a cI cZ ta pl br st md (nI n) bc ++ (wE a cI cZ tu le cr to ia ++ (wG a cI cZ sl pr mk pc ++ (wOJ o cJ fo)))))) : kW l yL_foretold wsL_foretold ({ frames := 7, cells := 1, slots := 6, locals := 140 }) [.ref (a 0), .int k, .ref o] D cI cZ cJ cD sz (wT a cI cZ (nI h) ++ (wW a cI cZ sp we tw ++ (wF a cI cZ ta pl br st md (nI n) bc ++ (wE a cI cZ tu le cr to ia ++ (wG a cI cZ sl pr mk pc ++ (wOJ o cJ fo)))))) Wn (cFore h k) := by
  refine k_ofWH (cc := cL_foretold) (maxL := 4) (ret := (some .int)) (hh := [(0, 9, 12, 21)]) (by decide) rfl ?_
  intro p e s m args below meth c s₁ B hml hv
  obtain ⟨rfl, hsz, hP, hK, hD0, hX⟩ := hv
  have hx := B.exec
  have hb := B.bytes
  have hr := B.returns
  have hts := atoms_spec (ws := wsL_foretold) B.pre
  have hown : s.vm.findClass RL = some m.cls := findClass_of_methodNamed B.named
  have hlocks := B.notSynchronized
  have htab : c.exceptionTable.toList = [⟨0, 9, 12, 21⟩] := vx_table (x := yL_foretold) B (hts (.codeWith yL_foretold cL_foretold 4 (some .int) [(0, 9, 12, 21)]) List.mem_cons_self)
  subst hsz
  have hD := hD0.self (sz := s.heap.size)
  generalize hAe : va_A (wT a cI cZ (nI h) ++ (wW a cI cZ sp we tw ++ (wF a cI cZ ta pl br st md (nI n) bc ++ (wE a cI cZ tu le cr to ia ++ (wG a cI cZ sl pr mk pc ++ (wOJ o cJ fo)))))) s.heap.size = A at hD hX ⊢
  have hA : ∀ q : Nat, s.heap.size ≤ q → A q := fun q h => by rw [← hAe]; exact Or.inr h
  have hl := lv_entry ([.ref (a 0), .int k, .ref o]) (n := 4) (Nat.le_of_ble_eq_true rfl)
  rw [lg_entry_eq]
  generalize (lg_sl ([.ref (a 0), .int k, .ref o]) ++ List.replicate (4 - (lg_sl ([.ref (a 0), .int k, .ref o])).length) Slot.unset).toArray = ls at hl ⊢
  have hl : lv_has ls 4 [(0, .ref (a 0)), (1, .int k), (2, .ref o)] := hl
  refine lv_aload_n hx hb dL_foretold_0 rfl (lv_at hl 2 rfl) ?_
  refine lv_iconst (v := 0) hx hb dL_foretold_1 (by decide) ?_
  refine lv_aload_n hx hb dL_foretold_2 rfl (lv_at hl 0 rfl) ?_
  refine lv_iload_n hx hb dL_foretold_3 rfl (lv_at hl 1 rfl) ?_
  refine k_xwi (As := [.int k]) (rest := [.int 0, .ref o]) (nL := 4) (WR := wOJ o cJ fo) (WN := wT a cI cZ (nI h) ++ (wW a cI cZ sp we tw ++ (wF a cI cZ ta pl br st md (nI n) bc ++ (wE a cI cZ tu le cr to ia ++ (wG a cI cZ sl pr mk pc ++ (wOJ o cJ fo)))))) ⟨hx, hb, hml, hown, hts⟩ hK hP hD hX hA (c_X4_foretold l D a cI cZ s.heap.size sp we tw ta pl br st md bc tu le cr to ia sl pr mk pc n h k hflag hn hh hpl hwe) [0, 1, 2, 3, 4, 5, 6, 7, 8, 9, 10, 11, 12, 13, 14, 15, 16, 17, 18, 19, 20] [21] [1, 2, 3, 4, 5, 6, 7, 8, 9, 10, 11, 12, 13, 14, 15, 16, 17, 18, 19, 20, 21, 0] rfl rfl rfl rfl rfl (by decide) rfl rfl rfl rfl rfl 0 rfl rfl rfl (cwV 1 hts gL_foretold_X4_foretold rfl rfl rfl (by decide +kernel) ⟨Nat.le_of_ble_eq_true rfl, Nat.le_of_ble_eq_true rfl⟩) rfl hl.1 rfl (Nat.le_of_ble_eq_true rfl) dL_foretold_4 ⟨Nat.le_of_ble_eq_true rfl, Nat.le_of_ble_eq_true rfl⟩ (fun E ce q9 H1 locs1 hE hP1 hD1 hS1 hc9 hv9 hcl9 => ?_) (fun r9 H1 locs1 hcode hr9 hP1 hD1 hS1 => ?_)
  · obtain ⟨hc1, rfl⟩ := kEx1 hE
    obtain rfl := h1 (fun z => by rw [hc1] at z; exact absurd z (by decide))
    refine vx_catch (own := RL) (name := kIAE) hown [] ⟨0, 9, 12, 21⟩ [] htab (fun z h => absurd h List.not_mem_nil) rfl (by decide) (hts (.classLink RL 21 kIAE) (by decide +kernel)) (va_Nw.use rfl (hX.2.2.1 (kIAE, 72) (by decide))) hc9 hv9 hcl9 ?_
    refine lv_astore_n (lv' := [(3, .ref q9), (0, .ref (a 0)), (1, .int k), (2, .ref o)]) hx hb dL_foretold_12 rfl hl (by decide) rfl (fun ls hl => ?_)
    refine lv_iconst (v := 1) hx hb dL_foretold_13 (by decide) ?_
    exact k_endI hx hb hr hlocks rfl (by rw [hc1]; rfl) hP1 hD1 hS1 dL_foretold_14
  · subst hr9
    obtain rfl := h0 hcode
    refine lv_i2l hx hb dL_foretold_7 rfl ?_
    refine k_last0 (WN := wT a cI cZ (nI h) ++ (wW a cI cZ sp we tw ++ (wF a cI cZ ta pl br st md (nI n) bc ++ (wE a cI cZ tu le cr to ia ++ (wG a cI cZ sl pr mk pc ++ (wOJ o cJ (vp_updL fo 0 (fSum (fPw (we (cl k)) pl br st n (sp (cl k))) n).toInt64))))))) hx hb hK.1 hP1 hD1 hS1 21 2 rfl rfl rfl dL_foretold_8 (fun H2 locs2 hP2 hD2 hS2 => ?_)
    refine lv_goto (tgt := 15) hx hb dL_foretold_9 (by decide) ?_
    refine lv_iconst (v := 0) hx hb dL_foretold_15 (by decide) ?_
    exact k_endI hx hb hr hlocks rfl (by rw [hcode]; rfl) hP2 hD2 hS2 dL_foretold_16

set_option maxHeartbeats 4000000 in
set_option maxRecDepth 100000 in
theorem c_L_foretoldAnew (l : Launch) (D : va_G) (a : Nat → Nat) (cI cZ cJ cD : ClassId) (sz : Nat) (sp : Nat → Int32) (we : Nat → Int32) (tw : Nat → Int32) (ta : Nat → Int32) (pl : Nat → Int32) (br : Nat → Int32) (st : Nat → Int32) (md : Nat → Int32) (bc : Int32) (tu : Nat → Int32) (le : Nat → Int32) (cr : Nat → Int32) (to : Nat → Int32) (ia : Nat → Int32) (sl : Nat → Int32) (pr : Nat → Int32) (mk : Nat → Int32) (pc : Int64) (n : Nat) (h : Nat) (k : Int32) (o : Nat) (fo : Nat → Int64) (Wn : va_W) (hflag : l.stackTraces = false) (hn : n ≤ 12) (hh : h < 480) (hpl : ∀ k, k < n → pl k = nI (fP pl k) ∧ fP pl k < 24) (hwe : ∀ k, we k = 0 ∨ we k = 1) (h0 : (cFore h k) = 0 → Wn = wT a cI cZ (nI h) ++ (wW a cI cZ sp we tw ++ (wF a cI cZ ta pl br st md (nI n) bc ++ (wE a cI cZ tu le cr to ia ++ (wG a cI cZ sl pr mk pc ++ (wOJ o cJ (vp_updL fo 0 (fSum (fPwAnew (we (cl k)) pl ta br st n (sp (cl k))) n).toInt64))))))) (h1 : ¬ (cFore h k) = 0 → Wn = wT a cI cZ (nI h) ++ (wW a cI cZ sp we tw ++ (wF a cI cZ ta pl br st md (nI n) bc ++ (wE a cI cZ tu le cr to ia ++ (wG a cI cZ sl pr mk pc ++ (wOJ o cJ fo)))))) : kW l yL_foretoldAnew wsL_foretoldAnew ({ frames := 7, cells := 1, slots := 6, locals := 116 }) [.ref (a 0), .int k, .ref o] D cI cZ cJ cD sz (wT a cI cZ (nI h) ++ (wW a cI cZ sp we tw ++ (wF a cI cZ ta pl br st md (nI n) bc ++ (wE a cI cZ tu le cr to ia ++ (wG a cI cZ sl pr mk pc ++ (wOJ o cJ fo)))))) Wn (cFore h k) := by
  refine k_ofWH (cc := cL_foretoldAnew) (maxL := 4) (ret := (some .int)) (hh := [(0, 9, 12, 21)]) (by decide) rfl ?_
  intro p e s m args below meth c s₁ B hml hv
  obtain ⟨rfl, hsz, hP, hK, hD0, hX⟩ := hv
  have hx := B.exec
  have hb := B.bytes
  have hr := B.returns
  have hts := atoms_spec (ws := wsL_foretoldAnew) B.pre
  have hown : s.vm.findClass RL = some m.cls := findClass_of_methodNamed B.named
  have hlocks := B.notSynchronized
  have htab : c.exceptionTable.toList = [⟨0, 9, 12, 21⟩] := vx_table (x := yL_foretoldAnew) B (hts (.codeWith yL_foretoldAnew cL_foretoldAnew 4 (some .int) [(0, 9, 12, 21)]) List.mem_cons_self)
  subst hsz
  have hD := hD0.self (sz := s.heap.size)
  generalize hAe : va_A (wT a cI cZ (nI h) ++ (wW a cI cZ sp we tw ++ (wF a cI cZ ta pl br st md (nI n) bc ++ (wE a cI cZ tu le cr to ia ++ (wG a cI cZ sl pr mk pc ++ (wOJ o cJ fo)))))) s.heap.size = A at hD hX ⊢
  have hA : ∀ q : Nat, s.heap.size ≤ q → A q := fun q h => by rw [← hAe]; exact Or.inr h
  have hl := lv_entry ([.ref (a 0), .int k, .ref o]) (n := 4) (Nat.le_of_ble_eq_true rfl)
  rw [lg_entry_eq]
  generalize (lg_sl ([.ref (a 0), .int k, .ref o]) ++ List.replicate (4 - (lg_sl ([.ref (a 0), .int k, .ref o])).length) Slot.unset).toArray = ls at hl ⊢
  have hl : lv_has ls 4 [(0, .ref (a 0)), (1, .int k), (2, .ref o)] := hl
  refine lv_aload_n hx hb dL_foretoldAnew_0 rfl (lv_at hl 2 rfl) ?_
  refine lv_iconst (v := 0) hx hb dL_foretoldAnew_1 (by decide) ?_
  refine lv_aload_n hx hb dL_foretoldAnew_2 rfl (lv_at hl 0 rfl) ?_
  refine lv_iload_n hx hb dL_foretoldAnew_3 rfl (lv_at hl 1 rfl) ?_
  refine k_xwi (As := [.int k]) (rest := [.int 0, .ref o]) (nL := 4) (WR := wOJ o cJ fo) (WN := wT a cI cZ (nI h) ++ (wW a cI cZ sp we tw ++ (wF a cI cZ ta pl br st md (nI n) bc ++ (wE a cI cZ tu le cr to ia ++ (wG a cI cZ sl pr mk pc ++ (wOJ o cJ fo)))))) ⟨hx, hb, hml, hown, hts⟩ hK hP hD hX hA (c_X4_foretoldAnew l D a cI cZ s.heap.size sp we tw ta pl br st md bc tu le cr to ia sl pr mk pc n h k hflag hn hh hpl hwe) [0, 1, 2, 3, 4, 5, 6, 7, 8, 9, 10, 11, 12, 13, 14, 15, 16, 17, 18, 19, 20] [21] [1, 2, 3, 4, 5, 6, 7, 8, 9, 10, 11, 12, 13, 14, 15, 16, 17, 18, 19, 20, 21, 0] rfl rfl rfl rfl rfl (by decide) rfl rfl rfl rfl rfl 0 rfl rfl rfl (cwV 1 hts gL_foretoldAnew_X4_foretoldAnew rfl rfl rfl (by decide +kernel) ⟨Nat.le_of_ble_eq_true rfl, Nat.le_of_ble_eq_true rfl⟩) rfl hl.1 rfl (Nat.le_of_ble_eq_true rfl) dL_foretoldAnew_4 ⟨Nat.le_of_ble_eq_true rfl, Nat.le_of_ble_eq_true rfl⟩ (fun E ce q9 H1 locs1 hE hP1 hD1 hS1 hc9 hv9 hcl9 => ?_) (fun r9 H1 locs1 hcode hr9 hP1 hD1 hS1 => ?_)
  · obtain ⟨hc1, rfl⟩ := kEx1 hE
    obtain rfl := h1 (fun z => by rw [hc1] at z; exact absurd z (by decide))
    refine vx_catch (own := RL) (name := kIAE) hown [] ⟨0, 9, 12, 21⟩ [] htab (fun z h => absurd h List.not_mem_nil) rfl (by decide) (hts (.classLink RL 21 kIAE) (by decide +kernel)) (va_Nw.use rfl (hX.2.2.1 (kIAE, 72) (by decide))) hc9 hv9 hcl9 ?_
    refine lv_astore_n (lv' := [(3, .ref q9), (0, .ref (a 0)), (1, .int k), (2, .ref o)]) hx hb dL_foretoldAnew_12 rfl hl (by decide) rfl (fun ls hl => ?_)
    refine lv_iconst (v := 1) hx hb dL_foretoldAnew_13 (by decide) ?_
    exact k_endI hx hb hr hlocks rfl (by rw [hc1]; rfl) hP1 hD1 hS1 dL_foretoldAnew_14
  · subst hr9
    obtain rfl := h0 hcode
    refine lv_i2l hx hb dL_foretoldAnew_7 rfl ?_
    refine k_last0 (WN := wT a cI cZ (nI h) ++ (wW a cI cZ sp we tw ++ (wF a cI cZ ta pl br st md (nI n) bc ++ (wE a cI cZ tu le cr to ia ++ (wG a cI cZ sl pr mk pc ++ (wOJ o cJ (vp_updL fo 0 (fSum (fPwAnew (we (cl k)) pl ta br st n (sp (cl k))) n).toInt64))))))) hx hb hK.1 hP1 hD1 hS1 21 2 rfl rfl rfl dL_foretoldAnew_8 (fun H2 locs2 hP2 hD2 hS2 => ?_)
    refine lv_goto (tgt := 15) hx hb dL_foretoldAnew_9 (by decide) ?_
    refine lv_iconst (v := 0) hx hb dL_foretoldAnew_15 (by decide) ?_
    exact k_endI hx hb hr hlocks rfl (by rw [hcode]; rfl) hP2 hD2 hS2 dL_foretoldAnew_16

set_option maxHeartbeats 4000000 in
set_option maxRecDepth 100000 in
theorem c_L_ofHour (l : Launch) (D : va_G) (a : Nat → Nat) (cI cZ cJ cD : ClassId) (sz : Nat) (sp : Nat → Int32) (we : Nat → Int32) (tw : Nat → Int32) (ta : Nat → Int32) (pl : Nat → Int32) (br : Nat → Int32) (st : Nat → Int32) (md : Nat → Int32) (bc : Int32) (tu : Nat → Int32) (le : Nat → Int32) (cr : Nat → Int32) (to : Nat → Int32) (ia : Nat → Int32) (sl : Nat → Int32) (pr : Nat → Int32) (mk : Nat → Int32) (pc : Int64) (n : Nat) (h : Nat) (k : Int32) (w : Int32) (o : Nat) (fo : Nat → Int64) (Wn : va_W) (hflag : l.stackTraces = false) (hn : n ≤ 12) (hh : h < 480) (h0 : (cOfHour h k w) = 0 → Wn = wT a cI cZ (nI h) ++ (wW a cI cZ sp we tw ++ (wF a cI cZ ta pl br st md (nI n) bc ++ (wE a cI cZ tu le cr to ia ++ (wG a cI cZ sl pr mk pc ++ (wOJ o cJ (vp_updL fo 0 (vOfHour sl pr mk (cl k) w).toInt64))))))) (h1 : ¬ (cOfHour h k w) = 0 → Wn = wT a cI cZ (nI h) ++ (wW a cI cZ sp we tw ++ (wF a cI cZ ta pl br st md (nI n) bc ++ (wE a cI cZ tu le cr to ia ++ (wG a cI cZ sl pr mk pc ++ (wOJ o cJ fo)))))) : kW l yL_ofHour wsL_ofHour ({ frames := 7, cells := 1, slots := 6, locals := 104 }) [.ref (a 0), .int k, .int w, .ref o] D cI cZ cJ cD sz (wT a cI cZ (nI h) ++ (wW a cI cZ sp we tw ++ (wF a cI cZ ta pl br st md (nI n) bc ++ (wE a cI cZ tu le cr to ia ++ (wG a cI cZ sl pr mk pc ++ (wOJ o cJ fo)))))) Wn (cOfHour h k w) := by
  refine k_ofWH (cc := cL_ofHour) (maxL := 5) (ret := (some .int)) (hh := [(0, 10, 13, 21)]) (by decide) rfl ?_
  intro p e s m args below meth c s₁ B hml hv
  obtain ⟨rfl, hsz, hP, hK, hD0, hX⟩ := hv
  have hx := B.exec
  have hb := B.bytes
  have hr := B.returns
  have hts := atoms_spec (ws := wsL_ofHour) B.pre
  have hown : s.vm.findClass RL = some m.cls := findClass_of_methodNamed B.named
  have hlocks := B.notSynchronized
  have htab : c.exceptionTable.toList = [⟨0, 10, 13, 21⟩] := vx_table (x := yL_ofHour) B (hts (.codeWith yL_ofHour cL_ofHour 5 (some .int) [(0, 10, 13, 21)]) List.mem_cons_self)
  subst hsz
  have hD := hD0.self (sz := s.heap.size)
  generalize hAe : va_A (wT a cI cZ (nI h) ++ (wW a cI cZ sp we tw ++ (wF a cI cZ ta pl br st md (nI n) bc ++ (wE a cI cZ tu le cr to ia ++ (wG a cI cZ sl pr mk pc ++ (wOJ o cJ fo)))))) s.heap.size = A at hD hX ⊢
  have hA : ∀ q : Nat, s.heap.size ≤ q → A q := fun q h => by rw [← hAe]; exact Or.inr h
  have hl := lv_entry ([.ref (a 0), .int k, .int w, .ref o]) (n := 5) (Nat.le_of_ble_eq_true rfl)
  rw [lg_entry_eq]
  generalize (lg_sl ([.ref (a 0), .int k, .int w, .ref o]) ++ List.replicate (5 - (lg_sl ([.ref (a 0), .int k, .int w, .ref o])).length) Slot.unset).toArray = ls at hl ⊢
  have hl : lv_has ls 5 [(0, .ref (a 0)), (1, .int k), (2, .int w), (3, .ref o)] := hl
  refine lv_aload_n hx hb dL_ofHour_0 rfl (lv_at hl 3 rfl) ?_
  refine lv_iconst (v := 0) hx hb dL_ofHour_1 (by decide) ?_
  refine lv_aload_n hx hb dL_ofHour_2 rfl (lv_at hl 0 rfl) ?_
  refine lv_iload_n hx hb dL_ofHour_3 rfl (lv_at hl 1 rfl) ?_
  refine lv_iload_n hx hb dL_ofHour_4 rfl (lv_at hl 2 rfl) ?_
  refine k_xwi (As := [.int k, .int w]) (rest := [.int 0, .ref o]) (nL := 5) (WR := wOJ o cJ fo) (WN := wT a cI cZ (nI h) ++ (wW a cI cZ sp we tw ++ (wF a cI cZ ta pl br st md (nI n) bc ++ (wE a cI cZ tu le cr to ia ++ (wG a cI cZ sl pr mk pc ++ (wOJ o cJ fo)))))) ⟨hx, hb, hml, hown, hts⟩ hK hP hD hX hA (c_X4_ofHour l D a cI cZ s.heap.size sp we tw ta pl br st md bc tu le cr to ia sl pr mk pc n h k w hflag hn hh) [0, 1, 2, 3, 4, 5, 6, 7, 8, 9, 10, 11, 12, 13, 14, 15, 16, 17, 18, 19, 20] [21] [1, 2, 3, 4, 5, 6, 7, 8, 9, 10, 11, 12, 13, 14, 15, 16, 17, 18, 19, 20, 21, 0] rfl rfl rfl rfl rfl (by decide) rfl rfl rfl rfl rfl 0 rfl rfl rfl (cwV 2 hts gL_ofHour_X4_ofHour rfl rfl rfl (by decide +kernel) ⟨Nat.le_of_ble_eq_true rfl, Nat.le_of_ble_eq_true rfl⟩) rfl hl.1 rfl (Nat.le_of_ble_eq_true rfl) dL_ofHour_5 ⟨Nat.le_of_ble_eq_true rfl, Nat.le_of_ble_eq_true rfl⟩ (fun E ce q9 H1 locs1 hE hP1 hD1 hS1 hc9 hv9 hcl9 => ?_) (fun r9 H1 locs1 hcode hr9 hP1 hD1 hS1 => ?_)
  · obtain ⟨hc1, rfl⟩ := kEx1 hE
    obtain rfl := h1 (fun z => by rw [hc1] at z; exact absurd z (by decide))
    refine vx_catch (own := RL) (name := kIAE) hown [] ⟨0, 10, 13, 21⟩ [] htab (fun z h => absurd h List.not_mem_nil) rfl (by decide) (hts (.classLink RL 21 kIAE) (by decide +kernel)) (va_Nw.use rfl (hX.2.2.1 (kIAE, 72) (by decide))) hc9 hv9 hcl9 ?_
    refine lv_astore (lv' := [(4, .ref q9), (0, .ref (a 0)), (1, .int k), (2, .int w), (3, .ref o)]) hx hb dL_ofHour_13 hl (by decide) rfl (fun ls hl => ?_)
    refine lv_iconst (v := 1) hx hb dL_ofHour_15 (by decide) ?_
    exact k_endI hx hb hr hlocks rfl (by rw [hc1]; rfl) hP1 hD1 hS1 dL_ofHour_16
  · subst hr9
    obtain rfl := h0 hcode
    refine lv_i2l hx hb dL_ofHour_8 rfl ?_
    refine k_last0 (WN := wT a cI cZ (nI h) ++ (wW a cI cZ sp we tw ++ (wF a cI cZ ta pl br st md (nI n) bc ++ (wE a cI cZ tu le cr to ia ++ (wG a cI cZ sl pr mk pc ++ (wOJ o cJ (vp_updL fo 0 (vOfHour sl pr mk (cl k) w).toInt64))))))) hx hb hK.1 hP1 hD1 hS1 21 2 rfl rfl rfl dL_ofHour_9 (fun H2 locs2 hP2 hD2 hS2 => ?_)
    refine lv_goto (tgt := 17) hx hb dL_ofHour_10 (by decide) ?_
    refine lv_iconst (v := 0) hx hb dL_ofHour_17 (by decide) ?_
    exact k_endI hx hb hr hlocks rfl (by rw [hcode]; rfl) hP2 hD2 hS2 dL_ofHour_18

set_option maxHeartbeats 4000000 in
set_option maxRecDepth 100000 in
theorem c_L_ratio (l : Launch) (D : va_G) (a : Nat → Nat) (cI cZ cJ cD : ClassId) (sz : Nat) (sp : Nat → Int32) (we : Nat → Int32) (tw : Nat → Int32) (ta : Nat → Int32) (pl : Nat → Int32) (br : Nat → Int32) (st : Nat → Int32) (md : Nat → Int32) (bc : Int32) (tu : Nat → Int32) (le : Nat → Int32) (cr : Nat → Int32) (to : Nat → Int32) (ia : Nat → Int32) (sl : Nat → Int32) (pr : Nat → Int32) (mk : Nat → Int32) (pc : Int64) (n : Nat) (h : Nat) (k : Int32) (o : Nat) (fo : Nat → UInt64) (Wn : va_W) (hflag : l.stackTraces = false) (hn : n ≤ 12) (hh : h < 480) (h0 : (cRatio h k) = 0 → Wn = wT a cI cZ (nI h) ++ (wW a cI cZ sp we tw ++ (wF a cI cZ ta pl br st md (nI n) bc ++ (wE a cI cZ tu le cr to ia ++ (wG a cI cZ sl pr mk pc ++ (wOD o cD (vf_upd fo 0 (FP.f2d (fRatio sl mk (cl k)))))))))) (h1 : ¬ (cRatio h k) = 0 → Wn = wT a cI cZ (nI h) ++ (wW a cI cZ sp we tw ++ (wF a cI cZ ta pl br st md (nI n) bc ++ (wE a cI cZ tu le cr to ia ++ (wG a cI cZ sl pr mk pc ++ (wOD o cD fo)))))) : kW l yL_ratio wsL_ratio ({ frames := 7, cells := 1, slots := 6, locals := 103 }) [.ref (a 0), .int k, .ref o] D cI cZ cJ cD sz (wT a cI cZ (nI h) ++ (wW a cI cZ sp we tw ++ (wF a cI cZ ta pl br st md (nI n) bc ++ (wE a cI cZ tu le cr to ia ++ (wG a cI cZ sl pr mk pc ++ (wOD o cD fo)))))) Wn (cRatio h k) := by
  refine k_ofWH (cc := cL_ratio) (maxL := 4) (ret := (some .int)) (hh := [(0, 9, 12, 21)]) (by decide) rfl ?_
  intro p e s m args below meth c s₁ B hml hv
  obtain ⟨rfl, hsz, hP, hK, hD0, hX⟩ := hv
  have hx := B.exec
  have hb := B.bytes
  have hr := B.returns
  have hts := atoms_spec (ws := wsL_ratio) B.pre
  have hown : s.vm.findClass RL = some m.cls := findClass_of_methodNamed B.named
  have hlocks := B.notSynchronized
  have htab : c.exceptionTable.toList = [⟨0, 9, 12, 21⟩] := vx_table (x := yL_ratio) B (hts (.codeWith yL_ratio cL_ratio 4 (some .int) [(0, 9, 12, 21)]) List.mem_cons_self)
  subst hsz
  have hD := hD0.self (sz := s.heap.size)
  generalize hAe : va_A (wT a cI cZ (nI h) ++ (wW a cI cZ sp we tw ++ (wF a cI cZ ta pl br st md (nI n) bc ++ (wE a cI cZ tu le cr to ia ++ (wG a cI cZ sl pr mk pc ++ (wOD o cD fo)))))) s.heap.size = A at hD hX ⊢
  have hA : ∀ q : Nat, s.heap.size ≤ q → A q := fun q h => by rw [← hAe]; exact Or.inr h
  have hl := lv_entry ([.ref (a 0), .int k, .ref o]) (n := 4) (Nat.le_of_ble_eq_true rfl)
  rw [lg_entry_eq]
  generalize (lg_sl ([.ref (a 0), .int k, .ref o]) ++ List.replicate (4 - (lg_sl ([.ref (a 0), .int k, .ref o])).length) Slot.unset).toArray = ls at hl ⊢
  have hl : lv_has ls 4 [(0, .ref (a 0)), (1, .int k), (2, .ref o)] := hl
  refine lv_aload_n hx hb dL_ratio_0 rfl (lv_at hl 2 rfl) ?_
  refine lv_iconst (v := 0) hx hb dL_ratio_1 (by decide) ?_
  refine lv_aload_n hx hb dL_ratio_2 rfl (lv_at hl 0 rfl) ?_
  refine lv_iload_n hx hb dL_ratio_3 rfl (lv_at hl 1 rfl) ?_
  refine k_xwf (As := [.int k]) (rest := [.int 0, .ref o]) (nL := 4) (WR := wOD o cD fo) (WN := wT a cI cZ (nI h) ++ (wW a cI cZ sp we tw ++ (wF a cI cZ ta pl br st md (nI n) bc ++ (wE a cI cZ tu le cr to ia ++ (wG a cI cZ sl pr mk pc ++ (wOD o cD fo)))))) ⟨hx, hb, hml, hown, hts⟩ hK hP hD hX hA (c_X4_ratio l D a cI cZ s.heap.size sp we tw ta pl br st md bc tu le cr to ia sl pr mk pc n h k hflag hn hh) [0, 1, 2, 3, 4, 5, 6, 7, 8, 9, 10, 11, 12, 13, 14, 15, 16, 17, 18, 19, 20] [21] [1, 2, 3, 4, 5, 6, 7, 8, 9, 10, 11, 12, 13, 14, 15, 16, 17, 18, 19, 20, 21, 0] rfl rfl rfl rfl rfl (by decide) rfl rfl rfl rfl rfl 0 rfl rfl rfl (cwV 1 hts gL_ratio_X4_ratio rfl rfl rfl (by decide +kernel) ⟨Nat.le_of_ble_eq_true rfl, Nat.le_of_ble_eq_true rfl⟩) rfl hl.1 rfl (Nat.le_of_ble_eq_true rfl) dL_ratio_4 ⟨Nat.le_of_ble_eq_true rfl, Nat.le_of_ble_eq_true rfl⟩ (fun E ce q9 H1 locs1 hE hP1 hD1 hS1 hc9 hv9 hcl9 => ?_) (fun r9 H1 locs1 hcode hr9 hP1 hD1 hS1 => ?_)
  · obtain ⟨hc1, rfl⟩ := kEx1 hE
    obtain rfl := h1 (fun z => by rw [hc1] at z; exact absurd z (by decide))
    refine vx_catch (own := RL) (name := kIAE) hown [] ⟨0, 9, 12, 21⟩ [] htab (fun z h => absurd h List.not_mem_nil) rfl (by decide) (hts (.classLink RL 21 kIAE) (by decide +kernel)) (va_Nw.use rfl (hX.2.2.1 (kIAE, 72) (by decide))) hc9 hv9 hcl9 ?_
    refine lv_astore_n (lv' := [(3, .ref q9), (0, .ref (a 0)), (1, .int k), (2, .ref o)]) hx hb dL_ratio_12 rfl hl (by decide) rfl (fun ls hl => ?_)
    refine lv_iconst (v := 1) hx hb dL_ratio_13 (by decide) ?_
    exact k_endI hx hb hr hlocks rfl (by rw [hc1]; rfl) hP1 hD1 hS1 dL_ratio_14
  · subst hr9
    obtain rfl := h0 hcode
    refine lv_f2d hx hb dL_ratio_7 (kf2d_no (fRatio_no _ _ _)) ?_
    refine k_dast0 (WN := wT a cI cZ (nI h) ++ (wW a cI cZ sp we tw ++ (wF a cI cZ ta pl br st md (nI n) bc ++ (wE a cI cZ tu le cr to ia ++ (wG a cI cZ sl pr mk pc ++ (wOD o cD (vf_upd fo 0 (FP.f2d (fRatio sl mk (cl k)))))))))) hx hb hK.1 hP1 hD1 hS1 21 3 rfl rfl rfl dL_ratio_8 (fun H2 locs2 hP2 hD2 hS2 => ?_)
    refine lv_goto (tgt := 15) hx hb dL_ratio_9 (by decide) ?_
    refine lv_iconst (v := 0) hx hb dL_ratio_15 (by decide) ?_
    exact k_endI hx hb hr hlocks rfl (by rw [hcode]; rfl) hP2 hD2 hS2 dL_ratio_16

set_option maxHeartbeats 4000000 in
set_option maxRecDepth 100000 in
theorem c_L_ofBoat (l : Launch) (D : va_G) (a : Nat → Nat) (cI cZ cJ cD : ClassId) (sz : Nat) (sp : Nat → Int32) (we : Nat → Int32) (tw : Nat → Int32) (ta : Nat → Int32) (pl : Nat → Int32) (br : Nat → Int32) (st : Nat → Int32) (md : Nat → Int32) (bc : Int32) (tu : Nat → Int32) (le : Nat → Int32) (cr : Nat → Int32) (to : Nat → Int32) (ia : Nat → Int32) (sl : Nat → Int32) (pr : Nat → Int32) (mk : Nat → Int32) (pc : Int64) (n : Nat) (h : Nat) (b : Int32) (w : Int32) (o : Nat) (fo : Nat → Int64) (Wn : va_W) (hflag : l.stackTraces = false) (hn : n ≤ 12) (hh : h < 480) (h0 : (cOfBoat b w) = 0 → Wn = wT a cI cZ (nI h) ++ (wW a cI cZ sp we tw ++ (wF a cI cZ ta pl br st md (nI n) bc ++ (wE a cI cZ tu le cr to ia ++ (wG a cI cZ sl pr mk pc ++ (wOJ o cJ (vp_updL fo 0 (vOfBoat tu le to ia (cl b) w).toInt64))))))) (h1 : ¬ (cOfBoat b w) = 0 → Wn = wT a cI cZ (nI h) ++ (wW a cI cZ sp we tw ++ (wF a cI cZ ta pl br st md (nI n) bc ++ (wE a cI cZ tu le cr to ia ++ (wG a cI cZ sl pr mk pc ++ (wOJ o cJ fo)))))) : kW l yL_ofBoat wsL_ofBoat ({ frames := 7, cells := 1, slots := 6, locals := 104 }) [.ref (a 0), .int b, .int w, .ref o] D cI cZ cJ cD sz (wT a cI cZ (nI h) ++ (wW a cI cZ sp we tw ++ (wF a cI cZ ta pl br st md (nI n) bc ++ (wE a cI cZ tu le cr to ia ++ (wG a cI cZ sl pr mk pc ++ (wOJ o cJ fo)))))) Wn (cOfBoat b w) := by
  refine k_ofWH (cc := cL_ofBoat) (maxL := 5) (ret := (some .int)) (hh := [(0, 10, 13, 13), (0, 10, 17, 21)]) (by decide) rfl ?_
  intro p e s m args below meth c s₁ B hml hv
  obtain ⟨rfl, hsz, hP, hK, hD0, hX⟩ := hv
  have hx := B.exec
  have hb := B.bytes
  have hr := B.returns
  have hts := atoms_spec (ws := wsL_ofBoat) B.pre
  have hown : s.vm.findClass RL = some m.cls := findClass_of_methodNamed B.named
  have hlocks := B.notSynchronized
  have htab : c.exceptionTable.toList = [⟨0, 10, 13, 13⟩, ⟨0, 10, 17, 21⟩] := vx_table (x := yL_ofBoat) B (hts (.codeWith yL_ofBoat cL_ofBoat 5 (some .int) [(0, 10, 13, 13), (0, 10, 17, 21)]) List.mem_cons_self)
  subst hsz
  have hD := hD0.self (sz := s.heap.size)
  generalize hAe : va_A (wT a cI cZ (nI h) ++ (wW a cI cZ sp we tw ++ (wF a cI cZ ta pl br st md (nI n) bc ++ (wE a cI cZ tu le cr to ia ++ (wG a cI cZ sl pr mk pc ++ (wOJ o cJ fo)))))) s.heap.size = A at hD hX ⊢
  have hA : ∀ q : Nat, s.heap.size ≤ q → A q := fun q h => by rw [← hAe]; exact Or.inr h
  have hl := lv_entry ([.ref (a 0), .int b, .int w, .ref o]) (n := 5) (Nat.le_of_ble_eq_true rfl)
  rw [lg_entry_eq]
  generalize (lg_sl ([.ref (a 0), .int b, .int w, .ref o]) ++ List.replicate (5 - (lg_sl ([.ref (a 0), .int b, .int w, .ref o])).length) Slot.unset).toArray = ls at hl ⊢
  have hl : lv_has ls 5 [(0, .ref (a 0)), (1, .int b), (2, .int w), (3, .ref o)] := hl
  refine lv_aload_n hx hb dL_ofBoat_0 rfl (lv_at hl 3 rfl) ?_
  refine lv_iconst (v := 0) hx hb dL_ofBoat_1 (by decide) ?_
  refine lv_aload_n hx hb dL_ofBoat_2 rfl (lv_at hl 0 rfl) ?_
  refine lv_iload_n hx hb dL_ofBoat_3 rfl (lv_at hl 1 rfl) ?_
  refine lv_iload_n hx hb dL_ofBoat_4 rfl (lv_at hl 2 rfl) ?_
  refine k_xwi (As := [.int b, .int w]) (rest := [.int 0, .ref o]) (nL := 5) (WR := wOJ o cJ fo) (WN := wT a cI cZ (nI h) ++ (wW a cI cZ sp we tw ++ (wF a cI cZ ta pl br st md (nI n) bc ++ (wE a cI cZ tu le cr to ia ++ (wG a cI cZ sl pr mk pc ++ (wOJ o cJ fo)))))) ⟨hx, hb, hml, hown, hts⟩ hK hP hD hX hA (c_X4_ofBoat l D a cI cZ s.heap.size sp we tw ta pl br st md bc tu le cr to ia sl pr mk pc n h b w hflag hn hh) [0, 1, 2, 3, 4, 5, 6, 7, 8, 9, 10, 11, 12, 13, 14, 15, 16, 17, 18, 19, 20] [21] [1, 2, 3, 4, 5, 6, 7, 8, 9, 10, 11, 12, 13, 14, 15, 16, 17, 18, 19, 20, 21, 0] rfl rfl rfl rfl rfl (by decide) rfl rfl rfl rfl rfl 0 rfl rfl rfl (cwV 2 hts gL_ofBoat_X4_ofBoat rfl rfl rfl (by decide +kernel) ⟨Nat.le_of_ble_eq_true rfl, Nat.le_of_ble_eq_true rfl⟩) rfl hl.1 rfl (Nat.le_of_ble_eq_true rfl) dL_ofBoat_5 ⟨Nat.le_of_ble_eq_true rfl, Nat.le_of_ble_eq_true rfl⟩ (fun E ce q9 H1 locs1 hE hP1 hD1 hS1 hc9 hv9 hcl9 => ?_) (fun r9 H1 locs1 hcode hr9 hP1 hD1 hS1 => ?_)
  · rcases kEx2 hE with ⟨hc1, rfl⟩ | ⟨hc1, rfl⟩
    · obtain rfl := h1 (fun z => by rw [hc1] at z; exact absurd z (by decide))
      refine vx_catch (own := RL) (name := kIOB) hown [] ⟨0, 10, 13, 13⟩ [⟨0, 10, 17, 21⟩] htab (fun z h => absurd h List.not_mem_nil) rfl (by decide) (hts (.classLink RL 13 kIOB) (by decide +kernel)) (va_Nw.use rfl (hX.2.2.1 (kIOB, 49) (by decide))) hc9 hv9 hcl9 ?_
      refine lv_astore (lv' := [(4, .ref q9), (0, .ref (a 0)), (1, .int b), (2, .int w), (3, .ref o)]) hx hb dL_ofBoat_13 hl (by decide) rfl (fun ls hl => ?_)
      refine lv_iconst (v := 1) hx hb dL_ofBoat_15 (by decide) ?_
      exact k_endI hx hb hr hlocks rfl (by rw [hc1]; rfl) hP1 hD1 hS1 dL_ofBoat_16
    · obtain rfl := h1 (fun z => by rw [hc1] at z; exact absurd z (by decide))
      refine vx_catch (own := RL) (name := kIAE) hown [⟨0, 10, 13, 13⟩] ⟨0, 10, 17, 21⟩ [] htab (List.forall_mem_cons.mpr ⟨Or.inr ⟨by decide, kIOB, hts (.classLink RL 13 kIOB) (by decide +kernel), hK.2.2 (kIAE, kIOB) (by decide)⟩, fun z h => absurd h List.not_mem_nil⟩) rfl (by decide) (hts (.classLink RL 21 kIAE) (by decide +kernel)) (va_Nw.use rfl (hX.2.2.1 (kIAE, 72) (by decide))) hc9 hv9 hcl9 ?_
      refine lv_astore (lv' := [(4, .ref q9), (0, .ref (a 0)), (1, .int b), (2, .int w), (3, .ref o)]) hx hb dL_ofBoat_17 hl (by decide) rfl (fun ls hl => ?_)
      refine lv_iconst (v := 2) hx hb dL_ofBoat_19 (by decide) ?_
      exact k_endI hx hb hr hlocks rfl (by rw [hc1]; rfl) hP1 hD1 hS1 dL_ofBoat_20
  · subst hr9
    obtain rfl := h0 hcode
    refine lv_i2l hx hb dL_ofBoat_8 rfl ?_
    refine k_last0 (WN := wT a cI cZ (nI h) ++ (wW a cI cZ sp we tw ++ (wF a cI cZ ta pl br st md (nI n) bc ++ (wE a cI cZ tu le cr to ia ++ (wG a cI cZ sl pr mk pc ++ (wOJ o cJ (vp_updL fo 0 (vOfBoat tu le to ia (cl b) w).toInt64))))))) hx hb hK.1 hP1 hD1 hS1 21 2 rfl rfl rfl dL_ofBoat_9 (fun H2 locs2 hP2 hD2 hS2 => ?_)
    refine lv_goto (tgt := 21) hx hb dL_ofBoat_10 (by decide) ?_
    refine lv_iconst (v := 0) hx hb dL_ofBoat_21 (by decide) ?_
    exact k_endI hx hb hr hlocks rfl (by rw [hcode]; rfl) hP2 hD2 hS2 dL_ofBoat_22

set_option maxHeartbeats 4000000 in
set_option maxRecDepth 100000 in
theorem c_L_ofTurbine (l : Launch) (D : va_G) (a : Nat → Nat) (cI cZ cJ cD : ClassId) (sz : Nat) (sp : Nat → Int32) (we : Nat → Int32) (tw : Nat → Int32) (ta : Nat → Int32) (pl : Nat → Int32) (br : Nat → Int32) (st : Nat → Int32) (md : Nat → Int32) (bc : Int32) (tu : Nat → Int32) (le : Nat → Int32) (cr : Nat → Int32) (to : Nat → Int32) (ia : Nat → Int32) (sl : Nat → Int32) (pr : Nat → Int32) (mk : Nat → Int32) (pc : Int64) (n : Nat) (h : Nat) (t : Int32) (w : Int32) (o : Nat) (fo : Nat → Int64) (Wn : va_W) (hflag : l.stackTraces = false) (hn : n ≤ 12) (hh : h < 480) (hbr : ∀ k, br k = 0 ∨ br k = 1) (h0 : (cOfTurb n t w) = 0 → Wn = wT a cI cZ (nI h) ++ (wW a cI cZ sp we tw ++ (wF a cI cZ ta pl br st md (nI n) bc ++ (wE a cI cZ tu le cr to ia ++ (wG a cI cZ sl pr mk pc ++ (wOJ o cJ (vp_updL fo 0 (vOfTurb pl br md (cl t) w).toInt64))))))) (h1 : ¬ (cOfTurb n t w) = 0 → Wn = wT a cI cZ (nI h) ++ (wW a cI cZ sp we tw ++ (wF a cI cZ ta pl br st md (nI n) bc ++ (wE a cI cZ tu le cr to ia ++ (wG a cI cZ sl pr mk pc ++ (wOJ o cJ fo)))))) : kW l yL_ofTurbine wsL_ofTurbine ({ frames := 7, cells := 1, slots := 6, locals := 104 }) [.ref (a 0), .int t, .int w, .ref o] D cI cZ cJ cD sz (wT a cI cZ (nI h) ++ (wW a cI cZ sp we tw ++ (wF a cI cZ ta pl br st md (nI n) bc ++ (wE a cI cZ tu le cr to ia ++ (wG a cI cZ sl pr mk pc ++ (wOJ o cJ fo)))))) Wn (cOfTurb n t w) := by
  refine k_ofWH (cc := cL_ofTurbine) (maxL := 5) (ret := (some .int)) (hh := [(0, 10, 13, 13), (0, 10, 17, 21)]) (by decide) rfl ?_
  intro p e s m args below meth c s₁ B hml hv
  obtain ⟨rfl, hsz, hP, hK, hD0, hX⟩ := hv
  have hx := B.exec
  have hb := B.bytes
  have hr := B.returns
  have hts := atoms_spec (ws := wsL_ofTurbine) B.pre
  have hown : s.vm.findClass RL = some m.cls := findClass_of_methodNamed B.named
  have hlocks := B.notSynchronized
  have htab : c.exceptionTable.toList = [⟨0, 10, 13, 13⟩, ⟨0, 10, 17, 21⟩] := vx_table (x := yL_ofTurbine) B (hts (.codeWith yL_ofTurbine cL_ofTurbine 5 (some .int) [(0, 10, 13, 13), (0, 10, 17, 21)]) List.mem_cons_self)
  subst hsz
  have hD := hD0.self (sz := s.heap.size)
  generalize hAe : va_A (wT a cI cZ (nI h) ++ (wW a cI cZ sp we tw ++ (wF a cI cZ ta pl br st md (nI n) bc ++ (wE a cI cZ tu le cr to ia ++ (wG a cI cZ sl pr mk pc ++ (wOJ o cJ fo)))))) s.heap.size = A at hD hX ⊢
  have hA : ∀ q : Nat, s.heap.size ≤ q → A q := fun q h => by rw [← hAe]; exact Or.inr h
  have hl := lv_entry ([.ref (a 0), .int t, .int w, .ref o]) (n := 5) (Nat.le_of_ble_eq_true rfl)
  rw [lg_entry_eq]
  generalize (lg_sl ([.ref (a 0), .int t, .int w, .ref o]) ++ List.replicate (5 - (lg_sl ([.ref (a 0), .int t, .int w, .ref o])).length) Slot.unset).toArray = ls at hl ⊢
  have hl : lv_has ls 5 [(0, .ref (a 0)), (1, .int t), (2, .int w), (3, .ref o)] := hl
  refine lv_aload_n hx hb dL_ofTurbine_0 rfl (lv_at hl 3 rfl) ?_
  refine lv_iconst (v := 0) hx hb dL_ofTurbine_1 (by decide) ?_
  refine lv_aload_n hx hb dL_ofTurbine_2 rfl (lv_at hl 0 rfl) ?_
  refine lv_iload_n hx hb dL_ofTurbine_3 rfl (lv_at hl 1 rfl) ?_
  refine lv_iload_n hx hb dL_ofTurbine_4 rfl (lv_at hl 2 rfl) ?_
  refine k_xwi (As := [.int t, .int w]) (rest := [.int 0, .ref o]) (nL := 5) (WR := wOJ o cJ fo) (WN := wT a cI cZ (nI h) ++ (wW a cI cZ sp we tw ++ (wF a cI cZ ta pl br st md (nI n) bc ++ (wE a cI cZ tu le cr to ia ++ (wG a cI cZ sl pr mk pc ++ (wOJ o cJ fo)))))) ⟨hx, hb, hml, hown, hts⟩ hK hP hD hX hA (c_X4_ofTurbine l D a cI cZ s.heap.size sp we tw ta pl br st md bc tu le cr to ia sl pr mk pc n h t w hflag hn hh hbr) [0, 1, 2, 3, 4, 5, 6, 7, 8, 9, 10, 11, 12, 13, 14, 15, 16, 17, 18, 19, 20] [21] [1, 2, 3, 4, 5, 6, 7, 8, 9, 10, 11, 12, 13, 14, 15, 16, 17, 18, 19, 20, 21, 0] rfl rfl rfl rfl rfl (by decide) rfl rfl rfl rfl rfl 0 rfl rfl rfl (cwV 2 hts gL_ofTurbine_X4_ofTurbine rfl rfl rfl (by decide +kernel) ⟨Nat.le_of_ble_eq_true rfl, Nat.le_of_ble_eq_true rfl⟩) rfl hl.1 rfl (Nat.le_of_ble_eq_true rfl) dL_ofTurbine_5 ⟨Nat.le_of_ble_eq_true rfl, Nat.le_of_ble_eq_true rfl⟩ (fun E ce q9 H1 locs1 hE hP1 hD1 hS1 hc9 hv9 hcl9 => ?_) (fun r9 H1 locs1 hcode hr9 hP1 hD1 hS1 => ?_)
  · rcases kEx2 hE with ⟨hc1, rfl⟩ | ⟨hc1, rfl⟩
    · obtain rfl := h1 (fun z => by rw [hc1] at z; exact absurd z (by decide))
      refine vx_catch (own := RL) (name := kIOB) hown [] ⟨0, 10, 13, 13⟩ [⟨0, 10, 17, 21⟩] htab (fun z h => absurd h List.not_mem_nil) rfl (by decide) (hts (.classLink RL 13 kIOB) (by decide +kernel)) (va_Nw.use rfl (hX.2.2.1 (kIOB, 49) (by decide))) hc9 hv9 hcl9 ?_
      refine lv_astore (lv' := [(4, .ref q9), (0, .ref (a 0)), (1, .int t), (2, .int w), (3, .ref o)]) hx hb dL_ofTurbine_13 hl (by decide) rfl (fun ls hl => ?_)
      refine lv_iconst (v := 1) hx hb dL_ofTurbine_15 (by decide) ?_
      exact k_endI hx hb hr hlocks rfl (by rw [hc1]; rfl) hP1 hD1 hS1 dL_ofTurbine_16
    · obtain rfl := h1 (fun z => by rw [hc1] at z; exact absurd z (by decide))
      refine vx_catch (own := RL) (name := kIAE) hown [⟨0, 10, 13, 13⟩] ⟨0, 10, 17, 21⟩ [] htab (List.forall_mem_cons.mpr ⟨Or.inr ⟨by decide, kIOB, hts (.classLink RL 13 kIOB) (by decide +kernel), hK.2.2 (kIAE, kIOB) (by decide)⟩, fun z h => absurd h List.not_mem_nil⟩) rfl (by decide) (hts (.classLink RL 21 kIAE) (by decide +kernel)) (va_Nw.use rfl (hX.2.2.1 (kIAE, 72) (by decide))) hc9 hv9 hcl9 ?_
      refine lv_astore (lv' := [(4, .ref q9), (0, .ref (a 0)), (1, .int t), (2, .int w), (3, .ref o)]) hx hb dL_ofTurbine_17 hl (by decide) rfl (fun ls hl => ?_)
      refine lv_iconst (v := 2) hx hb dL_ofTurbine_19 (by decide) ?_
      exact k_endI hx hb hr hlocks rfl (by rw [hc1]; rfl) hP1 hD1 hS1 dL_ofTurbine_20
  · subst hr9
    obtain rfl := h0 hcode
    refine lv_i2l hx hb dL_ofTurbine_8 rfl ?_
    refine k_last0 (WN := wT a cI cZ (nI h) ++ (wW a cI cZ sp we tw ++ (wF a cI cZ ta pl br st md (nI n) bc ++ (wE a cI cZ tu le cr to ia ++ (wG a cI cZ sl pr mk pc ++ (wOJ o cJ (vp_updL fo 0 (vOfTurb pl br md (cl t) w).toInt64))))))) hx hb hK.1 hP1 hD1 hS1 21 2 rfl rfl rfl dL_ofTurbine_9 (fun H2 locs2 hP2 hD2 hS2 => ?_)
    refine lv_goto (tgt := 21) hx hb dL_ofTurbine_10 (by decide) ?_
    refine lv_iconst (v := 0) hx hb dL_ofTurbine_21 (by decide) ?_
    exact k_endI hx hb hr hlocks rfl (by rw [hcode]; rfl) hP2 hD2 hS2 dL_ofTurbine_22
