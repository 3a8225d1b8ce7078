/-! A repair, a look at a turbine, at an hour (written by program). -/
set_option maxHeartbeats 4000000 in
set_option maxRecDepth 100000 in
theorem c_L_repairs (l : Launch) (D : va_G) (a : Nat → Nat) (cI cZ : ClassId) (sz : Nat) (σ : St) (x y z : Int32) (hflag : l.stackTraces = false) (I : PI σ) : kWE l yL_repairs wsL_repairs ({ frames := 7, cells := 1, slots := 6, locals := 105 }) [.ref (a 0), .int x, .int y, .int z] D cI cZ sz (wS a cI cZ σ) (wS a cI cZ) (fun r u => dP (cRepair σ.1 (σ.2.2 5) (σ.2.2 7) x y z) 0 [-2, -3, -4] (nRepair σ x y z) σ r u) 1 6 := by
  refine k_ofWH (cc := cL_repairs) (maxL := 5) (ret := (some .int)) (hh := [(0, 8, 9, 36), (0, 8, 14, 38), (0, 8, 19, 40)]) (by decide) rfl ?_
  intro p e s m args below meth c s₁ B hml hv
  obtain ⟨rfl, hsz, hP, hK, hD0, hX⟩ := hv
  have hx := B.exec
  have hb := B.bytes
  have hr := B.returns
  have hts := atoms_spec (ws := wsL_repairs) B.pre
  have hown : s.vm.findClass RL = some m.cls := findClass_of_methodNamed B.named
  have hlocks := B.notSynchronized
  have htab : c.exceptionTable.toList = [⟨0, 8, 9, 36⟩, ⟨0, 8, 14, 38⟩, ⟨0, 8, 19, 40⟩] := vx_table (x := yL_repairs) B (hts (.codeWith yL_repairs cL_repairs 5 (some .int) [(0, 8, 9, 36), (0, 8, 14, 38), (0, 8, 19, 40)]) List.mem_cons_self)
  subst hsz
  have hD := hD0.self (sz := s.heap.size)
  generalize hAe : va_A (wS a cI cZ σ) s.heap.size = A at hD hX ⊢
  have hA : ∀ q : Nat, s.heap.size ≤ q → A q := fun q h => by rw [← hAe]; exact Or.inr h
  have hl := lv_entry ([.ref (a 0), .int x, .int y, .int z]) (n := 5) (Nat.le_of_ble_eq_true rfl)
  rw [lg_entry_eq]
  generalize (lg_sl ([.ref (a 0), .int x, .int y, .int z]) ++ List.replicate (5 - (lg_sl ([.ref (a 0), .int x, .int y, .int z])).length) Slot.unset).toArray = ls at hl ⊢
  have hl : lv_has ls 5 [(0, .ref (a 0)), (1, .int x), (2, .int y), (3, .int z)] := hl
  refine lv_aload_n hx hb dL_repairs_0 rfl (lv_at hl 0 rfl) ?_
  refine lv_iload_n hx hb dL_repairs_1 rfl (lv_at hl 1 rfl) ?_
  refine lv_iload_n hx hb dL_repairs_2 rfl (lv_at hl 2 rfl) ?_
  refine lv_iload_n hx hb dL_repairs_3 rfl (lv_at hl 3 rfl) ?_
  refine k_xwv (As := [.int x, .int y, .int z]) (rest := []) (nL := 5) (WR := ([] : va_W)) (WN := wS a cI cZ (nRepair σ x y z)) ⟨hx, hb, hml, hown, hts⟩ hK hP hD hX hA (c_X4_repair l D a cI cZ s.heap.size (σ.2.2 0) (σ.2.2 1) (σ.2.2 2) (σ.2.2 3) (σ.2.2 4) (σ.2.2 5) (fun _ => 0) (σ.2.2 6) (fSum (σ.2.2 5) σ.1) (σ.2.2 7) (σ.2.2 8) (σ.2.2 9) (σ.2.2 10) (σ.2.2 11) (σ.2.2 12) (σ.2.2 13) (σ.2.2 14) (fBrt (σ.2.2 12) (σ.2.2 13) (σ.2.2 14) σ.2.1) σ.1 σ.2.1 x y z hflag I.n I.h I.br) [0, 1, 2, 3, 4, 5, 6, 7, 8, 9, 10, 11, 12, 13, 14, 15, 16, 17, 18, 19, 20] [] [0, 1, 2, 3, 4, 5, 6, 7, 8, 9, 10, 11, 12, 13, 14, 15, 16, 17, 18, 19, 20] rfl rfl rfl rfl rfl (by decide) rfl rfl rfl rfl rfl 0 rfl rfl rfl (cwV 3 hts gL_repairs_X4_repair rfl rfl rfl (by decide +kernel) ⟨Nat.le_of_ble_eq_true rfl, Nat.le_of_ble_eq_true rfl⟩) rfl hl.1 rfl (Nat.le_of_ble_eq_true rfl) dL_repairs_4 ⟨Nat.le_of_ble_eq_true rfl, Nat.le_of_ble_eq_true rfl⟩ (fun E ce q9 H1 locs1 hE hP1 hD1 hS1 hc9 hv9 hcl9 => ?_) (fun H1 locs1 hcode hP1 hD1 hS1 => ?_)
  · rcases kEx3 hE with ⟨hc1, rfl⟩ | ⟨hc1, rfl⟩ | ⟨hc1, rfl⟩
    · refine vx_catch (own := RL) (name := kIOB) hown [] ⟨0, 8, 9, 36⟩ [⟨0, 8, 14, 38⟩, ⟨0, 8, 19, 40⟩] htab (fun z h => absurd h List.not_mem_nil) rfl (by decide) (hts (.classLink RL 36 kIOB) (by decide +kernel)) (va_Nw.use rfl (hX.2.2.1 (kIOB, 49) (by decide))) hc9 hv9 hcl9 ?_
      refine lv_astore (lv' := [(4, .ref q9), (0, .ref (a 0)), (1, .int x), (2, .int y), (3, .int z)]) hx hb dL_repairs_9 hl (by decide) rfl (fun ls hl => ?_)
      refine lv_bipush (v := (-2)) hx hb dL_repairs_11 (by decide) ?_
      exact k_endE (u := σ) (Wf := wS a cI cZ) (Nat.le_refl _) (Nat.le_refl _) hx hb hr hlocks rfl (dP_x hc1 rfl) hP1 hD1 hS1 dL_repairs_13
    · refine vx_catch (own := RL) (name := kIAE) hown [⟨0, 8, 9, 36⟩] ⟨0, 8, 14, 38⟩ [⟨0, 8, 19, 40⟩] htab (List.forall_mem_cons.mpr ⟨Or.inr ⟨by decide, kIOB, hts (.classLink RL 36 kIOB) (by decide +kernel), hK.2.2 (kIAE, kIOB) (by decide)⟩, fun z h => absurd h List.not_mem_nil⟩) rfl (by decide) (hts (.classLink RL 38 kIAE) (by decide +kernel)) (va_Nw.use rfl (hX.2.2.1 (kIAE, 72) (by decide))) hc9 hv9 hcl9 ?_
      refine lv_astore (lv' := [(4, .ref q9), (0, .ref (a 0)), (1, .int x), (2, .int y), (3, .int z)]) hx hb dL_repairs_14 hl (by decide) rfl (fun ls hl => ?_)
      refine lv_bipush (v := (-3)) hx hb dL_repairs_16 (by decide) ?_
      exact k_endE (u := σ) (Wf := wS a cI cZ) (Nat.le_refl _) (Nat.le_refl _) hx hb hr hlocks rfl (dP_x hc1 rfl) hP1 hD1 hS1 dL_repairs_18
    · refine vx_catch (own := RL) (name := kISE) hown [⟨0, 8, 9, 36⟩, ⟨0, 8, 14, 38⟩] ⟨0, 8, 19, 40⟩ [] htab (List.forall_mem_cons.mpr ⟨Or.inr ⟨by decide, kIOB, hts (.classLink RL 36 kIOB) (by decide +kernel), hK.2.2 (kISE, kIOB) (by decide)⟩, List.forall_mem_cons.mpr ⟨Or.inr ⟨by decide, kIAE, hts (.classLink RL 38 kIAE) (by decide +kernel), hK.2.2 (kISE, kIAE) (by decide)⟩, fun z h => absurd h List.not_mem_nil⟩⟩) rfl (by decide) (hts (.classLink RL 40 kISE) (by decide +kernel)) (va_Nw.use rfl (hX.2.2.1 (kISE, 60) (by decide))) hc9 hv9 hcl9 ?_
      refine lv_astore (lv' := [(4, .ref q9), (0, .ref (a 0)), (1, .int x), (2, .int y), (3, .int z)]) hx hb dL_repairs_19 hl (by decide) rfl (fun ls hl => ?_)
      refine lv_bipush (v := (-4)) hx hb dL_repairs_21 (by decide) ?_
      exact k_endE (u := σ) (Wf := wS a cI cZ) (Nat.le_refl _) (Nat.le_refl _) hx hb hr hlocks rfl (dP_x hc1 rfl) hP1 hD1 hS1 dL_repairs_23
  · refine lv_iconst (v := 0) hx hb dL_repairs_7 (by decide) ?_
    exact k_endE (u := nRepair σ x y z) (Wf := wS a cI cZ) (Nat.le_refl _) (Nat.le_refl _) hx hb hr hlocks rfl (Or.inl ⟨hcode, rfl, rfl⟩) hP1 hD1 hS1 dL_repairs_8

set_option maxHeartbeats 4000000 in
set_option maxRecDepth 100000 in
theorem c_L_of (l : Launch) (D : va_G) (a : Nat → Nat) (cI cZ : ClassId) (sz : Nat) (σ : St) (t w : Int32) (hflag : l.stackTraces = false) (I : PI σ) (hw : 0 ≤ w ∧ w ≤ 2) : kWE l yL_of wsL_of ({ frames := 7, cells := 1, slots := 6, locals := 104 }) [.ref (a 0), .int t, .int w] D cI cZ sz (wS a cI cZ σ) (fun _ : Unit => wS a cI cZ σ) (fun r _ => r = ofV σ t w) 1 6 := by
  refine k_ofWH (cc := cL_of) (maxL := 4) (ret := (some .int)) (hh := [(0, 6, 7, 36)]) (by decide) rfl ?_
  intro p e s m args below meth c s₁ B hml hv
  obtain ⟨rfl, hsz, hP, hK, hD0, hX⟩ := hv
  have hx := B.exec
  have hb := B.bytes
  have hr := B.returns
  have hts := atoms_spec (ws := wsL_of) B.pre
  have hown : s.vm.findClass RL = some m.cls := findClass_of_methodNamed B.named
  have hlocks := B.notSynchronized
  have htab : c.exceptionTable.toList = [⟨0, 6, 7, 36⟩] := vx_table (x := yL_of) B (hts (.codeWith yL_of cL_of 4 (some .int) [(0, 6, 7, 36)]) List.mem_cons_self)
  subst hsz
  have hD := hD0.self (sz := s.heap.size)
  generalize hAe : va_A (wS a cI cZ σ) s.heap.size = A at hD hX ⊢
  have hA : ∀ q : Nat, s.heap.size ≤ q → A q := fun q h => by rw [← hAe]; exact Or.inr h
  have hl := lv_entry ([.ref (a 0), .int t, .int w]) (n := 4) (Nat.le_of_ble_eq_true rfl)
  rw [lg_entry_eq]
  generalize (lg_sl ([.ref (a 0), .int t, .int w]) ++ List.replicate (4 - (lg_sl ([.ref (a 0), .int t, .int w])).length) Slot.unset).toArray = ls at hl ⊢
  have hl : lv_has ls 4 [(0, .ref (a 0)), (1, .int t), (2, .int w)] := hl
  refine lv_aload_n hx hb dL_of_0 rfl (lv_at hl 0 rfl) ?_
  refine lv_iload_n hx hb dL_of_1 rfl (lv_at hl 1 rfl) ?_
  refine lv_iload_n hx hb dL_of_2 rfl (lv_at hl 2 rfl) ?_
  refine k_xwi (As := [.int t, .int w]) (rest := []) (nL := 4) (WR := ([] : va_W)) (WN := wS a cI cZ σ) ⟨hx, hb, hml, hown, hts⟩ hK hP hD hX hA (c_X4_ofTurbine l D a cI cZ s.heap.size (σ.2.2 0) (σ.2.2 1) (σ.2.2 2) (σ.2.2 3) (σ.2.2 4) (σ.2.2 5) (fun _ => 0) (σ.2.2 6) (fSum (σ.2.2 5) σ.1) (σ.2.2 7) (σ.2.2 8) (σ.2.2 9) (σ.2.2 10) (σ.2.2 11) (σ.2.2 12) (σ.2.2 13) (σ.2.2 14) (fBrt (σ.2.2 12) (σ.2.2 13) (σ.2.2 14) σ.2.1) σ.1 σ.2.1 t w hflag I.n I.h I.br) [0, 1, 2, 3, 4, 5, 6, 7, 8, 9, 10, 11, 12, 13, 14, 15, 16, 17, 18, 19, 20] [] [0, 1, 2, 3, 4, 5, 6, 7, 8, 9, 10, 11, 12, 13, 14, 15, 16, 17, 18, 19, 20] rfl rfl rfl rfl rfl (by decide) rfl rfl rfl rfl rfl 0 rfl rfl rfl (cwV 2 hts gL_of_X4_ofTurbine rfl rfl rfl (by decide +kernel) ⟨Nat.le_of_ble_eq_true rfl, Nat.le_of_ble_eq_true rfl⟩) rfl hl.1 rfl (Nat.le_of_ble_eq_true rfl) dL_of_3 ⟨Nat.le_of_ble_eq_true rfl, Nat.le_of_ble_eq_true rfl⟩ (fun E ce q9 H1 locs1 hE hP1 hD1 hS1 hc9 hv9 hcl9 => ?_) (fun r9 H1 locs1 hcode hr9 hP1 hD1 hS1 => ?_)
  · rcases kEx2 hE with ⟨hc1, rfl⟩ | ⟨hc1, rfl⟩
    · refine vx_catch (own := RL) (name := kIOB) hown [] ⟨0, 6, 7, 36⟩ [] htab (fun z h => absurd h List.not_mem_nil) rfl (by decide) (hts (.classLink RL 36 kIOB) (by decide +kernel)) (va_Nw.use rfl (hX.2.2.1 (kIOB, 49) (by decide))) hc9 hv9 hcl9 ?_
      refine lv_astore_n (lv' := [(3, .ref q9), (0, .ref (a 0)), (1, .int t), (2, .int w)]) hx hb dL_of_7 rfl hl (by decide) rfl (fun ls hl => ?_)
      refine lv_bipush (v := (-2)) hx hb dL_of_8 (by decide) ?_
      exact k_endE (u := ()) (Wf := fun _ : Unit => wS a cI cZ σ) (Nat.le_refl _) (Nat.le_refl _) hx hb hr hlocks rfl (by show _ = ofV σ t w; unfold ofV; rw [if_neg (ofT_1 hc1)]) hP1 hD1 hS1 dL_of_10
    · exact absurd hw (ofT_2 hc1)
  · subst hr9
    exact k_endE (u := ()) (Wf := fun _ : Unit => wS a cI cZ σ) (Nat.le_refl _) (Nat.le_refl _) hx hb hr hlocks rfl (by show _ = ofV σ t w; unfold ofV; rw [if_pos (ofT_0 hcode)]) hP1 hD1 hS1 dL_of_6

set_option maxHeartbeats 4000000 in
set_option maxRecDepth 100000 in
theorem c_L_hour (l : Launch) (D : va_G) (a : Nat → Nat) (cI cZ : ClassId) (sz : Nat) (σ : St) (t w : Int32) (hflag : l.stackTraces = false) (I : PI σ) (hw : 0 ≤ w ∧ w ≤ 3) : kWE l yL_hour wsL_hour ({ frames := 7, cells := 1, slots := 6, locals := 104 }) [.ref (a 0), .int t, .int w] D cI cZ sz (wS a cI cZ σ) (fun _ : Unit => wS a cI cZ σ) (fun r _ => r = hourV σ t w) 1 6 := by
  refine k_ofWH (cc := cL_hour) (maxL := 4) (ret := (some .int)) (hh := [(0, 6, 7, 38)]) (by decide) rfl ?_
  intro p e s m args below meth c s₁ B hml hv
  obtain ⟨rfl, hsz, hP, hK, hD0, hX⟩ := hv
  have hx := B.exec
  have hb := B.bytes
  have hr := B.returns
  have hts := atoms_spec (ws := wsL_hour) B.pre
  have hown : s.vm.findClass RL = some m.cls := findClass_of_methodNamed B.named
  have hlocks := B.notSynchronized
  have htab : c.exceptionTable.toList = [⟨0, 6, 7, 38⟩] := vx_table (x := yL_hour) B (hts (.codeWith yL_hour cL_hour 4 (some .int) [(0, 6, 7, 38)]) List.mem_cons_self)
  subst hsz
  have hD := hD0.self (sz := s.heap.size)
  generalize hAe : va_A (wS a cI cZ σ) s.heap.size = A at hD hX ⊢
  have hA : ∀ q : Nat, s.heap.size ≤ q → A q := fun q h => by rw [← hAe]; exact Or.inr h
  have hl := lv_entry ([.ref (a 0), .int t, .int w]) (n := 4) (Nat.le_of_ble_eq_true rfl)
  rw [lg_entry_eq]
  generalize (lg_sl ([.ref (a 0), .int t, .int w]) ++ List.replicate (4 - (lg_sl ([.ref (a 0), .int t, .int w])).length) Slot.unset).toArray = ls at hl ⊢
  have hl : lv_has ls 4 [(0, .ref (a 0)), (1, .int t), (2, .int w)] := hl
  refine lv_aload_n hx hb dL_hour_0 rfl (lv_at hl 0 rfl) ?_
  refine lv_iload_n hx hb dL_hour_1 rfl (lv_at hl 1 rfl) ?_
  refine lv_iload_n hx hb dL_hour_2 rfl (lv_at hl 2 rfl) ?_
  refine k_xwi (As := [.int t, .int w]) (rest := []) (nL := 4) (WR := ([] : va_W)) (WN := wS a cI cZ σ) ⟨hx, hb, hml, hown, hts⟩ hK hP hD hX hA (c_X4_ofHour l D a cI cZ s.heap.size (σ.2.2 0) (σ.2.2 1) (σ.2.2 2) (σ.2.2 3) (σ.2.2 4) (σ.2.2 5) (fun _ => 0) (σ.2.2 6) (fSum (σ.2.2 5) σ.1) (σ.2.2 7) (σ.2.2 8) (σ.2.2 9) (σ.2.2 10) (σ.2.2 11) (σ.2.2 12) (σ.2.2 13) (σ.2.2 14) (fBrt (σ.2.2 12) (σ.2.2 13) (σ.2.2 14) σ.2.1) σ.1 σ.2.1 t w hflag I.n I.h) [0, 1, 2, 3, 4, 5, 6, 7, 8, 9, 10, 11, 12, 13, 14, 15, 16, 17, 18, 19, 20] [] [0, 1, 2, 3, 4, 5, 6, 7, 8, 9, 10, 11, 12, 13, 14, 15, 16, 17, 18, 19, 20] rfl rfl rfl rfl rfl (by decide) rfl rfl rfl rfl rfl 0 rfl rfl rfl (cwV 2 hts gL_hour_X4_ofHour rfl rfl rfl (by decide +kernel) ⟨Nat.le_of_ble_eq_true rfl, Nat.le_of_ble_eq_true rfl⟩) rfl hl.1 rfl (Nat.le_of_ble_eq_true rfl) dL_hour_3 ⟨Nat.le_of_ble_eq_true rfl, Nat.le_of_ble_eq_true rfl⟩ (fun E ce q9 H1 locs1 hE hP1 hD1 hS1 hc9 hv9 hcl9 => ?_) (fun r9 H1 locs1 hcode hr9 hP1 hD1 hS1 => ?_)
  · obtain ⟨hc1, rfl⟩ := kEx1 hE
    refine vx_catch (own := RL) (name := kIAE) hown [] ⟨0, 6, 7, 38⟩ [] htab (fun z h => absurd h List.not_mem_nil) rfl (by decide) (hts (.classLink RL 38 kIAE) (by decide +kernel)) (va_Nw.use rfl (hX.2.2.1 (kIAE, 72) (by decide))) hc9 hv9 hcl9 ?_
    refine lv_astore_n (lv' := [(3, .ref q9), (0, .ref (a 0)), (1, .int t), (2, .int w)]) hx hb dL_hour_7 rfl hl (by decide) rfl (fun ls hl => ?_)
    refine lv_bipush (v := (-3)) hx hb dL_hour_8 (by decide) ?_
    exact k_endE (u := ()) (Wf := fun _ : Unit => wS a cI cZ σ) (Nat.le_refl _) (Nat.le_refl _) hx hb hr hlocks rfl (by show _ = hourV σ t w; unfold hourV; rw [if_neg (ofH_1 hw hc1)]) hP1 hD1 hS1 dL_hour_10
  · subst hr9
    exact k_endE (u := ()) (Wf := fun _ : Unit => wS a cI cZ σ) (Nat.le_refl _) (Nat.le_refl _) hx hb hr hlocks rfl (by show _ = hourV σ t w; unfold hourV; rw [if_pos (ofH_0 hcode)]) hP1 hD1 hS1 dL_hour_6
