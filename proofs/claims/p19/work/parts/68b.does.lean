/-! The law's own methods that ask one thing: refusals are answered by numbers below -1 (written by program). -/
def ofV (σ : St) (t w : Int32) : Int32 := if hasT σ.1 t then vOfTurb (σ.2.2 4) (σ.2.2 5) (σ.2.2 6) (cl t) w else -2
def hourV (σ : St) (t w : Int32) : Int32 := if 0 ≤ t ∧ t ≤ nI σ.2.1 - 1 then vOfHour (σ.2.2 12) (σ.2.2 13) (σ.2.2 14) (cl t) w else -3
theorem dP_x {code i : Nat} {v r : Int32} {L : List Int32} {new old : St} (hc : code = i + 1) (hL : L.getD i (-4) = r) : dP code v L new old r old := Or.inr ⟨by omega, by rw [hc, Nat.add_sub_cancel]; exact hL.symm, rfl⟩
theorem ofT_0 {n : Nat} {t w : Int32} (c : cOfTurb n t w = 0) : hasT n t := by
  unfold cOfTurb at c
  split at c
  · next q => exact q
  · cases c
theorem ofT_1 {n : Nat} {t w : Int32} (c : cOfTurb n t w = 1) : ¬ hasT n t := by
  unfold cOfTurb at c
  split at c
  · split at c
    · cases c
    · cases c
  · next q => exact q
theorem ofT_2 {n : Nat} {t w : Int32} (c : cOfTurb n t w = 2) : ¬ (0 ≤ w ∧ w ≤ 2) := by
  unfold cOfTurb at c
  split at c
  · split at c
    · cases c
    · next q => exact q
  · cases c
theorem ofH_0 {h : Nat} {t w : Int32} (c : cOfHour h t w = 0) : 0 ≤ t ∧ t ≤ nI h - 1 := by
  unfold cOfHour at c
  split at c
  · next q => exact q.1
  · cases c
theorem ofH_1 {h : Nat} {t w : Int32} (hw : 0 ≤ w ∧ w ≤ 3) (c : cOfHour h t w = 1) : ¬ (0 ≤ t ∧ t ≤ nI h - 1) := by
  unfold cOfHour at c
  split at c
  · cases c
  · next q => exact fun z => q ⟨z, hw⟩
set_option maxHeartbeats 4000000 in
set_option maxRecDepth 100000 in
theorem c_L_does0 (l : Launch) (D : va_G) (a : Nat → Nat) (cI cZ : ClassId) (sz : Nat) (σ : St) (x i1 i2 : Int32) (hflag : l.stackTraces = false) (I : PI σ) : kWE l yL_does wsL_does ({ frames := 7, cells := 1, slots := 6, locals := 162 }) [.ref (a 0), .int 0, .int x, .int i1, .int i2] D cI cZ sz (wS a cI cZ σ) (wS a cI cZ) (fun r u => dP (cTurb σ.1 (σ.2.2 3) x) (nI σ.1) [-2, -4] (nTurb σ x) σ r u) 1 6 := by
  refine k_ofWH (cc := cL_does) (maxL := 6) (ret := (some .int)) (hh := [(0, 101, 102, 36), (0, 101, 107, 38), (0, 101, 112, 40)]) (by decide) rfl ?_
  intro p e s m args below meth c s₁ B hml hv
  obtain ⟨rfl, hsz, hP, hK, hD0, hX⟩ := hv
  have hx := B.exec
  have hb := B.bytes
  have hr := B.returns
  have hts := atoms_spec (ws := wsL_does) B.pre
  have hown : s.vm.findClass RL = some m.cls := findClass_of_methodNamed B.named
  have hlocks := B.notSynchronized
  have htab : c.exceptionTable.toList = [⟨0, 101, 102, 36⟩, ⟨0, 101, 107, 38⟩, ⟨0, 101, 112, 40⟩] := vx_table (x := yL_does) B (hts (.codeWith yL_does cL_does 6 (some .int) [(0, 101, 102, 36), (0, 101, 107, 38), (0, 101, 112, 40)]) List.mem_cons_self)
  subst hsz
  have hD := hD0.self (sz := s.heap.size)
  generalize hAe : va_A (wS a cI cZ σ) s.heap.size = A at hD hX ⊢
  have hA : ∀ q : Nat, s.heap.size ≤ q → A q := fun q h => by rw [← hAe]; exact Or.inr h
  have hl := lv_entry ([.ref (a 0), .int 0, .int x, .int i1, .int i2]) (n := 6) (Nat.le_of_ble_eq_true rfl)
  rw [lg_entry_eq]
  generalize (lg_sl ([.ref (a 0), .int 0, .int x, .int i1, .int i2]) ++ List.replicate (6 - (lg_sl ([.ref (a 0), .int 0, .int x, .int i1, .int i2])).length) Slot.unset).toArray = ls at hl ⊢
  have hl : lv_has ls 6 [(0, .ref (a 0)), (1, .int 0), (2, .int x), (3, .int i1), (4, .int i2)] := hl
  refine lv_iload_n hx hb dL_does_0 rfl (lv_at hl 1 rfl) ?_
  refine lv_if_ne (tgt := 12) hx hb dL_does_1 (by decide) (fun q => absurd rfl q) (fun _ => ?_)
  refine lv_aload_n hx hb dL_does_4 rfl (lv_at hl 0 rfl) ?_
  refine lv_iload_n hx hb dL_does_5 rfl (lv_at hl 2 rfl) ?_
  refine k_xwi (As := [.int x]) (rest := []) (nL := 6) (WR := ([] : va_W)) (WN := wSx a cI cZ (nTurb σ x) (fSum (σ.2.2 5) σ.1) (fBrt (σ.2.2 12) (σ.2.2 13) (σ.2.2 14) σ.2.1)) ⟨hx, hb, hml, hown, hts⟩ hK hP hD hX hA (c_X4_turbine l D a cI cZ s.heap.size (σ.2.2 0) (σ.2.2 1) (σ.2.2 2) (σ.2.2 3) (σ.2.2 4) (σ.2.2 5) (fun _ => 0) (σ.2.2 6) (fSum (σ.2.2 5) σ.1) (σ.2.2 7) (σ.2.2 8) (σ.2.2 9) (σ.2.2 10) (σ.2.2 11) (σ.2.2 12) (σ.2.2 13) (σ.2.2 14) (fBrt (σ.2.2 12) (σ.2.2 13) (σ.2.2 14) σ.2.1) σ.1 σ.2.1 x hflag I.n I.h) [0, 1, 2, 3, 4, 5, 6, 7, 8, 9, 10, 11, 12, 13, 14, 15, 16, 17, 18, 19, 20] [] [0, 1, 2, 3, 4, 5, 6, 7, 8, 9, 10, 11, 12, 13, 14, 15, 16, 17, 18, 19, 20] rfl rfl rfl rfl rfl (by decide) rfl rfl rfl rfl rfl 0 rfl rfl rfl (cwV 1 hts gL_does_X4_turbine rfl rfl rfl (by decide +kernel) ⟨Nat.le_of_ble_eq_true rfl, Nat.le_of_ble_eq_true rfl⟩) rfl hl.1 rfl (Nat.le_of_ble_eq_true rfl) dL_does_6 ⟨Nat.le_of_ble_eq_true rfl, Nat.le_of_ble_eq_true rfl⟩ (fun E ce q9 H1 locs1 hE hP1 hD1 hS1 hc9 hv9 hcl9 => ?_) (fun r9 H1 locs1 hcode hr9 hP1 hD1 hS1 => ?_)
  · rcases kEx2 hE with ⟨hc1, rfl⟩ | ⟨hc1, rfl⟩
    · refine vx_catch (own := RL) (name := kIOB) hown [] ⟨0, 101, 102, 36⟩ [⟨0, 101, 107, 38⟩, ⟨0, 101, 112, 40⟩] htab (fun z h => absurd h List.not_mem_nil) rfl (by decide) (hts (.classLink RL 36 kIOB) (by decide +kernel)) (va_Nw.use rfl (hX.2.2.1 (kIOB, 49) (by decide))) hc9 hv9 hcl9 ?_
      refine lv_astore (lv' := [(5, .ref q9), (0, .ref (a 0)), (1, .int 0), (2, .int x), (3, .int i1), (4, .int i2)]) hx hb dL_does_102 hl (by decide) rfl (fun ls hl => ?_)
      refine lv_bipush (v := (-2)) hx hb dL_does_104 (by decide) ?_
      exact k_endE (u := σ) (Wf := wS a cI cZ) (Nat.le_refl _) (Nat.le_refl _) hx hb hr hlocks rfl (dP_x hc1 rfl) hP1 hD1 hS1 dL_does_106
    · refine vx_catch (own := RL) (name := kISE) hown [⟨0, 101, 102, 36⟩, ⟨0, 101, 107, 38⟩] ⟨0, 101, 112, 40⟩ [] htab (List.forall_mem_cons.mpr ⟨Or.inr ⟨by decide, kIOB, hts (.classLink RL 36 kIOB) (by decide +kernel), hK.2.2 (kISE, kIOB) (by decide)⟩, List.forall_mem_cons.mpr ⟨Or.inr ⟨by decide, kIAE, hts (.classLink RL 38 kIAE) (by decide +kernel), hK.2.2 (kISE, kIAE) (by decide)⟩, fun z h => absurd h List.not_mem_nil⟩⟩) rfl (by decide) (hts (.classLink RL 40 kISE) (by decide +kernel)) (va_Nw.use rfl (hX.2.2.1 (kISE, 60) (by decide))) hc9 hv9 hcl9 ?_
      refine lv_astore (lv' := [(5, .ref q9), (0, .ref (a 0)), (1, .int 0), (2, .int x), (3, .int i1), (4, .int i2)]) hx hb dL_does_112 hl (by decide) rfl (fun ls hl => ?_)
      refine lv_bipush (v := (-4)) hx hb dL_does_114 (by decide) ?_
      exact k_endE (u := σ) (Wf := wS a cI cZ) (Nat.le_refl _) (Nat.le_refl _) hx hb hr hlocks rfl (dP_x hc1 rfl) hP1 hD1 hS1 dL_does_116
  · subst hr9
    rw [← w_turb (a := a) (cI := cI) (cZ := cZ) I x] at hP1 hD1
    refine lv_goto (tgt := 101) hx hb dL_does_9 (by decide) ?_
    exact k_endE (u := nTurb σ x) (Wf := wS a cI cZ) (Nat.le_refl _) (Nat.le_refl _) hx hb hr hlocks rfl (Or.inl ⟨hcode, rfl, rfl⟩) hP1 hD1 hS1 dL_does_101

set_option maxHeartbeats 4000000 in
set_option maxRecDepth 100000 in
theorem c_L_does1 (l : Launch) (D : va_G) (a : Nat → Nat) (cI cZ : ClassId) (sz : Nat) (σ : St) (f t v : Int32) (w : Int32) (hwd : w = if f - f / 2 * 2 = 0 then 1 else 0) (hflag : l.stackTraces = false) (I : PI σ) : kWE l yL_does wsL_does ({ frames := 7, cells := 1, slots := 6, locals := 162 }) [.ref (a 0), .int 1, .int f, .int t, .int v] D cI cZ sz (wS a cI cZ σ) (wS a cI cZ) (fun r u => dP (cWind σ.2.1 f t v) (t - f + 1) [-3] (nWind σ f t v w) σ r u) 1 6 := by
  refine k_ofWH (cc := cL_does) (maxL := 6) (ret := (some .int)) (hh := [(0, 101, 102, 36), (0, 101, 107, 38), (0, 101, 112, 40)]) (by decide) rfl ?_
  intro p e s m args below meth c s₁ B hml hv
  obtain ⟨rfl, hsz, hP, hK, hD0, hX⟩ := hv
  have hx := B.exec
  have hb := B.bytes
  have hr := B.returns
  have hts := atoms_spec (ws := wsL_does) B.pre
  have hown : s.vm.findClass RL = some m.cls := findClass_of_methodNamed B.named
  have hlocks := B.notSynchronized
  have htab : c.exceptionTable.toList = [⟨0, 101, 102, 36⟩, ⟨0, 101, 107, 38⟩, ⟨0, 101, 112, 40⟩] := vx_table (x := yL_does) B (hts (.codeWith yL_does cL_does 6 (some .int) [(0, 101, 102, 36), (0, 101, 107, 38), (0, 101, 112, 40)]) List.mem_cons_self)
  subst hsz
  have hD := hD0.self (sz := s.heap.size)
  generalize hAe : va_A (wS a cI cZ σ) s.heap.size = A at hD hX ⊢
  have hA : ∀ q : Nat, s.heap.size ≤ q → A q := fun q h => by rw [← hAe]; exact Or.inr h
  have hl := lv_entry ([.ref (a 0), .int 1, .int f, .int t, .int v]) (n := 6) (Nat.le_of_ble_eq_true rfl)
  rw [lg_entry_eq]
  generalize (lg_sl ([.ref (a 0), .int 1, .int f, .int t, .int v]) ++ List.replicate (6 - (lg_sl ([.ref (a 0), .int 1, .int f, .int t, .int v])).length) Slot.unset).toArray = ls at hl ⊢
  have hl : lv_has ls 6 [(0, .ref (a 0)), (1, .int 1), (2, .int f), (3, .int t), (4, .int v)] := hl
  refine lv_iload_n hx hb dL_does_0 rfl (lv_at hl 1 rfl) ?_
  refine lv_if_ne (tgt := 12) hx hb dL_does_1 (by decide) (fun _ => ?_) (fun q => absurd q (by decide))
  refine lv_iload_n hx hb dL_does_12 rfl (lv_at hl 1 rfl) ?_
  refine lv_iconst (v := 1) hx hb dL_does_13 (by decide) ?_
  refine lv_icmp_ne (tgt := 39) hx hb dL_does_14 (by decide) (fun q => absurd rfl q) (fun _ => ?_)
  refine lv_aload_n hx hb dL_does_17 rfl (lv_at hl 0 rfl) ?_
  refine lv_iload_n hx hb dL_does_18 rfl (lv_at hl 2 rfl) ?_
  refine lv_iload_n hx hb dL_does_19 rfl (lv_at hl 3 rfl) ?_
  refine lv_iload hx hb dL_does_20 (lv_at hl 4 rfl) ?_
  refine lv_iload_n hx hb dL_does_22 rfl (lv_at hl 2 rfl) ?_
  refine lv_iconst (v := 2) hx hb dL_does_23 (by decide) ?_
  refine lv_irem hx hb dL_does_24 (by decide) ?_
  refine lv_if_ne (tgt := 32) hx hb dL_does_25 (by decide) (fun cw => ?_) (fun cw => ?_)
  · have ew : w = 0 := by rw [hwd, if_neg cw]
    subst ew
    have hw : (0 : Int32) = 0 ∨ (0 : Int32) = 1 := by decide
    refine lv_iconst (v := 0) hx hb dL_does_32 (by decide) ?_
    refine k_xwi (As := [.int f, .int t, .int v, .int 0]) (rest := []) (nL := 6) (WR := ([] : va_W)) (WN := wS a cI cZ (nWind σ f t v 0)) ⟨hx, hb, hml, hown, hts⟩ hK hP hD hX hA (c_X4_wind l D a cI cZ s.heap.size (σ.2.2 0) (σ.2.2 1) (σ.2.2 2) (σ.2.2 3) (σ.2.2 4) (σ.2.2 5) (fun _ => 0) (σ.2.2 6) (fSum (σ.2.2 5) σ.1) (σ.2.2 7) (σ.2.2 8) (σ.2.2 9) (σ.2.2 10) (σ.2.2 11) (σ.2.2 12) (σ.2.2 13) (σ.2.2 14) (fBrt (σ.2.2 12) (σ.2.2 13) (σ.2.2 14) σ.2.1) σ.1 σ.2.1 f t v 0 hflag I.n I.h hw) [0, 1, 2, 3, 4, 5, 6, 7, 8, 9, 10, 11, 12, 13, 14, 15, 16, 17, 18, 19, 20] [] [0, 1, 2, 3, 4, 5, 6, 7, 8, 9, 10, 11, 12, 13, 14, 15, 16, 17, 18, 19, 20] rfl rfl rfl rfl rfl (by decide) rfl rfl rfl rfl rfl 0 rfl rfl rfl (cwV 4 hts gL_does_X4_wind rfl rfl rfl (by decide +kernel) ⟨Nat.le_of_ble_eq_true rfl, Nat.le_of_ble_eq_true rfl⟩) rfl hl.1 rfl (Nat.le_of_ble_eq_true rfl) dL_does_33 ⟨Nat.le_of_ble_eq_true rfl, Nat.le_of_ble_eq_true rfl⟩ (fun E ce q9 H1 locs1 hE hP1 hD1 hS1 hc9 hv9 hcl9 => ?_) (fun r9 H1 locs1 hcode hr9 hP1 hD1 hS1 => ?_)
    · obtain ⟨hc1, rfl⟩ := kEx1 hE
      refine vx_catch (own := RL) (name := kIAE) hown [⟨0, 101, 102, 36⟩] ⟨0, 101, 107, 38⟩ [⟨0, 101, 112, 40⟩] htab (List.forall_mem_cons.mpr ⟨Or.inr ⟨by decide, kIOB, hts (.classLink RL 36 kIOB) (by decide +kernel), hK.2.2 (kIAE, kIOB) (by decide)⟩, fun z h => absurd h List.not_mem_nil⟩) rfl (by decide) (hts (.classLink RL 38 kIAE) (by decide +kernel)) (va_Nw.use rfl (hX.2.2.1 (kIAE, 72) (by decide))) hc9 hv9 hcl9 ?_
      refine lv_astore (lv' := [(5, .ref q9), (0, .ref (a 0)), (1, .int 1), (2, .int f), (3, .int t), (4, .int v)]) hx hb dL_does_107 hl (by decide) rfl (fun ls hl => ?_)
      refine lv_bipush (v := (-3)) hx hb dL_does_109 (by decide) ?_
      exact k_endE (u := σ) (Wf := wS a cI cZ) (Nat.le_refl _) (Nat.le_refl _) hx hb hr hlocks rfl (dP_x hc1 rfl) hP1 hD1 hS1 dL_does_111
    · subst hr9
      refine lv_goto (tgt := 101) hx hb dL_does_36 (by decide) ?_
      exact k_endE (u := nWind σ f t v 0) (Wf := wS a cI cZ) (Nat.le_refl _) (Nat.le_refl _) hx hb hr hlocks rfl (Or.inl ⟨hcode, rfl, rfl⟩) hP1 hD1 hS1 dL_does_101
  · have ew : w = 1 := by rw [hwd, if_pos cw]
    subst ew
    have hw : (1 : Int32) = 0 ∨ (1 : Int32) = 1 := by decide
    refine lv_iconst (v := 1) hx hb dL_does_28 (by decide) ?_
    refine lv_goto (tgt := 33) hx hb dL_does_29 (by decide) ?_
    refine k_xwi (As := [.int f, .int t, .int v, .int 1]) (rest := []) (nL := 6) (WR := ([] : va_W)) (WN := wS a cI cZ (nWind σ f t v 1)) ⟨hx, hb, hml, hown, hts⟩ hK hP hD hX hA (c_X4_wind l D a cI cZ s.heap.size (σ.2.2 0) (σ.2.2 1) (σ.2.2 2) (σ.2.2 3) (σ.2.2 4) (σ.2.2 5) (fun _ => 0) (σ.2.2 6) (fSum (σ.2.2 5) σ.1) (σ.2.2 7) (σ.2.2 8) (σ.2.2 9) (σ.2.2 10) (σ.2.2 11) (σ.2.2 12) (σ.2.2 13) (σ.2.2 14) (fBrt (σ.2.2 12) (σ.2.2 13) (σ.2.2 14) σ.2.1) σ.1 σ.2.1 f t v 1 hflag I.n I.h hw) [0, 1, 2, 3, 4, 5, 6, 7, 8, 9, 10, 11, 12, 13, 14, 15, 16, 17, 18, 19, 20] [] [0, 1, 2, 3, 4, 5, 6, 7, 8, 9, 10, 11, 12, 13, 14, 15, 16, 17, 18, 19, 20] rfl rfl rfl rfl rfl (by decide) rfl rfl rfl rfl rfl 0 rfl rfl rfl (cwV 4 hts gL_does_X4_wind rfl rfl rfl (by decide +kernel) ⟨Nat.le_of_ble_eq_true rfl, Nat.le_of_ble_eq_true rfl⟩) rfl hl.1 rfl (Nat.le_of_ble_eq_true rfl) dL_does_33 ⟨Nat.le_of_ble_eq_true rfl, Nat.le_of_ble_eq_true rfl⟩ (fun E ce q9 H1 locs1 hE hP1 hD1 hS1 hc9 hv9 hcl9 => ?_) (fun r9 H1 locs1 hcode hr9 hP1 hD1 hS1 => ?_)
    · obtain ⟨hc1, rfl⟩ := kEx1 hE
      refine vx_catch (own := RL) (name := kIAE) hown [⟨0, 101, 102, 36⟩] ⟨0, 101, 107, 38⟩ [⟨0, 101, 112, 40⟩] htab (List.forall_mem_cons.mpr ⟨Or.inr ⟨by decide, kIOB, hts (.classLink RL 36 kIOB) (by decide +kernel), hK.2.2 (kIAE, kIOB) (by decide)⟩, fun z h => absurd h List.not_mem_nil⟩) rfl (by decide) (hts (.classLink RL 38 kIAE) (by decide +kernel)) (va_Nw.use rfl (hX.2.2.1 (kIAE, 72) (by decide))) hc9 hv9 hcl9 ?_
      refine lv_astore (lv' := [(5, .ref q9), (0, .ref (a 0)), (1, .int 1), (2, .int f), (3, .int t), (4, .int v)]) hx hb dL_does_107 hl (by decide) rfl (fun ls hl => ?_)
      refine lv_bipush (v := (-3)) hx hb dL_does_109 (by decide) ?_
      exact k_endE (u := σ) (Wf := wS a cI cZ) (Nat.le_refl _) (Nat.le_refl _) hx hb hr hlocks rfl (dP_x hc1 rfl) hP1 hD1 hS1 dL_does_111
    · subst hr9
      refine lv_goto (tgt := 101) hx hb dL_does_36 (by decide) ?_
      exact k_endE (u := nWind σ f t v 1) (Wf := wS a cI cZ) (Nat.le_refl _) (Nat.le_refl _) hx hb hr hlocks rfl (Or.inl ⟨hcode, rfl, rfl⟩) hP1 hD1 hS1 dL_does_101

set_option maxHeartbeats 4000000 in
set_option maxRecDepth 100000 in
theorem c_L_does2 (l : Launch) (D : va_G) (a : Nat → Nat) (cI cZ : ClassId) (sz : Nat) (σ : St) (x y i1 : Int32) (hflag : l.stackTraces = false) (I : PI σ) : kWE l yL_does wsL_does ({ frames := 7, cells := 1, slots := 6, locals := 162 }) [.ref (a 0), .int 2, .int x, .int y, .int i1] D cI cZ sz (wS a cI cZ σ) (wS a cI cZ) (fun r u => dP (cWaves σ.2.1 x y) (fWaves (σ.2.2 0) (σ.2.2 2) (cl x)) [-3] (nWaves σ x y) σ r u) 1 6 := by
  refine k_ofWH (cc := cL_does) (maxL := 6) (ret := (some .int)) (hh := [(0, 101, 102, 36), (0, 101, 107, 38), (0, 101, 112, 40)]) (by decide) rfl ?_
  intro p e s m args below meth c s₁ B hml hv
  obtain ⟨rfl, hsz, hP, hK, hD0, hX⟩ := hv
  have hx := B.exec
  have hb := B.bytes
  have hr := B.returns
  have hts := atoms_spec (ws := wsL_does) B.pre
  have hown : s.vm.findClass RL = some m.cls := findClass_of_methodNamed B.named
  have hlocks := B.notSynchronized
  have htab : c.exceptionTable.toList = [⟨0, 101, 102, 36⟩, ⟨0, 101, 107, 38⟩, ⟨0, 101, 112, 40⟩] := vx_table (x := yL_does) B (hts (.codeWith yL_does cL_does 6 (some .int) [(0, 101, 102, 36), (0, 101, 107, 38), (0, 101, 112, 40)]) List.mem_cons_self)
  subst hsz
  have hD := hD0.self (sz := s.heap.size)
  generalize hAe : va_A (wS a cI cZ σ) s.heap.size = A at hD hX ⊢
  have hA : ∀ q : Nat, s.heap.size ≤ q → A q := fun q h => by rw [← hAe]; exact Or.inr h
  have hl := lv_entry ([.ref (a 0), .int 2, .int x, .int y, .int i1]) (n := 6) (Nat.le_of_ble_eq_true rfl)
  rw [lg_entry_eq]
  generalize (lg_sl ([.ref (a 0), .int 2, .int x, .int y, .int i1]) ++ List.replicate (6 - (lg_sl ([.ref (a 0), .int 2, .int x, .int y, .int i1])).length) Slot.unset).toArray = ls at hl ⊢
  have hl : lv_has ls 6 [(0, .ref (a 0)), (1, .int 2), (2, .int x), (3, .int y), (4, .int i1)] := hl
  refine lv_iload_n hx hb dL_does_0 rfl (lv_at hl 1 rfl) ?_
  refine lv_if_ne (tgt := 12) hx hb dL_does_1 (by decide) (fun _ => ?_) (fun q => absurd q (by decide))
  refine lv_iload_n hx hb dL_does_12 rfl (lv_at hl 1 rfl) ?_
  refine lv_iconst (v := 1) hx hb dL_does_13 (by decide) ?_
  refine lv_icmp_ne (tgt := 39) hx hb dL_does_14 (by decide) (fun _ => ?_) (fun q => absurd q (by decide))
  refine lv_iload_n hx hb dL_does_39 rfl (lv_at hl 1 rfl) ?_
  refine lv_iconst (v := 2) hx hb dL_does_40 (by decide) ?_
  refine lv_icmp_ne (tgt := 53) hx hb dL_does_41 (by decide) (fun q => absurd rfl q) (fun _ => ?_)
  refine lv_aload_n hx hb dL_does_44 rfl (lv_at hl 0 rfl) ?_
  refine lv_iload_n hx hb dL_does_45 rfl (lv_at hl 2 rfl) ?_
  refine lv_iload_n hx hb dL_does_46 rfl (lv_at hl 3 rfl) ?_
  refine k_xwi (As := [.int x, .int y]) (rest := []) (nL := 6) (WR := ([] : va_W)) (WN := wS a cI cZ (nWaves σ x y)) ⟨hx, hb, hml, hown, hts⟩ hK hP hD hX hA (c_X4_waves l D a cI cZ s.heap.size (σ.2.2 0) (σ.2.2 1) (σ.2.2 2) (σ.2.2 3) (σ.2.2 4) (σ.2.2 5) (fun _ => 0) (σ.2.2 6) (fSum (σ.2.2 5) σ.1) (σ.2.2 7) (σ.2.2 8) (σ.2.2 9) (σ.2.2 10) (σ.2.2 11) (σ.2.2 12) (σ.2.2 13) (σ.2.2 14) (fBrt (σ.2.2 12) (σ.2.2 13) (σ.2.2 14) σ.2.1) σ.1 σ.2.1 x y hflag I.n I.h) [0, 1, 2, 3, 4, 5, 6, 7, 8, 9, 10, 11, 12, 13, 14, 15, 16, 17, 18, 19, 20] [] [0, 1, 2, 3, 4, 5, 6, 7, 8, 9, 10, 11, 12, 13, 14, 15, 16, 17, 18, 19, 20] rfl rfl rfl rfl rfl (by decide) rfl rfl rfl rfl rfl 0 rfl rfl rfl (cwV 2 hts gL_does_X4_waves rfl rfl rfl (by decide +kernel) ⟨Nat.le_of_ble_eq_true rfl, Nat.le_of_ble_eq_true rfl⟩) rfl hl.1 rfl (Nat.le_of_ble_eq_true rfl) dL_does_47 ⟨Nat.le_of_ble_eq_true rfl, Nat.le_of_ble_eq_true rfl⟩ (fun E ce q9 H1 locs1 hE hP1 hD1 hS1 hc9 hv9 hcl9 => ?_) (fun r9 H1 locs1 hcode hr9 hP1 hD1 hS1 => ?_)
  · obtain ⟨hc1, rfl⟩ := kEx1 hE
    refine vx_catch (own := RL) (name := kIAE) hown [⟨0, 101, 102, 36⟩] ⟨0, 101, 107, 38⟩ [⟨0, 101, 112, 40⟩] htab (List.forall_mem_cons.mpr ⟨Or.inr ⟨by decide, kIOB, hts (.classLink RL 36 kIOB) (by decide +kernel), hK.2.2 (kIAE, kIOB) (by decide)⟩, fun z h => absurd h List.not_mem_nil⟩) rfl (by decide) (hts (.classLink RL 38 kIAE) (by decide +kernel)) (va_Nw.use rfl (hX.2.2.1 (kIAE, 72) (by decide))) hc9 hv9 hcl9 ?_
    refine lv_astore (lv' := [(5, .ref q9), (0, .ref (a 0)), (1, .int 2), (2, .int x), (3, .int y), (4, .int i1)]) hx hb dL_does_107 hl (by decide) rfl (fun ls hl => ?_)
    refine lv_bipush (v := (-3)) hx hb dL_does_109 (by decide) ?_
    exact k_endE (u := σ) (Wf := wS a cI cZ) (Nat.le_refl _) (Nat.le_refl _) hx hb hr hlocks rfl (dP_x hc1 rfl) hP1 hD1 hS1 dL_does_111
  · subst hr9
    refine lv_goto (tgt := 101) hx hb dL_does_50 (by decide) ?_
    exact k_endE (u := nWaves σ x y) (Wf := wS a cI cZ) (Nat.le_refl _) (Nat.le_refl _) hx hb hr hlocks rfl (Or.inl ⟨hcode, rfl, rfl⟩) hP1 hD1 hS1 dL_does_101

set_option maxHeartbeats 4000000 in
set_option maxRecDepth 100000 in
theorem c_L_does3 (l : Launch) (D : va_G) (a : Nat → Nat) (cI cZ : ClassId) (sz : Nat) (σ : St) (x i1 i2 : Int32) (hflag : l.stackTraces = false) (I : PI σ) : kWE l yL_does wsL_does ({ frames := 7, cells := 1, slots := 6, locals := 162 }) [.ref (a 0), .int 3, .int x, .int i1, .int i2] D cI cZ sz (wS a cI cZ σ) (wS a cI cZ) (fun r u => dP (cBreaks σ.1 (σ.2.2 5) x) (fSum (σ.2.2 5) σ.1 + 1) [-2, -4] (nBreaks σ x) σ r u) 1 6 := by
  refine k_ofWH (cc := cL_does) (maxL := 6) (ret := (some .int)) (hh := [(0, 101, 102, 36), (0, 101, 107, 38), (0, 101, 112, 40)]) (by decide) rfl ?_
  intro p e s m args below meth c s₁ B hml hv
  obtain ⟨rfl, hsz, hP, hK, hD0, hX⟩ := hv
  have hx := B.exec
  have hb := B.bytes
  have hr := B.returns
  have hts := atoms_spec (ws := wsL_does) B.pre
  have hown : s.vm.findClass RL = some m.cls := findClass_of_methodNamed B.named
  have hlocks := B.notSynchronized
  have htab : c.exceptionTable.toList = [⟨0, 101, 102, 36⟩, ⟨0, 101, 107, 38⟩, ⟨0, 101, 112, 40⟩] := vx_table (x := yL_does) B (hts (.codeWith yL_does cL_does 6 (some .int) [(0, 101, 102, 36), (0, 101, 107, 38), (0, 101, 112, 40)]) List.mem_cons_self)
  subst hsz
  have hD := hD0.self (sz := s.heap.size)
  generalize hAe : va_A (wS a cI cZ σ) s.heap.size = A at hD hX ⊢
  have hA : ∀ q : Nat, s.heap.size ≤ q → A q := fun q h => by rw [← hAe]; exact Or.inr h
  have hl := lv_entry ([.ref (a 0), .int 3, .int x, .int i1, .int i2]) (n := 6) (Nat.le_of_ble_eq_true rfl)
  rw [lg_entry_eq]
  generalize (lg_sl ([.ref (a 0), .int 3, .int x, .int i1, .int i2]) ++ List.replicate (6 - (lg_sl ([.ref (a 0), .int 3, .int x, .int i1, .int i2])).length) Slot.unset).toArray = ls at hl ⊢
  have hl : lv_has ls 6 [(0, .ref (a 0)), (1, .int 3), (2, .int x), (3, .int i1), (4, .int i2)] := hl
  refine lv_iload_n hx hb dL_does_0 rfl (lv_at hl 1 rfl) ?_
  refine lv_if_ne (tgt := 12) hx hb dL_does_1 (by decide) (fun _ => ?_) (fun q => absurd q (by decide))
  refine lv_iload_n hx hb dL_does_12 rfl (lv_at hl 1 rfl) ?_
  refine lv_iconst (v := 1) hx hb dL_does_13 (by decide) ?_
  refine lv_icmp_ne (tgt := 39) hx hb dL_does_14 (by decide) (fun _ => ?_) (fun q => absurd q (by decide))
  refine lv_iload_n hx hb dL_does_39 rfl (lv_at hl 1 rfl) ?_
  refine lv_iconst (v := 2) hx hb dL_does_40 (by decide) ?_
  refine lv_icmp_ne (tgt := 53) hx hb dL_does_41 (by decide) (fun _ => ?_) (fun q => absurd q (by decide))
  refine lv_iload_n hx hb dL_does_53 rfl (lv_at hl 1 rfl) ?_
  refine lv_iconst (v := 3) hx hb dL_does_54 (by decide) ?_
  refine lv_icmp_ne (tgt := 66) hx hb dL_does_55 (by decide) (fun q => absurd rfl q) (fun _ => ?_)
  refine lv_aload_n hx hb dL_does_58 rfl (lv_at hl 0 rfl) ?_
  refine lv_iload_n hx hb dL_does_59 rfl (lv_at hl 2 rfl) ?_
  refine k_xwi (As := [.int x]) (rest := []) (nL := 6) (WR := ([] : va_W)) (WN := wSx a cI cZ (nBreaks σ x) ((fSum (σ.2.2 5) σ.1) + 1) (fBrt (σ.2.2 12) (σ.2.2 13) (σ.2.2 14) σ.2.1)) ⟨hx, hb, hml, hown, hts⟩ hK hP hD hX hA (c_X4_breaks l D a cI cZ s.heap.size (σ.2.2 0) (σ.2.2 1) (σ.2.2 2) (σ.2.2 3) (σ.2.2 4) (σ.2.2 5) (fun _ => 0) (σ.2.2 6) (fSum (σ.2.2 5) σ.1) (σ.2.2 7) (σ.2.2 8) (σ.2.2 9) (σ.2.2 10) (σ.2.2 11) (σ.2.2 12) (σ.2.2 13) (σ.2.2 14) (fBrt (σ.2.2 12) (σ.2.2 13) (σ.2.2 14) σ.2.1) σ.1 σ.2.1 x hflag I.n I.h I.br) [0, 1, 2, 3, 4, 5, 6, 7, 8, 9, 10, 11, 12, 13, 14, 15, 16, 17, 18, 19, 20] [] [0, 1, 2, 3, 4, 5, 6, 7, 8, 9, 10, 11, 12, 13, 14, 15, 16, 17, 18, 19, 20] rfl rfl rfl rfl rfl (by decide) rfl rfl rfl rfl rfl 0 rfl rfl rfl (cwV 1 hts gL_does_X4_breaks rfl rfl rfl (by decide +kernel) ⟨Nat.le_of_ble_eq_true rfl, Nat.le_of_ble_eq_true rfl⟩) rfl hl.1 rfl (Nat.le_of_ble_eq_true rfl) dL_does_60 ⟨Nat.le_of_ble_eq_true rfl, Nat.le_of_ble_eq_true rfl⟩ (fun E ce q9 H1 locs1 hE hP1 hD1 hS1 hc9 hv9 hcl9 => ?_) (fun r9 H1 locs1 hcode hr9 hP1 hD1 hS1 => ?_)
  · rcases kEx2 hE with ⟨hc1, rfl⟩ | ⟨hc1, rfl⟩
    · refine vx_catch (own := RL) (name := kIOB) hown [] ⟨0, 101, 102, 36⟩ [⟨0, 101, 107, 38⟩, ⟨0, 101, 112, 40⟩] htab (fun z h => absurd h List.not_mem_nil) rfl (by decide) (hts (.classLink RL 36 kIOB) (by decide +kernel)) (va_Nw.use rfl (hX.2.2.1 (kIOB, 49) (by decide))) hc9 hv9 hcl9 ?_
      refine lv_astore (lv' := [(5, .ref q9), (0, .ref (a 0)), (1, .int 3), (2, .int x), (3, .int i1), (4, .int i2)]) hx hb dL_does_102 hl (by decide) rfl (fun ls hl => ?_)
      refine lv_bipush (v := (-2)) hx hb dL_does_104 (by decide) ?_
      exact k_endE (u := σ) (Wf := wS a cI cZ) (Nat.le_refl _) (Nat.le_refl _) hx hb hr hlocks rfl (dP_x hc1 rfl) hP1 hD1 hS1 dL_does_106
    · refine vx_catch (own := RL) (name := kISE) hown [⟨0, 101, 102, 36⟩, ⟨0, 101, 107, 38⟩] ⟨0, 101, 112, 40⟩ [] htab (List.forall_mem_cons.mpr ⟨Or.inr ⟨by decide, kIOB, hts (.classLink RL 36 kIOB) (by decide +kernel), hK.2.2 (kISE, kIOB) (by decide)⟩, List.forall_mem_cons.mpr ⟨Or.inr ⟨by decide, kIAE, hts (.classLink RL 38 kIAE) (by decide +kernel), hK.2.2 (kISE, kIAE) (by decide)⟩, fun z h => absurd h List.not_mem_nil⟩⟩) rfl (by decide) (hts (.classLink RL 40 kISE) (by decide +kernel)) (va_Nw.use rfl (hX.2.2.1 (kISE, 60) (by decide))) hc9 hv9 hcl9 ?_
      refine lv_astore (lv' := [(5, .ref q9), (0, .ref (a 0)), (1, .int 3), (2, .int x), (3, .int i1), (4, .int i2)]) hx hb dL_does_112 hl (by decide) rfl (fun ls hl => ?_)
      refine lv_bipush (v := (-4)) hx hb dL_does_114 (by decide) ?_
      exact k_endE (u := σ) (Wf := wS a cI cZ) (Nat.le_refl _) (Nat.le_refl _) hx hb hr hlocks rfl (dP_x hc1 rfl) hP1 hD1 hS1 dL_does_116
  · subst hr9
    rw [← w_breaks (a := a) (cI := cI) (cZ := cZ) I hcode] at hP1 hD1
    refine lv_goto (tgt := 101) hx hb dL_does_63 (by decide) ?_
    exact k_endE (u := nBreaks σ x) (Wf := wS a cI cZ) (Nat.le_refl _) (Nat.le_refl _) hx hb hr hlocks rfl (Or.inl ⟨hcode, rfl, rfl⟩) hP1 hD1 hS1 dL_does_101

set_option maxHeartbeats 4000000 in
set_option maxRecDepth 100000 in
theorem c_L_does4 (l : Launch) (D : va_G) (a : Nat → Nat) (cI cZ : ClassId) (sz : Nat) (σ : St) (x y i1 : Int32) (hflag : l.stackTraces = false) (I : PI σ) : kWE l yL_does wsL_does ({ frames := 7, cells := 1, slots := 6, locals := 162 }) [.ref (a 0), .int 4, .int x, .int y, .int i1] D cI cZ sz (wS a cI cZ σ) (wS a cI cZ) (fun r u => dP (cCrew x y) (σ.2.2 9 (cl x)) [-2, -3] (nCrew σ x y) σ r u) 1 6 := by
  refine k_ofWH (cc := cL_does) (maxL := 6) (ret := (some .int)) (hh := [(0, 101, 102, 36), (0, 101, 107, 38), (0, 101, 112, 40)]) (by decide) rfl ?_
  intro p e s m args below meth c s₁ B hml hv
  obtain ⟨rfl, hsz, hP, hK, hD0, hX⟩ := hv
  have hx := B.exec
  have hb := B.bytes
  have hr := B.returns
  have hts := atoms_spec (ws := wsL_does) B.pre
  have hown : s.vm.findClass RL = some m.cls := findClass_of_methodNamed B.named
  have hlocks := B.notSynchronized
  have htab : c.exceptionTable.toList = [⟨0, 101, 102, 36⟩, ⟨0, 101, 107, 38⟩, ⟨0, 101, 112, 40⟩] := vx_table (x := yL_does) B (hts (.codeWith yL_does cL_does 6 (some .int) [(0, 101, 102, 36), (0, 101, 107, 38), (0, 101, 112, 40)]) List.mem_cons_self)
  subst hsz
  have hD := hD0.self (sz := s.heap.size)
  generalize hAe : va_A (wS a cI cZ σ) s.heap.size = A at hD hX ⊢
  have hA : ∀ q : Nat, s.heap.size ≤ q → A q := fun q h => by rw [← hAe]; exact Or.inr h
  have hl := lv_entry ([.ref (a 0), .int 4, .int x, .int y, .int i1]) (n := 6) (Nat.le_of_ble_eq_true rfl)
  rw [lg_entry_eq]
  generalize (lg_sl ([.ref (a 0), .int 4, .int x, .int y, .int i1]) ++ List.replicate (6 - (lg_sl ([.ref (a 0), .int 4, .int x, .int y, .int i1])).length) Slot.unset).toArray = ls at hl ⊢
  have hl : lv_has ls 6 [(0, .ref (a 0)), (1, .int 4), (2, .int x), (3, .int y), (4, .int i1)] := hl
  refine lv_iload_n hx hb dL_does_0 rfl (lv_at hl 1 rfl) ?_
  refine lv_if_ne (tgt := 12) hx hb dL_does_1 (by decide) (fun _ => ?_) (fun q => absurd q (by decide))
  refine lv_iload_n hx hb dL_does_12 rfl (lv_at hl 1 rfl) ?_
  refine lv_iconst (v := 1) hx hb dL_does_13 (by decide) ?_
  refine lv_icmp_ne (tgt := 39) hx hb dL_does_14 (by decide) (fun _ => ?_) (fun q => absurd q (by decide))
  refine lv_iload_n hx hb dL_does_39 rfl (lv_at hl 1 rfl) ?_
  refine lv_iconst (v := 2) hx hb dL_does_40 (by decide) ?_
  refine lv_icmp_ne (tgt := 53) hx hb dL_does_41 (by decide) (fun _ => ?_) (fun q => absurd q (by decide))
  refine lv_iload_n hx hb dL_does_53 rfl (lv_at hl 1 rfl) ?_
  refine lv_iconst (v := 3) hx hb dL_does_54 (by decide) ?_
  refine lv_icmp_ne (tgt := 66) hx hb dL_does_55 (by decide) (fun _ => ?_) (fun q => absurd q (by decide))
  refine lv_iload_n hx hb dL_does_66 rfl (lv_at hl 1 rfl) ?_
  refine lv_iconst (v := 4) hx hb dL_does_67 (by decide) ?_
  refine lv_icmp_ne (tgt := 80) hx hb dL_does_68 (by decide) (fun q => absurd rfl q) (fun _ => ?_)
  refine lv_aload_n hx hb dL_does_71 rfl (lv_at hl 0 rfl) ?_
  refine lv_iload_n hx hb dL_does_72 rfl (lv_at hl 2 rfl) ?_
  refine lv_iload_n hx hb dL_does_73 rfl (lv_at hl 3 rfl) ?_
  refine k_xwi (As := [.int x, .int y]) (rest := []) (nL := 6) (WR := ([] : va_W)) (WN := wS a cI cZ (nCrew σ x y)) ⟨hx, hb, hml, hown, hts⟩ hK hP hD hX hA (c_X4_crew l D a cI cZ s.heap.size (σ.2.2 0) (σ.2.2 1) (σ.2.2 2) (σ.2.2 3) (σ.2.2 4) (σ.2.2 5) (fun _ => 0) (σ.2.2 6) (fSum (σ.2.2 5) σ.1) (σ.2.2 7) (σ.2.2 8) (σ.2.2 9) (σ.2.2 10) (σ.2.2 11) (σ.2.2 12) (σ.2.2 13) (σ.2.2 14) (fBrt (σ.2.2 12) (σ.2.2 13) (σ.2.2 14) σ.2.1) σ.1 σ.2.1 x y hflag I.n I.h) [0, 1, 2, 3, 4, 5, 6, 7, 8, 9, 10, 11, 12, 13, 14, 15, 16, 17, 18, 19, 20] [] [0, 1, 2, 3, 4, 5, 6, 7, 8, 9, 10, 11, 12, 13, 14, 15, 16, 17, 18, 19, 20] rfl rfl rfl rfl rfl (by decide) rfl rfl rfl rfl rfl 0 rfl rfl rfl (cwV 2 hts gL_does_X4_crew rfl rfl rfl (by decide +kernel) ⟨Nat.le_of_ble_eq_true rfl, Nat.le_of_ble_eq_true rfl⟩) rfl hl.1 rfl (Nat.le_of_ble_eq_true rfl) dL_does_74 ⟨Nat.le_of_ble_eq_true rfl, Nat.le_of_ble_eq_true rfl⟩ (fun E ce q9 H1 locs1 hE hP1 hD1 hS1 hc9 hv9 hcl9 => ?_) (fun r9 H1 locs1 hcode hr9 hP1 hD1 hS1 => ?_)
  · rcases kEx2 hE with ⟨hc1, rfl⟩ | ⟨hc1, rfl⟩
    · refine vx_catch (own := RL) (name := kIOB) hown [] ⟨0, 101, 102, 36⟩ [⟨0, 101, 107, 38⟩, ⟨0, 101, 112, 40⟩] htab (fun z h => absurd h List.not_mem_nil) rfl (by decide) (hts (.classLink RL 36 kIOB) (by decide +kernel)) (va_Nw.use rfl (hX.2.2.1 (kIOB, 49) (by decide))) hc9 hv9 hcl9 ?_
      refine lv_astore (lv' := [(5, .ref q9), (0, .ref (a 0)), (1, .int 4), (2, .int x), (3, .int y), (4, .int i1)]) hx hb dL_does_102 hl (by decide) rfl (fun ls hl => ?_)
      refine lv_bipush (v := (-2)) hx hb dL_does_104 (by decide) ?_
      exact k_endE (u := σ) (Wf := wS a cI cZ) (Nat.le_refl _) (Nat.le_refl _) hx hb hr hlocks rfl (dP_x hc1 rfl) hP1 hD1 hS1 dL_does_106
    · refine vx_catch (own := RL) (name := kIAE) hown [⟨0, 101, 102, 36⟩] ⟨0, 101, 107, 38⟩ [⟨0, 101, 112, 40⟩] htab (List.forall_mem_cons.mpr ⟨Or.inr ⟨by decide, kIOB, hts (.classLink RL 36 kIOB) (by decide +kernel), hK.2.2 (kIAE, kIOB) (by decide)⟩, fun z h => absurd h List.not_mem_nil⟩) rfl (by decide) (hts (.classLink RL 38 kIAE) (by decide +kernel)) (va_Nw.use rfl (hX.2.2.1 (kIAE, 72) (by decide))) hc9 hv9 hcl9 ?_
      refine lv_astore (lv' := [(5, .ref q9), (0, .ref (a 0)), (1, .int 4), (2, .int x), (3, .int y), (4, .int i1)]) hx hb dL_does_107 hl (by decide) rfl (fun ls hl => ?_)
      refine lv_bipush (v := (-3)) hx hb dL_does_109 (by decide) ?_
      exact k_endE (u := σ) (Wf := wS a cI cZ) (Nat.le_refl _) (Nat.le_refl _) hx hb hr hlocks rfl (dP_x hc1 rfl) hP1 hD1 hS1 dL_does_111
  · subst hr9
    refine lv_goto (tgt := 101) hx hb dL_does_77 (by decide) ?_
    exact k_endE (u := nCrew σ x y) (Wf := wS a cI cZ) (Nat.le_refl _) (Nat.le_refl _) hx hb hr hlocks rfl (Or.inl ⟨hcode, rfl, rfl⟩) hP1 hD1 hS1 dL_does_101

set_option maxHeartbeats 4000000 in
set_option maxRecDepth 100000 in
theorem c_L_does5 (l : Launch) (D : va_G) (a : Nat → Nat) (cI cZ : ClassId) (sz : Nat) (σ : St) (x y z : Int32) (hflag : l.stackTraces = false) (I : PI σ) : kWE l yL_does wsL_does ({ frames := 7, cells := 1, slots := 6, locals := 162 }) [.ref (a 0), .int 5, .int x, .int y, .int z] D cI cZ sz (wS a cI cZ σ) (wS a cI cZ) (fun r u => dP (cSell σ.2.1 x y z) (σ.2.2 12 (cl x)) [-3, -4] (nSell σ x y z) σ r u) 1 6 := by
  refine k_ofWH (cc := cL_does) (maxL := 6) (ret := (some .int)) (hh := [(0, 101, 102, 36), (0, 101, 107, 38), (0, 101, 112, 40)]) (by decide) rfl ?_
  intro p e s m args below meth c s₁ B hml hv
  obtain ⟨rfl, hsz, hP, hK, hD0, hX⟩ := hv
  have hx := B.exec
  have hb := B.bytes
  have hr := B.returns
  have hts := atoms_spec (ws := wsL_does) B.pre
  have hown : s.vm.findClass RL = some m.cls := findClass_of_methodNamed B.named
  have hlocks := B.notSynchronized
  have htab : c.exceptionTable.toList = [⟨0, 101, 102, 36⟩, ⟨0, 101, 107, 38⟩, ⟨0, 101, 112, 40⟩] := vx_table (x := yL_does) B (hts (.codeWith yL_does cL_does 6 (some .int) [(0, 101, 102, 36), (0, 101, 107, 38), (0, 101, 112, 40)]) List.mem_cons_self)
  subst hsz
  have hD := hD0.self (sz := s.heap.size)
  generalize hAe : va_A (wS a cI cZ σ) s.heap.size = A at hD hX ⊢
  have hA : ∀ q : Nat, s.heap.size ≤ q → A q := fun q h => by rw [← hAe]; exact Or.inr h
  have hl := lv_entry ([.ref (a 0), .int 5, .int x, .int y, .int z]) (n := 6) (Nat.le_of_ble_eq_true rfl)
  rw [lg_entry_eq]
  generalize (lg_sl ([.ref (a 0), .int 5, .int x, .int y, .int z]) ++ List.replicate (6 - (lg_sl ([.ref (a 0), .int 5, .int x, .int y, .int z])).length) Slot.unset).toArray = ls at hl ⊢
  have hl : lv_has ls 6 [(0, .ref (a 0)), (1, .int 5), (2, .int x), (3, .int y), (4, .int z)] := hl
  refine lv_iload_n hx hb dL_does_0 rfl (lv_at hl 1 rfl) ?_
  refine lv_if_ne (tgt := 12) hx hb dL_does_1 (by decide) (fun _ => ?_) (fun q => absurd q (by decide))
  refine lv_iload_n hx hb dL_does_12 rfl (lv_at hl 1 rfl) ?_
  refine lv_iconst (v := 1) hx hb dL_does_13 (by decide) ?_
  refine lv_icmp_ne (tgt := 39) hx hb dL_does_14 (by decide) (fun _ => ?_) (fun q => absurd q (by decide))
  refine lv_iload_n hx hb dL_does_39 rfl (lv_at hl 1 rfl) ?_
  refine lv_iconst (v := 2) hx hb dL_does_40 (by decide) ?_
  refine lv_icmp_ne (tgt := 53) hx hb dL_does_41 (by decide) (fun _ => ?_) (fun q => absurd q (by decide))
  refine lv_iload_n hx hb dL_does_53 rfl (lv_at hl 1 rfl) ?_
  refine lv_iconst (v := 3) hx hb dL_does_54 (by decide) ?_
  refine lv_icmp_ne (tgt := 66) hx hb dL_does_55 (by decide) (fun _ => ?_) (fun q => absurd q (by decide))
  refine lv_iload_n hx hb dL_does_66 rfl (lv_at hl 1 rfl) ?_
  refine lv_iconst (v := 4) hx hb dL_does_67 (by decide) ?_
  refine lv_icmp_ne (tgt := 80) hx hb dL_does_68 (by decide) (fun _ => ?_) (fun q => absurd q (by decide))
  refine lv_iload_n hx hb dL_does_80 rfl (lv_at hl 1 rfl) ?_
  refine lv_iconst (v := 5) hx hb dL_does_81 (by decide) ?_
  refine lv_icmp_ne (tgt := 96) hx hb dL_does_82 (by decide) (fun q => absurd rfl q) (fun _ => ?_)
  refine lv_aload_n hx hb dL_does_85 rfl (lv_at hl 0 rfl) ?_
  refine lv_iload_n hx hb dL_does_86 rfl (lv_at hl 2 rfl) ?_
  refine lv_iload_n hx hb dL_does_87 rfl (lv_at hl 3 rfl) ?_
  refine lv_iload hx hb dL_does_88 (lv_at hl 4 rfl) ?_
  refine k_xwi (As := [.int x, .int y, .int z]) (rest := []) (nL := 6) (WR := ([] : va_W)) (WN := wSx a cI cZ (nSell σ x y z) (fSum (σ.2.2 5) σ.1) (fBrt (σ.2.2 12) (σ.2.2 13) (σ.2.2 14) σ.2.1)) ⟨hx, hb, hml, hown, hts⟩ hK hP hD hX hA (c_X4_sell l D a cI cZ s.heap.size (σ.2.2 0) (σ.2.2 1) (σ.2.2 2) (σ.2.2 3) (σ.2.2 4) (σ.2.2 5) (fun _ => 0) (σ.2.2 6) (fSum (σ.2.2 5) σ.1) (σ.2.2 7) (σ.2.2 8) (σ.2.2 9) (σ.2.2 10) (σ.2.2 11) (σ.2.2 12) (σ.2.2 13) (σ.2.2 14) (fBrt (σ.2.2 12) (σ.2.2 13) (σ.2.2 14) σ.2.1) σ.1 σ.2.1 x y z hflag I.n I.h) [0, 1, 2, 3, 4, 5, 6, 7, 8, 9, 10, 11, 12, 13, 14, 15, 16, 17, 18, 19, 20] [] [0, 1, 2, 3, 4, 5, 6, 7, 8, 9, 10, 11, 12, 13, 14, 15, 16, 17, 18, 19, 20] rfl rfl rfl rfl rfl (by decide) rfl rfl rfl rfl rfl 0 rfl rfl rfl (cwV 3 hts gL_does_X4_sell rfl rfl rfl (by decide +kernel) ⟨Nat.le_of_ble_eq_true rfl, Nat.le_of_ble_eq_true rfl⟩) rfl hl.1 rfl (Nat.le_of_ble_eq_true rfl) dL_does_90 ⟨Nat.le_of_ble_eq_true rfl, Nat.le_of_ble_eq_true rfl⟩ (fun E ce q9 H1 locs1 hE hP1 hD1 hS1 hc9 hv9 hcl9 => ?_) (fun r9 H1 locs1 hcode hr9 hP1 hD1 hS1 => ?_)
  · rcases kEx2 hE with ⟨hc1, rfl⟩ | ⟨hc1, rfl⟩
    · refine vx_catch (own := RL) (name := kIAE) hown [⟨0, 101, 102, 36⟩] ⟨0, 101, 107, 38⟩ [⟨0, 101, 112, 40⟩] htab (List.forall_mem_cons.mpr ⟨Or.inr ⟨by decide, kIOB, hts (.classLink RL 36 kIOB) (by decide +kernel), hK.2.2 (kIAE, kIOB) (by decide)⟩, fun z h => absurd h List.not_mem_nil⟩) rfl (by decide) (hts (.classLink RL 38 kIAE) (by decide +kernel)) (va_Nw.use rfl (hX.2.2.1 (kIAE, 72) (by decide))) hc9 hv9 hcl9 ?_
      refine lv_astore (lv' := [(5, .ref q9), (0, .ref (a 0)), (1, .int 5), (2, .int x), (3, .int y), (4, .int z)]) hx hb dL_does_107 hl (by decide) rfl (fun ls hl => ?_)
      refine lv_bipush (v := (-3)) hx hb dL_does_109 (by decide) ?_
      exact k_endE (u := σ) (Wf := wS a cI cZ) (Nat.le_refl _) (Nat.le_refl _) hx hb hr hlocks rfl (dP_x hc1 rfl) hP1 hD1 hS1 dL_does_111
    · refine vx_catch (own := RL) (name := kISE) hown [⟨0, 101, 102, 36⟩, ⟨0, 101, 107, 38⟩] ⟨0, 101, 112, 40⟩ [] htab (List.forall_mem_cons.mpr ⟨Or.inr ⟨by decide, kIOB, hts (.classLink RL 36 kIOB) (by decide +kernel), hK.2.2 (kISE, kIOB) (by decide)⟩, List.forall_mem_cons.mpr ⟨Or.inr ⟨by decide, kIAE, hts (.classLink RL 38 kIAE) (by decide +kernel), hK.2.2 (kISE, kIAE) (by decide)⟩, fun z h => absurd h List.not_mem_nil⟩⟩) rfl (by decide) (hts (.classLink RL 40 kISE) (by decide +kernel)) (va_Nw.use rfl (hX.2.2.1 (kISE, 60) (by decide))) hc9 hv9 hcl9 ?_
      refine lv_astore (lv' := [(5, .ref q9), (0, .ref (a 0)), (1, .int 5), (2, .int x), (3, .int y), (4, .int z)]) hx hb dL_does_112 hl (by decide) rfl (fun ls hl => ?_)
      refine lv_bipush (v := (-4)) hx hb dL_does_114 (by decide) ?_
      exact k_endE (u := σ) (Wf := wS a cI cZ) (Nat.le_refl _) (Nat.le_refl _) hx hb hr hlocks rfl (dP_x hc1 rfl) hP1 hD1 hS1 dL_does_116
  · subst hr9
    rw [← w_sell (a := a) (cI := cI) (cZ := cZ) hcode] at hP1 hD1
    refine lv_goto (tgt := 101) hx hb dL_does_93 (by decide) ?_
    exact k_endE (u := nSell σ x y z) (Wf := wS a cI cZ) (Nat.le_refl _) (Nat.le_refl _) hx hb hr hlocks rfl (Or.inl ⟨hcode, rfl, rfl⟩) hP1 hD1 hS1 dL_does_101

set_option maxHeartbeats 4000000 in
set_option maxRecDepth 100000 in
theorem c_L_does6 (l : Launch) (D : va_G) (a : Nat → Nat) (cI cZ : ClassId) (sz : Nat) (σ : St) (x i1 i2 : Int32) (hflag : l.stackTraces = false) (I : PI σ) : kWE l yL_does wsL_does ({ frames := 7, cells := 1, slots := 6, locals := 162 }) [.ref (a 0), .int 6, .int x, .int i1, .int i2] D cI cZ sz (wS a cI cZ σ) (wS a cI cZ) (fun r u => dP (cPass σ.2.1 x) (nI (σ.2.1 + cl x)) [-3, -4] (nPass σ x) σ r u) 1 6 := by
  refine k_ofWH (cc := cL_does) (maxL := 6) (ret := (some .int)) (hh := [(0, 101, 102, 36), (0, 101, 107, 38), (0, 101, 112, 40)]) (by decide) rfl ?_
  intro p e s m args below meth c s₁ B hml hv
  obtain ⟨rfl, hsz, hP, hK, hD0, hX⟩ := hv
  have hx := B.exec
  have hb := B.bytes
  have hr := B.returns
  have hts := atoms_spec (ws := wsL_does) B.pre
  have hown : s.vm.findClass RL = some m.cls := findClass_of_methodNamed B.named
  have hlocks := B.notSynchronized
  have htab : c.exceptionTable.toList = [⟨0, 101, 102, 36⟩, ⟨0, 101, 107, 38⟩, ⟨0, 101, 112, 40⟩] := vx_table (x := yL_does) B (hts (.codeWith yL_does cL_does 6 (some .int) [(0, 101, 102, 36), (0, 101, 107, 38), (0, 101, 112, 40)]) List.mem_cons_self)
  subst hsz
  have hD := hD0.self (sz := s.heap.size)
  generalize hAe : va_A (wS a cI cZ σ) s.heap.size = A at hD hX ⊢
  have hA : ∀ q : Nat, s.heap.size ≤ q → A q := fun q h => by rw [← hAe]; exact Or.inr h
  have hl := lv_entry ([.ref (a 0), .int 6, .int x, .int i1, .int i2]) (n := 6) (Nat.le_of_ble_eq_true rfl)
  rw [lg_entry_eq]
  generalize (lg_sl ([.ref (a 0), .int 6, .int x, .int i1, .int i2]) ++ List.replicate (6 - (lg_sl ([.ref (a 0), .int 6, .int x, .int i1, .int i2])).length) Slot.unset).toArray = ls at hl ⊢
  have hl : lv_has ls 6 [(0, .ref (a 0)), (1, .int 6), (2, .int x), (3, .int i1), (4, .int i2)] := hl
  refine lv_iload_n hx hb dL_does_0 rfl (lv_at hl 1 rfl) ?_
  refine lv_if_ne (tgt := 12) hx hb dL_does_1 (by decide) (fun _ => ?_) (fun q => absurd q (by decide))
  refine lv_iload_n hx hb dL_does_12 rfl (lv_at hl 1 rfl) ?_
  refine lv_iconst (v := 1) hx hb dL_does_13 (by decide) ?_
  refine lv_icmp_ne (tgt := 39) hx hb dL_does_14 (by decide) (fun _ => ?_) (fun q => absurd q (by decide))
  refine lv_iload_n hx hb dL_does_39 rfl (lv_at hl 1 rfl) ?_
  refine lv_iconst (v := 2) hx hb dL_does_40 (by decide) ?_
  refine lv_icmp_ne (tgt := 53) hx hb dL_does_41 (by decide) (fun _ => ?_) (fun q => absurd q (by decide))
  refine lv_iload_n hx hb dL_does_53 rfl (lv_at hl 1 rfl) ?_
  refine lv_iconst (v := 3) hx hb dL_does_54 (by decide) ?_
  refine lv_icmp_ne (tgt := 66) hx hb dL_does_55 (by decide) (fun _ => ?_) (fun q => absurd q (by decide))
  refine lv_iload_n hx hb dL_does_66 rfl (lv_at hl 1 rfl) ?_
  refine lv_iconst (v := 4) hx hb dL_does_67 (by decide) ?_
  refine lv_icmp_ne (tgt := 80) hx hb dL_does_68 (by decide) (fun _ => ?_) (fun q => absurd q (by decide))
  refine lv_iload_n hx hb dL_does_80 rfl (lv_at hl 1 rfl) ?_
  refine lv_iconst (v := 5) hx hb dL_does_81 (by decide) ?_
  refine lv_icmp_ne (tgt := 96) hx hb dL_does_82 (by decide) (fun _ => ?_) (fun q => absurd q (by decide))
  refine lv_aload_n hx hb dL_does_96 rfl (lv_at hl 0 rfl) ?_
  refine lv_iload_n hx hb dL_does_97 rfl (lv_at hl 2 rfl) ?_
  refine k_xwi (As := [.int x]) (rest := []) (nL := 6) (WR := ([] : va_W)) (WN := wS a cI cZ (nPass σ x)) ⟨hx, hb, hml, hown, hts⟩ hK hP hD hX hA (c_X4_pass l D a cI cZ s.heap.size (σ.2.2 0) (σ.2.2 1) (σ.2.2 2) (σ.2.2 3) (σ.2.2 4) (σ.2.2 5) (σ.2.2 6) (σ.2.2 7) (σ.2.2 8) (σ.2.2 9) (σ.2.2 10) (σ.2.2 11) (σ.2.2 12) (σ.2.2 13) (σ.2.2 14) σ.1 σ.2.1 x hflag I.n I.h I.pl I.we I.ok) [0, 1, 2, 3, 4, 5, 6, 7, 8, 9, 10, 11, 12, 13, 14, 15, 16, 17, 18, 19, 20] [] [0, 1, 2, 3, 4, 5, 6, 7, 8, 9, 10, 11, 12, 13, 14, 15, 16, 17, 18, 19, 20] rfl rfl rfl rfl rfl (by decide) rfl rfl rfl rfl rfl 0 rfl rfl rfl (cwV 1 hts gL_does_X4_pass rfl rfl rfl (by decide +kernel) ⟨Nat.le_of_ble_eq_true rfl, Nat.le_of_ble_eq_true rfl⟩) rfl hl.1 rfl (Nat.le_of_ble_eq_true rfl) dL_does_98 ⟨Nat.le_of_ble_eq_true rfl, Nat.le_of_ble_eq_true rfl⟩ (fun E ce q9 H1 locs1 hE hP1 hD1 hS1 hc9 hv9 hcl9 => ?_) (fun r9 H1 locs1 hcode hr9 hP1 hD1 hS1 => ?_)
  · rcases kEx2 hE with ⟨hc1, rfl⟩ | ⟨hc1, rfl⟩
    · refine vx_catch (own := RL) (name := kIAE) hown [⟨0, 101, 102, 36⟩] ⟨0, 101, 107, 38⟩ [⟨0, 101, 112, 40⟩] htab (List.forall_mem_cons.mpr ⟨Or.inr ⟨by decide, kIOB, hts (.classLink RL 36 kIOB) (by decide +kernel), hK.2.2 (kIAE, kIOB) (by decide)⟩, fun z h => absurd h List.not_mem_nil⟩) rfl (by decide) (hts (.classLink RL 38 kIAE) (by decide +kernel)) (va_Nw.use rfl (hX.2.2.1 (kIAE, 72) (by decide))) hc9 hv9 hcl9 ?_
      refine lv_astore (lv' := [(5, .ref q9), (0, .ref (a 0)), (1, .int 6), (2, .int x), (3, .int i1), (4, .int i2)]) hx hb dL_does_107 hl (by decide) rfl (fun ls hl => ?_)
      refine lv_bipush (v := (-3)) hx hb dL_does_109 (by decide) ?_
      exact k_endE (u := σ) (Wf := wS a cI cZ) (Nat.le_refl _) (Nat.le_refl _) hx hb hr hlocks rfl (dP_x hc1 rfl) hP1 hD1 hS1 dL_does_111
    · refine vx_catch (own := RL) (name := kISE) hown [⟨0, 101, 102, 36⟩, ⟨0, 101, 107, 38⟩] ⟨0, 101, 112, 40⟩ [] htab (List.forall_mem_cons.mpr ⟨Or.inr ⟨by decide, kIOB, hts (.classLink RL 36 kIOB) (by decide +kernel), hK.2.2 (kISE, kIOB) (by decide)⟩, List.forall_mem_cons.mpr ⟨Or.inr ⟨by decide, kIAE, hts (.classLink RL 38 kIAE) (by decide +kernel), hK.2.2 (kISE, kIAE) (by decide)⟩, fun z h => absurd h List.not_mem_nil⟩⟩) rfl (by decide) (hts (.classLink RL 40 kISE) (by decide +kernel)) (va_Nw.use rfl (hX.2.2.1 (kISE, 60) (by decide))) hc9 hv9 hcl9 ?_
      refine lv_astore (lv' := [(5, .ref q9), (0, .ref (a 0)), (1, .int 6), (2, .int x), (3, .int i1), (4, .int i2)]) hx hb dL_does_112 hl (by decide) rfl (fun ls hl => ?_)
      refine lv_bipush (v := (-4)) hx hb dL_does_114 (by decide) ?_
      exact k_endE (u := σ) (Wf := wS a cI cZ) (Nat.le_refl _) (Nat.le_refl _) hx hb hr hlocks rfl (dP_x hc1 rfl) hP1 hD1 hS1 dL_does_116
  · subst hr9
    exact k_endE (u := nPass σ x) (Wf := wS a cI cZ) (Nat.le_refl _) (Nat.le_refl _) hx hb hr hlocks rfl (Or.inl ⟨hcode, rfl, rfl⟩) hP1 hD1 hS1 dL_does_101
