set_option maxHeartbeats 4000000 in
set_option maxRecDepth 100000 in
/-- isWithin: the truth of it -/
theorem c_X4_isWithin (l : Launch) (v : Int32) (lo : Int32) (hi : Int32) : kPs l yX4_isWithin wsX4_isWithin ({ frames := 0, cells := 0, slots := 0, locals := 0 }) [.int v, .int lo, .int hi] (fun r => r = bI (lo ≤ v ∧ v ≤ hi)) := by
  refine Met.ofW (cc := cX4_isWithin) (maxL := 3) (ret := (some .boolean)) (by decide) rfl ?_
  intro p e s m args below meth c s₁ B hml hv
  obtain ⟨rfl, -⟩ := hv
  have hx := B.exec
  have hb := B.bytes
  have hr := B.returns
  have hts := atoms_spec (ws := wsX4_isWithin) B.pre
  have hown : s.vm.findClass RX4 = some m.cls := findClass_of_methodNamed B.named
  have hlocks := B.notSynchronized
  have hl := lv_entry ([.int v, .int lo, .int hi]) (n := 3) (Nat.le_of_ble_eq_true rfl)
  rw [lg_entry_eq]
  generalize (lg_sl ([.int v, .int lo, .int hi]) ++ List.replicate (3 - (lg_sl ([.int v, .int lo, .int hi])).length) Slot.unset).toArray = ls at hl ⊢
  have hl : lv_has ls 3 [(0, .int v), (1, .int lo), (2, .int hi)] := hl
  refine lv_iload_n hx hb dX4_isWithin_0 rfl (lv_at hl 0 rfl) ?_
  refine lv_iload_n hx hb dX4_isWithin_1 rfl (lv_at hl 1 rfl) ?_
  refine lv_icmp_lt (tgt := 14) hx hb dX4_isWithin_2 (by decide) (fun c_2 => ?_) (fun c_2 => ?_)
  · refine lv_iconst (v := 0) hx hb dX4_isWithin_14 (by decide) ?_
    exact k_endR (ty := .boolean) hx hb hr hlocks (rfl) (by first | exact (bI_t ⟨Int32.not_lt.mp c_2, Int32.not_lt.mp c_7⟩).symm | exact (bI_f (fun h => absurd h.2 (Int32.not_le.mpr c_7))).symm | exact (bI_f (fun h => absurd h.1 (Int32.not_le.mpr c_2))).symm) dX4_isWithin_15
  · refine lv_iload_n hx hb dX4_isWithin_5 rfl (lv_at hl 0 rfl) ?_
    refine lv_iload_n hx hb dX4_isWithin_6 rfl (lv_at hl 2 rfl) ?_
    refine lv_icmp_gt (tgt := 14) hx hb dX4_isWithin_7 (by decide) (fun c_7 => ?_) (fun c_7 => ?_)
    · refine lv_iconst (v := 0) hx hb dX4_isWithin_14 (by decide) ?_
      exact k_endR (ty := .boolean) hx hb hr hlocks (rfl) (by first | exact (bI_t ⟨Int32.not_lt.mp c_2, Int32.not_lt.mp c_7⟩).symm | exact (bI_f (fun h => absurd h.2 (Int32.not_le.mpr c_7))).symm | exact (bI_f (fun h => absurd h.1 (Int32.not_le.mpr c_2))).symm) dX4_isWithin_15
    · refine lv_iconst (v := 1) hx hb dX4_isWithin_10 (by decide) ?_
      refine lv_goto (tgt := 15) hx hb dX4_isWithin_11 (by decide) ?_
      exact k_endR (ty := .boolean) hx hb hr hlocks (rfl) (by first | exact (bI_t ⟨Int32.not_lt.mp c_2, Int32.not_lt.mp c_7⟩).symm | exact (bI_f (fun h => absurd h.2 (Int32.not_le.mpr c_7))).symm | exact (bI_f (fun h => absurd h.1 (Int32.not_le.mpr c_2))).symm) dX4_isWithin_15

set_option maxHeartbeats 4000000 in
set_option maxRecDepth 100000 in
theorem c_X0_lane (l : Launch) (q : Nat) (w : Int32) (hq : q < 24) : kPs l yX0_lane wsX0_lane ({ frames := 0, cells := 0, slots := 0, locals := 0 }) [.int (nI q), .int w] (fun r => r = nI (fLane w q)) := by
  refine Met.ofW (cc := cX0_lane) (maxL := 2) (ret := (some .int)) (by decide) rfl ?_
  intro p e s m args below meth c s₁ B hml hv
  obtain ⟨rfl, -⟩ := hv
  have hx := B.exec
  have hb := B.bytes
  have hr := B.returns
  have hts := atoms_spec (ws := wsX0_lane) B.pre
  have hown : s.vm.findClass RX0 = some m.cls := findClass_of_methodNamed B.named
  have hlocks := B.notSynchronized
  have hl := lv_entry ([.int (nI q), .int w]) (n := 2) (Nat.le_of_ble_eq_true rfl)
  rw [lg_entry_eq]
  generalize (lg_sl ([.int (nI q), .int w]) ++ List.replicate (2 - (lg_sl ([.int (nI q), .int w])).length) Slot.unset).toArray = ls at hl ⊢
  have hl : lv_has ls 2 [(0, .int (nI q)), (1, .int w)] := hl
  refine lv_iload_n hx hb dX0_lane_0 rfl (lv_at hl 1 rfl) ?_
  refine lv_if_eq (tgt := 11) hx hb dX0_lane_1 (by decide) (fun c_1 => ?_) (fun c_1 => ?_)
  · refine lv_iload_n hx hb dX0_lane_11 rfl (lv_at hl 0 rfl) ?_
    refine lv_bipush (v := 6) hx hb dX0_lane_12 (by decide) ?_
    refine lv_irem hx hb dX0_lane_14 (by decide) ?_
    exact k_endR (ty := .int) hx hb hr hlocks (rfl) (by unfold fLane; first | (rw [if_pos c_1]; exact nI_rm (by omega)) | (rw [if_neg c_1]; exact nI_dm (by omega))) dX0_lane_15
  · refine lv_iload_n hx hb dX0_lane_4 rfl (lv_at hl 0 rfl) ?_
    refine lv_bipush (v := 6) hx hb dX0_lane_5 (by decide) ?_
    refine lv_idiv hx hb dX0_lane_7 (by decide) ?_
    refine lv_goto (tgt := 15) hx hb dX0_lane_8 (by decide) ?_
    exact k_endR (ty := .int) hx hb hr hlocks (rfl) (by unfold fLane; first | (rw [if_pos c_1]; exact nI_rm (by omega)) | (rw [if_neg c_1]; exact nI_dm (by omega))) dX0_lane_15

set_option maxHeartbeats 4000000 in
set_option maxRecDepth 100000 in
theorem c_X0_placesAhead (l : Launch) (q : Nat) (w : Int32) (hq : q < 24) : kPs l yX0_placesAhead wsX0_placesAhead ({ frames := 0, cells := 0, slots := 0, locals := 0 }) [.int (nI q), .int w] (fun r => r = nI (fAhd w q)) := by
  refine Met.ofW (cc := cX0_placesAhead) (maxL := 2) (ret := (some .int)) (by decide) rfl ?_
  intro p e s m args below meth c s₁ B hml hv
  obtain ⟨rfl, -⟩ := hv
  have hx := B.exec
  have hb := B.bytes
  have hr := B.returns
  have hts := atoms_spec (ws := wsX0_placesAhead) B.pre
  have hown : s.vm.findClass RX0 = some m.cls := findClass_of_methodNamed B.named
  have hlocks := B.notSynchronized
  have hl := lv_entry ([.int (nI q), .int w]) (n := 2) (Nat.le_of_ble_eq_true rfl)
  rw [lg_entry_eq]
  generalize (lg_sl ([.int (nI q), .int w]) ++ List.replicate (2 - (lg_sl ([.int (nI q), .int w])).length) Slot.unset).toArray = ls at hl ⊢
  have hl : lv_has ls 2 [(0, .int (nI q)), (1, .int w)] := hl
  refine lv_iload_n hx hb dX0_placesAhead_0 rfl (lv_at hl 1 rfl) ?_
  refine lv_if_eq (tgt := 11) hx hb dX0_placesAhead_1 (by decide) (fun c_1 => ?_) (fun c_1 => ?_)
  · refine lv_iload_n hx hb dX0_placesAhead_11 rfl (lv_at hl 0 rfl) ?_
    refine lv_bipush (v := 6) hx hb dX0_placesAhead_12 (by decide) ?_
    refine lv_idiv hx hb dX0_placesAhead_14 (by decide) ?_
    exact k_endR (ty := .int) hx hb hr hlocks (rfl) (by unfold fAhd; first | (rw [if_pos c_1]; exact nI_dm (by omega)) | (rw [if_neg c_1]; exact nI_rm (by omega))) dX0_placesAhead_15
  · refine lv_iload_n hx hb dX0_placesAhead_4 rfl (lv_at hl 0 rfl) ?_
    refine lv_bipush (v := 6) hx hb dX0_placesAhead_5 (by decide) ?_
    refine lv_irem hx hb dX0_placesAhead_7 (by decide) ?_
    refine lv_goto (tgt := 15) hx hb dX0_placesAhead_8 (by decide) ?_
    exact k_endR (ty := .int) hx hb hr hlocks (rfl) (by unfold fAhd; first | (rw [if_pos c_1]; exact nI_dm (by omega)) | (rw [if_neg c_1]; exact nI_rm (by omega))) dX0_placesAhead_15

set_option maxHeartbeats 4000000 in
set_option maxRecDepth 100000 in
theorem c_X0_takenByWake (l : Launch) (v : Int32) (d : Nat) (hd : d < 6) : kPs l yX0_takenByWake wsX0_takenByWake ({ frames := 0, cells := 0, slots := 0, locals := 0 }) [.int v, .int (nI d)] (fun r => r = fTaken v d) := by
  refine Met.ofW (cc := cX0_takenByWake) (maxL := 3) (ret := (some .int)) (by decide) rfl ?_
  intro p e s m args below meth c s₁ B hml hv
  obtain ⟨rfl, -⟩ := hv
  have hx := B.exec
  have hb := B.bytes
  have hr := B.returns
  have hts := atoms_spec (ws := wsX0_takenByWake) B.pre
  have hown : s.vm.findClass RX0 = some m.cls := findClass_of_methodNamed B.named
  have hlocks := B.notSynchronized
  have hl := lv_entry ([.int v, .int (nI d)]) (n := 3) (Nat.le_of_ble_eq_true rfl)
  rw [lg_entry_eq]
  generalize (lg_sl ([.int v, .int (nI d)]) ++ List.replicate (3 - (lg_sl ([.int v, .int (nI d)])).length) Slot.unset).toArray = ls at hl ⊢
  have hl : lv_has ls 3 [(0, .int v), (1, .int (nI d))] := hl
  refine lv_bipush (v := 10) hx hb dX0_takenByWake_0 (by decide) ?_
  refine lv_istore_n (lv' := [(2, .int 10), (0, .int v), (1, .int (nI d))]) hx hb dX0_takenByWake_2 rfl hl (by decide) rfl (fun ls hl => ?_)
  refine lv_iload_n hx hb dX0_takenByWake_3 rfl (lv_at hl 2 rfl) ?_
  refine lv_iconst (v := 1) hx hb dX0_takenByWake_4 (by decide) ?_
  refine lv_icmp_ne (tgt := 14) hx hb dX0_takenByWake_5 (by decide) (fun c_5 => ?_) (fun c_5 => ?_)
  · have c_5 : ¬ d = 1 := fun h => c_5 (by rw [h]; rfl)
    refine lv_iload_n hx hb dX0_takenByWake_14 rfl (lv_at hl 2 rfl) ?_
    refine lv_iconst (v := 2) hx hb dX0_takenByWake_15 (by decide) ?_
    refine lv_icmp_ne (tgt := 22) hx hb dX0_takenByWake_16 (by decide) (fun c_16 => ?_) (fun c_16 => ?_)
    · have c_16 : ¬ d = 2 := fun h => c_16 (by rw [h]; rfl)
      refine lv_iload_n hx hb dX0_takenByWake_22 rfl (lv_at hl 1 rfl) ?_
      refine lv_iload_n hx hb dX0_takenByWake_23 rfl (lv_at hl 0 rfl) ?_
      refine lv_imul hx hb dX0_takenByWake_24 ?_
      refine lv_bipush (v := 100) hx hb dX0_takenByWake_25 (by decide) ?_
      refine lv_idiv hx hb dX0_takenByWake_27 (by decide) ?_
      exact k_endR (ty := .int) hx hb hr hlocks (rfl) (by unfold fTaken fWake; first | (rw [if_pos c_5]; done) | (rw [if_neg c_5, if_pos c_16]; done) | (rw [if_neg c_5, if_neg c_16]; done)) dX0_takenByWake_28
    · have c_16 : d = 2 := (nI_eq (by omega) (by decide)).mp c_16
      refine lv_bipush (v := 20) hx hb dX0_takenByWake_19 (by decide) ?_
      refine lv_istore_n (lv' := [(2, .int 20), (0, .int v), (1, .int (nI d))]) hx hb dX0_takenByWake_21 rfl hl (by decide) rfl (fun ls hl => ?_)
      refine lv_iload_n hx hb dX0_takenByWake_22 rfl (lv_at hl 1 rfl) ?_
      refine lv_iload_n hx hb dX0_takenByWake_23 rfl (lv_at hl 0 rfl) ?_
      refine lv_imul hx hb dX0_takenByWake_24 ?_
      refine lv_bipush (v := 100) hx hb dX0_takenByWake_25 (by decide) ?_
      refine lv_idiv hx hb dX0_takenByWake_27 (by decide) ?_
      exact k_endR (ty := .int) hx hb hr hlocks (rfl) (by unfold fTaken fWake; first | (rw [if_pos c_5]; done) | (rw [if_neg c_5, if_pos c_16]; done) | (rw [if_neg c_5, if_neg c_16]; done)) dX0_takenByWake_28
  · have c_5 : d = 1 := (nI_eq (by omega) (by decide)).mp c_5
    refine lv_bipush (v := 30) hx hb dX0_takenByWake_8 (by decide) ?_
    refine lv_istore_n (lv' := [(2, .int 30), (0, .int v), (1, .int (nI d))]) hx hb dX0_takenByWake_10 rfl hl (by decide) rfl (fun ls hl => ?_)
    refine lv_goto (tgt := 22) hx hb dX0_takenByWake_11 (by decide) ?_
    refine lv_iload_n hx hb dX0_takenByWake_22 rfl (lv_at hl 1 rfl) ?_
    refine lv_iload_n hx hb dX0_takenByWake_23 rfl (lv_at hl 0 rfl) ?_
    refine lv_imul hx hb dX0_takenByWake_24 ?_
    refine lv_bipush (v := 100) hx hb dX0_takenByWake_25 (by decide) ?_
    refine lv_idiv hx hb dX0_takenByWake_27 (by decide) ?_
    exact k_endR (ty := .int) hx hb hr hlocks (rfl) (by unfold fTaken fWake; first | (rw [if_pos c_5]; done) | (rw [if_neg c_5, if_pos c_16]; done) | (rw [if_neg c_5, if_neg c_16]; done)) dX0_takenByWake_28

set_option maxHeartbeats 4000000 in
set_option maxRecDepth 100000 in
theorem c_X0_powerOfWind (l : Launch) (D : va_G) (cI cZ : ClassId) (v : Int32) : kPK l yX0_powerOfWind wsX0_powerOfWind ({ frames := 1, cells := 0, slots := 0, locals := 22 }) [.int v] D cI cZ (fun r => r = fPow v) := by
  refine Met.ofW (cc := cX0_powerOfWind) (maxL := 1) (ret := (some .int)) (by decide) rfl ?_
  intro p e s m args below meth c s₁ B hml hv
  obtain ⟨rfl, hK⟩ := hv
  have hx := B.exec
  have hb := B.bytes
  have hr := B.returns
  have hts := atoms_spec (ws := wsX0_powerOfWind) B.pre
  have hown : s.vm.findClass RX0 = some m.cls := findClass_of_methodNamed B.named
  have hlocks := B.notSynchronized
  have hl := lv_entry ([.int v]) (n := 1) (Nat.le_of_ble_eq_true rfl)
  rw [lg_entry_eq]
  generalize (lg_sl ([.int v]) ++ List.replicate (1 - (lg_sl ([.int v])).length) Slot.unset).toArray = ls at hl ⊢
  have hl : lv_has ls 1 [(0, .int v)] := hl
  refine lv_iload_n hx hb dX0_powerOfWind_0 rfl (lv_at hl 0 rfl) ?_
  refine lv_iconst (v := 4) hx hb dX0_powerOfWind_1 (by decide) ?_
  refine lv_bipush (v := 25) hx hb dX0_powerOfWind_2 (by decide) ?_
  refine k_psN (As := [.int v, .int 4, .int 25]) (rest := []) (nL := 1) ⟨hx, hb, hml, hown, hts⟩ (c_X4_isWithin l v 4 25) ⟨va_cnB 3 hts gX0_powerOfWind_X4_isWithin_n32 rfl rfl rfl hK.2 (hts (.initialized RX4) (by decide +kernel)) (by decide +kernel) ⟨Nat.le_of_ble_eq_true rfl, Nat.le_of_ble_eq_true rfl⟩, hts (.static yX4_isWithin) (by decide +kernel), trivial⟩ rfl hl.1 rfl (Nat.le_of_ble_eq_true rfl) dX0_powerOfWind_4 ⟨Nat.zero_le _, Nat.zero_le _⟩ (fun r9 hr9 => ?_)
  subst hr9
  refine lv_if_ne (tgt := 12) hx hb dX0_powerOfWind_7 (by decide) (fun c_7 => ?_) (fun c_7 => ?_)
  · have c_7 := bI_n c_7
    refine lv_iload_n hx hb dX0_powerOfWind_12 rfl (lv_at hl 0 rfl) ?_
    refine lv_iload_n hx hb dX0_powerOfWind_13 rfl (lv_at hl 0 rfl) ?_
    refine lv_imul hx hb dX0_powerOfWind_14 ?_
    refine lv_iload_n hx hb dX0_powerOfWind_15 rfl (lv_at hl 0 rfl) ?_
    refine lv_imul hx hb dX0_powerOfWind_16 ?_
    refine lv_sipush (v := 2000) hx hb dX0_powerOfWind_17 (by decide) ?_
    refine va_mmin hx hb (hml.trans hl.1.symm) hown (hts (.methodLink RX0 78 Lib.Math.min.name) (by decide +kernel)) (hts (.static Lib.Math.min.name) (by decide +kernel)) (hts (.initialized "java/lang/Math") (by decide +kernel)) (hts (.code Lib.Math.min.name Lib.Math.min.code 2 (some .int)) (by decide +kernel)) (Nat.le_of_ble_eq_true rfl) (Nat.le_of_ble_eq_true rfl) (Nat.zero_le _) (Nat.zero_le _) dX0_powerOfWind_20 ?_
    exact k_endR (ty := .int) hx hb hr hlocks (rfl) (by unfold fPow; rw [if_pos c_7]) dX0_powerOfWind_23
  · have c_7 := bI_0 c_7
    refine lv_iconst (v := 0) hx hb dX0_powerOfWind_10 (by decide) ?_
    exact k_endR (ty := .int) hx hb hr hlocks (rfl) (by unfold fPow; rw [if_neg c_7]) dX0_powerOfWind_11
