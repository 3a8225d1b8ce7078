set_option maxHeartbeats 4000000 in
set_option maxRecDepth 100000 in
theorem c_X0_has (l : Launch) (D : va_G) (a : Nat → Nat) (cI cZ : ClassId) (ta : Nat → Int32) (pl : Nat → Int32) (br : Nat → Int32) (st : Nat → Int32) (md : Nat → Int32) (bc : Int32) (n : Nat) (x : Int32) (hn : n ≤ 12) : kRd l yX0_has wsX0_has ({ frames := 1, cells := 0, slots := 0, locals := 22 }) [.ref (a 5), .int x] D cI cZ (wF a cI cZ ta pl br st md (nI n) bc) (fun r => r = bI (hasT n x)) := by
  refine Met.ofW (cc := cX0_has) (maxL := 2) (ret := (some .boolean)) (by decide) rfl ?_
  intro p e s m args below meth c s₁ B hml hv
  obtain ⟨rfl, hP, hK⟩ := hv
  have hx := B.exec
  have hb := B.bytes
  have hr := B.returns
  have hts := atoms_spec (ws := wsX0_has) B.pre
  have hown : s.vm.findClass RX0 = some m.cls := findClass_of_methodNamed B.named
  have hlocks := B.notSynchronized
  have hl := lv_entry ([.ref (a 5), .int x]) (n := 2) (Nat.le_of_ble_eq_true rfl)
  rw [lg_entry_eq]
  generalize (lg_sl ([.ref (a 5), .int x]) ++ List.replicate (2 - (lg_sl ([.ref (a 5), .int x])).length) Slot.unset).toArray = ls at hl ⊢
  have hl : lv_has ls 2 [(0, .ref (a 5)), (1, .int x)] := hl
  refine lv_iload_n hx hb dX0_has_0 rfl (lv_at hl 1 rfl) ?_
  refine lv_iconst (v := 0) hx hb dX0_has_1 (by decide) ?_
  refine lv_aload_n hx hb dX0_has_2 rfl (lv_at hl 0 rfl) ?_
  refine va_get (D := D) (ci := 0) (v := .int (nI n)) (C := RX0) (T := TX0) (N := 7) hx hb hts (by decide +kernel) hown hK.1 hP 0 rfl rfl 5 (by decide) (hts (.fieldLink RX0 28 "Turbineorchard$Field" "count" "I") (by decide +kernel)) (fun _ h9 => h9) rfl dX0_has_3 ?_
  refine lv_iconst (v := 1) hx hb dX0_has_6 (by decide) ?_
  refine lv_isub hx hb dX0_has_7 ?_
  refine k_psN (As := [.int x, .int 0, .int ((nI n) - 1)]) (rest := []) (nL := 2) ⟨hx, hb, hml, hown, hts⟩ (c_X4_isWithin l x 0 ((nI n) - 1)) ⟨va_cnB 3 hts gX0_has_X4_isWithin_n32 rfl rfl rfl hK.2 (hts (.initialized RX4) (by decide +kernel)) (by decide +kernel) ⟨Nat.le_of_ble_eq_true rfl, Nat.le_of_ble_eq_true rfl⟩, hts (.static yX4_isWithin) (by decide +kernel), trivial⟩ rfl hl.1 rfl (Nat.le_of_ble_eq_true rfl) dX0_has_8 ⟨Nat.zero_le _, Nat.zero_le _⟩ (fun r9 hr9 => ?_)
  subst hr9
  exact k_endR (ty := .boolean) hx hb hr hlocks (bI_z) (rfl) dX0_has_11

set_option maxHeartbeats 4000000 in
set_option maxRecDepth 100000 in
theorem c_X0_hasRoomAt (l : Launch) (D : va_G) (a : Nat → Nat) (cI cZ : ClassId) (ta : Nat → Int32) (pl : Nat → Int32) (br : Nat → Int32) (st : Nat → Int32) (md : Nat → Int32) (bc : Int32) (n : Nat) (q : Nat) (hn : n ≤ 12) (hq : q < 24) : kRd l yX0_hasRoomAt wsX0_hasRoomAt ({ frames := 0, cells := 0, slots := 0, locals := 0 }) [.ref (a 5), .int (nI q)] D cI cZ (wF a cI cZ ta pl br st md (nI n) bc) (fun r => r = bI (ta q = -1 ∧ n < 12)) := by
  refine Met.ofW (cc := cX0_hasRoomAt) (maxL := 2) (ret := (some .boolean)) (by decide) rfl ?_
  intro p e s m args below meth c s₁ B hml hv
  obtain ⟨rfl, hP, hK⟩ := hv
  have hx := B.exec
  have hb := B.bytes
  have hr := B.returns
  have hts := atoms_spec (ws := wsX0_hasRoomAt) B.pre
  have hown : s.vm.findClass RX0 = some m.cls := findClass_of_methodNamed B.named
  have hlocks := B.notSynchronized
  have hl := lv_entry ([.ref (a 5), .int (nI q)]) (n := 2) (Nat.le_of_ble_eq_true rfl)
  rw [lg_entry_eq]
  generalize (lg_sl ([.ref (a 5), .int (nI q)]) ++ List.replicate (2 - (lg_sl ([.ref (a 5), .int (nI q)])).length) Slot.unset).toArray = ls at hl ⊢
  have hl : lv_has ls 2 [(0, .ref (a 5)), (1, .int (nI q))] := hl
  refine lv_aload_n hx hb dX0_hasRoomAt_0 rfl (lv_at hl 0 rfl) ?_
  refine va_get (D := D) (ci := 0) (v := .ref (a 6)) (C := RX0) (T := TX0) (N := 7) hx hb hts (by decide +kernel) hown hK.1 hP 0 rfl rfl 0 (by decide) (hts (.fieldLink RX0 9 "Turbineorchard$Field" "turbineAt" "[I") (by decide +kernel)) (fun _ h9 => h9) rfl dX0_hasRoomAt_1 ?_
  refine lv_iload_n hx hb dX0_hasRoomAt_4 rfl (lv_at hl 1 rfl) ?_
  refine k_iald hx hb hK.1 hP 1 0 rfl rfl q (rfl) (by omega) (by decide) dX0_hasRoomAt_5 ?_
  refine lv_iconst (v := (-1)) hx hb dX0_hasRoomAt_6 (by decide) ?_
  refine lv_icmp_ne (tgt := 23) hx hb dX0_hasRoomAt_7 (by decide) (fun c_7 => ?_) (fun c_7 => ?_)
  · refine lv_iconst (v := 0) hx hb dX0_hasRoomAt_23 (by decide) ?_
    exact k_endR (ty := .boolean) hx hb hr hlocks (rfl) ((bI_f (fun h => c_7 h.1)).symm) dX0_hasRoomAt_24
  · refine lv_aload_n hx hb dX0_hasRoomAt_10 rfl (lv_at hl 0 rfl) ?_
    refine va_get (D := D) (ci := 0) (v := .int (nI n)) (C := RX0) (T := TX0) (N := 7) hx hb hts (by decide +kernel) hown hK.1 hP 0 rfl rfl 5 (by decide) (hts (.fieldLink RX0 28 "Turbineorchard$Field" "count" "I") (by decide +kernel)) (fun _ h9 => h9) rfl dX0_hasRoomAt_11 ?_
    refine lv_bipush (v := 12) hx hb dX0_hasRoomAt_14 (by decide) ?_
    refine lv_icmp_ge (tgt := 23) hx hb dX0_hasRoomAt_16 (by decide) (fun c_16 => ?_) (fun c_16 => ?_)
    · have c_16 : 12 ≤ n := (nI_leI (a := 12) (b := n) (by omega) (by omega)).mp c_16
      refine lv_iconst (v := 0) hx hb dX0_hasRoomAt_23 (by decide) ?_
      exact k_endR (ty := .boolean) hx hb hr hlocks (rfl) ((bI_f (fun h => absurd h.2 (Nat.not_lt.mpr c_16))).symm) dX0_hasRoomAt_24
    · have c_16 : n < 12 := Nat.lt_of_not_le (fun h => c_16 ((nI_leI (a := 12) (b := n) (by omega) (by omega)).mpr h))
      refine lv_iconst (v := 1) hx hb dX0_hasRoomAt_19 (by decide) ?_
      refine lv_goto (tgt := 24) hx hb dX0_hasRoomAt_20 (by decide) ?_
      exact k_endR (ty := .boolean) hx hb hr hlocks (rfl) ((bI_t ⟨c_7, c_16⟩).symm) dX0_hasRoomAt_24

set_option maxHeartbeats 4000000 in
set_option maxRecDepth 100000 in
theorem c_X0_build (l : Launch) (D : va_G) (a : Nat → Nat) (cI cZ : ClassId) (sz : Nat) (ta : Nat → Int32) (pl : Nat → Int32) (br : Nat → Int32) (st : Nat → Int32) (md : Nat → Int32) (bc : Int32) (n : Nat) (q : Nat) (hn : n ≤ 12) (hq : q < 24) (hn2 : n < 12) : kUi l yX0_build wsX0_build ({ frames := 0, cells := 0, slots := 0, locals := 0 }) [.ref (a 5), .int (nI q)] D cI cZ sz (wF a cI cZ ta pl br st md (nI n) bc) (wF a cI cZ (upd ta q (nI n)) (upd pl n (nI q)) br st md (nI (n + 1)) bc) (fun r => r = nI n) := by
  refine Met.ofW (cc := cX0_build) (maxL := 3) (ret := (some .int)) (by decide) rfl ?_
  intro p e s m args below meth c s₁ B hml hv
  obtain ⟨rfl, hsz, hP, hK, hD0⟩ := hv
  have hx := B.exec
  have hb := B.bytes
  have hr := B.returns
  have hts := atoms_spec (ws := wsX0_build) B.pre
  have hown : s.vm.findClass RX0 = some m.cls := findClass_of_methodNamed B.named
  have hlocks := B.notSynchronized
  subst hsz
  have hD := hD0.self (sz := s.heap.size)
  generalize hAe : va_A (wF a cI cZ ta pl br st md (nI n) bc) s.heap.size = A at hD ⊢
  have hA : ∀ q : Nat, s.heap.size ≤ q → A q := fun q h => by rw [← hAe]; exact Or.inr h
  have hS : va_S A s.heap s.heap [] := va_S.rf
  have hl := lv_entry ([.ref (a 5), .int (nI q)]) (n := 3) (Nat.le_of_ble_eq_true rfl)
  rw [lg_entry_eq]
  generalize (lg_sl ([.ref (a 5), .int (nI q)]) ++ List.replicate (3 - (lg_sl ([.ref (a 5), .int (nI q)])).length) Slot.unset).toArray = ls at hl ⊢
  have hl : lv_has ls 3 [(0, .ref (a 5)), (1, .int (nI q))] := hl
  refine lv_aload_n hx hb dX0_build_0 rfl (lv_at hl 0 rfl) ?_
  refine va_get (D := D) (ci := 0) (v := .int (nI n)) (C := RX0) (T := TX0) (N := 7) hx hb hts (by decide +kernel) hown hK.1 hP 0 rfl rfl 5 (by decide) (hts (.fieldLink RX0 28 "Turbineorchard$Field" "count" "I") (by decide +kernel)) (fun _ h9 => h9) rfl dX0_build_1 ?_
  refine lv_istore_n (lv' := [(2, .int (nI n)), (0, .ref (a 5)), (1, .int (nI q))]) hx hb dX0_build_4 rfl hl (by decide) rfl (fun ls hl => ?_)
  refine lv_aload_n hx hb dX0_build_5 rfl (lv_at hl 1 rfl) ?_
  refine va_get (D := D) (ci := 0) (v := .ref (a 6)) (C := RX0) (T := TX0) (N := 7) hx hb hts (by decide +kernel) hown hK.1 hP 0 rfl rfl 0 (by decide) (hts (.fieldLink RX0 9 "Turbineorchard$Field" "turbineAt" "[I") (by decide +kernel)) (fun _ h9 => h9) rfl dX0_build_6 ?_
  refine lv_iload_n hx hb dX0_build_9 rfl (lv_at hl 2 rfl) ?_
  refine lv_iload_n hx hb dX0_build_10 rfl (lv_at hl 0 rfl) ?_
  refine k_iast hx hb hK.1 hP hD hS 1 0 rfl rfl q (rfl) (by omega) (by decide) dX0_build_11 (fun H locs hP hD hS => ?_)
  have hP : va_P D vwCl (wF a cI cZ (upd ta q (nI n)) pl br st md (nI n) bc) H := hP
  have hD : va_D A (wF a cI cZ (upd ta q (nI n)) pl br st md (nI n) bc) := hD
  refine lv_aload_n hx hb dX0_build_12 rfl (lv_at hl 1 rfl) ?_
  refine va_get (D := D) (ci := 0) (v := .ref (a 7)) (C := RX0) (T := TX0) (N := 7) hx hb hts (by decide +kernel) hown hK.1 hP 0 rfl rfl 1 (by decide) (hts (.fieldLink RX0 15 "Turbineorchard$Field" "places" "[I") (by decide +kernel)) (fun _ h9 => h9) rfl dX0_build_13 ?_
  refine lv_iload_n hx hb dX0_build_16 rfl (lv_at hl 0 rfl) ?_
  refine lv_iload_n hx hb dX0_build_17 rfl (lv_at hl 2 rfl) ?_
  refine k_iast hx hb hK.1 hP hD hS 2 0 rfl rfl n (rfl) (by omega) (by decide) dX0_build_18 (fun H locs hP hD hS => ?_)
  have hP : va_P D vwCl (wF a cI cZ (upd ta q (nI n)) (upd pl n (nI q)) br st md (nI n) bc) H := hP
  have hD : va_D A (wF a cI cZ (upd ta q (nI n)) (upd pl n (nI q)) br st md (nI n) bc) := hD
  refine lv_aload_n hx hb dX0_build_19 rfl (lv_at hl 1 rfl) ?_
  refine lv_dup hx hb dX0_build_20 rfl ?_
  refine va_get (D := D) (ci := 0) (v := .int (nI n)) (C := RX0) (T := TX0) (N := 7) hx hb hts (by decide +kernel) hown hK.1 hP 0 rfl rfl 5 (by decide) (hts (.fieldLink RX0 28 "Turbineorchard$Field" "count" "I") (by decide +kernel)) (fun _ h9 => h9) rfl dX0_build_21 ?_
  refine lv_iconst (v := 1) hx hb dX0_build_24 (by decide) ?_
  refine lv_iadd hx hb dX0_build_25 ?_
  refine k_rw (y := nI (n + 1)) (nI_1 n) ?_
  refine va_put (D := D) (ci := 0) (v := .int (nI (n + 1))) (ty := .int) (C := RX0) (T := TX0) (N := 7) hx hb hts (by decide +kernel) tyX0 tyX0_ok nmX0 hown hK.1 hP hD hS 0 rfl rfl 5 (by decide) (hts (.fieldLink RX0 28 "Turbineorchard$Field" "count" "I") (by decide +kernel)) (fun _ h9 => h9) rfl (by decide +kernel) rfl rfl (Nat.le_of_ble_eq_true rfl) dX0_build_26 (fun H locs hP hD hS => ?_)
  have hP : va_P D vwCl (wF a cI cZ (upd ta q (nI n)) (upd pl n (nI q)) br st md (nI (n + 1)) bc) H := hP
  have hD : va_D A (wF a cI cZ (upd ta q (nI n)) (upd pl n (nI q)) br st md (nI (n + 1)) bc) := hD
  refine lv_iload_n hx hb dX0_build_29 rfl (lv_at hl 0 rfl) ?_
  exact k_endI (ty := .int) hx hb hr hlocks (rfl) (rfl) hP hD hS dX0_build_30

set_option maxHeartbeats 4000000 in
set_option maxRecDepth 100000 in
theorem c_X0_placeOf (l : Launch) (D : va_G) (a : Nat → Nat) (cI cZ : ClassId) (ta : Nat → Int32) (pl : Nat → Int32) (br : Nat → Int32) (st : Nat → Int32) (md : Nat → Int32) (bc : Int32) (n : Nat) (k : Nat) (hn : n ≤ 12) (hk : k < n) : kRd l yX0_placeOf wsX0_placeOf ({ frames := 0, cells := 0, slots := 0, locals := 0 }) [.ref (a 5), .int (nI k)] D cI cZ (wF a cI cZ ta pl br st md (nI n) bc) (fun r => r = pl k) := by
  refine Met.ofW (cc := cX0_placeOf) (maxL := 2) (ret := (some .int)) (by decide) rfl ?_
  intro p e s m args below meth c s₁ B hml hv
  obtain ⟨rfl, hP, hK⟩ := hv
  have hx := B.exec
  have hb := B.bytes
  have hr := B.returns
  have hts := atoms_spec (ws := wsX0_placeOf) B.pre
  have hown : s.vm.findClass RX0 = some m.cls := findClass_of_methodNamed B.named
  have hlocks := B.notSynchronized
  have hl := lv_entry ([.ref (a 5), .int (nI k)]) (n := 2) (Nat.le_of_ble_eq_true rfl)
  rw [lg_entry_eq]
  generalize (lg_sl ([.ref (a 5), .int (nI k)]) ++ List.replicate (2 - (lg_sl ([.ref (a 5), .int (nI k)])).length) Slot.unset).toArray = ls at hl ⊢
  have hl : lv_has ls 2 [(0, .ref (a 5)), (1, .int (nI k))] := hl
  refine lv_aload_n hx hb dX0_placeOf_0 rfl (lv_at hl 0 rfl) ?_
  refine va_get (D := D) (ci := 0) (v := .ref (a 7)) (C := RX0) (T := TX0) (N := 7) hx hb hts (by decide +kernel) hown hK.1 hP 0 rfl rfl 1 (by decide) (hts (.fieldLink RX0 15 "Turbineorchard$Field" "places" "[I") (by decide +kernel)) (fun _ h9 => h9) rfl dX0_placeOf_1 ?_
  refine lv_iload_n hx hb dX0_placeOf_4 rfl (lv_at hl 1 rfl) ?_
  refine k_iald hx hb hK.1 hP 2 0 rfl rfl k (rfl) (by omega) (by decide) dX0_placeOf_5 ?_
  exact k_endR (ty := .int) hx hb hr hlocks (rfl) (rfl) dX0_placeOf_6

set_option maxHeartbeats 4000000 in
set_option maxRecDepth 100000 in
theorem c_X0_isBroken (l : Launch) (D : va_G) (a : Nat → Nat) (cI cZ : ClassId) (ta : Nat → Int32) (pl : Nat → Int32) (br : Nat → Int32) (st : Nat → Int32) (md : Nat → Int32) (bc : Int32) (n : Nat) (k : Nat) (hn : n ≤ 12) (hk : k < n) (hbr : br k = 0 ∨ br k = 1) : kRd l yX0_isBroken wsX0_isBroken ({ frames := 0, cells := 0, slots := 0, locals := 0 }) [.ref (a 5), .int (nI k)] D cI cZ (wF a cI cZ ta pl br st md (nI n) bc) (fun r => r = br k) := by
  refine Met.ofW (cc := cX0_isBroken) (maxL := 2) (ret := (some .boolean)) (by decide) rfl ?_
  intro p e s m args below meth c s₁ B hml hv
  obtain ⟨rfl, hP, hK⟩ := hv
  have hx := B.exec
  have hb := B.bytes
  have hr := B.returns
  have hts := atoms_spec (ws := wsX0_isBroken) B.pre
  have hown : s.vm.findClass RX0 = some m.cls := findClass_of_methodNamed B.named
  have hlocks := B.notSynchronized
  have hl := lv_entry ([.ref (a 5), .int (nI k)]) (n := 2) (Nat.le_of_ble_eq_true rfl)
  rw [lg_entry_eq]
  generalize (lg_sl ([.ref (a 5), .int (nI k)]) ++ List.replicate (2 - (lg_sl ([.ref (a 5), .int (nI k)])).length) Slot.unset).toArray = ls at hl ⊢
  have hl : lv_has ls 2 [(0, .ref (a 5)), (1, .int (nI k))] := hl
  refine lv_aload_n hx hb dX0_isBroken_0 rfl (lv_at hl 0 rfl) ?_
  refine va_get (D := D) (ci := 0) (v := .ref (a 8)) (C := RX0) (T := TX0) (N := 7) hx hb hts (by decide +kernel) hown hK.1 hP 0 rfl rfl 2 (by decide) (hts (.fieldLink RX0 18 "Turbineorchard$Field" "broken" "[Z") (by decide +kernel)) (fun _ h9 => h9) rfl dX0_isBroken_1 ?_
  refine lv_iload_n hx hb dX0_isBroken_4 rfl (lv_at hl 1 rfl) ?_
  refine k_zald hx hb hK.1 hP 3 1 rfl rfl k (rfl) (by omega) (by decide) dX0_isBroken_5 ?_
  exact k_endR (ty := .boolean) hx hb hr hlocks (by rcases hbr with h | h <;> rw [h] <;> rfl) (rfl) dX0_isBroken_6

set_option maxHeartbeats 4000000 in
set_option maxRecDepth 100000 in
theorem c_X0_countBroken (l : Launch) (D : va_G) (a : Nat → Nat) (cI cZ : ClassId) (ta : Nat → Int32) (pl : Nat → Int32) (br : Nat → Int32) (st : Nat → Int32) (md : Nat → Int32) (bc : Int32) (n : Nat) (hn : n ≤ 12) : kRd l yX0_countBroken wsX0_countBroken ({ frames := 0, cells := 0, slots := 0, locals := 0 }) [.ref (a 5)] D cI cZ (wF a cI cZ ta pl br st md (nI n) bc) (fun r => r = bc) := by
  refine Met.ofW (cc := cX0_countBroken) (maxL := 1) (ret := (some .int)) (by decide) rfl ?_
  intro p e s m args below meth c s₁ B hml hv
  obtain ⟨rfl, hP, hK⟩ := hv
  have hx := B.exec
  have hb := B.bytes
  have hr := B.returns
  have hts := atoms_spec (ws := wsX0_countBroken) B.pre
  have hown : s.vm.findClass RX0 = some m.cls := findClass_of_methodNamed B.named
  have hlocks := B.notSynchronized
  have hl := lv_entry ([.ref (a 5)]) (n := 1) (Nat.le_of_ble_eq_true rfl)
  rw [lg_entry_eq]
  generalize (lg_sl ([.ref (a 5)]) ++ List.replicate (1 - (lg_sl ([.ref (a 5)])).length) Slot.unset).toArray = ls at hl ⊢
  have hl : lv_has ls 1 [(0, .ref (a 5))] := hl
  refine lv_aload_n hx hb dX0_countBroken_0 rfl (lv_at hl 0 rfl) ?_
  refine va_get (D := D) (ci := 0) (v := .int bc) (C := RX0) (T := TX0) (N := 7) hx hb hts (by decide +kernel) hown hK.1 hP 0 rfl rfl 6 (by decide) (hts (.fieldLink RX0 36 "Turbineorchard$Field" "brokenCount" "I") (by decide +kernel)) (fun _ h9 => h9) rfl dX0_countBroken_1 ?_
  exact k_endR (ty := .int) hx hb hr hlocks (rfl) (rfl) dX0_countBroken_4

set_option maxHeartbeats 4000000 in
set_option maxRecDepth 100000 in
theorem c_X0_madeInAllBy (l : Launch) (D : va_G) (a : Nat → Nat) (cI cZ : ClassId) (ta : Nat → Int32) (pl : Nat → Int32) (br : Nat → Int32) (st : Nat → Int32) (md : Nat → Int32) (bc : Int32) (n : Nat) (k : Nat) (hn : n ≤ 12) (hk : k < n) : kRd l yX0_madeInAllBy wsX0_madeInAllBy ({ frames := 0, cells := 0, slots := 0, locals := 0 }) [.ref (a 5), .int (nI k)] D cI cZ (wF a cI cZ ta pl br st md (nI n) bc) (fun r => r = md k) := by
  refine Met.ofW (cc := cX0_madeInAllBy) (maxL := 2) (ret := (some .int)) (by decide) rfl ?_
  intro p e s m args below meth c s₁ B hml hv
  obtain ⟨rfl, hP, hK⟩ := hv
  have hx := B.exec
  have hb := B.bytes
  have hr := B.returns
  have hts := atoms_spec (ws := wsX0_madeInAllBy) B.pre
  have hown : s.vm.findClass RX0 = some m.cls := findClass_of_methodNamed B.named
  have hlocks := B.notSynchronized
  have hl := lv_entry ([.ref (a 5), .int (nI k)]) (n := 2) (Nat.le_of_ble_eq_true rfl)
  rw [lg_entry_eq]
  generalize (lg_sl ([.ref (a 5), .int (nI k)]) ++ List.replicate (2 - (lg_sl ([.ref (a 5), .int (nI k)])).length) Slot.unset).toArray = ls at hl ⊢
  have hl : lv_has ls 2 [(0, .ref (a 5)), (1, .int (nI k))] := hl
  refine lv_aload_n hx hb dX0_madeInAllBy_0 rfl (lv_at hl 0 rfl) ?_
  refine va_get (D := D) (ci := 0) (v := .ref (a 10)) (C := RX0) (T := TX0) (N := 7) hx hb hts (by decide +kernel) hown hK.1 hP 0 rfl rfl 4 (by decide) (hts (.fieldLink RX0 25 "Turbineorchard$Field" "madeInAll" "[I") (by decide +kernel)) (fun _ h9 => h9) rfl dX0_madeInAllBy_1 ?_
  refine lv_iload_n hx hb dX0_madeInAllBy_4 rfl (lv_at hl 1 rfl) ?_
  refine k_iald hx hb hK.1 hP 5 0 rfl rfl k (rfl) (by omega) (by decide) dX0_madeInAllBy_5 ?_
  exact k_endR (ty := .int) hx hb hr hlocks (rfl) (rfl) dX0_madeInAllBy_6

set_option maxHeartbeats 4000000 in
set_option maxRecDepth 100000 in
theorem c_X0_breakDown (l : Launch) (D : va_G) (a : Nat → Nat) (cI cZ : ClassId) (sz : Nat) (ta : Nat → Int32) (pl : Nat → Int32) (br : Nat → Int32) (st : Nat → Int32) (md : Nat → Int32) (bc : Int32) (n : Nat) (k : Nat) (hn : n ≤ 12) (hk : k < n) : kUv l yX0_breakDown wsX0_breakDown ({ frames := 0, cells := 0, slots := 0, locals := 0 }) [.ref (a 5), .int (nI k)] D cI cZ sz (wF a cI cZ ta pl br st md (nI n) bc) (wF a cI cZ ta pl (upd br k 1) st md (nI n) (bc + 1)) := by
  refine Met.ofW (cc := cX0_breakDown) (maxL := 2) (ret := none) (by decide) rfl ?_
  intro p e s m args below meth c s₁ B hml hv
  obtain ⟨rfl, hsz, hP, hK, hD0⟩ := hv
  have hx := B.exec
  have hb := B.bytes
  have hr := B.returns
  have hts := atoms_spec (ws := wsX0_breakDown) B.pre
  have hown : s.vm.findClass RX0 = some m.cls := findClass_of_methodNamed B.named
  have hlocks := B.notSynchronized
  subst hsz
  have hD := hD0.self (sz := s.heap.size)
  generalize hAe : va_A (wF a cI cZ ta pl br st md (nI n) bc) s.heap.size = A at hD ⊢
  have hA : ∀ q : Nat, s.heap.size ≤ q → A q := fun q h => by rw [← hAe]; exact Or.inr h
  have hS : va_S A s.heap s.heap [] := va_S.rf
  have hl := lv_entry ([.ref (a 5), .int (nI k)]) (n := 2) (Nat.le_of_ble_eq_true rfl)
  rw [lg_entry_eq]
  generalize (lg_sl ([.ref (a 5), .int (nI k)]) ++ List.replicate (2 - (lg_sl ([.ref (a 5), .int (nI k)])).length) Slot.unset).toArray = ls at hl ⊢
  have hl : lv_has ls 2 [(0, .ref (a 5)), (1, .int (nI k))] := hl
  refine lv_aload_n hx hb dX0_breakDown_0 rfl (lv_at hl 0 rfl) ?_
  refine va_get (D := D) (ci := 0) (v := .ref (a 8)) (C := RX0) (T := TX0) (N := 7) hx hb hts (by decide +kernel) hown hK.1 hP 0 rfl rfl 2 (by decide) (hts (.fieldLink RX0 18 "Turbineorchard$Field" "broken" "[Z") (by decide +kernel)) (fun _ h9 => h9) rfl dX0_breakDown_1 ?_
  refine lv_iload_n hx hb dX0_breakDown_4 rfl (lv_at hl 1 rfl) ?_
  refine lv_iconst (v := 1) hx hb dX0_breakDown_5 (by decide) ?_
  refine k_zast hx hb hK.1 hP hD hS 3 1 rfl rfl (rfl) k (rfl) (by omega) (by decide) dX0_breakDown_6 (fun H locs hP hD hS => ?_)
  have hP : va_P D vwCl (wF a cI cZ ta pl (upd br k 1) st md (nI n) bc) H := hP
  have hD : va_D A (wF a cI cZ ta pl (upd br k 1) st md (nI n) bc) := hD
  refine lv_aload_n hx hb dX0_breakDown_7 rfl (lv_at hl 0 rfl) ?_
  refine lv_dup hx hb dX0_breakDown_8 rfl ?_
  refine va_get (D := D) (ci := 0) (v := .int bc) (C := RX0) (T := TX0) (N := 7) hx hb hts (by decide +kernel) hown hK.1 hP 0 rfl rfl 6 (by decide) (hts (.fieldLink RX0 36 "Turbineorchard$Field" "brokenCount" "I") (by decide +kernel)) (fun _ h9 => h9) rfl dX0_breakDown_9 ?_
  refine lv_iconst (v := 1) hx hb dX0_breakDown_12 (by decide) ?_
  refine lv_iadd hx hb dX0_breakDown_13 ?_
  refine va_put (D := D) (ci := 0) (v := .int (bc + 1)) (ty := .int) (C := RX0) (T := TX0) (N := 7) hx hb hts (by decide +kernel) tyX0 tyX0_ok nmX0 hown hK.1 hP hD hS 0 rfl rfl 6 (by decide) (hts (.fieldLink RX0 36 "Turbineorchard$Field" "brokenCount" "I") (by decide +kernel)) (fun _ h9 => h9) rfl (by decide +kernel) rfl rfl (Nat.le_of_ble_eq_true rfl) dX0_breakDown_14 (fun H locs hP hD hS => ?_)
  have hP : va_P D vwCl (wF a cI cZ ta pl (upd br k 1) st md (nI n) (bc + 1)) H := hP
  have hD : va_D A (wF a cI cZ ta pl (upd br k 1) st md (nI n) (bc + 1)) := hD
  exact k_endV (sz := 0) hx hb hr hlocks hP hD hS dX0_breakDown_17

set_option maxHeartbeats 4000000 in
set_option maxRecDepth 100000 in
theorem c_X0_mend (l : Launch) (D : va_G) (a : Nat → Nat) (cI cZ : ClassId) (sz : Nat) (ta : Nat → Int32) (pl : Nat → Int32) (br : Nat → Int32) (st : Nat → Int32) (md : Nat → Int32) (bc : Int32) (n : Nat) (k : Nat) (hn : n ≤ 12) (hk : k < n) : kUv l yX0_mend wsX0_mend ({ frames := 0, cells := 0, slots := 0, locals := 0 }) [.ref (a 5), .int (nI k)] D cI cZ sz (wF a cI cZ ta pl br st md (nI n) bc) (wF a cI cZ ta pl (upd br k 0) st md (nI n) (bc - 1)) := by
  refine Met.ofW (cc := cX0_mend) (maxL := 2) (ret := none) (by decide) rfl ?_
  intro p e s m args below meth c s₁ B hml hv
  obtain ⟨rfl, hsz, hP, hK, hD0⟩ := hv
  have hx := B.exec
  have hb := B.bytes
  have hr := B.returns
  have hts := atoms_spec (ws := wsX0_mend) B.pre
  have hown : s.vm.findClass RX0 = some m.cls := findClass_of_methodNamed B.named
  have hlocks := B.notSynchronized
  subst hsz
  have hD := hD0.self (sz := s.heap.size)
  generalize hAe : va_A (wF a cI cZ ta pl br st md (nI n) bc) s.heap.size = A at hD ⊢
  have hA : ∀ q : Nat, s.heap.size ≤ q → A q := fun q h => by rw [← hAe]; exact Or.inr h
  have hS : va_S A s.heap s.heap [] := va_S.rf
  have hl := lv_entry ([.ref (a 5), .int (nI k)]) (n := 2) (Nat.le_of_ble_eq_true rfl)
  rw [lg_entry_eq]
  generalize (lg_sl ([.ref (a 5), .int (nI k)]) ++ List.replicate (2 - (lg_sl ([.ref (a 5), .int (nI k)])).length) Slot.unset).toArray = ls at hl ⊢
  have hl : lv_has ls 2 [(0, .ref (a 5)), (1, .int (nI k))] := hl
  refine lv_aload_n hx hb dX0_mend_0 rfl (lv_at hl 0 rfl) ?_
  refine va_get (D := D) (ci := 0) (v := .ref (a 8)) (C := RX0) (T := TX0) (N := 7) hx hb hts (by decide +kernel) hown hK.1 hP 0 rfl rfl 2 (by decide) (hts (.fieldLink RX0 18 "Turbineorchard$Field" "broken" "[Z") (by decide +kernel)) (fun _ h9 => h9) rfl dX0_mend_1 ?_
  refine lv_iload_n hx hb dX0_mend_4 rfl (lv_at hl 1 rfl) ?_
  refine lv_iconst (v := 0) hx hb dX0_mend_5 (by decide) ?_
  refine k_zast hx hb hK.1 hP hD hS 3 1 rfl rfl (rfl) k (rfl) (by omega) (by decide) dX0_mend_6 (fun H locs hP hD hS => ?_)
  have hP : va_P D vwCl (wF a cI cZ ta pl (upd br k 0) st md (nI n) bc) H := hP
  have hD : va_D A (wF a cI cZ ta pl (upd br k 0) st md (nI n) bc) := hD
  refine lv_aload_n hx hb dX0_mend_7 rfl (lv_at hl 0 rfl) ?_
  refine lv_dup hx hb dX0_mend_8 rfl ?_
  refine va_get (D := D) (ci := 0) (v := .int bc) (C := RX0) (T := TX0) (N := 7) hx hb hts (by decide +kernel) hown hK.1 hP 0 rfl rfl 6 (by decide) (hts (.fieldLink RX0 36 "Turbineorchard$Field" "brokenCount" "I") (by decide +kernel)) (fun _ h9 => h9) rfl dX0_mend_9 ?_
  refine lv_iconst (v := 1) hx hb dX0_mend_12 (by decide) ?_
  refine lv_isub hx hb dX0_mend_13 ?_
  refine va_put (D := D) (ci := 0) (v := .int (bc - 1)) (ty := .int) (C := RX0) (T := TX0) (N := 7) hx hb hts (by decide +kernel) tyX0 tyX0_ok nmX0 hown hK.1 hP hD hS 0 rfl rfl 6 (by decide) (hts (.fieldLink RX0 36 "Turbineorchard$Field" "brokenCount" "I") (by decide +kernel)) (fun _ h9 => h9) rfl (by decide +kernel) rfl rfl (Nat.le_of_ble_eq_true rfl) dX0_mend_14 (fun H locs hP hD hS => ?_)
  have hP : va_P D vwCl (wF a cI cZ ta pl (upd br k 0) st md (nI n) (bc - 1)) H := hP
  have hD : va_D A (wF a cI cZ ta pl (upd br k 0) st md (nI n) (bc - 1)) := hD
  exact k_endV (sz := 0) hx hb hr hlocks hP hD hS dX0_mend_17

set_option maxHeartbeats 4000000 in
set_option maxRecDepth 100000 in
theorem c_X0_turns (l : Launch) (D : va_G) (a : Nat → Nat) (cI cZ : ClassId) (ta : Nat → Int32) (pl : Nat → Int32) (br : Nat → Int32) (st : Nat → Int32) (md : Nat → Int32) (bc : Int32) (n : Nat) (k : Nat) (hn : n ≤ 12) (hk : k < n) : kRd l yX0_turns wsX0_turns ({ frames := 0, cells := 0, slots := 0, locals := 0 }) [.ref (a 5), .int (nI k)] D cI cZ (wF a cI cZ ta pl br st md (nI n) bc) (fun r => r = bI (br k = 0 ∧ st k = 0)) := by
  refine Met.ofW (cc := cX0_turns) (maxL := 2) (ret := (some .boolean)) (by decide) rfl ?_
  intro p e s m args below meth c s₁ B hml hv
  obtain ⟨rfl, hP, hK⟩ := hv
  have hx := B.exec
  have hb := B.bytes
  have hr := B.returns
  have hts := atoms_spec (ws := wsX0_turns) B.pre
  have hown : s.vm.findClass RX0 = some m.cls := findClass_of_methodNamed B.named
  have hlocks := B.notSynchronized
  have hl := lv_entry ([.ref (a 5), .int (nI k)]) (n := 2) (Nat.le_of_ble_eq_true rfl)
  rw [lg_entry_eq]
  generalize (lg_sl ([.ref (a 5), .int (nI k)]) ++ List.replicate (2 - (lg_sl ([.ref (a 5), .int (nI k)])).length) Slot.unset).toArray = ls at hl ⊢
  have hl : lv_has ls 2 [(0, .ref (a 5)), (1, .int (nI k))] := hl
  refine lv_aload_n hx hb dX0_turns_0 rfl (lv_at hl 0 rfl) ?_
  refine va_get (D := D) (ci := 0) (v := .ref (a 8)) (C := RX0) (T := TX0) (N := 7) hx hb hts (by decide +kernel) hown hK.1 hP 0 rfl rfl 2 (by decide) (hts (.fieldLink RX0 18 "Turbineorchard$Field" "broken" "[Z") (by decide +kernel)) (fun _ h9 => h9) rfl dX0_turns_1 ?_
  refine lv_iload_n hx hb dX0_turns_4 rfl (lv_at hl 1 rfl) ?_
  refine k_zald hx hb hK.1 hP 3 1 rfl rfl k (rfl) (by omega) (by decide) dX0_turns_5 ?_
  refine lv_if_ne (tgt := 22) hx hb dX0_turns_6 (by decide) (fun c_6 => ?_) (fun c_6 => ?_)
  · refine lv_iconst (v := 0) hx hb dX0_turns_22 (by decide) ?_
    exact k_endR (ty := .boolean) hx hb hr hlocks (rfl) ((bI_f (fun h => c_6 h.1)).symm) dX0_turns_23
  · refine lv_aload_n hx hb dX0_turns_9 rfl (lv_at hl 0 rfl) ?_
    refine va_get (D := D) (ci := 0) (v := .ref (a 9)) (C := RX0) (T := TX0) (N := 7) hx hb hts (by decide +kernel) hown hK.1 hP 0 rfl rfl 3 (by decide) (hts (.fieldLink RX0 22 "Turbineorchard$Field" "stilled" "[Z") (by decide +kernel)) (fun _ h9 => h9) rfl dX0_turns_10 ?_
    refine lv_iload_n hx hb dX0_turns_13 rfl (lv_at hl 1 rfl) ?_
    refine k_zald hx hb hK.1 hP 4 1 rfl rfl k (rfl) (by omega) (by decide) dX0_turns_14 ?_
    refine lv_if_ne (tgt := 22) hx hb dX0_turns_15 (by decide) (fun c_15 => ?_) (fun c_15 => ?_)
    · refine lv_iconst (v := 0) hx hb dX0_turns_22 (by decide) ?_
      exact k_endR (ty := .boolean) hx hb hr hlocks (rfl) ((bI_f (fun h => c_15 h.2)).symm) dX0_turns_23
    · refine lv_iconst (v := 1) hx hb dX0_turns_18 (by decide) ?_
      refine lv_goto (tgt := 23) hx hb dX0_turns_19 (by decide) ?_
      exact k_endR (ty := .boolean) hx hb hr hlocks (rfl) ((bI_t ⟨c_6, c_15⟩).symm) dX0_turns_23

set_option maxHeartbeats 4000000 in
set_option maxRecDepth 100000 in
theorem c_X0_stillAt (l : Launch) (D : va_G) (a : Nat → Nat) (cI cZ : ClassId) (sz : Nat) (ta : Nat → Int32) (pl : Nat → Int32) (br : Nat → Int32) (st : Nat → Int32) (md : Nat → Int32) (bc : Int32) (n : Nat) (q : Nat) (hn : n ≤ 12) (hq : q < 24) : kUv l yX0_stillAt wsX0_stillAt ({ frames := 2, cells := 0, slots := 0, locals := 43 }) [.ref (a 5), .int (nI q)] D cI cZ sz (wF a cI cZ ta pl br st md (nI n) bc) (wF a cI cZ ta pl br (fStillAt n ta st q) md (nI n) bc) := by
  refine Met.ofW (cc := cX0_stillAt) (maxL := 3) (ret := none) (by decide) rfl ?_
  intro p e s m args below meth c s₁ B hml hv
  obtain ⟨rfl, hsz, hP, hK, hD0⟩ := hv
  have hx := B.exec
  have hb := B.bytes
  have hr := B.returns
  have hts := atoms_spec (ws := wsX0_stillAt) B.pre
  have hown : s.vm.findClass RX0 = some m.cls := findClass_of_methodNamed B.named
  have hlocks := B.notSynchronized
  subst hsz
  have hD := hD0.self (sz := s.heap.size)
  generalize hAe : va_A (wF a cI cZ ta pl br st md (nI n) bc) s.heap.size = A at hD ⊢
  have hA : ∀ q : Nat, s.heap.size ≤ q → A q := fun q h => by rw [← hAe]; exact Or.inr h
  have hS : va_S A s.heap s.heap [] := va_S.rf
  have hl := lv_entry ([.ref (a 5), .int (nI q)]) (n := 3) (Nat.le_of_ble_eq_true rfl)
  rw [lg_entry_eq]
  generalize (lg_sl ([.ref (a 5), .int (nI q)]) ++ List.replicate (3 - (lg_sl ([.ref (a 5), .int (nI q)])).length) Slot.unset).toArray = ls at hl ⊢
  have hl : lv_has ls 3 [(0, .ref (a 5)), (1, .int (nI q))] := hl
  refine lv_aload_n hx hb dX0_stillAt_0 rfl (lv_at hl 0 rfl) ?_
  refine va_get (D := D) (ci := 0) (v := .ref (a 6)) (C := RX0) (T := TX0) (N := 7) hx hb hts (by decide +kernel) hown hK.1 hP 0 rfl rfl 0 (by decide) (hts (.fieldLink RX0 9 "Turbineorchard$Field" "turbineAt" "[I") (by decide +kernel)) (fun _ h9 => h9) rfl dX0_stillAt_1 ?_
  refine lv_iload_n hx hb dX0_stillAt_4 rfl (lv_at hl 1 rfl) ?_
  refine k_iald hx hb hK.1 hP 1 0 rfl rfl q (rfl) (by omega) (by decide) dX0_stillAt_5 ?_
  refine lv_istore_n (lv' := [(2, .int (ta q)), (0, .ref (a 5)), (1, .int (nI q))]) hx hb dX0_stillAt_6 rfl hl (by decide) rfl (fun ls hl => ?_)
  refine lv_aload_n hx hb dX0_stillAt_7 rfl (lv_at hl 1 rfl) ?_
  refine lv_iload_n hx hb dX0_stillAt_8 rfl (lv_at hl 0 rfl) ?_
  refine k_rd (As := [.int (ta q)]) (rest := []) (nL := 3) ⟨hx, hb, hml, hown, hts⟩ hK hP (c_X0_has l D a cI cZ ta pl br st md bc n (ta q) (hn)) [0, 1, 2, 3, 4, 5] rfl 0 rfl rfl rfl (cwV 1 hts gX0_stillAt_X0_has rfl rfl rfl (by decide +kernel) ⟨Nat.le_of_ble_eq_true rfl, Nat.le_of_ble_eq_true rfl⟩) rfl hl.1 rfl (Nat.le_of_ble_eq_true rfl) dX0_stillAt_9 ⟨Nat.zero_le _, Nat.zero_le _⟩ (fun r9 hr9 => ?_)
  subst hr9
  refine lv_if_eq (tgt := 22) hx hb dX0_stillAt_12 (by decide) (fun c_12 => ?_) (fun c_12 => ?_)
  · have c_12 := bI_0 c_12
    have e9 : st = (fStillAt n ta st q) := by unfold fStillAt; rw [if_neg c_12]
    rw [e9] at hP hD
    clear e9
    exact k_endV (sz := 0) hx hb hr hlocks hP hD hS dX0_stillAt_22
  · have c_12 := bI_n c_12
    have c9 := hasT_P hn c_12
    refine lv_aload_n hx hb dX0_stillAt_15 rfl (lv_at hl 1 rfl) ?_
    refine va_get (D := D) (ci := 0) (v := .ref (a 9)) (C := RX0) (T := TX0) (N := 7) hx hb hts (by decide +kernel) hown hK.1 hP 0 rfl rfl 3 (by decide) (hts (.fieldLink RX0 22 "Turbineorchard$Field" "stilled" "[Z") (by decide +kernel)) (fun _ h9 => h9) rfl dX0_stillAt_16 ?_
    refine lv_iload_n hx hb dX0_stillAt_19 rfl (lv_at hl 0 rfl) ?_
    refine lv_iconst (v := 1) hx hb dX0_stillAt_20 (by decide) ?_
    refine k_zast hx hb hK.1 hP hD hS 4 1 rfl rfl (rfl) (fP ta q) (c9.2) (by omega) (by decide) dX0_stillAt_21 (fun H locs hP hD hS => ?_)
    have hP : va_P D vwCl (wF a cI cZ ta pl br (upd st (fP ta q) 1) md (nI n) bc) H := hP
    have hD : va_D A (wF a cI cZ ta pl br (upd st (fP ta q) 1) md (nI n) bc) := hD
    have e9 : (upd st (fP ta q) 1) = (fStillAt n ta st q) := by unfold fStillAt; rw [if_pos c_12]
    rw [e9] at hP hD
    clear e9
    exact k_endV (sz := 0) hx hb hr hlocks hP hD hS dX0_stillAt_22

set_option maxHeartbeats 4000000 in
set_option maxRecDepth 100000 in
theorem c_X0_stillBeside (l : Launch) (D : va_G) (a : Nat → Nat) (cI cZ : ClassId) (sz : Nat) (ta : Nat → Int32) (pl : Nat → Int32) (br : Nat → Int32) (st : Nat → Int32) (md : Nat → Int32) (bc : Int32) (n : Nat) (k : Nat) (hn : n ≤ 12) (hk : k < n) (hpl : ∀ k, k < n → pl k = nI (fP pl k) ∧ fP pl k < 24) : kUv l yX0_stillBeside wsX0_stillBeside ({ frames := 3, cells := 0, slots := 0, locals := 65 }) [.ref (a 5), .int (nI k)] D cI cZ sz (wF a cI cZ ta pl br st md (nI n) bc) (wF a cI cZ ta pl br (fB4 n ta st (fP pl k)) md (nI n) bc) := by
  refine Met.ofW (cc := cX0_stillBeside) (maxL := 4) (ret := none) (by decide) rfl ?_
  intro p e s m args below meth c s₁ B hml hv
  obtain ⟨rfl, hsz, hP, hK, hD0⟩ := hv
  have hx := B.exec
  have hb := B.bytes
  have hr := B.returns
  have hts := atoms_spec (ws := wsX0_stillBeside) B.pre
  have hown : s.vm.findClass RX0 = some m.cls := findClass_of_methodNamed B.named
  have hlocks := B.notSynchronized
  subst hsz
  have hD := hD0.self (sz := s.heap.size)
  generalize hAe : va_A (wF a cI cZ ta pl br st md (nI n) bc) s.heap.size = A at hD ⊢
  have hA : ∀ q : Nat, s.heap.size ≤ q → A q := fun q h => by rw [← hAe]; exact Or.inr h
  have hS : va_S A s.heap s.heap [] := va_S.rf
  have hl := lv_entry ([.ref (a 5), .int (nI k)]) (n := 4) (Nat.le_of_ble_eq_true rfl)
  rw [lg_entry_eq]
  generalize (lg_sl ([.ref (a 5), .int (nI k)]) ++ List.replicate (4 - (lg_sl ([.ref (a 5), .int (nI k)])).length) Slot.unset).toArray = ls at hl ⊢
  have hl : lv_has ls 4 [(0, .ref (a 5)), (1, .int (nI k))] := hl
  refine lv_aload_n hx hb dX0_stillBeside_0 rfl (lv_at hl 0 rfl) ?_
  refine va_get (D := D) (ci := 0) (v := .ref (a 7)) (C := RX0) (T := TX0) (N := 7) hx hb hts (by decide +kernel) hown hK.1 hP 0 rfl rfl 1 (by decide) (hts (.fieldLink RX0 15 "Turbineorchard$Field" "places" "[I") (by decide +kernel)) (fun _ h9 => h9) rfl dX0_stillBeside_1 ?_
  refine lv_iload_n hx hb dX0_stillBeside_4 rfl (lv_at hl 1 rfl) ?_
  refine k_iald hx hb hK.1 hP 2 0 rfl rfl k (rfl) (by omega) (by decide) dX0_stillBeside_5 ?_
  have hp := (hpl k hk).2
  refine k_rw (y := nI (fP pl k)) ((hpl k hk).1) ?_
  refine lv_istore_n (lv' := [(2, .int (nI (fP pl k))), (0, .ref (a 5)), (1, .int (nI k))]) hx hb dX0_stillBeside_6 rfl hl (by decide) rfl (fun ls hl => ?_)
  refine lv_iload_n hx hb dX0_stillBeside_7 rfl (lv_at hl 0 rfl) ?_
  refine lv_bipush (v := 6) hx hb dX0_stillBeside_8 (by decide) ?_
  refine lv_irem hx hb dX0_stillBeside_10 (by decide) ?_
  refine k_rw (y := nI (fP pl k % 6)) (nI_rm (by omega)) ?_
  refine lv_istore_n (lv' := [(3, .int (nI (fP pl k % 6))), (2, .int (nI (fP pl k))), (0, .ref (a 5)), (1, .int (nI k))]) hx hb dX0_stillBeside_11 rfl hl (by decide) rfl (fun ls hl => ?_)
  have join_26 :  ∀ (H : Heap) (locs : List Loc), va_P D vwCl (wF a cI cZ ta pl br (fB1 n ta st (fP pl k)) md (nI n) bc) H → va_D A (wF a cI cZ ta pl br (fB1 n ta st (fP pl k)) md (nI n) bc) → va_S A s.heap H locs → ∀ (ls : Array Slot), lv_has ls 4 [(0, .ref (a 5)), (1, .int (nI k)), (2, .int (nI (fP pl k))), (3, .int (nI (fP pl k % 6)))] → W p l e (headSpec wsX0_stillBeside ({ frames := 3, cells := 0, slots := 0, locals := 65 })).room s m ([.ref (a 5), .int (nI k)] : List Value).toArray below meth c H locs 0 0 (MQ below (va_Qv (fun _ : Unit => True) (fun _ t9 => kAt D A (wF a cI cZ ta pl br (fB4 n ta st (fP pl k)) md (nI n) bc) t9) A) ([.ref (a 5), .int (nI k)] : List Value).toArray s 0 0 A) (F0 m 26 ls []) := by
    intro   H locs hP hD hS ls hl
    have join_40 :  ∀ (H : Heap) (locs : List Loc), va_P D vwCl (wF a cI cZ ta pl br (fB2 n ta st (fP pl k)) md (nI n) bc) H → va_D A (wF a cI cZ ta pl br (fB2 n ta st (fP pl k)) md (nI n) bc) → va_S A s.heap H locs → ∀ (ls : Array Slot), lv_has ls 4 [(0, .ref (a 5)), (1, .int (nI k)), (2, .int (nI (fP pl k))), (3, .int (nI (fP pl k % 6)))] → W p l e (headSpec wsX0_stillBeside ({ frames := 3, cells := 0, slots := 0, locals := 65 })).room s m ([.ref (a 5), .int (nI k)] : List Value).toArray below meth c H locs 0 0 (MQ below (va_Qv (fun _ : Unit => True) (fun _ t9 => kAt D A (wF a cI cZ ta pl br (fB4 n ta st (fP pl k)) md (nI n) bc) t9) A) ([.ref (a 5), .int (nI k)] : List Value).toArray s 0 0 A) (F0 m 40 ls []) := by
      intro   H locs hP hD hS ls hl
      have join_51 :  ∀ (H : Heap) (locs : List Loc), va_P D vwCl (wF a cI cZ ta pl br (fB3 n ta st (fP pl k)) md (nI n) bc) H → va_D A (wF a cI cZ ta pl br (fB3 n ta st (fP pl k)) md (nI n) bc) → va_S A s.heap H locs → ∀ (ls : Array Slot), lv_has ls 4 [(0, .ref (a 5)), (1, .int (nI k)), (2, .int (nI (fP pl k))), (3, .int (nI (fP pl k % 6)))] → W p l e (headSpec wsX0_stillBeside ({ frames := 3, cells := 0, slots := 0, locals := 65 })).room s m ([.ref (a 5), .int (nI k)] : List Value).toArray below meth c H locs 0 0 (MQ below (va_Qv (fun _ : Unit => True) (fun _ t9 => kAt D A (wF a cI cZ ta pl br (fB4 n ta st (fP pl k)) md (nI n) bc) t9) A) ([.ref (a 5), .int (nI k)] : List Value).toArray s 0 0 A) (F0 m 51 ls []) := by
        intro   H locs hP hD hS ls hl
        have join_63 :  ∀ (H : Heap) (locs : List Loc), va_P D vwCl (wF a cI cZ ta pl br (fB4 n ta st (fP pl k)) md (nI n) bc) H → va_D A (wF a cI cZ ta pl br (fB4 n ta st (fP pl k)) md (nI n) bc) → va_S A s.heap H locs → ∀ (ls : Array Slot), lv_has ls 4 [(0, .ref (a 5)), (1, .int (nI k)), (2, .int (nI (fP pl k))), (3, .int (nI (fP pl k % 6)))] → W p l e (headSpec wsX0_stillBeside ({ frames := 3, cells := 0, slots := 0, locals := 65 })).room s m ([.ref (a 5), .int (nI k)] : List Value).toArray below meth c H locs 0 0 (MQ below (va_Qv (fun _ : Unit => True) (fun _ t9 => kAt D A (wF a cI cZ ta pl br (fB4 n ta st (fP pl k)) md (nI n) bc) t9) A) ([.ref (a 5), .int (nI k)] : List Value).toArray s 0 0 A) (F0 m 63 ls []) := by
          intro   H locs hP hD hS ls hl
          exact k_endV (sz := 0) hx hb hr hlocks hP hD hS dX0_stillBeside_63
        refine lv_iload_n hx hb dX0_stillBeside_51 rfl (lv_at hl 3 rfl) ?_
        refine lv_iconst (v := 5) hx hb dX0_stillBeside_52 (by decide) ?_
        refine lv_icmp_ge (tgt := 63) hx hb dX0_stillBeside_53 (by decide) (fun c_53 => ?_) (fun c_53 => ?_)
        · have c_53 : ¬ fP pl k % 6 < 5 := Nat.not_lt.mpr ((nI_leI (a := 5) (b := fP pl k % 6) (by omega) (by omega)).mp c_53)
          have e9 : (fB3 n ta st (fP pl k)) = (fB4 n ta st (fP pl k)) := by unfold fB4; rw [if_neg c_53]
          rw [e9] at hP hD
          clear e9
          exact join_63   _ _ hP hD hS _ (lv_sub hl [0, 1, 2, 3] rfl)
        · have c_53 : fP pl k % 6 < 5 := Nat.lt_of_not_le (fun h => c_53 ((nI_leI (a := 5) (b := fP pl k % 6) (by omega) (by omega)).mpr h))
          refine lv_aload_n hx hb dX0_stillBeside_56 rfl (lv_at hl 0 rfl) ?_
          refine lv_iload_n hx hb dX0_stillBeside_57 rfl (lv_at hl 2 rfl) ?_
          refine lv_iconst (v := 1) hx hb dX0_stillBeside_58 (by decide) ?_
          refine lv_iadd hx hb dX0_stillBeside_59 ?_
          refine k_rw (y := nI (fP pl k + 1)) (nI_1 _) ?_
          refine k_uv (WR := []) (WN := (wF a cI cZ ta pl br (fStillAt n ta (fB3 n ta st (fP pl k)) (fP pl k + 1)) md (nI n) bc)) (As := [.int (nI (fP pl k + 1))]) (rest := []) (nL := 4) ⟨hx, hb, hml, hown, hts⟩ hK hP hD hS hA (c_X0_stillAt l D a cI cZ _ ta pl br (fB3 n ta st (fP pl k)) md bc n (fP pl k + 1) (hn) (by omega)) [0, 1, 2, 3, 4, 5] [] [0, 1, 2, 3, 4, 5] rfl rfl (by decide) rfl (by decide) (by decide) rfl rfl (by decide) 0 rfl rfl rfl (cwV 1 hts gX0_stillBeside_X0_stillAt rfl rfl rfl (by decide +kernel) ⟨Nat.le_of_ble_eq_true rfl, Nat.le_of_ble_eq_true rfl⟩) rfl hl.1 rfl (Nat.le_of_ble_eq_true rfl) dX0_stillBeside_60 ⟨Nat.zero_le _, Nat.zero_le _⟩ (fun H locs hP hD hS => ?_)
          have e9 : (fStillAt n ta (fB3 n ta st (fP pl k)) (fP pl k + 1)) = (fB4 n ta st (fP pl k)) := by unfold fB4; rw [if_pos c_53]
          rw [e9] at hP hD
          clear e9
          exact join_63   _ _ hP hD hS _ (lv_sub hl [0, 1, 2, 3] rfl)
      refine lv_iload_n hx hb dX0_stillBeside_40 rfl (lv_at hl 3 rfl) ?_
      refine lv_if_le (tgt := 51) hx hb dX0_stillBeside_41 (by decide) (fun c_41 => ?_) (fun c_41 => ?_)
      · have c_41 : ¬ 0 < fP pl k % 6 := Nat.not_lt.mpr ((nI_leI (a := fP pl k % 6) (b := 0) (by omega) (by omega)).mp c_41)
        have e9 : (fB2 n ta st (fP pl k)) = (fB3 n ta st (fP pl k)) := by unfold fB3; rw [if_neg c_41]
        rw [e9] at hP hD
        clear e9
        exact join_51   _ _ hP hD hS _ (lv_sub hl [0, 1, 2, 3] rfl)
      · have c_41 : 0 < fP pl k % 6 := Nat.lt_of_not_le (fun h => c_41 ((nI_leI (a := fP pl k % 6) (b := 0) (by omega) (by omega)).mpr h))
        refine lv_aload_n hx hb dX0_stillBeside_44 rfl (lv_at hl 0 rfl) ?_
        refine lv_iload_n hx hb dX0_stillBeside_45 rfl (lv_at hl 2 rfl) ?_
        refine lv_iconst (v := 1) hx hb dX0_stillBeside_46 (by decide) ?_
        refine lv_isub hx hb dX0_stillBeside_47 ?_
        refine k_rw (y := nI (fP pl k - 1)) (pk_sub (a := fP pl k) (b := 1) (by omega)) ?_
        refine k_uv (WR := []) (WN := (wF a cI cZ ta pl br (fStillAt n ta (fB2 n ta st (fP pl k)) (fP pl k - 1)) md (nI n) bc)) (As := [.int (nI (fP pl k - 1))]) (rest := []) (nL := 4) ⟨hx, hb, hml, hown, hts⟩ hK hP hD hS hA (c_X0_stillAt l D a cI cZ _ ta pl br (fB2 n ta st (fP pl k)) md bc n (fP pl k - 1) (hn) (by omega)) [0, 1, 2, 3, 4, 5] [] [0, 1, 2, 3, 4, 5] rfl rfl (by decide) rfl (by decide) (by decide) rfl rfl (by decide) 0 rfl rfl rfl (cwV 1 hts gX0_stillBeside_X0_stillAt rfl rfl rfl (by decide +kernel) ⟨Nat.le_of_ble_eq_true rfl, Nat.le_of_ble_eq_true rfl⟩) rfl hl.1 rfl (Nat.le_of_ble_eq_true rfl) dX0_stillBeside_48 ⟨Nat.zero_le _, Nat.zero_le _⟩ (fun H locs hP hD hS => ?_)
        have e9 : (fStillAt n ta (fB2 n ta st (fP pl k)) (fP pl k - 1)) = (fB3 n ta st (fP pl k)) := by unfold fB3; rw [if_pos c_41]
        rw [e9] at hP hD
        clear e9
        exact join_51   _ _ hP hD hS _ (lv_sub hl [0, 1, 2, 3] rfl)
    refine lv_iload_n hx hb dX0_stillBeside_26 rfl (lv_at hl 2 rfl) ?_
    refine lv_bipush (v := 18) hx hb dX0_stillBeside_27 (by decide) ?_
    refine lv_icmp_ge (tgt := 40) hx hb dX0_stillBeside_29 (by decide) (fun c_29 => ?_) (fun c_29 => ?_)
    · have c_29 : ¬ fP pl k < 18 := Nat.not_lt.mpr ((nI_leI (a := 18) (b := fP pl k) (by omega) (by omega)).mp c_29)
      have e9 : (fB1 n ta st (fP pl k)) = (fB2 n ta st (fP pl k)) := by unfold fB2; rw [if_neg c_29]
      rw [e9] at hP hD
      clear e9
      exact join_40   _ _ hP hD hS _ (lv_sub hl [0, 1, 2, 3] rfl)
    · have c_29 : fP pl k < 18 := Nat.lt_of_not_le (fun h => c_29 ((nI_leI (a := 18) (b := fP pl k) (by omega) (by omega)).mpr h))
      refine lv_aload_n hx hb dX0_stillBeside_32 rfl (lv_at hl 0 rfl) ?_
      refine lv_iload_n hx hb dX0_stillBeside_33 rfl (lv_at hl 2 rfl) ?_
      refine lv_bipush (v := 6) hx hb dX0_stillBeside_34 (by decide) ?_
      refine lv_iadd hx hb dX0_stillBeside_36 ?_
      refine k_rw (y := nI (fP pl k + 6)) (nI_add _ 6) ?_
      refine k_uv (WR := []) (WN := (wF a cI cZ ta pl br (fStillAt n ta (fB1 n ta st (fP pl k)) (fP pl k + 6)) md (nI n) bc)) (As := [.int (nI (fP pl k + 6))]) (rest := []) (nL := 4) ⟨hx, hb, hml, hown, hts⟩ hK hP hD hS hA (c_X0_stillAt l D a cI cZ _ ta pl br (fB1 n ta st (fP pl k)) md bc n (fP pl k + 6) (hn) (by omega)) [0, 1, 2, 3, 4, 5] [] [0, 1, 2, 3, 4, 5] rfl rfl (by decide) rfl (by decide) (by decide) rfl rfl (by decide) 0 rfl rfl rfl (cwV 1 hts gX0_stillBeside_X0_stillAt rfl rfl rfl (by decide +kernel) ⟨Nat.le_of_ble_eq_true rfl, Nat.le_of_ble_eq_true rfl⟩) rfl hl.1 rfl (Nat.le_of_ble_eq_true rfl) dX0_stillBeside_37 ⟨Nat.zero_le _, Nat.zero_le _⟩ (fun H locs hP hD hS => ?_)
      have e9 : (fStillAt n ta (fB1 n ta st (fP pl k)) (fP pl k + 6)) = (fB2 n ta st (fP pl k)) := by unfold fB2; rw [if_pos c_29]
      rw [e9] at hP hD
      clear e9
      exact join_40   _ _ hP hD hS _ (lv_sub hl [0, 1, 2, 3] rfl)
  refine lv_iload_n hx hb dX0_stillBeside_12 rfl (lv_at hl 1 rfl) ?_
  refine lv_bipush (v := 6) hx hb dX0_stillBeside_13 (by decide) ?_
  refine lv_icmp_lt (tgt := 26) hx hb dX0_stillBeside_15 (by decide) (fun c_15 => ?_) (fun c_15 => ?_)
  · have c_15 : ¬ 6 ≤ fP pl k := Nat.not_le.mpr ((nI_ltI (a := fP pl k) (b := 6) (by omega) (by omega)).mp c_15)
    have e9 : st = (fB1 n ta st (fP pl k)) := by unfold fB1; rw [if_neg c_15]
    rw [e9] at hP hD
    clear e9
    exact join_26   _ _ hP hD hS _ (lv_sub hl [2, 3, 1, 0] rfl)
  · have c_15 : 6 ≤ fP pl k := Nat.le_of_not_lt (fun h => c_15 ((nI_ltI (a := fP pl k) (b := 6) (by omega) (by omega)).mpr h))
    refine lv_aload_n hx hb dX0_stillBeside_18 rfl (lv_at hl 2 rfl) ?_
    refine lv_iload_n hx hb dX0_stillBeside_19 rfl (lv_at hl 1 rfl) ?_
    refine lv_bipush (v := 6) hx hb dX0_stillBeside_20 (by decide) ?_
    refine lv_isub hx hb dX0_stillBeside_22 ?_
    refine k_rw (y := nI (fP pl k - 6)) (pk_sub c_15) ?_
    refine k_uv (WR := []) (WN := (wF a cI cZ ta pl br (fStillAt n ta st (fP pl k - 6)) md (nI n) bc)) (As := [.int (nI (fP pl k - 6))]) (rest := []) (nL := 4) ⟨hx, hb, hml, hown, hts⟩ hK hP hD hS hA (c_X0_stillAt l D a cI cZ _ ta pl br st md bc n (fP pl k - 6) (hn) (by omega)) [0, 1, 2, 3, 4, 5] [] [0, 1, 2, 3, 4, 5] rfl rfl (by decide) rfl (by decide) (by decide) rfl rfl (by decide) 0 rfl rfl rfl (cwV 1 hts gX0_stillBeside_X0_stillAt rfl rfl rfl (by decide +kernel) ⟨Nat.le_of_ble_eq_true rfl, Nat.le_of_ble_eq_true rfl⟩) rfl hl.1 rfl (Nat.le_of_ble_eq_true rfl) dX0_stillBeside_23 ⟨Nat.zero_le _, Nat.zero_le _⟩ (fun H locs hP hD hS => ?_)
    have e9 : (fStillAt n ta st (fP pl k - 6)) = (fB1 n ta st (fP pl k)) := by unfold fB1; rw [if_pos c_15]
    rw [e9] at hP hD
    clear e9
    exact join_26   _ _ hP hD hS _ (lv_sub hl [2, 3, 1, 0] rfl)

set_option maxHeartbeats 4000000 in
set_option maxRecDepth 100000 in
theorem c_X0_endStillness (l : Launch) (D : va_G) (a : Nat → Nat) (cI cZ : ClassId) (sz : Nat) (ta : Nat → Int32) (pl : Nat → Int32) (br : Nat → Int32) (st : Nat → Int32) (md : Nat → Int32) (bc : Int32) (n : Nat) (hn : n ≤ 12) : kUv l yX0_endStillness wsX0_endStillness ({ frames := 0, cells := 0, slots := 0, locals := 0 }) [.ref (a 5)] D cI cZ sz (wF a cI cZ ta pl br st md (nI n) bc) (wF a cI cZ ta pl br (setR st 0 n 0) md (nI n) bc) := by
  refine Met.ofW (cc := cX0_endStillness) (maxL := 2) (ret := none) (by decide) rfl ?_
  intro p e s m args below meth c s₁ B hml hv
  obtain ⟨rfl, hsz, hP, hK, hD0⟩ := hv
  have hx := B.exec
  have hb := B.bytes
  have hr := B.returns
  have hts := atoms_spec (ws := wsX0_endStillness) B.pre
  have hown : s.vm.findClass RX0 = some m.cls := findClass_of_methodNamed B.named
  have hlocks := B.notSynchronized
  subst hsz
  have hD := hD0.self (sz := s.heap.size)
  generalize hAe : va_A (wF a cI cZ ta pl br st md (nI n) bc) s.heap.size = A at hD ⊢
  have hA : ∀ q : Nat, s.heap.size ≤ q → A q := fun q h => by rw [← hAe]; exact Or.inr h
  have hS : va_S A s.heap s.heap [] := va_S.rf
  have hl := lv_entry ([.ref (a 5)]) (n := 2) (Nat.le_of_ble_eq_true rfl)
  rw [lg_entry_eq]
  generalize (lg_sl ([.ref (a 5)]) ++ List.replicate (2 - (lg_sl ([.ref (a 5)])).length) Slot.unset).toArray = ls at hl ⊢
  have hl : lv_has ls 2 [(0, .ref (a 5))] := hl
  refine lv_iconst (v := 0) hx hb dX0_endStillness_0 (by decide) ?_
  have e9 : st = (setR st 0 0 0) := (setR_0 st 0 0).symm
  rw [e9] at hP hD
  clear e9
  refine lv_istore_n (lv' := [(1, .int 0), (0, .ref (a 5))]) hx hb dX0_endStillness_1 rfl hl (by decide) rfl (fun ls hl => ?_)
  have loop_2 : ∀ (nn : Nat) (k : Nat), n - k < nn → (k ≤ n) → ∀ (H : Heap) (locs : List Loc), va_P D vwCl (wF a cI cZ ta pl br (setR st 0 k 0) md (nI n) bc) H → va_D A (wF a cI cZ ta pl br (setR st 0 k 0) md (nI n) bc) → va_S A s.heap H locs → ∀ (ls : Array Slot), lv_has ls 2 [(0, .ref (a 5)), (1, .int (nI k))] → W p l e (headSpec wsX0_endStillness ({ frames := 0, cells := 0, slots := 0, locals := 0 })).room s m ([.ref (a 5)] : List Value).toArray below meth c H locs 0 0 (MQ below (va_Qv (fun _ : Unit => True) (fun _ t9 => kAt D A (wF a cI cZ ta pl br (setR st 0 n 0) md (nI n) bc) t9) A) ([.ref (a 5)] : List Value).toArray s 0 0 A) (F0 m 2 ls []) := by
    intro nn
    induction nn with
    | zero => intro k hm; exact absurd hm (by omega)
    | succ nn ih_2 =>
      intro k hm hk H locs hP hD hS ls hl
      refine lv_iload_n hx hb dX0_endStillness_2 rfl (lv_at hl 1 rfl) ?_
      refine lv_aload_n hx hb dX0_endStillness_3 rfl (lv_at hl 0 rfl) ?_
      refine va_get (D := D) (ci := 0) (v := .int (nI n)) (C := RX0) (T := TX0) (N := 7) hx hb hts (by decide +kernel) hown hK.1 hP 0 rfl rfl 5 (by decide) (hts (.fieldLink RX0 28 "Turbineorchard$Field" "count" "I") (by decide +kernel)) (fun _ h9 => h9) rfl dX0_endStillness_4 ?_
      refine lv_icmp_ge (tgt := 23) hx hb dX0_endStillness_7 (by decide) (fun c_7 => ?_) (fun c_7 => ?_)
      · have e8 : k = n := by have := (nI_leI (a := n) (b := k) (by omega) (by omega)).mp c_7; omega
        rw [e8] at hP hD
        exact k_endV (sz := 0) hx hb hr hlocks hP hD hS dX0_endStillness_23
      · have c_7 : k < n := Nat.lt_of_not_le (fun h => c_7 ((nI_leI (a := n) (b := k) (by omega) (by omega)).mpr h))
        refine lv_aload_n hx hb dX0_endStillness_10 rfl (lv_at hl 0 rfl) ?_
        refine va_get (D := D) (ci := 0) (v := .ref (a 9)) (C := RX0) (T := TX0) (N := 7) hx hb hts (by decide +kernel) hown hK.1 hP 0 rfl rfl 3 (by decide) (hts (.fieldLink RX0 22 "Turbineorchard$Field" "stilled" "[Z") (by decide +kernel)) (fun _ h9 => h9) rfl dX0_endStillness_11 ?_
        refine lv_iload_n hx hb dX0_endStillness_14 rfl (lv_at hl 1 rfl) ?_
        refine lv_iconst (v := 0) hx hb dX0_endStillness_15 (by decide) ?_
        refine k_zast hx hb hK.1 hP hD hS 4 1 rfl rfl (rfl) k (rfl) (by omega) (by decide) dX0_endStillness_16 (fun H locs hP hD hS => ?_)
        have hP : va_P D vwCl (wF a cI cZ ta pl br (upd (setR st 0 k 0) k 0) md (nI n) bc) H := hP
        have hD : va_D A (wF a cI cZ ta pl br (upd (setR st 0 k 0) k 0) md (nI n) bc) := hD
        have e9 : (upd (setR st 0 k 0) k 0) = (setR st 0 (k + 1) 0) := setR_1 st 0 (Nat.zero_le k)
        rw [e9] at hP hD
        clear e9
        refine lv_iinc (v := nI (k + 1)) (lv' := [(1, .int (nI (k + 1))), (0, .ref (a 5))]) hx hb dX0_endStillness_17 hl (k := 1) rfl (nI_1 _) (by decide) rfl (fun ls hl => ?_)
        refine lv_goto (tgt := 2) hx hb dX0_endStillness_20 (by decide) ?_
        exact ih_2 (k + 1) (by omega) (by omega) _ _ hP hD hS _ (lv_sub hl [1, 0] rfl)
  exact loop_2 (n - 0 + 1) 0 (by omega) (by omega) _ _ hP hD hS _ (lv_sub hl [1, 0] rfl)

set_option maxHeartbeats 4000000 in
set_option maxRecDepth 100000 in
theorem c_X0_distancesAhead (l : Launch) (D : va_G) (a : Nat → Nat) (cI cZ : ClassId) (ta : Nat → Int32) (pl : Nat → Int32) (br : Nat → Int32) (st : Nat → Int32) (md : Nat → Int32) (bc : Int32) (n : Nat) (q : Nat) (w : Int32) (hn : n ≤ 12) (hq : q < 24) (hpl : ∀ k, k < n → pl k = nI (fP pl k) ∧ fP pl k < 24) : kRd l yX0_distancesAhead wsX0_distancesAhead ({ frames := 1, cells := 0, slots := 0, locals := 21 }) [.ref (a 5), .int (nI q), .int w] D cI cZ (wF a cI cZ ta pl br st md (nI n) bc) (fun r => r = fMask (fAw w pl br st q) n) := by
  refine Met.ofW (cc := cX0_distancesAhead) (maxL := 6) (ret := (some .int)) (by decide) rfl ?_
  intro p e s m args below meth c s₁ B hml hv
  obtain ⟨rfl, hP, hK⟩ := hv
  have hx := B.exec
  have hb := B.bytes
  have hr := B.returns
  have hts := atoms_spec (ws := wsX0_distancesAhead) B.pre
  have hown : s.vm.findClass RX0 = some m.cls := findClass_of_methodNamed B.named
  have hlocks := B.notSynchronized
  have hl := lv_entry ([.ref (a 5), .int (nI q), .int w]) (n := 6) (Nat.le_of_ble_eq_true rfl)
  rw [lg_entry_eq]
  generalize (lg_sl ([.ref (a 5), .int (nI q), .int w]) ++ List.replicate (6 - (lg_sl ([.ref (a 5), .int (nI q), .int w])).length) Slot.unset).toArray = ls at hl ⊢
  have hl : lv_has ls 6 [(0, .ref (a 5)), (1, .int (nI q)), (2, .int w)] := hl
  refine lv_iconst (v := 0) hx hb dX0_distancesAhead_0 (by decide) ?_
  refine lv_istore_n (lv' := [(3, .int 0), (0, .ref (a 5)), (1, .int (nI q)), (2, .int w)]) hx hb dX0_distancesAhead_1 rfl hl (by decide) rfl (fun ls hl => ?_)
  refine lv_iconst (v := 0) hx hb dX0_distancesAhead_2 (by decide) ?_
  refine lv_istore (lv' := [(4, .int 0), (3, .int 0), (0, .ref (a 5)), (1, .int (nI q)), (2, .int w)]) hx hb dX0_distancesAhead_3 hl (by decide) rfl (fun ls hl => ?_)
  have loop_5 : ∀ (nn : Nat) (k : Nat) (x : Int32), n - k < nn → (k ≤ n) → (x = fMask (fAw w pl br st q) k) → ∀ (ls : Array Slot), lv_has ls 6 [(0, .ref (a 5)), (1, .int (nI q)), (2, .int w), (3, .int x), (4, .int (nI k))] → W p l e (headSpec wsX0_distancesAhead ({ frames := 1, cells := 0, slots := 0, locals := 21 })).room s m ([.ref (a 5), .int (nI q), .int w] : List Value).toArray below meth c s.heap [] 0 0 (MQ below (vp_Si (fun r => r = fMask (fAw w pl br st q) n)) ([.ref (a 5), .int (nI q), .int w] : List Value).toArray s 0 0 (fun _ => False)) (F0 m 5 ls []) := by
    intro nn
    induction nn with
    | zero => intro k x hm; exact absurd hm (by omega)
    | succ nn ih_5 =>
      intro k x hm hk hx9  ls hl
      refine lv_iload hx hb dX0_distancesAhead_5 (lv_at hl 4 rfl) ?_
      refine lv_aload_n hx hb dX0_distancesAhead_7 rfl (lv_at hl 0 rfl) ?_
      refine va_get (D := D) (ci := 0) (v := .int (nI n)) (C := RX0) (T := TX0) (N := 7) hx hb hts (by decide +kernel) hown hK.1 hP 0 rfl rfl 5 (by decide) (hts (.fieldLink RX0 28 "Turbineorchard$Field" "count" "I") (by decide +kernel)) (fun _ h9 => h9) rfl dX0_distancesAhead_8 ?_
      refine lv_icmp_ge (tgt := 79) hx hb dX0_distancesAhead_11 (by decide) (fun c_11 => ?_) (fun c_11 => ?_)
      · have e8 : k = n := by have := (nI_leI (a := n) (b := k) (by omega) (by omega)).mp c_11; omega
        refine lv_iload_n hx hb dX0_distancesAhead_79 rfl (lv_at hl 3 rfl) ?_
        exact k_endR (ty := .int) hx hb hr hlocks (rfl) (by rw [hx9, e8]) dX0_distancesAhead_80
      · have c_11 : k < n := Nat.lt_of_not_le (fun h => c_11 ((nI_leI (a := n) (b := k) (by omega) (by omega)).mpr h))
        refine lv_iload_n hx hb dX0_distancesAhead_14 rfl (lv_at hl 1 rfl) ?_
        refine lv_iload_n hx hb dX0_distancesAhead_15 rfl (lv_at hl 2 rfl) ?_
        refine k_ps (As := [.int (nI q), .int w]) (rest := []) (nL := 6) ⟨hx, hb, hml, hown, hts⟩ (c_X0_placesAhead l q w (by omega)) (va_cwS 2 hts gX0_distancesAhead_X0_placesAhead rfl rfl rfl (by decide +kernel) ⟨Nat.le_of_ble_eq_true rfl, Nat.le_of_ble_eq_true rfl⟩) rfl hl.1 rfl (Nat.le_of_ble_eq_true rfl) dX0_distancesAhead_16 ⟨Nat.zero_le _, Nat.zero_le _⟩ (fun r9 hr9 => ?_)
        subst hr9
        refine lv_aload_n hx hb dX0_distancesAhead_19 rfl (lv_at hl 0 rfl) ?_
        refine va_get (D := D) (ci := 0) (v := .ref (a 7)) (C := RX0) (T := TX0) (N := 7) hx hb hts (by decide +kernel) hown hK.1 hP 0 rfl rfl 1 (by decide) (hts (.fieldLink RX0 15 "Turbineorchard$Field" "places" "[I") (by decide +kernel)) (fun _ h9 => h9) rfl dX0_distancesAhead_20 ?_
        refine lv_iload hx hb dX0_distancesAhead_23 (lv_at hl 4 rfl) ?_
        refine k_iald hx hb hK.1 hP 2 0 rfl rfl k (rfl) (by omega) (by decide) dX0_distancesAhead_25 ?_
        refine k_rw (y := nI (fP pl k)) ((hpl k c_11).1) ?_
        refine lv_iload_n hx hb dX0_distancesAhead_26 rfl (lv_at hl 2 rfl) ?_
        refine k_ps (As := [.int (nI (fP pl k)), .int w]) (rest := [.int (nI (fAhd w q))]) (nL := 6) ⟨hx, hb, hml, hown, hts⟩ (c_X0_placesAhead l (fP pl k) w ((hpl k c_11).2)) (va_cwS 2 hts gX0_distancesAhead_X0_placesAhead rfl rfl rfl (by decide +kernel) ⟨Nat.le_of_ble_eq_true rfl, Nat.le_of_ble_eq_true rfl⟩) rfl hl.1 rfl (Nat.le_of_ble_eq_true rfl) dX0_distancesAhead_27 ⟨Nat.zero_le _, Nat.zero_le _⟩ (fun r9 hr9 => ?_)
        subst hr9
        refine lv_isub hx hb dX0_distancesAhead_30 ?_
        refine lv_istore (lv' := [(5, .int ((nI (fAhd w q)) - (nI (fAhd w (fP pl k))))), (0, .ref (a 5)), (1, .int (nI q)), (2, .int w), (3, .int x), (4, .int (nI k))]) hx hb dX0_distancesAhead_31 hl (by decide) rfl (fun ls hl => ?_)
        have ha1 := fAhd_lt (w := w) hq
        have ha2 := fAhd_lt (w := w) (hpl k c_11).2
        refine lv_iload hx hb dX0_distancesAhead_33 (lv_at hl 0 rfl) ?_
        refine lv_if_le (tgt := 73) hx hb dX0_distancesAhead_35 (by decide) (fun c_35 => ?_) (fun c_35 => ?_)
        · have c_35 : fAhd w q ≤ fAhd w (fP pl k) := (sub_le0 (by omega) (by omega)).mp c_35
          refine lv_iinc (v := nI (k + 1)) (lv' := [(4, .int (nI (k + 1))), (5, .int ((nI (fAhd w q)) - (nI (fAhd w (fP pl k))))), (0, .ref (a 5)), (1, .int (nI q)), (2, .int w), (3, .int x)]) hx hb dX0_distancesAhead_73 hl (k := 5) rfl (nI_1 _) (by decide) rfl (fun ls hl => ?_)
          refine lv_goto (tgt := 5) hx hb dX0_distancesAhead_76 (by decide) ?_
          exact ih_5 (k + 1) x (by omega) (by omega) (by simp only [fMask]; rw [if_pos (by unfold fAw; exact if_neg (fun h => absurd h.1 (Nat.not_lt.mpr c_35)))]; exact hx9) _ (lv_sub hl [2, 3, 4, 5, 0] rfl)
        · have c_35 : fAhd w (fP pl k) < fAhd w q := Nat.lt_of_not_le (fun h => c_35 ((sub_le0 (by omega) (by omega)).mpr h))
          refine lv_aload_n hx hb dX0_distancesAhead_38 rfl (lv_at hl 1 rfl) ?_
          refine va_get (D := D) (ci := 0) (v := .ref (a 7)) (C := RX0) (T := TX0) (N := 7) hx hb hts (by decide +kernel) hown hK.1 hP 0 rfl rfl 1 (by decide) (hts (.fieldLink RX0 15 "Turbineorchard$Field" "places" "[I") (by decide +kernel)) (fun _ h9 => h9) rfl dX0_distancesAhead_39 ?_
          refine lv_iload hx hb dX0_distancesAhead_42 (lv_at hl 5 rfl) ?_
          refine k_iald hx hb hK.1 hP 2 0 rfl rfl k (rfl) (by omega) (by decide) dX0_distancesAhead_44 ?_
          refine k_rw (y := nI (fP pl k)) ((hpl k c_11).1) ?_
          refine lv_iload_n hx hb dX0_distancesAhead_45 rfl (lv_at hl 3 rfl) ?_
          refine k_ps (As := [.int (nI (fP pl k)), .int w]) (rest := []) (nL := 6) ⟨hx, hb, hml, hown, hts⟩ (c_X0_lane l (fP pl k) w ((hpl k c_11).2)) (va_cwS 2 hts gX0_distancesAhead_X0_lane rfl rfl rfl (by decide +kernel) ⟨Nat.le_of_ble_eq_true rfl, Nat.le_of_ble_eq_true rfl⟩) rfl hl.1 rfl (Nat.le_of_ble_eq_true rfl) dX0_distancesAhead_46 ⟨Nat.zero_le _, Nat.zero_le _⟩ (fun r9 hr9 => ?_)
          subst hr9
          refine lv_iload_n hx hb dX0_distancesAhead_49 rfl (lv_at hl 2 rfl) ?_
          refine lv_iload_n hx hb dX0_distancesAhead_50 rfl (lv_at hl 3 rfl) ?_
          refine k_ps (As := [.int (nI q), .int w]) (rest := [.int (nI (fLane w (fP pl k)))]) (nL := 6) ⟨hx, hb, hml, hown, hts⟩ (c_X0_lane l q w (by omega)) (va_cwS 2 hts gX0_distancesAhead_X0_lane rfl rfl rfl (by decide +kernel) ⟨Nat.le_of_ble_eq_true rfl, Nat.le_of_ble_eq_true rfl⟩) rfl hl.1 rfl (Nat.le_of_ble_eq_true rfl) dX0_distancesAhead_51 ⟨Nat.zero_le _, Nat.zero_le _⟩ (fun r9 hr9 => ?_)
          subst hr9
          refine lv_icmp_ne (tgt := 73) hx hb dX0_distancesAhead_54 (by decide) (fun c_54 => ?_) (fun c_54 => ?_)
          · refine lv_iinc (v := nI (k + 1)) (lv' := [(4, .int (nI (k + 1))), (5, .int ((nI (fAhd w q)) - (nI (fAhd w (fP pl k))))), (0, .ref (a 5)), (1, .int (nI q)), (2, .int w), (3, .int x)]) hx hb dX0_distancesAhead_73 hl (k := 5) rfl (nI_1 _) (by decide) rfl (fun ls hl => ?_)
            refine lv_goto (tgt := 5) hx hb dX0_distancesAhead_76 (by decide) ?_
            exact ih_5 (k + 1) x (by omega) (by omega) (by simp only [fMask]; rw [if_pos (by unfold fAw; exact if_neg (fun h => c_54 (by rw [h.2.1])))]; exact hx9) _ (lv_sub hl [2, 3, 4, 5, 0] rfl)
          · have c_54 : fLane w (fP pl k) = fLane w q := (nI_eq (Nat.lt_trans (fLane_lt (hpl k c_11).2) (by decide)) (Nat.lt_trans (fLane_lt hq) (by decide))).mp c_54
            refine lv_aload_n hx hb dX0_distancesAhead_57 rfl (lv_at hl 1 rfl) ?_
            refine lv_iload hx hb dX0_distancesAhead_58 (lv_at hl 5 rfl) ?_
            refine k_rd (As := [.int (nI k)]) (rest := []) (nL := 6) ⟨hx, hb, hml, hown, hts⟩ hK hP (c_X0_turns l D a cI cZ ta pl br st md bc n k (hn) (by omega)) [0, 1, 2, 3, 4, 5] rfl 0 rfl rfl rfl (cwV 1 hts gX0_distancesAhead_X0_turns rfl rfl rfl (by decide +kernel) ⟨Nat.le_of_ble_eq_true rfl, Nat.le_of_ble_eq_true rfl⟩) rfl hl.1 rfl (Nat.le_of_ble_eq_true rfl) dX0_distancesAhead_60 ⟨Nat.zero_le _, Nat.zero_le _⟩ (fun r9 hr9 => ?_)
            subst hr9
            refine lv_if_eq (tgt := 73) hx hb dX0_distancesAhead_63 (by decide) (fun c_63 => ?_) (fun c_63 => ?_)
            · have c_63 := bI_0 c_63
              refine lv_iinc (v := nI (k + 1)) (lv' := [(4, .int (nI (k + 1))), (5, .int ((nI (fAhd w q)) - (nI (fAhd w (fP pl k))))), (0, .ref (a 5)), (1, .int (nI q)), (2, .int w), (3, .int x)]) hx hb dX0_distancesAhead_73 hl (k := 5) rfl (nI_1 _) (by decide) rfl (fun ls hl => ?_)
              refine lv_goto (tgt := 5) hx hb dX0_distancesAhead_76 (by decide) ?_
              exact ih_5 (k + 1) x (by omega) (by omega) (by simp only [fMask]; rw [if_pos (by unfold fAw; exact if_neg (fun h => c_63 h.2.2))]; exact hx9) _ (lv_sub hl [2, 3, 4, 5, 0] rfl)
            · have c_63 := bI_n c_63
              refine lv_iload_n hx hb dX0_distancesAhead_66 rfl (lv_at hl 4 rfl) ?_
              refine lv_iconst (v := 1) hx hb dX0_distancesAhead_67 (by decide) ?_
              refine lv_iload hx hb dX0_distancesAhead_68 (lv_at hl 0 rfl) ?_
              refine lv_ishl hx hb dX0_distancesAhead_70 ?_
              refine lv_ior hx hb dX0_distancesAhead_71 ?_
              have e9 : fAw w pl br st q k = fAhd w q - fAhd w (fP pl k) := by unfold fAw; exact if_pos ⟨c_35, c_54, c_63⟩
              refine k_rw (y := fMask (fAw w pl br st q) (k + 1)) (by simp only [fMask]; rw [if_neg (by omega), e9, hx9, pk_sub (by omega)]) ?_
              refine lv_istore_n (lv' := [(3, .int (fMask (fAw w pl br st q) (k + 1))), (5, .int ((nI (fAhd w q)) - (nI (fAhd w (fP pl k))))), (0, .ref (a 5)), (1, .int (nI q)), (2, .int w), (4, .int (nI k))]) hx hb dX0_distancesAhead_72 rfl hl (by decide) rfl (fun ls hl => ?_)
              refine lv_iinc (v := nI (k + 1)) (lv' := [(4, .int (nI (k + 1))), (3, .int (fMask (fAw w pl br st q) (k + 1))), (5, .int ((nI (fAhd w q)) - (nI (fAhd w (fP pl k))))), (0, .ref (a 5)), (1, .int (nI q)), (2, .int w)]) hx hb dX0_distancesAhead_73 hl (k := 5) rfl (nI_1 _) (by decide) rfl (fun ls hl => ?_)
              refine lv_goto (tgt := 5) hx hb dX0_distancesAhead_76 (by decide) ?_
              exact ih_5 (k + 1) (fMask (fAw w pl br st q) (k + 1)) (by omega) (by omega) (rfl) _ (lv_sub hl [3, 4, 5, 1, 0] rfl)
  exact loop_5 (n - 0 + 1) 0 0 (by omega) (by omega) (rfl) _ (lv_sub hl [2, 3, 4, 1, 0] rfl)

set_option maxHeartbeats 4000000 in
set_option maxRecDepth 100000 in
theorem c_X0_windLeft (l : Launch) (D : va_G) (a : Nat → Nat) (cI cZ : ClassId) (ta : Nat → Int32) (pl : Nat → Int32) (br : Nat → Int32) (st : Nat → Int32) (md : Nat → Int32) (bc : Int32) (n : Nat) (t : Nat) (v : Int32) (w : Int32) (hn : n ≤ 12) (ht : t < n) (hpl : ∀ k, k < n → pl k = nI (fP pl k) ∧ fP pl k < 24) : kRd l yX0_windLeft wsX0_windLeft ({ frames := 2, cells := 0, slots := 0, locals := 46 }) [.ref (a 5), .int (nI t), .int v, .int w] D cI cZ (wF a cI cZ ta pl br st md (nI n) bc) (fun r => r = fWind w pl br st n v (fP pl t)) := by
  refine Met.ofW (cc := cX0_windLeft) (maxL := 7) (ret := (some .int)) (by decide) rfl ?_
  intro p e s m args below meth c s₁ B hml hv
  obtain ⟨rfl, hP, hK⟩ := hv
  have hx := B.exec
  have hb := B.bytes
  have hr := B.returns
  have hts := atoms_spec (ws := wsX0_windLeft) B.pre
  have hown : s.vm.findClass RX0 = some m.cls := findClass_of_methodNamed B.named
  have hlocks := B.notSynchronized
  have hl := lv_entry ([.ref (a 5), .int (nI t), .int v, .int w]) (n := 7) (Nat.le_of_ble_eq_true rfl)
  rw [lg_entry_eq]
  generalize (lg_sl ([.ref (a 5), .int (nI t), .int v, .int w]) ++ List.replicate (7 - (lg_sl ([.ref (a 5), .int (nI t), .int v, .int w])).length) Slot.unset).toArray = ls at hl ⊢
  have hl : lv_has ls 7 [(0, .ref (a 5)), (1, .int (nI t)), (2, .int v), (3, .int w)] := hl
  refine lv_aload_n hx hb dX0_windLeft_0 rfl (lv_at hl 0 rfl) ?_
  refine lv_aload_n hx hb dX0_windLeft_1 rfl (lv_at hl 0 rfl) ?_
  refine va_get (D := D) (ci := 0) (v := .ref (a 7)) (C := RX0) (T := TX0) (N := 7) hx hb hts (by decide +kernel) hown hK.1 hP 0 rfl rfl 1 (by decide) (hts (.fieldLink RX0 15 "Turbineorchard$Field" "places" "[I") (by decide +kernel)) (fun _ h9 => h9) rfl dX0_windLeft_2 ?_
  refine lv_iload_n hx hb dX0_windLeft_5 rfl (lv_at hl 1 rfl) ?_
  refine k_iald hx hb hK.1 hP 2 0 rfl rfl t (rfl) (by omega) (by decide) dX0_windLeft_6 ?_
  have hp := (hpl t ht).2
  refine k_rw (y := nI (fP pl t)) ((hpl t ht).1) ?_
  refine lv_iload_n hx hb dX0_windLeft_7 rfl (lv_at hl 3 rfl) ?_
  refine k_rd (As := [.int (nI (fP pl t)), .int w]) (rest := []) (nL := 7) ⟨hx, hb, hml, hown, hts⟩ hK hP (c_X0_distancesAhead l D a cI cZ ta pl br st md bc n (fP pl t) w (hn) (by omega) (hpl)) [0, 1, 2, 3, 4, 5] rfl 0 rfl rfl rfl (cwV 2 hts gX0_windLeft_X0_distancesAhead rfl rfl rfl (by decide +kernel) ⟨Nat.le_of_ble_eq_true rfl, Nat.le_of_ble_eq_true rfl⟩) rfl hl.1 rfl (Nat.le_of_ble_eq_true rfl) dX0_windLeft_8 ⟨Nat.zero_le _, Nat.zero_le _⟩ (fun r9 hr9 => ?_)
  subst hr9
  refine lv_istore (lv' := [(4, .int (fMask (fAw w pl br st (fP pl t)) n)), (0, .ref (a 5)), (1, .int (nI t)), (2, .int v), (3, .int w)]) hx hb dX0_windLeft_11 hl (by decide) rfl (fun ls hl => ?_)
  refine lv_iload_n hx hb dX0_windLeft_13 rfl (lv_at hl 3 rfl) ?_
  refine lv_istore (lv' := [(5, .int v), (4, .int (fMask (fAw w pl br st (fP pl t)) n)), (0, .ref (a 5)), (1, .int (nI t)), (2, .int v), (3, .int w)]) hx hb dX0_windLeft_14 hl (by decide) rfl (fun ls hl => ?_)
  refine lv_iconst (v := 1) hx hb dX0_windLeft_16 (by decide) ?_
  refine lv_istore (lv' := [(6, .int 1), (5, .int v), (4, .int (fMask (fAw w pl br st (fP pl t)) n)), (0, .ref (a 5)), (1, .int (nI t)), (2, .int v), (3, .int w)]) hx hb dX0_windLeft_17 hl (by decide) rfl (fun ls hl => ?_)
  have loop_19 : ∀ (nn : Nat) (k : Nat) (x : Int32), 5 - k < nn → (k ≤ 5) → (x = fStep (fHits w pl br st n (fP pl t)) v k) → ∀ (ls : Array Slot), lv_has ls 7 [(0, .ref (a 5)), (4, .int (fMask (fAw w pl br st (fP pl t)) n)), (5, .int x), (6, .int (nI (k + 1)))] → W p l e (headSpec wsX0_windLeft ({ frames := 2, cells := 0, slots := 0, locals := 46 })).room s m ([.ref (a 5), .int (nI t), .int v, .int w] : List Value).toArray below meth c s.heap [] 0 0 (MQ below (vp_Si (fun r => r = fWind w pl br st n v (fP pl t))) ([.ref (a 5), .int (nI t), .int v, .int w] : List Value).toArray s 0 0 (fun _ => False)) (F0 m 19 ls []) := by
    intro nn
    induction nn with
    | zero => intro k x hm; exact absurd hm (by omega)
    | succ nn ih_19 =>
      intro k x hm hk hx9  ls hl
      refine lv_iload hx hb dX0_windLeft_19 (lv_at hl 3 rfl) ?_
      refine lv_bipush (v := 6) hx hb dX0_windLeft_21 (by decide) ?_
      refine lv_icmp_ge (tgt := 54) hx hb dX0_windLeft_23 (by decide) (fun c_23 => ?_) (fun c_23 => ?_)
      · have e8 : k = 5 := by have := (nI_leI (a := 6) (b := k + 1) (by omega) (by omega)).mp c_23; omega
        refine lv_iload hx hb dX0_windLeft_54 (lv_at hl 2 rfl) ?_
        exact k_endR (ty := .int) hx hb hr hlocks (rfl) (by rw [hx9, e8]; rfl) dX0_windLeft_56
      · have c_23 : k < 5 := Nat.lt_of_not_le (fun h => c_23 ((nI_leI (a := 6) (b := k + 1) (by omega) (by omega)).mpr (by omega)))
        refine lv_iload hx hb dX0_windLeft_26 (lv_at hl 1 rfl) ?_
        refine lv_iconst (v := 1) hx hb dX0_windLeft_28 (by decide) ?_
        refine lv_iload hx hb dX0_windLeft_29 (lv_at hl 3 rfl) ?_
        refine lv_ishl hx hb dX0_windLeft_31 ?_
        refine lv_iand hx hb dX0_windLeft_32 ?_
        refine lv_if_eq (tgt := 48) hx hb dX0_windLeft_33 (by decide) (fun c_33 => ?_) (fun c_33 => ?_)
        · have c_33 : fHits w pl br st n (fP pl t) (k + 1) = false := (fMask_bit (fun k => fAw_le hp) (by omega) (by omega) n).mp c_33
          refine lv_iinc (v := nI ((k + 1) + 1)) (lv' := [(6, .int (nI ((k + 1) + 1))), (0, .ref (a 5)), (4, .int (fMask (fAw w pl br st (fP pl t)) n)), (5, .int x)]) hx hb dX0_windLeft_48 hl (k := 3) rfl (nI_1 _) (by decide) rfl (fun ls hl => ?_)
          refine lv_goto (tgt := 19) hx hb dX0_windLeft_51 (by decide) ?_
          exact ih_19 (k + 1) x (by omega) (by omega) (by simp only [fStep]; rw [if_neg (by rw [c_33]; decide), hx9]) _ (lv_sub hl [1, 2, 3, 0] rfl)
        · have c_33 : fHits w pl br st n (fP pl t) (k + 1) = true := (Bool.not_eq_false _).mp (fun h => c_33 ((fMask_bit (fun k => fAw_le hp) (by omega) (by omega) n).mpr h))
          refine lv_iload hx hb dX0_windLeft_36 (lv_at hl 2 rfl) ?_
          refine lv_iload hx hb dX0_windLeft_38 (lv_at hl 2 rfl) ?_
          refine lv_iload hx hb dX0_windLeft_40 (lv_at hl 3 rfl) ?_
          refine k_ps (As := [.int x, .int (nI (k + 1))]) (rest := [.int x]) (nL := 7) ⟨hx, hb, hml, hown, hts⟩ (c_X0_takenByWake l x (k + 1) (by omega)) (va_cwS 2 hts gX0_windLeft_X0_takenByWake rfl rfl rfl (by decide +kernel) ⟨Nat.le_of_ble_eq_true rfl, Nat.le_of_ble_eq_true rfl⟩) rfl hl.1 rfl (Nat.le_of_ble_eq_true rfl) dX0_windLeft_42 ⟨Nat.zero_le _, Nat.zero_le _⟩ (fun r9 hr9 => ?_)
          subst hr9
          refine lv_isub hx hb dX0_windLeft_45 ?_
          refine lv_istore (lv' := [(5, .int (x - (fTaken x (k + 1)))), (0, .ref (a 5)), (4, .int (fMask (fAw w pl br st (fP pl t)) n)), (6, .int (nI (k + 1)))]) hx hb dX0_windLeft_46 hl (by decide) rfl (fun ls hl => ?_)
          refine lv_iinc (v := nI ((k + 1) + 1)) (lv' := [(6, .int (nI ((k + 1) + 1))), (5, .int (x - (fTaken x (k + 1)))), (0, .ref (a 5)), (4, .int (fMask (fAw w pl br st (fP pl t)) n))]) hx hb dX0_windLeft_48 hl (k := 3) rfl (nI_1 _) (by decide) rfl (fun ls hl => ?_)
          refine lv_goto (tgt := 19) hx hb dX0_windLeft_51 (by decide) ?_
          exact ih_19 (k + 1) (x - (fTaken x (k + 1))) (by omega) (by omega) (by simp only [fStep]; rw [if_pos c_33, hx9]) _ (lv_sub hl [2, 3, 1, 0] rfl)
  exact loop_19 (5 - 0 + 1) 0 v (by omega) (by omega) (rfl) _ (lv_sub hl [3, 2, 1, 0] rfl)

set_option maxHeartbeats 4000000 in
set_option maxRecDepth 100000 in
theorem c_X0_powerOf (l : Launch) (D : va_G) (a : Nat → Nat) (cI cZ : ClassId) (ta : Nat → Int32) (pl : Nat → Int32) (br : Nat → Int32) (st : Nat → Int32) (md : Nat → Int32) (bc : Int32) (n : Nat) (t : Nat) (v : Int32) (w : Int32) (hn : n ≤ 12) (ht : t < n) (hpl : ∀ k, k < n → pl k = nI (fP pl k) ∧ fP pl k < 24) : kRd l yX0_powerOf wsX0_powerOf ({ frames := 3, cells := 0, slots := 0, locals := 72 }) [.ref (a 5), .int (nI t), .int v, .int w] D cI cZ (wF a cI cZ ta pl br st md (nI n) bc) (fun r => r = fPw w pl br st n v t) := by
  refine Met.ofW (cc := cX0_powerOf) (maxL := 4) (ret := (some .int)) (by decide) rfl ?_
  intro p e s m args below meth c s₁ B hml hv
  obtain ⟨rfl, hP, hK⟩ := hv
  have hx := B.exec
  have hb := B.bytes
  have hr := B.returns
  have hts := atoms_spec (ws := wsX0_powerOf) B.pre
  have hown : s.vm.findClass RX0 = some m.cls := findClass_of_methodNamed B.named
  have hlocks := B.notSynchronized
  have hl := lv_entry ([.ref (a 5), .int (nI t), .int v, .int w]) (n := 4) (Nat.le_of_ble_eq_true rfl)
  rw [lg_entry_eq]
  generalize (lg_sl ([.ref (a 5), .int (nI t), .int v, .int w]) ++ List.replicate (4 - (lg_sl ([.ref (a 5), .int (nI t), .int v, .int w])).length) Slot.unset).toArray = ls at hl ⊢
  have hl : lv_has ls 4 [(0, .ref (a 5)), (1, .int (nI t)), (2, .int v), (3, .int w)] := hl
  refine lv_aload_n hx hb dX0_powerOf_0 rfl (lv_at hl 0 rfl) ?_
  refine lv_iload_n hx hb dX0_powerOf_1 rfl (lv_at hl 1 rfl) ?_
  refine k_rd (As := [.int (nI t)]) (rest := []) (nL := 4) ⟨hx, hb, hml, hown, hts⟩ hK hP (c_X0_turns l D a cI cZ ta pl br st md bc n t (hn) (by omega)) [0, 1, 2, 3, 4, 5] rfl 0 rfl rfl rfl (cwV 1 hts gX0_powerOf_X0_turns rfl rfl rfl (by decide +kernel) ⟨Nat.le_of_ble_eq_true rfl, Nat.le_of_ble_eq_true rfl⟩) rfl hl.1 rfl (Nat.le_of_ble_eq_true rfl) dX0_powerOf_2 ⟨Nat.zero_le _, Nat.zero_le _⟩ (fun r9 hr9 => ?_)
  subst hr9
  refine lv_if_eq (tgt := 21) hx hb dX0_powerOf_5 (by decide) (fun c_5 => ?_) (fun c_5 => ?_)
  · have c_5 := bI_0 c_5
    refine lv_iconst (v := 0) hx hb dX0_powerOf_21 (by decide) ?_
    exact k_endR (ty := .int) hx hb hr hlocks (rfl) (by unfold fPw; rw [if_neg c_5]) dX0_powerOf_22
  · have c_5 := bI_n c_5
    refine lv_aload_n hx hb dX0_powerOf_8 rfl (lv_at hl 0 rfl) ?_
    refine lv_iload_n hx hb dX0_powerOf_9 rfl (lv_at hl 1 rfl) ?_
    refine lv_iload_n hx hb dX0_powerOf_10 rfl (lv_at hl 2 rfl) ?_
    refine lv_iload_n hx hb dX0_powerOf_11 rfl (lv_at hl 3 rfl) ?_
    refine k_rd (As := [.int (nI t), .int v, .int w]) (rest := []) (nL := 4) ⟨hx, hb, hml, hown, hts⟩ hK hP (c_X0_windLeft l D a cI cZ ta pl br st md bc n t v w (hn) (by omega) (hpl)) [0, 1, 2, 3, 4, 5] rfl 0 rfl rfl rfl (cwV 3 hts gX0_powerOf_X0_windLeft rfl rfl rfl (by decide +kernel) ⟨Nat.le_of_ble_eq_true rfl, Nat.le_of_ble_eq_true rfl⟩) rfl hl.1 rfl (Nat.le_of_ble_eq_true rfl) dX0_powerOf_12 ⟨Nat.zero_le _, Nat.zero_le _⟩ (fun r9 hr9 => ?_)
    subst hr9
    refine k_pk (As := [.int (fWind w pl br st n v (fP pl t))]) (rest := []) (nL := 4) ⟨hx, hb, hml, hown, hts⟩ hK (c_X0_powerOfWind l D cI cZ (fWind w pl br st n v (fP pl t))) (va_cwS 1 hts gX0_powerOf_X0_powerOfWind rfl rfl rfl (by decide +kernel) ⟨Nat.le_of_ble_eq_true rfl, Nat.le_of_ble_eq_true rfl⟩) rfl hl.1 rfl (Nat.le_of_ble_eq_true rfl) dX0_powerOf_15 ⟨Nat.zero_le _, Nat.zero_le _⟩ (fun r9 hr9 => ?_)
    subst hr9
    refine lv_goto (tgt := 22) hx hb dX0_powerOf_18 (by decide) ?_
    exact k_endR (ty := .int) hx hb hr hlocks (rfl) (by unfold fPw; rw [if_pos c_5]) dX0_powerOf_22

set_option maxHeartbeats 4000000 in
set_option maxRecDepth 100000 in
theorem c_X0_powerOfAll (l : Launch) (D : va_G) (a : Nat → Nat) (cI cZ : ClassId) (ta : Nat → Int32) (pl : Nat → Int32) (br : Nat → Int32) (st : Nat → Int32) (md : Nat → Int32) (bc : Int32) (n : Nat) (v : Int32) (w : Int32) (hn : n ≤ 12) (hpl : ∀ k, k < n → pl k = nI (fP pl k) ∧ fP pl k < 24) : kRd l yX0_powerOfAll wsX0_powerOfAll ({ frames := 4, cells := 0, slots := 0, locals := 95 }) [.ref (a 5), .int v, .int w] D cI cZ (wF a cI cZ ta pl br st md (nI n) bc) (fun r => r = fSum (fPw w pl br st n v) n) := by
  refine Met.ofW (cc := cX0_powerOfAll) (maxL := 5) (ret := (some .int)) (by decide) rfl ?_
  intro p e s m args below meth c s₁ B hml hv
  obtain ⟨rfl, hP, hK⟩ := hv
  have hx := B.exec
  have hb := B.bytes
  have hr := B.returns
  have hts := atoms_spec (ws := wsX0_powerOfAll) B.pre
  have hown : s.vm.findClass RX0 = some m.cls := findClass_of_methodNamed B.named
  have hlocks := B.notSynchronized
  have hl := lv_entry ([.ref (a 5), .int v, .int w]) (n := 5) (Nat.le_of_ble_eq_true rfl)
  rw [lg_entry_eq]
  generalize (lg_sl ([.ref (a 5), .int v, .int w]) ++ List.replicate (5 - (lg_sl ([.ref (a 5), .int v, .int w])).length) Slot.unset).toArray = ls at hl ⊢
  have hl : lv_has ls 5 [(0, .ref (a 5)), (1, .int v), (2, .int w)] := hl
  refine lv_iconst (v := 0) hx hb dX0_powerOfAll_0 (by decide) ?_
  refine lv_istore_n (lv' := [(3, .int 0), (0, .ref (a 5)), (1, .int v), (2, .int w)]) hx hb dX0_powerOfAll_1 rfl hl (by decide) rfl (fun ls hl => ?_)
  refine lv_iconst (v := 0) hx hb dX0_powerOfAll_2 (by decide) ?_
  refine lv_istore (lv' := [(4, .int 0), (3, .int 0), (0, .ref (a 5)), (1, .int v), (2, .int w)]) hx hb dX0_powerOfAll_3 hl (by decide) rfl (fun ls hl => ?_)
  have loop_5 : ∀ (nn : Nat) (k : Nat) (x : Int32), n - k < nn → (k ≤ n) → (x = fSum (fPw w pl br st n v) k) → ∀ (ls : Array Slot), lv_has ls 5 [(0, .ref (a 5)), (1, .int v), (2, .int w), (3, .int x), (4, .int (nI k))] → W p l e (headSpec wsX0_powerOfAll ({ frames := 4, cells := 0, slots := 0, locals := 95 })).room s m ([.ref (a 5), .int v, .int w] : List Value).toArray below meth c s.heap [] 0 0 (MQ below (vp_Si (fun r => r = fSum (fPw w pl br st n v) n)) ([.ref (a 5), .int v, .int w] : List Value).toArray s 0 0 (fun _ => False)) (F0 m 5 ls []) := by
    intro nn
    induction nn with
    | zero => intro k x hm; exact absurd hm (by omega)
    | succ nn ih_5 =>
      intro k x hm hk hx9  ls hl
      refine lv_iload hx hb dX0_powerOfAll_5 (lv_at hl 4 rfl) ?_
      refine lv_aload_n hx hb dX0_powerOfAll_7 rfl (lv_at hl 0 rfl) ?_
      refine va_get (D := D) (ci := 0) (v := .int (nI n)) (C := RX0) (T := TX0) (N := 7) hx hb hts (by decide +kernel) hown hK.1 hP 0 rfl rfl 5 (by decide) (hts (.fieldLink RX0 28 "Turbineorchard$Field" "count" "I") (by decide +kernel)) (fun _ h9 => h9) rfl dX0_powerOfAll_8 ?_
      refine lv_icmp_ge (tgt := 31) hx hb dX0_powerOfAll_11 (by decide) (fun c_11 => ?_) (fun c_11 => ?_)
      · have e8 : k = n := by have := (nI_leI (a := n) (b := k) (by omega) (by omega)).mp c_11; omega
        refine lv_iload_n hx hb dX0_powerOfAll_31 rfl (lv_at hl 3 rfl) ?_
        exact k_endR (ty := .int) hx hb hr hlocks (rfl) (by rw [hx9, e8]) dX0_powerOfAll_32
      · have c_11 : k < n := Nat.lt_of_not_le (fun h => c_11 ((nI_leI (a := n) (b := k) (by omega) (by omega)).mpr h))
        refine lv_iload_n hx hb dX0_powerOfAll_14 rfl (lv_at hl 3 rfl) ?_
        refine lv_aload_n hx hb dX0_powerOfAll_15 rfl (lv_at hl 0 rfl) ?_
        refine lv_iload hx hb dX0_powerOfAll_16 (lv_at hl 4 rfl) ?_
        refine lv_iload_n hx hb dX0_powerOfAll_18 rfl (lv_at hl 1 rfl) ?_
        refine lv_iload_n hx hb dX0_powerOfAll_19 rfl (lv_at hl 2 rfl) ?_
        refine k_rd (As := [.int (nI k), .int v, .int w]) (rest := [.int x]) (nL := 5) ⟨hx, hb, hml, hown, hts⟩ hK hP (c_X0_powerOf l D a cI cZ ta pl br st md bc n k v w (hn) (by omega) (hpl)) [0, 1, 2, 3, 4, 5] rfl 0 rfl rfl rfl (cwV 3 hts gX0_powerOfAll_X0_powerOf rfl rfl rfl (by decide +kernel) ⟨Nat.le_of_ble_eq_true rfl, Nat.le_of_ble_eq_true rfl⟩) rfl hl.1 rfl (Nat.le_of_ble_eq_true rfl) dX0_powerOfAll_20 ⟨Nat.zero_le _, Nat.zero_le _⟩ (fun r9 hr9 => ?_)
        subst hr9
        refine lv_iadd hx hb dX0_powerOfAll_23 ?_
        refine lv_istore_n (lv' := [(3, .int (x + (fPw w pl br st n v k))), (0, .ref (a 5)), (1, .int v), (2, .int w), (4, .int (nI k))]) hx hb dX0_powerOfAll_24 rfl hl (by decide) rfl (fun ls hl => ?_)
        refine lv_iinc (v := nI (k + 1)) (lv' := [(4, .int (nI (k + 1))), (3, .int (x + (fPw w pl br st n v k))), (0, .ref (a 5)), (1, .int v), (2, .int w)]) hx hb dX0_powerOfAll_25 hl (k := 4) rfl (nI_1 _) (by decide) rfl (fun ls hl => ?_)
        refine lv_goto (tgt := 5) hx hb dX0_powerOfAll_28 (by decide) ?_
        exact ih_5 (k + 1) (x + (fPw w pl br st n v k)) (by omega) (by omega) (by rw [hx9]; rfl) _ (lv_sub hl [2, 3, 4, 1, 0] rfl)
  exact loop_5 (n - 0 + 1) 0 0 (by omega) (by omega) (rfl) _ (lv_sub hl [2, 3, 4, 1, 0] rfl)

set_option maxHeartbeats 4000000 in
set_option maxRecDepth 100000 in
theorem c_X0_generate (l : Launch) (D : va_G) (a : Nat → Nat) (cI cZ : ClassId) (sz : Nat) (ta : Nat → Int32) (pl : Nat → Int32) (br : Nat → Int32) (st : Nat → Int32) (md : Nat → Int32) (bc : Int32) (n : Nat) (v : Int32) (w : Int32) (hn : n ≤ 12) (hpl : ∀ k, k < n → pl k = nI (fP pl k) ∧ fP pl k < 24) : kUi l yX0_generate wsX0_generate ({ frames := 4, cells := 0, slots := 0, locals := 95 }) [.ref (a 5), .int v, .int w] D cI cZ sz (wF a cI cZ ta pl br st md (nI n) bc) (wF a cI cZ ta pl br st (fAddR md (fPw w pl br st n v) n) (nI n) bc) (fun r => r = fSum (fPw w pl br st n v) n) := by
  refine Met.ofW (cc := cX0_generate) (maxL := 6) (ret := (some .int)) (by decide) rfl ?_
  intro p e s m args below meth c s₁ B hml hv
  obtain ⟨rfl, hsz, hP, hK, hD0⟩ := hv
  have hx := B.exec
  have hb := B.bytes
  have hr := B.returns
  have hts := atoms_spec (ws := wsX0_generate) B.pre
  have hown : s.vm.findClass RX0 = some m.cls := findClass_of_methodNamed B.named
  have hlocks := B.notSynchronized
  subst hsz
  have hD := hD0.self (sz := s.heap.size)
  generalize hAe : va_A (wF a cI cZ ta pl br st md (nI n) bc) s.heap.size = A at hD ⊢
  have hA : ∀ q : Nat, s.heap.size ≤ q → A q := fun q h => by rw [← hAe]; exact Or.inr h
  have hS : va_S A s.heap s.heap [] := va_S.rf
  have hl := lv_entry ([.ref (a 5), .int v, .int w]) (n := 6) (Nat.le_of_ble_eq_true rfl)
  rw [lg_entry_eq]
  generalize (lg_sl ([.ref (a 5), .int v, .int w]) ++ List.replicate (6 - (lg_sl ([.ref (a 5), .int v, .int w])).length) Slot.unset).toArray = ls at hl ⊢
  have hl : lv_has ls 6 [(0, .ref (a 5)), (1, .int v), (2, .int w)] := hl
  refine lv_iconst (v := 0) hx hb dX0_generate_0 (by decide) ?_
  have e9 : md = (fAddR md (fPw w pl br st n v) 0) := (fAddR_0 md _).symm
  rw [e9] at hP hD
  clear e9
  refine lv_istore_n (lv' := [(3, .int 0), (0, .ref (a 5)), (1, .int v), (2, .int w)]) hx hb dX0_generate_1 rfl hl (by decide) rfl (fun ls hl => ?_)
  refine lv_iconst (v := 0) hx hb dX0_generate_2 (by decide) ?_
  refine lv_istore (lv' := [(4, .int 0), (3, .int 0), (0, .ref (a 5)), (1, .int v), (2, .int w)]) hx hb dX0_generate_3 hl (by decide) rfl (fun ls hl => ?_)
  have loop_5 : ∀ (nn : Nat) (k : Nat) (x : Int32), n - k < nn → (k ≤ n) → (x = fSum (fPw w pl br st n v) k) → ∀ (H : Heap) (locs : List Loc), va_P D vwCl (wF a cI cZ ta pl br st (fAddR md (fPw w pl br st n v) k) (nI n) bc) H → va_D A (wF a cI cZ ta pl br st (fAddR md (fPw w pl br st n v) k) (nI n) bc) → va_S A s.heap H locs → ∀ (ls : Array Slot), lv_has ls 6 [(0, .ref (a 5)), (1, .int v), (2, .int w), (3, .int x), (4, .int (nI k))] → W p l e (headSpec wsX0_generate ({ frames := 4, cells := 0, slots := 0, locals := 95 })).room s m ([.ref (a 5), .int v, .int w] : List Value).toArray below meth c H locs 0 0 (MQ below (va_Qi (fun (r : Int32) (_ : Unit) => (fun r => r = fSum (fPw w pl br st n v) n) r) (fun _ t9 => kAt D A (wF a cI cZ ta pl br st (fAddR md (fPw w pl br st n v) n) (nI n) bc) t9) A) ([.ref (a 5), .int v, .int w] : List Value).toArray s 0 0 A) (F0 m 5 ls []) := by
    intro nn
    induction nn with
    | zero => intro k x hm; exact absurd hm (by omega)
    | succ nn ih_5 =>
      intro k x hm hk hx9 H locs hP hD hS ls hl
      refine lv_iload hx hb dX0_generate_5 (lv_at hl 4 rfl) ?_
      refine lv_aload_n hx hb dX0_generate_7 rfl (lv_at hl 0 rfl) ?_
      refine va_get (D := D) (ci := 0) (v := .int (nI n)) (C := RX0) (T := TX0) (N := 7) hx hb hts (by decide +kernel) hown hK.1 hP 0 rfl rfl 5 (by decide) (hts (.fieldLink RX0 28 "Turbineorchard$Field" "count" "I") (by decide +kernel)) (fun _ h9 => h9) rfl dX0_generate_8 ?_
      refine lv_icmp_ge (tgt := 47) hx hb dX0_generate_11 (by decide) (fun c_11 => ?_) (fun c_11 => ?_)
      · have e8 : k = n := by have := (nI_leI (a := n) (b := k) (by omega) (by omega)).mp c_11; omega
        rw [e8] at hP hD hx9
        refine lv_iload_n hx hb dX0_generate_47 rfl (lv_at hl 3 rfl) ?_
        exact k_endI (ty := .int) hx hb hr hlocks (rfl) (hx9) hP hD hS dX0_generate_48
      · have c_11 : k < n := Nat.lt_of_not_le (fun h => c_11 ((nI_leI (a := n) (b := k) (by omega) (by omega)).mpr h))
        refine lv_aload_n hx hb dX0_generate_14 rfl (lv_at hl 0 rfl) ?_
        refine lv_iload hx hb dX0_generate_15 (lv_at hl 4 rfl) ?_
        refine lv_iload_n hx hb dX0_generate_17 rfl (lv_at hl 1 rfl) ?_
        refine lv_iload_n hx hb dX0_generate_18 rfl (lv_at hl 2 rfl) ?_
        refine k_rd (As := [.int (nI k), .int v, .int w]) (rest := []) (nL := 6) ⟨hx, hb, hml, hown, hts⟩ hK hP (c_X0_powerOf l D a cI cZ ta pl br st (fAddR md (fPw w pl br st n v) k) bc n k v w (hn) (by omega) (hpl)) [0, 1, 2, 3, 4, 5] rfl 0 rfl rfl rfl (cwV 3 hts gX0_generate_X0_powerOf rfl rfl rfl (by decide +kernel) ⟨Nat.le_of_ble_eq_true rfl, Nat.le_of_ble_eq_true rfl⟩) rfl hl.1 rfl (Nat.le_of_ble_eq_true rfl) dX0_generate_19 ⟨Nat.zero_le _, Nat.zero_le _⟩ (fun r9 hr9 => ?_)
        subst hr9
        refine lv_istore (lv' := [(5, .int (fPw w pl br st n v k)), (0, .ref (a 5)), (1, .int v), (2, .int w), (3, .int x), (4, .int (nI k))]) hx hb dX0_generate_22 hl (by decide) rfl (fun ls hl => ?_)
        refine lv_aload_n hx hb dX0_generate_24 rfl (lv_at hl 1 rfl) ?_
        refine va_get (D := D) (ci := 0) (v := .ref (a 10)) (C := RX0) (T := TX0) (N := 7) hx hb hts (by decide +kernel) hown hK.1 hP 0 rfl rfl 4 (by decide) (hts (.fieldLink RX0 25 "Turbineorchard$Field" "madeInAll" "[I") (by decide +kernel)) (fun _ h9 => h9) rfl dX0_generate_25 ?_
        refine lv_iload hx hb dX0_generate_28 (lv_at hl 5 rfl) ?_
        refine lv_dup2_11 hx hb dX0_generate_30 rfl rfl ?_
        refine k_iald hx hb hK.1 hP 5 0 rfl rfl k (rfl) (by omega) (by decide) dX0_generate_31 ?_
        refine lv_iload hx hb dX0_generate_32 (lv_at hl 0 rfl) ?_
        refine lv_iadd hx hb dX0_generate_34 ?_
        refine k_iast hx hb hK.1 hP hD hS 5 0 rfl rfl k (rfl) (by omega) (by decide) dX0_generate_35 (fun H locs hP hD hS => ?_)
        have hP : va_P D vwCl (wF a cI cZ ta pl br st (upd (fAddR md (fPw w pl br st n v) k) k (((fAddR md (fPw w pl br st n v) k) k) + (fPw w pl br st n v k))) (nI n) bc) H := hP
        have hD : va_D A (wF a cI cZ ta pl br st (upd (fAddR md (fPw w pl br st n v) k) k (((fAddR md (fPw w pl br st n v) k) k) + (fPw w pl br st n v k))) (nI n) bc) := hD
        have e9 : (upd (fAddR md (fPw w pl br st n v) k) k (((fAddR md (fPw w pl br st n v) k) k) + (fPw w pl br st n v k))) = (fAddR md (fPw w pl br st n v) (k + 1)) := fAddR_1 md _ k
        rw [e9] at hP hD
        clear e9
        refine lv_iload_n hx hb dX0_generate_36 rfl (lv_at hl 4 rfl) ?_
        refine lv_iload hx hb dX0_generate_37 (lv_at hl 0 rfl) ?_
        refine lv_iadd hx hb dX0_generate_39 ?_
        refine lv_istore_n (lv' := [(3, .int (x + (fPw w pl br st n v k))), (5, .int (fPw w pl br st n v k)), (0, .ref (a 5)), (1, .int v), (2, .int w), (4, .int (nI k))]) hx hb dX0_generate_40 rfl hl (by decide) rfl (fun ls hl => ?_)
        refine lv_iinc (v := nI (k + 1)) (lv' := [(4, .int (nI (k + 1))), (3, .int (x + (fPw w pl br st n v k))), (5, .int (fPw w pl br st n v k)), (0, .ref (a 5)), (1, .int v), (2, .int w)]) hx hb dX0_generate_41 hl (k := 5) rfl (nI_1 _) (by decide) rfl (fun ls hl => ?_)
        refine lv_goto (tgt := 5) hx hb dX0_generate_44 (by decide) ?_
        exact ih_5 (k + 1) (x + (fPw w pl br st n v k)) (by omega) (by omega) (by rw [hx9]; rfl) _ _ hP hD hS _ (lv_sub hl [3, 4, 5, 1, 0] rfl)
  exact loop_5 (n - 0 + 1) 0 0 (by omega) (by omega) (rfl) _ _ hP hD hS _ (lv_sub hl [2, 3, 4, 1, 0] rfl)

set_option maxHeartbeats 4000000 in
set_option maxRecDepth 100000 in
theorem c_X0_windLeftAnew (l : Launch) (D : va_G) (a : Nat → Nat) (cI cZ : ClassId) (ta : Nat → Int32) (pl : Nat → Int32) (br : Nat → Int32) (st : Nat → Int32) (md : Nat → Int32) (bc : Int32) (n : Nat) (q : Nat) (v : Int32) (w : Int32) (hn : n ≤ 12) (hq : q < 24) : kRd l yX0_windLeftAnew wsX0_windLeftAnew ({ frames := 2, cells := 0, slots := 0, locals := 43 }) [.ref (a 5), .int (nI q), .int v, .int w] D cI cZ (wF a cI cZ ta pl br st md (nI n) bc) (fun r => r = fAnew w ta br st n v q) := by
  refine Met.ofW (cc := cX0_windLeftAnew) (maxL := 9) (ret := (some .int)) (by decide) rfl ?_
  intro p e s m args below meth c s₁ B hml hv
  obtain ⟨rfl, hP, hK⟩ := hv
  have hx := B.exec
  have hb := B.bytes
  have hr := B.returns
  have hts := atoms_spec (ws := wsX0_windLeftAnew) B.pre
  have hown : s.vm.findClass RX0 = some m.cls := findClass_of_methodNamed B.named
  have hlocks := B.notSynchronized
  have hl := lv_entry ([.ref (a 5), .int (nI q), .int v, .int w]) (n := 9) (Nat.le_of_ble_eq_true rfl)
  rw [lg_entry_eq]
  generalize (lg_sl ([.ref (a 5), .int (nI q), .int v, .int w]) ++ List.replicate (9 - (lg_sl ([.ref (a 5), .int (nI q), .int v, .int w])).length) Slot.unset).toArray = ls at hl ⊢
  have hl : lv_has ls 9 [(0, .ref (a 5)), (1, .int (nI q)), (2, .int v), (3, .int w)] := hl
  have join_10 :  ∀ (ls : Array Slot), lv_has ls 9 [(0, .ref (a 5)), (1, .int (nI q)), (2, .int v), (3, .int w)] → W p l e (headSpec wsX0_windLeftAnew ({ frames := 2, cells := 0, slots := 0, locals := 43 })).room s m ([.ref (a 5), .int (nI q), .int v, .int w] : List Value).toArray below meth c s.heap [] 0 0 (MQ below (vp_Si (fun r => r = fAnew w ta br st n v q)) ([.ref (a 5), .int (nI q), .int v, .int w] : List Value).toArray s 0 0 (fun _ => False)) (F0 m 10 ls [.int (nI (fPace w))]) := by
    intro    ls hl
    refine lv_istore (lv' := [(4, .int (nI (fPace w))), (0, .ref (a 5)), (1, .int (nI q)), (2, .int v), (3, .int w)]) hx hb dX0_windLeftAnew_10 hl (by decide) rfl (fun ls hl => ?_)
    have ha := fAhd_lt (w := w) hq
    refine lv_iload_n hx hb dX0_windLeftAnew_12 rfl (lv_at hl 2 rfl) ?_
    refine lv_iload_n hx hb dX0_windLeftAnew_13 rfl (lv_at hl 4 rfl) ?_
    refine k_ps (As := [.int (nI q), .int w]) (rest := []) (nL := 9) ⟨hx, hb, hml, hown, hts⟩ (c_X0_placesAhead l q w (by omega)) (va_cwS 2 hts gX0_windLeftAnew_X0_placesAhead rfl rfl rfl (by decide +kernel) ⟨Nat.le_of_ble_eq_true rfl, Nat.le_of_ble_eq_true rfl⟩) rfl hl.1 rfl (Nat.le_of_ble_eq_true rfl) dX0_windLeftAnew_14 ⟨Nat.zero_le _, Nat.zero_le _⟩ (fun r9 hr9 => ?_)
    subst hr9
    refine lv_istore (lv' := [(5, .int (nI (fAhd w q))), (4, .int (nI (fPace w))), (0, .ref (a 5)), (1, .int (nI q)), (2, .int v), (3, .int w)]) hx hb dX0_windLeftAnew_17 hl (by decide) rfl (fun ls hl => ?_)
    refine lv_iload_n hx hb dX0_windLeftAnew_19 rfl (lv_at hl 4 rfl) ?_
    refine lv_istore (lv' := [(6, .int v), (5, .int (nI (fAhd w q))), (4, .int (nI (fPace w))), (0, .ref (a 5)), (1, .int (nI q)), (2, .int v), (3, .int w)]) hx hb dX0_windLeftAnew_20 hl (by decide) rfl (fun ls hl => ?_)
    refine lv_iconst (v := 1) hx hb dX0_windLeftAnew_22 (by decide) ?_
    refine lv_istore (lv' := [(7, .int 1), (6, .int v), (5, .int (nI (fAhd w q))), (4, .int (nI (fPace w))), (0, .ref (a 5)), (1, .int (nI q)), (2, .int v), (3, .int w)]) hx hb dX0_windLeftAnew_23 hl (by decide) rfl (fun ls hl => ?_)
    have loop_25 : ∀ (nn : Nat) (k : Nat) (x : Int32), fAhd w q - k < nn → (k ≤ fAhd w q) → (x = fStep (fun d => fOther n ta br st (q - d * fPace w)) v k) → ∀ (ls : Array Slot), lv_has ls 9 [(0, .ref (a 5)), (1, .int (nI q)), (4, .int (nI (fPace w))), (5, .int (nI (fAhd w q))), (6, .int x), (7, .int (nI (k + 1)))] → W p l e (headSpec wsX0_windLeftAnew ({ frames := 2, cells := 0, slots := 0, locals := 43 })).room s m ([.ref (a 5), .int (nI q), .int v, .int w] : List Value).toArray below meth c s.heap [] 0 0 (MQ below (vp_Si (fun r => r = fAnew w ta br st n v q)) ([.ref (a 5), .int (nI q), .int v, .int w] : List Value).toArray s 0 0 (fun _ => False)) (F0 m 25 ls []) := by
      intro nn
      induction nn with
      | zero => intro k x hm; exact absurd hm (by omega)
      | succ nn ih_25 =>
        intro k x hm hk hx9  ls hl
        refine lv_iload hx hb dX0_windLeftAnew_25 (lv_at hl 5 rfl) ?_
        refine lv_iload hx hb dX0_windLeftAnew_27 (lv_at hl 3 rfl) ?_
        refine lv_icmp_gt (tgt := 82) hx hb dX0_windLeftAnew_29 (by decide) (fun c_29 => ?_) (fun c_29 => ?_)
        · have e8 : k = fAhd w q := by have := (nI_ltI (a := fAhd w q) (b := k + 1) (by omega) (by omega)).mp c_29; omega
          refine lv_iload hx hb dX0_windLeftAnew_82 (lv_at hl 4 rfl) ?_
          exact k_endR (ty := .int) hx hb hr hlocks (rfl) (by rw [hx9, e8]; rfl) dX0_windLeftAnew_84
        · have c_29 : k + 1 ≤ fAhd w q := Nat.le_of_not_lt (fun h => c_29 ((nI_ltI (a := fAhd w q) (b := k + 1) (by omega) (by omega)).mpr h))
          refine lv_aload_n hx hb dX0_windLeftAnew_32 rfl (lv_at hl 0 rfl) ?_
          refine va_get (D := D) (ci := 0) (v := .ref (a 6)) (C := RX0) (T := TX0) (N := 7) hx hb hts (by decide +kernel) hown hK.1 hP 0 rfl rfl 0 (by decide) (hts (.fieldLink RX0 9 "Turbineorchard$Field" "turbineAt" "[I") (by decide +kernel)) (fun _ h9 => h9) rfl dX0_windLeftAnew_33 ?_
          refine lv_iload_n hx hb dX0_windLeftAnew_36 rfl (lv_at hl 1 rfl) ?_
          refine lv_iload hx hb dX0_windLeftAnew_37 (lv_at hl 5 rfl) ?_
          refine lv_iload hx hb dX0_windLeftAnew_39 (lv_at hl 2 rfl) ?_
          refine lv_imul hx hb dX0_windLeftAnew_41 ?_
          refine lv_isub hx hb dX0_windLeftAnew_42 ?_
          have hpc := pace_in (d := k + 1) hq c_29
          refine k_rw (y := nI (q - (k + 1) * fPace w)) (by rw [pk_mul, pk_sub hpc]) ?_
          refine k_iald hx hb hK.1 hP 1 0 rfl rfl (q - (k + 1) * fPace w) (rfl) (by omega) (by decide) dX0_windLeftAnew_43 ?_
          refine lv_istore (lv' := [(8, .int (ta (q - (k + 1) * fPace w))), (0, .ref (a 5)), (1, .int (nI q)), (4, .int (nI (fPace w))), (5, .int (nI (fAhd w q))), (6, .int x), (7, .int (nI (k + 1)))]) hx hb dX0_windLeftAnew_44 hl (by decide) rfl (fun ls hl => ?_)
          refine lv_aload_n hx hb dX0_windLeftAnew_46 rfl (lv_at hl 1 rfl) ?_
          refine lv_iload hx hb dX0_windLeftAnew_47 (lv_at hl 0 rfl) ?_
          refine k_rd (As := [.int (ta (q - (k + 1) * fPace w))]) (rest := []) (nL := 9) ⟨hx, hb, hml, hown, hts⟩ hK hP (c_X0_has l D a cI cZ ta pl br st md bc n (ta (q - (k + 1) * fPace w)) (hn)) [0, 1, 2, 3, 4, 5] rfl 0 rfl rfl rfl (cwV 1 hts gX0_windLeftAnew_X0_has rfl rfl rfl (by decide +kernel) ⟨Nat.le_of_ble_eq_true rfl, Nat.le_of_ble_eq_true rfl⟩) rfl hl.1 rfl (Nat.le_of_ble_eq_true rfl) dX0_windLeftAnew_49 ⟨Nat.zero_le _, Nat.zero_le _⟩ (fun r9 hr9 => ?_)
          subst hr9
          refine lv_if_eq (tgt := 76) hx hb dX0_windLeftAnew_52 (by decide) (fun c_52 => ?_) (fun c_52 => ?_)
          · have c_52 := bI_0 c_52
            refine lv_iinc (v := nI ((k + 1) + 1)) (lv' := [(7, .int (nI ((k + 1) + 1))), (8, .int (ta (q - (k + 1) * fPace w))), (0, .ref (a 5)), (1, .int (nI q)), (4, .int (nI (fPace w))), (5, .int (nI (fAhd w q))), (6, .int x)]) hx hb dX0_windLeftAnew_76 hl (k := 6) rfl (nI_1 _) (by decide) rfl (fun ls hl => ?_)
            refine lv_goto (tgt := 25) hx hb dX0_windLeftAnew_79 (by decide) ?_
            exact ih_25 (k + 1) x (by omega) (by omega) (by simp only [fStep]; rw [if_neg (fun h => c_52 (of_decide_eq_true h).1), hx9]) _ (lv_sub hl [2, 3, 4, 5, 6, 0] rfl)
          · have c_52 := bI_n c_52
            have c9 := hasT_P hn c_52
            refine lv_aload_n hx hb dX0_windLeftAnew_55 rfl (lv_at hl 1 rfl) ?_
            refine lv_iload hx hb dX0_windLeftAnew_56 (lv_at hl 0 rfl) ?_
            refine k_rw (y := nI (fP ta (q - (k + 1) * fPace w))) (c9.2) ?_
            refine k_rd (As := [.int (nI (fP ta (q - (k + 1) * fPace w)))]) (rest := []) (nL := 9) ⟨hx, hb, hml, hown, hts⟩ hK hP (c_X0_turns l D a cI cZ ta pl br st md bc n (fP ta (q - (k + 1) * fPace w)) (hn) (c9.1)) [0, 1, 2, 3, 4, 5] rfl 0 rfl rfl rfl (cwV 1 hts gX0_windLeftAnew_X0_turns rfl rfl rfl (by decide +kernel) ⟨Nat.le_of_ble_eq_true rfl, Nat.le_of_ble_eq_true rfl⟩) rfl hl.1 rfl (Nat.le_of_ble_eq_true rfl) dX0_windLeftAnew_58 ⟨Nat.zero_le _, Nat.zero_le _⟩ (fun r9 hr9 => ?_)
            subst hr9
            refine lv_if_eq (tgt := 76) hx hb dX0_windLeftAnew_61 (by decide) (fun c_61 => ?_) (fun c_61 => ?_)
            · have c_61 := bI_0 c_61
              refine lv_iinc (v := nI ((k + 1) + 1)) (lv' := [(7, .int (nI ((k + 1) + 1))), (8, .int (ta (q - (k + 1) * fPace w))), (0, .ref (a 5)), (1, .int (nI q)), (4, .int (nI (fPace w))), (5, .int (nI (fAhd w q))), (6, .int x)]) hx hb dX0_windLeftAnew_76 hl (k := 6) rfl (nI_1 _) (by decide) rfl (fun ls hl => ?_)
              refine lv_goto (tgt := 25) hx hb dX0_windLeftAnew_79 (by decide) ?_
              exact ih_25 (k + 1) x (by omega) (by omega) (by simp only [fStep]; rw [if_neg (fun h => c_61 (of_decide_eq_true h).2), hx9]) _ (lv_sub hl [2, 3, 4, 5, 6, 0] rfl)
            · have c_61 := bI_n c_61
              refine lv_iload hx hb dX0_windLeftAnew_64 (lv_at hl 5 rfl) ?_
              refine lv_iload hx hb dX0_windLeftAnew_66 (lv_at hl 5 rfl) ?_
              refine lv_iload hx hb dX0_windLeftAnew_68 (lv_at hl 6 rfl) ?_
              refine k_ps (As := [.int x, .int (nI (k + 1))]) (rest := [.int x]) (nL := 9) ⟨hx, hb, hml, hown, hts⟩ (c_X0_takenByWake l x (k + 1) (by omega)) (va_cwS 2 hts gX0_windLeftAnew_X0_takenByWake rfl rfl rfl (by decide +kernel) ⟨Nat.le_of_ble_eq_true rfl, Nat.le_of_ble_eq_true rfl⟩) rfl hl.1 rfl (Nat.le_of_ble_eq_true rfl) dX0_windLeftAnew_70 ⟨Nat.zero_le _, Nat.zero_le _⟩ (fun r9 hr9 => ?_)
              subst hr9
              refine lv_isub hx hb dX0_windLeftAnew_73 ?_
              refine lv_istore (lv' := [(6, .int (x - (fTaken x (k + 1)))), (8, .int (ta (q - (k + 1) * fPace w))), (0, .ref (a 5)), (1, .int (nI q)), (4, .int (nI (fPace w))), (5, .int (nI (fAhd w q))), (7, .int (nI (k + 1)))]) hx hb dX0_windLeftAnew_74 hl (by decide) rfl (fun ls hl => ?_)
              refine lv_iinc (v := nI ((k + 1) + 1)) (lv' := [(7, .int (nI ((k + 1) + 1))), (6, .int (x - (fTaken x (k + 1)))), (8, .int (ta (q - (k + 1) * fPace w))), (0, .ref (a 5)), (1, .int (nI q)), (4, .int (nI (fPace w))), (5, .int (nI (fAhd w q)))]) hx hb dX0_windLeftAnew_76 hl (k := 6) rfl (nI_1 _) (by decide) rfl (fun ls hl => ?_)
              refine lv_goto (tgt := 25) hx hb dX0_windLeftAnew_79 (by decide) ?_
              exact ih_25 (k + 1) (x - (fTaken x (k + 1))) (by omega) (by omega) (by simp only [fStep]; rw [if_pos (show fOther n ta br st (q - (k + 1) * fPace w) = true from decide_eq_true ⟨c_52, c_61⟩), hx9]) _ (lv_sub hl [3, 4, 5, 6, 1, 0] rfl)
    exact loop_25 (fAhd w q - 0 + 1) 0 v (by omega) (by omega) (rfl) _ (lv_sub hl [4, 5, 3, 2, 1, 0] rfl)
  refine lv_iload_n hx hb dX0_windLeftAnew_0 rfl (lv_at hl 3 rfl) ?_
  refine lv_if_eq (tgt := 8) hx hb dX0_windLeftAnew_1 (by decide) (fun c_1 => ?_) (fun c_1 => ?_)
  · refine lv_bipush (v := 6) hx hb dX0_windLeftAnew_8 (by decide) ?_
    refine k_rw (y := nI (fPace w)) (by unfold fPace; rw [if_pos c_1]; rfl) ?_
    exact join_10   _ (lv_sub hl [0, 1, 2, 3] rfl)
  · refine lv_iconst (v := 1) hx hb dX0_windLeftAnew_4 (by decide) ?_
    refine lv_goto (tgt := 10) hx hb dX0_windLeftAnew_5 (by decide) ?_
    refine k_rw (y := nI (fPace w)) (by unfold fPace; rw [if_neg c_1]; rfl) ?_
    exact join_10   _ (lv_sub hl [0, 1, 2, 3] rfl)

set_option maxHeartbeats 4000000 in
set_option maxRecDepth 100000 in
theorem c_X0_powerOfAllAnew (l : Launch) (D : va_G) (a : Nat → Nat) (cI cZ : ClassId) (ta : Nat → Int32) (pl : Nat → Int32) (br : Nat → Int32) (st : Nat → Int32) (md : Nat → Int32) (bc : Int32) (n : Nat) (v : Int32) (w : Int32) (hn : n ≤ 12) (hpl : ∀ k, k < n → pl k = nI (fP pl k) ∧ fP pl k < 24) : kRd l yX0_powerOfAllAnew wsX0_powerOfAllAnew ({ frames := 3, cells := 0, slots := 0, locals := 71 }) [.ref (a 5), .int v, .int w] D cI cZ (wF a cI cZ ta pl br st md (nI n) bc) (fun r => r = fSum (fPwAnew w pl ta br st n v) n) := by
  refine Met.ofW (cc := cX0_powerOfAllAnew) (maxL := 5) (ret := (some .int)) (by decide) rfl ?_
  intro p e s m args below meth c s₁ B hml hv
  obtain ⟨rfl, hP, hK⟩ := hv
  have hx := B.exec
  have hb := B.bytes
  have hr := B.returns
  have hts := atoms_spec (ws := wsX0_powerOfAllAnew) B.pre
  have hown : s.vm.findClass RX0 = some m.cls := findClass_of_methodNamed B.named
  have hlocks := B.notSynchronized
  have hl := lv_entry ([.ref (a 5), .int v, .int w]) (n := 5) (Nat.le_of_ble_eq_true rfl)
  rw [lg_entry_eq]
  generalize (lg_sl ([.ref (a 5), .int v, .int w]) ++ List.replicate (5 - (lg_sl ([.ref (a 5), .int v, .int w])).length) Slot.unset).toArray = ls at hl ⊢
  have hl : lv_has ls 5 [(0, .ref (a 5)), (1, .int v), (2, .int w)] := hl
  refine lv_iconst (v := 0) hx hb dX0_powerOfAllAnew_0 (by decide) ?_
  refine lv_istore_n (lv' := [(3, .int 0), (0, .ref (a 5)), (1, .int v), (2, .int w)]) hx hb dX0_powerOfAllAnew_1 rfl hl (by decide) rfl (fun ls hl => ?_)
  refine lv_aload_n hx hb dX0_powerOfAllAnew_2 rfl (lv_at hl 1 rfl) ?_
  refine va_get (D := D) (ci := 0) (v := .int (nI n)) (C := RX0) (T := TX0) (N := 7) hx hb hts (by decide +kernel) hown hK.1 hP 0 rfl rfl 5 (by decide) (hts (.fieldLink RX0 28 "Turbineorchard$Field" "count" "I") (by decide +kernel)) (fun _ h9 => h9) rfl dX0_powerOfAllAnew_3 ?_
  refine lv_iconst (v := 1) hx hb dX0_powerOfAllAnew_6 (by decide) ?_
  refine lv_isub hx hb dX0_powerOfAllAnew_7 ?_
  refine k_rw (y := nI n + -1) (by rw [Int32.sub_eq_add_neg]) ?_
  refine lv_istore (lv' := [(4, .int (nI n + -1)), (3, .int 0), (0, .ref (a 5)), (1, .int v), (2, .int w)]) hx hb dX0_powerOfAllAnew_8 hl (by decide) rfl (fun ls hl => ?_)
  have loop_10 : ∀ (nn : Nat) (j : Nat) (x : Int32), j < nn → (j ≤ n) → (x = fSum (fPwAnew w pl ta br st n v) n - fSum (fPwAnew w pl ta br st n v) j) → ∀ (ls : Array Slot), lv_has ls 5 [(0, .ref (a 5)), (1, .int v), (2, .int w), (3, .int x), (4, .int (nI j + -1))] → W p l e (headSpec wsX0_powerOfAllAnew ({ frames := 3, cells := 0, slots := 0, locals := 71 })).room s m ([.ref (a 5), .int v, .int w] : List Value).toArray below meth c s.heap [] 0 0 (MQ below (vp_Si (fun r => r = fSum (fPwAnew w pl ta br st n v) n)) ([.ref (a 5), .int v, .int w] : List Value).toArray s 0 0 (fun _ => False)) (F0 m 10 ls []) := by
    intro nn
    induction nn with
    | zero => intro j x hm; exact absurd hm (by omega)
    | succ nn ih_10 =>
      intro j x hm hj hx9  ls hl
      refine lv_iload hx hb dX0_powerOfAllAnew_10 (lv_at hl 4 rfl) ?_
      refine lv_if_lt (tgt := 49) hx hb dX0_powerOfAllAnew_12 (by decide) (fun c_12 => ?_) (fun c_12 => ?_)
      · have e8 : j = 0 := (nI_m1_lt (by omega)).mp c_12
        refine lv_iload_n hx hb dX0_powerOfAllAnew_49 rfl (lv_at hl 3 rfl) ?_
        exact k_endR (ty := .int) hx hb hr hlocks (rfl) (by rw [hx9, e8]; exact Int32.sub_zero _) dX0_powerOfAllAnew_50
      · have h8 : ¬ j = 0 := fun h => c_12 ((nI_m1_lt (by omega)).mpr h)
        obtain ⟨k, rfl⟩ : ∃ k, j = k + 1 := ⟨j - 1, by omega⟩
        rw [pk_m1] at hl
        refine lv_aload_n hx hb dX0_powerOfAllAnew_15 rfl (lv_at hl 0 rfl) ?_
        refine lv_iload hx hb dX0_powerOfAllAnew_16 (lv_at hl 4 rfl) ?_
        refine k_rd (As := [.int (nI k)]) (rest := []) (nL := 5) ⟨hx, hb, hml, hown, hts⟩ hK hP (c_X0_turns l D a cI cZ ta pl br st md bc n k (hn) (by omega)) [0, 1, 2, 3, 4, 5] rfl 0 rfl rfl rfl (cwV 1 hts gX0_powerOfAllAnew_X0_turns rfl rfl rfl (by decide +kernel) ⟨Nat.le_of_ble_eq_true rfl, Nat.le_of_ble_eq_true rfl⟩) rfl hl.1 rfl (Nat.le_of_ble_eq_true rfl) dX0_powerOfAllAnew_18 ⟨Nat.zero_le _, Nat.zero_le _⟩ (fun r9 hr9 => ?_)
        subst hr9
        refine lv_if_eq (tgt := 43) hx hb dX0_powerOfAllAnew_21 (by decide) (fun c_21 => ?_) (fun c_21 => ?_)
        · have c_21 := bI_0 c_21
          refine lv_iinc (v := (nI k) + (-1)) (lv' := [(4, .int ((nI k) + (-1))), (0, .ref (a 5)), (1, .int v), (2, .int w), (3, .int x)]) hx hb dX0_powerOfAllAnew_43 hl (k := 4) rfl (rfl) (by decide) rfl (fun ls hl => ?_)
          refine lv_goto (tgt := 10) hx hb dX0_powerOfAllAnew_46 (by decide) ?_
          exact ih_10 k x (by omega) (by omega) (by rw [hx9, ← fSum_back _ n k, show (fPwAnew w pl ta br st n v) k = 0 from if_neg c_21, Int32.add_zero]) _ (lv_sub hl [1, 2, 3, 4, 0] rfl)
        · have c_21 := bI_n c_21
          refine lv_iload_n hx hb dX0_powerOfAllAnew_24 rfl (lv_at hl 3 rfl) ?_
          refine lv_aload_n hx hb dX0_powerOfAllAnew_25 rfl (lv_at hl 0 rfl) ?_
          refine lv_aload_n hx hb dX0_powerOfAllAnew_26 rfl (lv_at hl 0 rfl) ?_
          refine va_get (D := D) (ci := 0) (v := .ref (a 7)) (C := RX0) (T := TX0) (N := 7) hx hb hts (by decide +kernel) hown hK.1 hP 0 rfl rfl 1 (by decide) (hts (.fieldLink RX0 15 "Turbineorchard$Field" "places" "[I") (by decide +kernel)) (fun _ h9 => h9) rfl dX0_powerOfAllAnew_27 ?_
          refine lv_iload hx hb dX0_powerOfAllAnew_30 (lv_at hl 4 rfl) ?_
          refine k_iald hx hb hK.1 hP 2 0 rfl rfl k (rfl) (by omega) (by decide) dX0_powerOfAllAnew_32 ?_
          refine k_rw (y := nI (fP pl k)) ((hpl k (by omega)).1) ?_
          refine lv_iload_n hx hb dX0_powerOfAllAnew_33 rfl (lv_at hl 1 rfl) ?_
          refine lv_iload_n hx hb dX0_powerOfAllAnew_34 rfl (lv_at hl 2 rfl) ?_
          refine k_rd (As := [.int (nI (fP pl k)), .int v, .int w]) (rest := [.int x]) (nL := 5) ⟨hx, hb, hml, hown, hts⟩ hK hP (c_X0_windLeftAnew l D a cI cZ ta pl br st md bc n (fP pl k) v w (hn) ((hpl k (by omega)).2)) [0, 1, 2, 3, 4, 5] rfl 0 rfl rfl rfl (cwV 3 hts gX0_powerOfAllAnew_X0_windLeftAnew rfl rfl rfl (by decide +kernel) ⟨Nat.le_of_ble_eq_true rfl, Nat.le_of_ble_eq_true rfl⟩) rfl hl.1 rfl (Nat.le_of_ble_eq_true rfl) dX0_powerOfAllAnew_35 ⟨Nat.zero_le _, Nat.zero_le _⟩ (fun r9 hr9 => ?_)
          subst hr9
          refine k_pk (As := [.int (fAnew w ta br st n v (fP pl k))]) (rest := [.int x]) (nL := 5) ⟨hx, hb, hml, hown, hts⟩ hK (c_X0_powerOfWind l D cI cZ (fAnew w ta br st n v (fP pl k))) (va_cwS 1 hts gX0_powerOfAllAnew_X0_powerOfWind rfl rfl rfl (by decide +kernel) ⟨Nat.le_of_ble_eq_true rfl, Nat.le_of_ble_eq_true rfl⟩) rfl hl.1 rfl (Nat.le_of_ble_eq_true rfl) dX0_powerOfAllAnew_38 ⟨Nat.zero_le _, Nat.zero_le _⟩ (fun r9 hr9 => ?_)
          subst hr9
          refine lv_iadd hx hb dX0_powerOfAllAnew_41 ?_
          refine lv_istore_n (lv' := [(3, .int (x + (fPow (fAnew w ta br st n v (fP pl k))))), (0, .ref (a 5)), (1, .int v), (2, .int w), (4, .int (nI k))]) hx hb dX0_powerOfAllAnew_42 rfl hl (by decide) rfl (fun ls hl => ?_)
          refine lv_iinc (v := (nI k) + (-1)) (lv' := [(4, .int ((nI k) + (-1))), (3, .int (x + (fPow (fAnew w ta br st n v (fP pl k))))), (0, .ref (a 5)), (1, .int v), (2, .int w)]) hx hb dX0_powerOfAllAnew_43 hl (k := 4) rfl (rfl) (by decide) rfl (fun ls hl => ?_)
          refine lv_goto (tgt := 10) hx hb dX0_powerOfAllAnew_46 (by decide) ?_
          exact ih_10 k (x + (fPow (fAnew w ta br st n v (fP pl k)))) (by omega) (by omega) (by rw [hx9, ← fSum_back _ n k, show (fPwAnew w pl ta br st n v) k = _ from if_pos c_21]) _ (lv_sub hl [2, 3, 4, 1, 0] rfl)
  exact loop_10 (n + 1) n 0 (by omega) (by omega) ((Int32.sub_self _).symm) _ (lv_sub hl [2, 3, 4, 1, 0] rfl)
