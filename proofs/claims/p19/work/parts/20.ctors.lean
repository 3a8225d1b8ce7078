set_option maxHeartbeats 8000000 in
set_option maxRecDepth 100000 in
theorem c_X3_init (l : Launch) (D : va_G) (h0 : Nat) (cI cZ : ClassId) (sz : Nat) : kC l yX3_init wsX3_init ({ frames := 1, cells := 3, slots := 1440, locals := 12 }) h0 D cI cZ sz [(h0, .inr (3, [.null, .null, .null]))] 1 (fun a => (wW a cI cZ (setR (fun _ => 0) 0 480 10) (fun _ => 0) (setR (fun _ => 0) 0 480 (-1)))) 3 1440 := by
  refine Met.ofW (cc := cX3_init) (maxL := 2) (ret := none) (by decide) rfl ?_
  intro p e s m args below meth c s₁ B hml hv
  obtain ⟨rfl, hsz, hP, hK, hD0⟩ := hv
  have hx := B.exec
  have hb := B.bytes
  have hr := B.returns
  have hts := atoms_spec (ws := wsX3_init) B.pre
  have hown : s.vm.findClass RX3 = some m.cls := findClass_of_methodNamed B.named
  have hlocks := B.notSynchronized
  have hin : meth.name = "<init>" := (name_of_methodNamed B.named B.method).1
  subst hsz
  have hD := hD0.self (sz := s.heap.size)
  generalize hAe : va_A [(h0, .inr (3, [.null, .null, .null]))] s.heap.size = A at hD ⊢
  have hA : ∀ q : Nat, s.heap.size ≤ q → A q := fun q h => by rw [← hAe]; exact Or.inr h
  have hS : va_S A s.heap s.heap [] := va_S.rf
  clear hAe hD0
  have hl := lv_entry ([.ref h0]) (n := 2) (Nat.le_of_ble_eq_true rfl)
  rw [lg_entry_eq]
  generalize (lg_sl ([.ref h0]) ++ List.replicate (2 - (lg_sl ([.ref h0])).length) Slot.unset).toArray = ls at hl ⊢
  have hl : lv_has ls 2 [(0, .ref h0)] := hl
  refine lv_aload_n hx hb dX3_init_0 rfl (lv_at hl 0 rfl) ?_
  refine W.objInit hx hb hown (hts (.methodLink RX3 3 objectInit) (by decide +kernel)) (hts (.instanceMethod objectInit) (by decide +kernel)) (hts (.code objectInit ⟨#[0xb1]⟩ 1 none) (by decide +kernel)) rfl (by rw [hml]; exact hl.1) rfl dX3_init_1 (Nat.le_of_ble_eq_true rfl) (Nat.le_of_ble_eq_true rfl) ?_
  refine W.eq (g2 := F0 m 4 ls []) rfl ?_
  refine lv_aload_n hx hb dX3_init_4 rfl (lv_at hl 0 rfl) ?_
  refine lv_sipush (v := 480) hx hb dX3_init_5 (by decide) ?_
  refine k_newI hx hb (hts (.arrayClass .int) (by decide +kernel)) hK hP hD hS hA 480 rfl (by decide) (Nat.le_of_ble_eq_true rfl) (Nat.le_of_ble_eq_true rfl) dX3_init_8 (fun q1 H hP hD hS => ?_)
  have hP : va_P D vwCl ([(h0, .inr (3, [.null, .null, .null])), (q1, .inl (cI, 480, .inl (fun _ => 0)))]) H := hP
  have hD : va_D A ([(h0, .inr (3, [.null, .null, .null])), (q1, .inl (cI, 480, .inl (fun _ => 0)))]) := hD
  refine va_putF (D := D) (ci := 3) (v := .ref q1) (ty := .array .int) (C := RX3) (T := TX3) (N := 3) hx hb hts (by decide +kernel) tyX3 tyX3_ok nmX3 hown hK.1 hP hD hS 0 rfl rfl 0 (by decide) (hts (.fieldLink RX3 9 "Turbineorchard$Weather" "speeds" "[I") (by decide +kernel)) (fun _ h9 => h9) rfl hin rfl (by decide +kernel) rfl rfl (Nat.le_of_ble_eq_true rfl) dX3_init_10 (fun H locs hP hD hS => ?_)
  have hP : va_P D vwCl ([(h0, .inr (3, [.ref q1, .null, .null])), (q1, .inl (cI, 480, .inl (fun _ => 0)))]) H := hP
  have hD : va_D A ([(h0, .inr (3, [.ref q1, .null, .null])), (q1, .inl (cI, 480, .inl (fun _ => 0)))]) := hD
  refine lv_aload_n hx hb dX3_init_13 rfl (lv_at hl 0 rfl) ?_
  refine lv_sipush (v := 480) hx hb dX3_init_14 (by decide) ?_
  refine k_newZ hx hb (hts (.arrayClass .boolean) (by decide +kernel)) hK hP hD hS hA 480 rfl (by decide) (Nat.le_of_ble_eq_true rfl) (Nat.le_of_ble_eq_true rfl) dX3_init_17 (fun q2 H hP hD hS => ?_)
  have hP : va_P D vwCl ([(h0, .inr (3, [.ref q1, .null, .null])), (q1, .inl (cI, 480, .inl (fun _ => 0))), (q2, .inl (cZ, 480, .inl (fun _ => 0)))]) H := hP
  have hD : va_D A ([(h0, .inr (3, [.ref q1, .null, .null])), (q1, .inl (cI, 480, .inl (fun _ => 0))), (q2, .inl (cZ, 480, .inl (fun _ => 0)))]) := hD
  refine va_putF (D := D) (ci := 3) (v := .ref q2) (ty := .array .boolean) (C := RX3) (T := TX3) (N := 3) hx hb hts (by decide +kernel) tyX3 tyX3_ok nmX3 hown hK.1 hP hD hS 0 rfl rfl 1 (by decide) (hts (.fieldLink RX3 15 "Turbineorchard$Weather" "wests" "[Z") (by decide +kernel)) (fun _ h9 => h9) rfl hin rfl (by decide +kernel) rfl rfl (Nat.le_of_ble_eq_true rfl) dX3_init_19 (fun H locs hP hD hS => ?_)
  have hP : va_P D vwCl ([(h0, .inr (3, [.ref q1, .ref q2, .null])), (q1, .inl (cI, 480, .inl (fun _ => 0))), (q2, .inl (cZ, 480, .inl (fun _ => 0)))]) H := hP
  have hD : va_D A ([(h0, .inr (3, [.ref q1, .ref q2, .null])), (q1, .inl (cI, 480, .inl (fun _ => 0))), (q2, .inl (cZ, 480, .inl (fun _ => 0)))]) := hD
  refine lv_aload_n hx hb dX3_init_22 rfl (lv_at hl 0 rfl) ?_
  refine lv_sipush (v := 480) hx hb dX3_init_23 (by decide) ?_
  refine k_newI hx hb (hts (.arrayClass .int) (by decide +kernel)) hK hP hD hS hA 480 rfl (by decide) (Nat.le_of_ble_eq_true rfl) (Nat.le_of_ble_eq_true rfl) dX3_init_26 (fun q3 H hP hD hS => ?_)
  have hP : va_P D vwCl ([(h0, .inr (3, [.ref q1, .ref q2, .null])), (q1, .inl (cI, 480, .inl (fun _ => 0))), (q2, .inl (cZ, 480, .inl (fun _ => 0))), (q3, .inl (cI, 480, .inl (fun _ => 0)))]) H := hP
  have hD : va_D A ([(h0, .inr (3, [.ref q1, .ref q2, .null])), (q1, .inl (cI, 480, .inl (fun _ => 0))), (q2, .inl (cZ, 480, .inl (fun _ => 0))), (q3, .inl (cI, 480, .inl (fun _ => 0)))]) := hD
  refine va_putF (D := D) (ci := 3) (v := .ref q3) (ty := .array .int) (C := RX3) (T := TX3) (N := 3) hx hb hts (by decide +kernel) tyX3 tyX3_ok nmX3 hown hK.1 hP hD hS 0 rfl rfl 2 (by decide) (hts (.fieldLink RX3 19 "Turbineorchard$Weather" "toldWaves" "[I") (by decide +kernel)) (fun _ h9 => h9) rfl hin rfl (by decide +kernel) rfl rfl (Nat.le_of_ble_eq_true rfl) dX3_init_28 (fun H locs hP hD hS => ?_)
  have hP : va_P D vwCl ([(h0, .inr (3, [.ref q1, .ref q2, .ref q3])), (q1, .inl (cI, 480, .inl (fun _ => 0))), (q2, .inl (cZ, 480, .inl (fun _ => 0))), (q3, .inl (cI, 480, .inl (fun _ => 0)))]) H := hP
  have hD : va_D A ([(h0, .inr (3, [.ref q1, .ref q2, .ref q3])), (q1, .inl (cI, 480, .inl (fun _ => 0))), (q2, .inl (cZ, 480, .inl (fun _ => 0))), (q3, .inl (cI, 480, .inl (fun _ => 0)))]) := hD
  obtain ⟨a, ha1, hPn, hDn⟩ : ∃ a : Nat → Nat, a 1 = h0 ∧ va_P D vwCl (wW a cI cZ (fun _ => 0) (fun _ => 0) (fun _ => 0)) H ∧ va_D A (wW a cI cZ (fun _ => 0) (fun _ => 0) (fun _ => 0)) := ⟨fun k => match k with | 1 => h0 | 2 => q1 | 3 => q2 | _ => q3, rfl, hP, hD⟩
  subst ha1
  have hP := hPn
  have hD := hDn
  refine lv_iconst (v := 0) hx hb dX3_init_31 (by decide) ?_
  have e9 : (setR (fun _ => 0) 0 0 10) = (fun _ => 0) := setR_0 _ 0 _
  have hP : va_P D vwCl (wW a cI cZ (setR (fun _ => 0) 0 0 10) (fun _ => 0) (fun _ => 0)) H := by rw [e9]; exact hP
  have hD : va_D A (wW a cI cZ (setR (fun _ => 0) 0 0 10) (fun _ => 0) (fun _ => 0)) := by rw [e9]; exact hD
  clear e9
  have e9 : (setR (fun _ => 0) 0 0 (-1)) = (fun _ => 0) := setR_0 _ 0 _
  have hP : va_P D vwCl (wW a cI cZ (setR (fun _ => 0) 0 0 10) (fun _ => 0) (setR (fun _ => 0) 0 0 (-1))) H := by rw [e9]; exact hP
  have hD : va_D A (wW a cI cZ (setR (fun _ => 0) 0 0 10) (fun _ => 0) (setR (fun _ => 0) 0 0 (-1))) := by rw [e9]; exact hD
  clear e9
  refine lv_istore_n (lv' := [(1, .int 0), (0, .ref (a 1))]) hx hb dX3_init_32 rfl hl (by decide) rfl (fun ls hl => ?_)
  have loop_33 : ∀ (nn : Nat) (k : Nat), 480 - k < nn → (k ≤ 480) → ∀ (H : Heap) (locs : List Loc), va_P D vwCl (wW a cI cZ (setR (fun _ => 0) 0 k 10) (fun _ => 0) (setR (fun _ => 0) 0 k (-1))) H → va_D A (wW a cI cZ (setR (fun _ => 0) 0 k 10) (fun _ => 0) (setR (fun _ => 0) 0 k (-1))) → va_S A s.heap H locs → ∀ (ls : Array Slot), lv_has ls 2 [(0, .ref (a 1)), (1, .int (nI k))] → W p l e (headSpec wsX3_init ({ frames := 1, cells := 3, slots := 1440, locals := 12 })).room s m ([.ref (a 1)] : List Value).toArray below meth c H locs 3 1440 (MQ below (va_Qv (fun f : Nat → Nat => f 1 = a 1) (fun f t9 => kAt D A ((fun a => (wW a cI cZ (setR (fun _ => 0) 0 480 10) (fun _ => 0) (setR (fun _ => 0) 0 480 (-1)))) f) t9) A) ([.ref (a 1)] : List Value).toArray s 3 1440 A) (F0 m 33 ls []) := by
    intro nn
    induction nn with
    | zero => intro k hm; exact absurd hm (by omega)
    | succ nn ih_33 =>
      intro k hm hk H locs hP hD hS ls hl
      refine lv_iload_n hx hb dX3_init_33 rfl (lv_at hl 1 rfl) ?_
      refine lv_sipush (v := 480) hx hb dX3_init_34 (by decide) ?_
      refine lv_icmp_ge (tgt := 61) hx hb dX3_init_37 (by decide) (fun c_37 => ?_) (fun c_37 => ?_)
      · have e8 : k = 480 := by have := (nI_leI (a := 480) (b := k) (by omega) (by omega)).mp c_37; omega
        subst e8
        exact k_endC (W' := (fun a => (wW a cI cZ (setR (fun _ => 0) 0 480 10) (fun _ => 0) (setR (fun _ => 0) 0 480 (-1))))) (f := a) (base := 1) hx hb hr hlocks rfl hP hD hS dX3_init_61
      · have c_37 : k < 480 := Nat.lt_of_not_le (fun h => c_37 ((nI_leI (a := 480) (b := k) (by omega) (by omega)).mpr h))
        refine lv_aload_n hx hb dX3_init_40 rfl (lv_at hl 0 rfl) ?_
        refine va_get (D := D) (ci := 3) (v := .ref (a 2)) (C := RX3) (T := TX3) (N := 3) hx hb hts (by decide +kernel) hown hK.1 hP 0 rfl rfl 0 (by decide) (hts (.fieldLink RX3 9 "Turbineorchard$Weather" "speeds" "[I") (by decide +kernel)) (fun _ h9 => h9) rfl dX3_init_41 ?_
        refine lv_iload_n hx hb dX3_init_44 rfl (lv_at hl 1 rfl) ?_
        refine lv_bipush (v := 10) hx hb dX3_init_45 (by decide) ?_
        refine k_iast hx hb hK.1 hP hD hS 1 0 rfl rfl k (rfl) (by omega) (by decide) dX3_init_47 (fun H locs hP hD hS => ?_)
        have hP : va_P D vwCl (wW a cI cZ (upd (setR (fun _ => 0) 0 k 10) k 10) (fun _ => 0) (setR (fun _ => 0) 0 k (-1))) H := hP
        have hD : va_D A (wW a cI cZ (upd (setR (fun _ => 0) 0 k 10) k 10) (fun _ => 0) (setR (fun _ => 0) 0 k (-1))) := hD
        refine lv_aload_n hx hb dX3_init_48 rfl (lv_at hl 0 rfl) ?_
        refine va_get (D := D) (ci := 3) (v := .ref (a 4)) (C := RX3) (T := TX3) (N := 3) hx hb hts (by decide +kernel) hown hK.1 hP 0 rfl rfl 2 (by decide) (hts (.fieldLink RX3 19 "Turbineorchard$Weather" "toldWaves" "[I") (by decide +kernel)) (fun _ h9 => h9) rfl dX3_init_49 ?_
        refine lv_iload_n hx hb dX3_init_52 rfl (lv_at hl 1 rfl) ?_
        refine lv_iconst (v := (-1)) hx hb dX3_init_53 (by decide) ?_
        refine k_iast hx hb hK.1 hP hD hS 3 0 rfl rfl k (rfl) (by omega) (by decide) dX3_init_54 (fun H locs hP hD hS => ?_)
        have hP : va_P D vwCl (wW a cI cZ (upd (setR (fun _ => 0) 0 k 10) k 10) (fun _ => 0) (upd (setR (fun _ => 0) 0 k (-1)) k (-1))) H := hP
        have hD : va_D A (wW a cI cZ (upd (setR (fun _ => 0) 0 k 10) k 10) (fun _ => 0) (upd (setR (fun _ => 0) 0 k (-1)) k (-1))) := hD
        have e9 : (upd (setR (fun _ => 0) 0 k 10) k 10) = (setR (fun _ => 0) 0 (k + 1) 10) := setR_1 _ _ (Nat.zero_le k)
        rw [e9] at hP hD
        clear e9
        have e9 : (upd (setR (fun _ => 0) 0 k (-1)) k (-1)) = (setR (fun _ => 0) 0 (k + 1) (-1)) := setR_1 _ _ (Nat.zero_le k)
        rw [e9] at hP hD
        clear e9
        refine lv_iinc (v := nI (k + 1)) (lv' := [(1, .int (nI (k + 1))), (0, .ref (a 1))]) hx hb dX3_init_55 hl (k := 1) rfl (nI_1 _) (by decide) rfl (fun ls hl => ?_)
        refine lv_goto (tgt := 33) hx hb dX3_init_58 (by decide) ?_
        exact ih_33 (k + 1) (by omega) (by omega) _ _ hP hD hS _ (lv_sub hl [1, 0] rfl)
  exact loop_33 (480 - 0 + 1) 0 (by omega) (by omega) _ _ hP hD hS _ (lv_sub hl [1, 0] rfl)

set_option maxHeartbeats 8000000 in
set_option maxRecDepth 100000 in
theorem c_X0_init (l : Launch) (D : va_G) (h0 : Nat) (cI cZ : ClassId) (sz : Nat) : kC l yX0_init wsX0_init ({ frames := 1, cells := 5, slots := 72, locals := 12 }) h0 D cI cZ sz [(h0, .inr (0, [.null, .null, .null, .null, .null, .int 0, .int 0]))] 5 (fun a => (wF a cI cZ (setR (fun _ => 0) 0 24 (-1)) (fun _ => 0) (fun _ => 0) (fun _ => 0) (fun _ => 0) 0 0)) 5 72 := by
  refine Met.ofW (cc := cX0_init) (maxL := 2) (ret := none) (by decide) rfl ?_
  intro p e s m args below meth c s₁ B hml hv
  obtain ⟨rfl, hsz, hP, hK, hD0⟩ := hv
  have hx := B.exec
  have hb := B.bytes
  have hr := B.returns
  have hts := atoms_spec (ws := wsX0_init) B.pre
  have hown : s.vm.findClass RX0 = some m.cls := findClass_of_methodNamed B.named
  have hlocks := B.notSynchronized
  have hin : meth.name = "<init>" := (name_of_methodNamed B.named B.method).1
  subst hsz
  have hD := hD0.self (sz := s.heap.size)
  generalize hAe : va_A [(h0, .inr (0, [.null, .null, .null, .null, .null, .int 0, .int 0]))] s.heap.size = A at hD ⊢
  have hA : ∀ q : Nat, s.heap.size ≤ q → A q := fun q h => by rw [← hAe]; exact Or.inr h
  have hS : va_S A s.heap s.heap [] := va_S.rf
  clear hAe hD0
  have hl := lv_entry ([.ref h0]) (n := 2) (Nat.le_of_ble_eq_true rfl)
  rw [lg_entry_eq]
  generalize (lg_sl ([.ref h0]) ++ List.replicate (2 - (lg_sl ([.ref h0])).length) Slot.unset).toArray = ls at hl ⊢
  have hl : lv_has ls 2 [(0, .ref h0)] := hl
  refine lv_aload_n hx hb dX0_init_0 rfl (lv_at hl 0 rfl) ?_
  refine W.objInit hx hb hown (hts (.methodLink RX0 3 objectInit) (by decide +kernel)) (hts (.instanceMethod objectInit) (by decide +kernel)) (hts (.code objectInit ⟨#[0xb1]⟩ 1 none) (by decide +kernel)) rfl (by rw [hml]; exact hl.1) rfl dX0_init_1 (Nat.le_of_ble_eq_true rfl) (Nat.le_of_ble_eq_true rfl) ?_
  refine W.eq (g2 := F0 m 4 ls []) rfl ?_
  refine lv_aload_n hx hb dX0_init_4 rfl (lv_at hl 0 rfl) ?_
  refine lv_bipush (v := 24) hx hb dX0_init_5 (by decide) ?_
  refine k_newI hx hb (hts (.arrayClass .int) (by decide +kernel)) hK hP hD hS hA 24 rfl (by decide) (Nat.le_of_ble_eq_true rfl) (Nat.le_of_ble_eq_true rfl) dX0_init_7 (fun q1 H hP hD hS => ?_)
  have hP : va_P D vwCl ([(h0, .inr (0, [.null, .null, .null, .null, .null, .int 0, .int 0])), (q1, .inl (cI, 24, .inl (fun _ => 0)))]) H := hP
  have hD : va_D A ([(h0, .inr (0, [.null, .null, .null, .null, .null, .int 0, .int 0])), (q1, .inl (cI, 24, .inl (fun _ => 0)))]) := hD
  refine va_putF (D := D) (ci := 0) (v := .ref q1) (ty := .array .int) (C := RX0) (T := TX0) (N := 7) hx hb hts (by decide +kernel) tyX0 tyX0_ok nmX0 hown hK.1 hP hD hS 0 rfl rfl 0 (by decide) (hts (.fieldLink RX0 9 "Turbineorchard$Field" "turbineAt" "[I") (by decide +kernel)) (fun _ h9 => h9) rfl hin rfl (by decide +kernel) rfl rfl (Nat.le_of_ble_eq_true rfl) dX0_init_9 (fun H locs hP hD hS => ?_)
  have hP : va_P D vwCl ([(h0, .inr (0, [.ref q1, .null, .null, .null, .null, .int 0, .int 0])), (q1, .inl (cI, 24, .inl (fun _ => 0)))]) H := hP
  have hD : va_D A ([(h0, .inr (0, [.ref q1, .null, .null, .null, .null, .int 0, .int 0])), (q1, .inl (cI, 24, .inl (fun _ => 0)))]) := hD
  refine lv_aload_n hx hb dX0_init_12 rfl (lv_at hl 0 rfl) ?_
  refine lv_bipush (v := 12) hx hb dX0_init_13 (by decide) ?_
  refine k_newI hx hb (hts (.arrayClass .int) (by decide +kernel)) hK hP hD hS hA 12 rfl (by decide) (Nat.le_of_ble_eq_true rfl) (Nat.le_of_ble_eq_true rfl) dX0_init_15 (fun q2 H hP hD hS => ?_)
  have hP : va_P D vwCl ([(h0, .inr (0, [.ref q1, .null, .null, .null, .null, .int 0, .int 0])), (q1, .inl (cI, 24, .inl (fun _ => 0))), (q2, .inl (cI, 12, .inl (fun _ => 0)))]) H := hP
  have hD : va_D A ([(h0, .inr (0, [.ref q1, .null, .null, .null, .null, .int 0, .int 0])), (q1, .inl (cI, 24, .inl (fun _ => 0))), (q2, .inl (cI, 12, .inl (fun _ => 0)))]) := hD
  refine va_putF (D := D) (ci := 0) (v := .ref q2) (ty := .array .int) (C := RX0) (T := TX0) (N := 7) hx hb hts (by decide +kernel) tyX0 tyX0_ok nmX0 hown hK.1 hP hD hS 0 rfl rfl 1 (by decide) (hts (.fieldLink RX0 15 "Turbineorchard$Field" "places" "[I") (by decide +kernel)) (fun _ h9 => h9) rfl hin rfl (by decide +kernel) rfl rfl (Nat.le_of_ble_eq_true rfl) dX0_init_17 (fun H locs hP hD hS => ?_)
  have hP : va_P D vwCl ([(h0, .inr (0, [.ref q1, .ref q2, .null, .null, .null, .int 0, .int 0])), (q1, .inl (cI, 24, .inl (fun _ => 0))), (q2, .inl (cI, 12, .inl (fun _ => 0)))]) H := hP
  have hD : va_D A ([(h0, .inr (0, [.ref q1, .ref q2, .null, .null, .null, .int 0, .int 0])), (q1, .inl (cI, 24, .inl (fun _ => 0))), (q2, .inl (cI, 12, .inl (fun _ => 0)))]) := hD
  refine lv_aload_n hx hb dX0_init_20 rfl (lv_at hl 0 rfl) ?_
  refine lv_bipush (v := 12) hx hb dX0_init_21 (by decide) ?_
  refine k_newZ hx hb (hts (.arrayClass .boolean) (by decide +kernel)) hK hP hD hS hA 12 rfl (by decide) (Nat.le_of_ble_eq_true rfl) (Nat.le_of_ble_eq_true rfl) dX0_init_23 (fun q3 H hP hD hS => ?_)
  have hP : va_P D vwCl ([(h0, .inr (0, [.ref q1, .ref q2, .null, .null, .null, .int 0, .int 0])), (q1, .inl (cI, 24, .inl (fun _ => 0))), (q2, .inl (cI, 12, .inl (fun _ => 0))), (q3, .inl (cZ, 12, .inl (fun _ => 0)))]) H := hP
  have hD : va_D A ([(h0, .inr (0, [.ref q1, .ref q2, .null, .null, .null, .int 0, .int 0])), (q1, .inl (cI, 24, .inl (fun _ => 0))), (q2, .inl (cI, 12, .inl (fun _ => 0))), (q3, .inl (cZ, 12, .inl (fun _ => 0)))]) := hD
  refine va_putF (D := D) (ci := 0) (v := .ref q3) (ty := .array .boolean) (C := RX0) (T := TX0) (N := 7) hx hb hts (by decide +kernel) tyX0 tyX0_ok nmX0 hown hK.1 hP hD hS 0 rfl rfl 2 (by decide) (hts (.fieldLink RX0 18 "Turbineorchard$Field" "broken" "[Z") (by decide +kernel)) (fun _ h9 => h9) rfl hin rfl (by decide +kernel) rfl rfl (Nat.le_of_ble_eq_true rfl) dX0_init_25 (fun H locs hP hD hS => ?_)
  have hP : va_P D vwCl ([(h0, .inr (0, [.ref q1, .ref q2, .ref q3, .null, .null, .int 0, .int 0])), (q1, .inl (cI, 24, .inl (fun _ => 0))), (q2, .inl (cI, 12, .inl (fun _ => 0))), (q3, .inl (cZ, 12, .inl (fun _ => 0)))]) H := hP
  have hD : va_D A ([(h0, .inr (0, [.ref q1, .ref q2, .ref q3, .null, .null, .int 0, .int 0])), (q1, .inl (cI, 24, .inl (fun _ => 0))), (q2, .inl (cI, 12, .inl (fun _ => 0))), (q3, .inl (cZ, 12, .inl (fun _ => 0)))]) := hD
  refine lv_aload_n hx hb dX0_init_28 rfl (lv_at hl 0 rfl) ?_
  refine lv_bipush (v := 12) hx hb dX0_init_29 (by decide) ?_
  refine k_newZ hx hb (hts (.arrayClass .boolean) (by decide +kernel)) hK hP hD hS hA 12 rfl (by decide) (Nat.le_of_ble_eq_true rfl) (Nat.le_of_ble_eq_true rfl) dX0_init_31 (fun q4 H hP hD hS => ?_)
  have hP : va_P D vwCl ([(h0, .inr (0, [.ref q1, .ref q2, .ref q3, .null, .null, .int 0, .int 0])), (q1, .inl (cI, 24, .inl (fun _ => 0))), (q2, .inl (cI, 12, .inl (fun _ => 0))), (q3, .inl (cZ, 12, .inl (fun _ => 0))), (q4, .inl (cZ, 12, .inl (fun _ => 0)))]) H := hP
  have hD : va_D A ([(h0, .inr (0, [.ref q1, .ref q2, .ref q3, .null, .null, .int 0, .int 0])), (q1, .inl (cI, 24, .inl (fun _ => 0))), (q2, .inl (cI, 12, .inl (fun _ => 0))), (q3, .inl (cZ, 12, .inl (fun _ => 0))), (q4, .inl (cZ, 12, .inl (fun _ => 0)))]) := hD
  refine va_putF (D := D) (ci := 0) (v := .ref q4) (ty := .array .boolean) (C := RX0) (T := TX0) (N := 7) hx hb hts (by decide +kernel) tyX0 tyX0_ok nmX0 hown hK.1 hP hD hS 0 rfl rfl 3 (by decide) (hts (.fieldLink RX0 22 "Turbineorchard$Field" "stilled" "[Z") (by decide +kernel)) (fun _ h9 => h9) rfl hin rfl (by decide +kernel) rfl rfl (Nat.le_of_ble_eq_true rfl) dX0_init_33 (fun H locs hP hD hS => ?_)
  have hP : va_P D vwCl ([(h0, .inr (0, [.ref q1, .ref q2, .ref q3, .ref q4, .null, .int 0, .int 0])), (q1, .inl (cI, 24, .inl (fun _ => 0))), (q2, .inl (cI, 12, .inl (fun _ => 0))), (q3, .inl (cZ, 12, .inl (fun _ => 0))), (q4, .inl (cZ, 12, .inl (fun _ => 0)))]) H := hP
  have hD : va_D A ([(h0, .inr (0, [.ref q1, .ref q2, .ref q3, .ref q4, .null, .int 0, .int 0])), (q1, .inl (cI, 24, .inl (fun _ => 0))), (q2, .inl (cI, 12, .inl (fun _ => 0))), (q3, .inl (cZ, 12, .inl (fun _ => 0))), (q4, .inl (cZ, 12, .inl (fun _ => 0)))]) := hD
  refine lv_aload_n hx hb dX0_init_36 rfl (lv_at hl 0 rfl) ?_
  refine lv_bipush (v := 12) hx hb dX0_init_37 (by decide) ?_
  refine k_newI hx hb (hts (.arrayClass .int) (by decide +kernel)) hK hP hD hS hA 12 rfl (by decide) (Nat.le_of_ble_eq_true rfl) (Nat.le_of_ble_eq_true rfl) dX0_init_39 (fun q5 H hP hD hS => ?_)
  have hP : va_P D vwCl ([(h0, .inr (0, [.ref q1, .ref q2, .ref q3, .ref q4, .null, .int 0, .int 0])), (q1, .inl (cI, 24, .inl (fun _ => 0))), (q2, .inl (cI, 12, .inl (fun _ => 0))), (q3, .inl (cZ, 12, .inl (fun _ => 0))), (q4, .inl (cZ, 12, .inl (fun _ => 0))), (q5, .inl (cI, 12, .inl (fun _ => 0)))]) H := hP
  have hD : va_D A ([(h0, .inr (0, [.ref q1, .ref q2, .ref q3, .ref q4, .null, .int 0, .int 0])), (q1, .inl (cI, 24, .inl (fun _ => 0))), (q2, .inl (cI, 12, .inl (fun _ => 0))), (q3, .inl (cZ, 12, .inl (fun _ => 0))), (q4, .inl (cZ, 12, .inl (fun _ => 0))), (q5, .inl (cI, 12, .inl (fun _ => 0)))]) := hD
  refine va_putF (D := D) (ci := 0) (v := .ref q5) (ty := .array .int) (C := RX0) (T := TX0) (N := 7) hx hb hts (by decide +kernel) tyX0 tyX0_ok nmX0 hown hK.1 hP hD hS 0 rfl rfl 4 (by decide) (hts (.fieldLink RX0 25 "Turbineorchard$Field" "madeInAll" "[I") (by decide +kernel)) (fun _ h9 => h9) rfl hin rfl (by decide +kernel) rfl rfl (Nat.le_of_ble_eq_true rfl) dX0_init_41 (fun H locs hP hD hS => ?_)
  have hP : va_P D vwCl ([(h0, .inr (0, [.ref q1, .ref q2, .ref q3, .ref q4, .ref q5, .int 0, .int 0])), (q1, .inl (cI, 24, .inl (fun _ => 0))), (q2, .inl (cI, 12, .inl (fun _ => 0))), (q3, .inl (cZ, 12, .inl (fun _ => 0))), (q4, .inl (cZ, 12, .inl (fun _ => 0))), (q5, .inl (cI, 12, .inl (fun _ => 0)))]) H := hP
  have hD : va_D A ([(h0, .inr (0, [.ref q1, .ref q2, .ref q3, .ref q4, .ref q5, .int 0, .int 0])), (q1, .inl (cI, 24, .inl (fun _ => 0))), (q2, .inl (cI, 12, .inl (fun _ => 0))), (q3, .inl (cZ, 12, .inl (fun _ => 0))), (q4, .inl (cZ, 12, .inl (fun _ => 0))), (q5, .inl (cI, 12, .inl (fun _ => 0)))]) := hD
  obtain ⟨a, ha1, hPn, hDn⟩ : ∃ a : Nat → Nat, a 5 = h0 ∧ va_P D vwCl (wF a cI cZ (fun _ => 0) (fun _ => 0) (fun _ => 0) (fun _ => 0) (fun _ => 0) 0 0) H ∧ va_D A (wF a cI cZ (fun _ => 0) (fun _ => 0) (fun _ => 0) (fun _ => 0) (fun _ => 0) 0 0) := ⟨fun k => match k with | 5 => h0 | 6 => q1 | 7 => q2 | 8 => q3 | 9 => q4 | _ => q5, rfl, hP, hD⟩
  subst ha1
  have hP := hPn
  have hD := hDn
  refine lv_iconst (v := 0) hx hb dX0_init_44 (by decide) ?_
  have e9 : (setR (fun _ => 0) 0 0 (-1)) = (fun _ => 0) := setR_0 _ 0 _
  have hP : va_P D vwCl (wF a cI cZ (setR (fun _ => 0) 0 0 (-1)) (fun _ => 0) (fun _ => 0) (fun _ => 0) (fun _ => 0) 0 0) H := by rw [e9]; exact hP
  have hD : va_D A (wF a cI cZ (setR (fun _ => 0) 0 0 (-1)) (fun _ => 0) (fun _ => 0) (fun _ => 0) (fun _ => 0) 0 0) := by rw [e9]; exact hD
  clear e9
  refine lv_istore_n (lv' := [(1, .int 0), (0, .ref (a 5))]) hx hb dX0_init_45 rfl hl (by decide) rfl (fun ls hl => ?_)
  have loop_46 : ∀ (nn : Nat) (k : Nat), 24 - k < nn → (k ≤ 24) → ∀ (H : Heap) (locs : List Loc), va_P D vwCl (wF a cI cZ (setR (fun _ => 0) 0 k (-1)) (fun _ => 0) (fun _ => 0) (fun _ => 0) (fun _ => 0) 0 0) H → va_D A (wF a cI cZ (setR (fun _ => 0) 0 k (-1)) (fun _ => 0) (fun _ => 0) (fun _ => 0) (fun _ => 0) 0 0) → va_S A s.heap H locs → ∀ (ls : Array Slot), lv_has ls 2 [(0, .ref (a 5)), (1, .int (nI k))] → W p l e (headSpec wsX0_init ({ frames := 1, cells := 5, slots := 72, locals := 12 })).room s m ([.ref (a 5)] : List Value).toArray below meth c H locs 5 72 (MQ below (va_Qv (fun f : Nat → Nat => f 5 = a 5) (fun f t9 => kAt D A ((fun a => (wF a cI cZ (setR (fun _ => 0) 0 24 (-1)) (fun _ => 0) (fun _ => 0) (fun _ => 0) (fun _ => 0) 0 0)) f) t9) A) ([.ref (a 5)] : List Value).toArray s 5 72 A) (F0 m 46 ls []) := by
    intro nn
    induction nn with
    | zero => intro k hm; exact absurd hm (by omega)
    | succ nn ih_46 =>
      intro k hm hk H locs hP hD hS ls hl
      refine lv_iload_n hx hb dX0_init_46 rfl (lv_at hl 1 rfl) ?_
      refine lv_bipush (v := 24) hx hb dX0_init_47 (by decide) ?_
      refine lv_icmp_ge (tgt := 65) hx hb dX0_init_49 (by decide) (fun c_49 => ?_) (fun c_49 => ?_)
      · have e8 : k = 24 := by have := (nI_leI (a := 24) (b := k) (by omega) (by omega)).mp c_49; omega
        subst e8
        exact k_endC (W' := (fun a => (wF a cI cZ (setR (fun _ => 0) 0 24 (-1)) (fun _ => 0) (fun _ => 0) (fun _ => 0) (fun _ => 0) 0 0))) (f := a) (base := 5) hx hb hr hlocks rfl hP hD hS dX0_init_65
      · have c_49 : k < 24 := Nat.lt_of_not_le (fun h => c_49 ((nI_leI (a := 24) (b := k) (by omega) (by omega)).mpr h))
        refine lv_aload_n hx hb dX0_init_52 rfl (lv_at hl 0 rfl) ?_
        refine va_get (D := D) (ci := 0) (v := .ref (a 6)) (C := RX0) (T := TX0) (N := 7) hx hb hts (by decide +kernel) hown hK.1 hP 0 rfl rfl 0 (by decide) (hts (.fieldLink RX0 9 "Turbineorchard$Field" "turbineAt" "[I") (by decide +kernel)) (fun _ h9 => h9) rfl dX0_init_53 ?_
        refine lv_iload_n hx hb dX0_init_56 rfl (lv_at hl 1 rfl) ?_
        refine lv_iconst (v := (-1)) hx hb dX0_init_57 (by decide) ?_
        refine k_iast hx hb hK.1 hP hD hS 1 0 rfl rfl k (rfl) (by omega) (by decide) dX0_init_58 (fun H locs hP hD hS => ?_)
        have hP : va_P D vwCl (wF a cI cZ (upd (setR (fun _ => 0) 0 k (-1)) k (-1)) (fun _ => 0) (fun _ => 0) (fun _ => 0) (fun _ => 0) 0 0) H := hP
        have hD : va_D A (wF a cI cZ (upd (setR (fun _ => 0) 0 k (-1)) k (-1)) (fun _ => 0) (fun _ => 0) (fun _ => 0) (fun _ => 0) 0 0) := hD
        have e9 : (upd (setR (fun _ => 0) 0 k (-1)) k (-1)) = (setR (fun _ => 0) 0 (k + 1) (-1)) := setR_1 _ _ (Nat.zero_le k)
        rw [e9] at hP hD
        clear e9
        refine lv_iinc (v := nI (k + 1)) (lv' := [(1, .int (nI (k + 1))), (0, .ref (a 5))]) hx hb dX0_init_59 hl (k := 1) rfl (nI_1 _) (by decide) rfl (fun ls hl => ?_)
        refine lv_goto (tgt := 46) hx hb dX0_init_62 (by decide) ?_
        exact ih_46 (k + 1) (by omega) (by omega) _ _ hP hD hS _ (lv_sub hl [1, 0] rfl)
  exact loop_46 (24 - 0 + 1) 0 (by omega) (by omega) _ _ hP hD hS _ (lv_sub hl [1, 0] rfl)

set_option maxHeartbeats 8000000 in
set_option maxRecDepth 100000 in
theorem c_X1_init (l : Launch) (D : va_G) (h0 : Nat) (cI cZ : ClassId) (sz : Nat) : kC l yX1_init wsX1_init ({ frames := 1, cells := 5, slots := 15, locals := 12 }) h0 D cI cZ sz [(h0, .inr (1, [.null, .null, .null, .null, .null]))] 11 (fun a => (wE a cI cZ (setR (fun _ => 0) 0 3 (-1)) (fun _ => 0) (setR (fun _ => 0) 0 3 8) (fun _ => 0) (fun _ => 0))) 5 15 := by
  refine Met.ofW (cc := cX1_init) (maxL := 2) (ret := none) (by decide) rfl ?_
  intro p e s m args below meth c s₁ B hml hv
  obtain ⟨rfl, hsz, hP, hK, hD0⟩ := hv
  have hx := B.exec
  have hb := B.bytes
  have hr := B.returns
  have hts := atoms_spec (ws := wsX1_init) B.pre
  have hown : s.vm.findClass RX1 = some m.cls := findClass_of_methodNamed B.named
  have hlocks := B.notSynchronized
  have hin : meth.name = "<init>" := (name_of_methodNamed B.named B.method).1
  subst hsz
  have hD := hD0.self (sz := s.heap.size)
  generalize hAe : va_A [(h0, .inr (1, [.null, .null, .null, .null, .null]))] s.heap.size = A at hD ⊢
  have hA : ∀ q : Nat, s.heap.size ≤ q → A q := fun q h => by rw [← hAe]; exact Or.inr h
  have hS : va_S A s.heap s.heap [] := va_S.rf
  clear hAe hD0
  have hl := lv_entry ([.ref h0]) (n := 2) (Nat.le_of_ble_eq_true rfl)
  rw [lg_entry_eq]
  generalize (lg_sl ([.ref h0]) ++ List.replicate (2 - (lg_sl ([.ref h0])).length) Slot.unset).toArray = ls at hl ⊢
  have hl : lv_has ls 2 [(0, .ref h0)] := hl
  refine lv_aload_n hx hb dX1_init_0 rfl (lv_at hl 0 rfl) ?_
  refine W.objInit hx hb hown (hts (.methodLink RX1 3 objectInit) (by decide +kernel)) (hts (.instanceMethod objectInit) (by decide +kernel)) (hts (.code objectInit ⟨#[0xb1]⟩ 1 none) (by decide +kernel)) rfl (by rw [hml]; exact hl.1) rfl dX1_init_1 (Nat.le_of_ble_eq_true rfl) (Nat.le_of_ble_eq_true rfl) ?_
  refine W.eq (g2 := F0 m 4 ls []) rfl ?_
  refine lv_aload_n hx hb dX1_init_4 rfl (lv_at hl 0 rfl) ?_
  refine lv_iconst (v := 3) hx hb dX1_init_5 (by decide) ?_
  refine k_newI hx hb (hts (.arrayClass .int) (by decide +kernel)) hK hP hD hS hA 3 rfl (by decide) (Nat.le_of_ble_eq_true rfl) (Nat.le_of_ble_eq_true rfl) dX1_init_6 (fun q1 H hP hD hS => ?_)
  have hP : va_P D vwCl ([(h0, .inr (1, [.null, .null, .null, .null, .null])), (q1, .inl (cI, 3, .inl (fun _ => 0)))]) H := hP
  have hD : va_D A ([(h0, .inr (1, [.null, .null, .null, .null, .null])), (q1, .inl (cI, 3, .inl (fun _ => 0)))]) := hD
  refine va_putF (D := D) (ci := 1) (v := .ref q1) (ty := .array .int) (C := RX1) (T := TX1) (N := 5) hx hb hts (by decide +kernel) tyX1 tyX1_ok nmX1 hown hK.1 hP hD hS 0 rfl rfl 0 (by decide) (hts (.fieldLink RX1 9 "Turbineorchard$Fleet" "turbines" "[I") (by decide +kernel)) (fun _ h9 => h9) rfl hin rfl (by decide +kernel) rfl rfl (Nat.le_of_ble_eq_true rfl) dX1_init_8 (fun H locs hP hD hS => ?_)
  have hP : va_P D vwCl ([(h0, .inr (1, [.ref q1, .null, .null, .null, .null])), (q1, .inl (cI, 3, .inl (fun _ => 0)))]) H := hP
  have hD : va_D A ([(h0, .inr (1, [.ref q1, .null, .null, .null, .null])), (q1, .inl (cI, 3, .inl (fun _ => 0)))]) := hD
  refine lv_aload_n hx hb dX1_init_11 rfl (lv_at hl 0 rfl) ?_
  refine lv_iconst (v := 3) hx hb dX1_init_12 (by decide) ?_
  refine k_newI hx hb (hts (.arrayClass .int) (by decide +kernel)) hK hP hD hS hA 3 rfl (by decide) (Nat.le_of_ble_eq_true rfl) (Nat.le_of_ble_eq_true rfl) dX1_init_13 (fun q2 H hP hD hS => ?_)
  have hP : va_P D vwCl ([(h0, .inr (1, [.ref q1, .null, .null, .null, .null])), (q1, .inl (cI, 3, .inl (fun _ => 0))), (q2, .inl (cI, 3, .inl (fun _ => 0)))]) H := hP
  have hD : va_D A ([(h0, .inr (1, [.ref q1, .null, .null, .null, .null])), (q1, .inl (cI, 3, .inl (fun _ => 0))), (q2, .inl (cI, 3, .inl (fun _ => 0)))]) := hD
  refine va_putF (D := D) (ci := 1) (v := .ref q2) (ty := .array .int) (C := RX1) (T := TX1) (N := 5) hx hb hts (by decide +kernel) tyX1 tyX1_ok nmX1 hown hK.1 hP hD hS 0 rfl rfl 1 (by decide) (hts (.fieldLink RX1 15 "Turbineorchard$Fleet" "left" "[I") (by decide +kernel)) (fun _ h9 => h9) rfl hin rfl (by decide +kernel) rfl rfl (Nat.le_of_ble_eq_true rfl) dX1_init_15 (fun H locs hP hD hS => ?_)
  have hP : va_P D vwCl ([(h0, .inr (1, [.ref q1, .ref q2, .null, .null, .null])), (q1, .inl (cI, 3, .inl (fun _ => 0))), (q2, .inl (cI, 3, .inl (fun _ => 0)))]) H := hP
  have hD : va_D A ([(h0, .inr (1, [.ref q1, .ref q2, .null, .null, .null])), (q1, .inl (cI, 3, .inl (fun _ => 0))), (q2, .inl (cI, 3, .inl (fun _ => 0)))]) := hD
  refine lv_aload_n hx hb dX1_init_18 rfl (lv_at hl 0 rfl) ?_
  refine lv_iconst (v := 3) hx hb dX1_init_19 (by decide) ?_
  refine k_newI hx hb (hts (.arrayClass .int) (by decide +kernel)) hK hP hD hS hA 3 rfl (by decide) (Nat.le_of_ble_eq_true rfl) (Nat.le_of_ble_eq_true rfl) dX1_init_20 (fun q3 H hP hD hS => ?_)
  have hP : va_P D vwCl ([(h0, .inr (1, [.ref q1, .ref q2, .null, .null, .null])), (q1, .inl (cI, 3, .inl (fun _ => 0))), (q2, .inl (cI, 3, .inl (fun _ => 0))), (q3, .inl (cI, 3, .inl (fun _ => 0)))]) H := hP
  have hD : va_D A ([(h0, .inr (1, [.ref q1, .ref q2, .null, .null, .null])), (q1, .inl (cI, 3, .inl (fun _ => 0))), (q2, .inl (cI, 3, .inl (fun _ => 0))), (q3, .inl (cI, 3, .inl (fun _ => 0)))]) := hD
  refine va_putF (D := D) (ci := 1) (v := .ref q3) (ty := .array .int) (C := RX1) (T := TX1) (N := 5) hx hb hts (by decide +kernel) tyX1 tyX1_ok nmX1 hown hK.1 hP hD hS 0 rfl rfl 2 (by decide) (hts (.fieldLink RX1 18 "Turbineorchard$Fleet" "crewLimits" "[I") (by decide +kernel)) (fun _ h9 => h9) rfl hin rfl (by decide +kernel) rfl rfl (Nat.le_of_ble_eq_true rfl) dX1_init_22 (fun H locs hP hD hS => ?_)
  have hP : va_P D vwCl ([(h0, .inr (1, [.ref q1, .ref q2, .ref q3, .null, .null])), (q1, .inl (cI, 3, .inl (fun _ => 0))), (q2, .inl (cI, 3, .inl (fun _ => 0))), (q3, .inl (cI, 3, .inl (fun _ => 0)))]) H := hP
  have hD : va_D A ([(h0, .inr (1, [.ref q1, .ref q2, .ref q3, .null, .null])), (q1, .inl (cI, 3, .inl (fun _ => 0))), (q2, .inl (cI, 3, .inl (fun _ => 0))), (q3, .inl (cI, 3, .inl (fun _ => 0)))]) := hD
  refine lv_aload_n hx hb dX1_init_25 rfl (lv_at hl 0 rfl) ?_
  refine lv_iconst (v := 3) hx hb dX1_init_26 (by decide) ?_
  refine k_newI hx hb (hts (.arrayClass .int) (by decide +kernel)) hK hP hD hS hA 3 rfl (by decide) (Nat.le_of_ble_eq_true rfl) (Nat.le_of_ble_eq_true rfl) dX1_init_27 (fun q4 H hP hD hS => ?_)
  have hP : va_P D vwCl ([(h0, .inr (1, [.ref q1, .ref q2, .ref q3, .null, .null])), (q1, .inl (cI, 3, .inl (fun _ => 0))), (q2, .inl (cI, 3, .inl (fun _ => 0))), (q3, .inl (cI, 3, .inl (fun _ => 0))), (q4, .inl (cI, 3, .inl (fun _ => 0)))]) H := hP
  have hD : va_D A ([(h0, .inr (1, [.ref q1, .ref q2, .ref q3, .null, .null])), (q1, .inl (cI, 3, .inl (fun _ => 0))), (q2, .inl (cI, 3, .inl (fun _ => 0))), (q3, .inl (cI, 3, .inl (fun _ => 0))), (q4, .inl (cI, 3, .inl (fun _ => 0)))]) := hD
  refine va_putF (D := D) (ci := 1) (v := .ref q4) (ty := .array .int) (C := RX1) (T := TX1) (N := 5) hx hb hts (by decide +kernel) tyX1 tyX1_ok nmX1 hown hK.1 hP hD hS 0 rfl rfl 3 (by decide) (hts (.fieldLink RX1 21 "Turbineorchard$Fleet" "today" "[I") (by decide +kernel)) (fun _ h9 => h9) rfl hin rfl (by decide +kernel) rfl rfl (Nat.le_of_ble_eq_true rfl) dX1_init_29 (fun H locs hP hD hS => ?_)
  have hP : va_P D vwCl ([(h0, .inr (1, [.ref q1, .ref q2, .ref q3, .ref q4, .null])), (q1, .inl (cI, 3, .inl (fun _ => 0))), (q2, .inl (cI, 3, .inl (fun _ => 0))), (q3, .inl (cI, 3, .inl (fun _ => 0))), (q4, .inl (cI, 3, .inl (fun _ => 0)))]) H := hP
  have hD : va_D A ([(h0, .inr (1, [.ref q1, .ref q2, .ref q3, .ref q4, .null])), (q1, .inl (cI, 3, .inl (fun _ => 0))), (q2, .inl (cI, 3, .inl (fun _ => 0))), (q3, .inl (cI, 3, .inl (fun _ => 0))), (q4, .inl (cI, 3, .inl (fun _ => 0)))]) := hD
  refine lv_aload_n hx hb dX1_init_32 rfl (lv_at hl 0 rfl) ?_
  refine lv_iconst (v := 3) hx hb dX1_init_33 (by decide) ?_
  refine k_newI hx hb (hts (.arrayClass .int) (by decide +kernel)) hK hP hD hS hA 3 rfl (by decide) (Nat.le_of_ble_eq_true rfl) (Nat.le_of_ble_eq_true rfl) dX1_init_34 (fun q5 H hP hD hS => ?_)
  have hP : va_P D vwCl ([(h0, .inr (1, [.ref q1, .ref q2, .ref q3, .ref q4, .null])), (q1, .inl (cI, 3, .inl (fun _ => 0))), (q2, .inl (cI, 3, .inl (fun _ => 0))), (q3, .inl (cI, 3, .inl (fun _ => 0))), (q4, .inl (cI, 3, .inl (fun _ => 0))), (q5, .inl (cI, 3, .inl (fun _ => 0)))]) H := hP
  have hD : va_D A ([(h0, .inr (1, [.ref q1, .ref q2, .ref q3, .ref q4, .null])), (q1, .inl (cI, 3, .inl (fun _ => 0))), (q2, .inl (cI, 3, .inl (fun _ => 0))), (q3, .inl (cI, 3, .inl (fun _ => 0))), (q4, .inl (cI, 3, .inl (fun _ => 0))), (q5, .inl (cI, 3, .inl (fun _ => 0)))]) := hD
  refine va_putF (D := D) (ci := 1) (v := .ref q5) (ty := .array .int) (C := RX1) (T := TX1) (N := 5) hx hb hts (by decide +kernel) tyX1 tyX1_ok nmX1 hown hK.1 hP hD hS 0 rfl rfl 4 (by decide) (hts (.fieldLink RX1 24 "Turbineorchard$Fleet" "inAll" "[I") (by decide +kernel)) (fun _ h9 => h9) rfl hin rfl (by decide +kernel) rfl rfl (Nat.le_of_ble_eq_true rfl) dX1_init_36 (fun H locs hP hD hS => ?_)
  have hP : va_P D vwCl ([(h0, .inr (1, [.ref q1, .ref q2, .ref q3, .ref q4, .ref q5])), (q1, .inl (cI, 3, .inl (fun _ => 0))), (q2, .inl (cI, 3, .inl (fun _ => 0))), (q3, .inl (cI, 3, .inl (fun _ => 0))), (q4, .inl (cI, 3, .inl (fun _ => 0))), (q5, .inl (cI, 3, .inl (fun _ => 0)))]) H := hP
  have hD : va_D A ([(h0, .inr (1, [.ref q1, .ref q2, .ref q3, .ref q4, .ref q5])), (q1, .inl (cI, 3, .inl (fun _ => 0))), (q2, .inl (cI, 3, .inl (fun _ => 0))), (q3, .inl (cI, 3, .inl (fun _ => 0))), (q4, .inl (cI, 3, .inl (fun _ => 0))), (q5, .inl (cI, 3, .inl (fun _ => 0)))]) := hD
  obtain ⟨a, ha1, hPn, hDn⟩ : ∃ a : Nat → Nat, a 11 = h0 ∧ va_P D vwCl (wE a cI cZ (fun _ => 0) (fun _ => 0) (fun _ => 0) (fun _ => 0) (fun _ => 0)) H ∧ va_D A (wE a cI cZ (fun _ => 0) (fun _ => 0) (fun _ => 0) (fun _ => 0) (fun _ => 0)) := ⟨fun k => match k with | 11 => h0 | 12 => q1 | 13 => q2 | 14 => q3 | 15 => q4 | _ => q5, rfl, hP, hD⟩
  subst ha1
  have hP := hPn
  have hD := hDn
  refine lv_iconst (v := 0) hx hb dX1_init_39 (by decide) ?_
  have e9 : (setR (fun _ => 0) 0 0 (-1)) = (fun _ => 0) := setR_0 _ 0 _
  have hP : va_P D vwCl (wE a cI cZ (setR (fun _ => 0) 0 0 (-1)) (fun _ => 0) (fun _ => 0) (fun _ => 0) (fun _ => 0)) H := by rw [e9]; exact hP
  have hD : va_D A (wE a cI cZ (setR (fun _ => 0) 0 0 (-1)) (fun _ => 0) (fun _ => 0) (fun _ => 0) (fun _ => 0)) := by rw [e9]; exact hD
  clear e9
  have e9 : (setR (fun _ => 0) 0 0 8) = (fun _ => 0) := setR_0 _ 0 _
  have hP : va_P D vwCl (wE a cI cZ (setR (fun _ => 0) 0 0 (-1)) (fun _ => 0) (setR (fun _ => 0) 0 0 8) (fun _ => 0) (fun _ => 0)) H := by rw [e9]; exact hP
  have hD : va_D A (wE a cI cZ (setR (fun _ => 0) 0 0 (-1)) (fun _ => 0) (setR (fun _ => 0) 0 0 8) (fun _ => 0) (fun _ => 0)) := by rw [e9]; exact hD
  clear e9
  refine lv_istore_n (lv' := [(1, .int 0), (0, .ref (a 11))]) hx hb dX1_init_40 rfl hl (by decide) rfl (fun ls hl => ?_)
  have loop_41 : ∀ (nn : Nat) (k : Nat), 3 - k < nn → (k ≤ 3) → ∀ (H : Heap) (locs : List Loc), va_P D vwCl (wE a cI cZ (setR (fun _ => 0) 0 k (-1)) (fun _ => 0) (setR (fun _ => 0) 0 k 8) (fun _ => 0) (fun _ => 0)) H → va_D A (wE a cI cZ (setR (fun _ => 0) 0 k (-1)) (fun _ => 0) (setR (fun _ => 0) 0 k 8) (fun _ => 0) (fun _ => 0)) → va_S A s.heap H locs → ∀ (ls : Array Slot), lv_has ls 2 [(0, .ref (a 11)), (1, .int (nI k))] → W p l e (headSpec wsX1_init ({ frames := 1, cells := 5, slots := 15, locals := 12 })).room s m ([.ref (a 11)] : List Value).toArray below meth c H locs 5 15 (MQ below (va_Qv (fun f : Nat → Nat => f 11 = a 11) (fun f t9 => kAt D A ((fun a => (wE a cI cZ (setR (fun _ => 0) 0 3 (-1)) (fun _ => 0) (setR (fun _ => 0) 0 3 8) (fun _ => 0) (fun _ => 0))) f) t9) A) ([.ref (a 11)] : List Value).toArray s 5 15 A) (F0 m 41 ls []) := by
    intro nn
    induction nn with
    | zero => intro k hm; exact absurd hm (by omega)
    | succ nn ih_41 =>
      intro k hm hk H locs hP hD hS ls hl
      refine lv_iload_n hx hb dX1_init_41 rfl (lv_at hl 1 rfl) ?_
      refine lv_iconst (v := 3) hx hb dX1_init_42 (by decide) ?_
      refine lv_icmp_ge (tgt := 67) hx hb dX1_init_43 (by decide) (fun c_43 => ?_) (fun c_43 => ?_)
      · have e8 : k = 3 := by have := (nI_leI (a := 3) (b := k) (by omega) (by omega)).mp c_43; omega
        subst e8
        exact k_endC (W' := (fun a => (wE a cI cZ (setR (fun _ => 0) 0 3 (-1)) (fun _ => 0) (setR (fun _ => 0) 0 3 8) (fun _ => 0) (fun _ => 0)))) (f := a) (base := 11) hx hb hr hlocks rfl hP hD hS dX1_init_67
      · have c_43 : k < 3 := Nat.lt_of_not_le (fun h => c_43 ((nI_leI (a := 3) (b := k) (by omega) (by omega)).mpr h))
        refine lv_aload_n hx hb dX1_init_46 rfl (lv_at hl 0 rfl) ?_
        refine va_get (D := D) (ci := 1) (v := .ref (a 12)) (C := RX1) (T := TX1) (N := 5) hx hb hts (by decide +kernel) hown hK.1 hP 0 rfl rfl 0 (by decide) (hts (.fieldLink RX1 9 "Turbineorchard$Fleet" "turbines" "[I") (by decide +kernel)) (fun _ h9 => h9) rfl dX1_init_47 ?_
        refine lv_iload_n hx hb dX1_init_50 rfl (lv_at hl 1 rfl) ?_
        refine lv_iconst (v := (-1)) hx hb dX1_init_51 (by decide) ?_
        refine k_iast hx hb hK.1 hP hD hS 1 0 rfl rfl k (rfl) (by omega) (by decide) dX1_init_52 (fun H locs hP hD hS => ?_)
        have hP : va_P D vwCl (wE a cI cZ (upd (setR (fun _ => 0) 0 k (-1)) k (-1)) (fun _ => 0) (setR (fun _ => 0) 0 k 8) (fun _ => 0) (fun _ => 0)) H := hP
        have hD : va_D A (wE a cI cZ (upd (setR (fun _ => 0) 0 k (-1)) k (-1)) (fun _ => 0) (setR (fun _ => 0) 0 k 8) (fun _ => 0) (fun _ => 0)) := hD
        refine lv_aload_n hx hb dX1_init_53 rfl (lv_at hl 0 rfl) ?_
        refine va_get (D := D) (ci := 1) (v := .ref (a 14)) (C := RX1) (T := TX1) (N := 5) hx hb hts (by decide +kernel) hown hK.1 hP 0 rfl rfl 2 (by decide) (hts (.fieldLink RX1 18 "Turbineorchard$Fleet" "crewLimits" "[I") (by decide +kernel)) (fun _ h9 => h9) rfl dX1_init_54 ?_
        refine lv_iload_n hx hb dX1_init_57 rfl (lv_at hl 1 rfl) ?_
        refine lv_bipush (v := 8) hx hb dX1_init_58 (by decide) ?_
        refine k_iast hx hb hK.1 hP hD hS 3 0 rfl rfl k (rfl) (by omega) (by decide) dX1_init_60 (fun H locs hP hD hS => ?_)
        have hP : va_P D vwCl (wE a cI cZ (upd (setR (fun _ => 0) 0 k (-1)) k (-1)) (fun _ => 0) (upd (setR (fun _ => 0) 0 k 8) k 8) (fun _ => 0) (fun _ => 0)) H := hP
        have hD : va_D A (wE a cI cZ (upd (setR (fun _ => 0) 0 k (-1)) k (-1)) (fun _ => 0) (upd (setR (fun _ => 0) 0 k 8) k 8) (fun _ => 0) (fun _ => 0)) := hD
        have e9 : (upd (setR (fun _ => 0) 0 k (-1)) k (-1)) = (setR (fun _ => 0) 0 (k + 1) (-1)) := setR_1 _ _ (Nat.zero_le k)
        rw [e9] at hP hD
        clear e9
        have e9 : (upd (setR (fun _ => 0) 0 k 8) k 8) = (setR (fun _ => 0) 0 (k + 1) 8) := setR_1 _ _ (Nat.zero_le k)
        rw [e9] at hP hD
        clear e9
        refine lv_iinc (v := nI (k + 1)) (lv' := [(1, .int (nI (k + 1))), (0, .ref (a 11))]) hx hb dX1_init_61 hl (k := 1) rfl (nI_1 _) (by decide) rfl (fun ls hl => ?_)
        refine lv_goto (tgt := 41) hx hb dX1_init_64 (by decide) ?_
        exact ih_41 (k + 1) (by omega) (by omega) _ _ hP hD hS _ (lv_sub hl [1, 0] rfl)
  exact loop_41 (3 - 0 + 1) 0 (by omega) (by omega) _ _ hP hD hS _ (lv_sub hl [1, 0] rfl)

set_option maxHeartbeats 8000000 in
set_option maxRecDepth 100000 in
theorem c_X2_init (l : Launch) (D : va_G) (h0 : Nat) (cI cZ : ClassId) (sz : Nat) : kC l yX2_init wsX2_init ({ frames := 1, cells := 3, slots := 1440, locals := 12 }) h0 D cI cZ sz [(h0, .inr (2, [.null, .null, .null, .long 0]))] 17 (fun a => (wG a cI cZ (setR (fun _ => 0) 0 480 (-1)) (setR (fun _ => 0) 0 480 2) (fun _ => 0) 0)) 3 1440 := by
  refine Met.ofW (cc := cX2_init) (maxL := 2) (ret := none) (by decide) rfl ?_
  intro p e s m args below meth c s₁ B hml hv
  obtain ⟨rfl, hsz, hP, hK, hD0⟩ := hv
  have hx := B.exec
  have hb := B.bytes
  have hr := B.returns
  have hts := atoms_spec (ws := wsX2_init) B.pre
  have hown : s.vm.findClass RX2 = some m.cls := findClass_of_methodNamed B.named
  have hlocks := B.notSynchronized
  have hin : meth.name = "<init>" := (name_of_methodNamed B.named B.method).1
  subst hsz
  have hD := hD0.self (sz := s.heap.size)
  generalize hAe : va_A [(h0, .inr (2, [.null, .null, .null, .long 0]))] s.heap.size = A at hD ⊢
  have hA : ∀ q : Nat, s.heap.size ≤ q → A q := fun q h => by rw [← hAe]; exact Or.inr h
  have hS : va_S A s.heap s.heap [] := va_S.rf
  clear hAe hD0
  have hl := lv_entry ([.ref h0]) (n := 2) (Nat.le_of_ble_eq_true rfl)
  rw [lg_entry_eq]
  generalize (lg_sl ([.ref h0]) ++ List.replicate (2 - (lg_sl ([.ref h0])).length) Slot.unset).toArray = ls at hl ⊢
  have hl : lv_has ls 2 [(0, .ref h0)] := hl
  refine lv_aload_n hx hb dX2_init_0 rfl (lv_at hl 0 rfl) ?_
  refine W.objInit hx hb hown (hts (.methodLink RX2 3 objectInit) (by decide +kernel)) (hts (.instanceMethod objectInit) (by decide +kernel)) (hts (.code objectInit ⟨#[0xb1]⟩ 1 none) (by decide +kernel)) rfl (by rw [hml]; exact hl.1) rfl dX2_init_1 (Nat.le_of_ble_eq_true rfl) (Nat.le_of_ble_eq_true rfl) ?_
  refine W.eq (g2 := F0 m 4 ls []) rfl ?_
  refine lv_aload_n hx hb dX2_init_4 rfl (lv_at hl 0 rfl) ?_
  refine lv_sipush (v := 480) hx hb dX2_init_5 (by decide) ?_
  refine k_newI hx hb (hts (.arrayClass .int) (by decide +kernel)) hK hP hD hS hA 480 rfl (by decide) (Nat.le_of_ble_eq_true rfl) (Nat.le_of_ble_eq_true rfl) dX2_init_8 (fun q1 H hP hD hS => ?_)
  have hP : va_P D vwCl ([(h0, .inr (2, [.null, .null, .null, .long 0])), (q1, .inl (cI, 480, .inl (fun _ => 0)))]) H := hP
  have hD : va_D A ([(h0, .inr (2, [.null, .null, .null, .long 0])), (q1, .inl (cI, 480, .inl (fun _ => 0)))]) := hD
  refine va_putF (D := D) (ci := 2) (v := .ref q1) (ty := .array .int) (C := RX2) (T := TX2) (N := 4) hx hb hts (by decide +kernel) tyX2 tyX2_ok nmX2 hown hK.1 hP hD hS 0 rfl rfl 0 (by decide) (hts (.fieldLink RX2 9 "Turbineorchard$Ledger" "slots" "[I") (by decide +kernel)) (fun _ h9 => h9) rfl hin rfl (by decide +kernel) rfl rfl (Nat.le_of_ble_eq_true rfl) dX2_init_10 (fun H locs hP hD hS => ?_)
  have hP : va_P D vwCl ([(h0, .inr (2, [.ref q1, .null, .null, .long 0])), (q1, .inl (cI, 480, .inl (fun _ => 0)))]) H := hP
  have hD : va_D A ([(h0, .inr (2, [.ref q1, .null, .null, .long 0])), (q1, .inl (cI, 480, .inl (fun _ => 0)))]) := hD
  refine lv_aload_n hx hb dX2_init_13 rfl (lv_at hl 0 rfl) ?_
  refine lv_sipush (v := 480) hx hb dX2_init_14 (by decide) ?_
  refine k_newI hx hb (hts (.arrayClass .int) (by decide +kernel)) hK hP hD hS hA 480 rfl (by decide) (Nat.le_of_ble_eq_true rfl) (Nat.le_of_ble_eq_true rfl) dX2_init_17 (fun q2 H hP hD hS => ?_)
  have hP : va_P D vwCl ([(h0, .inr (2, [.ref q1, .null, .null, .long 0])), (q1, .inl (cI, 480, .inl (fun _ => 0))), (q2, .inl (cI, 480, .inl (fun _ => 0)))]) H := hP
  have hD : va_D A ([(h0, .inr (2, [.ref q1, .null, .null, .long 0])), (q1, .inl (cI, 480, .inl (fun _ => 0))), (q2, .inl (cI, 480, .inl (fun _ => 0)))]) := hD
  refine va_putF (D := D) (ci := 2) (v := .ref q2) (ty := .array .int) (C := RX2) (T := TX2) (N := 4) hx hb hts (by decide +kernel) tyX2 tyX2_ok nmX2 hown hK.1 hP hD hS 0 rfl rfl 1 (by decide) (hts (.fieldLink RX2 15 "Turbineorchard$Ledger" "prices" "[I") (by decide +kernel)) (fun _ h9 => h9) rfl hin rfl (by decide +kernel) rfl rfl (Nat.le_of_ble_eq_true rfl) dX2_init_19 (fun H locs hP hD hS => ?_)
  have hP : va_P D vwCl ([(h0, .inr (2, [.ref q1, .ref q2, .null, .long 0])), (q1, .inl (cI, 480, .inl (fun _ => 0))), (q2, .inl (cI, 480, .inl (fun _ => 0)))]) H := hP
  have hD : va_D A ([(h0, .inr (2, [.ref q1, .ref q2, .null, .long 0])), (q1, .inl (cI, 480, .inl (fun _ => 0))), (q2, .inl (cI, 480, .inl (fun _ => 0)))]) := hD
  refine lv_aload_n hx hb dX2_init_22 rfl (lv_at hl 0 rfl) ?_
  refine lv_sipush (v := 480) hx hb dX2_init_23 (by decide) ?_
  refine k_newI hx hb (hts (.arrayClass .int) (by decide +kernel)) hK hP hD hS hA 480 rfl (by decide) (Nat.le_of_ble_eq_true rfl) (Nat.le_of_ble_eq_true rfl) dX2_init_26 (fun q3 H hP hD hS => ?_)
  have hP : va_P D vwCl ([(h0, .inr (2, [.ref q1, .ref q2, .null, .long 0])), (q1, .inl (cI, 480, .inl (fun _ => 0))), (q2, .inl (cI, 480, .inl (fun _ => 0))), (q3, .inl (cI, 480, .inl (fun _ => 0)))]) H := hP
  have hD : va_D A ([(h0, .inr (2, [.ref q1, .ref q2, .null, .long 0])), (q1, .inl (cI, 480, .inl (fun _ => 0))), (q2, .inl (cI, 480, .inl (fun _ => 0))), (q3, .inl (cI, 480, .inl (fun _ => 0)))]) := hD
  refine va_putF (D := D) (ci := 2) (v := .ref q3) (ty := .array .int) (C := RX2) (T := TX2) (N := 4) hx hb hts (by decide +kernel) tyX2 tyX2_ok nmX2 hown hK.1 hP hD hS 0 rfl rfl 2 (by decide) (hts (.fieldLink RX2 18 "Turbineorchard$Ledger" "made" "[I") (by decide +kernel)) (fun _ h9 => h9) rfl hin rfl (by decide +kernel) rfl rfl (Nat.le_of_ble_eq_true rfl) dX2_init_28 (fun H locs hP hD hS => ?_)
  have hP : va_P D vwCl ([(h0, .inr (2, [.ref q1, .ref q2, .ref q3, .long 0])), (q1, .inl (cI, 480, .inl (fun _ => 0))), (q2, .inl (cI, 480, .inl (fun _ => 0))), (q3, .inl (cI, 480, .inl (fun _ => 0)))]) H := hP
  have hD : va_D A ([(h0, .inr (2, [.ref q1, .ref q2, .ref q3, .long 0])), (q1, .inl (cI, 480, .inl (fun _ => 0))), (q2, .inl (cI, 480, .inl (fun _ => 0))), (q3, .inl (cI, 480, .inl (fun _ => 0)))]) := hD
  obtain ⟨a, ha1, hPn, hDn⟩ : ∃ a : Nat → Nat, a 17 = h0 ∧ va_P D vwCl (wG a cI cZ (fun _ => 0) (fun _ => 0) (fun _ => 0) 0) H ∧ va_D A (wG a cI cZ (fun _ => 0) (fun _ => 0) (fun _ => 0) 0) := ⟨fun k => match k with | 17 => h0 | 18 => q1 | 19 => q2 | _ => q3, rfl, hP, hD⟩
  subst ha1
  have hP := hPn
  have hD := hDn
  refine lv_iconst (v := 0) hx hb dX2_init_31 (by decide) ?_
  have e9 : (setR (fun _ => 0) 0 0 (-1)) = (fun _ => 0) := setR_0 _ 0 _
  have hP : va_P D vwCl (wG a cI cZ (setR (fun _ => 0) 0 0 (-1)) (fun _ => 0) (fun _ => 0) 0) H := by rw [e9]; exact hP
  have hD : va_D A (wG a cI cZ (setR (fun _ => 0) 0 0 (-1)) (fun _ => 0) (fun _ => 0) 0) := by rw [e9]; exact hD
  clear e9
  have e9 : (setR (fun _ => 0) 0 0 2) = (fun _ => 0) := setR_0 _ 0 _
  have hP : va_P D vwCl (wG a cI cZ (setR (fun _ => 0) 0 0 (-1)) (setR (fun _ => 0) 0 0 2) (fun _ => 0) 0) H := by rw [e9]; exact hP
  have hD : va_D A (wG a cI cZ (setR (fun _ => 0) 0 0 (-1)) (setR (fun _ => 0) 0 0 2) (fun _ => 0) 0) := by rw [e9]; exact hD
  clear e9
  refine lv_istore_n (lv' := [(1, .int 0), (0, .ref (a 17))]) hx hb dX2_init_32 rfl hl (by decide) rfl (fun ls hl => ?_)
  have loop_33 : ∀ (nn : Nat) (k : Nat), 480 - k < nn → (k ≤ 480) → ∀ (H : Heap) (locs : List Loc), va_P D vwCl (wG a cI cZ (setR (fun _ => 0) 0 k (-1)) (setR (fun _ => 0) 0 k 2) (fun _ => 0) 0) H → va_D A (wG a cI cZ (setR (fun _ => 0) 0 k (-1)) (setR (fun _ => 0) 0 k 2) (fun _ => 0) 0) → va_S A s.heap H locs → ∀ (ls : Array Slot), lv_has ls 2 [(0, .ref (a 17)), (1, .int (nI k))] → W p l e (headSpec wsX2_init ({ frames := 1, cells := 3, slots := 1440, locals := 12 })).room s m ([.ref (a 17)] : List Value).toArray below meth c H locs 3 1440 (MQ below (va_Qv (fun f : Nat → Nat => f 17 = a 17) (fun f t9 => kAt D A ((fun a => (wG a cI cZ (setR (fun _ => 0) 0 480 (-1)) (setR (fun _ => 0) 0 480 2) (fun _ => 0) 0)) f) t9) A) ([.ref (a 17)] : List Value).toArray s 3 1440 A) (F0 m 33 ls []) := by
    intro nn
    induction nn with
    | zero => intro k hm; exact absurd hm (by omega)
    | succ nn ih_33 =>
      intro k hm hk H locs hP hD hS ls hl
      refine lv_iload_n hx hb dX2_init_33 rfl (lv_at hl 1 rfl) ?_
      refine lv_sipush (v := 480) hx hb dX2_init_34 (by decide) ?_
      refine lv_icmp_ge (tgt := 60) hx hb dX2_init_37 (by decide) (fun c_37 => ?_) (fun c_37 => ?_)
      · have e8 : k = 480 := by have := (nI_leI (a := 480) (b := k) (by omega) (by omega)).mp c_37; omega
        subst e8
        exact k_endC (W' := (fun a => (wG a cI cZ (setR (fun _ => 0) 0 480 (-1)) (setR (fun _ => 0) 0 480 2) (fun _ => 0) 0))) (f := a) (base := 17) hx hb hr hlocks rfl hP hD hS dX2_init_60
      · have c_37 : k < 480 := Nat.lt_of_not_le (fun h => c_37 ((nI_leI (a := 480) (b := k) (by omega) (by omega)).mpr h))
        refine lv_aload_n hx hb dX2_init_40 rfl (lv_at hl 0 rfl) ?_
        refine va_get (D := D) (ci := 2) (v := .ref (a 18)) (C := RX2) (T := TX2) (N := 4) hx hb hts (by decide +kernel) hown hK.1 hP 0 rfl rfl 0 (by decide) (hts (.fieldLink RX2 9 "Turbineorchard$Ledger" "slots" "[I") (by decide +kernel)) (fun _ h9 => h9) rfl dX2_init_41 ?_
        refine lv_iload_n hx hb dX2_init_44 rfl (lv_at hl 1 rfl) ?_
        refine lv_iconst (v := (-1)) hx hb dX2_init_45 (by decide) ?_
        refine k_iast hx hb hK.1 hP hD hS 1 0 rfl rfl k (rfl) (by omega) (by decide) dX2_init_46 (fun H locs hP hD hS => ?_)
        have hP : va_P D vwCl (wG a cI cZ (upd (setR (fun _ => 0) 0 k (-1)) k (-1)) (setR (fun _ => 0) 0 k 2) (fun _ => 0) 0) H := hP
        have hD : va_D A (wG a cI cZ (upd (setR (fun _ => 0) 0 k (-1)) k (-1)) (setR (fun _ => 0) 0 k 2) (fun _ => 0) 0) := hD
        refine lv_aload_n hx hb dX2_init_47 rfl (lv_at hl 0 rfl) ?_
        refine va_get (D := D) (ci := 2) (v := .ref (a 19)) (C := RX2) (T := TX2) (N := 4) hx hb hts (by decide +kernel) hown hK.1 hP 0 rfl rfl 1 (by decide) (hts (.fieldLink RX2 15 "Turbineorchard$Ledger" "prices" "[I") (by decide +kernel)) (fun _ h9 => h9) rfl dX2_init_48 ?_
        refine lv_iload_n hx hb dX2_init_51 rfl (lv_at hl 1 rfl) ?_
        refine lv_iconst (v := 2) hx hb dX2_init_52 (by decide) ?_
        refine k_iast hx hb hK.1 hP hD hS 2 0 rfl rfl k (rfl) (by omega) (by decide) dX2_init_53 (fun H locs hP hD hS => ?_)
        have hP : va_P D vwCl (wG a cI cZ (upd (setR (fun _ => 0) 0 k (-1)) k (-1)) (upd (setR (fun _ => 0) 0 k 2) k 2) (fun _ => 0) 0) H := hP
        have hD : va_D A (wG a cI cZ (upd (setR (fun _ => 0) 0 k (-1)) k (-1)) (upd (setR (fun _ => 0) 0 k 2) k 2) (fun _ => 0) 0) := hD
        have e9 : (upd (setR (fun _ => 0) 0 k (-1)) k (-1)) = (setR (fun _ => 0) 0 (k + 1) (-1)) := setR_1 _ _ (Nat.zero_le k)
        rw [e9] at hP hD
        clear e9
        have e9 : (upd (setR (fun _ => 0) 0 k 2) k 2) = (setR (fun _ => 0) 0 (k + 1) 2) := setR_1 _ _ (Nat.zero_le k)
        rw [e9] at hP hD
        clear e9
        refine lv_iinc (v := nI (k + 1)) (lv' := [(1, .int (nI (k + 1))), (0, .ref (a 17))]) hx hb dX2_init_54 hl (k := 1) rfl (nI_1 _) (by decide) rfl (fun ls hl => ?_)
        refine lv_goto (tgt := 33) hx hb dX2_init_57 (by decide) ?_
        exact ih_33 (k + 1) (by omega) (by omega) _ _ hP hD hS _ (lv_sub hl [1, 0] rfl)
  exact loop_33 (480 - 0 + 1) 0 (by omega) (by omega) _ _ hP hD hS _ (lv_sub hl [1, 0] rfl)
