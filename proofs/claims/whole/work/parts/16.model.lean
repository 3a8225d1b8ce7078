set_option maxHeartbeats 4000000 in
set_option maxRecDepth 100000 in
theorem c_X5_in (l : Launch) (b0 : Nat) (v : Int32) (lo : Int32) (hi : Int32) : kPs l yX5_in wsX5_in ({ frames := 0, cells := 0, slots := 0, locals := 0 }) [.ref b0, .int v, .int lo, .int hi] (fun r => r = bI (lo ≤ v ∧ v ≤ hi)) := by
  refine Met.ofW (cc := cX5_in) (maxL := 4) (ret := (some .boolean)) (by decide) rfl ?_
  intro p e s m args below meth c s₁ B hml hv
  obtain ⟨rfl, -⟩ := hv
  have hx := B.exec
  have hb := B.bytes
  have hr := B.returns
  have hts := atoms_spec (ws := wsX5_in) B.pre
  have hown : s.vm.findClass RX5 = some m.cls := findClass_of_methodNamed B.named
  have hlocks := B.notSynchronized
  have hl := lv_entry ([.ref b0, .int v, .int lo, .int hi]) (n := 4) (Nat.le_of_ble_eq_true rfl)
  rw [lg_entry_eq]
  generalize (lg_sl ([.ref b0, .int v, .int lo, .int hi]) ++ List.replicate (4 - (lg_sl ([.ref b0, .int v, .int lo, .int hi])).length) Slot.unset).toArray = ls at hl ⊢
  have hl : lv_has ls 4 [(0, .ref b0), (1, .int v), (2, .int lo), (3, .int hi)] := hl
  refine lv_iload_n hx hb dX5_in_0 rfl (lv_at hl 1 rfl) ?_
  refine lv_iload_n hx hb dX5_in_1 rfl (lv_at hl 2 rfl) ?_
  refine lv_icmp_lt (tgt := 14) hx hb dX5_in_2 (by decide) (fun c_2 => ?_) (fun c_2 => ?_)
  · refine lv_iconst (v := 0) hx hb dX5_in_14 (by decide) ?_
    exact k_endR (ty := .boolean) hx hb hr hlocks (rfl) ((bI_f (fun h => absurd h.1 (Int32.not_le.mpr c_2))).symm) dX5_in_15
  · refine lv_iload_n hx hb dX5_in_5 rfl (lv_at hl 1 rfl) ?_
    refine lv_iload_n hx hb dX5_in_6 rfl (lv_at hl 3 rfl) ?_
    refine lv_icmp_gt (tgt := 14) hx hb dX5_in_7 (by decide) (fun c_7 => ?_) (fun c_7 => ?_)
    · refine lv_iconst (v := 0) hx hb dX5_in_14 (by decide) ?_
      exact k_endR (ty := .boolean) hx hb hr hlocks (rfl) ((bI_f (fun h => absurd h.2 (Int32.not_le.mpr c_7))).symm) dX5_in_15
    · refine lv_iconst (v := 1) hx hb dX5_in_10 (by decide) ?_
      refine lv_goto (tgt := 15) hx hb dX5_in_11 (by decide) ?_
      exact k_endR (ty := .boolean) hx hb hr hlocks (rfl) ((bI_t ⟨Int32.not_lt.mp c_2, Int32.not_lt.mp c_7⟩).symm) dX5_in_15

set_option maxHeartbeats 4000000 in
set_option maxRecDepth 100000 in
theorem c_X5_thrown (l : Launch) (D : va_G) (b : Nat → Nat) (cI cZ : ClassId) (pl : Nat → Int32) (br : Nat → Int32) (md : Nat → Int32) (tn : Nat → Int32) (cnt : Int32) (sp : Nat → Int32) (we : Nat → Int32) (tw : Nat → Int32) (sl : Nat → Int32) (pr : Nat → Int32) (al : Nat → Int32) (mo : Nat → Int32) (now : Int32) (cr : Nat → Int32) (tu : Nat → Int32) (le : Nat → Int32) (to : Nat → Int32) (ia : Nat → Int32) (th : Int32) : kRd l yX5_thrown wsX5_thrown ({ frames := 0, cells := 0, slots := 0, locals := 0 }) [.ref (b 0)] D cI cZ (wM b cI cZ pl br md tn cnt sp we tw sl pr al mo now cr tu le to ia th) (fun r => r = th) := by
  refine Met.ofW (cc := cX5_thrown) (maxL := 1) (ret := (some .int)) (by decide) rfl ?_
  intro p e s m args below meth c s₁ B hml hv
  obtain ⟨rfl, hP, hK⟩ := hv
  have hx := B.exec
  have hb := B.bytes
  have hr := B.returns
  have hts := atoms_spec (ws := wsX5_thrown) B.pre
  have hown : s.vm.findClass RX5 = some m.cls := findClass_of_methodNamed B.named
  have hlocks := B.notSynchronized
  have hl := lv_entry ([.ref (b 0)]) (n := 1) (Nat.le_of_ble_eq_true rfl)
  rw [lg_entry_eq]
  generalize (lg_sl ([.ref (b 0)]) ++ List.replicate (1 - (lg_sl ([.ref (b 0)])).length) Slot.unset).toArray = ls at hl ⊢
  have hl : lv_has ls 1 [(0, .ref (b 0))] := hl
  refine lv_aload_n hx hb dX5_thrown_0 rfl (lv_at hl 0 rfl) ?_
  refine va_get (D := D) (ci := 5) (v := .int th) (C := RX5) (T := TX5) (N := 19) hx hb hts (by decide +kernel) hown hK.1 hP 0 rfl rfl 18 (by decide) (hts (.fieldLink RX5 58 "TurbineorchardModel" "thrown" "I") (by decide +kernel)) (fun _ h9 => h9) rfl dX5_thrown_1 ?_
  exact k_endR (ty := .int) hx hb hr hlocks (rfl) (rfl) dX5_thrown_4

set_option maxHeartbeats 4000000 in
set_option maxRecDepth 100000 in
theorem c_X5_fails (l : Launch) (D : va_G) (b : Nat → Nat) (cI cZ : ClassId) (sz : Nat) (pl : Nat → Int32) (br : Nat → Int32) (md : Nat → Int32) (tn : Nat → Int32) (cnt : Int32) (sp : Nat → Int32) (we : Nat → Int32) (tw : Nat → Int32) (sl : Nat → Int32) (pr : Nat → Int32) (al : Nat → Int32) (mo : Nat → Int32) (now : Int32) (cr : Nat → Int32) (tu : Nat → Int32) (le : Nat → Int32) (to : Nat → Int32) (ia : Nat → Int32) (th : Int32) (x : Int32) : kUi l yX5_fails wsX5_fails ({ frames := 0, cells := 0, slots := 0, locals := 0 }) [.ref (b 0), .int x] D cI cZ sz (wM b cI cZ pl br md tn cnt sp we tw sl pr al mo now cr tu le to ia th) (wM b cI cZ pl br md tn cnt sp we tw sl pr al mo now cr tu le to ia x) (fun r => r = bI (0 < x)) := by
  refine Met.ofW (cc := cX5_fails) (maxL := 2) (ret := (some .boolean)) (by decide) rfl ?_
  intro p e s m args below meth c s₁ B hml hv
  obtain ⟨rfl, hsz, hP, hK, hD0⟩ := hv
  have hx := B.exec
  have hb := B.bytes
  have hr := B.returns
  have hts := atoms_spec (ws := wsX5_fails) B.pre
  have hown : s.vm.findClass RX5 = some m.cls := findClass_of_methodNamed B.named
  have hlocks := B.notSynchronized
  subst hsz
  have hD := hD0.self (sz := s.heap.size)
  generalize hAe : va_A (wM b cI cZ pl br md tn cnt sp we tw sl pr al mo now cr tu le to ia th) s.heap.size = A at hD ⊢
  have hA : ∀ q : Nat, s.heap.size ≤ q → A q := fun q h => by rw [← hAe]; exact Or.inr h
  have hS : va_S A s.heap s.heap [] := va_S.rf
  have hl := lv_entry ([.ref (b 0), .int x]) (n := 2) (Nat.le_of_ble_eq_true rfl)
  rw [lg_entry_eq]
  generalize (lg_sl ([.ref (b 0), .int x]) ++ List.replicate (2 - (lg_sl ([.ref (b 0), .int x])).length) Slot.unset).toArray = ls at hl ⊢
  have hl : lv_has ls 2 [(0, .ref (b 0)), (1, .int x)] := hl
  refine lv_aload_n hx hb dX5_fails_0 rfl (lv_at hl 0 rfl) ?_
  refine lv_iload_n hx hb dX5_fails_1 rfl (lv_at hl 1 rfl) ?_
  refine va_put (D := D) (ci := 5) (v := .int x) (ty := .int) (C := RX5) (T := TX5) (N := 19) hx hb hts (by decide +kernel) tyX5 tyX5_ok nmX5 hown hK.1 hP hD hS 0 rfl rfl 18 (by decide) (hts (.fieldLink RX5 58 "TurbineorchardModel" "thrown" "I") (by decide +kernel)) (fun _ h9 => h9) rfl (by decide +kernel) rfl rfl (Nat.le_of_ble_eq_true rfl) dX5_fails_2 (fun H locs hP hD hS => ?_)
  have hP : va_P D vwCl (wM b cI cZ pl br md tn cnt sp we tw sl pr al mo now cr tu le to ia x) H := hP
  have hD : va_D A (wM b cI cZ pl br md tn cnt sp we tw sl pr al mo now cr tu le to ia x) := hD
  refine lv_iload_n hx hb dX5_fails_5 rfl (lv_at hl 1 rfl) ?_
  refine lv_if_le (tgt := 13) hx hb dX5_fails_6 (by decide) (fun c_6 => ?_) (fun c_6 => ?_)
  · refine lv_iconst (v := 0) hx hb dX5_fails_13 (by decide) ?_
    exact k_endI (ty := .boolean) hx hb hr hlocks (rfl) ((bI_f (Int32.not_lt.mpr c_6)).symm) hP hD hS dX5_fails_14
  · refine lv_iconst (v := 1) hx hb dX5_fails_9 (by decide) ?_
    refine lv_goto (tgt := 14) hx hb dX5_fails_10 (by decide) ?_
    exact k_endI (ty := .boolean) hx hb hr hlocks (rfl) ((bI_t (Int32.not_le.mp c_6)).symm) hP hD hS dX5_fails_14

set_option maxHeartbeats 4000000 in
set_option maxRecDepth 100000 in
theorem c_X5_isTurbine (l : Launch) (D : va_G) (b : Nat → Nat) (cI cZ : ClassId) (pl : Nat → Int32) (br : Nat → Int32) (md : Nat → Int32) (tn : Nat → Int32) (sp : Nat → Int32) (we : Nat → Int32) (tw : Nat → Int32) (sl : Nat → Int32) (pr : Nat → Int32) (al : Nat → Int32) (mo : Nat → Int32) (now : Int32) (cr : Nat → Int32) (tu : Nat → Int32) (le : Nat → Int32) (to : Nat → Int32) (ia : Nat → Int32) (th : Int32) (n : Nat) (x : Int32) : kRd l yX5_isTurbine wsX5_isTurbine ({ frames := 1, cells := 0, slots := 0, locals := 23 }) [.ref (b 0), .int x] D cI cZ (wM b cI cZ pl br md tn (nI n) sp we tw sl pr al mo now cr tu le to ia th) (fun r => r = bI (hasT n x)) := by
  refine Met.ofW (cc := cX5_isTurbine) (maxL := 2) (ret := (some .boolean)) (by decide) rfl ?_
  intro p e s m args below meth c s₁ B hml hv
  obtain ⟨rfl, hP, hK⟩ := hv
  have hx := B.exec
  have hb := B.bytes
  have hr := B.returns
  have hts := atoms_spec (ws := wsX5_isTurbine) B.pre
  have hown : s.vm.findClass RX5 = some m.cls := findClass_of_methodNamed B.named
  have hlocks := B.notSynchronized
  have hl := lv_entry ([.ref (b 0), .int x]) (n := 2) (Nat.le_of_ble_eq_true rfl)
  rw [lg_entry_eq]
  generalize (lg_sl ([.ref (b 0), .int x]) ++ List.replicate (2 - (lg_sl ([.ref (b 0), .int x])).length) Slot.unset).toArray = ls at hl ⊢
  have hl : lv_has ls 2 [(0, .ref (b 0)), (1, .int x)] := hl
  refine lv_aload_n hx hb dX5_isTurbine_0 rfl (lv_at hl 0 rfl) ?_
  refine lv_iload_n hx hb dX5_isTurbine_1 rfl (lv_at hl 1 rfl) ?_
  refine lv_iconst (v := 0) hx hb dX5_isTurbine_2 (by decide) ?_
  refine lv_aload_n hx hb dX5_isTurbine_3 rfl (lv_at hl 0 rfl) ?_
  refine va_get (D := D) (ci := 5) (v := .int (nI n)) (C := RX5) (T := TX5) (N := 19) hx hb hts (by decide +kernel) hown hK.1 hP 0 rfl rfl 4 (by decide) (hts (.fieldLink RX5 62 "TurbineorchardModel" "turbines" "I") (by decide +kernel)) (fun _ h9 => h9) rfl dX5_isTurbine_4 ?_
  refine lv_iconst (v := 1) hx hb dX5_isTurbine_7 (by decide) ?_
  refine lv_isub hx hb dX5_isTurbine_8 ?_
  refine k_pv (As := [.int x, .int 0, .int ((nI n) - 1)]) (rest := []) (nL := 2) ⟨hx, hb, hml, hown, hts⟩ (c_X5_in l _ x 0 ((nI n) - 1)) (cwV 3 hts gX5_isTurbine_X5_in rfl rfl rfl (by decide +kernel) ⟨Nat.le_of_ble_eq_true rfl, Nat.le_of_ble_eq_true rfl⟩) (va_recv hK.1 hP (ci := 5) (q0 := 0) rfl rfl) rfl hl.1 rfl (Nat.le_of_ble_eq_true rfl) dX5_isTurbine_9 ⟨Nat.zero_le _, Nat.zero_le _⟩ (fun r9 hr9 => ?_)
  subst hr9
  exact k_endR (ty := .boolean) hx hb hr hlocks (bI_z) (rfl) dX5_isTurbine_12

set_option maxHeartbeats 4000000 in
set_option maxRecDepth 100000 in
theorem c_X5_wavesOf (l : Launch) (D : va_G) (b : Nat → Nat) (cI cZ : ClassId) (pl : Nat → Int32) (br : Nat → Int32) (md : Nat → Int32) (tn : Nat → Int32) (cnt : Int32) (sp : Nat → Int32) (we : Nat → Int32) (tw : Nat → Int32) (sl : Nat → Int32) (pr : Nat → Int32) (al : Nat → Int32) (mo : Nat → Int32) (now : Int32) (cr : Nat → Int32) (tu : Nat → Int32) (le : Nat → Int32) (to : Nat → Int32) (ia : Nat → Int32) (th : Int32) (k : Nat) (hk : k < 480) (htw : ∀ k, tw k = -1 ∨ 0 ≤ tw k) : kRd l yX5_wavesOf wsX5_wavesOf ({ frames := 0, cells := 0, slots := 0, locals := 0 }) [.ref (b 0), .int (nI k)] D cI cZ (wM b cI cZ pl br md tn cnt sp we tw sl pr al mo now cr tu le to ia th) (fun r => r = fWaves sp tw k) := by
  refine Met.ofW (cc := cX5_wavesOf) (maxL := 2) (ret := (some .int)) (by decide) rfl ?_
  intro p e s m args below meth c s₁ B hml hv
  obtain ⟨rfl, hP, hK⟩ := hv
  have hx := B.exec
  have hb := B.bytes
  have hr := B.returns
  have hts := atoms_spec (ws := wsX5_wavesOf) B.pre
  have hown : s.vm.findClass RX5 = some m.cls := findClass_of_methodNamed B.named
  have hlocks := B.notSynchronized
  have hl := lv_entry ([.ref (b 0), .int (nI k)]) (n := 2) (Nat.le_of_ble_eq_true rfl)
  rw [lg_entry_eq]
  generalize (lg_sl ([.ref (b 0), .int (nI k)]) ++ List.replicate (2 - (lg_sl ([.ref (b 0), .int (nI k)])).length) Slot.unset).toArray = ls at hl ⊢
  have hl : lv_has ls 2 [(0, .ref (b 0)), (1, .int (nI k))] := hl
  refine lv_aload_n hx hb dX5_wavesOf_0 rfl (lv_at hl 0 rfl) ?_
  refine va_get (D := D) (ci := 5) (v := .ref (b 7)) (C := RX5) (T := TX5) (N := 19) hx hb hts (by decide +kernel) hown hK.1 hP 0 rfl rfl 7 (by decide) (hts (.fieldLink RX5 28 "TurbineorchardModel" "told" "[I") (by decide +kernel)) (fun _ h9 => h9) rfl dX5_wavesOf_1 ?_
  refine lv_iload_n hx hb dX5_wavesOf_4 rfl (lv_at hl 1 rfl) ?_
  refine k_iald hx hb hK.1 hP 7 0 rfl rfl k (rfl) (by omega) (by decide) dX5_wavesOf_5 ?_
  refine lv_if_ge (tgt := 20) hx hb dX5_wavesOf_6 (by decide) (fun c_6 => ?_) (fun c_6 => ?_)
  · refine lv_aload_n hx hb dX5_wavesOf_20 rfl (lv_at hl 0 rfl) ?_
    refine va_get (D := D) (ci := 5) (v := .ref (b 7)) (C := RX5) (T := TX5) (N := 19) hx hb hts (by decide +kernel) hown hK.1 hP 0 rfl rfl 7 (by decide) (hts (.fieldLink RX5 28 "TurbineorchardModel" "told" "[I") (by decide +kernel)) (fun _ h9 => h9) rfl dX5_wavesOf_21 ?_
    refine lv_iload_n hx hb dX5_wavesOf_24 rfl (lv_at hl 1 rfl) ?_
    refine k_iald hx hb hK.1 hP 7 0 rfl rfl k (rfl) (by omega) (by decide) dX5_wavesOf_25 ?_
    exact k_endR (ty := .int) hx hb hr hlocks (rfl) (by unfold fWaves; rw [if_neg (fun q => absurd c_6 (by rw [q]; decide))]) dX5_wavesOf_26
  · refine lv_aload_n hx hb dX5_wavesOf_9 rfl (lv_at hl 0 rfl) ?_
    refine va_get (D := D) (ci := 5) (v := .ref (b 5)) (C := RX5) (T := TX5) (N := 19) hx hb hts (by decide +kernel) hown hK.1 hP 0 rfl rfl 5 (by decide) (hts (.fieldLink RX5 22 "TurbineorchardModel" "speed" "[I") (by decide +kernel)) (fun _ h9 => h9) rfl dX5_wavesOf_10 ?_
    refine lv_iload_n hx hb dX5_wavesOf_13 rfl (lv_at hl 1 rfl) ?_
    refine k_iald hx hb hK.1 hP 5 0 rfl rfl k (rfl) (by omega) (by decide) dX5_wavesOf_14 ?_
    refine lv_iconst (v := 3) hx hb dX5_wavesOf_15 (by decide) ?_
    refine lv_idiv hx hb dX5_wavesOf_16 (by decide) ?_
    refine lv_goto (tgt := 26) hx hb dX5_wavesOf_17 (by decide) ?_
    exact k_endR (ty := .int) hx hb hr hlocks (rfl) (by unfold fWaves; rw [if_pos ((htw k).resolve_right c_6)]) dX5_wavesOf_26

set_option maxHeartbeats 4000000 in
set_option maxRecDepth 100000 in
theorem c_X5_turbine (l : Launch) (D : va_G) (b : Nat → Nat) (cI cZ : ClassId) (sz : Nat) (pl : Nat → Int32) (br : Nat → Int32) (md : Nat → Int32) (tn : Nat → Int32) (sp : Nat → Int32) (we : Nat → Int32) (tw : Nat → Int32) (sl : Nat → Int32) (pr : Nat → Int32) (al : Nat → Int32) (mo : Nat → Int32) (cr : Nat → Int32) (tu : Nat → Int32) (le : Nat → Int32) (to : Nat → Int32) (ia : Nat → Int32) (th : Int32) (n : Nat) (h : Nat) (x : Int32) (hn : n ≤ 12) (hh : h < 480) : kUi l yX5_turbine wsX5_turbine ({ frames := 1, cells := 0, slots := 0, locals := 23 }) [.ref (b 0), .int x] D cI cZ sz (wM b cI cZ pl br md tn (nI n) sp we tw sl pr al mo (nI h) cr tu le to ia th) (wM b cI cZ (kIf (cTurbM n pl x) (upd pl n x) pl) br md tn (kIfi (cTurbM n pl x) (nI (n + 1)) (nI n)) sp we tw sl pr al mo (nI h) cr tu le to ia (nI (cTurbM n pl x))) (fun r => cTurbM n pl x = 0 → r = nI n) := by
  refine Met.ofW (cc := cX5_turbine) (maxL := 4) (ret := (some .int)) (by decide) rfl ?_
  intro p e s m args below meth c s₁ B hml hv
  obtain ⟨rfl, hsz, hP, hK, hD0⟩ := hv
  have hx := B.exec
  have hb := B.bytes
  have hr := B.returns
  have hts := atoms_spec (ws := wsX5_turbine) B.pre
  have hown : s.vm.findClass RX5 = some m.cls := findClass_of_methodNamed B.named
  have hlocks := B.notSynchronized
  subst hsz
  have hD := hD0.self (sz := s.heap.size)
  generalize hAe : va_A (wM b cI cZ pl br md tn (nI n) sp we tw sl pr al mo (nI h) cr tu le to ia th) s.heap.size = A at hD ⊢
  have hA : ∀ q : Nat, s.heap.size ≤ q → A q := fun q h => by rw [← hAe]; exact Or.inr h
  have hS : va_S A s.heap s.heap [] := va_S.rf
  have hl := lv_entry ([.ref (b 0), .int x]) (n := 4) (Nat.le_of_ble_eq_true rfl)
  rw [lg_entry_eq]
  generalize (lg_sl ([.ref (b 0), .int x]) ++ List.replicate (4 - (lg_sl ([.ref (b 0), .int x])).length) Slot.unset).toArray = ls at hl ⊢
  have hl : lv_has ls 4 [(0, .ref (b 0)), (1, .int x)] := hl
  refine lv_iconst (v := 0) hx hb dX5_turbine_0 (by decide) ?_
  refine k_rw (y := bI (fAny (fun j => decide (pl j = x)) 0 = true)) ((bI_f (fun q => nomatch q)).symm) ?_
  refine lv_istore_n (lv' := [(2, .int (bI (fAny (fun j => decide (pl j = x)) 0 = true))), (0, .ref (b 0)), (1, .int x)]) hx hb dX5_turbine_1 rfl hl (by decide) rfl (fun ls hl => ?_)
  refine lv_iconst (v := 0) hx hb dX5_turbine_2 (by decide) ?_
  refine lv_istore_n (lv' := [(3, .int 0), (2, .int (bI (fAny (fun j => decide (pl j = x)) 0 = true))), (0, .ref (b 0)), (1, .int x)]) hx hb dX5_turbine_3 rfl hl (by decide) rfl (fun ls hl => ?_)
  have loop_4 : ∀ (nn : Nat) (k : Nat), n - k < nn → (k ≤ n) → ∀ (H : Heap) (locs : List Loc), va_P D vwCl (wM b cI cZ pl br md tn (nI n) sp we tw sl pr al mo (nI h) cr tu le to ia th) H → va_D A (wM b cI cZ pl br md tn (nI n) sp we tw sl pr al mo (nI h) cr tu le to ia th) → va_S A s.heap H locs → ∀ (ls : Array Slot), lv_has ls 4 [(0, .ref (b 0)), (1, .int x), (2, .int (bI (fAny (fun j => decide (pl j = x)) k = true))), (3, .int (nI k))] → W p l e (headSpec wsX5_turbine ({ frames := 1, cells := 0, slots := 0, locals := 23 })).room s m ([.ref (b 0), .int x] : List Value).toArray below meth c H locs 0 0 (MQ below (va_Qi (fun (r : Int32) (_ : Unit) => (fun r => cTurbM n pl x = 0 → r = nI n) r) (fun _ t9 => kAt D A (wM b cI cZ (kIf (cTurbM n pl x) (upd pl n x) pl) br md tn (kIfi (cTurbM n pl x) (nI (n + 1)) (nI n)) sp we tw sl pr al mo (nI h) cr tu le to ia (nI (cTurbM n pl x))) t9) A) ([.ref (b 0), .int x] : List Value).toArray s 0 0 A) (F0 m 4 ls []) := by
    intro nn
    induction nn with
    | zero => intro k hm; exact absurd hm (by omega)
    | succ nn ih_4 =>
      intro k hm hk H locs hP hD hS ls hl
      refine lv_iload_n hx hb dX5_turbine_4 rfl (lv_at hl 3 rfl) ?_
      refine lv_aload_n hx hb dX5_turbine_5 rfl (lv_at hl 0 rfl) ?_
      refine va_get (D := D) (ci := 5) (v := .int (nI n)) (C := RX5) (T := TX5) (N := 19) hx hb hts (by decide +kernel) hown hK.1 hP 0 rfl rfl 4 (by decide) (hts (.fieldLink RX5 62 "TurbineorchardModel" "turbines" "I") (by decide +kernel)) (fun _ h9 => h9) rfl dX5_turbine_6 ?_
      refine lv_icmp_ge (tgt := 36) hx hb dX5_turbine_9 (by decide) (fun c_9 => ?_) (fun c_9 => ?_)
      · have e8 : k = n := by have := (nI_leI (a := n) (b := k) (by omega) (by omega)).mp c_9; omega
        rw [e8] at hl
        refine lv_aload_n hx hb dX5_turbine_36 rfl (lv_at hl 0 rfl) ?_
        refine lv_aload_n hx hb dX5_turbine_37 rfl (lv_at hl 0 rfl) ?_
        refine lv_iload_n hx hb dX5_turbine_38 rfl (lv_at hl 1 rfl) ?_
        refine lv_iconst (v := 0) hx hb dX5_turbine_39 (by decide) ?_
        refine lv_bipush (v := 23) hx hb dX5_turbine_40 (by decide) ?_
        refine k_pv (As := [.int x, .int 0, .int 23]) (rest := [.ref (b 0)]) (nL := 4) ⟨hx, hb, hml, hown, hts⟩ (c_X5_in l _ x 0 23) (cwV 3 hts gX5_turbine_X5_in rfl rfl rfl (by decide +kernel) ⟨Nat.le_of_ble_eq_true rfl, Nat.le_of_ble_eq_true rfl⟩) (va_recv hK.1 hP (ci := 5) (q0 := 0) rfl rfl) rfl hl.1 rfl (Nat.le_of_ble_eq_true rfl) dX5_turbine_42 ⟨Nat.zero_le _, Nat.zero_le _⟩ (fun r9 hr9 => ?_)
        subst hr9
        refine lv_if_ne (tgt := 52) hx hb dX5_turbine_45 (by decide) (fun c_45 => ?_) (fun c_45 => ?_)
        · have c_45 := bI_n c_45
          refine lv_iload_n hx hb dX5_turbine_52 rfl (lv_at hl 2 rfl) ?_
          refine lv_if_ne (tgt := 65) hx hb dX5_turbine_53 (by decide) (fun c_53 => ?_) (fun c_53 => ?_)
          · have c_53 := bI_n c_53
            refine lv_iconst (v := 2) hx hb dX5_turbine_65 (by decide) ?_
            refine lv_goto (tgt := 70) hx hb dX5_turbine_66 (by decide) ?_
            refine k_ui (WR := []) (WN := (wM b cI cZ pl br md tn (nI n) sp we tw sl pr al mo (nI h) cr tu le to ia 2)) (As := [.int 2]) (rest := []) (nL := 4) ⟨hx, hb, hml, hown, hts⟩ hK hP hD hS hA (c_X5_fails l D b cI cZ _ pl br md tn (nI n) sp we tw sl pr al mo (nI h) cr tu le to ia th 2) [0, 1, 2, 3, 4, 5, 6, 7, 8, 9, 10, 11, 12, 13, 14, 15, 16] [] [0, 1, 2, 3, 4, 5, 6, 7, 8, 9, 10, 11, 12, 13, 14, 15, 16] rfl rfl (by decide) rfl (by decide) (by decide) rfl rfl (by decide) 0 rfl rfl rfl (cwV 1 hts gX5_turbine_X5_fails rfl rfl rfl (by decide +kernel) ⟨Nat.le_of_ble_eq_true rfl, Nat.le_of_ble_eq_true rfl⟩) rfl hl.1 rfl (Nat.le_of_ble_eq_true rfl) dX5_turbine_70 ⟨Nat.zero_le _, Nat.zero_le _⟩ (fun r9 H locs hr9 hP hD hS => ?_)
            subst hr9
            refine lv_if_eq (tgt := 78) hx hb dX5_turbine_73 (by decide) (fun c_73 => by first | exact absurd c_73 (by decide) | exact absurd (by decide) c_73) (fun c_73 => ?_)
            refine lv_iconst (v := (-1)) hx hb dX5_turbine_76 (by decide) ?_
            have e9 : (kIf (cTurbM n pl x) (upd pl n x) pl) = pl := kIf_s (fun z9 => absurd (z9.symm.trans (show cTurbM n pl x = 2 from by unfold cTurbM; rw [if_pos c_45, if_pos (Or.inl c_53)])) (by decide))
            have hP : va_P D vwCl (wM b cI cZ (kIf (cTurbM n pl x) (upd pl n x) pl) br md tn (nI n) sp we tw sl pr al mo (nI h) cr tu le to ia 2) H := by rw [e9]; exact hP
            have hD : va_D A (wM b cI cZ (kIf (cTurbM n pl x) (upd pl n x) pl) br md tn (nI n) sp we tw sl pr al mo (nI h) cr tu le to ia 2) := by rw [e9]; exact hD
            clear e9
            have e9 : (kIfi (cTurbM n pl x) (nI (n + 1)) (nI n)) = (nI n) := kIfi_s (fun z9 => absurd (z9.symm.trans (show cTurbM n pl x = 2 from by unfold cTurbM; rw [if_pos c_45, if_pos (Or.inl c_53)])) (by decide))
            have hP : va_P D vwCl (wM b cI cZ (kIf (cTurbM n pl x) (upd pl n x) pl) br md tn (kIfi (cTurbM n pl x) (nI (n + 1)) (nI n)) sp we tw sl pr al mo (nI h) cr tu le to ia 2) H := by rw [e9]; exact hP
            have hD : va_D A (wM b cI cZ (kIf (cTurbM n pl x) (upd pl n x) pl) br md tn (kIfi (cTurbM n pl x) (nI (n + 1)) (nI n)) sp we tw sl pr al mo (nI h) cr tu le to ia 2) := by rw [e9]; exact hD
            clear e9
            have e9 : (nI (cTurbM n pl x)) = 2 := by rw [show cTurbM n pl x = 2 from by unfold cTurbM; rw [if_pos c_45, if_pos (Or.inl c_53)]]; rfl
            have hP : va_P D vwCl (wM b cI cZ (kIf (cTurbM n pl x) (upd pl n x) pl) br md tn (kIfi (cTurbM n pl x) (nI (n + 1)) (nI n)) sp we tw sl pr al mo (nI h) cr tu le to ia (nI (cTurbM n pl x))) H := by rw [e9]; exact hP
            have hD : va_D A (wM b cI cZ (kIf (cTurbM n pl x) (upd pl n x) pl) br md tn (kIfi (cTurbM n pl x) (nI (n + 1)) (nI n)) sp we tw sl pr al mo (nI h) cr tu le to ia (nI (cTurbM n pl x))) := by rw [e9]; exact hD
            clear e9
            exact k_endI (ty := .int) hx hb hr hlocks (rfl) (fun z9 => absurd (z9.symm.trans (show cTurbM n pl x = 2 from by unfold cTurbM; rw [if_pos c_45, if_pos (Or.inl c_53)])) (by decide)) hP hD hS dX5_turbine_77
          · have c_53 := bI_0 c_53
            refine lv_aload_n hx hb dX5_turbine_56 rfl (lv_at hl 0 rfl) ?_
            refine va_get (D := D) (ci := 5) (v := .int (nI n)) (C := RX5) (T := TX5) (N := 19) hx hb hts (by decide +kernel) hown hK.1 hP 0 rfl rfl 4 (by decide) (hts (.fieldLink RX5 62 "TurbineorchardModel" "turbines" "I") (by decide +kernel)) (fun _ h9 => h9) rfl dX5_turbine_57 ?_
            refine lv_bipush (v := 12) hx hb dX5_turbine_60 (by decide) ?_
            refine lv_icmp_ne (tgt := 69) hx hb dX5_turbine_62 (by decide) (fun c_62 => ?_) (fun c_62 => ?_)
            · have c_62 : ¬ n = 12 := fun q => c_62 (by rw [q]; rfl)
              have hn2 : n < 12 := by omega
              refine lv_iconst (v := 0) hx hb dX5_turbine_69 (by decide) ?_
              refine k_ui (WR := []) (WN := (wM b cI cZ pl br md tn (nI n) sp we tw sl pr al mo (nI h) cr tu le to ia 0)) (As := [.int 0]) (rest := []) (nL := 4) ⟨hx, hb, hml, hown, hts⟩ hK hP hD hS hA (c_X5_fails l D b cI cZ _ pl br md tn (nI n) sp we tw sl pr al mo (nI h) cr tu le to ia th 0) [0, 1, 2, 3, 4, 5, 6, 7, 8, 9, 10, 11, 12, 13, 14, 15, 16] [] [0, 1, 2, 3, 4, 5, 6, 7, 8, 9, 10, 11, 12, 13, 14, 15, 16] rfl rfl (by decide) rfl (by decide) (by decide) rfl rfl (by decide) 0 rfl rfl rfl (cwV 1 hts gX5_turbine_X5_fails rfl rfl rfl (by decide +kernel) ⟨Nat.le_of_ble_eq_true rfl, Nat.le_of_ble_eq_true rfl⟩) rfl hl.1 rfl (Nat.le_of_ble_eq_true rfl) dX5_turbine_70 ⟨Nat.zero_le _, Nat.zero_le _⟩ (fun r9 H locs hr9 hP hD hS => ?_)
              subst hr9
              refine lv_if_eq (tgt := 78) hx hb dX5_turbine_73 (by decide) (fun c_73 => ?_) (fun c_73 => by first | exact absurd c_73 (by decide) | exact absurd (by decide) c_73)
              refine lv_aload_n hx hb dX5_turbine_78 rfl (lv_at hl 0 rfl) ?_
              refine va_get (D := D) (ci := 5) (v := .ref (b 1)) (C := RX5) (T := TX5) (N := 19) hx hb hts (by decide +kernel) hown hK.1 hP 0 rfl rfl 0 (by decide) (hts (.fieldLink RX5 7 "TurbineorchardModel" "place" "[I") (by decide +kernel)) (fun _ h9 => h9) rfl dX5_turbine_79 ?_
              refine lv_aload_n hx hb dX5_turbine_82 rfl (lv_at hl 0 rfl) ?_
              refine va_get (D := D) (ci := 5) (v := .int (nI n)) (C := RX5) (T := TX5) (N := 19) hx hb hts (by decide +kernel) hown hK.1 hP 0 rfl rfl 4 (by decide) (hts (.fieldLink RX5 62 "TurbineorchardModel" "turbines" "I") (by decide +kernel)) (fun _ h9 => h9) rfl dX5_turbine_83 ?_
              refine lv_iload_n hx hb dX5_turbine_86 rfl (lv_at hl 1 rfl) ?_
              refine k_iast hx hb hK.1 hP hD hS 1 0 rfl rfl n (rfl) (by omega) (by decide) dX5_turbine_87 (fun H locs hP hD hS => ?_)
              have hP : va_P D vwCl (wM b cI cZ (upd pl n x) br md tn (nI n) sp we tw sl pr al mo (nI h) cr tu le to ia 0) H := hP
              have hD : va_D A (wM b cI cZ (upd pl n x) br md tn (nI n) sp we tw sl pr al mo (nI h) cr tu le to ia 0) := hD
              refine lv_aload_n hx hb dX5_turbine_88 rfl (lv_at hl 0 rfl) ?_
              refine lv_dup hx hb dX5_turbine_89 rfl ?_
              refine va_get (D := D) (ci := 5) (v := .int (nI n)) (C := RX5) (T := TX5) (N := 19) hx hb hts (by decide +kernel) hown hK.1 hP 0 rfl rfl 4 (by decide) (hts (.fieldLink RX5 62 "TurbineorchardModel" "turbines" "I") (by decide +kernel)) (fun _ h9 => h9) rfl dX5_turbine_90 ?_
              refine lv_iconst (v := 1) hx hb dX5_turbine_93 (by decide) ?_
              refine lv_iadd hx hb dX5_turbine_94 ?_
              refine k_rw (y := nI (n + 1)) (nI_1 n) ?_
              refine va_put (D := D) (ci := 5) (v := .int (nI (n + 1))) (ty := .int) (C := RX5) (T := TX5) (N := 19) hx hb hts (by decide +kernel) tyX5 tyX5_ok nmX5 hown hK.1 hP hD hS 0 rfl rfl 4 (by decide) (hts (.fieldLink RX5 62 "TurbineorchardModel" "turbines" "I") (by decide +kernel)) (fun _ h9 => h9) rfl (by decide +kernel) rfl rfl (Nat.le_of_ble_eq_true rfl) dX5_turbine_95 (fun H locs hP hD hS => ?_)
              have hP : va_P D vwCl (wM b cI cZ (upd pl n x) br md tn (nI (n + 1)) sp we tw sl pr al mo (nI h) cr tu le to ia 0) H := hP
              have hD : va_D A (wM b cI cZ (upd pl n x) br md tn (nI (n + 1)) sp we tw sl pr al mo (nI h) cr tu le to ia 0) := hD
              refine lv_aload_n hx hb dX5_turbine_98 rfl (lv_at hl 0 rfl) ?_
              refine va_get (D := D) (ci := 5) (v := .int (nI (n + 1))) (C := RX5) (T := TX5) (N := 19) hx hb hts (by decide +kernel) hown hK.1 hP 0 rfl rfl 4 (by decide) (hts (.fieldLink RX5 62 "TurbineorchardModel" "turbines" "I") (by decide +kernel)) (fun _ h9 => h9) rfl dX5_turbine_99 ?_
              refine lv_iconst (v := 1) hx hb dX5_turbine_102 (by decide) ?_
              refine lv_isub hx hb dX5_turbine_103 ?_
              have e9 : (kIf (cTurbM n pl x) (upd pl n x) pl) = (upd pl n x) := kIf_0 (by unfold cTurbM; rw [if_pos c_45, if_neg (fun q => q.elim c_53 c_62)])
              have hP : va_P D vwCl (wM b cI cZ (kIf (cTurbM n pl x) (upd pl n x) pl) br md tn (nI (n + 1)) sp we tw sl pr al mo (nI h) cr tu le to ia 0) H := by rw [e9]; exact hP
              have hD : va_D A (wM b cI cZ (kIf (cTurbM n pl x) (upd pl n x) pl) br md tn (nI (n + 1)) sp we tw sl pr al mo (nI h) cr tu le to ia 0) := by rw [e9]; exact hD
              clear e9
              have e9 : (kIfi (cTurbM n pl x) (nI (n + 1)) (nI n)) = (nI (n + 1)) := kIfi_0 (by unfold cTurbM; rw [if_pos c_45, if_neg (fun q => q.elim c_53 c_62)])
              have hP : va_P D vwCl (wM b cI cZ (kIf (cTurbM n pl x) (upd pl n x) pl) br md tn (kIfi (cTurbM n pl x) (nI (n + 1)) (nI n)) sp we tw sl pr al mo (nI h) cr tu le to ia 0) H := by rw [e9]; exact hP
              have hD : va_D A (wM b cI cZ (kIf (cTurbM n pl x) (upd pl n x) pl) br md tn (kIfi (cTurbM n pl x) (nI (n + 1)) (nI n)) sp we tw sl pr al mo (nI h) cr tu le to ia 0) := by rw [e9]; exact hD
              clear e9
              have e9 : (nI (cTurbM n pl x)) = 0 := by rw [show cTurbM n pl x = 0 from by unfold cTurbM; rw [if_pos c_45, if_neg (fun q => q.elim c_53 c_62)]]; rfl
              have hP : va_P D vwCl (wM b cI cZ (kIf (cTurbM n pl x) (upd pl n x) pl) br md tn (kIfi (cTurbM n pl x) (nI (n + 1)) (nI n)) sp we tw sl pr al mo (nI h) cr tu le to ia (nI (cTurbM n pl x))) H := by rw [e9]; exact hP
              have hD : va_D A (wM b cI cZ (kIf (cTurbM n pl x) (upd pl n x) pl) br md tn (kIfi (cTurbM n pl x) (nI (n + 1)) (nI n)) sp we tw sl pr al mo (nI h) cr tu le to ia (nI (cTurbM n pl x))) := by rw [e9]; exact hD
              clear e9
              exact k_endI (ty := .int) hx hb hr hlocks (rfl) (fun _ => nI_pred n) hP hD hS dX5_turbine_104
            · have c_62 : n = 12 := (nI_eq (by omega) (by decide)).mp c_62
              refine lv_iconst (v := 2) hx hb dX5_turbine_65 (by decide) ?_
              refine lv_goto (tgt := 70) hx hb dX5_turbine_66 (by decide) ?_
              refine k_ui (WR := []) (WN := (wM b cI cZ pl br md tn (nI n) sp we tw sl pr al mo (nI h) cr tu le to ia 2)) (As := [.int 2]) (rest := []) (nL := 4) ⟨hx, hb, hml, hown, hts⟩ hK hP hD hS hA (c_X5_fails l D b cI cZ _ pl br md tn (nI n) sp we tw sl pr al mo (nI h) cr tu le to ia th 2) [0, 1, 2, 3, 4, 5, 6, 7, 8, 9, 10, 11, 12, 13, 14, 15, 16] [] [0, 1, 2, 3, 4, 5, 6, 7, 8, 9, 10, 11, 12, 13, 14, 15, 16] rfl rfl (by decide) rfl (by decide) (by decide) rfl rfl (by decide) 0 rfl rfl rfl (cwV 1 hts gX5_turbine_X5_fails rfl rfl rfl (by decide +kernel) ⟨Nat.le_of_ble_eq_true rfl, Nat.le_of_ble_eq_true rfl⟩) rfl hl.1 rfl (Nat.le_of_ble_eq_true rfl) dX5_turbine_70 ⟨Nat.zero_le _, Nat.zero_le _⟩ (fun r9 H locs hr9 hP hD hS => ?_)
              subst hr9
              refine lv_if_eq (tgt := 78) hx hb dX5_turbine_73 (by decide) (fun c_73 => by first | exact absurd c_73 (by decide) | exact absurd (by decide) c_73) (fun c_73 => ?_)
              refine lv_iconst (v := (-1)) hx hb dX5_turbine_76 (by decide) ?_
              have e9 : (kIf (cTurbM n pl x) (upd pl n x) pl) = pl := kIf_s (fun z9 => absurd (z9.symm.trans (show cTurbM n pl x = 2 from by unfold cTurbM; rw [if_pos c_45, if_pos (Or.inr c_62)])) (by decide))
              have hP : va_P D vwCl (wM b cI cZ (kIf (cTurbM n pl x) (upd pl n x) pl) br md tn (nI n) sp we tw sl pr al mo (nI h) cr tu le to ia 2) H := by rw [e9]; exact hP
              have hD : va_D A (wM b cI cZ (kIf (cTurbM n pl x) (upd pl n x) pl) br md tn (nI n) sp we tw sl pr al mo (nI h) cr tu le to ia 2) := by rw [e9]; exact hD
              clear e9
              have e9 : (kIfi (cTurbM n pl x) (nI (n + 1)) (nI n)) = (nI n) := kIfi_s (fun z9 => absurd (z9.symm.trans (show cTurbM n pl x = 2 from by unfold cTurbM; rw [if_pos c_45, if_pos (Or.inr c_62)])) (by decide))
              have hP : va_P D vwCl (wM b cI cZ (kIf (cTurbM n pl x) (upd pl n x) pl) br md tn (kIfi (cTurbM n pl x) (nI (n + 1)) (nI n)) sp we tw sl pr al mo (nI h) cr tu le to ia 2) H := by rw [e9]; exact hP
              have hD : va_D A (wM b cI cZ (kIf (cTurbM n pl x) (upd pl n x) pl) br md tn (kIfi (cTurbM n pl x) (nI (n + 1)) (nI n)) sp we tw sl pr al mo (nI h) cr tu le to ia 2) := by rw [e9]; exact hD
              clear e9
              have e9 : (nI (cTurbM n pl x)) = 2 := by rw [show cTurbM n pl x = 2 from by unfold cTurbM; rw [if_pos c_45, if_pos (Or.inr c_62)]]; rfl
              have hP : va_P D vwCl (wM b cI cZ (kIf (cTurbM n pl x) (upd pl n x) pl) br md tn (kIfi (cTurbM n pl x) (nI (n + 1)) (nI n)) sp we tw sl pr al mo (nI h) cr tu le to ia (nI (cTurbM n pl x))) H := by rw [e9]; exact hP
              have hD : va_D A (wM b cI cZ (kIf (cTurbM n pl x) (upd pl n x) pl) br md tn (kIfi (cTurbM n pl x) (nI (n + 1)) (nI n)) sp we tw sl pr al mo (nI h) cr tu le to ia (nI (cTurbM n pl x))) := by rw [e9]; exact hD
              clear e9
              exact k_endI (ty := .int) hx hb hr hlocks (rfl) (fun z9 => absurd (z9.symm.trans (show cTurbM n pl x = 2 from by unfold cTurbM; rw [if_pos c_45, if_pos (Or.inr c_62)])) (by decide)) hP hD hS dX5_turbine_77
        · have c_45 := bI_0 c_45
          refine lv_iconst (v := 1) hx hb dX5_turbine_48 (by decide) ?_
          refine lv_goto (tgt := 70) hx hb dX5_turbine_49 (by decide) ?_
          refine k_ui (WR := []) (WN := (wM b cI cZ pl br md tn (nI n) sp we tw sl pr al mo (nI h) cr tu le to ia 1)) (As := [.int 1]) (rest := []) (nL := 4) ⟨hx, hb, hml, hown, hts⟩ hK hP hD hS hA (c_X5_fails l D b cI cZ _ pl br md tn (nI n) sp we tw sl pr al mo (nI h) cr tu le to ia th 1) [0, 1, 2, 3, 4, 5, 6, 7, 8, 9, 10, 11, 12, 13, 14, 15, 16] [] [0, 1, 2, 3, 4, 5, 6, 7, 8, 9, 10, 11, 12, 13, 14, 15, 16] rfl rfl (by decide) rfl (by decide) (by decide) rfl rfl (by decide) 0 rfl rfl rfl (cwV 1 hts gX5_turbine_X5_fails rfl rfl rfl (by decide +kernel) ⟨Nat.le_of_ble_eq_true rfl, Nat.le_of_ble_eq_true rfl⟩) rfl hl.1 rfl (Nat.le_of_ble_eq_true rfl) dX5_turbine_70 ⟨Nat.zero_le _, Nat.zero_le _⟩ (fun r9 H locs hr9 hP hD hS => ?_)
          subst hr9
          refine lv_if_eq (tgt := 78) hx hb dX5_turbine_73 (by decide) (fun c_73 => by first | exact absurd c_73 (by decide) | exact absurd (by decide) c_73) (fun c_73 => ?_)
          refine lv_iconst (v := (-1)) hx hb dX5_turbine_76 (by decide) ?_
          have e9 : (kIf (cTurbM n pl x) (upd pl n x) pl) = pl := kIf_s (fun z9 => absurd (z9.symm.trans (show cTurbM n pl x = 1 from by unfold cTurbM; rw [if_neg c_45])) (by decide))
          have hP : va_P D vwCl (wM b cI cZ (kIf (cTurbM n pl x) (upd pl n x) pl) br md tn (nI n) sp we tw sl pr al mo (nI h) cr tu le to ia 1) H := by rw [e9]; exact hP
          have hD : va_D A (wM b cI cZ (kIf (cTurbM n pl x) (upd pl n x) pl) br md tn (nI n) sp we tw sl pr al mo (nI h) cr tu le to ia 1) := by rw [e9]; exact hD
          clear e9
          have e9 : (kIfi (cTurbM n pl x) (nI (n + 1)) (nI n)) = (nI n) := kIfi_s (fun z9 => absurd (z9.symm.trans (show cTurbM n pl x = 1 from by unfold cTurbM; rw [if_neg c_45])) (by decide))
          have hP : va_P D vwCl (wM b cI cZ (kIf (cTurbM n pl x) (upd pl n x) pl) br md tn (kIfi (cTurbM n pl x) (nI (n + 1)) (nI n)) sp we tw sl pr al mo (nI h) cr tu le to ia 1) H := by rw [e9]; exact hP
          have hD : va_D A (wM b cI cZ (kIf (cTurbM n pl x) (upd pl n x) pl) br md tn (kIfi (cTurbM n pl x) (nI (n + 1)) (nI n)) sp we tw sl pr al mo (nI h) cr tu le to ia 1) := by rw [e9]; exact hD
          clear e9
          have e9 : (nI (cTurbM n pl x)) = 1 := by rw [show cTurbM n pl x = 1 from by unfold cTurbM; rw [if_neg c_45]]; rfl
          have hP : va_P D vwCl (wM b cI cZ (kIf (cTurbM n pl x) (upd pl n x) pl) br md tn (kIfi (cTurbM n pl x) (nI (n + 1)) (nI n)) sp we tw sl pr al mo (nI h) cr tu le to ia (nI (cTurbM n pl x))) H := by rw [e9]; exact hP
          have hD : va_D A (wM b cI cZ (kIf (cTurbM n pl x) (upd pl n x) pl) br md tn (kIfi (cTurbM n pl x) (nI (n + 1)) (nI n)) sp we tw sl pr al mo (nI h) cr tu le to ia (nI (cTurbM n pl x))) := by rw [e9]; exact hD
          clear e9
          exact k_endI (ty := .int) hx hb hr hlocks (rfl) (fun z9 => absurd (z9.symm.trans (show cTurbM n pl x = 1 from by unfold cTurbM; rw [if_neg c_45])) (by decide)) hP hD hS dX5_turbine_77
      · have c_9 : k < n := Nat.lt_of_not_le (fun h => c_9 ((nI_leI (a := n) (b := k) (by omega) (by omega)).mpr h))
        refine lv_iload_n hx hb dX5_turbine_12 rfl (lv_at hl 2 rfl) ?_
        refine lv_aload_n hx hb dX5_turbine_13 rfl (lv_at hl 0 rfl) ?_
        refine va_get (D := D) (ci := 5) (v := .ref (b 1)) (C := RX5) (T := TX5) (N := 19) hx hb hts (by decide +kernel) hown hK.1 hP 0 rfl rfl 0 (by decide) (hts (.fieldLink RX5 7 "TurbineorchardModel" "place" "[I") (by decide +kernel)) (fun _ h9 => h9) rfl dX5_turbine_14 ?_
        refine lv_iload_n hx hb dX5_turbine_17 rfl (lv_at hl 3 rfl) ?_
        refine k_iald hx hb hK.1 hP 1 0 rfl rfl k (rfl) (by omega) (by decide) dX5_turbine_18 ?_
        refine lv_iload_n hx hb dX5_turbine_19 rfl (lv_at hl 1 rfl) ?_
        refine lv_icmp_ne (tgt := 27) hx hb dX5_turbine_20 (by decide) (fun c_20 => ?_) (fun c_20 => ?_)
        · refine lv_iconst (v := 0) hx hb dX5_turbine_27 (by decide) ?_
          refine lv_ior hx hb dX5_turbine_28 ?_
          refine k_rw (y := bI (fAny (fun j => decide (pl j = x)) (k + 1) = true)) (by rw [bI_or0]; exact bI_c ⟨fun q => by unfold fAny; rw [q]; rfl, fun q => (Bool.or_eq_true _ _ ▸ q : _ ∨ _).resolve_right (fun z => c_20 (of_decide_eq_true z))⟩) ?_
          refine lv_istore_n (lv' := [(2, .int (bI (fAny (fun j => decide (pl j = x)) (k + 1) = true))), (0, .ref (b 0)), (1, .int x), (3, .int (nI k))]) hx hb dX5_turbine_29 rfl hl (by decide) rfl (fun ls hl => ?_)
          refine lv_iinc (v := nI (k + 1)) (lv' := [(3, .int (nI (k + 1))), (2, .int (bI (fAny (fun j => decide (pl j = x)) (k + 1) = true))), (0, .ref (b 0)), (1, .int x)]) hx hb dX5_turbine_30 hl (k := 3) rfl (nI_1 _) (by decide) rfl (fun ls hl => ?_)
          refine lv_goto (tgt := 4) hx hb dX5_turbine_33 (by decide) ?_
          exact ih_4 (k + 1) (by omega) (by omega) _ _ hP hD hS _ (lv_sub hl [2, 3, 1, 0] rfl)
        · refine lv_iconst (v := 1) hx hb dX5_turbine_23 (by decide) ?_
          refine lv_goto (tgt := 28) hx hb dX5_turbine_24 (by decide) ?_
          refine lv_ior hx hb dX5_turbine_28 ?_
          refine k_rw (y := bI (fAny (fun j => decide (pl j = x)) (k + 1) = true)) (by rw [bI_or1]; exact (bI_t (by unfold fAny; rw [show decide (pl k = x) = true from decide_eq_true c_20, Bool.or_true])).symm) ?_
          refine lv_istore_n (lv' := [(2, .int (bI (fAny (fun j => decide (pl j = x)) (k + 1) = true))), (0, .ref (b 0)), (1, .int x), (3, .int (nI k))]) hx hb dX5_turbine_29 rfl hl (by decide) rfl (fun ls hl => ?_)
          refine lv_iinc (v := nI (k + 1)) (lv' := [(3, .int (nI (k + 1))), (2, .int (bI (fAny (fun j => decide (pl j = x)) (k + 1) = true))), (0, .ref (b 0)), (1, .int x)]) hx hb dX5_turbine_30 hl (k := 3) rfl (nI_1 _) (by decide) rfl (fun ls hl => ?_)
          refine lv_goto (tgt := 4) hx hb dX5_turbine_33 (by decide) ?_
          exact ih_4 (k + 1) (by omega) (by omega) _ _ hP hD hS _ (lv_sub hl [2, 3, 1, 0] rfl)
  exact loop_4 (n - 0 + 1) 0 (by omega) (by omega) _ _ hP hD hS _ (lv_sub hl [2, 3, 1, 0] rfl)

set_option maxHeartbeats 4000000 in
set_option maxRecDepth 100000 in
theorem c_X5_wind (l : Launch) (D : va_G) (b : Nat → Nat) (cI cZ : ClassId) (sz : Nat) (pl : Nat → Int32) (br : Nat → Int32) (md : Nat → Int32) (tn : Nat → Int32) (sp : Nat → Int32) (we : Nat → Int32) (tw : Nat → Int32) (sl : Nat → Int32) (pr : Nat → Int32) (al : Nat → Int32) (mo : Nat → Int32) (cr : Nat → Int32) (tu : Nat → Int32) (le : Nat → Int32) (to : Nat → Int32) (ia : Nat → Int32) (th : Int32) (n : Nat) (h : Nat) (f : Int32) (t : Int32) (v : Int32) (w : Int32) (hn : n ≤ 12) (hh : h < 480) (hw : w = 0 ∨ w = 1) : kUi l yX5_wind wsX5_wind ({ frames := 1, cells := 0, slots := 0, locals := 23 }) [.ref (b 0), .int f, .int t, .int v, .int w] D cI cZ sz (wM b cI cZ pl br md tn (nI n) sp we tw sl pr al mo (nI h) cr tu le to ia th) (wM b cI cZ pl br md tn (nI n) (kIf (cWind h f t v) (setR sp (cl f) (cl t + 1) v) sp) (kIf (cWind h f t v) (setR we (cl f) (cl t + 1) w) we) tw sl pr al mo (nI h) cr tu le to ia (nI (cWind h f t v))) (fun r => cWind h f t v = 0 → r = t - f + 1) := by
  refine Met.ofW (cc := cX5_wind) (maxL := 7) (ret := (some .int)) (by decide) rfl ?_
  intro p e s m args below meth c s₁ B hml hv
  obtain ⟨rfl, hsz, hP, hK, hD0⟩ := hv
  have hx := B.exec
  have hb := B.bytes
  have hr := B.returns
  have hts := atoms_spec (ws := wsX5_wind) B.pre
  have hown : s.vm.findClass RX5 = some m.cls := findClass_of_methodNamed B.named
  have hlocks := B.notSynchronized
  subst hsz
  have hD := hD0.self (sz := s.heap.size)
  generalize hAe : va_A (wM b cI cZ pl br md tn (nI n) sp we tw sl pr al mo (nI h) cr tu le to ia th) s.heap.size = A at hD ⊢
  have hA : ∀ q : Nat, s.heap.size ≤ q → A q := fun q h => by rw [← hAe]; exact Or.inr h
  have hS : va_S A s.heap s.heap [] := va_S.rf
  have hl := lv_entry ([.ref (b 0), .int f, .int t, .int v, .int w]) (n := 7) (Nat.le_of_ble_eq_true rfl)
  rw [lg_entry_eq]
  generalize (lg_sl ([.ref (b 0), .int f, .int t, .int v, .int w]) ++ List.replicate (7 - (lg_sl ([.ref (b 0), .int f, .int t, .int v, .int w])).length) Slot.unset).toArray = ls at hl ⊢
  have hl : lv_has ls 7 [(0, .ref (b 0)), (1, .int f), (2, .int t), (3, .int v), (4, .int w)] := hl
  refine lv_aload_n hx hb dX5_wind_0 rfl (lv_at hl 0 rfl) ?_
  refine lv_iload_n hx hb dX5_wind_1 rfl (lv_at hl 1 rfl) ?_
  refine lv_aload_n hx hb dX5_wind_2 rfl (lv_at hl 0 rfl) ?_
  refine va_get (D := D) (ci := 5) (v := .int (nI h)) (C := RX5) (T := TX5) (N := 19) hx hb hts (by decide +kernel) hown hK.1 hP 0 rfl rfl 12 (by decide) (hts (.fieldLink RX5 73 "TurbineorchardModel" "now" "I") (by decide +kernel)) (fun _ h9 => h9) rfl dX5_wind_3 ?_
  refine lv_sipush (v := 479) hx hb dX5_wind_6 (by decide) ?_
  refine k_pv (As := [.int f, .int (nI h), .int 479]) (rest := []) (nL := 7) ⟨hx, hb, hml, hown, hts⟩ (c_X5_in l _ f (nI h) 479) (cwV 3 hts gX5_wind_X5_in rfl rfl rfl (by decide +kernel) ⟨Nat.le_of_ble_eq_true rfl, Nat.le_of_ble_eq_true rfl⟩) (va_recv hK.1 hP (ci := 5) (q0 := 0) rfl rfl) rfl hl.1 rfl (Nat.le_of_ble_eq_true rfl) dX5_wind_9 ⟨Nat.zero_le _, Nat.zero_le _⟩ (fun r9 hr9 => ?_)
  subst hr9
  refine lv_if_eq (tgt := 42) hx hb dX5_wind_12 (by decide) (fun c_12 => ?_) (fun c_12 => ?_)
  · have c_12 := bI_0 c_12
    refine lv_iconst (v := 0) hx hb dX5_wind_42 (by decide) ?_
    refine lv_istore (lv' := [(5, .int 0), (0, .ref (b 0)), (1, .int f), (2, .int t), (3, .int v), (4, .int w)]) hx hb dX5_wind_43 hl (by decide) rfl (fun ls hl => ?_)
    refine lv_aload_n hx hb dX5_wind_45 rfl (lv_at hl 1 rfl) ?_
    refine lv_iload hx hb dX5_wind_46 (lv_at hl 0 rfl) ?_
    refine lv_if_eq (tgt := 55) hx hb dX5_wind_48 (by decide) (fun c_48 => ?_) (fun c_48 => by first | exact absurd c_48 (by decide) | exact absurd (by decide) c_48)
    refine lv_iconst (v := 1) hx hb dX5_wind_55 (by decide) ?_
    refine k_ui (WR := []) (WN := (wM b cI cZ pl br md tn (nI n) sp we tw sl pr al mo (nI h) cr tu le to ia 1)) (As := [.int 1]) (rest := []) (nL := 7) ⟨hx, hb, hml, hown, hts⟩ hK hP hD hS hA (c_X5_fails l D b cI cZ _ pl br md tn (nI n) sp we tw sl pr al mo (nI h) cr tu le to ia th 1) [0, 1, 2, 3, 4, 5, 6, 7, 8, 9, 10, 11, 12, 13, 14, 15, 16] [] [0, 1, 2, 3, 4, 5, 6, 7, 8, 9, 10, 11, 12, 13, 14, 15, 16] rfl rfl (by decide) rfl (by decide) (by decide) rfl rfl (by decide) 0 rfl rfl rfl (cwV 1 hts gX5_wind_X5_fails rfl rfl rfl (by decide +kernel) ⟨Nat.le_of_ble_eq_true rfl, Nat.le_of_ble_eq_true rfl⟩) rfl hl.1 rfl (Nat.le_of_ble_eq_true rfl) dX5_wind_56 ⟨Nat.zero_le _, Nat.zero_le _⟩ (fun r9 H locs hr9 hP hD hS => ?_)
    subst hr9
    refine lv_if_eq (tgt := 64) hx hb dX5_wind_59 (by decide) (fun c_59 => by first | exact absurd c_59 (by decide) | exact absurd (by decide) c_59) (fun c_59 => ?_)
    have e9 : (kIf (cWind h f t v) (setR sp (cl f) (cl t + 1) v) sp) = sp := kIf_s (fun z9 => absurd (z9.symm.trans (show cWind h f t v = 1 from by unfold cWind; rw [if_neg (fun q => c_12 q.1)])) (by decide))
    have hP : va_P D vwCl (wM b cI cZ pl br md tn (nI n) (kIf (cWind h f t v) (setR sp (cl f) (cl t + 1) v) sp) we tw sl pr al mo (nI h) cr tu le to ia 1) H := by rw [e9]; exact hP
    have hD : va_D A (wM b cI cZ pl br md tn (nI n) (kIf (cWind h f t v) (setR sp (cl f) (cl t + 1) v) sp) we tw sl pr al mo (nI h) cr tu le to ia 1) := by rw [e9]; exact hD
    clear e9
    have e9 : (kIf (cWind h f t v) (setR we (cl f) (cl t + 1) w) we) = we := kIf_s (fun z9 => absurd (z9.symm.trans (show cWind h f t v = 1 from by unfold cWind; rw [if_neg (fun q => c_12 q.1)])) (by decide))
    have hP : va_P D vwCl (wM b cI cZ pl br md tn (nI n) (kIf (cWind h f t v) (setR sp (cl f) (cl t + 1) v) sp) (kIf (cWind h f t v) (setR we (cl f) (cl t + 1) w) we) tw sl pr al mo (nI h) cr tu le to ia 1) H := by rw [e9]; exact hP
    have hD : va_D A (wM b cI cZ pl br md tn (nI n) (kIf (cWind h f t v) (setR sp (cl f) (cl t + 1) v) sp) (kIf (cWind h f t v) (setR we (cl f) (cl t + 1) w) we) tw sl pr al mo (nI h) cr tu le to ia 1) := by rw [e9]; exact hD
    clear e9
    have e9 : (nI (cWind h f t v)) = 1 := by rw [show cWind h f t v = 1 from by unfold cWind; rw [if_neg (fun q => c_12 q.1)]]; rfl
    have hP : va_P D vwCl (wM b cI cZ pl br md tn (nI n) (kIf (cWind h f t v) (setR sp (cl f) (cl t + 1) v) sp) (kIf (cWind h f t v) (setR we (cl f) (cl t + 1) w) we) tw sl pr al mo (nI h) cr tu le to ia (nI (cWind h f t v))) H := by rw [e9]; exact hP
    have hD : va_D A (wM b cI cZ pl br md tn (nI n) (kIf (cWind h f t v) (setR sp (cl f) (cl t + 1) v) sp) (kIf (cWind h f t v) (setR we (cl f) (cl t + 1) w) we) tw sl pr al mo (nI h) cr tu le to ia (nI (cWind h f t v))) := by rw [e9]; exact hD
    clear e9
    refine lv_iconst (v := (-1)) hx hb dX5_wind_62 (by decide) ?_
    exact k_endI (ty := .int) hx hb hr hlocks (rfl) (fun z9 => absurd (z9.symm.trans (show cWind h f t v = 1 from by unfold cWind; rw [if_neg (fun q => c_12 q.1)])) (by decide)) hP hD hS dX5_wind_63
  · have c_12 := bI_n c_12
    refine lv_aload_n hx hb dX5_wind_15 rfl (lv_at hl 0 rfl) ?_
    refine lv_iload_n hx hb dX5_wind_16 rfl (lv_at hl 2 rfl) ?_
    refine lv_iload_n hx hb dX5_wind_17 rfl (lv_at hl 1 rfl) ?_
    refine lv_sipush (v := 479) hx hb dX5_wind_18 (by decide) ?_
    refine k_pv (As := [.int t, .int f, .int 479]) (rest := []) (nL := 7) ⟨hx, hb, hml, hown, hts⟩ (c_X5_in l _ t f 479) (cwV 3 hts gX5_wind_X5_in rfl rfl rfl (by decide +kernel) ⟨Nat.le_of_ble_eq_true rfl, Nat.le_of_ble_eq_true rfl⟩) (va_recv hK.1 hP (ci := 5) (q0 := 0) rfl rfl) rfl hl.1 rfl (Nat.le_of_ble_eq_true rfl) dX5_wind_21 ⟨Nat.zero_le _, Nat.zero_le _⟩ (fun r9 hr9 => ?_)
    subst hr9
    refine lv_if_eq (tgt := 42) hx hb dX5_wind_24 (by decide) (fun c_24 => ?_) (fun c_24 => ?_)
    · have c_24 := bI_0 c_24
      refine lv_iconst (v := 0) hx hb dX5_wind_42 (by decide) ?_
      refine lv_istore (lv' := [(5, .int 0), (0, .ref (b 0)), (1, .int f), (2, .int t), (3, .int v), (4, .int w)]) hx hb dX5_wind_43 hl (by decide) rfl (fun ls hl => ?_)
      refine lv_aload_n hx hb dX5_wind_45 rfl (lv_at hl 1 rfl) ?_
      refine lv_iload hx hb dX5_wind_46 (lv_at hl 0 rfl) ?_
      refine lv_if_eq (tgt := 55) hx hb dX5_wind_48 (by decide) (fun c_48 => ?_) (fun c_48 => by first | exact absurd c_48 (by decide) | exact absurd (by decide) c_48)
      refine lv_iconst (v := 1) hx hb dX5_wind_55 (by decide) ?_
      refine k_ui (WR := []) (WN := (wM b cI cZ pl br md tn (nI n) sp we tw sl pr al mo (nI h) cr tu le to ia 1)) (As := [.int 1]) (rest := []) (nL := 7) ⟨hx, hb, hml, hown, hts⟩ hK hP hD hS hA (c_X5_fails l D b cI cZ _ pl br md tn (nI n) sp we tw sl pr al mo (nI h) cr tu le to ia th 1) [0, 1, 2, 3, 4, 5, 6, 7, 8, 9, 10, 11, 12, 13, 14, 15, 16] [] [0, 1, 2, 3, 4, 5, 6, 7, 8, 9, 10, 11, 12, 13, 14, 15, 16] rfl rfl (by decide) rfl (by decide) (by decide) rfl rfl (by decide) 0 rfl rfl rfl (cwV 1 hts gX5_wind_X5_fails rfl rfl rfl (by decide +kernel) ⟨Nat.le_of_ble_eq_true rfl, Nat.le_of_ble_eq_true rfl⟩) rfl hl.1 rfl (Nat.le_of_ble_eq_true rfl) dX5_wind_56 ⟨Nat.zero_le _, Nat.zero_le _⟩ (fun r9 H locs hr9 hP hD hS => ?_)
      subst hr9
      refine lv_if_eq (tgt := 64) hx hb dX5_wind_59 (by decide) (fun c_59 => by first | exact absurd c_59 (by decide) | exact absurd (by decide) c_59) (fun c_59 => ?_)
      have e9 : (kIf (cWind h f t v) (setR sp (cl f) (cl t + 1) v) sp) = sp := kIf_s (fun z9 => absurd (z9.symm.trans (show cWind h f t v = 1 from by unfold cWind; rw [if_neg (fun q => c_24 q.2.1)])) (by decide))
      have hP : va_P D vwCl (wM b cI cZ pl br md tn (nI n) (kIf (cWind h f t v) (setR sp (cl f) (cl t + 1) v) sp) we tw sl pr al mo (nI h) cr tu le to ia 1) H := by rw [e9]; exact hP
      have hD : va_D A (wM b cI cZ pl br md tn (nI n) (kIf (cWind h f t v) (setR sp (cl f) (cl t + 1) v) sp) we tw sl pr al mo (nI h) cr tu le to ia 1) := by rw [e9]; exact hD
      clear e9
      have e9 : (kIf (cWind h f t v) (setR we (cl f) (cl t + 1) w) we) = we := kIf_s (fun z9 => absurd (z9.symm.trans (show cWind h f t v = 1 from by unfold cWind; rw [if_neg (fun q => c_24 q.2.1)])) (by decide))
      have hP : va_P D vwCl (wM b cI cZ pl br md tn (nI n) (kIf (cWind h f t v) (setR sp (cl f) (cl t + 1) v) sp) (kIf (cWind h f t v) (setR we (cl f) (cl t + 1) w) we) tw sl pr al mo (nI h) cr tu le to ia 1) H := by rw [e9]; exact hP
      have hD : va_D A (wM b cI cZ pl br md tn (nI n) (kIf (cWind h f t v) (setR sp (cl f) (cl t + 1) v) sp) (kIf (cWind h f t v) (setR we (cl f) (cl t + 1) w) we) tw sl pr al mo (nI h) cr tu le to ia 1) := by rw [e9]; exact hD
      clear e9
      have e9 : (nI (cWind h f t v)) = 1 := by rw [show cWind h f t v = 1 from by unfold cWind; rw [if_neg (fun q => c_24 q.2.1)]]; rfl
      have hP : va_P D vwCl (wM b cI cZ pl br md tn (nI n) (kIf (cWind h f t v) (setR sp (cl f) (cl t + 1) v) sp) (kIf (cWind h f t v) (setR we (cl f) (cl t + 1) w) we) tw sl pr al mo (nI h) cr tu le to ia (nI (cWind h f t v))) H := by rw [e9]; exact hP
      have hD : va_D A (wM b cI cZ pl br md tn (nI n) (kIf (cWind h f t v) (setR sp (cl f) (cl t + 1) v) sp) (kIf (cWind h f t v) (setR we (cl f) (cl t + 1) w) we) tw sl pr al mo (nI h) cr tu le to ia (nI (cWind h f t v))) := by rw [e9]; exact hD
      clear e9
      refine lv_iconst (v := (-1)) hx hb dX5_wind_62 (by decide) ?_
      exact k_endI (ty := .int) hx hb hr hlocks (rfl) (fun z9 => absurd (z9.symm.trans (show cWind h f t v = 1 from by unfold cWind; rw [if_neg (fun q => c_24 q.2.1)])) (by decide)) hP hD hS dX5_wind_63
    · have c_24 := bI_n c_24
      refine lv_aload_n hx hb dX5_wind_27 rfl (lv_at hl 0 rfl) ?_
      refine lv_iload_n hx hb dX5_wind_28 rfl (lv_at hl 3 rfl) ?_
      refine lv_iconst (v := 0) hx hb dX5_wind_29 (by decide) ?_
      refine lv_bipush (v := 40) hx hb dX5_wind_30 (by decide) ?_
      refine k_pv (As := [.int v, .int 0, .int 40]) (rest := []) (nL := 7) ⟨hx, hb, hml, hown, hts⟩ (c_X5_in l _ v 0 40) (cwV 3 hts gX5_wind_X5_in rfl rfl rfl (by decide +kernel) ⟨Nat.le_of_ble_eq_true rfl, Nat.le_of_ble_eq_true rfl⟩) (va_recv hK.1 hP (ci := 5) (q0 := 0) rfl rfl) rfl hl.1 rfl (Nat.le_of_ble_eq_true rfl) dX5_wind_32 ⟨Nat.zero_le _, Nat.zero_le _⟩ (fun r9 hr9 => ?_)
      subst hr9
      refine lv_if_eq (tgt := 42) hx hb dX5_wind_35 (by decide) (fun c_35 => ?_) (fun c_35 => ?_)
      · have c_35 := bI_0 c_35
        refine lv_iconst (v := 0) hx hb dX5_wind_42 (by decide) ?_
        refine lv_istore (lv' := [(5, .int 0), (0, .ref (b 0)), (1, .int f), (2, .int t), (3, .int v), (4, .int w)]) hx hb dX5_wind_43 hl (by decide) rfl (fun ls hl => ?_)
        refine lv_aload_n hx hb dX5_wind_45 rfl (lv_at hl 1 rfl) ?_
        refine lv_iload hx hb dX5_wind_46 (lv_at hl 0 rfl) ?_
        refine lv_if_eq (tgt := 55) hx hb dX5_wind_48 (by decide) (fun c_48 => ?_) (fun c_48 => by first | exact absurd c_48 (by decide) | exact absurd (by decide) c_48)
        refine lv_iconst (v := 1) hx hb dX5_wind_55 (by decide) ?_
        refine k_ui (WR := []) (WN := (wM b cI cZ pl br md tn (nI n) sp we tw sl pr al mo (nI h) cr tu le to ia 1)) (As := [.int 1]) (rest := []) (nL := 7) ⟨hx, hb, hml, hown, hts⟩ hK hP hD hS hA (c_X5_fails l D b cI cZ _ pl br md tn (nI n) sp we tw sl pr al mo (nI h) cr tu le to ia th 1) [0, 1, 2, 3, 4, 5, 6, 7, 8, 9, 10, 11, 12, 13, 14, 15, 16] [] [0, 1, 2, 3, 4, 5, 6, 7, 8, 9, 10, 11, 12, 13, 14, 15, 16] rfl rfl (by decide) rfl (by decide) (by decide) rfl rfl (by decide) 0 rfl rfl rfl (cwV 1 hts gX5_wind_X5_fails rfl rfl rfl (by decide +kernel) ⟨Nat.le_of_ble_eq_true rfl, Nat.le_of_ble_eq_true rfl⟩) rfl hl.1 rfl (Nat.le_of_ble_eq_true rfl) dX5_wind_56 ⟨Nat.zero_le _, Nat.zero_le _⟩ (fun r9 H locs hr9 hP hD hS => ?_)
        subst hr9
        refine lv_if_eq (tgt := 64) hx hb dX5_wind_59 (by decide) (fun c_59 => by first | exact absurd c_59 (by decide) | exact absurd (by decide) c_59) (fun c_59 => ?_)
        have e9 : (kIf (cWind h f t v) (setR sp (cl f) (cl t + 1) v) sp) = sp := kIf_s (fun z9 => absurd (z9.symm.trans (show cWind h f t v = 1 from by unfold cWind; rw [if_neg (fun q => c_35 q.2.2)])) (by decide))
        have hP : va_P D vwCl (wM b cI cZ pl br md tn (nI n) (kIf (cWind h f t v) (setR sp (cl f) (cl t + 1) v) sp) we tw sl pr al mo (nI h) cr tu le to ia 1) H := by rw [e9]; exact hP
        have hD : va_D A (wM b cI cZ pl br md tn (nI n) (kIf (cWind h f t v) (setR sp (cl f) (cl t + 1) v) sp) we tw sl pr al mo (nI h) cr tu le to ia 1) := by rw [e9]; exact hD
        clear e9
        have e9 : (kIf (cWind h f t v) (setR we (cl f) (cl t + 1) w) we) = we := kIf_s (fun z9 => absurd (z9.symm.trans (show cWind h f t v = 1 from by unfold cWind; rw [if_neg (fun q => c_35 q.2.2)])) (by decide))
        have hP : va_P D vwCl (wM b cI cZ pl br md tn (nI n) (kIf (cWind h f t v) (setR sp (cl f) (cl t + 1) v) sp) (kIf (cWind h f t v) (setR we (cl f) (cl t + 1) w) we) tw sl pr al mo (nI h) cr tu le to ia 1) H := by rw [e9]; exact hP
        have hD : va_D A (wM b cI cZ pl br md tn (nI n) (kIf (cWind h f t v) (setR sp (cl f) (cl t + 1) v) sp) (kIf (cWind h f t v) (setR we (cl f) (cl t + 1) w) we) tw sl pr al mo (nI h) cr tu le to ia 1) := by rw [e9]; exact hD
        clear e9
        have e9 : (nI (cWind h f t v)) = 1 := by rw [show cWind h f t v = 1 from by unfold cWind; rw [if_neg (fun q => c_35 q.2.2)]]; rfl
        have hP : va_P D vwCl (wM b cI cZ pl br md tn (nI n) (kIf (cWind h f t v) (setR sp (cl f) (cl t + 1) v) sp) (kIf (cWind h f t v) (setR we (cl f) (cl t + 1) w) we) tw sl pr al mo (nI h) cr tu le to ia (nI (cWind h f t v))) H := by rw [e9]; exact hP
        have hD : va_D A (wM b cI cZ pl br md tn (nI n) (kIf (cWind h f t v) (setR sp (cl f) (cl t + 1) v) sp) (kIf (cWind h f t v) (setR we (cl f) (cl t + 1) w) we) tw sl pr al mo (nI h) cr tu le to ia (nI (cWind h f t v))) := by rw [e9]; exact hD
        clear e9
        refine lv_iconst (v := (-1)) hx hb dX5_wind_62 (by decide) ?_
        exact k_endI (ty := .int) hx hb hr hlocks (rfl) (fun z9 => absurd (z9.symm.trans (show cWind h f t v = 1 from by unfold cWind; rw [if_neg (fun q => c_35 q.2.2)])) (by decide)) hP hD hS dX5_wind_63
      · have c_35 := bI_n c_35
        refine lv_iconst (v := 1) hx hb dX5_wind_38 (by decide) ?_
        refine lv_goto (tgt := 43) hx hb dX5_wind_39 (by decide) ?_
        refine lv_istore (lv' := [(5, .int 1), (0, .ref (b 0)), (1, .int f), (2, .int t), (3, .int v), (4, .int w)]) hx hb dX5_wind_43 hl (by decide) rfl (fun ls hl => ?_)
        refine lv_aload_n hx hb dX5_wind_45 rfl (lv_at hl 1 rfl) ?_
        refine lv_iload hx hb dX5_wind_46 (lv_at hl 0 rfl) ?_
        refine lv_if_eq (tgt := 55) hx hb dX5_wind_48 (by decide) (fun c_48 => by first | exact absurd c_48 (by decide) | exact absurd (by decide) c_48) (fun c_48 => ?_)
        refine lv_iconst (v := 0) hx hb dX5_wind_51 (by decide) ?_
        refine lv_goto (tgt := 56) hx hb dX5_wind_52 (by decide) ?_
        refine k_ui (WR := []) (WN := (wM b cI cZ pl br md tn (nI n) sp we tw sl pr al mo (nI h) cr tu le to ia 0)) (As := [.int 0]) (rest := []) (nL := 7) ⟨hx, hb, hml, hown, hts⟩ hK hP hD hS hA (c_X5_fails l D b cI cZ _ pl br md tn (nI n) sp we tw sl pr al mo (nI h) cr tu le to ia th 0) [0, 1, 2, 3, 4, 5, 6, 7, 8, 9, 10, 11, 12, 13, 14, 15, 16] [] [0, 1, 2, 3, 4, 5, 6, 7, 8, 9, 10, 11, 12, 13, 14, 15, 16] rfl rfl (by decide) rfl (by decide) (by decide) rfl rfl (by decide) 0 rfl rfl rfl (cwV 1 hts gX5_wind_X5_fails rfl rfl rfl (by decide +kernel) ⟨Nat.le_of_ble_eq_true rfl, Nat.le_of_ble_eq_true rfl⟩) rfl hl.1 rfl (Nat.le_of_ble_eq_true rfl) dX5_wind_56 ⟨Nat.zero_le _, Nat.zero_le _⟩ (fun r9 H locs hr9 hP hD hS => ?_)
        subst hr9
        refine lv_if_eq (tgt := 64) hx hb dX5_wind_59 (by decide) (fun c_59 => ?_) (fun c_59 => by first | exact absurd c_59 (by decide) | exact absurd (by decide) c_59)
        have hq := cl_rng (n := h) (m := 479) (nI_toInt (by omega)) (by decide) c_12
        have hf9 : f.toInt = (cl f : Int) := by have := nI_toInt (n := cl f) (by omega); rw [← hq.1] at this; exact this
        have hr9 := cl_rng (n := cl f) (m := 479) hf9 (by decide) c_24
        rw [hq.1] at hl
        rw [hr9.1] at hl
        have e9 : sp = (setR sp (cl f) (cl f) v) := (setR_0 _ _ _).symm
        rw [e9] at hP hD
        clear e9
        have e9 : we = (setR we (cl f) (cl f) w) := (setR_0 _ _ _).symm
        rw [e9] at hP hD
        clear e9
        refine lv_iload_n hx hb dX5_wind_64 rfl (lv_at hl 2 rfl) ?_
        refine lv_istore (lv' := [(6, .int (nI (cl f))), (5, .int 1), (0, .ref (b 0)), (1, .int (nI (cl f))), (2, .int (nI (cl t))), (3, .int v), (4, .int w)]) hx hb dX5_wind_65 hl (by decide) rfl (fun ls hl => ?_)
        have loop_67 : ∀ (nn : Nat) (k : Nat), cl t + 1 - k < nn → (cl f ≤ k) → (k ≤ cl t + 1) → ∀ (H : Heap) (locs : List Loc), va_P D vwCl (wM b cI cZ pl br md tn (nI n) (setR sp (cl f) k v) (setR we (cl f) k w) tw sl pr al mo (nI h) cr tu le to ia 0) H → va_D A (wM b cI cZ pl br md tn (nI n) (setR sp (cl f) k v) (setR we (cl f) k w) tw sl pr al mo (nI h) cr tu le to ia 0) → va_S A s.heap H locs → ∀ (ls : Array Slot), lv_has ls 7 [(0, .ref (b 0)), (1, .int (nI (cl f))), (2, .int (nI (cl t))), (3, .int v), (4, .int w), (6, .int (nI k))] → W p l e (headSpec wsX5_wind ({ frames := 1, cells := 0, slots := 0, locals := 23 })).room s m ([.ref (b 0), .int f, .int t, .int v, .int w] : List Value).toArray below meth c H locs 0 0 (MQ below (va_Qi (fun (r : Int32) (_ : Unit) => (fun r => cWind h f t v = 0 → r = t - f + 1) r) (fun _ t9 => kAt D A (wM b cI cZ pl br md tn (nI n) (kIf (cWind h f t v) (setR sp (cl f) (cl t + 1) v) sp) (kIf (cWind h f t v) (setR we (cl f) (cl t + 1) w) we) tw sl pr al mo (nI h) cr tu le to ia (nI (cWind h f t v))) t9) A) ([.ref (b 0), .int f, .int t, .int v, .int w] : List Value).toArray s 0 0 A) (F0 m 67 ls []) := by
          intro nn
          induction nn with
          | zero => intro k hm; exact absurd hm (by omega)
          | succ nn ih_67 =>
            intro k hm hf hk H locs hP hD hS ls hl
            refine lv_iload hx hb dX5_wind_67 (lv_at hl 5 rfl) ?_
            refine lv_iload_n hx hb dX5_wind_69 rfl (lv_at hl 2 rfl) ?_
            refine lv_icmp_gt (tgt := 104) hx hb dX5_wind_70 (by decide) (fun c_70 => ?_) (fun c_70 => ?_)
            · have c_70 : cl t < k := (nI_ltI (by omega) (by omega)).mp c_70
              have e8 : k = cl t + 1 := by omega
              subst e8
              have e9 : (kIf (cWind h f t v) (setR sp (cl f) (cl t + 1) v) sp) = (setR sp (cl f) (cl t + 1) v) := kIf_0 (by unfold cWind; rw [if_pos ⟨c_12, c_24, c_35⟩])
              have hP : va_P D vwCl (wM b cI cZ pl br md tn (nI n) (kIf (cWind h f t v) (setR sp (cl f) (cl t + 1) v) sp) (setR we (cl f) (cl t + 1) w) tw sl pr al mo (nI h) cr tu le to ia 0) H := by rw [e9]; exact hP
              have hD : va_D A (wM b cI cZ pl br md tn (nI n) (kIf (cWind h f t v) (setR sp (cl f) (cl t + 1) v) sp) (setR we (cl f) (cl t + 1) w) tw sl pr al mo (nI h) cr tu le to ia 0) := by rw [e9]; exact hD
              clear e9
              have e9 : (kIf (cWind h f t v) (setR we (cl f) (cl t + 1) w) we) = (setR we (cl f) (cl t + 1) w) := kIf_0 (by unfold cWind; rw [if_pos ⟨c_12, c_24, c_35⟩])
              have hP : va_P D vwCl (wM b cI cZ pl br md tn (nI n) (kIf (cWind h f t v) (setR sp (cl f) (cl t + 1) v) sp) (kIf (cWind h f t v) (setR we (cl f) (cl t + 1) w) we) tw sl pr al mo (nI h) cr tu le to ia 0) H := by rw [e9]; exact hP
              have hD : va_D A (wM b cI cZ pl br md tn (nI n) (kIf (cWind h f t v) (setR sp (cl f) (cl t + 1) v) sp) (kIf (cWind h f t v) (setR we (cl f) (cl t + 1) w) we) tw sl pr al mo (nI h) cr tu le to ia 0) := by rw [e9]; exact hD
              clear e9
              have e9 : (nI (cWind h f t v)) = 0 := by rw [show cWind h f t v = 0 from by unfold cWind; rw [if_pos ⟨c_12, c_24, c_35⟩]]; rfl
              have hP : va_P D vwCl (wM b cI cZ pl br md tn (nI n) (kIf (cWind h f t v) (setR sp (cl f) (cl t + 1) v) sp) (kIf (cWind h f t v) (setR we (cl f) (cl t + 1) w) we) tw sl pr al mo (nI h) cr tu le to ia (nI (cWind h f t v))) H := by rw [e9]; exact hP
              have hD : va_D A (wM b cI cZ pl br md tn (nI n) (kIf (cWind h f t v) (setR sp (cl f) (cl t + 1) v) sp) (kIf (cWind h f t v) (setR we (cl f) (cl t + 1) w) we) tw sl pr al mo (nI h) cr tu le to ia (nI (cWind h f t v))) := by rw [e9]; exact hD
              clear e9
              refine lv_iload_n hx hb dX5_wind_104 rfl (lv_at hl 2 rfl) ?_
              refine lv_iload_n hx hb dX5_wind_105 rfl (lv_at hl 1 rfl) ?_
              refine lv_isub hx hb dX5_wind_106 ?_
              refine lv_iconst (v := 1) hx hb dX5_wind_107 (by decide) ?_
              refine lv_iadd hx hb dX5_wind_108 ?_
              exact k_endI (ty := .int) hx hb hr hlocks (rfl) (fun _ => by rw [← hq.1, ← hr9.1]) hP hD hS dX5_wind_109
            · have c_70 : k ≤ cl t := Nat.le_of_not_lt (fun q => c_70 ((nI_ltI (a := cl t) (b := k) (by omega) (by omega)).mpr q))
              refine lv_aload_n hx hb dX5_wind_73 rfl (lv_at hl 0 rfl) ?_
              refine va_get (D := D) (ci := 5) (v := .ref (b 5)) (C := RX5) (T := TX5) (N := 19) hx hb hts (by decide +kernel) hown hK.1 hP 0 rfl rfl 5 (by decide) (hts (.fieldLink RX5 22 "TurbineorchardModel" "speed" "[I") (by decide +kernel)) (fun _ h9 => h9) rfl dX5_wind_74 ?_
              refine lv_iload hx hb dX5_wind_77 (lv_at hl 5 rfl) ?_
              refine lv_iload_n hx hb dX5_wind_79 rfl (lv_at hl 3 rfl) ?_
              refine k_iast hx hb hK.1 hP hD hS 5 0 rfl rfl k (rfl) (by omega) (by decide) dX5_wind_80 (fun H locs hP hD hS => ?_)
              have hP : va_P D vwCl (wM b cI cZ pl br md tn (nI n) (upd (setR sp (cl f) k v) k v) (setR we (cl f) k w) tw sl pr al mo (nI h) cr tu le to ia 0) H := hP
              have hD : va_D A (wM b cI cZ pl br md tn (nI n) (upd (setR sp (cl f) k v) k v) (setR we (cl f) k w) tw sl pr al mo (nI h) cr tu le to ia 0) := hD
              refine lv_aload_n hx hb dX5_wind_81 rfl (lv_at hl 0 rfl) ?_
              refine va_get (D := D) (ci := 5) (v := .ref (b 6)) (C := RX5) (T := TX5) (N := 19) hx hb hts (by decide +kernel) hown hK.1 hP 0 rfl rfl 6 (by decide) (hts (.fieldLink RX5 25 "TurbineorchardModel" "west" "[I") (by decide +kernel)) (fun _ h9 => h9) rfl dX5_wind_82 ?_
              refine lv_iload hx hb dX5_wind_85 (lv_at hl 5 rfl) ?_
              refine lv_iload hx hb dX5_wind_87 (lv_at hl 4 rfl) ?_
              refine lv_if_eq (tgt := 96) hx hb dX5_wind_89 (by decide) (fun c_89 => ?_) (fun c_89 => ?_)
              · refine lv_iconst (v := 0) hx hb dX5_wind_96 (by decide) ?_
                refine k_rw (y := w) (c_89.symm) ?_
                refine k_iast hx hb hK.1 hP hD hS 6 0 rfl rfl k (rfl) (by omega) (by decide) dX5_wind_97 (fun H locs hP hD hS => ?_)
                have hP : va_P D vwCl (wM b cI cZ pl br md tn (nI n) (upd (setR sp (cl f) k v) k v) (upd (setR we (cl f) k w) k w) tw sl pr al mo (nI h) cr tu le to ia 0) H := hP
                have hD : va_D A (wM b cI cZ pl br md tn (nI n) (upd (setR sp (cl f) k v) k v) (upd (setR we (cl f) k w) k w) tw sl pr al mo (nI h) cr tu le to ia 0) := hD
                have e9 : (upd (setR sp (cl f) k v) k v) = (setR sp (cl f) (k + 1) v) := setR_1 sp v hf
                rw [e9] at hP hD
                clear e9
                have e9 : (upd (setR we (cl f) k w) k w) = (setR we (cl f) (k + 1) w) := setR_1 we w hf
                rw [e9] at hP hD
                clear e9
                refine lv_iinc (v := nI (k + 1)) (lv' := [(6, .int (nI (k + 1))), (0, .ref (b 0)), (1, .int (nI (cl f))), (2, .int (nI (cl t))), (3, .int v), (4, .int w)]) hx hb dX5_wind_98 hl (k := 5) rfl (nI_1 _) (by decide) rfl (fun ls hl => ?_)
                refine lv_goto (tgt := 67) hx hb dX5_wind_101 (by decide) ?_
                exact ih_67 (k + 1) (by omega) (by omega) (by omega) _ _ hP hD hS _ (lv_sub hl [1, 2, 3, 4, 5, 0] rfl)
              · refine lv_iconst (v := 1) hx hb dX5_wind_92 (by decide) ?_
                refine lv_goto (tgt := 97) hx hb dX5_wind_93 (by decide) ?_
                refine k_rw (y := w) (by rcases hw with q | q; exact absurd q c_89; exact q.symm) ?_
                refine k_iast hx hb hK.1 hP hD hS 6 0 rfl rfl k (rfl) (by omega) (by decide) dX5_wind_97 (fun H locs hP hD hS => ?_)
                have hP : va_P D vwCl (wM b cI cZ pl br md tn (nI n) (upd (setR sp (cl f) k v) k v) (upd (setR we (cl f) k w) k w) tw sl pr al mo (nI h) cr tu le to ia 0) H := hP
                have hD : va_D A (wM b cI cZ pl br md tn (nI n) (upd (setR sp (cl f) k v) k v) (upd (setR we (cl f) k w) k w) tw sl pr al mo (nI h) cr tu le to ia 0) := hD
                have e9 : (upd (setR sp (cl f) k v) k v) = (setR sp (cl f) (k + 1) v) := setR_1 sp v hf
                rw [e9] at hP hD
                clear e9
                have e9 : (upd (setR we (cl f) k w) k w) = (setR we (cl f) (k + 1) w) := setR_1 we w hf
                rw [e9] at hP hD
                clear e9
                refine lv_iinc (v := nI (k + 1)) (lv' := [(6, .int (nI (k + 1))), (0, .ref (b 0)), (1, .int (nI (cl f))), (2, .int (nI (cl t))), (3, .int v), (4, .int w)]) hx hb dX5_wind_98 hl (k := 5) rfl (nI_1 _) (by decide) rfl (fun ls hl => ?_)
                refine lv_goto (tgt := 67) hx hb dX5_wind_101 (by decide) ?_
                exact ih_67 (k + 1) (by omega) (by omega) (by omega) _ _ hP hD hS _ (lv_sub hl [1, 2, 3, 4, 5, 0] rfl)
        exact loop_67 (cl t + 1 - (cl f) + 1) (cl f) (by omega) (by omega) (by omega) _ _ hP hD hS _ (lv_sub hl [2, 3, 4, 5, 6, 0] rfl)

set_option maxHeartbeats 4000000 in
set_option maxRecDepth 100000 in
theorem c_X5_waves (l : Launch) (D : va_G) (b : Nat → Nat) (cI cZ : ClassId) (sz : Nat) (pl : Nat → Int32) (br : Nat → Int32) (md : Nat → Int32) (tn : Nat → Int32) (sp : Nat → Int32) (we : Nat → Int32) (tw : Nat → Int32) (sl : Nat → Int32) (pr : Nat → Int32) (al : Nat → Int32) (mo : Nat → Int32) (cr : Nat → Int32) (tu : Nat → Int32) (le : Nat → Int32) (to : Nat → Int32) (ia : Nat → Int32) (th : Int32) (n : Nat) (h : Nat) (k : Int32) (w : Int32) (hn : n ≤ 12) (hh : h < 480) (htw : ∀ k, tw k = -1 ∨ 0 ≤ tw k) : kUi l yX5_waves wsX5_waves ({ frames := 1, cells := 0, slots := 0, locals := 23 }) [.ref (b 0), .int k, .int w] D cI cZ sz (wM b cI cZ pl br md tn (nI n) sp we tw sl pr al mo (nI h) cr tu le to ia th) (wM b cI cZ pl br md tn (nI n) sp we (kIf (cWaves h k w) (upd tw (cl k) w) tw) sl pr al mo (nI h) cr tu le to ia (nI (cWaves h k w))) (fun r => cWaves h k w = 0 → r = fWaves sp tw (cl k)) := by
  refine Met.ofW (cc := cX5_waves) (maxL := 5) (ret := (some .int)) (by decide) rfl ?_
  intro p e s m args below meth c s₁ B hml hv
  obtain ⟨rfl, hsz, hP, hK, hD0⟩ := hv
  have hx := B.exec
  have hb := B.bytes
  have hr := B.returns
  have hts := atoms_spec (ws := wsX5_waves) B.pre
  have hown : s.vm.findClass RX5 = some m.cls := findClass_of_methodNamed B.named
  have hlocks := B.notSynchronized
  subst hsz
  have hD := hD0.self (sz := s.heap.size)
  generalize hAe : va_A (wM b cI cZ pl br md tn (nI n) sp we tw sl pr al mo (nI h) cr tu le to ia th) s.heap.size = A at hD ⊢
  have hA : ∀ q : Nat, s.heap.size ≤ q → A q := fun q h => by rw [← hAe]; exact Or.inr h
  have hS : va_S A s.heap s.heap [] := va_S.rf
  have hl := lv_entry ([.ref (b 0), .int k, .int w]) (n := 5) (Nat.le_of_ble_eq_true rfl)
  rw [lg_entry_eq]
  generalize (lg_sl ([.ref (b 0), .int k, .int w]) ++ List.replicate (5 - (lg_sl ([.ref (b 0), .int k, .int w])).length) Slot.unset).toArray = ls at hl ⊢
  have hl : lv_has ls 5 [(0, .ref (b 0)), (1, .int k), (2, .int w)] := hl
  refine lv_aload_n hx hb dX5_waves_0 rfl (lv_at hl 0 rfl) ?_
  refine lv_iload_n hx hb dX5_waves_1 rfl (lv_at hl 1 rfl) ?_
  refine lv_aload_n hx hb dX5_waves_2 rfl (lv_at hl 0 rfl) ?_
  refine va_get (D := D) (ci := 5) (v := .int (nI h)) (C := RX5) (T := TX5) (N := 19) hx hb hts (by decide +kernel) hown hK.1 hP 0 rfl rfl 12 (by decide) (hts (.fieldLink RX5 73 "TurbineorchardModel" "now" "I") (by decide +kernel)) (fun _ h9 => h9) rfl dX5_waves_3 ?_
  refine lv_sipush (v := 479) hx hb dX5_waves_6 (by decide) ?_
  refine k_pv (As := [.int k, .int (nI h), .int 479]) (rest := []) (nL := 5) ⟨hx, hb, hml, hown, hts⟩ (c_X5_in l _ k (nI h) 479) (cwV 3 hts gX5_waves_X5_in rfl rfl rfl (by decide +kernel) ⟨Nat.le_of_ble_eq_true rfl, Nat.le_of_ble_eq_true rfl⟩) (va_recv hK.1 hP (ci := 5) (q0 := 0) rfl rfl) rfl hl.1 rfl (Nat.le_of_ble_eq_true rfl) dX5_waves_9 ⟨Nat.zero_le _, Nat.zero_le _⟩ (fun r9 hr9 => ?_)
  subst hr9
  refine lv_if_eq (tgt := 30) hx hb dX5_waves_12 (by decide) (fun c_12 => ?_) (fun c_12 => ?_)
  · have c_12 := bI_0 c_12
    refine lv_iconst (v := 0) hx hb dX5_waves_30 (by decide) ?_
    refine lv_istore_n (lv' := [(3, .int 0), (0, .ref (b 0)), (1, .int k), (2, .int w)]) hx hb dX5_waves_31 rfl hl (by decide) rfl (fun ls hl => ?_)
    refine lv_aload_n hx hb dX5_waves_32 rfl (lv_at hl 1 rfl) ?_
    refine lv_iload_n hx hb dX5_waves_33 rfl (lv_at hl 0 rfl) ?_
    refine lv_if_eq (tgt := 41) hx hb dX5_waves_34 (by decide) (fun c_34 => ?_) (fun c_34 => by first | exact absurd c_34 (by decide) | exact absurd (by decide) c_34)
    refine lv_iconst (v := 1) hx hb dX5_waves_41 (by decide) ?_
    refine k_ui (WR := []) (WN := (wM b cI cZ pl br md tn (nI n) sp we tw sl pr al mo (nI h) cr tu le to ia 1)) (As := [.int 1]) (rest := []) (nL := 5) ⟨hx, hb, hml, hown, hts⟩ hK hP hD hS hA (c_X5_fails l D b cI cZ _ pl br md tn (nI n) sp we tw sl pr al mo (nI h) cr tu le to ia th 1) [0, 1, 2, 3, 4, 5, 6, 7, 8, 9, 10, 11, 12, 13, 14, 15, 16] [] [0, 1, 2, 3, 4, 5, 6, 7, 8, 9, 10, 11, 12, 13, 14, 15, 16] rfl rfl (by decide) rfl (by decide) (by decide) rfl rfl (by decide) 0 rfl rfl rfl (cwV 1 hts gX5_waves_X5_fails rfl rfl rfl (by decide +kernel) ⟨Nat.le_of_ble_eq_true rfl, Nat.le_of_ble_eq_true rfl⟩) rfl hl.1 rfl (Nat.le_of_ble_eq_true rfl) dX5_waves_42 ⟨Nat.zero_le _, Nat.zero_le _⟩ (fun r9 H locs hr9 hP hD hS => ?_)
    subst hr9
    refine lv_if_eq (tgt := 50) hx hb dX5_waves_45 (by decide) (fun c_45 => by first | exact absurd c_45 (by decide) | exact absurd (by decide) c_45) (fun c_45 => ?_)
    have e9 : (kIf (cWaves h k w) (upd tw (cl k) w) tw) = tw := kIf_s (fun z9 => absurd (z9.symm.trans (show cWaves h k w = 1 from by unfold cWaves; rw [if_neg (fun q => c_12 q.1)])) (by decide))
    have hP : va_P D vwCl (wM b cI cZ pl br md tn (nI n) sp we (kIf (cWaves h k w) (upd tw (cl k) w) tw) sl pr al mo (nI h) cr tu le to ia 1) H := by rw [e9]; exact hP
    have hD : va_D A (wM b cI cZ pl br md tn (nI n) sp we (kIf (cWaves h k w) (upd tw (cl k) w) tw) sl pr al mo (nI h) cr tu le to ia 1) := by rw [e9]; exact hD
    clear e9
    have e9 : (nI (cWaves h k w)) = 1 := by rw [show cWaves h k w = 1 from by unfold cWaves; rw [if_neg (fun q => c_12 q.1)]]; rfl
    have hP : va_P D vwCl (wM b cI cZ pl br md tn (nI n) sp we (kIf (cWaves h k w) (upd tw (cl k) w) tw) sl pr al mo (nI h) cr tu le to ia (nI (cWaves h k w))) H := by rw [e9]; exact hP
    have hD : va_D A (wM b cI cZ pl br md tn (nI n) sp we (kIf (cWaves h k w) (upd tw (cl k) w) tw) sl pr al mo (nI h) cr tu le to ia (nI (cWaves h k w))) := by rw [e9]; exact hD
    clear e9
    refine lv_iconst (v := (-1)) hx hb dX5_waves_48 (by decide) ?_
    exact k_endI (ty := .int) hx hb hr hlocks (rfl) (fun z9 => absurd (z9.symm.trans (show cWaves h k w = 1 from by unfold cWaves; rw [if_neg (fun q => c_12 q.1)])) (by decide)) hP hD hS dX5_waves_49
  · have c_12 := bI_n c_12
    refine lv_aload_n hx hb dX5_waves_15 rfl (lv_at hl 0 rfl) ?_
    refine lv_iload_n hx hb dX5_waves_16 rfl (lv_at hl 2 rfl) ?_
    refine lv_iconst (v := 0) hx hb dX5_waves_17 (by decide) ?_
    refine lv_bipush (v := 20) hx hb dX5_waves_18 (by decide) ?_
    refine k_pv (As := [.int w, .int 0, .int 20]) (rest := []) (nL := 5) ⟨hx, hb, hml, hown, hts⟩ (c_X5_in l _ w 0 20) (cwV 3 hts gX5_waves_X5_in rfl rfl rfl (by decide +kernel) ⟨Nat.le_of_ble_eq_true rfl, Nat.le_of_ble_eq_true rfl⟩) (va_recv hK.1 hP (ci := 5) (q0 := 0) rfl rfl) rfl hl.1 rfl (Nat.le_of_ble_eq_true rfl) dX5_waves_20 ⟨Nat.zero_le _, Nat.zero_le _⟩ (fun r9 hr9 => ?_)
    subst hr9
    refine lv_if_eq (tgt := 30) hx hb dX5_waves_23 (by decide) (fun c_23 => ?_) (fun c_23 => ?_)
    · have c_23 := bI_0 c_23
      refine lv_iconst (v := 0) hx hb dX5_waves_30 (by decide) ?_
      refine lv_istore_n (lv' := [(3, .int 0), (0, .ref (b 0)), (1, .int k), (2, .int w)]) hx hb dX5_waves_31 rfl hl (by decide) rfl (fun ls hl => ?_)
      refine lv_aload_n hx hb dX5_waves_32 rfl (lv_at hl 1 rfl) ?_
      refine lv_iload_n hx hb dX5_waves_33 rfl (lv_at hl 0 rfl) ?_
      refine lv_if_eq (tgt := 41) hx hb dX5_waves_34 (by decide) (fun c_34 => ?_) (fun c_34 => by first | exact absurd c_34 (by decide) | exact absurd (by decide) c_34)
      refine lv_iconst (v := 1) hx hb dX5_waves_41 (by decide) ?_
      refine k_ui (WR := []) (WN := (wM b cI cZ pl br md tn (nI n) sp we tw sl pr al mo (nI h) cr tu le to ia 1)) (As := [.int 1]) (rest := []) (nL := 5) ⟨hx, hb, hml, hown, hts⟩ hK hP hD hS hA (c_X5_fails l D b cI cZ _ pl br md tn (nI n) sp we tw sl pr al mo (nI h) cr tu le to ia th 1) [0, 1, 2, 3, 4, 5, 6, 7, 8, 9, 10, 11, 12, 13, 14, 15, 16] [] [0, 1, 2, 3, 4, 5, 6, 7, 8, 9, 10, 11, 12, 13, 14, 15, 16] rfl rfl (by decide) rfl (by decide) (by decide) rfl rfl (by decide) 0 rfl rfl rfl (cwV 1 hts gX5_waves_X5_fails rfl rfl rfl (by decide +kernel) ⟨Nat.le_of_ble_eq_true rfl, Nat.le_of_ble_eq_true rfl⟩) rfl hl.1 rfl (Nat.le_of_ble_eq_true rfl) dX5_waves_42 ⟨Nat.zero_le _, Nat.zero_le _⟩ (fun r9 H locs hr9 hP hD hS => ?_)
      subst hr9
      refine lv_if_eq (tgt := 50) hx hb dX5_waves_45 (by decide) (fun c_45 => by first | exact absurd c_45 (by decide) | exact absurd (by decide) c_45) (fun c_45 => ?_)
      have e9 : (kIf (cWaves h k w) (upd tw (cl k) w) tw) = tw := kIf_s (fun z9 => absurd (z9.symm.trans (show cWaves h k w = 1 from by unfold cWaves; rw [if_neg (fun q => c_23 q.2)])) (by decide))
      have hP : va_P D vwCl (wM b cI cZ pl br md tn (nI n) sp we (kIf (cWaves h k w) (upd tw (cl k) w) tw) sl pr al mo (nI h) cr tu le to ia 1) H := by rw [e9]; exact hP
      have hD : va_D A (wM b cI cZ pl br md tn (nI n) sp we (kIf (cWaves h k w) (upd tw (cl k) w) tw) sl pr al mo (nI h) cr tu le to ia 1) := by rw [e9]; exact hD
      clear e9
      have e9 : (nI (cWaves h k w)) = 1 := by rw [show cWaves h k w = 1 from by unfold cWaves; rw [if_neg (fun q => c_23 q.2)]]; rfl
      have hP : va_P D vwCl (wM b cI cZ pl br md tn (nI n) sp we (kIf (cWaves h k w) (upd tw (cl k) w) tw) sl pr al mo (nI h) cr tu le to ia (nI (cWaves h k w))) H := by rw [e9]; exact hP
      have hD : va_D A (wM b cI cZ pl br md tn (nI n) sp we (kIf (cWaves h k w) (upd tw (cl k) w) tw) sl pr al mo (nI h) cr tu le to ia (nI (cWaves h k w))) := by rw [e9]; exact hD
      clear e9
      refine lv_iconst (v := (-1)) hx hb dX5_waves_48 (by decide) ?_
      exact k_endI (ty := .int) hx hb hr hlocks (rfl) (fun z9 => absurd (z9.symm.trans (show cWaves h k w = 1 from by unfold cWaves; rw [if_neg (fun q => c_23 q.2)])) (by decide)) hP hD hS dX5_waves_49
    · have c_23 := bI_n c_23
      refine lv_iconst (v := 1) hx hb dX5_waves_26 (by decide) ?_
      refine lv_goto (tgt := 31) hx hb dX5_waves_27 (by decide) ?_
      refine lv_istore_n (lv' := [(3, .int 1), (0, .ref (b 0)), (1, .int k), (2, .int w)]) hx hb dX5_waves_31 rfl hl (by decide) rfl (fun ls hl => ?_)
      refine lv_aload_n hx hb dX5_waves_32 rfl (lv_at hl 1 rfl) ?_
      refine lv_iload_n hx hb dX5_waves_33 rfl (lv_at hl 0 rfl) ?_
      refine lv_if_eq (tgt := 41) hx hb dX5_waves_34 (by decide) (fun c_34 => by first | exact absurd c_34 (by decide) | exact absurd (by decide) c_34) (fun c_34 => ?_)
      refine lv_iconst (v := 0) hx hb dX5_waves_37 (by decide) ?_
      refine lv_goto (tgt := 42) hx hb dX5_waves_38 (by decide) ?_
      refine k_ui (WR := []) (WN := (wM b cI cZ pl br md tn (nI n) sp we tw sl pr al mo (nI h) cr tu le to ia 0)) (As := [.int 0]) (rest := []) (nL := 5) ⟨hx, hb, hml, hown, hts⟩ hK hP hD hS hA (c_X5_fails l D b cI cZ _ pl br md tn (nI n) sp we tw sl pr al mo (nI h) cr tu le to ia th 0) [0, 1, 2, 3, 4, 5, 6, 7, 8, 9, 10, 11, 12, 13, 14, 15, 16] [] [0, 1, 2, 3, 4, 5, 6, 7, 8, 9, 10, 11, 12, 13, 14, 15, 16] rfl rfl (by decide) rfl (by decide) (by decide) rfl rfl (by decide) 0 rfl rfl rfl (cwV 1 hts gX5_waves_X5_fails rfl rfl rfl (by decide +kernel) ⟨Nat.le_of_ble_eq_true rfl, Nat.le_of_ble_eq_true rfl⟩) rfl hl.1 rfl (Nat.le_of_ble_eq_true rfl) dX5_waves_42 ⟨Nat.zero_le _, Nat.zero_le _⟩ (fun r9 H locs hr9 hP hD hS => ?_)
      subst hr9
      refine lv_if_eq (tgt := 50) hx hb dX5_waves_45 (by decide) (fun c_45 => ?_) (fun c_45 => by first | exact absurd c_45 (by decide) | exact absurd (by decide) c_45)
      have hq := cl_rng (n := h) (m := 479) (nI_toInt (by omega)) (by decide) c_12
      rw [hq.1] at hl
      refine lv_aload_n hx hb dX5_waves_50 rfl (lv_at hl 1 rfl) ?_
      refine lv_iload_n hx hb dX5_waves_51 rfl (lv_at hl 2 rfl) ?_
      refine k_rd (As := [.int (nI (cl k))]) (rest := []) (nL := 5) ⟨hx, hb, hml, hown, hts⟩ hK hP (c_X5_wavesOf l D b cI cZ pl br md tn (nI n) sp we tw sl pr al mo (nI h) cr tu le to ia 0 (cl k) (by omega) (htw)) [0, 1, 2, 3, 4, 5, 6, 7, 8, 9, 10, 11, 12, 13, 14, 15, 16] rfl 0 rfl rfl rfl (cwV 1 hts gX5_waves_X5_wavesOf rfl rfl rfl (by decide +kernel) ⟨Nat.le_of_ble_eq_true rfl, Nat.le_of_ble_eq_true rfl⟩) rfl hl.1 rfl (Nat.le_of_ble_eq_true rfl) dX5_waves_52 ⟨Nat.zero_le _, Nat.zero_le _⟩ (fun r9 hr9 => ?_)
      subst hr9
      refine lv_istore (lv' := [(4, .int (fWaves sp tw (cl k))), (3, .int 1), (0, .ref (b 0)), (1, .int (nI (cl k))), (2, .int w)]) hx hb dX5_waves_55 hl (by decide) rfl (fun ls hl => ?_)
      refine lv_aload_n hx hb dX5_waves_57 rfl (lv_at hl 2 rfl) ?_
      refine va_get (D := D) (ci := 5) (v := .ref (b 7)) (C := RX5) (T := TX5) (N := 19) hx hb hts (by decide +kernel) hown hK.1 hP 0 rfl rfl 7 (by decide) (hts (.fieldLink RX5 28 "TurbineorchardModel" "told" "[I") (by decide +kernel)) (fun _ h9 => h9) rfl dX5_waves_58 ?_
      refine lv_iload_n hx hb dX5_waves_61 rfl (lv_at hl 3 rfl) ?_
      refine lv_iload_n hx hb dX5_waves_62 rfl (lv_at hl 4 rfl) ?_
      refine k_iast hx hb hK.1 hP hD hS 7 0 rfl rfl (cl k) (rfl) (by omega) (by decide) dX5_waves_63 (fun H locs hP hD hS => ?_)
      have hP : va_P D vwCl (wM b cI cZ pl br md tn (nI n) sp we (upd tw (cl k) w) sl pr al mo (nI h) cr tu le to ia 0) H := hP
      have hD : va_D A (wM b cI cZ pl br md tn (nI n) sp we (upd tw (cl k) w) sl pr al mo (nI h) cr tu le to ia 0) := hD
      have e9 : (kIf (cWaves h k w) (upd tw (cl k) w) tw) = (upd tw (cl k) w) := kIf_0 (by unfold cWaves; rw [if_pos ⟨c_12, c_23⟩])
      have hP : va_P D vwCl (wM b cI cZ pl br md tn (nI n) sp we (kIf (cWaves h k w) (upd tw (cl k) w) tw) sl pr al mo (nI h) cr tu le to ia 0) H := by rw [e9]; exact hP
      have hD : va_D A (wM b cI cZ pl br md tn (nI n) sp we (kIf (cWaves h k w) (upd tw (cl k) w) tw) sl pr al mo (nI h) cr tu le to ia 0) := by rw [e9]; exact hD
      clear e9
      have e9 : (nI (cWaves h k w)) = 0 := by rw [show cWaves h k w = 0 from by unfold cWaves; rw [if_pos ⟨c_12, c_23⟩]]; rfl
      have hP : va_P D vwCl (wM b cI cZ pl br md tn (nI n) sp we (kIf (cWaves h k w) (upd tw (cl k) w) tw) sl pr al mo (nI h) cr tu le to ia (nI (cWaves h k w))) H := by rw [e9]; exact hP
      have hD : va_D A (wM b cI cZ pl br md tn (nI n) sp we (kIf (cWaves h k w) (upd tw (cl k) w) tw) sl pr al mo (nI h) cr tu le to ia (nI (cWaves h k w))) := by rw [e9]; exact hD
      clear e9
      refine lv_iload hx hb dX5_waves_64 (lv_at hl 0 rfl) ?_
      exact k_endI (ty := .int) hx hb hr hlocks (rfl) (fun _ => rfl) hP hD hS dX5_waves_66

set_option maxHeartbeats 4000000 in
set_option maxRecDepth 100000 in
theorem c_X5_breaks (l : Launch) (D : va_G) (b : Nat → Nat) (cI cZ : ClassId) (sz : Nat) (pl : Nat → Int32) (br : Nat → Int32) (md : Nat → Int32) (tn : Nat → Int32) (sp : Nat → Int32) (we : Nat → Int32) (tw : Nat → Int32) (sl : Nat → Int32) (pr : Nat → Int32) (al : Nat → Int32) (mo : Nat → Int32) (cr : Nat → Int32) (tu : Nat → Int32) (le : Nat → Int32) (to : Nat → Int32) (ia : Nat → Int32) (th : Int32) (n : Nat) (h : Nat) (t : Int32) (hn : n ≤ 12) (hh : h < 480) (hbr : ∀ k, br k = 0 ∨ br k = 1) : kUi l yX5_breaks wsX5_breaks ({ frames := 2, cells := 0, slots := 0, locals := 44 }) [.ref (b 0), .int t] D cI cZ sz (wM b cI cZ pl br md tn (nI n) sp we tw sl pr al mo (nI h) cr tu le to ia th) (wM b cI cZ pl (kIf (cBreaks n br t) (upd br (cl t) 1) br) md tn (nI n) sp we tw sl pr al mo (nI h) cr tu le to ia (nI (cBreaks n br t))) (fun r => cBreaks n br t = 0 → r = fSum (upd br (cl t) 1) n) := by
  refine Met.ofW (cc := cX5_breaks) (maxL := 5) (ret := (some .int)) (by decide) rfl ?_
  intro p e s m args below meth c s₁ B hml hv
  obtain ⟨rfl, hsz, hP, hK, hD0⟩ := hv
  have hx := B.exec
  have hb := B.bytes
  have hr := B.returns
  have hts := atoms_spec (ws := wsX5_breaks) B.pre
  have hown : s.vm.findClass RX5 = some m.cls := findClass_of_methodNamed B.named
  have hlocks := B.notSynchronized
  subst hsz
  have hD := hD0.self (sz := s.heap.size)
  generalize hAe : va_A (wM b cI cZ pl br md tn (nI n) sp we tw sl pr al mo (nI h) cr tu le to ia th) s.heap.size = A at hD ⊢
  have hA : ∀ q : Nat, s.heap.size ≤ q → A q := fun q h => by rw [← hAe]; exact Or.inr h
  have hS : va_S A s.heap s.heap [] := va_S.rf
  have hl := lv_entry ([.ref (b 0), .int t]) (n := 5) (Nat.le_of_ble_eq_true rfl)
  rw [lg_entry_eq]
  generalize (lg_sl ([.ref (b 0), .int t]) ++ List.replicate (5 - (lg_sl ([.ref (b 0), .int t])).length) Slot.unset).toArray = ls at hl ⊢
  have hl : lv_has ls 5 [(0, .ref (b 0)), (1, .int t)] := hl
  refine lv_aload_n hx hb dX5_breaks_0 rfl (lv_at hl 0 rfl) ?_
  refine lv_iload_n hx hb dX5_breaks_1 rfl (lv_at hl 1 rfl) ?_
  refine k_rd (As := [.int t]) (rest := []) (nL := 5) ⟨hx, hb, hml, hown, hts⟩ hK hP (c_X5_isTurbine l D b cI cZ pl br md tn sp we tw sl pr al mo (nI h) cr tu le to ia th n t) [0, 1, 2, 3, 4, 5, 6, 7, 8, 9, 10, 11, 12, 13, 14, 15, 16] rfl 0 rfl rfl rfl (cwV 1 hts gX5_breaks_X5_isTurbine rfl rfl rfl (by decide +kernel) ⟨Nat.le_of_ble_eq_true rfl, Nat.le_of_ble_eq_true rfl⟩) rfl hl.1 rfl (Nat.le_of_ble_eq_true rfl) dX5_breaks_2 ⟨Nat.zero_le _, Nat.zero_le _⟩ (fun r9 hr9 => ?_)
  subst hr9
  refine lv_istore_n (lv' := [(2, .int (bI (hasT n t))), (0, .ref (b 0)), (1, .int t)]) hx hb dX5_breaks_5 rfl hl (by decide) rfl (fun ls hl => ?_)
  refine lv_aload_n hx hb dX5_breaks_6 rfl (lv_at hl 1 rfl) ?_
  refine lv_iload_n hx hb dX5_breaks_7 rfl (lv_at hl 0 rfl) ?_
  refine lv_if_ne (tgt := 15) hx hb dX5_breaks_8 (by decide) (fun c_8 => ?_) (fun c_8 => ?_)
  · have c_8 := bI_n c_8
    have hq := has_cl hn c_8
    rw [hq.1] at hl
    refine lv_aload_n hx hb dX5_breaks_15 rfl (lv_at hl 1 rfl) ?_
    refine va_get (D := D) (ci := 5) (v := .ref (b 2)) (C := RX5) (T := TX5) (N := 19) hx hb hts (by decide +kernel) hown hK.1 hP 0 rfl rfl 1 (by decide) (hts (.fieldLink RX5 13 "TurbineorchardModel" "broken" "[I") (by decide +kernel)) (fun _ h9 => h9) rfl dX5_breaks_16 ?_
    refine lv_iload_n hx hb dX5_breaks_19 rfl (lv_at hl 2 rfl) ?_
    refine k_iald hx hb hK.1 hP 2 0 rfl rfl (cl t) (rfl) (by omega) (by decide) dX5_breaks_20 ?_
    refine lv_iconst (v := 1) hx hb dX5_breaks_21 (by decide) ?_
    refine lv_icmp_ne (tgt := 29) hx hb dX5_breaks_22 (by decide) (fun c_22 => ?_) (fun c_22 => ?_)
    · refine lv_iconst (v := 0) hx hb dX5_breaks_29 (by decide) ?_
      refine k_ui (WR := []) (WN := (wM b cI cZ pl br md tn (nI n) sp we tw sl pr al mo (nI h) cr tu le to ia 0)) (As := [.int 0]) (rest := []) (nL := 5) ⟨hx, hb, hml, hown, hts⟩ hK hP hD hS hA (c_X5_fails l D b cI cZ _ pl br md tn (nI n) sp we tw sl pr al mo (nI h) cr tu le to ia th 0) [0, 1, 2, 3, 4, 5, 6, 7, 8, 9, 10, 11, 12, 13, 14, 15, 16] [] [0, 1, 2, 3, 4, 5, 6, 7, 8, 9, 10, 11, 12, 13, 14, 15, 16] rfl rfl (by decide) rfl (by decide) (by decide) rfl rfl (by decide) 0 rfl rfl rfl (cwV 1 hts gX5_breaks_X5_fails rfl rfl rfl (by decide +kernel) ⟨Nat.le_of_ble_eq_true rfl, Nat.le_of_ble_eq_true rfl⟩) rfl hl.1 rfl (Nat.le_of_ble_eq_true rfl) dX5_breaks_30 ⟨Nat.zero_le _, Nat.zero_le _⟩ (fun r9 H locs hr9 hP hD hS => ?_)
      subst hr9
      refine lv_if_eq (tgt := 38) hx hb dX5_breaks_33 (by decide) (fun c_33 => ?_) (fun c_33 => by first | exact absurd c_33 (by decide) | exact absurd (by decide) c_33)
      refine lv_aload_n hx hb dX5_breaks_38 rfl (lv_at hl 1 rfl) ?_
      refine va_get (D := D) (ci := 5) (v := .ref (b 2)) (C := RX5) (T := TX5) (N := 19) hx hb hts (by decide +kernel) hown hK.1 hP 0 rfl rfl 1 (by decide) (hts (.fieldLink RX5 13 "TurbineorchardModel" "broken" "[I") (by decide +kernel)) (fun _ h9 => h9) rfl dX5_breaks_39 ?_
      refine lv_iload_n hx hb dX5_breaks_42 rfl (lv_at hl 2 rfl) ?_
      refine lv_iconst (v := 1) hx hb dX5_breaks_43 (by decide) ?_
      refine k_iast hx hb hK.1 hP hD hS 2 0 rfl rfl (cl t) (rfl) (by omega) (by decide) dX5_breaks_44 (fun H locs hP hD hS => ?_)
      have hP : va_P D vwCl (wM b cI cZ pl (upd br (cl t) 1) md tn (nI n) sp we tw sl pr al mo (nI h) cr tu le to ia 0) H := hP
      have hD : va_D A (wM b cI cZ pl (upd br (cl t) 1) md tn (nI n) sp we tw sl pr al mo (nI h) cr tu le to ia 0) := hD
      refine lv_iconst (v := 0) hx hb dX5_breaks_45 (by decide) ?_
      refine lv_istore_n (lv' := [(3, .int 0), (2, .int (bI (hasT n (nI (cl t))))), (0, .ref (b 0)), (1, .int (nI (cl t)))]) hx hb dX5_breaks_46 rfl hl (by decide) rfl (fun ls hl => ?_)
      refine lv_iconst (v := 0) hx hb dX5_breaks_47 (by decide) ?_
      refine lv_istore (lv' := [(4, .int 0), (3, .int 0), (2, .int (bI (hasT n (nI (cl t))))), (0, .ref (b 0)), (1, .int (nI (cl t)))]) hx hb dX5_breaks_48 hl (by decide) rfl (fun ls hl => ?_)
      have loop_50 : ∀ (nn : Nat) (k : Nat) (x : Int32), n - k < nn → (k ≤ n) → (x = fSum (upd br (cl t) 1) k) → ∀ (H : Heap) (locs : List Loc), va_P D vwCl (wM b cI cZ pl (upd br (cl t) 1) md tn (nI n) sp we tw sl pr al mo (nI h) cr tu le to ia 0) H → va_D A (wM b cI cZ pl (upd br (cl t) 1) md tn (nI n) sp we tw sl pr al mo (nI h) cr tu le to ia 0) → va_S A s.heap H locs → ∀ (ls : Array Slot), lv_has ls 5 [(0, .ref (b 0)), (3, .int x), (4, .int (nI k))] → W p l e (headSpec wsX5_breaks ({ frames := 2, cells := 0, slots := 0, locals := 44 })).room s m ([.ref (b 0), .int t] : List Value).toArray below meth c H locs 0 0 (MQ below (va_Qi (fun (r : Int32) (_ : Unit) => (fun r => cBreaks n br t = 0 → r = fSum (upd br (cl t) 1) n) r) (fun _ t9 => kAt D A (wM b cI cZ pl (kIf (cBreaks n br t) (upd br (cl t) 1) br) md tn (nI n) sp we tw sl pr al mo (nI h) cr tu le to ia (nI (cBreaks n br t))) t9) A) ([.ref (b 0), .int t] : List Value).toArray s 0 0 A) (F0 m 50 ls []) := by
        intro nn
        induction nn with
        | zero => intro k x hm; exact absurd hm (by omega)
        | succ nn ih_50 =>
          intro k x hm hk hx9 H locs hP hD hS ls hl
          refine lv_iload hx hb dX5_breaks_50 (lv_at hl 2 rfl) ?_
          refine lv_aload_n hx hb dX5_breaks_52 rfl (lv_at hl 0 rfl) ?_
          refine va_get (D := D) (ci := 5) (v := .int (nI n)) (C := RX5) (T := TX5) (N := 19) hx hb hts (by decide +kernel) hown hK.1 hP 0 rfl rfl 4 (by decide) (hts (.fieldLink RX5 62 "TurbineorchardModel" "turbines" "I") (by decide +kernel)) (fun _ h9 => h9) rfl dX5_breaks_53 ?_
          refine lv_icmp_ge (tgt := 75) hx hb dX5_breaks_56 (by decide) (fun c_56 => ?_) (fun c_56 => ?_)
          · have e8 : k = n := by have := (nI_leI (a := n) (b := k) (by omega) (by omega)).mp c_56; omega
            have e9 : (kIf (cBreaks n br t) (upd br (cl t) 1) br) = (upd br (cl t) 1) := kIf_0 (by unfold cBreaks; rw [if_pos c_8, if_pos ((hbr (cl t)).resolve_right c_22)])
            have hP : va_P D vwCl (wM b cI cZ pl (kIf (cBreaks n br t) (upd br (cl t) 1) br) md tn (nI n) sp we tw sl pr al mo (nI h) cr tu le to ia 0) H := by rw [e9]; exact hP
            have hD : va_D A (wM b cI cZ pl (kIf (cBreaks n br t) (upd br (cl t) 1) br) md tn (nI n) sp we tw sl pr al mo (nI h) cr tu le to ia 0) := by rw [e9]; exact hD
            clear e9
            have e9 : (nI (cBreaks n br t)) = 0 := by rw [show cBreaks n br t = 0 from by unfold cBreaks; rw [if_pos c_8, if_pos ((hbr (cl t)).resolve_right c_22)]]; rfl
            have hP : va_P D vwCl (wM b cI cZ pl (kIf (cBreaks n br t) (upd br (cl t) 1) br) md tn (nI n) sp we tw sl pr al mo (nI h) cr tu le to ia (nI (cBreaks n br t))) H := by rw [e9]; exact hP
            have hD : va_D A (wM b cI cZ pl (kIf (cBreaks n br t) (upd br (cl t) 1) br) md tn (nI n) sp we tw sl pr al mo (nI h) cr tu le to ia (nI (cBreaks n br t))) := by rw [e9]; exact hD
            clear e9
            refine lv_iload_n hx hb dX5_breaks_75 rfl (lv_at hl 1 rfl) ?_
            exact k_endI (ty := .int) hx hb hr hlocks (rfl) (fun _ => by rw [hx9, e8]) hP hD hS dX5_breaks_76
          · have c_56 : k < n := Nat.lt_of_not_le (fun h => c_56 ((nI_leI (a := n) (b := k) (by omega) (by omega)).mpr h))
            refine lv_iload_n hx hb dX5_breaks_59 rfl (lv_at hl 1 rfl) ?_
            refine lv_aload_n hx hb dX5_breaks_60 rfl (lv_at hl 0 rfl) ?_
            refine va_get (D := D) (ci := 5) (v := .ref (b 2)) (C := RX5) (T := TX5) (N := 19) hx hb hts (by decide +kernel) hown hK.1 hP 0 rfl rfl 1 (by decide) (hts (.fieldLink RX5 13 "TurbineorchardModel" "broken" "[I") (by decide +kernel)) (fun _ h9 => h9) rfl dX5_breaks_61 ?_
            refine lv_iload hx hb dX5_breaks_64 (lv_at hl 2 rfl) ?_
            refine k_iald hx hb hK.1 hP 2 0 rfl rfl k (rfl) (by omega) (by decide) dX5_breaks_66 ?_
            refine lv_iadd hx hb dX5_breaks_67 ?_
            refine lv_istore_n (lv' := [(3, .int (x + ((upd br (cl t) 1) k))), (0, .ref (b 0)), (4, .int (nI k))]) hx hb dX5_breaks_68 rfl hl (by decide) rfl (fun ls hl => ?_)
            refine lv_iinc (v := nI (k + 1)) (lv' := [(4, .int (nI (k + 1))), (3, .int (x + ((upd br (cl t) 1) k))), (0, .ref (b 0))]) hx hb dX5_breaks_69 hl (k := 2) rfl (nI_1 _) (by decide) rfl (fun ls hl => ?_)
            refine lv_goto (tgt := 50) hx hb dX5_breaks_72 (by decide) ?_
            exact ih_50 (k + 1) (x + ((upd br (cl t) 1) k)) (by omega) (by omega) (by rw [hx9]; rfl) _ _ hP hD hS _ (lv_sub hl [2, 1, 0] rfl)
      exact loop_50 (n - 0 + 1) 0 0 (by omega) (by omega) (rfl) _ _ hP hD hS _ (lv_sub hl [3, 1, 0] rfl)
    · refine lv_iconst (v := 2) hx hb dX5_breaks_25 (by decide) ?_
      refine lv_goto (tgt := 30) hx hb dX5_breaks_26 (by decide) ?_
      refine k_ui (WR := []) (WN := (wM b cI cZ pl br md tn (nI n) sp we tw sl pr al mo (nI h) cr tu le to ia 2)) (As := [.int 2]) (rest := []) (nL := 5) ⟨hx, hb, hml, hown, hts⟩ hK hP hD hS hA (c_X5_fails l D b cI cZ _ pl br md tn (nI n) sp we tw sl pr al mo (nI h) cr tu le to ia th 2) [0, 1, 2, 3, 4, 5, 6, 7, 8, 9, 10, 11, 12, 13, 14, 15, 16] [] [0, 1, 2, 3, 4, 5, 6, 7, 8, 9, 10, 11, 12, 13, 14, 15, 16] rfl rfl (by decide) rfl (by decide) (by decide) rfl rfl (by decide) 0 rfl rfl rfl (cwV 1 hts gX5_breaks_X5_fails rfl rfl rfl (by decide +kernel) ⟨Nat.le_of_ble_eq_true rfl, Nat.le_of_ble_eq_true rfl⟩) rfl hl.1 rfl (Nat.le_of_ble_eq_true rfl) dX5_breaks_30 ⟨Nat.zero_le _, Nat.zero_le _⟩ (fun r9 H locs hr9 hP hD hS => ?_)
      subst hr9
      refine lv_if_eq (tgt := 38) hx hb dX5_breaks_33 (by decide) (fun c_33 => by first | exact absurd c_33 (by decide) | exact absurd (by decide) c_33) (fun c_33 => ?_)
      have e9 : (kIf (cBreaks n br t) (upd br (cl t) 1) br) = br := kIf_s (fun z9 => absurd (z9.symm.trans (show cBreaks n br t = 2 from by unfold cBreaks; rw [if_pos c_8, if_neg (fun q => absurd (q.symm.trans c_22) (by decide))])) (by decide))
      have hP : va_P D vwCl (wM b cI cZ pl (kIf (cBreaks n br t) (upd br (cl t) 1) br) md tn (nI n) sp we tw sl pr al mo (nI h) cr tu le to ia 2) H := by rw [e9]; exact hP
      have hD : va_D A (wM b cI cZ pl (kIf (cBreaks n br t) (upd br (cl t) 1) br) md tn (nI n) sp we tw sl pr al mo (nI h) cr tu le to ia 2) := by rw [e9]; exact hD
      clear e9
      have e9 : (nI (cBreaks n br t)) = 2 := by rw [show cBreaks n br t = 2 from by unfold cBreaks; rw [if_pos c_8, if_neg (fun q => absurd (q.symm.trans c_22) (by decide))]]; rfl
      have hP : va_P D vwCl (wM b cI cZ pl (kIf (cBreaks n br t) (upd br (cl t) 1) br) md tn (nI n) sp we tw sl pr al mo (nI h) cr tu le to ia (nI (cBreaks n br t))) H := by rw [e9]; exact hP
      have hD : va_D A (wM b cI cZ pl (kIf (cBreaks n br t) (upd br (cl t) 1) br) md tn (nI n) sp we tw sl pr al mo (nI h) cr tu le to ia (nI (cBreaks n br t))) := by rw [e9]; exact hD
      clear e9
      refine lv_iconst (v := (-1)) hx hb dX5_breaks_36 (by decide) ?_
      exact k_endI (ty := .int) hx hb hr hlocks (rfl) (fun z9 => absurd (z9.symm.trans (show cBreaks n br t = 2 from by unfold cBreaks; rw [if_pos c_8, if_neg (fun q => absurd (q.symm.trans c_22) (by decide))])) (by decide)) hP hD hS dX5_breaks_37
  · have c_8 := bI_0 c_8
    refine lv_iconst (v := 1) hx hb dX5_breaks_11 (by decide) ?_
    refine lv_goto (tgt := 30) hx hb dX5_breaks_12 (by decide) ?_
    refine k_ui (WR := []) (WN := (wM b cI cZ pl br md tn (nI n) sp we tw sl pr al mo (nI h) cr tu le to ia 1)) (As := [.int 1]) (rest := []) (nL := 5) ⟨hx, hb, hml, hown, hts⟩ hK hP hD hS hA (c_X5_fails l D b cI cZ _ pl br md tn (nI n) sp we tw sl pr al mo (nI h) cr tu le to ia th 1) [0, 1, 2, 3, 4, 5, 6, 7, 8, 9, 10, 11, 12, 13, 14, 15, 16] [] [0, 1, 2, 3, 4, 5, 6, 7, 8, 9, 10, 11, 12, 13, 14, 15, 16] rfl rfl (by decide) rfl (by decide) (by decide) rfl rfl (by decide) 0 rfl rfl rfl (cwV 1 hts gX5_breaks_X5_fails rfl rfl rfl (by decide +kernel) ⟨Nat.le_of_ble_eq_true rfl, Nat.le_of_ble_eq_true rfl⟩) rfl hl.1 rfl (Nat.le_of_ble_eq_true rfl) dX5_breaks_30 ⟨Nat.zero_le _, Nat.zero_le _⟩ (fun r9 H locs hr9 hP hD hS => ?_)
    subst hr9
    refine lv_if_eq (tgt := 38) hx hb dX5_breaks_33 (by decide) (fun c_33 => by first | exact absurd c_33 (by decide) | exact absurd (by decide) c_33) (fun c_33 => ?_)
    have e9 : (kIf (cBreaks n br t) (upd br (cl t) 1) br) = br := kIf_s (fun z9 => absurd (z9.symm.trans (show cBreaks n br t = 1 from by unfold cBreaks; rw [if_neg c_8])) (by decide))
    have hP : va_P D vwCl (wM b cI cZ pl (kIf (cBreaks n br t) (upd br (cl t) 1) br) md tn (nI n) sp we tw sl pr al mo (nI h) cr tu le to ia 1) H := by rw [e9]; exact hP
    have hD : va_D A (wM b cI cZ pl (kIf (cBreaks n br t) (upd br (cl t) 1) br) md tn (nI n) sp we tw sl pr al mo (nI h) cr tu le to ia 1) := by rw [e9]; exact hD
    clear e9
    have e9 : (nI (cBreaks n br t)) = 1 := by rw [show cBreaks n br t = 1 from by unfold cBreaks; rw [if_neg c_8]]; rfl
    have hP : va_P D vwCl (wM b cI cZ pl (kIf (cBreaks n br t) (upd br (cl t) 1) br) md tn (nI n) sp we tw sl pr al mo (nI h) cr tu le to ia (nI (cBreaks n br t))) H := by rw [e9]; exact hP
    have hD : va_D A (wM b cI cZ pl (kIf (cBreaks n br t) (upd br (cl t) 1) br) md tn (nI n) sp we tw sl pr al mo (nI h) cr tu le to ia (nI (cBreaks n br t))) := by rw [e9]; exact hD
    clear e9
    refine lv_iconst (v := (-1)) hx hb dX5_breaks_36 (by decide) ?_
    exact k_endI (ty := .int) hx hb hr hlocks (rfl) (fun z9 => absurd (z9.symm.trans (show cBreaks n br t = 1 from by unfold cBreaks; rw [if_neg c_8])) (by decide)) hP hD hS dX5_breaks_37

set_option maxHeartbeats 4000000 in
set_option maxRecDepth 100000 in
theorem c_X5_crew (l : Launch) (D : va_G) (b : Nat → Nat) (cI cZ : ClassId) (sz : Nat) (pl : Nat → Int32) (br : Nat → Int32) (md : Nat → Int32) (tn : Nat → Int32) (sp : Nat → Int32) (we : Nat → Int32) (tw : Nat → Int32) (sl : Nat → Int32) (pr : Nat → Int32) (al : Nat → Int32) (mo : Nat → Int32) (cr : Nat → Int32) (tu : Nat → Int32) (le : Nat → Int32) (to : Nat → Int32) (ia : Nat → Int32) (th : Int32) (n : Nat) (h : Nat) (bt : Int32) (x : Int32) (hn : n ≤ 12) (hh : h < 480) : kUi l yX5_crew wsX5_crew ({ frames := 1, cells := 0, slots := 0, locals := 23 }) [.ref (b 0), .int bt, .int x] D cI cZ sz (wM b cI cZ pl br md tn (nI n) sp we tw sl pr al mo (nI h) cr tu le to ia th) (wM b cI cZ pl br md tn (nI n) sp we tw sl pr al mo (nI h) (kIf (cCrew bt x) (upd cr (cl bt) x) cr) tu le to ia (nI (cCrew bt x))) (fun r => cCrew bt x = 0 → r = cr (cl bt)) := by
  refine Met.ofW (cc := cX5_crew) (maxL := 4) (ret := (some .int)) (by decide) rfl ?_
  intro p e s m args below meth c s₁ B hml hv
  obtain ⟨rfl, hsz, hP, hK, hD0⟩ := hv
  have hx := B.exec
  have hb := B.bytes
  have hr := B.returns
  have hts := atoms_spec (ws := wsX5_crew) B.pre
  have hown : s.vm.findClass RX5 = some m.cls := findClass_of_methodNamed B.named
  have hlocks := B.notSynchronized
  subst hsz
  have hD := hD0.self (sz := s.heap.size)
  generalize hAe : va_A (wM b cI cZ pl br md tn (nI n) sp we tw sl pr al mo (nI h) cr tu le to ia th) s.heap.size = A at hD ⊢
  have hA : ∀ q : Nat, s.heap.size ≤ q → A q := fun q h => by rw [← hAe]; exact Or.inr h
  have hS : va_S A s.heap s.heap [] := va_S.rf
  have hl := lv_entry ([.ref (b 0), .int bt, .int x]) (n := 4) (Nat.le_of_ble_eq_true rfl)
  rw [lg_entry_eq]
  generalize (lg_sl ([.ref (b 0), .int bt, .int x]) ++ List.replicate (4 - (lg_sl ([.ref (b 0), .int bt, .int x])).length) Slot.unset).toArray = ls at hl ⊢
  have hl : lv_has ls 4 [(0, .ref (b 0)), (1, .int bt), (2, .int x)] := hl
  refine lv_aload_n hx hb dX5_crew_0 rfl (lv_at hl 0 rfl) ?_
  refine lv_aload_n hx hb dX5_crew_1 rfl (lv_at hl 0 rfl) ?_
  refine lv_iload_n hx hb dX5_crew_2 rfl (lv_at hl 1 rfl) ?_
  refine lv_iconst (v := 0) hx hb dX5_crew_3 (by decide) ?_
  refine lv_iconst (v := 2) hx hb dX5_crew_4 (by decide) ?_
  refine k_pv (As := [.int bt, .int 0, .int 2]) (rest := [.ref (b 0)]) (nL := 4) ⟨hx, hb, hml, hown, hts⟩ (c_X5_in l _ bt 0 2) (cwV 3 hts gX5_crew_X5_in rfl rfl rfl (by decide +kernel) ⟨Nat.le_of_ble_eq_true rfl, Nat.le_of_ble_eq_true rfl⟩) (va_recv hK.1 hP (ci := 5) (q0 := 0) rfl rfl) rfl hl.1 rfl (Nat.le_of_ble_eq_true rfl) dX5_crew_5 ⟨Nat.zero_le _, Nat.zero_le _⟩ (fun r9 hr9 => ?_)
  subst hr9
  refine lv_if_ne (tgt := 15) hx hb dX5_crew_8 (by decide) (fun c_8 => ?_) (fun c_8 => ?_)
  · have c_8 := bI_n c_8
    refine lv_aload_n hx hb dX5_crew_15 rfl (lv_at hl 0 rfl) ?_
    refine lv_iload_n hx hb dX5_crew_16 rfl (lv_at hl 2 rfl) ?_
    refine lv_iconst (v := 0) hx hb dX5_crew_17 (by decide) ?_
    refine lv_bipush (v := 24) hx hb dX5_crew_18 (by decide) ?_
    refine k_pv (As := [.int x, .int 0, .int 24]) (rest := [.ref (b 0)]) (nL := 4) ⟨hx, hb, hml, hown, hts⟩ (c_X5_in l _ x 0 24) (cwV 3 hts gX5_crew_X5_in rfl rfl rfl (by decide +kernel) ⟨Nat.le_of_ble_eq_true rfl, Nat.le_of_ble_eq_true rfl⟩) (va_recv hK.1 hP (ci := 5) (q0 := 0) rfl rfl) rfl hl.1 rfl (Nat.le_of_ble_eq_true rfl) dX5_crew_20 ⟨Nat.zero_le _, Nat.zero_le _⟩ (fun r9 hr9 => ?_)
    subst hr9
    refine lv_if_eq (tgt := 30) hx hb dX5_crew_23 (by decide) (fun c_23 => ?_) (fun c_23 => ?_)
    · have c_23 := bI_0 c_23
      refine lv_iconst (v := 2) hx hb dX5_crew_30 (by decide) ?_
      refine k_ui (WR := []) (WN := (wM b cI cZ pl br md tn (nI n) sp we tw sl pr al mo (nI h) cr tu le to ia 2)) (As := [.int 2]) (rest := []) (nL := 4) ⟨hx, hb, hml, hown, hts⟩ hK hP hD hS hA (c_X5_fails l D b cI cZ _ pl br md tn (nI n) sp we tw sl pr al mo (nI h) cr tu le to ia th 2) [0, 1, 2, 3, 4, 5, 6, 7, 8, 9, 10, 11, 12, 13, 14, 15, 16] [] [0, 1, 2, 3, 4, 5, 6, 7, 8, 9, 10, 11, 12, 13, 14, 15, 16] rfl rfl (by decide) rfl (by decide) (by decide) rfl rfl (by decide) 0 rfl rfl rfl (cwV 1 hts gX5_crew_X5_fails rfl rfl rfl (by decide +kernel) ⟨Nat.le_of_ble_eq_true rfl, Nat.le_of_ble_eq_true rfl⟩) rfl hl.1 rfl (Nat.le_of_ble_eq_true rfl) dX5_crew_31 ⟨Nat.zero_le _, Nat.zero_le _⟩ (fun r9 H locs hr9 hP hD hS => ?_)
      subst hr9
      refine lv_if_eq (tgt := 39) hx hb dX5_crew_34 (by decide) (fun c_34 => by first | exact absurd c_34 (by decide) | exact absurd (by decide) c_34) (fun c_34 => ?_)
      have e9 : (kIf (cCrew bt x) (upd cr (cl bt) x) cr) = cr := kIf_s (fun z9 => absurd (z9.symm.trans (show cCrew bt x = 2 from by unfold cCrew; rw [if_pos c_8, if_neg c_23])) (by decide))
      have hP : va_P D vwCl (wM b cI cZ pl br md tn (nI n) sp we tw sl pr al mo (nI h) (kIf (cCrew bt x) (upd cr (cl bt) x) cr) tu le to ia 2) H := by rw [e9]; exact hP
      have hD : va_D A (wM b cI cZ pl br md tn (nI n) sp we tw sl pr al mo (nI h) (kIf (cCrew bt x) (upd cr (cl bt) x) cr) tu le to ia 2) := by rw [e9]; exact hD
      clear e9
      have e9 : (nI (cCrew bt x)) = 2 := by rw [show cCrew bt x = 2 from by unfold cCrew; rw [if_pos c_8, if_neg c_23]]; rfl
      have hP : va_P D vwCl (wM b cI cZ pl br md tn (nI n) sp we tw sl pr al mo (nI h) (kIf (cCrew bt x) (upd cr (cl bt) x) cr) tu le to ia (nI (cCrew bt x))) H := by rw [e9]; exact hP
      have hD : va_D A (wM b cI cZ pl br md tn (nI n) sp we tw sl pr al mo (nI h) (kIf (cCrew bt x) (upd cr (cl bt) x) cr) tu le to ia (nI (cCrew bt x))) := by rw [e9]; exact hD
      clear e9
      refine lv_iconst (v := (-1)) hx hb dX5_crew_37 (by decide) ?_
      exact k_endI (ty := .int) hx hb hr hlocks (rfl) (fun z9 => absurd (z9.symm.trans (show cCrew bt x = 2 from by unfold cCrew; rw [if_pos c_8, if_neg c_23])) (by decide)) hP hD hS dX5_crew_38
    · have c_23 := bI_n c_23
      refine lv_iconst (v := 0) hx hb dX5_crew_26 (by decide) ?_
      refine lv_goto (tgt := 31) hx hb dX5_crew_27 (by decide) ?_
      refine k_ui (WR := []) (WN := (wM b cI cZ pl br md tn (nI n) sp we tw sl pr al mo (nI h) cr tu le to ia 0)) (As := [.int 0]) (rest := []) (nL := 4) ⟨hx, hb, hml, hown, hts⟩ hK hP hD hS hA (c_X5_fails l D b cI cZ _ pl br md tn (nI n) sp we tw sl pr al mo (nI h) cr tu le to ia th 0) [0, 1, 2, 3, 4, 5, 6, 7, 8, 9, 10, 11, 12, 13, 14, 15, 16] [] [0, 1, 2, 3, 4, 5, 6, 7, 8, 9, 10, 11, 12, 13, 14, 15, 16] rfl rfl (by decide) rfl (by decide) (by decide) rfl rfl (by decide) 0 rfl rfl rfl (cwV 1 hts gX5_crew_X5_fails rfl rfl rfl (by decide +kernel) ⟨Nat.le_of_ble_eq_true rfl, Nat.le_of_ble_eq_true rfl⟩) rfl hl.1 rfl (Nat.le_of_ble_eq_true rfl) dX5_crew_31 ⟨Nat.zero_le _, Nat.zero_le _⟩ (fun r9 H locs hr9 hP hD hS => ?_)
      subst hr9
      refine lv_if_eq (tgt := 39) hx hb dX5_crew_34 (by decide) (fun c_34 => ?_) (fun c_34 => by first | exact absurd c_34 (by decide) | exact absurd (by decide) c_34)
      have hq := cl_rng (n := 0) (m := 2) (by decide) (by decide) c_8
      rw [hq.1] at hl
      refine lv_aload_n hx hb dX5_crew_39 rfl (lv_at hl 0 rfl) ?_
      refine va_get (D := D) (ci := 5) (v := .ref (b 12)) (C := RX5) (T := TX5) (N := 19) hx hb hts (by decide +kernel) hown hK.1 hP 0 rfl rfl 13 (by decide) (hts (.fieldLink RX5 43 "TurbineorchardModel" "crew" "[I") (by decide +kernel)) (fun _ h9 => h9) rfl dX5_crew_40 ?_
      refine lv_iload_n hx hb dX5_crew_43 rfl (lv_at hl 1 rfl) ?_
      refine k_iald hx hb hK.1 hP 12 0 rfl rfl (cl bt) (rfl) (by omega) (by decide) dX5_crew_44 ?_
      refine lv_istore_n (lv' := [(3, .int (cr (cl bt))), (0, .ref (b 0)), (1, .int (nI (cl bt))), (2, .int x)]) hx hb dX5_crew_45 rfl hl (by decide) rfl (fun ls hl => ?_)
      refine lv_aload_n hx hb dX5_crew_46 rfl (lv_at hl 1 rfl) ?_
      refine va_get (D := D) (ci := 5) (v := .ref (b 12)) (C := RX5) (T := TX5) (N := 19) hx hb hts (by decide +kernel) hown hK.1 hP 0 rfl rfl 13 (by decide) (hts (.fieldLink RX5 43 "TurbineorchardModel" "crew" "[I") (by decide +kernel)) (fun _ h9 => h9) rfl dX5_crew_47 ?_
      refine lv_iload_n hx hb dX5_crew_50 rfl (lv_at hl 2 rfl) ?_
      refine lv_iload_n hx hb dX5_crew_51 rfl (lv_at hl 3 rfl) ?_
      refine k_iast hx hb hK.1 hP hD hS 12 0 rfl rfl (cl bt) (rfl) (by omega) (by decide) dX5_crew_52 (fun H locs hP hD hS => ?_)
      have hP : va_P D vwCl (wM b cI cZ pl br md tn (nI n) sp we tw sl pr al mo (nI h) (upd cr (cl bt) x) tu le to ia 0) H := hP
      have hD : va_D A (wM b cI cZ pl br md tn (nI n) sp we tw sl pr al mo (nI h) (upd cr (cl bt) x) tu le to ia 0) := hD
      have e9 : (kIf (cCrew bt x) (upd cr (cl bt) x) cr) = (upd cr (cl bt) x) := kIf_0 (by unfold cCrew; rw [if_pos c_8, if_pos c_23])
      have hP : va_P D vwCl (wM b cI cZ pl br md tn (nI n) sp we tw sl pr al mo (nI h) (kIf (cCrew bt x) (upd cr (cl bt) x) cr) tu le to ia 0) H := by rw [e9]; exact hP
      have hD : va_D A (wM b cI cZ pl br md tn (nI n) sp we tw sl pr al mo (nI h) (kIf (cCrew bt x) (upd cr (cl bt) x) cr) tu le to ia 0) := by rw [e9]; exact hD
      clear e9
      have e9 : (nI (cCrew bt x)) = 0 := by rw [show cCrew bt x = 0 from by unfold cCrew; rw [if_pos c_8, if_pos c_23]]; rfl
      have hP : va_P D vwCl (wM b cI cZ pl br md tn (nI n) sp we tw sl pr al mo (nI h) (kIf (cCrew bt x) (upd cr (cl bt) x) cr) tu le to ia (nI (cCrew bt x))) H := by rw [e9]; exact hP
      have hD : va_D A (wM b cI cZ pl br md tn (nI n) sp we tw sl pr al mo (nI h) (kIf (cCrew bt x) (upd cr (cl bt) x) cr) tu le to ia (nI (cCrew bt x))) := by rw [e9]; exact hD
      clear e9
      refine lv_iload_n hx hb dX5_crew_53 rfl (lv_at hl 0 rfl) ?_
      exact k_endI (ty := .int) hx hb hr hlocks (rfl) (fun _ => rfl) hP hD hS dX5_crew_54
  · have c_8 := bI_0 c_8
    refine lv_iconst (v := 1) hx hb dX5_crew_11 (by decide) ?_
    refine lv_goto (tgt := 31) hx hb dX5_crew_12 (by decide) ?_
    refine k_ui (WR := []) (WN := (wM b cI cZ pl br md tn (nI n) sp we tw sl pr al mo (nI h) cr tu le to ia 1)) (As := [.int 1]) (rest := []) (nL := 4) ⟨hx, hb, hml, hown, hts⟩ hK hP hD hS hA (c_X5_fails l D b cI cZ _ pl br md tn (nI n) sp we tw sl pr al mo (nI h) cr tu le to ia th 1) [0, 1, 2, 3, 4, 5, 6, 7, 8, 9, 10, 11, 12, 13, 14, 15, 16] [] [0, 1, 2, 3, 4, 5, 6, 7, 8, 9, 10, 11, 12, 13, 14, 15, 16] rfl rfl (by decide) rfl (by decide) (by decide) rfl rfl (by decide) 0 rfl rfl rfl (cwV 1 hts gX5_crew_X5_fails rfl rfl rfl (by decide +kernel) ⟨Nat.le_of_ble_eq_true rfl, Nat.le_of_ble_eq_true rfl⟩) rfl hl.1 rfl (Nat.le_of_ble_eq_true rfl) dX5_crew_31 ⟨Nat.zero_le _, Nat.zero_le _⟩ (fun r9 H locs hr9 hP hD hS => ?_)
    subst hr9
    refine lv_if_eq (tgt := 39) hx hb dX5_crew_34 (by decide) (fun c_34 => by first | exact absurd c_34 (by decide) | exact absurd (by decide) c_34) (fun c_34 => ?_)
    have e9 : (kIf (cCrew bt x) (upd cr (cl bt) x) cr) = cr := kIf_s (fun z9 => absurd (z9.symm.trans (show cCrew bt x = 1 from by unfold cCrew; rw [if_neg c_8])) (by decide))
    have hP : va_P D vwCl (wM b cI cZ pl br md tn (nI n) sp we tw sl pr al mo (nI h) (kIf (cCrew bt x) (upd cr (cl bt) x) cr) tu le to ia 1) H := by rw [e9]; exact hP
    have hD : va_D A (wM b cI cZ pl br md tn (nI n) sp we tw sl pr al mo (nI h) (kIf (cCrew bt x) (upd cr (cl bt) x) cr) tu le to ia 1) := by rw [e9]; exact hD
    clear e9
    have e9 : (nI (cCrew bt x)) = 1 := by rw [show cCrew bt x = 1 from by unfold cCrew; rw [if_neg c_8]]; rfl
    have hP : va_P D vwCl (wM b cI cZ pl br md tn (nI n) sp we tw sl pr al mo (nI h) (kIf (cCrew bt x) (upd cr (cl bt) x) cr) tu le to ia (nI (cCrew bt x))) H := by rw [e9]; exact hP
    have hD : va_D A (wM b cI cZ pl br md tn (nI n) sp we tw sl pr al mo (nI h) (kIf (cCrew bt x) (upd cr (cl bt) x) cr) tu le to ia (nI (cCrew bt x))) := by rw [e9]; exact hD
    clear e9
    refine lv_iconst (v := (-1)) hx hb dX5_crew_37 (by decide) ?_
    exact k_endI (ty := .int) hx hb hr hlocks (rfl) (fun z9 => absurd (z9.symm.trans (show cCrew bt x = 1 from by unfold cCrew; rw [if_neg c_8])) (by decide)) hP hD hS dX5_crew_38

set_option maxHeartbeats 4000000 in
set_option maxRecDepth 100000 in
theorem c_X5_repair (l : Launch) (D : va_G) (b : Nat → Nat) (cI cZ : ClassId) (sz : Nat) (pl : Nat → Int32) (br : Nat → Int32) (md : Nat → Int32) (tn : Nat → Int32) (sp : Nat → Int32) (we : Nat → Int32) (tw : Nat → Int32) (sl : Nat → Int32) (pr : Nat → Int32) (al : Nat → Int32) (mo : Nat → Int32) (cr : Nat → Int32) (tu : Nat → Int32) (le : Nat → Int32) (to : Nat → Int32) (ia : Nat → Int32) (th : Int32) (n : Nat) (h : Nat) (bt : Int32) (t : Int32) (x : Int32) (hn : n ≤ 12) (hh : h < 480) (hbr : ∀ k, br k = 0 ∨ br k = 1) (htu : ∀ b, b < 3 → ¬ tu b = -1 → tu b = nI (fP tu b) ∧ fP tu b < n) : kUv l yX5_repair wsX5_repair ({ frames := 2, cells := 0, slots := 0, locals := 44 }) [.ref (b 0), .int bt, .int t, .int x] D cI cZ sz (wM b cI cZ pl br md tn (nI n) sp we tw sl pr al mo (nI h) cr tu le to ia th) (wM b cI cZ pl br md tn (nI n) sp we tw sl pr al mo (nI h) cr (kIf (cRepair n br tu bt t x) (upd tu (cl bt) t) tu) (kIf (cRepair n br tu bt t x) (upd le (cl bt) x) le) to ia (nI (cRepair n br tu bt t x))) := by
  refine Met.ofW (cc := cX5_repair) (maxL := 6) (ret := none) (by decide) rfl ?_
  intro p e s m args below meth c s₁ B hml hv
  obtain ⟨rfl, hsz, hP, hK, hD0⟩ := hv
  have hx := B.exec
  have hb := B.bytes
  have hr := B.returns
  have hts := atoms_spec (ws := wsX5_repair) B.pre
  have hown : s.vm.findClass RX5 = some m.cls := findClass_of_methodNamed B.named
  have hlocks := B.notSynchronized
  subst hsz
  have hD := hD0.self (sz := s.heap.size)
  generalize hAe : va_A (wM b cI cZ pl br md tn (nI n) sp we tw sl pr al mo (nI h) cr tu le to ia th) s.heap.size = A at hD ⊢
  have hA : ∀ q : Nat, s.heap.size ≤ q → A q := fun q h => by rw [← hAe]; exact Or.inr h
  have hS : va_S A s.heap s.heap [] := va_S.rf
  have hl := lv_entry ([.ref (b 0), .int bt, .int t, .int x]) (n := 6) (Nat.le_of_ble_eq_true rfl)
  rw [lg_entry_eq]
  generalize (lg_sl ([.ref (b 0), .int bt, .int t, .int x]) ++ List.replicate (6 - (lg_sl ([.ref (b 0), .int bt, .int t, .int x])).length) Slot.unset).toArray = ls at hl ⊢
  have hl : lv_has ls 6 [(0, .ref (b 0)), (1, .int bt), (2, .int t), (3, .int x)] := hl
  refine lv_aload_n hx hb dX5_repair_0 rfl (lv_at hl 0 rfl) ?_
  refine lv_iload_n hx hb dX5_repair_1 rfl (lv_at hl 1 rfl) ?_
  refine lv_iconst (v := 0) hx hb dX5_repair_2 (by decide) ?_
  refine lv_iconst (v := 2) hx hb dX5_repair_3 (by decide) ?_
  refine k_pv (As := [.int bt, .int 0, .int 2]) (rest := []) (nL := 6) ⟨hx, hb, hml, hown, hts⟩ (c_X5_in l _ bt 0 2) (cwV 3 hts gX5_repair_X5_in rfl rfl rfl (by decide +kernel) ⟨Nat.le_of_ble_eq_true rfl, Nat.le_of_ble_eq_true rfl⟩) (va_recv hK.1 hP (ci := 5) (q0 := 0) rfl rfl) rfl hl.1 rfl (Nat.le_of_ble_eq_true rfl) dX5_repair_4 ⟨Nat.zero_le _, Nat.zero_le _⟩ (fun r9 hr9 => ?_)
  subst hr9
  refine lv_if_eq (tgt := 22) hx hb dX5_repair_7 (by decide) (fun c_7 => ?_) (fun c_7 => ?_)
  · have c_7 := bI_0 c_7
    refine lv_iconst (v := 0) hx hb dX5_repair_22 (by decide) ?_
    refine lv_istore (lv' := [(4, .int 0), (0, .ref (b 0)), (1, .int bt), (2, .int t), (3, .int x)]) hx hb dX5_repair_23 hl (by decide) rfl (fun ls hl => ?_)
    refine lv_iload hx hb dX5_repair_25 (lv_at hl 0 rfl) ?_
    refine lv_if_eq (tgt := 82) hx hb dX5_repair_27 (by decide) (fun c_27 => ?_) (fun c_27 => by first | exact absurd c_27 (by decide) | exact absurd (by decide) c_27)
    refine lv_iconst (v := 0) hx hb dX5_repair_82 (by decide) ?_
    refine lv_istore (lv' := [(5, .int 0), (4, .int 0), (0, .ref (b 0)), (1, .int bt), (2, .int t), (3, .int x)]) hx hb dX5_repair_83 hl (by decide) rfl (fun ls hl => ?_)
    refine lv_aload_n hx hb dX5_repair_85 rfl (lv_at hl 2 rfl) ?_
    refine lv_iload hx hb dX5_repair_86 (lv_at hl 1 rfl) ?_
    refine lv_if_ne (tgt := 95) hx hb dX5_repair_88 (by decide) (fun c_88 => by first | exact absurd c_88 (by decide) | exact absurd (by decide) c_88) (fun c_88 => ?_)
    refine lv_iconst (v := 1) hx hb dX5_repair_91 (by decide) ?_
    refine lv_goto (tgt := 120) hx hb dX5_repair_92 (by decide) ?_
    refine k_ui (WR := []) (WN := (wM b cI cZ pl br md tn (nI n) sp we tw sl pr al mo (nI h) cr tu le to ia 1)) (As := [.int 1]) (rest := []) (nL := 6) ⟨hx, hb, hml, hown, hts⟩ hK hP hD hS hA (c_X5_fails l D b cI cZ _ pl br md tn (nI n) sp we tw sl pr al mo (nI h) cr tu le to ia th 1) [0, 1, 2, 3, 4, 5, 6, 7, 8, 9, 10, 11, 12, 13, 14, 15, 16] [] [0, 1, 2, 3, 4, 5, 6, 7, 8, 9, 10, 11, 12, 13, 14, 15, 16] rfl rfl (by decide) rfl (by decide) (by decide) rfl rfl (by decide) 0 rfl rfl rfl (cwV 1 hts gX5_repair_X5_fails rfl rfl rfl (by decide +kernel) ⟨Nat.le_of_ble_eq_true rfl, Nat.le_of_ble_eq_true rfl⟩) rfl hl.1 rfl (Nat.le_of_ble_eq_true rfl) dX5_repair_120 ⟨Nat.zero_le _, Nat.zero_le _⟩ (fun r9 H locs hr9 hP hD hS => ?_)
    subst hr9
    refine lv_if_ne (tgt := 140) hx hb dX5_repair_123 (by decide) (fun c_123 => ?_) (fun c_123 => by first | exact absurd c_123 (by decide) | exact absurd (by decide) c_123)
    have e9 : (kIf (cRepair n br tu bt t x) (upd tu (cl bt) t) tu) = tu := kIf_s (fun z9 => absurd (z9.symm.trans (show cRepair n br tu bt t x = 1 from by unfold cRepair; rw [if_neg (fun q => c_7 q.1)])) (by decide))
    have hP : va_P D vwCl (wM b cI cZ pl br md tn (nI n) sp we tw sl pr al mo (nI h) cr (kIf (cRepair n br tu bt t x) (upd tu (cl bt) t) tu) le to ia 1) H := by rw [e9]; exact hP
    have hD : va_D A (wM b cI cZ pl br md tn (nI n) sp we tw sl pr al mo (nI h) cr (kIf (cRepair n br tu bt t x) (upd tu (cl bt) t) tu) le to ia 1) := by rw [e9]; exact hD
    clear e9
    have e9 : (kIf (cRepair n br tu bt t x) (upd le (cl bt) x) le) = le := kIf_s (fun z9 => absurd (z9.symm.trans (show cRepair n br tu bt t x = 1 from by unfold cRepair; rw [if_neg (fun q => c_7 q.1)])) (by decide))
    have hP : va_P D vwCl (wM b cI cZ pl br md tn (nI n) sp we tw sl pr al mo (nI h) cr (kIf (cRepair n br tu bt t x) (upd tu (cl bt) t) tu) (kIf (cRepair n br tu bt t x) (upd le (cl bt) x) le) to ia 1) H := by rw [e9]; exact hP
    have hD : va_D A (wM b cI cZ pl br md tn (nI n) sp we tw sl pr al mo (nI h) cr (kIf (cRepair n br tu bt t x) (upd tu (cl bt) t) tu) (kIf (cRepair n br tu bt t x) (upd le (cl bt) x) le) to ia 1) := by rw [e9]; exact hD
    clear e9
    have e9 : (nI (cRepair n br tu bt t x)) = 1 := by rw [show cRepair n br tu bt t x = 1 from by unfold cRepair; rw [if_neg (fun q => c_7 q.1)]]; rfl
    have hP : va_P D vwCl (wM b cI cZ pl br md tn (nI n) sp we tw sl pr al mo (nI h) cr (kIf (cRepair n br tu bt t x) (upd tu (cl bt) t) tu) (kIf (cRepair n br tu bt t x) (upd le (cl bt) x) le) to ia (nI (cRepair n br tu bt t x))) H := by rw [e9]; exact hP
    have hD : va_D A (wM b cI cZ pl br md tn (nI n) sp we tw sl pr al mo (nI h) cr (kIf (cRepair n br tu bt t x) (upd tu (cl bt) t) tu) (kIf (cRepair n br tu bt t x) (upd le (cl bt) x) le) to ia (nI (cRepair n br tu bt t x))) := by rw [e9]; exact hD
    clear e9
    exact k_endV (sz := 0) hx hb hr hlocks hP hD hS dX5_repair_140
  · have c_7 := bI_n c_7
    refine lv_aload_n hx hb dX5_repair_10 rfl (lv_at hl 0 rfl) ?_
    refine lv_iload_n hx hb dX5_repair_11 rfl (lv_at hl 2 rfl) ?_
    refine k_rd (As := [.int t]) (rest := []) (nL := 6) ⟨hx, hb, hml, hown, hts⟩ hK hP (c_X5_isTurbine l D b cI cZ pl br md tn sp we tw sl pr al mo (nI h) cr tu le to ia th n t) [0, 1, 2, 3, 4, 5, 6, 7, 8, 9, 10, 11, 12, 13, 14, 15, 16] rfl 0 rfl rfl rfl (cwV 1 hts gX5_repair_X5_isTurbine rfl rfl rfl (by decide +kernel) ⟨Nat.le_of_ble_eq_true rfl, Nat.le_of_ble_eq_true rfl⟩) rfl hl.1 rfl (Nat.le_of_ble_eq_true rfl) dX5_repair_12 ⟨Nat.zero_le _, Nat.zero_le _⟩ (fun r9 hr9 => ?_)
    subst hr9
    refine lv_if_eq (tgt := 22) hx hb dX5_repair_15 (by decide) (fun c_15 => ?_) (fun c_15 => ?_)
    · have c_15 := bI_0 c_15
      refine lv_iconst (v := 0) hx hb dX5_repair_22 (by decide) ?_
      refine lv_istore (lv' := [(4, .int 0), (0, .ref (b 0)), (1, .int bt), (2, .int t), (3, .int x)]) hx hb dX5_repair_23 hl (by decide) rfl (fun ls hl => ?_)
      refine lv_iload hx hb dX5_repair_25 (lv_at hl 0 rfl) ?_
      refine lv_if_eq (tgt := 82) hx hb dX5_repair_27 (by decide) (fun c_27 => ?_) (fun c_27 => by first | exact absurd c_27 (by decide) | exact absurd (by decide) c_27)
      refine lv_iconst (v := 0) hx hb dX5_repair_82 (by decide) ?_
      refine lv_istore (lv' := [(5, .int 0), (4, .int 0), (0, .ref (b 0)), (1, .int bt), (2, .int t), (3, .int x)]) hx hb dX5_repair_83 hl (by decide) rfl (fun ls hl => ?_)
      refine lv_aload_n hx hb dX5_repair_85 rfl (lv_at hl 2 rfl) ?_
      refine lv_iload hx hb dX5_repair_86 (lv_at hl 1 rfl) ?_
      refine lv_if_ne (tgt := 95) hx hb dX5_repair_88 (by decide) (fun c_88 => by first | exact absurd c_88 (by decide) | exact absurd (by decide) c_88) (fun c_88 => ?_)
      refine lv_iconst (v := 1) hx hb dX5_repair_91 (by decide) ?_
      refine lv_goto (tgt := 120) hx hb dX5_repair_92 (by decide) ?_
      refine k_ui (WR := []) (WN := (wM b cI cZ pl br md tn (nI n) sp we tw sl pr al mo (nI h) cr tu le to ia 1)) (As := [.int 1]) (rest := []) (nL := 6) ⟨hx, hb, hml, hown, hts⟩ hK hP hD hS hA (c_X5_fails l D b cI cZ _ pl br md tn (nI n) sp we tw sl pr al mo (nI h) cr tu le to ia th 1) [0, 1, 2, 3, 4, 5, 6, 7, 8, 9, 10, 11, 12, 13, 14, 15, 16] [] [0, 1, 2, 3, 4, 5, 6, 7, 8, 9, 10, 11, 12, 13, 14, 15, 16] rfl rfl (by decide) rfl (by decide) (by decide) rfl rfl (by decide) 0 rfl rfl rfl (cwV 1 hts gX5_repair_X5_fails rfl rfl rfl (by decide +kernel) ⟨Nat.le_of_ble_eq_true rfl, Nat.le_of_ble_eq_true rfl⟩) rfl hl.1 rfl (Nat.le_of_ble_eq_true rfl) dX5_repair_120 ⟨Nat.zero_le _, Nat.zero_le _⟩ (fun r9 H locs hr9 hP hD hS => ?_)
      subst hr9
      refine lv_if_ne (tgt := 140) hx hb dX5_repair_123 (by decide) (fun c_123 => ?_) (fun c_123 => by first | exact absurd c_123 (by decide) | exact absurd (by decide) c_123)
      have e9 : (kIf (cRepair n br tu bt t x) (upd tu (cl bt) t) tu) = tu := kIf_s (fun z9 => absurd (z9.symm.trans (show cRepair n br tu bt t x = 1 from by unfold cRepair; rw [if_neg (fun q => c_15 q.2)])) (by decide))
      have hP : va_P D vwCl (wM b cI cZ pl br md tn (nI n) sp we tw sl pr al mo (nI h) cr (kIf (cRepair n br tu bt t x) (upd tu (cl bt) t) tu) le to ia 1) H := by rw [e9]; exact hP
      have hD : va_D A (wM b cI cZ pl br md tn (nI n) sp we tw sl pr al mo (nI h) cr (kIf (cRepair n br tu bt t x) (upd tu (cl bt) t) tu) le to ia 1) := by rw [e9]; exact hD
      clear e9
      have e9 : (kIf (cRepair n br tu bt t x) (upd le (cl bt) x) le) = le := kIf_s (fun z9 => absurd (z9.symm.trans (show cRepair n br tu bt t x = 1 from by unfold cRepair; rw [if_neg (fun q => c_15 q.2)])) (by decide))
      have hP : va_P D vwCl (wM b cI cZ pl br md tn (nI n) sp we tw sl pr al mo (nI h) cr (kIf (cRepair n br tu bt t x) (upd tu (cl bt) t) tu) (kIf (cRepair n br tu bt t x) (upd le (cl bt) x) le) to ia 1) H := by rw [e9]; exact hP
      have hD : va_D A (wM b cI cZ pl br md tn (nI n) sp we tw sl pr al mo (nI h) cr (kIf (cRepair n br tu bt t x) (upd tu (cl bt) t) tu) (kIf (cRepair n br tu bt t x) (upd le (cl bt) x) le) to ia 1) := by rw [e9]; exact hD
      clear e9
      have e9 : (nI (cRepair n br tu bt t x)) = 1 := by rw [show cRepair n br tu bt t x = 1 from by unfold cRepair; rw [if_neg (fun q => c_15 q.2)]]; rfl
      have hP : va_P D vwCl (wM b cI cZ pl br md tn (nI n) sp we tw sl pr al mo (nI h) cr (kIf (cRepair n br tu bt t x) (upd tu (cl bt) t) tu) (kIf (cRepair n br tu bt t x) (upd le (cl bt) x) le) to ia (nI (cRepair n br tu bt t x))) H := by rw [e9]; exact hP
      have hD : va_D A (wM b cI cZ pl br md tn (nI n) sp we tw sl pr al mo (nI h) cr (kIf (cRepair n br tu bt t x) (upd tu (cl bt) t) tu) (kIf (cRepair n br tu bt t x) (upd le (cl bt) x) le) to ia (nI (cRepair n br tu bt t x))) := by rw [e9]; exact hD
      clear e9
      exact k_endV (sz := 0) hx hb hr hlocks hP hD hS dX5_repair_140
    · have c_15 := bI_n c_15
      refine lv_iconst (v := 1) hx hb dX5_repair_18 (by decide) ?_
      refine lv_goto (tgt := 23) hx hb dX5_repair_19 (by decide) ?_
      refine lv_istore (lv' := [(4, .int 1), (0, .ref (b 0)), (1, .int bt), (2, .int t), (3, .int x)]) hx hb dX5_repair_23 hl (by decide) rfl (fun ls hl => ?_)
      refine lv_iload hx hb dX5_repair_25 (lv_at hl 0 rfl) ?_
      refine lv_if_eq (tgt := 82) hx hb dX5_repair_27 (by decide) (fun c_27 => by first | exact absurd c_27 (by decide) | exact absurd (by decide) c_27) (fun c_27 => ?_)
      have hq := cl_rng (n := 0) (m := 2) (by decide) (by decide) c_7
      have ht9 := has_cl hn c_15
      rw [hq.1] at hl
      refine lv_aload_n hx hb dX5_repair_30 rfl (lv_at hl 1 rfl) ?_
      refine va_get (D := D) (ci := 5) (v := .ref (b 13)) (C := RX5) (T := TX5) (N := 19) hx hb hts (by decide +kernel) hown hK.1 hP 0 rfl rfl 14 (by decide) (hts (.fieldLink RX5 46 "TurbineorchardModel" "at" "[I") (by decide +kernel)) (fun _ h9 => h9) rfl dX5_repair_31 ?_
      refine lv_iload_n hx hb dX5_repair_34 rfl (lv_at hl 2 rfl) ?_
      refine k_iald hx hb hK.1 hP 13 0 rfl rfl (cl bt) (rfl) (by omega) (by decide) dX5_repair_35 ?_
      refine lv_if_ge (tgt := 78) hx hb dX5_repair_36 (by decide) (fun c_36 => ?_) (fun c_36 => ?_)
      · refine lv_iconst (v := 1) hx hb dX5_repair_78 (by decide) ?_
        refine lv_goto (tgt := 83) hx hb dX5_repair_79 (by decide) ?_
        refine lv_istore (lv' := [(5, .int 1), (4, .int 1), (0, .ref (b 0)), (1, .int (nI (cl bt))), (2, .int t), (3, .int x)]) hx hb dX5_repair_83 hl (by decide) rfl (fun ls hl => ?_)
        refine lv_aload_n hx hb dX5_repair_85 rfl (lv_at hl 2 rfl) ?_
        refine lv_iload hx hb dX5_repair_86 (lv_at hl 1 rfl) ?_
        refine lv_if_ne (tgt := 95) hx hb dX5_repair_88 (by decide) (fun c_88 => ?_) (fun c_88 => by first | exact absurd c_88 (by decide) | exact absurd (by decide) c_88)
        refine lv_aload_n hx hb dX5_repair_95 rfl (lv_at hl 2 rfl) ?_
        refine lv_iload_n hx hb dX5_repair_96 rfl (lv_at hl 5 rfl) ?_
        refine lv_iconst (v := 1) hx hb dX5_repair_97 (by decide) ?_
        refine lv_bipush (v := 40) hx hb dX5_repair_98 (by decide) ?_
        refine k_pv (As := [.int x, .int 1, .int 40]) (rest := [.ref (b 0)]) (nL := 6) ⟨hx, hb, hml, hown, hts⟩ (c_X5_in l _ x 1 40) (cwV 3 hts gX5_repair_X5_in rfl rfl rfl (by decide +kernel) ⟨Nat.le_of_ble_eq_true rfl, Nat.le_of_ble_eq_true rfl⟩) (va_recv hK.1 hP (ci := 5) (q0 := 0) rfl rfl) rfl hl.1 rfl (Nat.le_of_ble_eq_true rfl) dX5_repair_100 ⟨Nat.zero_le _, Nat.zero_le _⟩ (fun r9 hr9 => ?_)
        subst hr9
        refine lv_if_ne (tgt := 110) hx hb dX5_repair_103 (by decide) (fun c_103 => ?_) (fun c_103 => ?_)
        · have c_103 := bI_n c_103
          refine lv_iload hx hb dX5_repair_110 (lv_at hl 0 rfl) ?_
          refine lv_if_eq (tgt := 119) hx hb dX5_repair_112 (by decide) (fun c_112 => by first | exact absurd c_112 (by decide) | exact absurd (by decide) c_112) (fun c_112 => ?_)
          refine lv_iconst (v := 3) hx hb dX5_repair_115 (by decide) ?_
          refine lv_goto (tgt := 120) hx hb dX5_repair_116 (by decide) ?_
          refine k_ui (WR := []) (WN := (wM b cI cZ pl br md tn (nI n) sp we tw sl pr al mo (nI h) cr tu le to ia 3)) (As := [.int 3]) (rest := []) (nL := 6) ⟨hx, hb, hml, hown, hts⟩ hK hP hD hS hA (c_X5_fails l D b cI cZ _ pl br md tn (nI n) sp we tw sl pr al mo (nI h) cr tu le to ia th 3) [0, 1, 2, 3, 4, 5, 6, 7, 8, 9, 10, 11, 12, 13, 14, 15, 16] [] [0, 1, 2, 3, 4, 5, 6, 7, 8, 9, 10, 11, 12, 13, 14, 15, 16] rfl rfl (by decide) rfl (by decide) (by decide) rfl rfl (by decide) 0 rfl rfl rfl (cwV 1 hts gX5_repair_X5_fails rfl rfl rfl (by decide +kernel) ⟨Nat.le_of_ble_eq_true rfl, Nat.le_of_ble_eq_true rfl⟩) rfl hl.1 rfl (Nat.le_of_ble_eq_true rfl) dX5_repair_120 ⟨Nat.zero_le _, Nat.zero_le _⟩ (fun r9 H locs hr9 hP hD hS => ?_)
          subst hr9
          refine lv_if_ne (tgt := 140) hx hb dX5_repair_123 (by decide) (fun c_123 => ?_) (fun c_123 => by first | exact absurd c_123 (by decide) | exact absurd (by decide) c_123)
          have e9 : (kIf (cRepair n br tu bt t x) (upd tu (cl bt) t) tu) = tu := kIf_s (fun z9 => absurd (z9.symm.trans (show cRepair n br tu bt t x = 3 from by unfold cRepair; rw [if_pos ⟨c_7, c_15⟩, if_pos c_103, if_neg (fun q => absurd c_36 (by rw [q.1]; decide))])) (by decide))
          have hP : va_P D vwCl (wM b cI cZ pl br md tn (nI n) sp we tw sl pr al mo (nI h) cr (kIf (cRepair n br tu bt t x) (upd tu (cl bt) t) tu) le to ia 3) H := by rw [e9]; exact hP
          have hD : va_D A (wM b cI cZ pl br md tn (nI n) sp we tw sl pr al mo (nI h) cr (kIf (cRepair n br tu bt t x) (upd tu (cl bt) t) tu) le to ia 3) := by rw [e9]; exact hD
          clear e9
          have e9 : (kIf (cRepair n br tu bt t x) (upd le (cl bt) x) le) = le := kIf_s (fun z9 => absurd (z9.symm.trans (show cRepair n br tu bt t x = 3 from by unfold cRepair; rw [if_pos ⟨c_7, c_15⟩, if_pos c_103, if_neg (fun q => absurd c_36 (by rw [q.1]; decide))])) (by decide))
          have hP : va_P D vwCl (wM b cI cZ pl br md tn (nI n) sp we tw sl pr al mo (nI h) cr (kIf (cRepair n br tu bt t x) (upd tu (cl bt) t) tu) (kIf (cRepair n br tu bt t x) (upd le (cl bt) x) le) to ia 3) H := by rw [e9]; exact hP
          have hD : va_D A (wM b cI cZ pl br md tn (nI n) sp we tw sl pr al mo (nI h) cr (kIf (cRepair n br tu bt t x) (upd tu (cl bt) t) tu) (kIf (cRepair n br tu bt t x) (upd le (cl bt) x) le) to ia 3) := by rw [e9]; exact hD
          clear e9
          have e9 : (nI (cRepair n br tu bt t x)) = 3 := by rw [show cRepair n br tu bt t x = 3 from by unfold cRepair; rw [if_pos ⟨c_7, c_15⟩, if_pos c_103, if_neg (fun q => absurd c_36 (by rw [q.1]; decide))]]; rfl
          have hP : va_P D vwCl (wM b cI cZ pl br md tn (nI n) sp we tw sl pr al mo (nI h) cr (kIf (cRepair n br tu bt t x) (upd tu (cl bt) t) tu) (kIf (cRepair n br tu bt t x) (upd le (cl bt) x) le) to ia (nI (cRepair n br tu bt t x))) H := by rw [e9]; exact hP
          have hD : va_D A (wM b cI cZ pl br md tn (nI n) sp we tw sl pr al mo (nI h) cr (kIf (cRepair n br tu bt t x) (upd tu (cl bt) t) tu) (kIf (cRepair n br tu bt t x) (upd le (cl bt) x) le) to ia (nI (cRepair n br tu bt t x))) := by rw [e9]; exact hD
          clear e9
          exact k_endV (sz := 0) hx hb hr hlocks hP hD hS dX5_repair_140
        · have c_103 := bI_0 c_103
          refine lv_iconst (v := 2) hx hb dX5_repair_106 (by decide) ?_
          refine lv_goto (tgt := 120) hx hb dX5_repair_107 (by decide) ?_
          refine k_ui (WR := []) (WN := (wM b cI cZ pl br md tn (nI n) sp we tw sl pr al mo (nI h) cr tu le to ia 2)) (As := [.int 2]) (rest := []) (nL := 6) ⟨hx, hb, hml, hown, hts⟩ hK hP hD hS hA (c_X5_fails l D b cI cZ _ pl br md tn (nI n) sp we tw sl pr al mo (nI h) cr tu le to ia th 2) [0, 1, 2, 3, 4, 5, 6, 7, 8, 9, 10, 11, 12, 13, 14, 15, 16] [] [0, 1, 2, 3, 4, 5, 6, 7, 8, 9, 10, 11, 12, 13, 14, 15, 16] rfl rfl (by decide) rfl (by decide) (by decide) rfl rfl (by decide) 0 rfl rfl rfl (cwV 1 hts gX5_repair_X5_fails rfl rfl rfl (by decide +kernel) ⟨Nat.le_of_ble_eq_true rfl, Nat.le_of_ble_eq_true rfl⟩) rfl hl.1 rfl (Nat.le_of_ble_eq_true rfl) dX5_repair_120 ⟨Nat.zero_le _, Nat.zero_le _⟩ (fun r9 H locs hr9 hP hD hS => ?_)
          subst hr9
          refine lv_if_ne (tgt := 140) hx hb dX5_repair_123 (by decide) (fun c_123 => ?_) (fun c_123 => by first | exact absurd c_123 (by decide) | exact absurd (by decide) c_123)
          have e9 : (kIf (cRepair n br tu bt t x) (upd tu (cl bt) t) tu) = tu := kIf_s (fun z9 => absurd (z9.symm.trans (show cRepair n br tu bt t x = 2 from by unfold cRepair; rw [if_pos ⟨c_7, c_15⟩, if_neg c_103])) (by decide))
          have hP : va_P D vwCl (wM b cI cZ pl br md tn (nI n) sp we tw sl pr al mo (nI h) cr (kIf (cRepair n br tu bt t x) (upd tu (cl bt) t) tu) le to ia 2) H := by rw [e9]; exact hP
          have hD : va_D A (wM b cI cZ pl br md tn (nI n) sp we tw sl pr al mo (nI h) cr (kIf (cRepair n br tu bt t x) (upd tu (cl bt) t) tu) le to ia 2) := by rw [e9]; exact hD
          clear e9
          have e9 : (kIf (cRepair n br tu bt t x) (upd le (cl bt) x) le) = le := kIf_s (fun z9 => absurd (z9.symm.trans (show cRepair n br tu bt t x = 2 from by unfold cRepair; rw [if_pos ⟨c_7, c_15⟩, if_neg c_103])) (by decide))
          have hP : va_P D vwCl (wM b cI cZ pl br md tn (nI n) sp we tw sl pr al mo (nI h) cr (kIf (cRepair n br tu bt t x) (upd tu (cl bt) t) tu) (kIf (cRepair n br tu bt t x) (upd le (cl bt) x) le) to ia 2) H := by rw [e9]; exact hP
          have hD : va_D A (wM b cI cZ pl br md tn (nI n) sp we tw sl pr al mo (nI h) cr (kIf (cRepair n br tu bt t x) (upd tu (cl bt) t) tu) (kIf (cRepair n br tu bt t x) (upd le (cl bt) x) le) to ia 2) := by rw [e9]; exact hD
          clear e9
          have e9 : (nI (cRepair n br tu bt t x)) = 2 := by rw [show cRepair n br tu bt t x = 2 from by unfold cRepair; rw [if_pos ⟨c_7, c_15⟩, if_neg c_103]]; rfl
          have hP : va_P D vwCl (wM b cI cZ pl br md tn (nI n) sp we tw sl pr al mo (nI h) cr (kIf (cRepair n br tu bt t x) (upd tu (cl bt) t) tu) (kIf (cRepair n br tu bt t x) (upd le (cl bt) x) le) to ia (nI (cRepair n br tu bt t x))) H := by rw [e9]; exact hP
          have hD : va_D A (wM b cI cZ pl br md tn (nI n) sp we tw sl pr al mo (nI h) cr (kIf (cRepair n br tu bt t x) (upd tu (cl bt) t) tu) (kIf (cRepair n br tu bt t x) (upd le (cl bt) x) le) to ia (nI (cRepair n br tu bt t x))) := by rw [e9]; exact hD
          clear e9
          exact k_endV (sz := 0) hx hb hr hlocks hP hD hS dX5_repair_140
      · have h36 : tu (cl bt) = -1 := Classical.byContradiction (fun q => c_36 (by rw [(htu _ (by omega) q).1]; exact nI_pos' (by have := (htu _ (show cl bt < 3 by omega) q).2; omega)))
        refine lv_aload_n hx hb dX5_repair_39 rfl (lv_at hl 1 rfl) ?_
        refine va_get (D := D) (ci := 5) (v := .ref (b 2)) (C := RX5) (T := TX5) (N := 19) hx hb hts (by decide +kernel) hown hK.1 hP 0 rfl rfl 1 (by decide) (hts (.fieldLink RX5 13 "TurbineorchardModel" "broken" "[I") (by decide +kernel)) (fun _ h9 => h9) rfl dX5_repair_40 ?_
        refine lv_iload_n hx hb dX5_repair_43 rfl (lv_at hl 3 rfl) ?_
        refine k_rw (y := nI (cl t)) (ht9.1) ?_
        refine k_iald hx hb hK.1 hP 2 0 rfl rfl (cl t) (rfl) (by omega) (by decide) dX5_repair_44 ?_
        refine lv_if_eq (tgt := 78) hx hb dX5_repair_45 (by decide) (fun c_45 => ?_) (fun c_45 => ?_)
        · refine lv_iconst (v := 1) hx hb dX5_repair_78 (by decide) ?_
          refine lv_goto (tgt := 83) hx hb dX5_repair_79 (by decide) ?_
          refine lv_istore (lv' := [(5, .int 1), (4, .int 1), (0, .ref (b 0)), (1, .int (nI (cl bt))), (2, .int t), (3, .int x)]) hx hb dX5_repair_83 hl (by decide) rfl (fun ls hl => ?_)
          refine lv_aload_n hx hb dX5_repair_85 rfl (lv_at hl 2 rfl) ?_
          refine lv_iload hx hb dX5_repair_86 (lv_at hl 1 rfl) ?_
          refine lv_if_ne (tgt := 95) hx hb dX5_repair_88 (by decide) (fun c_88 => ?_) (fun c_88 => by first | exact absurd c_88 (by decide) | exact absurd (by decide) c_88)
          refine lv_aload_n hx hb dX5_repair_95 rfl (lv_at hl 2 rfl) ?_
          refine lv_iload_n hx hb dX5_repair_96 rfl (lv_at hl 5 rfl) ?_
          refine lv_iconst (v := 1) hx hb dX5_repair_97 (by decide) ?_
          refine lv_bipush (v := 40) hx hb dX5_repair_98 (by decide) ?_
          refine k_pv (As := [.int x, .int 1, .int 40]) (rest := [.ref (b 0)]) (nL := 6) ⟨hx, hb, hml, hown, hts⟩ (c_X5_in l _ x 1 40) (cwV 3 hts gX5_repair_X5_in rfl rfl rfl (by decide +kernel) ⟨Nat.le_of_ble_eq_true rfl, Nat.le_of_ble_eq_true rfl⟩) (va_recv hK.1 hP (ci := 5) (q0 := 0) rfl rfl) rfl hl.1 rfl (Nat.le_of_ble_eq_true rfl) dX5_repair_100 ⟨Nat.zero_le _, Nat.zero_le _⟩ (fun r9 hr9 => ?_)
          subst hr9
          refine lv_if_ne (tgt := 110) hx hb dX5_repair_103 (by decide) (fun c_103 => ?_) (fun c_103 => ?_)
          · have c_103 := bI_n c_103
            refine lv_iload hx hb dX5_repair_110 (lv_at hl 0 rfl) ?_
            refine lv_if_eq (tgt := 119) hx hb dX5_repair_112 (by decide) (fun c_112 => by first | exact absurd c_112 (by decide) | exact absurd (by decide) c_112) (fun c_112 => ?_)
            refine lv_iconst (v := 3) hx hb dX5_repair_115 (by decide) ?_
            refine lv_goto (tgt := 120) hx hb dX5_repair_116 (by decide) ?_
            refine k_ui (WR := []) (WN := (wM b cI cZ pl br md tn (nI n) sp we tw sl pr al mo (nI h) cr tu le to ia 3)) (As := [.int 3]) (rest := []) (nL := 6) ⟨hx, hb, hml, hown, hts⟩ hK hP hD hS hA (c_X5_fails l D b cI cZ _ pl br md tn (nI n) sp we tw sl pr al mo (nI h) cr tu le to ia th 3) [0, 1, 2, 3, 4, 5, 6, 7, 8, 9, 10, 11, 12, 13, 14, 15, 16] [] [0, 1, 2, 3, 4, 5, 6, 7, 8, 9, 10, 11, 12, 13, 14, 15, 16] rfl rfl (by decide) rfl (by decide) (by decide) rfl rfl (by decide) 0 rfl rfl rfl (cwV 1 hts gX5_repair_X5_fails rfl rfl rfl (by decide +kernel) ⟨Nat.le_of_ble_eq_true rfl, Nat.le_of_ble_eq_true rfl⟩) rfl hl.1 rfl (Nat.le_of_ble_eq_true rfl) dX5_repair_120 ⟨Nat.zero_le _, Nat.zero_le _⟩ (fun r9 H locs hr9 hP hD hS => ?_)
            subst hr9
            refine lv_if_ne (tgt := 140) hx hb dX5_repair_123 (by decide) (fun c_123 => ?_) (fun c_123 => by first | exact absurd c_123 (by decide) | exact absurd (by decide) c_123)
            have e9 : (kIf (cRepair n br tu bt t x) (upd tu (cl bt) t) tu) = tu := kIf_s (fun z9 => absurd (z9.symm.trans (show cRepair n br tu bt t x = 3 from by unfold cRepair; rw [if_pos ⟨c_7, c_15⟩, if_pos c_103, if_neg (fun q => q.2.1 c_45)])) (by decide))
            have hP : va_P D vwCl (wM b cI cZ pl br md tn (nI n) sp we tw sl pr al mo (nI h) cr (kIf (cRepair n br tu bt t x) (upd tu (cl bt) t) tu) le to ia 3) H := by rw [e9]; exact hP
            have hD : va_D A (wM b cI cZ pl br md tn (nI n) sp we tw sl pr al mo (nI h) cr (kIf (cRepair n br tu bt t x) (upd tu (cl bt) t) tu) le to ia 3) := by rw [e9]; exact hD
            clear e9
            have e9 : (kIf (cRepair n br tu bt t x) (upd le (cl bt) x) le) = le := kIf_s (fun z9 => absurd (z9.symm.trans (show cRepair n br tu bt t x = 3 from by unfold cRepair; rw [if_pos ⟨c_7, c_15⟩, if_pos c_103, if_neg (fun q => q.2.1 c_45)])) (by decide))
            have hP : va_P D vwCl (wM b cI cZ pl br md tn (nI n) sp we tw sl pr al mo (nI h) cr (kIf (cRepair n br tu bt t x) (upd tu (cl bt) t) tu) (kIf (cRepair n br tu bt t x) (upd le (cl bt) x) le) to ia 3) H := by rw [e9]; exact hP
            have hD : va_D A (wM b cI cZ pl br md tn (nI n) sp we tw sl pr al mo (nI h) cr (kIf (cRepair n br tu bt t x) (upd tu (cl bt) t) tu) (kIf (cRepair n br tu bt t x) (upd le (cl bt) x) le) to ia 3) := by rw [e9]; exact hD
            clear e9
            have e9 : (nI (cRepair n br tu bt t x)) = 3 := by rw [show cRepair n br tu bt t x = 3 from by unfold cRepair; rw [if_pos ⟨c_7, c_15⟩, if_pos c_103, if_neg (fun q => q.2.1 c_45)]]; rfl
            have hP : va_P D vwCl (wM b cI cZ pl br md tn (nI n) sp we tw sl pr al mo (nI h) cr (kIf (cRepair n br tu bt t x) (upd tu (cl bt) t) tu) (kIf (cRepair n br tu bt t x) (upd le (cl bt) x) le) to ia (nI (cRepair n br tu bt t x))) H := by rw [e9]; exact hP
            have hD : va_D A (wM b cI cZ pl br md tn (nI n) sp we tw sl pr al mo (nI h) cr (kIf (cRepair n br tu bt t x) (upd tu (cl bt) t) tu) (kIf (cRepair n br tu bt t x) (upd le (cl bt) x) le) to ia (nI (cRepair n br tu bt t x))) := by rw [e9]; exact hD
            clear e9
            exact k_endV (sz := 0) hx hb hr hlocks hP hD hS dX5_repair_140
          · have c_103 := bI_0 c_103
            refine lv_iconst (v := 2) hx hb dX5_repair_106 (by decide) ?_
            refine lv_goto (tgt := 120) hx hb dX5_repair_107 (by decide) ?_
            refine k_ui (WR := []) (WN := (wM b cI cZ pl br md tn (nI n) sp we tw sl pr al mo (nI h) cr tu le to ia 2)) (As := [.int 2]) (rest := []) (nL := 6) ⟨hx, hb, hml, hown, hts⟩ hK hP hD hS hA (c_X5_fails l D b cI cZ _ pl br md tn (nI n) sp we tw sl pr al mo (nI h) cr tu le to ia th 2) [0, 1, 2, 3, 4, 5, 6, 7, 8, 9, 10, 11, 12, 13, 14, 15, 16] [] [0, 1, 2, 3, 4, 5, 6, 7, 8, 9, 10, 11, 12, 13, 14, 15, 16] rfl rfl (by decide) rfl (by decide) (by decide) rfl rfl (by decide) 0 rfl rfl rfl (cwV 1 hts gX5_repair_X5_fails rfl rfl rfl (by decide +kernel) ⟨Nat.le_of_ble_eq_true rfl, Nat.le_of_ble_eq_true rfl⟩) rfl hl.1 rfl (Nat.le_of_ble_eq_true rfl) dX5_repair_120 ⟨Nat.zero_le _, Nat.zero_le _⟩ (fun r9 H locs hr9 hP hD hS => ?_)
            subst hr9
            refine lv_if_ne (tgt := 140) hx hb dX5_repair_123 (by decide) (fun c_123 => ?_) (fun c_123 => by first | exact absurd c_123 (by decide) | exact absurd (by decide) c_123)
            have e9 : (kIf (cRepair n br tu bt t x) (upd tu (cl bt) t) tu) = tu := kIf_s (fun z9 => absurd (z9.symm.trans (show cRepair n br tu bt t x = 2 from by unfold cRepair; rw [if_pos ⟨c_7, c_15⟩, if_neg c_103])) (by decide))
            have hP : va_P D vwCl (wM b cI cZ pl br md tn (nI n) sp we tw sl pr al mo (nI h) cr (kIf (cRepair n br tu bt t x) (upd tu (cl bt) t) tu) le to ia 2) H := by rw [e9]; exact hP
            have hD : va_D A (wM b cI cZ pl br md tn (nI n) sp we tw sl pr al mo (nI h) cr (kIf (cRepair n br tu bt t x) (upd tu (cl bt) t) tu) le to ia 2) := by rw [e9]; exact hD
            clear e9
            have e9 : (kIf (cRepair n br tu bt t x) (upd le (cl bt) x) le) = le := kIf_s (fun z9 => absurd (z9.symm.trans (show cRepair n br tu bt t x = 2 from by unfold cRepair; rw [if_pos ⟨c_7, c_15⟩, if_neg c_103])) (by decide))
            have hP : va_P D vwCl (wM b cI cZ pl br md tn (nI n) sp we tw sl pr al mo (nI h) cr (kIf (cRepair n br tu bt t x) (upd tu (cl bt) t) tu) (kIf (cRepair n br tu bt t x) (upd le (cl bt) x) le) to ia 2) H := by rw [e9]; exact hP
            have hD : va_D A (wM b cI cZ pl br md tn (nI n) sp we tw sl pr al mo (nI h) cr (kIf (cRepair n br tu bt t x) (upd tu (cl bt) t) tu) (kIf (cRepair n br tu bt t x) (upd le (cl bt) x) le) to ia 2) := by rw [e9]; exact hD
            clear e9
            have e9 : (nI (cRepair n br tu bt t x)) = 2 := by rw [show cRepair n br tu bt t x = 2 from by unfold cRepair; rw [if_pos ⟨c_7, c_15⟩, if_neg c_103]]; rfl
            have hP : va_P D vwCl (wM b cI cZ pl br md tn (nI n) sp we tw sl pr al mo (nI h) cr (kIf (cRepair n br tu bt t x) (upd tu (cl bt) t) tu) (kIf (cRepair n br tu bt t x) (upd le (cl bt) x) le) to ia (nI (cRepair n br tu bt t x))) H := by rw [e9]; exact hP
            have hD : va_D A (wM b cI cZ pl br md tn (nI n) sp we tw sl pr al mo (nI h) cr (kIf (cRepair n br tu bt t x) (upd tu (cl bt) t) tu) (kIf (cRepair n br tu bt t x) (upd le (cl bt) x) le) to ia (nI (cRepair n br tu bt t x))) := by rw [e9]; exact hD
            clear e9
            exact k_endV (sz := 0) hx hb hr hlocks hP hD hS dX5_repair_140
        · refine lv_aload_n hx hb dX5_repair_48 rfl (lv_at hl 1 rfl) ?_
          refine va_get (D := D) (ci := 5) (v := .ref (b 13)) (C := RX5) (T := TX5) (N := 19) hx hb hts (by decide +kernel) hown hK.1 hP 0 rfl rfl 14 (by decide) (hts (.fieldLink RX5 46 "TurbineorchardModel" "at" "[I") (by decide +kernel)) (fun _ h9 => h9) rfl dX5_repair_49 ?_
          refine lv_iconst (v := 0) hx hb dX5_repair_52 (by decide) ?_
          refine k_iald hx hb hK.1 hP 13 0 rfl rfl 0 (rfl) (by omega) (by decide) dX5_repair_53 ?_
          refine lv_iload_n hx hb dX5_repair_54 rfl (lv_at hl 3 rfl) ?_
          refine lv_icmp_eq (tgt := 78) hx hb dX5_repair_55 (by decide) (fun c_55 => ?_) (fun c_55 => ?_)
          · refine lv_iconst (v := 1) hx hb dX5_repair_78 (by decide) ?_
            refine lv_goto (tgt := 83) hx hb dX5_repair_79 (by decide) ?_
            refine lv_istore (lv' := [(5, .int 1), (4, .int 1), (0, .ref (b 0)), (1, .int (nI (cl bt))), (2, .int t), (3, .int x)]) hx hb dX5_repair_83 hl (by decide) rfl (fun ls hl => ?_)
            refine lv_aload_n hx hb dX5_repair_85 rfl (lv_at hl 2 rfl) ?_
            refine lv_iload hx hb dX5_repair_86 (lv_at hl 1 rfl) ?_
            refine lv_if_ne (tgt := 95) hx hb dX5_repair_88 (by decide) (fun c_88 => ?_) (fun c_88 => by first | exact absurd c_88 (by decide) | exact absurd (by decide) c_88)
            refine lv_aload_n hx hb dX5_repair_95 rfl (lv_at hl 2 rfl) ?_
            refine lv_iload_n hx hb dX5_repair_96 rfl (lv_at hl 5 rfl) ?_
            refine lv_iconst (v := 1) hx hb dX5_repair_97 (by decide) ?_
            refine lv_bipush (v := 40) hx hb dX5_repair_98 (by decide) ?_
            refine k_pv (As := [.int x, .int 1, .int 40]) (rest := [.ref (b 0)]) (nL := 6) ⟨hx, hb, hml, hown, hts⟩ (c_X5_in l _ x 1 40) (cwV 3 hts gX5_repair_X5_in rfl rfl rfl (by decide +kernel) ⟨Nat.le_of_ble_eq_true rfl, Nat.le_of_ble_eq_true rfl⟩) (va_recv hK.1 hP (ci := 5) (q0 := 0) rfl rfl) rfl hl.1 rfl (Nat.le_of_ble_eq_true rfl) dX5_repair_100 ⟨Nat.zero_le _, Nat.zero_le _⟩ (fun r9 hr9 => ?_)
            subst hr9
            refine lv_if_ne (tgt := 110) hx hb dX5_repair_103 (by decide) (fun c_103 => ?_) (fun c_103 => ?_)
            · have c_103 := bI_n c_103
              refine lv_iload hx hb dX5_repair_110 (lv_at hl 0 rfl) ?_
              refine lv_if_eq (tgt := 119) hx hb dX5_repair_112 (by decide) (fun c_112 => by first | exact absurd c_112 (by decide) | exact absurd (by decide) c_112) (fun c_112 => ?_)
              refine lv_iconst (v := 3) hx hb dX5_repair_115 (by decide) ?_
              refine lv_goto (tgt := 120) hx hb dX5_repair_116 (by decide) ?_
              refine k_ui (WR := []) (WN := (wM b cI cZ pl br md tn (nI n) sp we tw sl pr al mo (nI h) cr tu le to ia 3)) (As := [.int 3]) (rest := []) (nL := 6) ⟨hx, hb, hml, hown, hts⟩ hK hP hD hS hA (c_X5_fails l D b cI cZ _ pl br md tn (nI n) sp we tw sl pr al mo (nI h) cr tu le to ia th 3) [0, 1, 2, 3, 4, 5, 6, 7, 8, 9, 10, 11, 12, 13, 14, 15, 16] [] [0, 1, 2, 3, 4, 5, 6, 7, 8, 9, 10, 11, 12, 13, 14, 15, 16] rfl rfl (by decide) rfl (by decide) (by decide) rfl rfl (by decide) 0 rfl rfl rfl (cwV 1 hts gX5_repair_X5_fails rfl rfl rfl (by decide +kernel) ⟨Nat.le_of_ble_eq_true rfl, Nat.le_of_ble_eq_true rfl⟩) rfl hl.1 rfl (Nat.le_of_ble_eq_true rfl) dX5_repair_120 ⟨Nat.zero_le _, Nat.zero_le _⟩ (fun r9 H locs hr9 hP hD hS => ?_)
              subst hr9
              refine lv_if_ne (tgt := 140) hx hb dX5_repair_123 (by decide) (fun c_123 => ?_) (fun c_123 => by first | exact absurd c_123 (by decide) | exact absurd (by decide) c_123)
              have e9 : (kIf (cRepair n br tu bt t x) (upd tu (cl bt) t) tu) = tu := kIf_s (fun z9 => absurd (z9.symm.trans (show cRepair n br tu bt t x = 3 from by unfold cRepair; rw [if_pos ⟨c_7, c_15⟩, if_pos c_103, if_neg (fun q => q.2.2 (Or.inl c_55))])) (by decide))
              have hP : va_P D vwCl (wM b cI cZ pl br md tn (nI n) sp we tw sl pr al mo (nI h) cr (kIf (cRepair n br tu bt t x) (upd tu (cl bt) t) tu) le to ia 3) H := by rw [e9]; exact hP
              have hD : va_D A (wM b cI cZ pl br md tn (nI n) sp we tw sl pr al mo (nI h) cr (kIf (cRepair n br tu bt t x) (upd tu (cl bt) t) tu) le to ia 3) := by rw [e9]; exact hD
              clear e9
              have e9 : (kIf (cRepair n br tu bt t x) (upd le (cl bt) x) le) = le := kIf_s (fun z9 => absurd (z9.symm.trans (show cRepair n br tu bt t x = 3 from by unfold cRepair; rw [if_pos ⟨c_7, c_15⟩, if_pos c_103, if_neg (fun q => q.2.2 (Or.inl c_55))])) (by decide))
              have hP : va_P D vwCl (wM b cI cZ pl br md tn (nI n) sp we tw sl pr al mo (nI h) cr (kIf (cRepair n br tu bt t x) (upd tu (cl bt) t) tu) (kIf (cRepair n br tu bt t x) (upd le (cl bt) x) le) to ia 3) H := by rw [e9]; exact hP
              have hD : va_D A (wM b cI cZ pl br md tn (nI n) sp we tw sl pr al mo (nI h) cr (kIf (cRepair n br tu bt t x) (upd tu (cl bt) t) tu) (kIf (cRepair n br tu bt t x) (upd le (cl bt) x) le) to ia 3) := by rw [e9]; exact hD
              clear e9
              have e9 : (nI (cRepair n br tu bt t x)) = 3 := by rw [show cRepair n br tu bt t x = 3 from by unfold cRepair; rw [if_pos ⟨c_7, c_15⟩, if_pos c_103, if_neg (fun q => q.2.2 (Or.inl c_55))]]; rfl
              have hP : va_P D vwCl (wM b cI cZ pl br md tn (nI n) sp we tw sl pr al mo (nI h) cr (kIf (cRepair n br tu bt t x) (upd tu (cl bt) t) tu) (kIf (cRepair n br tu bt t x) (upd le (cl bt) x) le) to ia (nI (cRepair n br tu bt t x))) H := by rw [e9]; exact hP
              have hD : va_D A (wM b cI cZ pl br md tn (nI n) sp we tw sl pr al mo (nI h) cr (kIf (cRepair n br tu bt t x) (upd tu (cl bt) t) tu) (kIf (cRepair n br tu bt t x) (upd le (cl bt) x) le) to ia (nI (cRepair n br tu bt t x))) := by rw [e9]; exact hD
              clear e9
              exact k_endV (sz := 0) hx hb hr hlocks hP hD hS dX5_repair_140
            · have c_103 := bI_0 c_103
              refine lv_iconst (v := 2) hx hb dX5_repair_106 (by decide) ?_
              refine lv_goto (tgt := 120) hx hb dX5_repair_107 (by decide) ?_
              refine k_ui (WR := []) (WN := (wM b cI cZ pl br md tn (nI n) sp we tw sl pr al mo (nI h) cr tu le to ia 2)) (As := [.int 2]) (rest := []) (nL := 6) ⟨hx, hb, hml, hown, hts⟩ hK hP hD hS hA (c_X5_fails l D b cI cZ _ pl br md tn (nI n) sp we tw sl pr al mo (nI h) cr tu le to ia th 2) [0, 1, 2, 3, 4, 5, 6, 7, 8, 9, 10, 11, 12, 13, 14, 15, 16] [] [0, 1, 2, 3, 4, 5, 6, 7, 8, 9, 10, 11, 12, 13, 14, 15, 16] rfl rfl (by decide) rfl (by decide) (by decide) rfl rfl (by decide) 0 rfl rfl rfl (cwV 1 hts gX5_repair_X5_fails rfl rfl rfl (by decide +kernel) ⟨Nat.le_of_ble_eq_true rfl, Nat.le_of_ble_eq_true rfl⟩) rfl hl.1 rfl (Nat.le_of_ble_eq_true rfl) dX5_repair_120 ⟨Nat.zero_le _, Nat.zero_le _⟩ (fun r9 H locs hr9 hP hD hS => ?_)
              subst hr9
              refine lv_if_ne (tgt := 140) hx hb dX5_repair_123 (by decide) (fun c_123 => ?_) (fun c_123 => by first | exact absurd c_123 (by decide) | exact absurd (by decide) c_123)
              have e9 : (kIf (cRepair n br tu bt t x) (upd tu (cl bt) t) tu) = tu := kIf_s (fun z9 => absurd (z9.symm.trans (show cRepair n br tu bt t x = 2 from by unfold cRepair; rw [if_pos ⟨c_7, c_15⟩, if_neg c_103])) (by decide))
              have hP : va_P D vwCl (wM b cI cZ pl br md tn (nI n) sp we tw sl pr al mo (nI h) cr (kIf (cRepair n br tu bt t x) (upd tu (cl bt) t) tu) le to ia 2) H := by rw [e9]; exact hP
              have hD : va_D A (wM b cI cZ pl br md tn (nI n) sp we tw sl pr al mo (nI h) cr (kIf (cRepair n br tu bt t x) (upd tu (cl bt) t) tu) le to ia 2) := by rw [e9]; exact hD
              clear e9
              have e9 : (kIf (cRepair n br tu bt t x) (upd le (cl bt) x) le) = le := kIf_s (fun z9 => absurd (z9.symm.trans (show cRepair n br tu bt t x = 2 from by unfold cRepair; rw [if_pos ⟨c_7, c_15⟩, if_neg c_103])) (by decide))
              have hP : va_P D vwCl (wM b cI cZ pl br md tn (nI n) sp we tw sl pr al mo (nI h) cr (kIf (cRepair n br tu bt t x) (upd tu (cl bt) t) tu) (kIf (cRepair n br tu bt t x) (upd le (cl bt) x) le) to ia 2) H := by rw [e9]; exact hP
              have hD : va_D A (wM b cI cZ pl br md tn (nI n) sp we tw sl pr al mo (nI h) cr (kIf (cRepair n br tu bt t x) (upd tu (cl bt) t) tu) (kIf (cRepair n br tu bt t x) (upd le (cl bt) x) le) to ia 2) := by rw [e9]; exact hD
              clear e9
              have e9 : (nI (cRepair n br tu bt t x)) = 2 := by rw [show cRepair n br tu bt t x = 2 from by unfold cRepair; rw [if_pos ⟨c_7, c_15⟩, if_neg c_103]]; rfl
              have hP : va_P D vwCl (wM b cI cZ pl br md tn (nI n) sp we tw sl pr al mo (nI h) cr (kIf (cRepair n br tu bt t x) (upd tu (cl bt) t) tu) (kIf (cRepair n br tu bt t x) (upd le (cl bt) x) le) to ia (nI (cRepair n br tu bt t x))) H := by rw [e9]; exact hP
              have hD : va_D A (wM b cI cZ pl br md tn (nI n) sp we tw sl pr al mo (nI h) cr (kIf (cRepair n br tu bt t x) (upd tu (cl bt) t) tu) (kIf (cRepair n br tu bt t x) (upd le (cl bt) x) le) to ia (nI (cRepair n br tu bt t x))) := by rw [e9]; exact hD
              clear e9
              exact k_endV (sz := 0) hx hb hr hlocks hP hD hS dX5_repair_140
          · refine lv_aload_n hx hb dX5_repair_58 rfl (lv_at hl 1 rfl) ?_
            refine va_get (D := D) (ci := 5) (v := .ref (b 13)) (C := RX5) (T := TX5) (N := 19) hx hb hts (by decide +kernel) hown hK.1 hP 0 rfl rfl 14 (by decide) (hts (.fieldLink RX5 46 "TurbineorchardModel" "at" "[I") (by decide +kernel)) (fun _ h9 => h9) rfl dX5_repair_59 ?_
            refine lv_iconst (v := 1) hx hb dX5_repair_62 (by decide) ?_
            refine k_iald hx hb hK.1 hP 13 0 rfl rfl 1 (rfl) (by omega) (by decide) dX5_repair_63 ?_
            refine lv_iload_n hx hb dX5_repair_64 rfl (lv_at hl 3 rfl) ?_
            refine lv_icmp_eq (tgt := 78) hx hb dX5_repair_65 (by decide) (fun c_65 => ?_) (fun c_65 => ?_)
            · refine lv_iconst (v := 1) hx hb dX5_repair_78 (by decide) ?_
              refine lv_goto (tgt := 83) hx hb dX5_repair_79 (by decide) ?_
              refine lv_istore (lv' := [(5, .int 1), (4, .int 1), (0, .ref (b 0)), (1, .int (nI (cl bt))), (2, .int t), (3, .int x)]) hx hb dX5_repair_83 hl (by decide) rfl (fun ls hl => ?_)
              refine lv_aload_n hx hb dX5_repair_85 rfl (lv_at hl 2 rfl) ?_
              refine lv_iload hx hb dX5_repair_86 (lv_at hl 1 rfl) ?_
              refine lv_if_ne (tgt := 95) hx hb dX5_repair_88 (by decide) (fun c_88 => ?_) (fun c_88 => by first | exact absurd c_88 (by decide) | exact absurd (by decide) c_88)
              refine lv_aload_n hx hb dX5_repair_95 rfl (lv_at hl 2 rfl) ?_
              refine lv_iload_n hx hb dX5_repair_96 rfl (lv_at hl 5 rfl) ?_
              refine lv_iconst (v := 1) hx hb dX5_repair_97 (by decide) ?_
              refine lv_bipush (v := 40) hx hb dX5_repair_98 (by decide) ?_
              refine k_pv (As := [.int x, .int 1, .int 40]) (rest := [.ref (b 0)]) (nL := 6) ⟨hx, hb, hml, hown, hts⟩ (c_X5_in l _ x 1 40) (cwV 3 hts gX5_repair_X5_in rfl rfl rfl (by decide +kernel) ⟨Nat.le_of_ble_eq_true rfl, Nat.le_of_ble_eq_true rfl⟩) (va_recv hK.1 hP (ci := 5) (q0 := 0) rfl rfl) rfl hl.1 rfl (Nat.le_of_ble_eq_true rfl) dX5_repair_100 ⟨Nat.zero_le _, Nat.zero_le _⟩ (fun r9 hr9 => ?_)
              subst hr9
              refine lv_if_ne (tgt := 110) hx hb dX5_repair_103 (by decide) (fun c_103 => ?_) (fun c_103 => ?_)
              · have c_103 := bI_n c_103
                refine lv_iload hx hb dX5_repair_110 (lv_at hl 0 rfl) ?_
                refine lv_if_eq (tgt := 119) hx hb dX5_repair_112 (by decide) (fun c_112 => by first | exact absurd c_112 (by decide) | exact absurd (by decide) c_112) (fun c_112 => ?_)
                refine lv_iconst (v := 3) hx hb dX5_repair_115 (by decide) ?_
                refine lv_goto (tgt := 120) hx hb dX5_repair_116 (by decide) ?_
                refine k_ui (WR := []) (WN := (wM b cI cZ pl br md tn (nI n) sp we tw sl pr al mo (nI h) cr tu le to ia 3)) (As := [.int 3]) (rest := []) (nL := 6) ⟨hx, hb, hml, hown, hts⟩ hK hP hD hS hA (c_X5_fails l D b cI cZ _ pl br md tn (nI n) sp we tw sl pr al mo (nI h) cr tu le to ia th 3) [0, 1, 2, 3, 4, 5, 6, 7, 8, 9, 10, 11, 12, 13, 14, 15, 16] [] [0, 1, 2, 3, 4, 5, 6, 7, 8, 9, 10, 11, 12, 13, 14, 15, 16] rfl rfl (by decide) rfl (by decide) (by decide) rfl rfl (by decide) 0 rfl rfl rfl (cwV 1 hts gX5_repair_X5_fails rfl rfl rfl (by decide +kernel) ⟨Nat.le_of_ble_eq_true rfl, Nat.le_of_ble_eq_true rfl⟩) rfl hl.1 rfl (Nat.le_of_ble_eq_true rfl) dX5_repair_120 ⟨Nat.zero_le _, Nat.zero_le _⟩ (fun r9 H locs hr9 hP hD hS => ?_)
                subst hr9
                refine lv_if_ne (tgt := 140) hx hb dX5_repair_123 (by decide) (fun c_123 => ?_) (fun c_123 => by first | exact absurd c_123 (by decide) | exact absurd (by decide) c_123)
                have e9 : (kIf (cRepair n br tu bt t x) (upd tu (cl bt) t) tu) = tu := kIf_s (fun z9 => absurd (z9.symm.trans (show cRepair n br tu bt t x = 3 from by unfold cRepair; rw [if_pos ⟨c_7, c_15⟩, if_pos c_103, if_neg (fun q => q.2.2 (Or.inr (Or.inl c_65)))])) (by decide))
                have hP : va_P D vwCl (wM b cI cZ pl br md tn (nI n) sp we tw sl pr al mo (nI h) cr (kIf (cRepair n br tu bt t x) (upd tu (cl bt) t) tu) le to ia 3) H := by rw [e9]; exact hP
                have hD : va_D A (wM b cI cZ pl br md tn (nI n) sp we tw sl pr al mo (nI h) cr (kIf (cRepair n br tu bt t x) (upd tu (cl bt) t) tu) le to ia 3) := by rw [e9]; exact hD
                clear e9
                have e9 : (kIf (cRepair n br tu bt t x) (upd le (cl bt) x) le) = le := kIf_s (fun z9 => absurd (z9.symm.trans (show cRepair n br tu bt t x = 3 from by unfold cRepair; rw [if_pos ⟨c_7, c_15⟩, if_pos c_103, if_neg (fun q => q.2.2 (Or.inr (Or.inl c_65)))])) (by decide))
                have hP : va_P D vwCl (wM b cI cZ pl br md tn (nI n) sp we tw sl pr al mo (nI h) cr (kIf (cRepair n br tu bt t x) (upd tu (cl bt) t) tu) (kIf (cRepair n br tu bt t x) (upd le (cl bt) x) le) to ia 3) H := by rw [e9]; exact hP
                have hD : va_D A (wM b cI cZ pl br md tn (nI n) sp we tw sl pr al mo (nI h) cr (kIf (cRepair n br tu bt t x) (upd tu (cl bt) t) tu) (kIf (cRepair n br tu bt t x) (upd le (cl bt) x) le) to ia 3) := by rw [e9]; exact hD
                clear e9
                have e9 : (nI (cRepair n br tu bt t x)) = 3 := by rw [show cRepair n br tu bt t x = 3 from by unfold cRepair; rw [if_pos ⟨c_7, c_15⟩, if_pos c_103, if_neg (fun q => q.2.2 (Or.inr (Or.inl c_65)))]]; rfl
                have hP : va_P D vwCl (wM b cI cZ pl br md tn (nI n) sp we tw sl pr al mo (nI h) cr (kIf (cRepair n br tu bt t x) (upd tu (cl bt) t) tu) (kIf (cRepair n br tu bt t x) (upd le (cl bt) x) le) to ia (nI (cRepair n br tu bt t x))) H := by rw [e9]; exact hP
                have hD : va_D A (wM b cI cZ pl br md tn (nI n) sp we tw sl pr al mo (nI h) cr (kIf (cRepair n br tu bt t x) (upd tu (cl bt) t) tu) (kIf (cRepair n br tu bt t x) (upd le (cl bt) x) le) to ia (nI (cRepair n br tu bt t x))) := by rw [e9]; exact hD
                clear e9
                exact k_endV (sz := 0) hx hb hr hlocks hP hD hS dX5_repair_140
              · have c_103 := bI_0 c_103
                refine lv_iconst (v := 2) hx hb dX5_repair_106 (by decide) ?_
                refine lv_goto (tgt := 120) hx hb dX5_repair_107 (by decide) ?_
                refine k_ui (WR := []) (WN := (wM b cI cZ pl br md tn (nI n) sp we tw sl pr al mo (nI h) cr tu le to ia 2)) (As := [.int 2]) (rest := []) (nL := 6) ⟨hx, hb, hml, hown, hts⟩ hK hP hD hS hA (c_X5_fails l D b cI cZ _ pl br md tn (nI n) sp we tw sl pr al mo (nI h) cr tu le to ia th 2) [0, 1, 2, 3, 4, 5, 6, 7, 8, 9, 10, 11, 12, 13, 14, 15, 16] [] [0, 1, 2, 3, 4, 5, 6, 7, 8, 9, 10, 11, 12, 13, 14, 15, 16] rfl rfl (by decide) rfl (by decide) (by decide) rfl rfl (by decide) 0 rfl rfl rfl (cwV 1 hts gX5_repair_X5_fails rfl rfl rfl (by decide +kernel) ⟨Nat.le_of_ble_eq_true rfl, Nat.le_of_ble_eq_true rfl⟩) rfl hl.1 rfl (Nat.le_of_ble_eq_true rfl) dX5_repair_120 ⟨Nat.zero_le _, Nat.zero_le _⟩ (fun r9 H locs hr9 hP hD hS => ?_)
                subst hr9
                refine lv_if_ne (tgt := 140) hx hb dX5_repair_123 (by decide) (fun c_123 => ?_) (fun c_123 => by first | exact absurd c_123 (by decide) | exact absurd (by decide) c_123)
                have e9 : (kIf (cRepair n br tu bt t x) (upd tu (cl bt) t) tu) = tu := kIf_s (fun z9 => absurd (z9.symm.trans (show cRepair n br tu bt t x = 2 from by unfold cRepair; rw [if_pos ⟨c_7, c_15⟩, if_neg c_103])) (by decide))
                have hP : va_P D vwCl (wM b cI cZ pl br md tn (nI n) sp we tw sl pr al mo (nI h) cr (kIf (cRepair n br tu bt t x) (upd tu (cl bt) t) tu) le to ia 2) H := by rw [e9]; exact hP
                have hD : va_D A (wM b cI cZ pl br md tn (nI n) sp we tw sl pr al mo (nI h) cr (kIf (cRepair n br tu bt t x) (upd tu (cl bt) t) tu) le to ia 2) := by rw [e9]; exact hD
                clear e9
                have e9 : (kIf (cRepair n br tu bt t x) (upd le (cl bt) x) le) = le := kIf_s (fun z9 => absurd (z9.symm.trans (show cRepair n br tu bt t x = 2 from by unfold cRepair; rw [if_pos ⟨c_7, c_15⟩, if_neg c_103])) (by decide))
                have hP : va_P D vwCl (wM b cI cZ pl br md tn (nI n) sp we tw sl pr al mo (nI h) cr (kIf (cRepair n br tu bt t x) (upd tu (cl bt) t) tu) (kIf (cRepair n br tu bt t x) (upd le (cl bt) x) le) to ia 2) H := by rw [e9]; exact hP
                have hD : va_D A (wM b cI cZ pl br md tn (nI n) sp we tw sl pr al mo (nI h) cr (kIf (cRepair n br tu bt t x) (upd tu (cl bt) t) tu) (kIf (cRepair n br tu bt t x) (upd le (cl bt) x) le) to ia 2) := by rw [e9]; exact hD
                clear e9
                have e9 : (nI (cRepair n br tu bt t x)) = 2 := by rw [show cRepair n br tu bt t x = 2 from by unfold cRepair; rw [if_pos ⟨c_7, c_15⟩, if_neg c_103]]; rfl
                have hP : va_P D vwCl (wM b cI cZ pl br md tn (nI n) sp we tw sl pr al mo (nI h) cr (kIf (cRepair n br tu bt t x) (upd tu (cl bt) t) tu) (kIf (cRepair n br tu bt t x) (upd le (cl bt) x) le) to ia (nI (cRepair n br tu bt t x))) H := by rw [e9]; exact hP
                have hD : va_D A (wM b cI cZ pl br md tn (nI n) sp we tw sl pr al mo (nI h) cr (kIf (cRepair n br tu bt t x) (upd tu (cl bt) t) tu) (kIf (cRepair n br tu bt t x) (upd le (cl bt) x) le) to ia (nI (cRepair n br tu bt t x))) := by rw [e9]; exact hD
                clear e9
                exact k_endV (sz := 0) hx hb hr hlocks hP hD hS dX5_repair_140
            · refine lv_aload_n hx hb dX5_repair_68 rfl (lv_at hl 1 rfl) ?_
              refine va_get (D := D) (ci := 5) (v := .ref (b 13)) (C := RX5) (T := TX5) (N := 19) hx hb hts (by decide +kernel) hown hK.1 hP 0 rfl rfl 14 (by decide) (hts (.fieldLink RX5 46 "TurbineorchardModel" "at" "[I") (by decide +kernel)) (fun _ h9 => h9) rfl dX5_repair_69 ?_
              refine lv_iconst (v := 2) hx hb dX5_repair_72 (by decide) ?_
              refine k_iald hx hb hK.1 hP 13 0 rfl rfl 2 (rfl) (by omega) (by decide) dX5_repair_73 ?_
              refine lv_iload_n hx hb dX5_repair_74 rfl (lv_at hl 3 rfl) ?_
              refine lv_icmp_ne (tgt := 82) hx hb dX5_repair_75 (by decide) (fun c_75 => ?_) (fun c_75 => ?_)
              · refine lv_iconst (v := 0) hx hb dX5_repair_82 (by decide) ?_
                refine lv_istore (lv' := [(5, .int 0), (4, .int 1), (0, .ref (b 0)), (1, .int (nI (cl bt))), (2, .int t), (3, .int x)]) hx hb dX5_repair_83 hl (by decide) rfl (fun ls hl => ?_)
                refine lv_aload_n hx hb dX5_repair_85 rfl (lv_at hl 2 rfl) ?_
                refine lv_iload hx hb dX5_repair_86 (lv_at hl 1 rfl) ?_
                refine lv_if_ne (tgt := 95) hx hb dX5_repair_88 (by decide) (fun c_88 => ?_) (fun c_88 => by first | exact absurd c_88 (by decide) | exact absurd (by decide) c_88)
                refine lv_aload_n hx hb dX5_repair_95 rfl (lv_at hl 2 rfl) ?_
                refine lv_iload_n hx hb dX5_repair_96 rfl (lv_at hl 5 rfl) ?_
                refine lv_iconst (v := 1) hx hb dX5_repair_97 (by decide) ?_
                refine lv_bipush (v := 40) hx hb dX5_repair_98 (by decide) ?_
                refine k_pv (As := [.int x, .int 1, .int 40]) (rest := [.ref (b 0)]) (nL := 6) ⟨hx, hb, hml, hown, hts⟩ (c_X5_in l _ x 1 40) (cwV 3 hts gX5_repair_X5_in rfl rfl rfl (by decide +kernel) ⟨Nat.le_of_ble_eq_true rfl, Nat.le_of_ble_eq_true rfl⟩) (va_recv hK.1 hP (ci := 5) (q0 := 0) rfl rfl) rfl hl.1 rfl (Nat.le_of_ble_eq_true rfl) dX5_repair_100 ⟨Nat.zero_le _, Nat.zero_le _⟩ (fun r9 hr9 => ?_)
                subst hr9
                refine lv_if_ne (tgt := 110) hx hb dX5_repair_103 (by decide) (fun c_103 => ?_) (fun c_103 => ?_)
                · have c_103 := bI_n c_103
                  refine lv_iload hx hb dX5_repair_110 (lv_at hl 0 rfl) ?_
                  refine lv_if_eq (tgt := 119) hx hb dX5_repair_112 (by decide) (fun c_112 => ?_) (fun c_112 => by first | exact absurd c_112 (by decide) | exact absurd (by decide) c_112)
                  refine lv_iconst (v := 0) hx hb dX5_repair_119 (by decide) ?_
                  refine k_ui (WR := []) (WN := (wM b cI cZ pl br md tn (nI n) sp we tw sl pr al mo (nI h) cr tu le to ia 0)) (As := [.int 0]) (rest := []) (nL := 6) ⟨hx, hb, hml, hown, hts⟩ hK hP hD hS hA (c_X5_fails l D b cI cZ _ pl br md tn (nI n) sp we tw sl pr al mo (nI h) cr tu le to ia th 0) [0, 1, 2, 3, 4, 5, 6, 7, 8, 9, 10, 11, 12, 13, 14, 15, 16] [] [0, 1, 2, 3, 4, 5, 6, 7, 8, 9, 10, 11, 12, 13, 14, 15, 16] rfl rfl (by decide) rfl (by decide) (by decide) rfl rfl (by decide) 0 rfl rfl rfl (cwV 1 hts gX5_repair_X5_fails rfl rfl rfl (by decide +kernel) ⟨Nat.le_of_ble_eq_true rfl, Nat.le_of_ble_eq_true rfl⟩) rfl hl.1 rfl (Nat.le_of_ble_eq_true rfl) dX5_repair_120 ⟨Nat.zero_le _, Nat.zero_le _⟩ (fun r9 H locs hr9 hP hD hS => ?_)
                  subst hr9
                  refine lv_if_ne (tgt := 140) hx hb dX5_repair_123 (by decide) (fun c_123 => by first | exact absurd c_123 (by decide) | exact absurd (by decide) c_123) (fun c_123 => ?_)
                  refine lv_aload_n hx hb dX5_repair_126 rfl (lv_at hl 2 rfl) ?_
                  refine va_get (D := D) (ci := 5) (v := .ref (b 13)) (C := RX5) (T := TX5) (N := 19) hx hb hts (by decide +kernel) hown hK.1 hP 0 rfl rfl 14 (by decide) (hts (.fieldLink RX5 46 "TurbineorchardModel" "at" "[I") (by decide +kernel)) (fun _ h9 => h9) rfl dX5_repair_127 ?_
                  refine lv_iload_n hx hb dX5_repair_130 rfl (lv_at hl 3 rfl) ?_
                  refine lv_iload_n hx hb dX5_repair_131 rfl (lv_at hl 4 rfl) ?_
                  refine k_iast hx hb hK.1 hP hD hS 13 0 rfl rfl (cl bt) (rfl) (by omega) (by decide) dX5_repair_132 (fun H locs hP hD hS => ?_)
                  have hP : va_P D vwCl (wM b cI cZ pl br md tn (nI n) sp we tw sl pr al mo (nI h) cr (upd tu (cl bt) t) le to ia 0) H := hP
                  have hD : va_D A (wM b cI cZ pl br md tn (nI n) sp we tw sl pr al mo (nI h) cr (upd tu (cl bt) t) le to ia 0) := hD
                  refine lv_aload_n hx hb dX5_repair_133 rfl (lv_at hl 2 rfl) ?_
                  refine va_get (D := D) (ci := 5) (v := .ref (b 14)) (C := RX5) (T := TX5) (N := 19) hx hb hts (by decide +kernel) hown hK.1 hP 0 rfl rfl 15 (by decide) (hts (.fieldLink RX5 49 "TurbineorchardModel" "left" "[I") (by decide +kernel)) (fun _ h9 => h9) rfl dX5_repair_134 ?_
                  refine lv_iload_n hx hb dX5_repair_137 rfl (lv_at hl 3 rfl) ?_
                  refine lv_iload_n hx hb dX5_repair_138 rfl (lv_at hl 5 rfl) ?_
                  refine k_iast hx hb hK.1 hP hD hS 14 0 rfl rfl (cl bt) (rfl) (by omega) (by decide) dX5_repair_139 (fun H locs hP hD hS => ?_)
                  have hP : va_P D vwCl (wM b cI cZ pl br md tn (nI n) sp we tw sl pr al mo (nI h) cr (upd tu (cl bt) t) (upd le (cl bt) x) to ia 0) H := hP
                  have hD : va_D A (wM b cI cZ pl br md tn (nI n) sp we tw sl pr al mo (nI h) cr (upd tu (cl bt) t) (upd le (cl bt) x) to ia 0) := hD
                  have e9 : (kIf (cRepair n br tu bt t x) (upd tu (cl bt) t) tu) = (upd tu (cl bt) t) := kIf_0 (by unfold cRepair; rw [if_pos ⟨c_7, c_15⟩, if_pos c_103, if_pos ⟨h36, c_45, fun q => q.elim c_55 (fun q => q.elim c_65 c_75)⟩])
                  have hP : va_P D vwCl (wM b cI cZ pl br md tn (nI n) sp we tw sl pr al mo (nI h) cr (kIf (cRepair n br tu bt t x) (upd tu (cl bt) t) tu) (upd le (cl bt) x) to ia 0) H := by rw [e9]; exact hP
                  have hD : va_D A (wM b cI cZ pl br md tn (nI n) sp we tw sl pr al mo (nI h) cr (kIf (cRepair n br tu bt t x) (upd tu (cl bt) t) tu) (upd le (cl bt) x) to ia 0) := by rw [e9]; exact hD
                  clear e9
                  have e9 : (kIf (cRepair n br tu bt t x) (upd le (cl bt) x) le) = (upd le (cl bt) x) := kIf_0 (by unfold cRepair; rw [if_pos ⟨c_7, c_15⟩, if_pos c_103, if_pos ⟨h36, c_45, fun q => q.elim c_55 (fun q => q.elim c_65 c_75)⟩])
                  have hP : va_P D vwCl (wM b cI cZ pl br md tn (nI n) sp we tw sl pr al mo (nI h) cr (kIf (cRepair n br tu bt t x) (upd tu (cl bt) t) tu) (kIf (cRepair n br tu bt t x) (upd le (cl bt) x) le) to ia 0) H := by rw [e9]; exact hP
                  have hD : va_D A (wM b cI cZ pl br md tn (nI n) sp we tw sl pr al mo (nI h) cr (kIf (cRepair n br tu bt t x) (upd tu (cl bt) t) tu) (kIf (cRepair n br tu bt t x) (upd le (cl bt) x) le) to ia 0) := by rw [e9]; exact hD
                  clear e9
                  have e9 : (nI (cRepair n br tu bt t x)) = 0 := by rw [show cRepair n br tu bt t x = 0 from by unfold cRepair; rw [if_pos ⟨c_7, c_15⟩, if_pos c_103, if_pos ⟨h36, c_45, fun q => q.elim c_55 (fun q => q.elim c_65 c_75)⟩]]; rfl
                  have hP : va_P D vwCl (wM b cI cZ pl br md tn (nI n) sp we tw sl pr al mo (nI h) cr (kIf (cRepair n br tu bt t x) (upd tu (cl bt) t) tu) (kIf (cRepair n br tu bt t x) (upd le (cl bt) x) le) to ia (nI (cRepair n br tu bt t x))) H := by rw [e9]; exact hP
                  have hD : va_D A (wM b cI cZ pl br md tn (nI n) sp we tw sl pr al mo (nI h) cr (kIf (cRepair n br tu bt t x) (upd tu (cl bt) t) tu) (kIf (cRepair n br tu bt t x) (upd le (cl bt) x) le) to ia (nI (cRepair n br tu bt t x))) := by rw [e9]; exact hD
                  clear e9
                  exact k_endV (sz := 0) hx hb hr hlocks hP hD hS dX5_repair_140
                · have c_103 := bI_0 c_103
                  refine lv_iconst (v := 2) hx hb dX5_repair_106 (by decide) ?_
                  refine lv_goto (tgt := 120) hx hb dX5_repair_107 (by decide) ?_
                  refine k_ui (WR := []) (WN := (wM b cI cZ pl br md tn (nI n) sp we tw sl pr al mo (nI h) cr tu le to ia 2)) (As := [.int 2]) (rest := []) (nL := 6) ⟨hx, hb, hml, hown, hts⟩ hK hP hD hS hA (c_X5_fails l D b cI cZ _ pl br md tn (nI n) sp we tw sl pr al mo (nI h) cr tu le to ia th 2) [0, 1, 2, 3, 4, 5, 6, 7, 8, 9, 10, 11, 12, 13, 14, 15, 16] [] [0, 1, 2, 3, 4, 5, 6, 7, 8, 9, 10, 11, 12, 13, 14, 15, 16] rfl rfl (by decide) rfl (by decide) (by decide) rfl rfl (by decide) 0 rfl rfl rfl (cwV 1 hts gX5_repair_X5_fails rfl rfl rfl (by decide +kernel) ⟨Nat.le_of_ble_eq_true rfl, Nat.le_of_ble_eq_true rfl⟩) rfl hl.1 rfl (Nat.le_of_ble_eq_true rfl) dX5_repair_120 ⟨Nat.zero_le _, Nat.zero_le _⟩ (fun r9 H locs hr9 hP hD hS => ?_)
                  subst hr9
                  refine lv_if_ne (tgt := 140) hx hb dX5_repair_123 (by decide) (fun c_123 => ?_) (fun c_123 => by first | exact absurd c_123 (by decide) | exact absurd (by decide) c_123)
                  have e9 : (kIf (cRepair n br tu bt t x) (upd tu (cl bt) t) tu) = tu := kIf_s (fun z9 => absurd (z9.symm.trans (show cRepair n br tu bt t x = 2 from by unfold cRepair; rw [if_pos ⟨c_7, c_15⟩, if_neg c_103])) (by decide))
                  have hP : va_P D vwCl (wM b cI cZ pl br md tn (nI n) sp we tw sl pr al mo (nI h) cr (kIf (cRepair n br tu bt t x) (upd tu (cl bt) t) tu) le to ia 2) H := by rw [e9]; exact hP
                  have hD : va_D A (wM b cI cZ pl br md tn (nI n) sp we tw sl pr al mo (nI h) cr (kIf (cRepair n br tu bt t x) (upd tu (cl bt) t) tu) le to ia 2) := by rw [e9]; exact hD
                  clear e9
                  have e9 : (kIf (cRepair n br tu bt t x) (upd le (cl bt) x) le) = le := kIf_s (fun z9 => absurd (z9.symm.trans (show cRepair n br tu bt t x = 2 from by unfold cRepair; rw [if_pos ⟨c_7, c_15⟩, if_neg c_103])) (by decide))
                  have hP : va_P D vwCl (wM b cI cZ pl br md tn (nI n) sp we tw sl pr al mo (nI h) cr (kIf (cRepair n br tu bt t x) (upd tu (cl bt) t) tu) (kIf (cRepair n br tu bt t x) (upd le (cl bt) x) le) to ia 2) H := by rw [e9]; exact hP
                  have hD : va_D A (wM b cI cZ pl br md tn (nI n) sp we tw sl pr al mo (nI h) cr (kIf (cRepair n br tu bt t x) (upd tu (cl bt) t) tu) (kIf (cRepair n br tu bt t x) (upd le (cl bt) x) le) to ia 2) := by rw [e9]; exact hD
                  clear e9
                  have e9 : (nI (cRepair n br tu bt t x)) = 2 := by rw [show cRepair n br tu bt t x = 2 from by unfold cRepair; rw [if_pos ⟨c_7, c_15⟩, if_neg c_103]]; rfl
                  have hP : va_P D vwCl (wM b cI cZ pl br md tn (nI n) sp we tw sl pr al mo (nI h) cr (kIf (cRepair n br tu bt t x) (upd tu (cl bt) t) tu) (kIf (cRepair n br tu bt t x) (upd le (cl bt) x) le) to ia (nI (cRepair n br tu bt t x))) H := by rw [e9]; exact hP
                  have hD : va_D A (wM b cI cZ pl br md tn (nI n) sp we tw sl pr al mo (nI h) cr (kIf (cRepair n br tu bt t x) (upd tu (cl bt) t) tu) (kIf (cRepair n br tu bt t x) (upd le (cl bt) x) le) to ia (nI (cRepair n br tu bt t x))) := by rw [e9]; exact hD
                  clear e9
                  exact k_endV (sz := 0) hx hb hr hlocks hP hD hS dX5_repair_140
              · refine lv_iconst (v := 1) hx hb dX5_repair_78 (by decide) ?_
                refine lv_goto (tgt := 83) hx hb dX5_repair_79 (by decide) ?_
                refine lv_istore (lv' := [(5, .int 1), (4, .int 1), (0, .ref (b 0)), (1, .int (nI (cl bt))), (2, .int t), (3, .int x)]) hx hb dX5_repair_83 hl (by decide) rfl (fun ls hl => ?_)
                refine lv_aload_n hx hb dX5_repair_85 rfl (lv_at hl 2 rfl) ?_
                refine lv_iload hx hb dX5_repair_86 (lv_at hl 1 rfl) ?_
                refine lv_if_ne (tgt := 95) hx hb dX5_repair_88 (by decide) (fun c_88 => ?_) (fun c_88 => by first | exact absurd c_88 (by decide) | exact absurd (by decide) c_88)
                refine lv_aload_n hx hb dX5_repair_95 rfl (lv_at hl 2 rfl) ?_
                refine lv_iload_n hx hb dX5_repair_96 rfl (lv_at hl 5 rfl) ?_
                refine lv_iconst (v := 1) hx hb dX5_repair_97 (by decide) ?_
                refine lv_bipush (v := 40) hx hb dX5_repair_98 (by decide) ?_
                refine k_pv (As := [.int x, .int 1, .int 40]) (rest := [.ref (b 0)]) (nL := 6) ⟨hx, hb, hml, hown, hts⟩ (c_X5_in l _ x 1 40) (cwV 3 hts gX5_repair_X5_in rfl rfl rfl (by decide +kernel) ⟨Nat.le_of_ble_eq_true rfl, Nat.le_of_ble_eq_true rfl⟩) (va_recv hK.1 hP (ci := 5) (q0 := 0) rfl rfl) rfl hl.1 rfl (Nat.le_of_ble_eq_true rfl) dX5_repair_100 ⟨Nat.zero_le _, Nat.zero_le _⟩ (fun r9 hr9 => ?_)
                subst hr9
                refine lv_if_ne (tgt := 110) hx hb dX5_repair_103 (by decide) (fun c_103 => ?_) (fun c_103 => ?_)
                · have c_103 := bI_n c_103
                  refine lv_iload hx hb dX5_repair_110 (lv_at hl 0 rfl) ?_
                  refine lv_if_eq (tgt := 119) hx hb dX5_repair_112 (by decide) (fun c_112 => by first | exact absurd c_112 (by decide) | exact absurd (by decide) c_112) (fun c_112 => ?_)
                  refine lv_iconst (v := 3) hx hb dX5_repair_115 (by decide) ?_
                  refine lv_goto (tgt := 120) hx hb dX5_repair_116 (by decide) ?_
                  refine k_ui (WR := []) (WN := (wM b cI cZ pl br md tn (nI n) sp we tw sl pr al mo (nI h) cr tu le to ia 3)) (As := [.int 3]) (rest := []) (nL := 6) ⟨hx, hb, hml, hown, hts⟩ hK hP hD hS hA (c_X5_fails l D b cI cZ _ pl br md tn (nI n) sp we tw sl pr al mo (nI h) cr tu le to ia th 3) [0, 1, 2, 3, 4, 5, 6, 7, 8, 9, 10, 11, 12, 13, 14, 15, 16] [] [0, 1, 2, 3, 4, 5, 6, 7, 8, 9, 10, 11, 12, 13, 14, 15, 16] rfl rfl (by decide) rfl (by decide) (by decide) rfl rfl (by decide) 0 rfl rfl rfl (cwV 1 hts gX5_repair_X5_fails rfl rfl rfl (by decide +kernel) ⟨Nat.le_of_ble_eq_true rfl, Nat.le_of_ble_eq_true rfl⟩) rfl hl.1 rfl (Nat.le_of_ble_eq_true rfl) dX5_repair_120 ⟨Nat.zero_le _, Nat.zero_le _⟩ (fun r9 H locs hr9 hP hD hS => ?_)
                  subst hr9
                  refine lv_if_ne (tgt := 140) hx hb dX5_repair_123 (by decide) (fun c_123 => ?_) (fun c_123 => by first | exact absurd c_123 (by decide) | exact absurd (by decide) c_123)
                  have e9 : (kIf (cRepair n br tu bt t x) (upd tu (cl bt) t) tu) = tu := kIf_s (fun z9 => absurd (z9.symm.trans (show cRepair n br tu bt t x = 3 from by unfold cRepair; rw [if_pos ⟨c_7, c_15⟩, if_pos c_103, if_neg (fun q => q.2.2 (Or.inr (Or.inr c_75)))])) (by decide))
                  have hP : va_P D vwCl (wM b cI cZ pl br md tn (nI n) sp we tw sl pr al mo (nI h) cr (kIf (cRepair n br tu bt t x) (upd tu (cl bt) t) tu) le to ia 3) H := by rw [e9]; exact hP
                  have hD : va_D A (wM b cI cZ pl br md tn (nI n) sp we tw sl pr al mo (nI h) cr (kIf (cRepair n br tu bt t x) (upd tu (cl bt) t) tu) le to ia 3) := by rw [e9]; exact hD
                  clear e9
                  have e9 : (kIf (cRepair n br tu bt t x) (upd le (cl bt) x) le) = le := kIf_s (fun z9 => absurd (z9.symm.trans (show cRepair n br tu bt t x = 3 from by unfold cRepair; rw [if_pos ⟨c_7, c_15⟩, if_pos c_103, if_neg (fun q => q.2.2 (Or.inr (Or.inr c_75)))])) (by decide))
                  have hP : va_P D vwCl (wM b cI cZ pl br md tn (nI n) sp we tw sl pr al mo (nI h) cr (kIf (cRepair n br tu bt t x) (upd tu (cl bt) t) tu) (kIf (cRepair n br tu bt t x) (upd le (cl bt) x) le) to ia 3) H := by rw [e9]; exact hP
                  have hD : va_D A (wM b cI cZ pl br md tn (nI n) sp we tw sl pr al mo (nI h) cr (kIf (cRepair n br tu bt t x) (upd tu (cl bt) t) tu) (kIf (cRepair n br tu bt t x) (upd le (cl bt) x) le) to ia 3) := by rw [e9]; exact hD
                  clear e9
                  have e9 : (nI (cRepair n br tu bt t x)) = 3 := by rw [show cRepair n br tu bt t x = 3 from by unfold cRepair; rw [if_pos ⟨c_7, c_15⟩, if_pos c_103, if_neg (fun q => q.2.2 (Or.inr (Or.inr c_75)))]]; rfl
                  have hP : va_P D vwCl (wM b cI cZ pl br md tn (nI n) sp we tw sl pr al mo (nI h) cr (kIf (cRepair n br tu bt t x) (upd tu (cl bt) t) tu) (kIf (cRepair n br tu bt t x) (upd le (cl bt) x) le) to ia (nI (cRepair n br tu bt t x))) H := by rw [e9]; exact hP
                  have hD : va_D A (wM b cI cZ pl br md tn (nI n) sp we tw sl pr al mo (nI h) cr (kIf (cRepair n br tu bt t x) (upd tu (cl bt) t) tu) (kIf (cRepair n br tu bt t x) (upd le (cl bt) x) le) to ia (nI (cRepair n br tu bt t x))) := by rw [e9]; exact hD
                  clear e9
                  exact k_endV (sz := 0) hx hb hr hlocks hP hD hS dX5_repair_140
                · have c_103 := bI_0 c_103
                  refine lv_iconst (v := 2) hx hb dX5_repair_106 (by decide) ?_
                  refine lv_goto (tgt := 120) hx hb dX5_repair_107 (by decide) ?_
                  refine k_ui (WR := []) (WN := (wM b cI cZ pl br md tn (nI n) sp we tw sl pr al mo (nI h) cr tu le to ia 2)) (As := [.int 2]) (rest := []) (nL := 6) ⟨hx, hb, hml, hown, hts⟩ hK hP hD hS hA (c_X5_fails l D b cI cZ _ pl br md tn (nI n) sp we tw sl pr al mo (nI h) cr tu le to ia th 2) [0, 1, 2, 3, 4, 5, 6, 7, 8, 9, 10, 11, 12, 13, 14, 15, 16] [] [0, 1, 2, 3, 4, 5, 6, 7, 8, 9, 10, 11, 12, 13, 14, 15, 16] rfl rfl (by decide) rfl (by decide) (by decide) rfl rfl (by decide) 0 rfl rfl rfl (cwV 1 hts gX5_repair_X5_fails rfl rfl rfl (by decide +kernel) ⟨Nat.le_of_ble_eq_true rfl, Nat.le_of_ble_eq_true rfl⟩) rfl hl.1 rfl (Nat.le_of_ble_eq_true rfl) dX5_repair_120 ⟨Nat.zero_le _, Nat.zero_le _⟩ (fun r9 H locs hr9 hP hD hS => ?_)
                  subst hr9
                  refine lv_if_ne (tgt := 140) hx hb dX5_repair_123 (by decide) (fun c_123 => ?_) (fun c_123 => by first | exact absurd c_123 (by decide) | exact absurd (by decide) c_123)
                  have e9 : (kIf (cRepair n br tu bt t x) (upd tu (cl bt) t) tu) = tu := kIf_s (fun z9 => absurd (z9.symm.trans (show cRepair n br tu bt t x = 2 from by unfold cRepair; rw [if_pos ⟨c_7, c_15⟩, if_neg c_103])) (by decide))
                  have hP : va_P D vwCl (wM b cI cZ pl br md tn (nI n) sp we tw sl pr al mo (nI h) cr (kIf (cRepair n br tu bt t x) (upd tu (cl bt) t) tu) le to ia 2) H := by rw [e9]; exact hP
                  have hD : va_D A (wM b cI cZ pl br md tn (nI n) sp we tw sl pr al mo (nI h) cr (kIf (cRepair n br tu bt t x) (upd tu (cl bt) t) tu) le to ia 2) := by rw [e9]; exact hD
                  clear e9
                  have e9 : (kIf (cRepair n br tu bt t x) (upd le (cl bt) x) le) = le := kIf_s (fun z9 => absurd (z9.symm.trans (show cRepair n br tu bt t x = 2 from by unfold cRepair; rw [if_pos ⟨c_7, c_15⟩, if_neg c_103])) (by decide))
                  have hP : va_P D vwCl (wM b cI cZ pl br md tn (nI n) sp we tw sl pr al mo (nI h) cr (kIf (cRepair n br tu bt t x) (upd tu (cl bt) t) tu) (kIf (cRepair n br tu bt t x) (upd le (cl bt) x) le) to ia 2) H := by rw [e9]; exact hP
                  have hD : va_D A (wM b cI cZ pl br md tn (nI n) sp we tw sl pr al mo (nI h) cr (kIf (cRepair n br tu bt t x) (upd tu (cl bt) t) tu) (kIf (cRepair n br tu bt t x) (upd le (cl bt) x) le) to ia 2) := by rw [e9]; exact hD
                  clear e9
                  have e9 : (nI (cRepair n br tu bt t x)) = 2 := by rw [show cRepair n br tu bt t x = 2 from by unfold cRepair; rw [if_pos ⟨c_7, c_15⟩, if_neg c_103]]; rfl
                  have hP : va_P D vwCl (wM b cI cZ pl br md tn (nI n) sp we tw sl pr al mo (nI h) cr (kIf (cRepair n br tu bt t x) (upd tu (cl bt) t) tu) (kIf (cRepair n br tu bt t x) (upd le (cl bt) x) le) to ia (nI (cRepair n br tu bt t x))) H := by rw [e9]; exact hP
                  have hD : va_D A (wM b cI cZ pl br md tn (nI n) sp we tw sl pr al mo (nI h) cr (kIf (cRepair n br tu bt t x) (upd tu (cl bt) t) tu) (kIf (cRepair n br tu bt t x) (upd le (cl bt) x) le) to ia (nI (cRepair n br tu bt t x))) := by rw [e9]; exact hD
                  clear e9
                  exact k_endV (sz := 0) hx hb hr hlocks hP hD hS dX5_repair_140

set_option maxHeartbeats 4000000 in
set_option maxRecDepth 100000 in
theorem c_X5_sell (l : Launch) (D : va_G) (b : Nat → Nat) (cI cZ : ClassId) (sz : Nat) (pl : Nat → Int32) (br : Nat → Int32) (md : Nat → Int32) (tn : Nat → Int32) (sp : Nat → Int32) (we : Nat → Int32) (tw : Nat → Int32) (sl : Nat → Int32) (pr : Nat → Int32) (al : Nat → Int32) (mo : Nat → Int32) (cr : Nat → Int32) (tu : Nat → Int32) (le : Nat → Int32) (to : Nat → Int32) (ia : Nat → Int32) (th : Int32) (n : Nat) (h : Nat) (k : Int32) (u : Int32) (q : Int32) (hn : n ≤ 12) (hh : h < 480) : kUi l yX5_sell wsX5_sell ({ frames := 1, cells := 0, slots := 0, locals := 23 }) [.ref (b 0), .int k, .int u, .int q] D cI cZ sz (wM b cI cZ pl br md tn (nI n) sp we tw sl pr al mo (nI h) cr tu le to ia th) (wM b cI cZ pl br md tn (nI n) sp we tw (kIf (cSell h k u q) (upd sl (cl k) u) sl) (kIf (cSell h k u q) (upd pr (cl k) q) pr) al mo (nI h) cr tu le to ia (nI (cSell h k u q))) (fun r => cSell h k u q = 0 → r = sl (cl k)) := by
  refine Met.ofW (cc := cX5_sell) (maxL := 6) (ret := (some .int)) (by decide) rfl ?_
  intro p e s m args below meth c s₁ B hml hv
  obtain ⟨rfl, hsz, hP, hK, hD0⟩ := hv
  have hx := B.exec
  have hb := B.bytes
  have hr := B.returns
  have hts := atoms_spec (ws := wsX5_sell) B.pre
  have hown : s.vm.findClass RX5 = some m.cls := findClass_of_methodNamed B.named
  have hlocks := B.notSynchronized
  subst hsz
  have hD := hD0.self (sz := s.heap.size)
  generalize hAe : va_A (wM b cI cZ pl br md tn (nI n) sp we tw sl pr al mo (nI h) cr tu le to ia th) s.heap.size = A at hD ⊢
  have hA : ∀ q : Nat, s.heap.size ≤ q → A q := fun q h => by rw [← hAe]; exact Or.inr h
  have hS : va_S A s.heap s.heap [] := va_S.rf
  have hl := lv_entry ([.ref (b 0), .int k, .int u, .int q]) (n := 6) (Nat.le_of_ble_eq_true rfl)
  rw [lg_entry_eq]
  generalize (lg_sl ([.ref (b 0), .int k, .int u, .int q]) ++ List.replicate (6 - (lg_sl ([.ref (b 0), .int k, .int u, .int q])).length) Slot.unset).toArray = ls at hl ⊢
  have hl : lv_has ls 6 [(0, .ref (b 0)), (1, .int k), (2, .int u), (3, .int q)] := hl
  refine lv_aload_n hx hb dX5_sell_0 rfl (lv_at hl 0 rfl) ?_
  refine lv_iload_n hx hb dX5_sell_1 rfl (lv_at hl 1 rfl) ?_
  refine lv_iconst (v := 0) hx hb dX5_sell_2 (by decide) ?_
  refine lv_sipush (v := 479) hx hb dX5_sell_3 (by decide) ?_
  refine k_pv (As := [.int k, .int 0, .int 479]) (rest := []) (nL := 6) ⟨hx, hb, hml, hown, hts⟩ (c_X5_in l _ k 0 479) (cwV 3 hts gX5_sell_X5_in rfl rfl rfl (by decide +kernel) ⟨Nat.le_of_ble_eq_true rfl, Nat.le_of_ble_eq_true rfl⟩) (va_recv hK.1 hP (ci := 5) (q0 := 0) rfl rfl) rfl hl.1 rfl (Nat.le_of_ble_eq_true rfl) dX5_sell_6 ⟨Nat.zero_le _, Nat.zero_le _⟩ (fun r9 hr9 => ?_)
  subst hr9
  refine lv_if_eq (tgt := 39) hx hb dX5_sell_9 (by decide) (fun c_9 => ?_) (fun c_9 => ?_)
  · have c_9 := bI_0 c_9
    refine lv_iconst (v := 0) hx hb dX5_sell_39 (by decide) ?_
    refine lv_istore (lv' := [(4, .int 0), (0, .ref (b 0)), (1, .int k), (2, .int u), (3, .int q)]) hx hb dX5_sell_40 hl (by decide) rfl (fun ls hl => ?_)
    refine lv_aload_n hx hb dX5_sell_42 rfl (lv_at hl 1 rfl) ?_
    refine lv_iload hx hb dX5_sell_43 (lv_at hl 0 rfl) ?_
    refine lv_if_ne (tgt := 52) hx hb dX5_sell_45 (by decide) (fun c_45 => by first | exact absurd c_45 (by decide) | exact absurd (by decide) c_45) (fun c_45 => ?_)
    refine lv_iconst (v := 1) hx hb dX5_sell_48 (by decide) ?_
    refine lv_goto (tgt := 71) hx hb dX5_sell_49 (by decide) ?_
    refine k_ui (WR := []) (WN := (wM b cI cZ pl br md tn (nI n) sp we tw sl pr al mo (nI h) cr tu le to ia 1)) (As := [.int 1]) (rest := []) (nL := 6) ⟨hx, hb, hml, hown, hts⟩ hK hP hD hS hA (c_X5_fails l D b cI cZ _ pl br md tn (nI n) sp we tw sl pr al mo (nI h) cr tu le to ia th 1) [0, 1, 2, 3, 4, 5, 6, 7, 8, 9, 10, 11, 12, 13, 14, 15, 16] [] [0, 1, 2, 3, 4, 5, 6, 7, 8, 9, 10, 11, 12, 13, 14, 15, 16] rfl rfl (by decide) rfl (by decide) (by decide) rfl rfl (by decide) 0 rfl rfl rfl (cwV 1 hts gX5_sell_X5_fails rfl rfl rfl (by decide +kernel) ⟨Nat.le_of_ble_eq_true rfl, Nat.le_of_ble_eq_true rfl⟩) rfl hl.1 rfl (Nat.le_of_ble_eq_true rfl) dX5_sell_71 ⟨Nat.zero_le _, Nat.zero_le _⟩ (fun r9 H locs hr9 hP hD hS => ?_)
    subst hr9
    refine lv_if_eq (tgt := 79) hx hb dX5_sell_74 (by decide) (fun c_74 => by first | exact absurd c_74 (by decide) | exact absurd (by decide) c_74) (fun c_74 => ?_)
    have e9 : (kIf (cSell h k u q) (upd sl (cl k) u) sl) = sl := kIf_s (fun z9 => absurd (z9.symm.trans (show cSell h k u q = 1 from by unfold cSell; rw [if_neg (fun z => c_9 z.1)])) (by decide))
    have hP : va_P D vwCl (wM b cI cZ pl br md tn (nI n) sp we tw (kIf (cSell h k u q) (upd sl (cl k) u) sl) pr al mo (nI h) cr tu le to ia 1) H := by rw [e9]; exact hP
    have hD : va_D A (wM b cI cZ pl br md tn (nI n) sp we tw (kIf (cSell h k u q) (upd sl (cl k) u) sl) pr al mo (nI h) cr tu le to ia 1) := by rw [e9]; exact hD
    clear e9
    have e9 : (kIf (cSell h k u q) (upd pr (cl k) q) pr) = pr := kIf_s (fun z9 => absurd (z9.symm.trans (show cSell h k u q = 1 from by unfold cSell; rw [if_neg (fun z => c_9 z.1)])) (by decide))
    have hP : va_P D vwCl (wM b cI cZ pl br md tn (nI n) sp we tw (kIf (cSell h k u q) (upd sl (cl k) u) sl) (kIf (cSell h k u q) (upd pr (cl k) q) pr) al mo (nI h) cr tu le to ia 1) H := by rw [e9]; exact hP
    have hD : va_D A (wM b cI cZ pl br md tn (nI n) sp we tw (kIf (cSell h k u q) (upd sl (cl k) u) sl) (kIf (cSell h k u q) (upd pr (cl k) q) pr) al mo (nI h) cr tu le to ia 1) := by rw [e9]; exact hD
    clear e9
    have e9 : (nI (cSell h k u q)) = 1 := by rw [show cSell h k u q = 1 from by unfold cSell; rw [if_neg (fun z => c_9 z.1)]]; rfl
    have hP : va_P D vwCl (wM b cI cZ pl br md tn (nI n) sp we tw (kIf (cSell h k u q) (upd sl (cl k) u) sl) (kIf (cSell h k u q) (upd pr (cl k) q) pr) al mo (nI h) cr tu le to ia (nI (cSell h k u q))) H := by rw [e9]; exact hP
    have hD : va_D A (wM b cI cZ pl br md tn (nI n) sp we tw (kIf (cSell h k u q) (upd sl (cl k) u) sl) (kIf (cSell h k u q) (upd pr (cl k) q) pr) al mo (nI h) cr tu le to ia (nI (cSell h k u q))) := by rw [e9]; exact hD
    clear e9
    refine lv_iconst (v := (-1)) hx hb dX5_sell_77 (by decide) ?_
    exact k_endI (ty := .int) hx hb hr hlocks (rfl) (fun z9 => absurd (z9.symm.trans (show cSell h k u q = 1 from by unfold cSell; rw [if_neg (fun z => c_9 z.1)])) (by decide)) hP hD hS dX5_sell_78
  · have c_9 := bI_n c_9
    refine lv_aload_n hx hb dX5_sell_12 rfl (lv_at hl 0 rfl) ?_
    refine lv_iload_n hx hb dX5_sell_13 rfl (lv_at hl 2 rfl) ?_
    refine lv_iconst (v := 0) hx hb dX5_sell_14 (by decide) ?_
    refine lv_sipush (v := 30000) hx hb dX5_sell_15 (by decide) ?_
    refine k_pv (As := [.int u, .int 0, .int 30000]) (rest := []) (nL := 6) ⟨hx, hb, hml, hown, hts⟩ (c_X5_in l _ u 0 30000) (cwV 3 hts gX5_sell_X5_in rfl rfl rfl (by decide +kernel) ⟨Nat.le_of_ble_eq_true rfl, Nat.le_of_ble_eq_true rfl⟩) (va_recv hK.1 hP (ci := 5) (q0 := 0) rfl rfl) rfl hl.1 rfl (Nat.le_of_ble_eq_true rfl) dX5_sell_18 ⟨Nat.zero_le _, Nat.zero_le _⟩ (fun r9 hr9 => ?_)
    subst hr9
    refine lv_if_eq (tgt := 39) hx hb dX5_sell_21 (by decide) (fun c_21 => ?_) (fun c_21 => ?_)
    · have c_21 := bI_0 c_21
      refine lv_iconst (v := 0) hx hb dX5_sell_39 (by decide) ?_
      refine lv_istore (lv' := [(4, .int 0), (0, .ref (b 0)), (1, .int k), (2, .int u), (3, .int q)]) hx hb dX5_sell_40 hl (by decide) rfl (fun ls hl => ?_)
      refine lv_aload_n hx hb dX5_sell_42 rfl (lv_at hl 1 rfl) ?_
      refine lv_iload hx hb dX5_sell_43 (lv_at hl 0 rfl) ?_
      refine lv_if_ne (tgt := 52) hx hb dX5_sell_45 (by decide) (fun c_45 => by first | exact absurd c_45 (by decide) | exact absurd (by decide) c_45) (fun c_45 => ?_)
      refine lv_iconst (v := 1) hx hb dX5_sell_48 (by decide) ?_
      refine lv_goto (tgt := 71) hx hb dX5_sell_49 (by decide) ?_
      refine k_ui (WR := []) (WN := (wM b cI cZ pl br md tn (nI n) sp we tw sl pr al mo (nI h) cr tu le to ia 1)) (As := [.int 1]) (rest := []) (nL := 6) ⟨hx, hb, hml, hown, hts⟩ hK hP hD hS hA (c_X5_fails l D b cI cZ _ pl br md tn (nI n) sp we tw sl pr al mo (nI h) cr tu le to ia th 1) [0, 1, 2, 3, 4, 5, 6, 7, 8, 9, 10, 11, 12, 13, 14, 15, 16] [] [0, 1, 2, 3, 4, 5, 6, 7, 8, 9, 10, 11, 12, 13, 14, 15, 16] rfl rfl (by decide) rfl (by decide) (by decide) rfl rfl (by decide) 0 rfl rfl rfl (cwV 1 hts gX5_sell_X5_fails rfl rfl rfl (by decide +kernel) ⟨Nat.le_of_ble_eq_true rfl, Nat.le_of_ble_eq_true rfl⟩) rfl hl.1 rfl (Nat.le_of_ble_eq_true rfl) dX5_sell_71 ⟨Nat.zero_le _, Nat.zero_le _⟩ (fun r9 H locs hr9 hP hD hS => ?_)
      subst hr9
      refine lv_if_eq (tgt := 79) hx hb dX5_sell_74 (by decide) (fun c_74 => by first | exact absurd c_74 (by decide) | exact absurd (by decide) c_74) (fun c_74 => ?_)
      have e9 : (kIf (cSell h k u q) (upd sl (cl k) u) sl) = sl := kIf_s (fun z9 => absurd (z9.symm.trans (show cSell h k u q = 1 from by unfold cSell; rw [if_neg (fun z => c_21 z.2.1)])) (by decide))
      have hP : va_P D vwCl (wM b cI cZ pl br md tn (nI n) sp we tw (kIf (cSell h k u q) (upd sl (cl k) u) sl) pr al mo (nI h) cr tu le to ia 1) H := by rw [e9]; exact hP
      have hD : va_D A (wM b cI cZ pl br md tn (nI n) sp we tw (kIf (cSell h k u q) (upd sl (cl k) u) sl) pr al mo (nI h) cr tu le to ia 1) := by rw [e9]; exact hD
      clear e9
      have e9 : (kIf (cSell h k u q) (upd pr (cl k) q) pr) = pr := kIf_s (fun z9 => absurd (z9.symm.trans (show cSell h k u q = 1 from by unfold cSell; rw [if_neg (fun z => c_21 z.2.1)])) (by decide))
      have hP : va_P D vwCl (wM b cI cZ pl br md tn (nI n) sp we tw (kIf (cSell h k u q) (upd sl (cl k) u) sl) (kIf (cSell h k u q) (upd pr (cl k) q) pr) al mo (nI h) cr tu le to ia 1) H := by rw [e9]; exact hP
      have hD : va_D A (wM b cI cZ pl br md tn (nI n) sp we tw (kIf (cSell h k u q) (upd sl (cl k) u) sl) (kIf (cSell h k u q) (upd pr (cl k) q) pr) al mo (nI h) cr tu le to ia 1) := by rw [e9]; exact hD
      clear e9
      have e9 : (nI (cSell h k u q)) = 1 := by rw [show cSell h k u q = 1 from by unfold cSell; rw [if_neg (fun z => c_21 z.2.1)]]; rfl
      have hP : va_P D vwCl (wM b cI cZ pl br md tn (nI n) sp we tw (kIf (cSell h k u q) (upd sl (cl k) u) sl) (kIf (cSell h k u q) (upd pr (cl k) q) pr) al mo (nI h) cr tu le to ia (nI (cSell h k u q))) H := by rw [e9]; exact hP
      have hD : va_D A (wM b cI cZ pl br md tn (nI n) sp we tw (kIf (cSell h k u q) (upd sl (cl k) u) sl) (kIf (cSell h k u q) (upd pr (cl k) q) pr) al mo (nI h) cr tu le to ia (nI (cSell h k u q))) := by rw [e9]; exact hD
      clear e9
      refine lv_iconst (v := (-1)) hx hb dX5_sell_77 (by decide) ?_
      exact k_endI (ty := .int) hx hb hr hlocks (rfl) (fun z9 => absurd (z9.symm.trans (show cSell h k u q = 1 from by unfold cSell; rw [if_neg (fun z => c_21 z.2.1)])) (by decide)) hP hD hS dX5_sell_78
    · have c_21 := bI_n c_21
      refine lv_aload_n hx hb dX5_sell_24 rfl (lv_at hl 0 rfl) ?_
      refine lv_iload_n hx hb dX5_sell_25 rfl (lv_at hl 3 rfl) ?_
      refine lv_iconst (v := 1) hx hb dX5_sell_26 (by decide) ?_
      refine lv_bipush (v := 100) hx hb dX5_sell_27 (by decide) ?_
      refine k_pv (As := [.int q, .int 1, .int 100]) (rest := []) (nL := 6) ⟨hx, hb, hml, hown, hts⟩ (c_X5_in l _ q 1 100) (cwV 3 hts gX5_sell_X5_in rfl rfl rfl (by decide +kernel) ⟨Nat.le_of_ble_eq_true rfl, Nat.le_of_ble_eq_true rfl⟩) (va_recv hK.1 hP (ci := 5) (q0 := 0) rfl rfl) rfl hl.1 rfl (Nat.le_of_ble_eq_true rfl) dX5_sell_29 ⟨Nat.zero_le _, Nat.zero_le _⟩ (fun r9 hr9 => ?_)
      subst hr9
      refine lv_if_eq (tgt := 39) hx hb dX5_sell_32 (by decide) (fun c_32 => ?_) (fun c_32 => ?_)
      · have c_32 := bI_0 c_32
        refine lv_iconst (v := 0) hx hb dX5_sell_39 (by decide) ?_
        refine lv_istore (lv' := [(4, .int 0), (0, .ref (b 0)), (1, .int k), (2, .int u), (3, .int q)]) hx hb dX5_sell_40 hl (by decide) rfl (fun ls hl => ?_)
        refine lv_aload_n hx hb dX5_sell_42 rfl (lv_at hl 1 rfl) ?_
        refine lv_iload hx hb dX5_sell_43 (lv_at hl 0 rfl) ?_
        refine lv_if_ne (tgt := 52) hx hb dX5_sell_45 (by decide) (fun c_45 => by first | exact absurd c_45 (by decide) | exact absurd (by decide) c_45) (fun c_45 => ?_)
        refine lv_iconst (v := 1) hx hb dX5_sell_48 (by decide) ?_
        refine lv_goto (tgt := 71) hx hb dX5_sell_49 (by decide) ?_
        refine k_ui (WR := []) (WN := (wM b cI cZ pl br md tn (nI n) sp we tw sl pr al mo (nI h) cr tu le to ia 1)) (As := [.int 1]) (rest := []) (nL := 6) ⟨hx, hb, hml, hown, hts⟩ hK hP hD hS hA (c_X5_fails l D b cI cZ _ pl br md tn (nI n) sp we tw sl pr al mo (nI h) cr tu le to ia th 1) [0, 1, 2, 3, 4, 5, 6, 7, 8, 9, 10, 11, 12, 13, 14, 15, 16] [] [0, 1, 2, 3, 4, 5, 6, 7, 8, 9, 10, 11, 12, 13, 14, 15, 16] rfl rfl (by decide) rfl (by decide) (by decide) rfl rfl (by decide) 0 rfl rfl rfl (cwV 1 hts gX5_sell_X5_fails rfl rfl rfl (by decide +kernel) ⟨Nat.le_of_ble_eq_true rfl, Nat.le_of_ble_eq_true rfl⟩) rfl hl.1 rfl (Nat.le_of_ble_eq_true rfl) dX5_sell_71 ⟨Nat.zero_le _, Nat.zero_le _⟩ (fun r9 H locs hr9 hP hD hS => ?_)
        subst hr9
        refine lv_if_eq (tgt := 79) hx hb dX5_sell_74 (by decide) (fun c_74 => by first | exact absurd c_74 (by decide) | exact absurd (by decide) c_74) (fun c_74 => ?_)
        have e9 : (kIf (cSell h k u q) (upd sl (cl k) u) sl) = sl := kIf_s (fun z9 => absurd (z9.symm.trans (show cSell h k u q = 1 from by unfold cSell; rw [if_neg (fun z => c_32 z.2.2)])) (by decide))
        have hP : va_P D vwCl (wM b cI cZ pl br md tn (nI n) sp we tw (kIf (cSell h k u q) (upd sl (cl k) u) sl) pr al mo (nI h) cr tu le to ia 1) H := by rw [e9]; exact hP
        have hD : va_D A (wM b cI cZ pl br md tn (nI n) sp we tw (kIf (cSell h k u q) (upd sl (cl k) u) sl) pr al mo (nI h) cr tu le to ia 1) := by rw [e9]; exact hD
        clear e9
        have e9 : (kIf (cSell h k u q) (upd pr (cl k) q) pr) = pr := kIf_s (fun z9 => absurd (z9.symm.trans (show cSell h k u q = 1 from by unfold cSell; rw [if_neg (fun z => c_32 z.2.2)])) (by decide))
        have hP : va_P D vwCl (wM b cI cZ pl br md tn (nI n) sp we tw (kIf (cSell h k u q) (upd sl (cl k) u) sl) (kIf (cSell h k u q) (upd pr (cl k) q) pr) al mo (nI h) cr tu le to ia 1) H := by rw [e9]; exact hP
        have hD : va_D A (wM b cI cZ pl br md tn (nI n) sp we tw (kIf (cSell h k u q) (upd sl (cl k) u) sl) (kIf (cSell h k u q) (upd pr (cl k) q) pr) al mo (nI h) cr tu le to ia 1) := by rw [e9]; exact hD
        clear e9
        have e9 : (nI (cSell h k u q)) = 1 := by rw [show cSell h k u q = 1 from by unfold cSell; rw [if_neg (fun z => c_32 z.2.2)]]; rfl
        have hP : va_P D vwCl (wM b cI cZ pl br md tn (nI n) sp we tw (kIf (cSell h k u q) (upd sl (cl k) u) sl) (kIf (cSell h k u q) (upd pr (cl k) q) pr) al mo (nI h) cr tu le to ia (nI (cSell h k u q))) H := by rw [e9]; exact hP
        have hD : va_D A (wM b cI cZ pl br md tn (nI n) sp we tw (kIf (cSell h k u q) (upd sl (cl k) u) sl) (kIf (cSell h k u q) (upd pr (cl k) q) pr) al mo (nI h) cr tu le to ia (nI (cSell h k u q))) := by rw [e9]; exact hD
        clear e9
        refine lv_iconst (v := (-1)) hx hb dX5_sell_77 (by decide) ?_
        exact k_endI (ty := .int) hx hb hr hlocks (rfl) (fun z9 => absurd (z9.symm.trans (show cSell h k u q = 1 from by unfold cSell; rw [if_neg (fun z => c_32 z.2.2)])) (by decide)) hP hD hS dX5_sell_78
      · have c_32 := bI_n c_32
        refine lv_iconst (v := 1) hx hb dX5_sell_35 (by decide) ?_
        refine lv_goto (tgt := 40) hx hb dX5_sell_36 (by decide) ?_
        refine lv_istore (lv' := [(4, .int 1), (0, .ref (b 0)), (1, .int k), (2, .int u), (3, .int q)]) hx hb dX5_sell_40 hl (by decide) rfl (fun ls hl => ?_)
        refine lv_aload_n hx hb dX5_sell_42 rfl (lv_at hl 1 rfl) ?_
        refine lv_iload hx hb dX5_sell_43 (lv_at hl 0 rfl) ?_
        refine lv_if_ne (tgt := 52) hx hb dX5_sell_45 (by decide) (fun c_45 => ?_) (fun c_45 => by first | exact absurd c_45 (by decide) | exact absurd (by decide) c_45)
        have hq := cl_rng (n := 0) (m := 479) (by decide) (by decide) c_9
        rw [hq.1] at hl
        refine lv_aload_n hx hb dX5_sell_52 rfl (lv_at hl 1 rfl) ?_
        refine va_get (D := D) (ci := 5) (v := .int (nI h)) (C := RX5) (T := TX5) (N := 19) hx hb hts (by decide +kernel) hown hK.1 hP 0 rfl rfl 12 (by decide) (hts (.fieldLink RX5 73 "TurbineorchardModel" "now" "I") (by decide +kernel)) (fun _ h9 => h9) rfl dX5_sell_53 ?_
        refine lv_bipush (v := 24) hx hb dX5_sell_56 (by decide) ?_
        refine lv_iload_n hx hb dX5_sell_58 rfl (lv_at hl 2 rfl) ?_
        refine lv_bipush (v := 24) hx hb dX5_sell_59 (by decide) ?_
        refine lv_idiv hx hb dX5_sell_61 (by decide) ?_
        refine k_rw (y := nI (cl k / 24)) (pk_div (by omega) (by decide) (by decide)) ?_
        refine lv_imul hx hb dX5_sell_62 ?_
        refine k_rw (y := nI (24 * (cl k / 24))) (pk_mul 24 _) ?_
        refine lv_icmp_lt (tgt := 70) hx hb dX5_sell_63 (by decide) (fun c_63 => ?_) (fun c_63 => ?_)
        · have c_63 : h / 24 < cl k / 24 := by have := (nI_ltI (a := h) (b := 24 * (cl k / 24)) (by omega) (by omega)).mp c_63; omega
          refine lv_iconst (v := 0) hx hb dX5_sell_70 (by decide) ?_
          refine k_ui (WR := []) (WN := (wM b cI cZ pl br md tn (nI n) sp we tw sl pr al mo (nI h) cr tu le to ia 0)) (As := [.int 0]) (rest := []) (nL := 6) ⟨hx, hb, hml, hown, hts⟩ hK hP hD hS hA (c_X5_fails l D b cI cZ _ pl br md tn (nI n) sp we tw sl pr al mo (nI h) cr tu le to ia th 0) [0, 1, 2, 3, 4, 5, 6, 7, 8, 9, 10, 11, 12, 13, 14, 15, 16] [] [0, 1, 2, 3, 4, 5, 6, 7, 8, 9, 10, 11, 12, 13, 14, 15, 16] rfl rfl (by decide) rfl (by decide) (by decide) rfl rfl (by decide) 0 rfl rfl rfl (cwV 1 hts gX5_sell_X5_fails rfl rfl rfl (by decide +kernel) ⟨Nat.le_of_ble_eq_true rfl, Nat.le_of_ble_eq_true rfl⟩) rfl hl.1 rfl (Nat.le_of_ble_eq_true rfl) dX5_sell_71 ⟨Nat.zero_le _, Nat.zero_le _⟩ (fun r9 H locs hr9 hP hD hS => ?_)
          subst hr9
          refine lv_if_eq (tgt := 79) hx hb dX5_sell_74 (by decide) (fun c_74 => ?_) (fun c_74 => by first | exact absurd c_74 (by decide) | exact absurd (by decide) c_74)
          refine lv_aload_n hx hb dX5_sell_79 rfl (lv_at hl 1 rfl) ?_
          refine va_get (D := D) (ci := 5) (v := .ref (b 8)) (C := RX5) (T := TX5) (N := 19) hx hb hts (by decide +kernel) hown hK.1 hP 0 rfl rfl 8 (by decide) (hts (.fieldLink RX5 31 "TurbineorchardModel" "sold" "[I") (by decide +kernel)) (fun _ h9 => h9) rfl dX5_sell_80 ?_
          refine lv_iload_n hx hb dX5_sell_83 rfl (lv_at hl 2 rfl) ?_
          refine k_iald hx hb hK.1 hP 8 0 rfl rfl (cl k) (rfl) (by omega) (by decide) dX5_sell_84 ?_
          refine lv_istore (lv' := [(5, .int (sl (cl k))), (4, .int 1), (0, .ref (b 0)), (1, .int (nI (cl k))), (2, .int u), (3, .int q)]) hx hb dX5_sell_85 hl (by decide) rfl (fun ls hl => ?_)
          refine lv_aload_n hx hb dX5_sell_87 rfl (lv_at hl 2 rfl) ?_
          refine va_get (D := D) (ci := 5) (v := .ref (b 8)) (C := RX5) (T := TX5) (N := 19) hx hb hts (by decide +kernel) hown hK.1 hP 0 rfl rfl 8 (by decide) (hts (.fieldLink RX5 31 "TurbineorchardModel" "sold" "[I") (by decide +kernel)) (fun _ h9 => h9) rfl dX5_sell_88 ?_
          refine lv_iload_n hx hb dX5_sell_91 rfl (lv_at hl 3 rfl) ?_
          refine lv_iload_n hx hb dX5_sell_92 rfl (lv_at hl 4 rfl) ?_
          refine k_iast hx hb hK.1 hP hD hS 8 0 rfl rfl (cl k) (rfl) (by omega) (by decide) dX5_sell_93 (fun H locs hP hD hS => ?_)
          have hP : va_P D vwCl (wM b cI cZ pl br md tn (nI n) sp we tw (upd sl (cl k) u) pr al mo (nI h) cr tu le to ia 0) H := hP
          have hD : va_D A (wM b cI cZ pl br md tn (nI n) sp we tw (upd sl (cl k) u) pr al mo (nI h) cr tu le to ia 0) := hD
          refine lv_aload_n hx hb dX5_sell_94 rfl (lv_at hl 2 rfl) ?_
          refine va_get (D := D) (ci := 5) (v := .ref (b 9)) (C := RX5) (T := TX5) (N := 19) hx hb hts (by decide +kernel) hown hK.1 hP 0 rfl rfl 9 (by decide) (hts (.fieldLink RX5 34 "TurbineorchardModel" "price" "[I") (by decide +kernel)) (fun _ h9 => h9) rfl dX5_sell_95 ?_
          refine lv_iload_n hx hb dX5_sell_98 rfl (lv_at hl 3 rfl) ?_
          refine lv_iload_n hx hb dX5_sell_99 rfl (lv_at hl 5 rfl) ?_
          refine k_iast hx hb hK.1 hP hD hS 9 0 rfl rfl (cl k) (rfl) (by omega) (by decide) dX5_sell_100 (fun H locs hP hD hS => ?_)
          have hP : va_P D vwCl (wM b cI cZ pl br md tn (nI n) sp we tw (upd sl (cl k) u) (upd pr (cl k) q) al mo (nI h) cr tu le to ia 0) H := hP
          have hD : va_D A (wM b cI cZ pl br md tn (nI n) sp we tw (upd sl (cl k) u) (upd pr (cl k) q) al mo (nI h) cr tu le to ia 0) := hD
          have e9 : (kIf (cSell h k u q) (upd sl (cl k) u) sl) = (upd sl (cl k) u) := kIf_0 (by unfold cSell; rw [if_pos ⟨c_9, c_21, c_32⟩, if_pos c_63])
          have hP : va_P D vwCl (wM b cI cZ pl br md tn (nI n) sp we tw (kIf (cSell h k u q) (upd sl (cl k) u) sl) (upd pr (cl k) q) al mo (nI h) cr tu le to ia 0) H := by rw [e9]; exact hP
          have hD : va_D A (wM b cI cZ pl br md tn (nI n) sp we tw (kIf (cSell h k u q) (upd sl (cl k) u) sl) (upd pr (cl k) q) al mo (nI h) cr tu le to ia 0) := by rw [e9]; exact hD
          clear e9
          have e9 : (kIf (cSell h k u q) (upd pr (cl k) q) pr) = (upd pr (cl k) q) := kIf_0 (by unfold cSell; rw [if_pos ⟨c_9, c_21, c_32⟩, if_pos c_63])
          have hP : va_P D vwCl (wM b cI cZ pl br md tn (nI n) sp we tw (kIf (cSell h k u q) (upd sl (cl k) u) sl) (kIf (cSell h k u q) (upd pr (cl k) q) pr) al mo (nI h) cr tu le to ia 0) H := by rw [e9]; exact hP
          have hD : va_D A (wM b cI cZ pl br md tn (nI n) sp we tw (kIf (cSell h k u q) (upd sl (cl k) u) sl) (kIf (cSell h k u q) (upd pr (cl k) q) pr) al mo (nI h) cr tu le to ia 0) := by rw [e9]; exact hD
          clear e9
          have e9 : (nI (cSell h k u q)) = 0 := by rw [show cSell h k u q = 0 from by unfold cSell; rw [if_pos ⟨c_9, c_21, c_32⟩, if_pos c_63]]; rfl
          have hP : va_P D vwCl (wM b cI cZ pl br md tn (nI n) sp we tw (kIf (cSell h k u q) (upd sl (cl k) u) sl) (kIf (cSell h k u q) (upd pr (cl k) q) pr) al mo (nI h) cr tu le to ia (nI (cSell h k u q))) H := by rw [e9]; exact hP
          have hD : va_D A (wM b cI cZ pl br md tn (nI n) sp we tw (kIf (cSell h k u q) (upd sl (cl k) u) sl) (kIf (cSell h k u q) (upd pr (cl k) q) pr) al mo (nI h) cr tu le to ia (nI (cSell h k u q))) := by rw [e9]; exact hD
          clear e9
          refine lv_iload hx hb dX5_sell_101 (lv_at hl 0 rfl) ?_
          exact k_endI (ty := .int) hx hb hr hlocks (rfl) (fun _ => rfl) hP hD hS dX5_sell_103
        · have c_63 : ¬ h / 24 < cl k / 24 := fun z => c_63 ((nI_ltI (a := h) (b := 24 * (cl k / 24)) (by omega) (by omega)).mpr (by omega))
          refine lv_iconst (v := 2) hx hb dX5_sell_66 (by decide) ?_
          refine lv_goto (tgt := 71) hx hb dX5_sell_67 (by decide) ?_
          refine k_ui (WR := []) (WN := (wM b cI cZ pl br md tn (nI n) sp we tw sl pr al mo (nI h) cr tu le to ia 2)) (As := [.int 2]) (rest := []) (nL := 6) ⟨hx, hb, hml, hown, hts⟩ hK hP hD hS hA (c_X5_fails l D b cI cZ _ pl br md tn (nI n) sp we tw sl pr al mo (nI h) cr tu le to ia th 2) [0, 1, 2, 3, 4, 5, 6, 7, 8, 9, 10, 11, 12, 13, 14, 15, 16] [] [0, 1, 2, 3, 4, 5, 6, 7, 8, 9, 10, 11, 12, 13, 14, 15, 16] rfl rfl (by decide) rfl (by decide) (by decide) rfl rfl (by decide) 0 rfl rfl rfl (cwV 1 hts gX5_sell_X5_fails rfl rfl rfl (by decide +kernel) ⟨Nat.le_of_ble_eq_true rfl, Nat.le_of_ble_eq_true rfl⟩) rfl hl.1 rfl (Nat.le_of_ble_eq_true rfl) dX5_sell_71 ⟨Nat.zero_le _, Nat.zero_le _⟩ (fun r9 H locs hr9 hP hD hS => ?_)
          subst hr9
          refine lv_if_eq (tgt := 79) hx hb dX5_sell_74 (by decide) (fun c_74 => by first | exact absurd c_74 (by decide) | exact absurd (by decide) c_74) (fun c_74 => ?_)
          have e9 : (kIf (cSell h k u q) (upd sl (cl k) u) sl) = sl := kIf_s (fun z9 => absurd (z9.symm.trans (show cSell h k u q = 2 from by unfold cSell; rw [if_pos ⟨c_9, c_21, c_32⟩, if_neg c_63])) (by decide))
          have hP : va_P D vwCl (wM b cI cZ pl br md tn (nI n) sp we tw (kIf (cSell h k u q) (upd sl (cl k) u) sl) pr al mo (nI h) cr tu le to ia 2) H := by rw [e9]; exact hP
          have hD : va_D A (wM b cI cZ pl br md tn (nI n) sp we tw (kIf (cSell h k u q) (upd sl (cl k) u) sl) pr al mo (nI h) cr tu le to ia 2) := by rw [e9]; exact hD
          clear e9
          have e9 : (kIf (cSell h k u q) (upd pr (cl k) q) pr) = pr := kIf_s (fun z9 => absurd (z9.symm.trans (show cSell h k u q = 2 from by unfold cSell; rw [if_pos ⟨c_9, c_21, c_32⟩, if_neg c_63])) (by decide))
          have hP : va_P D vwCl (wM b cI cZ pl br md tn (nI n) sp we tw (kIf (cSell h k u q) (upd sl (cl k) u) sl) (kIf (cSell h k u q) (upd pr (cl k) q) pr) al mo (nI h) cr tu le to ia 2) H := by rw [e9]; exact hP
          have hD : va_D A (wM b cI cZ pl br md tn (nI n) sp we tw (kIf (cSell h k u q) (upd sl (cl k) u) sl) (kIf (cSell h k u q) (upd pr (cl k) q) pr) al mo (nI h) cr tu le to ia 2) := by rw [e9]; exact hD
          clear e9
          have e9 : (nI (cSell h k u q)) = 2 := by rw [show cSell h k u q = 2 from by unfold cSell; rw [if_pos ⟨c_9, c_21, c_32⟩, if_neg c_63]]; rfl
          have hP : va_P D vwCl (wM b cI cZ pl br md tn (nI n) sp we tw (kIf (cSell h k u q) (upd sl (cl k) u) sl) (kIf (cSell h k u q) (upd pr (cl k) q) pr) al mo (nI h) cr tu le to ia (nI (cSell h k u q))) H := by rw [e9]; exact hP
          have hD : va_D A (wM b cI cZ pl br md tn (nI n) sp we tw (kIf (cSell h k u q) (upd sl (cl k) u) sl) (kIf (cSell h k u q) (upd pr (cl k) q) pr) al mo (nI h) cr tu le to ia (nI (cSell h k u q))) := by rw [e9]; exact hD
          clear e9
          refine lv_iconst (v := (-1)) hx hb dX5_sell_77 (by decide) ?_
          exact k_endI (ty := .int) hx hb hr hlocks (rfl) (fun z9 => absurd (z9.symm.trans (show cSell h k u q = 2 from by unfold cSell; rw [if_pos ⟨c_9, c_21, c_32⟩, if_neg c_63])) (by decide)) hP hD hS dX5_sell_78
