set_option maxHeartbeats 4000000 in
set_option maxRecDepth 100000 in
theorem c_X3_speedIn (l : Launch) (D : va_G) (a : Nat → Nat) (cI cZ : ClassId) (sp : Nat → Int32) (we : Nat → Int32) (tw : Nat → Int32) (k : Nat) (hk : k < 480) : kRd l yX3_speedIn wsX3_speedIn ({ frames := 0, cells := 0, slots := 0, locals := 0 }) [.ref (a 1), .int (nI k)] D cI cZ (wW a cI cZ sp we tw) (fun r => r = sp k) := by
  refine Met.ofW (cc := cX3_speedIn) (maxL := 2) (ret := (some .int)) (by decide) rfl ?_
  intro p e s m args below meth c s₁ B hml hv
  obtain ⟨rfl, hP, hK⟩ := hv
  have hx := B.exec
  have hb := B.bytes
  have hr := B.returns
  have hts := atoms_spec (ws := wsX3_speedIn) B.pre
  have hown : s.vm.findClass RX3 = some m.cls := findClass_of_methodNamed B.named
  have hlocks := B.notSynchronized
  have hl := lv_entry ([.ref (a 1), .int (nI k)]) (n := 2) (Nat.le_of_ble_eq_true rfl)
  rw [lg_entry_eq]
  generalize (lg_sl ([.ref (a 1), .int (nI k)]) ++ List.replicate (2 - (lg_sl ([.ref (a 1), .int (nI k)])).length) Slot.unset).toArray = ls at hl ⊢
  have hl : lv_has ls 2 [(0, .ref (a 1)), (1, .int (nI k))] := hl
  refine lv_aload_n hx hb dX3_speedIn_0 rfl (lv_at hl 0 rfl) ?_
  refine va_get (D := D) (ci := 3) (v := .ref (a 2)) (C := RX3) (T := TX3) (N := 3) hx hb hts (by decide +kernel) hown hK.1 hP 0 rfl rfl 0 (by decide) (hts (.fieldLink RX3 9 "Turbineorchard$Weather" "speeds" "[I") (by decide +kernel)) (fun _ h9 => h9) rfl dX3_speedIn_1 ?_
  refine lv_iload_n hx hb dX3_speedIn_4 rfl (lv_at hl 1 rfl) ?_
  refine k_iald hx hb hK.1 hP 1 0 rfl rfl k (rfl) (by omega) (by decide) dX3_speedIn_5 ?_
  exact k_endR (ty := .int) hx hb hr hlocks (rfl) (rfl) dX3_speedIn_6

set_option maxHeartbeats 4000000 in
set_option maxRecDepth 100000 in
theorem c_X3_isWestIn (l : Launch) (D : va_G) (a : Nat → Nat) (cI cZ : ClassId) (sp : Nat → Int32) (we : Nat → Int32) (tw : Nat → Int32) (k : Nat) (hk : k < 480) (hw : we k = 0 ∨ we k = 1) : kRd l yX3_isWestIn wsX3_isWestIn ({ frames := 0, cells := 0, slots := 0, locals := 0 }) [.ref (a 1), .int (nI k)] D cI cZ (wW a cI cZ sp we tw) (fun r => r = we k) := by
  refine Met.ofW (cc := cX3_isWestIn) (maxL := 2) (ret := (some .boolean)) (by decide) rfl ?_
  intro p e s m args below meth c s₁ B hml hv
  obtain ⟨rfl, hP, hK⟩ := hv
  have hx := B.exec
  have hb := B.bytes
  have hr := B.returns
  have hts := atoms_spec (ws := wsX3_isWestIn) B.pre
  have hown : s.vm.findClass RX3 = some m.cls := findClass_of_methodNamed B.named
  have hlocks := B.notSynchronized
  have hl := lv_entry ([.ref (a 1), .int (nI k)]) (n := 2) (Nat.le_of_ble_eq_true rfl)
  rw [lg_entry_eq]
  generalize (lg_sl ([.ref (a 1), .int (nI k)]) ++ List.replicate (2 - (lg_sl ([.ref (a 1), .int (nI k)])).length) Slot.unset).toArray = ls at hl ⊢
  have hl : lv_has ls 2 [(0, .ref (a 1)), (1, .int (nI k))] := hl
  refine lv_aload_n hx hb dX3_isWestIn_0 rfl (lv_at hl 0 rfl) ?_
  refine va_get (D := D) (ci := 3) (v := .ref (a 3)) (C := RX3) (T := TX3) (N := 3) hx hb hts (by decide +kernel) hown hK.1 hP 0 rfl rfl 1 (by decide) (hts (.fieldLink RX3 15 "Turbineorchard$Weather" "wests" "[Z") (by decide +kernel)) (fun _ h9 => h9) rfl dX3_isWestIn_1 ?_
  refine lv_iload_n hx hb dX3_isWestIn_4 rfl (lv_at hl 1 rfl) ?_
  refine k_zald hx hb hK.1 hP 2 1 rfl rfl k (rfl) (by omega) (by decide) dX3_isWestIn_5 ?_
  exact k_endR (ty := .boolean) hx hb hr hlocks (by rcases hw with h | h <;> rw [h] <;> rfl) (rfl) dX3_isWestIn_6

set_option maxHeartbeats 4000000 in
set_option maxRecDepth 100000 in
theorem c_X3_wavesIn (l : Launch) (D : va_G) (a : Nat → Nat) (cI cZ : ClassId) (sp : Nat → Int32) (we : Nat → Int32) (tw : Nat → Int32) (k : Nat) (hk : k < 480) : kRd l yX3_wavesIn wsX3_wavesIn ({ frames := 0, cells := 0, slots := 0, locals := 0 }) [.ref (a 1), .int (nI k)] D cI cZ (wW a cI cZ sp we tw) (fun r => r = fWaves sp tw k) := by
  refine Met.ofW (cc := cX3_wavesIn) (maxL := 2) (ret := (some .int)) (by decide) rfl ?_
  intro p e s m args below meth c s₁ B hml hv
  obtain ⟨rfl, hP, hK⟩ := hv
  have hx := B.exec
  have hb := B.bytes
  have hr := B.returns
  have hts := atoms_spec (ws := wsX3_wavesIn) B.pre
  have hown : s.vm.findClass RX3 = some m.cls := findClass_of_methodNamed B.named
  have hlocks := B.notSynchronized
  have hl := lv_entry ([.ref (a 1), .int (nI k)]) (n := 2) (Nat.le_of_ble_eq_true rfl)
  rw [lg_entry_eq]
  generalize (lg_sl ([.ref (a 1), .int (nI k)]) ++ List.replicate (2 - (lg_sl ([.ref (a 1), .int (nI k)])).length) Slot.unset).toArray = ls at hl ⊢
  have hl : lv_has ls 2 [(0, .ref (a 1)), (1, .int (nI k))] := hl
  refine lv_aload_n hx hb dX3_wavesIn_0 rfl (lv_at hl 0 rfl) ?_
  refine va_get (D := D) (ci := 3) (v := .ref (a 4)) (C := RX3) (T := TX3) (N := 3) hx hb hts (by decide +kernel) hown hK.1 hP 0 rfl rfl 2 (by decide) (hts (.fieldLink RX3 19 "Turbineorchard$Weather" "toldWaves" "[I") (by decide +kernel)) (fun _ h9 => h9) rfl dX3_wavesIn_1 ?_
  refine lv_iload_n hx hb dX3_wavesIn_4 rfl (lv_at hl 1 rfl) ?_
  refine k_iald hx hb hK.1 hP 3 0 rfl rfl k (rfl) (by omega) (by decide) dX3_wavesIn_5 ?_
  refine lv_iconst (v := (-1)) hx hb dX3_wavesIn_6 (by decide) ?_
  refine lv_icmp_ne (tgt := 21) hx hb dX3_wavesIn_7 (by decide) (fun c_7 => ?_) (fun c_7 => ?_)
  · refine lv_aload_n hx hb dX3_wavesIn_21 rfl (lv_at hl 0 rfl) ?_
    refine va_get (D := D) (ci := 3) (v := .ref (a 4)) (C := RX3) (T := TX3) (N := 3) hx hb hts (by decide +kernel) hown hK.1 hP 0 rfl rfl 2 (by decide) (hts (.fieldLink RX3 19 "Turbineorchard$Weather" "toldWaves" "[I") (by decide +kernel)) (fun _ h9 => h9) rfl dX3_wavesIn_22 ?_
    refine lv_iload_n hx hb dX3_wavesIn_25 rfl (lv_at hl 1 rfl) ?_
    refine k_iald hx hb hK.1 hP 3 0 rfl rfl k (rfl) (by omega) (by decide) dX3_wavesIn_26 ?_
    exact k_endR (ty := .int) hx hb hr hlocks (rfl) (by unfold fWaves; rw [if_neg c_7]) dX3_wavesIn_27
  · refine lv_aload_n hx hb dX3_wavesIn_10 rfl (lv_at hl 0 rfl) ?_
    refine va_get (D := D) (ci := 3) (v := .ref (a 2)) (C := RX3) (T := TX3) (N := 3) hx hb hts (by decide +kernel) hown hK.1 hP 0 rfl rfl 0 (by decide) (hts (.fieldLink RX3 9 "Turbineorchard$Weather" "speeds" "[I") (by decide +kernel)) (fun _ h9 => h9) rfl dX3_wavesIn_11 ?_
    refine lv_iload_n hx hb dX3_wavesIn_14 rfl (lv_at hl 1 rfl) ?_
    refine k_iald hx hb hK.1 hP 1 0 rfl rfl k (rfl) (by omega) (by decide) dX3_wavesIn_15 ?_
    refine lv_iconst (v := 3) hx hb dX3_wavesIn_16 (by decide) ?_
    refine lv_idiv hx hb dX3_wavesIn_17 (by decide) ?_
    refine lv_goto (tgt := 27) hx hb dX3_wavesIn_18 (by decide) ?_
    exact k_endR (ty := .int) hx hb hr hlocks (rfl) (by unfold fWaves; rw [if_pos c_7]) dX3_wavesIn_27

set_option maxHeartbeats 4000000 in
set_option maxRecDepth 100000 in
theorem c_X3_tellWaves (l : Launch) (D : va_G) (a : Nat → Nat) (cI cZ : ClassId) (sz : Nat) (sp : Nat → Int32) (we : Nat → Int32) (tw : Nat → Int32) (k : Nat) (x : Int32) (hk : k < 480) : kUv l yX3_tellWaves wsX3_tellWaves ({ frames := 0, cells := 0, slots := 0, locals := 0 }) [.ref (a 1), .int (nI k), .int x] D cI cZ sz (wW a cI cZ sp we tw) (wW a cI cZ sp we (upd tw k x)) := by
  refine Met.ofW (cc := cX3_tellWaves) (maxL := 3) (ret := none) (by decide) rfl ?_
  intro p e s m args below meth c s₁ B hml hv
  obtain ⟨rfl, hsz, hP, hK, hD0⟩ := hv
  have hx := B.exec
  have hb := B.bytes
  have hr := B.returns
  have hts := atoms_spec (ws := wsX3_tellWaves) B.pre
  have hown : s.vm.findClass RX3 = some m.cls := findClass_of_methodNamed B.named
  have hlocks := B.notSynchronized
  subst hsz
  have hD := hD0.self (sz := s.heap.size)
  generalize hAe : va_A (wW a cI cZ sp we tw) s.heap.size = A at hD ⊢
  have hA : ∀ q : Nat, s.heap.size ≤ q → A q := fun q h => by rw [← hAe]; exact Or.inr h
  have hS : va_S A s.heap s.heap [] := va_S.rf
  have hl := lv_entry ([.ref (a 1), .int (nI k), .int x]) (n := 3) (Nat.le_of_ble_eq_true rfl)
  rw [lg_entry_eq]
  generalize (lg_sl ([.ref (a 1), .int (nI k), .int x]) ++ List.replicate (3 - (lg_sl ([.ref (a 1), .int (nI k), .int x])).length) Slot.unset).toArray = ls at hl ⊢
  have hl : lv_has ls 3 [(0, .ref (a 1)), (1, .int (nI k)), (2, .int x)] := hl
  refine lv_aload_n hx hb dX3_tellWaves_0 rfl (lv_at hl 0 rfl) ?_
  refine va_get (D := D) (ci := 3) (v := .ref (a 4)) (C := RX3) (T := TX3) (N := 3) hx hb hts (by decide +kernel) hown hK.1 hP 0 rfl rfl 2 (by decide) (hts (.fieldLink RX3 19 "Turbineorchard$Weather" "toldWaves" "[I") (by decide +kernel)) (fun _ h9 => h9) rfl dX3_tellWaves_1 ?_
  refine lv_iload_n hx hb dX3_tellWaves_4 rfl (lv_at hl 1 rfl) ?_
  refine lv_iload_n hx hb dX3_tellWaves_5 rfl (lv_at hl 2 rfl) ?_
  refine k_iast hx hb hK.1 hP hD hS 3 0 rfl rfl k (rfl) (by omega) (by decide) dX3_tellWaves_6 (fun H locs hP hD hS => ?_)
  have hP : va_P D vwCl (wW a cI cZ sp we (upd tw k x)) H := hP
  have hD : va_D A (wW a cI cZ sp we (upd tw k x)) := hD
  exact k_endV (sz := 0) hx hb hr hlocks hP hD hS dX3_tellWaves_7

set_option maxHeartbeats 4000000 in
set_option maxRecDepth 100000 in
theorem c_X3_tellWind (l : Launch) (D : va_G) (a : Nat → Nat) (cI cZ : ClassId) (sz : Nat) (sp : Nat → Int32) (we : Nat → Int32) (tw : Nat → Int32) (f : Nat) (t : Nat) (v : Int32) (w : Int32) (hft : f ≤ t) (ht : t < 480) (hw : w = 0 ∨ w = 1) : kUv l yX3_tellWind wsX3_tellWind ({ frames := 0, cells := 0, slots := 0, locals := 0 }) [.ref (a 1), .int (nI f), .int (nI t), .int v, .int w] D cI cZ sz (wW a cI cZ sp we tw) (wW a cI cZ (setR sp f (t + 1) v) (setR we f (t + 1) w) tw) := by
  refine Met.ofW (cc := cX3_tellWind) (maxL := 6) (ret := none) (by decide) rfl ?_
  intro p e s m args below meth c s₁ B hml hv
  obtain ⟨rfl, hsz, hP, hK, hD0⟩ := hv
  have hx := B.exec
  have hb := B.bytes
  have hr := B.returns
  have hts := atoms_spec (ws := wsX3_tellWind) B.pre
  have hown : s.vm.findClass RX3 = some m.cls := findClass_of_methodNamed B.named
  have hlocks := B.notSynchronized
  subst hsz
  have hD := hD0.self (sz := s.heap.size)
  generalize hAe : va_A (wW a cI cZ sp we tw) s.heap.size = A at hD ⊢
  have hA : ∀ q : Nat, s.heap.size ≤ q → A q := fun q h => by rw [← hAe]; exact Or.inr h
  have hS : va_S A s.heap s.heap [] := va_S.rf
  have hl := lv_entry ([.ref (a 1), .int (nI f), .int (nI t), .int v, .int w]) (n := 6) (Nat.le_of_ble_eq_true rfl)
  rw [lg_entry_eq]
  generalize (lg_sl ([.ref (a 1), .int (nI f), .int (nI t), .int v, .int w]) ++ List.replicate (6 - (lg_sl ([.ref (a 1), .int (nI f), .int (nI t), .int v, .int w])).length) Slot.unset).toArray = ls at hl ⊢
  have hl : lv_has ls 6 [(0, .ref (a 1)), (1, .int (nI f)), (2, .int (nI t)), (3, .int v), (4, .int w)] := hl
  refine lv_iload_n hx hb dX3_tellWind_0 rfl (lv_at hl 1 rfl) ?_
  have e9 : sp = (setR sp f f v) := (setR_0 sp f v).symm
  rw [e9] at hP hD
  clear e9
  have e9 : we = (setR we f f w) := (setR_0 we f w).symm
  rw [e9] at hP hD
  clear e9
  refine lv_istore (lv' := [(5, .int (nI f)), (0, .ref (a 1)), (1, .int (nI f)), (2, .int (nI t)), (3, .int v), (4, .int w)]) hx hb dX3_tellWind_1 hl (by decide) rfl (fun ls hl => ?_)
  have loop_3 : ∀ (nn : Nat) (k : Nat), t + 1 - k < nn → (f ≤ k) → (k ≤ t + 1) → ∀ (H : Heap) (locs : List Loc), va_P D vwCl (wW a cI cZ (setR sp f k v) (setR we f k w) tw) H → va_D A (wW a cI cZ (setR sp f k v) (setR we f k w) tw) → va_S A s.heap H locs → ∀ (ls : Array Slot), lv_has ls 6 [(0, .ref (a 1)), (2, .int (nI t)), (3, .int v), (4, .int w), (5, .int (nI k))] → W p l e (headSpec wsX3_tellWind ({ frames := 0, cells := 0, slots := 0, locals := 0 })).room s m ([.ref (a 1), .int (nI f), .int (nI t), .int v, .int w] : List Value).toArray below meth c H locs 0 0 (MQ below (va_Qv (fun _ : Unit => True) (fun _ t9 => kAt D A (wW a cI cZ (setR sp f (t + 1) v) (setR we f (t + 1) w) tw) t9) A) ([.ref (a 1), .int (nI f), .int (nI t), .int v, .int w] : List Value).toArray s 0 0 A) (F0 m 3 ls []) := by
    intro nn
    induction nn with
    | zero => intro k hm; exact absurd hm (by omega)
    | succ nn ih_3 =>
      intro k hm hf hk H locs hP hD hS ls hl
      refine lv_iload hx hb dX3_tellWind_3 (lv_at hl 4 rfl) ?_
      refine lv_iload_n hx hb dX3_tellWind_5 rfl (lv_at hl 1 rfl) ?_
      refine lv_icmp_gt (tgt := 32) hx hb dX3_tellWind_6 (by decide) (fun c_6 => ?_) (fun c_6 => ?_)
      · have c_6 : t < k := (nI_ltI (by omega) (by omega)).mp c_6
        have e8 : k = t + 1 := by omega
        subst e8
        exact k_endV (sz := 0) hx hb hr hlocks hP hD hS dX3_tellWind_32
      · have c_6 : k ≤ t := Nat.le_of_not_lt (fun h => c_6 ((nI_ltI (a := t) (b := k) (by omega) (by omega)).mpr h))
        refine lv_aload_n hx hb dX3_tellWind_9 rfl (lv_at hl 0 rfl) ?_
        refine va_get (D := D) (ci := 3) (v := .ref (a 2)) (C := RX3) (T := TX3) (N := 3) hx hb hts (by decide +kernel) hown hK.1 hP 0 rfl rfl 0 (by decide) (hts (.fieldLink RX3 9 "Turbineorchard$Weather" "speeds" "[I") (by decide +kernel)) (fun _ h9 => h9) rfl dX3_tellWind_10 ?_
        refine lv_iload hx hb dX3_tellWind_13 (lv_at hl 4 rfl) ?_
        refine lv_iload_n hx hb dX3_tellWind_15 rfl (lv_at hl 2 rfl) ?_
        refine k_iast hx hb hK.1 hP hD hS 1 0 rfl rfl k (rfl) (by omega) (by decide) dX3_tellWind_16 (fun H locs hP hD hS => ?_)
        have hP : va_P D vwCl (wW a cI cZ (upd (setR sp f k v) k v) (setR we f k w) tw) H := hP
        have hD : va_D A (wW a cI cZ (upd (setR sp f k v) k v) (setR we f k w) tw) := hD
        refine lv_aload_n hx hb dX3_tellWind_17 rfl (lv_at hl 0 rfl) ?_
        refine va_get (D := D) (ci := 3) (v := .ref (a 3)) (C := RX3) (T := TX3) (N := 3) hx hb hts (by decide +kernel) hown hK.1 hP 0 rfl rfl 1 (by decide) (hts (.fieldLink RX3 15 "Turbineorchard$Weather" "wests" "[Z") (by decide +kernel)) (fun _ h9 => h9) rfl dX3_tellWind_18 ?_
        refine lv_iload hx hb dX3_tellWind_21 (lv_at hl 4 rfl) ?_
        refine lv_iload hx hb dX3_tellWind_23 (lv_at hl 3 rfl) ?_
        refine k_zast hx hb hK.1 hP hD hS 2 1 rfl rfl (by rcases hw with h | h <;> rw [h] <;> rfl) k (rfl) (by omega) (by decide) dX3_tellWind_25 (fun H locs hP hD hS => ?_)
        have hP : va_P D vwCl (wW a cI cZ (upd (setR sp f k v) k v) (upd (setR we f k w) k w) tw) H := hP
        have hD : va_D A (wW a cI cZ (upd (setR sp f k v) k v) (upd (setR we f k w) k w) tw) := hD
        have e9 : (upd (setR sp f k v) k v) = (setR sp f (k + 1) v) := setR_1 sp v hf
        rw [e9] at hP hD
        clear e9
        have e9 : (upd (setR we f k w) k w) = (setR we f (k + 1) w) := setR_1 we w hf
        rw [e9] at hP hD
        clear e9
        refine lv_iinc (v := nI (k + 1)) (lv' := [(5, .int (nI (k + 1))), (0, .ref (a 1)), (2, .int (nI t)), (3, .int v), (4, .int w)]) hx hb dX3_tellWind_26 hl (k := 4) rfl (nI_1 _) (by decide) rfl (fun ls hl => ?_)
        refine lv_goto (tgt := 3) hx hb dX3_tellWind_29 (by decide) ?_
        exact ih_3 (k + 1) (by omega) (by omega) (by omega) _ _ hP hD hS _ (lv_sub hl [1, 2, 3, 4, 0] rfl)
  exact loop_3 (t + 1 - f + 1) f (by omega) (by omega) (by omega) _ _ hP hD hS _ (lv_sub hl [1, 3, 4, 5, 0] rfl)
