set_option maxHeartbeats 4000000 in
set_option maxRecDepth 100000 in
theorem c_X4_isBoat (l : Launch) (x : Int32) : kPs l yX4_isBoat wsX4_isBoat ({ frames := 1, cells := 0, slots := 0, locals := 22 }) [.int x] (fun r => r = bI (0 ≤ x ∧ x ≤ 2)) := by
  refine Met.ofW (cc := cX4_isBoat) (maxL := 1) (ret := (some .boolean)) (by decide) rfl ?_
  intro p e s m args below meth c s₁ B hml hv
  obtain ⟨rfl, -⟩ := hv
  have hx := B.exec
  have hb := B.bytes
  have hr := B.returns
  have hts := atoms_spec (ws := wsX4_isBoat) B.pre
  have hown : s.vm.findClass RX4 = some m.cls := findClass_of_methodNamed B.named
  have hlocks := B.notSynchronized
  have hl := lv_entry ([.int x]) (n := 1) (Nat.le_of_ble_eq_true rfl)
  rw [lg_entry_eq]
  generalize (lg_sl ([.int x]) ++ List.replicate (1 - (lg_sl ([.int x])).length) Slot.unset).toArray = ls at hl ⊢
  have hl : lv_has ls 1 [(0, .int x)] := hl
  refine lv_iload_n hx hb dX4_isBoat_0 rfl (lv_at hl 0 rfl) ?_
  refine lv_iconst (v := 0) hx hb dX4_isBoat_1 (by decide) ?_
  refine lv_iconst (v := 2) hx hb dX4_isBoat_2 (by decide) ?_
  refine k_ps (As := [.int x, .int 0, .int 2]) (rest := []) (nL := 1) ⟨hx, hb, hml, hown, hts⟩ (c_X4_isWithin l x 0 2) (va_cwS 3 hts gX4_isBoat_X4_isWithin rfl rfl rfl (by decide +kernel) ⟨Nat.le_of_ble_eq_true rfl, Nat.le_of_ble_eq_true rfl⟩) rfl hl.1 rfl (Nat.le_of_ble_eq_true rfl) dX4_isBoat_3 ⟨Nat.zero_le _, Nat.zero_le _⟩ (fun r9 hr9 => ?_)
  subst hr9
  exact k_endR (ty := .boolean) hx hb hr hlocks (bI_z) (rfl) dX4_isBoat_6

set_option maxHeartbeats 4000000 in
set_option maxRecDepth 100000 in
theorem c_X4_isToCome (l : Launch) (D : va_G) (a : Nat → Nat) (cI cZ : ClassId) (h : Nat) (x : Int32) : kRd l yX4_isToCome wsX4_isToCome ({ frames := 1, cells := 0, slots := 0, locals := 22 }) [.ref (a 0), .int x] D cI cZ (wT a cI cZ (nI h)) (fun r => r = bI (nI h ≤ x ∧ x ≤ 479)) := by
  refine Met.ofW (cc := cX4_isToCome) (maxL := 2) (ret := (some .boolean)) (by decide) rfl ?_
  intro p e s m args below meth c s₁ B hml hv
  obtain ⟨rfl, hP, hK⟩ := hv
  have hx := B.exec
  have hb := B.bytes
  have hr := B.returns
  have hts := atoms_spec (ws := wsX4_isToCome) B.pre
  have hown : s.vm.findClass RX4 = some m.cls := findClass_of_methodNamed B.named
  have hlocks := B.notSynchronized
  have hl := lv_entry ([.ref (a 0), .int x]) (n := 2) (Nat.le_of_ble_eq_true rfl)
  rw [lg_entry_eq]
  generalize (lg_sl ([.ref (a 0), .int x]) ++ List.replicate (2 - (lg_sl ([.ref (a 0), .int x])).length) Slot.unset).toArray = ls at hl ⊢
  have hl : lv_has ls 2 [(0, .ref (a 0)), (1, .int x)] := hl
  refine lv_iload_n hx hb dX4_isToCome_0 rfl (lv_at hl 1 rfl) ?_
  refine lv_aload_n hx hb dX4_isToCome_1 rfl (lv_at hl 0 rfl) ?_
  refine va_get (D := D) (ci := 4) (v := .int (nI h)) (C := RX4) (T := TX4) (N := 5) hx hb hts (by decide +kernel) hown hK.1 hP 0 rfl rfl 4 (by decide) (hts (.fieldLink RX4 37 "Turbineorchard" "now" "I") (by decide +kernel)) (fun _ h9 => h9) rfl dX4_isToCome_2 ?_
  refine lv_sipush (v := 479) hx hb dX4_isToCome_5 (by decide) ?_
  refine k_ps (As := [.int x, .int (nI h), .int 479]) (rest := []) (nL := 2) ⟨hx, hb, hml, hown, hts⟩ (c_X4_isWithin l x (nI h) 479) (va_cwS 3 hts gX4_isToCome_X4_isWithin rfl rfl rfl (by decide +kernel) ⟨Nat.le_of_ble_eq_true rfl, Nat.le_of_ble_eq_true rfl⟩) rfl hl.1 rfl (Nat.le_of_ble_eq_true rfl) dX4_isToCome_8 ⟨Nat.zero_le _, Nat.zero_le _⟩ (fun r9 hr9 => ?_)
  subst hr9
  exact k_endR (ty := .boolean) hx hb hr hlocks (bI_z) (rfl) dX4_isToCome_11

set_option maxHeartbeats 4000000 in
set_option maxRecDepth 100000 in
theorem c_X4_isOver (l : Launch) (D : va_G) (a : Nat → Nat) (cI cZ : ClassId) (h : Nat) (x : Int32) : kRd l yX4_isOver wsX4_isOver ({ frames := 1, cells := 0, slots := 0, locals := 22 }) [.ref (a 0), .int x] D cI cZ (wT a cI cZ (nI h)) (fun r => r = bI (0 ≤ x ∧ x ≤ nI h - 1)) := by
  refine Met.ofW (cc := cX4_isOver) (maxL := 2) (ret := (some .boolean)) (by decide) rfl ?_
  intro p e s m args below meth c s₁ B hml hv
  obtain ⟨rfl, hP, hK⟩ := hv
  have hx := B.exec
  have hb := B.bytes
  have hr := B.returns
  have hts := atoms_spec (ws := wsX4_isOver) B.pre
  have hown : s.vm.findClass RX4 = some m.cls := findClass_of_methodNamed B.named
  have hlocks := B.notSynchronized
  have hl := lv_entry ([.ref (a 0), .int x]) (n := 2) (Nat.le_of_ble_eq_true rfl)
  rw [lg_entry_eq]
  generalize (lg_sl ([.ref (a 0), .int x]) ++ List.replicate (2 - (lg_sl ([.ref (a 0), .int x])).length) Slot.unset).toArray = ls at hl ⊢
  have hl : lv_has ls 2 [(0, .ref (a 0)), (1, .int x)] := hl
  refine lv_iload_n hx hb dX4_isOver_0 rfl (lv_at hl 1 rfl) ?_
  refine lv_iconst (v := 0) hx hb dX4_isOver_1 (by decide) ?_
  refine lv_aload_n hx hb dX4_isOver_2 rfl (lv_at hl 0 rfl) ?_
  refine va_get (D := D) (ci := 4) (v := .int (nI h)) (C := RX4) (T := TX4) (N := 5) hx hb hts (by decide +kernel) hown hK.1 hP 0 rfl rfl 4 (by decide) (hts (.fieldLink RX4 37 "Turbineorchard" "now" "I") (by decide +kernel)) (fun _ h9 => h9) rfl dX4_isOver_3 ?_
  refine lv_iconst (v := 1) hx hb dX4_isOver_6 (by decide) ?_
  refine lv_isub hx hb dX4_isOver_7 ?_
  refine k_ps (As := [.int x, .int 0, .int ((nI h) - 1)]) (rest := []) (nL := 2) ⟨hx, hb, hml, hown, hts⟩ (c_X4_isWithin l x 0 ((nI h) - 1)) (va_cwS 3 hts gX4_isOver_X4_isWithin rfl rfl rfl (by decide +kernel) ⟨Nat.le_of_ble_eq_true rfl, Nat.le_of_ble_eq_true rfl⟩) rfl hl.1 rfl (Nat.le_of_ble_eq_true rfl) dX4_isOver_8 ⟨Nat.zero_le _, Nat.zero_le _⟩ (fun r9 hr9 => ?_)
  subst hr9
  exact k_endR (ty := .boolean) hx hb hr hlocks (bI_z) (rfl) dX4_isOver_11

set_option maxHeartbeats 4000000 in
set_option maxRecDepth 100000 in
theorem c_X4_workOnRepairs (l : Launch) (D : va_G) (a : Nat → Nat) (cI cZ : ClassId) (sz : Nat) (sp : Nat → Int32) (we : Nat → Int32) (tw : Nat → Int32) (ta : Nat → Int32) (pl : Nat → Int32) (br : Nat → Int32) (st : Nat → Int32) (md : Nat → Int32) (bc : Int32) (tu : Nat → Int32) (le : Nat → Int32) (cr : Nat → Int32) (to : Nat → Int32) (ia : Nat → Int32) (sl : Nat → Int32) (pr : Nat → Int32) (mk : Nat → Int32) (pc : Int64) (n : Nat) (h : Nat) (hn : n ≤ 12) (hh : h < 480) (hpl : ∀ k, k < n → pl k = nI (fP pl k) ∧ fP pl k < 24) (htu : ∀ b, b < 3 → ¬ tu b = -1 → tu b = nI (fP tu b) ∧ fP tu b < n) : kUv l yX4_workOnRepairs wsX4_workOnRepairs ({ frames := 4, cells := 0, slots := 0, locals := 88 }) [.ref (a 0)] D cI cZ sz (wT a cI cZ (nI h) ++ (wW a cI cZ sp we tw ++ (wF a cI cZ ta pl br st md (nI n) bc ++ (wE a cI cZ tu le cr to ia ++ (wG a cI cZ sl pr mk pc))))) (wT a cI cZ (nI h) ++ (wW a cI cZ sp we tw ++ (wF a cI cZ ta pl br (fStW n ta pl tu st (fWk (fWaves sp tw h) tu cr to) 3) md (nI n) bc ++ (wE a cI cZ tu (fDec le (fWk (fWaves sp tw h) tu cr to) 3) cr (fInc to (fWk (fWaves sp tw h) tu cr to) 3) (fInc ia (fWk (fWaves sp tw h) tu cr to) 3) ++ (wG a cI cZ sl pr mk pc))))) := by
  refine Met.ofW (cc := cX4_workOnRepairs) (maxL := 2) (ret := none) (by decide) rfl ?_
  intro p e s m args below meth c s₁ B hml hv
  obtain ⟨rfl, hsz, hP, hK, hD0⟩ := hv
  have hx := B.exec
  have hb := B.bytes
  have hr := B.returns
  have hts := atoms_spec (ws := wsX4_workOnRepairs) B.pre
  have hown : s.vm.findClass RX4 = some m.cls := findClass_of_methodNamed B.named
  have hlocks := B.notSynchronized
  subst hsz
  have hD := hD0.self (sz := s.heap.size)
  generalize hAe : va_A (wT a cI cZ (nI h) ++ (wW a cI cZ sp we tw ++ (wF a cI cZ ta pl br st md (nI n) bc ++ (wE a cI cZ tu le cr to ia ++ (wG a cI cZ sl pr mk pc))))) s.heap.size = A at hD ⊢
  have hA : ∀ q : Nat, s.heap.size ≤ q → A q := fun q h => by rw [← hAe]; exact Or.inr h
  have hS : va_S A s.heap s.heap [] := va_S.rf
  have hl := lv_entry ([.ref (a 0)]) (n := 2) (Nat.le_of_ble_eq_true rfl)
  rw [lg_entry_eq]
  generalize (lg_sl ([.ref (a 0)]) ++ List.replicate (2 - (lg_sl ([.ref (a 0)])).length) Slot.unset).toArray = ls at hl ⊢
  have hl : lv_has ls 2 [(0, .ref (a 0))] := hl
  refine lv_aload_n hx hb dX4_workOnRepairs_0 rfl (lv_at hl 0 rfl) ?_
  refine va_get (D := D) (ci := 4) (v := .ref (a 1)) (C := RX4) (T := TX4) (N := 5) hx hb hts (by decide +kernel) hown hK.1 hP 0 rfl rfl 0 (by decide) (hts (.fieldLink RX4 12 "Turbineorchard" "weather" "LTurbineorchard$Weather;") (by decide +kernel)) (fun _ h9 => h9) rfl dX4_workOnRepairs_1 ?_
  refine lv_aload_n hx hb dX4_workOnRepairs_4 rfl (lv_at hl 0 rfl) ?_
  refine va_get (D := D) (ci := 4) (v := .int (nI h)) (C := RX4) (T := TX4) (N := 5) hx hb hts (by decide +kernel) hown hK.1 hP 0 rfl rfl 4 (by decide) (hts (.fieldLink RX4 37 "Turbineorchard" "now" "I") (by decide +kernel)) (fun _ h9 => h9) rfl dX4_workOnRepairs_5 ?_
  refine k_rd (As := [.int (nI h)]) (rest := []) (nL := 2) ⟨hx, hb, hml, hown, hts⟩ hK hP (c_X3_wavesIn l D a cI cZ sp we tw h (by omega)) [1, 2, 3, 4] rfl 1 rfl rfl rfl (cwV 1 hts gX4_workOnRepairs_X3_wavesIn rfl rfl rfl (by decide +kernel) ⟨Nat.le_of_ble_eq_true rfl, Nat.le_of_ble_eq_true rfl⟩) rfl hl.1 rfl (Nat.le_of_ble_eq_true rfl) dX4_workOnRepairs_8 ⟨Nat.zero_le _, Nat.zero_le _⟩ (fun r9 hr9 => ?_)
  subst hr9
  refine lv_iconst (v := 4) hx hb dX4_workOnRepairs_11 (by decide) ?_
  refine lv_icmp_le (tgt := 16) hx hb dX4_workOnRepairs_12 (by decide) (fun c_12 => ?_) (fun c_12 => ?_)
  · refine lv_iconst (v := 0) hx hb dX4_workOnRepairs_16 (by decide) ?_
    have e9 : to = (fInc to (fWk (fWaves sp tw h) tu cr to) 0) := (fInc_0 _ _).symm
    rw [e9] at hP hD
    clear e9
    have e9 : le = (fDec le (fWk (fWaves sp tw h) tu cr to) 0) := (fDec_0 _ _).symm
    rw [e9] at hP hD
    clear e9
    have e9 : ia = (fInc ia (fWk (fWaves sp tw h) tu cr to) 0) := (fInc_0 _ _).symm
    rw [e9] at hP hD
    clear e9
    have e9 : st = (fStW n ta pl tu st (fWk (fWaves sp tw h) tu cr to) 0) := rfl
    rw [e9] at hP hD
    clear e9
    refine lv_istore_n (lv' := [(1, .int 0), (0, .ref (a 0))]) hx hb dX4_workOnRepairs_17 rfl hl (by decide) rfl (fun ls hl => ?_)
    have loop_18 : ∀ (nn : Nat) (k : Nat), 3 - k < nn → (k ≤ 3) → ∀ (H : Heap) (locs : List Loc), va_P D vwCl (wT a cI cZ (nI h) ++ (wW a cI cZ sp we tw ++ (wF a cI cZ ta pl br (fStW n ta pl tu st (fWk (fWaves sp tw h) tu cr to) k) md (nI n) bc ++ (wE a cI cZ tu (fDec le (fWk (fWaves sp tw h) tu cr to) k) cr (fInc to (fWk (fWaves sp tw h) tu cr to) k) (fInc ia (fWk (fWaves sp tw h) tu cr to) k) ++ (wG a cI cZ sl pr mk pc))))) H → va_D A (wT a cI cZ (nI h) ++ (wW a cI cZ sp we tw ++ (wF a cI cZ ta pl br (fStW n ta pl tu st (fWk (fWaves sp tw h) tu cr to) k) md (nI n) bc ++ (wE a cI cZ tu (fDec le (fWk (fWaves sp tw h) tu cr to) k) cr (fInc to (fWk (fWaves sp tw h) tu cr to) k) (fInc ia (fWk (fWaves sp tw h) tu cr to) k) ++ (wG a cI cZ sl pr mk pc))))) → va_S A s.heap H locs → ∀ (ls : Array Slot), lv_has ls 2 [(0, .ref (a 0)), (1, .int (nI k))] → W p l e (headSpec wsX4_workOnRepairs ({ frames := 4, cells := 0, slots := 0, locals := 88 })).room s m ([.ref (a 0)] : List Value).toArray below meth c H locs 0 0 (MQ below (va_Qv (fun _ : Unit => True) (fun _ t9 => kAt D A (wT a cI cZ (nI h) ++ (wW a cI cZ sp we tw ++ (wF a cI cZ ta pl br (fStW n ta pl tu st (fWk (fWaves sp tw h) tu cr to) 3) md (nI n) bc ++ (wE a cI cZ tu (fDec le (fWk (fWaves sp tw h) tu cr to) 3) cr (fInc to (fWk (fWaves sp tw h) tu cr to) 3) (fInc ia (fWk (fWaves sp tw h) tu cr to) 3) ++ (wG a cI cZ sl pr mk pc))))) t9) A) ([.ref (a 0)] : List Value).toArray s 0 0 A) (F0 m 18 ls []) := by
      intro nn
      induction nn with
      | zero => intro k hm; exact absurd hm (by omega)
      | succ nn ih_18 =>
        intro k hm hk H locs hP hD hS ls hl
        refine lv_iload_n hx hb dX4_workOnRepairs_18 rfl (lv_at hl 1 rfl) ?_
        refine lv_iconst (v := 3) hx hb dX4_workOnRepairs_19 (by decide) ?_
        refine lv_icmp_ge (tgt := 63) hx hb dX4_workOnRepairs_20 (by decide) (fun c_20 => ?_) (fun c_20 => ?_)
        · have e8 : k = 3 := by have := (nI_leI (a := 3) (b := k) (by omega) (by omega)).mp c_20; omega
          subst e8
          exact k_endV (sz := 0) hx hb hr hlocks hP hD hS dX4_workOnRepairs_63
        · have c_20 : k < 3 := Nat.lt_of_not_le (fun h => c_20 ((nI_leI (a := 3) (b := k) (by omega) (by omega)).mpr h))
          refine lv_aload_n hx hb dX4_workOnRepairs_23 rfl (lv_at hl 0 rfl) ?_
          refine va_get (D := D) (ci := 4) (v := .ref (a 11)) (C := RX4) (T := TX4) (N := 5) hx hb hts (by decide +kernel) hown hK.1 hP 0 rfl rfl 2 (by decide) (hts (.fieldLink RX4 26 "Turbineorchard" "fleet" "LTurbineorchard$Fleet;") (by decide +kernel)) (fun _ h9 => h9) rfl dX4_workOnRepairs_24 ?_
          refine lv_iload_n hx hb dX4_workOnRepairs_27 rfl (lv_at hl 1 rfl) ?_
          refine k_rd (As := [.int (nI k)]) (rest := []) (nL := 2) ⟨hx, hb, hml, hown, hts⟩ hK hP (c_X1_canWork l D a cI cZ tu (fDec le (fWk (fWaves sp tw h) tu cr to) k) cr (fInc to (fWk (fWaves sp tw h) tu cr to) k) (fInc ia (fWk (fWaves sp tw h) tu cr to) k) k (by omega)) [11, 12, 13, 14, 15, 16] rfl 11 rfl rfl rfl (cwV 1 hts gX4_workOnRepairs_X1_canWork rfl rfl rfl (by decide +kernel) ⟨Nat.le_of_ble_eq_true rfl, Nat.le_of_ble_eq_true rfl⟩) rfl hl.1 rfl (Nat.le_of_ble_eq_true rfl) dX4_workOnRepairs_28 ⟨Nat.zero_le _, Nat.zero_le _⟩ (fun r9 hr9 => ?_)
          subst hr9
          refine lv_if_eq (tgt := 57) hx hb dX4_workOnRepairs_31 (by decide) (fun c_31 => ?_) (fun c_31 => ?_)
          · have c_31 := bI_0 c_31
            have c9 : (fWk (fWaves sp tw h) tu cr to) k = false := decide_eq_false (fun q => c_31 ⟨q.2.1, by rw [fInc_k]; exact q.2.2⟩)
            have e9 : (fDec le (fWk (fWaves sp tw h) tu cr to) k) = (fDec le (fWk (fWaves sp tw h) tu cr to) (k + 1)) := fDec_f c9
            rw [e9] at hP hD
            clear e9
            have e9 : (fInc to (fWk (fWaves sp tw h) tu cr to) k) = (fInc to (fWk (fWaves sp tw h) tu cr to) (k + 1)) := fInc_f c9
            rw [e9] at hP hD
            clear e9
            have e9 : (fInc ia (fWk (fWaves sp tw h) tu cr to) k) = (fInc ia (fWk (fWaves sp tw h) tu cr to) (k + 1)) := fInc_f c9
            rw [e9] at hP hD
            clear e9
            have e9 : (fStW n ta pl tu st (fWk (fWaves sp tw h) tu cr to) k) = (fStW n ta pl tu st (fWk (fWaves sp tw h) tu cr to) (k + 1)) := by rw [show fStW n ta pl tu st (fWk (fWaves sp tw h) tu cr to) (k + 1) = if (fWk (fWaves sp tw h) tu cr to) k = true then _ else _ from rfl, if_neg (by rw [c9]; decide)]
            rw [e9] at hP hD
            clear e9
            refine lv_iinc (v := nI (k + 1)) (lv' := [(1, .int (nI (k + 1))), (0, .ref (a 0))]) hx hb dX4_workOnRepairs_57 hl (k := 1) rfl (nI_1 _) (by decide) rfl (fun ls hl => ?_)
            refine lv_goto (tgt := 18) hx hb dX4_workOnRepairs_60 (by decide) ?_
            exact ih_18 (k + 1) (by omega) (by omega) _ _ hP hD hS _ (lv_sub hl [1, 0] rfl)
          · have c_31 := bI_n c_31
            have c9 : (fWk (fWaves sp tw h) tu cr to) k = true := decide_eq_true ⟨c_12, c_31.1, by have := c_31.2; rw [fInc_k] at this; exact this⟩
            refine lv_aload_n hx hb dX4_workOnRepairs_34 rfl (lv_at hl 0 rfl) ?_
            refine va_get (D := D) (ci := 4) (v := .ref (a 11)) (C := RX4) (T := TX4) (N := 5) hx hb hts (by decide +kernel) hown hK.1 hP 0 rfl rfl 2 (by decide) (hts (.fieldLink RX4 26 "Turbineorchard" "fleet" "LTurbineorchard$Fleet;") (by decide +kernel)) (fun _ h9 => h9) rfl dX4_workOnRepairs_35 ?_
            refine lv_iload_n hx hb dX4_workOnRepairs_38 rfl (lv_at hl 1 rfl) ?_
            refine k_uv (WR := (wT a cI cZ (nI h) ++ (wW a cI cZ sp we tw ++ (wF a cI cZ ta pl br (fStW n ta pl tu st (fWk (fWaves sp tw h) tu cr to) k) md (nI n) bc ++ (wG a cI cZ sl pr mk pc))))) (WN := (wT a cI cZ (nI h) ++ (wW a cI cZ sp we tw ++ (wF a cI cZ ta pl br (fStW n ta pl tu st (fWk (fWaves sp tw h) tu cr to) k) md (nI n) bc ++ (wE a cI cZ tu (upd (fDec le (fWk (fWaves sp tw h) tu cr to) k) k ((fDec le (fWk (fWaves sp tw h) tu cr to) k) k - 1)) cr (upd (fInc to (fWk (fWaves sp tw h) tu cr to) k) k ((fInc to (fWk (fWaves sp tw h) tu cr to) k) k + 1)) (upd (fInc ia (fWk (fWaves sp tw h) tu cr to) k) k ((fInc ia (fWk (fWaves sp tw h) tu cr to) k) k + 1)) ++ (wG a cI cZ sl pr mk pc)))))) (As := [.int (nI k)]) (rest := []) (nL := 2) ⟨hx, hb, hml, hown, hts⟩ hK hP hD hS hA (c_X1_workAnHour l D a cI cZ _ tu (fDec le (fWk (fWaves sp tw h) tu cr to) k) cr (fInc to (fWk (fWaves sp tw h) tu cr to) k) (fInc ia (fWk (fWaves sp tw h) tu cr to) k) k (by omega)) [11, 12, 13, 14, 15, 16] [0, 1, 2, 3, 4, 5, 6, 7, 8, 9, 10, 17, 18, 19, 20] [0, 1, 2, 3, 4, 5, 6, 7, 8, 9, 10, 15, 16, 17, 18, 19, 20, 11, 12, 13, 14] rfl rfl (by decide) rfl (by decide) (by decide) rfl rfl (by decide) 11 rfl rfl rfl (cwV 1 hts gX4_workOnRepairs_X1_workAnHour rfl rfl rfl (by decide +kernel) ⟨Nat.le_of_ble_eq_true rfl, Nat.le_of_ble_eq_true rfl⟩) rfl hl.1 rfl (Nat.le_of_ble_eq_true rfl) dX4_workOnRepairs_39 ⟨Nat.zero_le _, Nat.zero_le _⟩ (fun H locs hP hD hS => ?_)
            refine lv_aload_n hx hb dX4_workOnRepairs_42 rfl (lv_at hl 0 rfl) ?_
            refine va_get (D := D) (ci := 4) (v := .ref (a 5)) (C := RX4) (T := TX4) (N := 5) hx hb hts (by decide +kernel) hown hK.1 hP 0 rfl rfl 1 (by decide) (hts (.fieldLink RX4 19 "Turbineorchard" "field" "LTurbineorchard$Field;") (by decide +kernel)) (fun _ h9 => h9) rfl dX4_workOnRepairs_43 ?_
            refine lv_aload_n hx hb dX4_workOnRepairs_46 rfl (lv_at hl 0 rfl) ?_
            refine va_get (D := D) (ci := 4) (v := .ref (a 11)) (C := RX4) (T := TX4) (N := 5) hx hb hts (by decide +kernel) hown hK.1 hP 0 rfl rfl 2 (by decide) (hts (.fieldLink RX4 26 "Turbineorchard" "fleet" "LTurbineorchard$Fleet;") (by decide +kernel)) (fun _ h9 => h9) rfl dX4_workOnRepairs_47 ?_
            refine lv_iload_n hx hb dX4_workOnRepairs_50 rfl (lv_at hl 1 rfl) ?_
            refine k_rd (As := [.int (nI k)]) (rest := [.ref (a 5)]) (nL := 2) ⟨hx, hb, hml, hown, hts⟩ hK hP (c_X1_turbineOf l D a cI cZ tu (upd (fDec le (fWk (fWaves sp tw h) tu cr to) k) k ((fDec le (fWk (fWaves sp tw h) tu cr to) k) k - 1)) cr (upd (fInc to (fWk (fWaves sp tw h) tu cr to) k) k ((fInc to (fWk (fWaves sp tw h) tu cr to) k) k + 1)) (upd (fInc ia (fWk (fWaves sp tw h) tu cr to) k) k ((fInc ia (fWk (fWaves sp tw h) tu cr to) k) k + 1)) k (by omega)) [11, 12, 13, 14, 15, 16] rfl 11 rfl rfl rfl (cwV 1 hts gX4_workOnRepairs_X1_turbineOf rfl rfl rfl (by decide +kernel) ⟨Nat.le_of_ble_eq_true rfl, Nat.le_of_ble_eq_true rfl⟩) rfl hl.1 rfl (Nat.le_of_ble_eq_true rfl) dX4_workOnRepairs_51 ⟨Nat.zero_le _, Nat.zero_le _⟩ (fun r9 hr9 => ?_)
            subst hr9
            refine k_rw (y := nI (fP tu k)) ((htu k c_20 c_31.1).1) ?_
            refine k_uv (WR := (wT a cI cZ (nI h) ++ (wW a cI cZ sp we tw ++ (wE a cI cZ tu (upd (fDec le (fWk (fWaves sp tw h) tu cr to) k) k ((fDec le (fWk (fWaves sp tw h) tu cr to) k) k - 1)) cr (upd (fInc to (fWk (fWaves sp tw h) tu cr to) k) k ((fInc to (fWk (fWaves sp tw h) tu cr to) k) k + 1)) (upd (fInc ia (fWk (fWaves sp tw h) tu cr to) k) k ((fInc ia (fWk (fWaves sp tw h) tu cr to) k) k + 1)) ++ (wG a cI cZ sl pr mk pc))))) (WN := (wT a cI cZ (nI h) ++ (wW a cI cZ sp we tw ++ (wF a cI cZ ta pl br (fB4 n ta (fStW n ta pl tu st (fWk (fWaves sp tw h) tu cr to) k) (fP pl (fP tu k))) md (nI n) bc ++ (wE a cI cZ tu (upd (fDec le (fWk (fWaves sp tw h) tu cr to) k) k ((fDec le (fWk (fWaves sp tw h) tu cr to) k) k - 1)) cr (upd (fInc to (fWk (fWaves sp tw h) tu cr to) k) k ((fInc to (fWk (fWaves sp tw h) tu cr to) k) k + 1)) (upd (fInc ia (fWk (fWaves sp tw h) tu cr to) k) k ((fInc ia (fWk (fWaves sp tw h) tu cr to) k) k + 1)) ++ (wG a cI cZ sl pr mk pc)))))) (As := [.int (nI (fP tu k))]) (rest := []) (nL := 2) ⟨hx, hb, hml, hown, hts⟩ hK hP hD hS hA (c_X0_stillBeside l D a cI cZ _ ta pl br (fStW n ta pl tu st (fWk (fWaves sp tw h) tu cr to) k) md bc n (fP tu k) (hn) ((htu k c_20 c_31.1).2) (hpl)) [5, 6, 7, 8, 9, 10] [0, 1, 2, 3, 4, 11, 12, 13, 14, 15, 16, 17, 18, 19, 20] [0, 1, 2, 3, 4, 15, 16, 17, 18, 19, 20, 5, 6, 7, 8, 9, 10, 11, 12, 13, 14] rfl rfl (by decide) rfl (by decide) (by decide) rfl rfl (by decide) 5 rfl rfl rfl (cwV 1 hts gX4_workOnRepairs_X0_stillBeside rfl rfl rfl (by decide +kernel) ⟨Nat.le_of_ble_eq_true rfl, Nat.le_of_ble_eq_true rfl⟩) rfl hl.1 rfl (Nat.le_of_ble_eq_true rfl) dX4_workOnRepairs_54 ⟨Nat.zero_le _, Nat.zero_le _⟩ (fun H locs hP hD hS => ?_)
            have e9 : (upd (fDec le (fWk (fWaves sp tw h) tu cr to) k) k ((fDec le (fWk (fWaves sp tw h) tu cr to) k) k - 1)) = (fDec le (fWk (fWaves sp tw h) tu cr to) (k + 1)) := fDec_t c9
            rw [e9] at hP hD
            clear e9
            have e9 : (upd (fInc to (fWk (fWaves sp tw h) tu cr to) k) k ((fInc to (fWk (fWaves sp tw h) tu cr to) k) k + 1)) = (fInc to (fWk (fWaves sp tw h) tu cr to) (k + 1)) := fInc_t c9
            rw [e9] at hP hD
            clear e9
            have e9 : (upd (fInc ia (fWk (fWaves sp tw h) tu cr to) k) k ((fInc ia (fWk (fWaves sp tw h) tu cr to) k) k + 1)) = (fInc ia (fWk (fWaves sp tw h) tu cr to) (k + 1)) := fInc_t c9
            rw [e9] at hP hD
            clear e9
            have e9 : (fB4 n ta (fStW n ta pl tu st (fWk (fWaves sp tw h) tu cr to) k) (fP pl (fP tu k))) = (fStW n ta pl tu st (fWk (fWaves sp tw h) tu cr to) (k + 1)) := by rw [show fStW n ta pl tu st (fWk (fWaves sp tw h) tu cr to) (k + 1) = if (fWk (fWaves sp tw h) tu cr to) k = true then _ else _ from rfl, if_pos c9]
            rw [e9] at hP hD
            clear e9
            refine lv_iinc (v := nI (k + 1)) (lv' := [(1, .int (nI (k + 1))), (0, .ref (a 0))]) hx hb dX4_workOnRepairs_57 hl (k := 1) rfl (nI_1 _) (by decide) rfl (fun ls hl => ?_)
            refine lv_goto (tgt := 18) hx hb dX4_workOnRepairs_60 (by decide) ?_
            exact ih_18 (k + 1) (by omega) (by omega) _ _ hP hD hS _ (lv_sub hl [1, 0] rfl)
    exact loop_18 (3 - 0 + 1) 0 (by omega) (by omega) _ _ hP hD hS _ (lv_sub hl [1, 0] rfl)
  · have c9 : ∀ b, (fWk (fWaves sp tw h) tu cr to) b = false := fun b => decide_eq_false (fun q => c_12 q.1)
    have e9 : to = (fInc to (fWk (fWaves sp tw h) tu cr to) 3) := fInc_no c9
    rw [e9] at hP hD
    clear e9
    have e9 : le = (fDec le (fWk (fWaves sp tw h) tu cr to) 3) := fDec_no c9
    rw [e9] at hP hD
    clear e9
    have e9 : ia = (fInc ia (fWk (fWaves sp tw h) tu cr to) 3) := fInc_no c9
    rw [e9] at hP hD
    clear e9
    have e9 : st = (fStW n ta pl tu st (fWk (fWaves sp tw h) tu cr to) 3) := fStW_no c9
    rw [e9] at hP hD
    clear e9
    exact k_endV (sz := 0) hx hb hr hlocks hP hD hS dX4_workOnRepairs_15

set_option maxHeartbeats 4000000 in
set_option maxRecDepth 100000 in
theorem c_X4_endRepairs (l : Launch) (D : va_G) (a : Nat → Nat) (cI cZ : ClassId) (sz : Nat) (sp : Nat → Int32) (we : Nat → Int32) (tw : Nat → Int32) (ta : Nat → Int32) (pl : Nat → Int32) (br : Nat → Int32) (st : Nat → Int32) (md : Nat → Int32) (bc : Int32) (tu : Nat → Int32) (le : Nat → Int32) (cr : Nat → Int32) (to : Nat → Int32) (ia : Nat → Int32) (sl : Nat → Int32) (pr : Nat → Int32) (mk : Nat → Int32) (pc : Int64) (n : Nat) (h : Nat) (hn : n ≤ 12) (hh : h < 480) (htu : ∀ b, b < 3 → ¬ tu b = -1 → tu b = nI (fP tu b) ∧ fP tu b < n) : kUv l yX4_endRepairs wsX4_endRepairs ({ frames := 2, cells := 0, slots := 0, locals := 42 }) [.ref (a 0)] D cI cZ sz (wT a cI cZ (nI h) ++ (wW a cI cZ sp we tw ++ (wF a cI cZ ta pl br st md (nI n) bc ++ (wE a cI cZ tu le cr to ia ++ (wG a cI cZ sl pr mk pc))))) (wT a cI cZ (nI h) ++ (wW a cI cZ sp we tw ++ (wF a cI cZ ta pl (fBrE br tu (fEn tu le) 3) st md (nI n) (fBcE bc (fEn tu le) 3) ++ (wE a cI cZ (fTuE tu (fEn tu le) 3) le cr to ia ++ (wG a cI cZ sl pr mk pc))))) := by
  refine Met.ofW (cc := cX4_endRepairs) (maxL := 2) (ret := none) (by decide) rfl ?_
  intro p e s m args below meth c s₁ B hml hv
  obtain ⟨rfl, hsz, hP, hK, hD0⟩ := hv
  have hx := B.exec
  have hb := B.bytes
  have hr := B.returns
  have hts := atoms_spec (ws := wsX4_endRepairs) B.pre
  have hown : s.vm.findClass RX4 = some m.cls := findClass_of_methodNamed B.named
  have hlocks := B.notSynchronized
  subst hsz
  have hD := hD0.self (sz := s.heap.size)
  generalize hAe : va_A (wT a cI cZ (nI h) ++ (wW a cI cZ sp we tw ++ (wF a cI cZ ta pl br st md (nI n) bc ++ (wE a cI cZ tu le cr to ia ++ (wG a cI cZ sl pr mk pc))))) s.heap.size = A at hD ⊢
  have hA : ∀ q : Nat, s.heap.size ≤ q → A q := fun q h => by rw [← hAe]; exact Or.inr h
  have hS : va_S A s.heap s.heap [] := va_S.rf
  have hl := lv_entry ([.ref (a 0)]) (n := 2) (Nat.le_of_ble_eq_true rfl)
  rw [lg_entry_eq]
  generalize (lg_sl ([.ref (a 0)]) ++ List.replicate (2 - (lg_sl ([.ref (a 0)])).length) Slot.unset).toArray = ls at hl ⊢
  have hl : lv_has ls 2 [(0, .ref (a 0))] := hl
  refine lv_iconst (v := 0) hx hb dX4_endRepairs_0 (by decide) ?_
  have e9 : tu = (fTuE tu (fEn tu le) 0) := (fTuE_0 _ _).symm
  rw [e9] at hP hD
  clear e9
  have e9 : br = (fBrE br tu (fEn tu le) 0) := rfl
  rw [e9] at hP hD
  clear e9
  have e9 : bc = (fBcE bc (fEn tu le) 0) := rfl
  rw [e9] at hP hD
  clear e9
  refine lv_istore_n (lv' := [(1, .int 0), (0, .ref (a 0))]) hx hb dX4_endRepairs_1 rfl hl (by decide) rfl (fun ls hl => ?_)
  have loop_2 : ∀ (nn : Nat) (k : Nat), 3 - k < nn → (k ≤ 3) → ∀ (H : Heap) (locs : List Loc), va_P D vwCl (wT a cI cZ (nI h) ++ (wW a cI cZ sp we tw ++ (wF a cI cZ ta pl (fBrE br tu (fEn tu le) k) st md (nI n) (fBcE bc (fEn tu le) k) ++ (wE a cI cZ (fTuE tu (fEn tu le) k) le cr to ia ++ (wG a cI cZ sl pr mk pc))))) H → va_D A (wT a cI cZ (nI h) ++ (wW a cI cZ sp we tw ++ (wF a cI cZ ta pl (fBrE br tu (fEn tu le) k) st md (nI n) (fBcE bc (fEn tu le) k) ++ (wE a cI cZ (fTuE tu (fEn tu le) k) le cr to ia ++ (wG a cI cZ sl pr mk pc))))) → va_S A s.heap H locs → ∀ (ls : Array Slot), lv_has ls 2 [(0, .ref (a 0)), (1, .int (nI k))] → W p l e (headSpec wsX4_endRepairs ({ frames := 2, cells := 0, slots := 0, locals := 42 })).room s m ([.ref (a 0)] : List Value).toArray below meth c H locs 0 0 (MQ below (va_Qv (fun _ : Unit => True) (fun _ t9 => kAt D A (wT a cI cZ (nI h) ++ (wW a cI cZ sp we tw ++ (wF a cI cZ ta pl (fBrE br tu (fEn tu le) 3) st md (nI n) (fBcE bc (fEn tu le) 3) ++ (wE a cI cZ (fTuE tu (fEn tu le) 3) le cr to ia ++ (wG a cI cZ sl pr mk pc))))) t9) A) ([.ref (a 0)] : List Value).toArray s 0 0 A) (F0 m 2 ls []) := by
    intro nn
    induction nn with
    | zero => intro k hm; exact absurd hm (by omega)
    | succ nn ih_2 =>
      intro k hm hk H locs hP hD hS ls hl
      refine lv_iload_n hx hb dX4_endRepairs_2 rfl (lv_at hl 1 rfl) ?_
      refine lv_iconst (v := 3) hx hb dX4_endRepairs_3 (by decide) ?_
      refine lv_icmp_ge (tgt := 47) hx hb dX4_endRepairs_4 (by decide) (fun c_4 => ?_) (fun c_4 => ?_)
      · have e8 : k = 3 := by have := (nI_leI (a := 3) (b := k) (by omega) (by omega)).mp c_4; omega
        subst e8
        exact k_endV (sz := 0) hx hb hr hlocks hP hD hS dX4_endRepairs_47
      · have c_4 : k < 3 := Nat.lt_of_not_le (fun h => c_4 ((nI_leI (a := 3) (b := k) (by omega) (by omega)).mpr h))
        refine lv_aload_n hx hb dX4_endRepairs_7 rfl (lv_at hl 0 rfl) ?_
        refine va_get (D := D) (ci := 4) (v := .ref (a 11)) (C := RX4) (T := TX4) (N := 5) hx hb hts (by decide +kernel) hown hK.1 hP 0 rfl rfl 2 (by decide) (hts (.fieldLink RX4 26 "Turbineorchard" "fleet" "LTurbineorchard$Fleet;") (by decide +kernel)) (fun _ h9 => h9) rfl dX4_endRepairs_8 ?_
        refine lv_iload_n hx hb dX4_endRepairs_11 rfl (lv_at hl 1 rfl) ?_
        refine k_rd (As := [.int (nI k)]) (rest := []) (nL := 2) ⟨hx, hb, hml, hown, hts⟩ hK hP (c_X1_hasEnded l D a cI cZ (fTuE tu (fEn tu le) k) le cr to ia k (by omega)) [11, 12, 13, 14, 15, 16] rfl 11 rfl rfl rfl (cwV 1 hts gX4_endRepairs_X1_hasEnded rfl rfl rfl (by decide +kernel) ⟨Nat.le_of_ble_eq_true rfl, Nat.le_of_ble_eq_true rfl⟩) rfl hl.1 rfl (Nat.le_of_ble_eq_true rfl) dX4_endRepairs_12 ⟨Nat.zero_le _, Nat.zero_le _⟩ (fun r9 hr9 => ?_)
        subst hr9
        refine lv_if_eq (tgt := 41) hx hb dX4_endRepairs_15 (by decide) (fun c_15 => ?_) (fun c_15 => ?_)
        · have c_15 := bI_0 c_15
          have c9 : (fEn tu le) k = false := decide_eq_false (fun q => c_15 ⟨by rw [fTuE_k]; exact q.1, q.2⟩)
          have e9 : (fTuE tu (fEn tu le) k) = (fTuE tu (fEn tu le) (k + 1)) := fTuE_f c9
          rw [e9] at hP hD
          clear e9
          have e9 : (fBrE br tu (fEn tu le) k) = (fBrE br tu (fEn tu le) (k + 1)) := by rw [show fBrE br tu (fEn tu le) (k + 1) = if (fEn tu le) k = true then _ else _ from rfl, if_neg (by rw [c9]; decide)]
          rw [e9] at hP hD
          clear e9
          have e9 : (fBcE bc (fEn tu le) k) = (fBcE bc (fEn tu le) (k + 1)) := by rw [show fBcE bc (fEn tu le) (k + 1) = if (fEn tu le) k = true then _ else _ from rfl, if_neg (by rw [c9]; decide)]
          rw [e9] at hP hD
          clear e9
          refine lv_iinc (v := nI (k + 1)) (lv' := [(1, .int (nI (k + 1))), (0, .ref (a 0))]) hx hb dX4_endRepairs_41 hl (k := 1) rfl (nI_1 _) (by decide) rfl (fun ls hl => ?_)
          refine lv_goto (tgt := 2) hx hb dX4_endRepairs_44 (by decide) ?_
          exact ih_2 (k + 1) (by omega) (by omega) _ _ hP hD hS _ (lv_sub hl [1, 0] rfl)
        · have c_15 := bI_n c_15
          rw [fTuE_k] at c_15
          have c9 : (fEn tu le) k = true := decide_eq_true c_15
          refine lv_aload_n hx hb dX4_endRepairs_18 rfl (lv_at hl 0 rfl) ?_
          refine va_get (D := D) (ci := 4) (v := .ref (a 5)) (C := RX4) (T := TX4) (N := 5) hx hb hts (by decide +kernel) hown hK.1 hP 0 rfl rfl 1 (by decide) (hts (.fieldLink RX4 19 "Turbineorchard" "field" "LTurbineorchard$Field;") (by decide +kernel)) (fun _ h9 => h9) rfl dX4_endRepairs_19 ?_
          refine lv_aload_n hx hb dX4_endRepairs_22 rfl (lv_at hl 0 rfl) ?_
          refine va_get (D := D) (ci := 4) (v := .ref (a 11)) (C := RX4) (T := TX4) (N := 5) hx hb hts (by decide +kernel) hown hK.1 hP 0 rfl rfl 2 (by decide) (hts (.fieldLink RX4 26 "Turbineorchard" "fleet" "LTurbineorchard$Fleet;") (by decide +kernel)) (fun _ h9 => h9) rfl dX4_endRepairs_23 ?_
          refine lv_iload_n hx hb dX4_endRepairs_26 rfl (lv_at hl 1 rfl) ?_
          refine k_rd (As := [.int (nI k)]) (rest := [.ref (a 5)]) (nL := 2) ⟨hx, hb, hml, hown, hts⟩ hK hP (c_X1_turbineOf l D a cI cZ (fTuE tu (fEn tu le) k) le cr to ia k (by omega)) [11, 12, 13, 14, 15, 16] rfl 11 rfl rfl rfl (cwV 1 hts gX4_endRepairs_X1_turbineOf rfl rfl rfl (by decide +kernel) ⟨Nat.le_of_ble_eq_true rfl, Nat.le_of_ble_eq_true rfl⟩) rfl hl.1 rfl (Nat.le_of_ble_eq_true rfl) dX4_endRepairs_27 ⟨Nat.zero_le _, Nat.zero_le _⟩ (fun r9 hr9 => ?_)
          subst hr9
          refine k_rw (y := nI (fP tu k)) (by rw [fTuE_k]; exact (htu k c_4 c_15.1).1) ?_
          refine k_uv (WR := (wT a cI cZ (nI h) ++ (wW a cI cZ sp we tw ++ (wE a cI cZ (fTuE tu (fEn tu le) k) le cr to ia ++ (wG a cI cZ sl pr mk pc))))) (WN := (wT a cI cZ (nI h) ++ (wW a cI cZ sp we tw ++ (wF a cI cZ ta pl (upd (fBrE br tu (fEn tu le) k) (fP tu k) 0) st md (nI n) ((fBcE bc (fEn tu le) k) - 1) ++ (wE a cI cZ (fTuE tu (fEn tu le) k) le cr to ia ++ (wG a cI cZ sl pr mk pc)))))) (As := [.int (nI (fP tu k))]) (rest := []) (nL := 2) ⟨hx, hb, hml, hown, hts⟩ hK hP hD hS hA (c_X0_mend l D a cI cZ _ ta pl (fBrE br tu (fEn tu le) k) st md (fBcE bc (fEn tu le) k) n (fP tu k) (hn) ((htu k c_4 c_15.1).2)) [5, 6, 7, 8, 9, 10] [0, 1, 2, 3, 4, 11, 12, 13, 14, 15, 16, 17, 18, 19, 20] [0, 1, 2, 3, 4, 15, 16, 17, 18, 19, 20, 5, 6, 7, 8, 9, 10, 11, 12, 13, 14] rfl rfl (by decide) rfl (by decide) (by decide) rfl rfl (by decide) 5 rfl rfl rfl (cwV 1 hts gX4_endRepairs_X0_mend rfl rfl rfl (by decide +kernel) ⟨Nat.le_of_ble_eq_true rfl, Nat.le_of_ble_eq_true rfl⟩) rfl hl.1 rfl (Nat.le_of_ble_eq_true rfl) dX4_endRepairs_30 ⟨Nat.zero_le _, Nat.zero_le _⟩ (fun H locs hP hD hS => ?_)
          refine lv_aload_n hx hb dX4_endRepairs_33 rfl (lv_at hl 0 rfl) ?_
          refine va_get (D := D) (ci := 4) (v := .ref (a 11)) (C := RX4) (T := TX4) (N := 5) hx hb hts (by decide +kernel) hown hK.1 hP 0 rfl rfl 2 (by decide) (hts (.fieldLink RX4 26 "Turbineorchard" "fleet" "LTurbineorchard$Fleet;") (by decide +kernel)) (fun _ h9 => h9) rfl dX4_endRepairs_34 ?_
          refine lv_iload_n hx hb dX4_endRepairs_37 rfl (lv_at hl 1 rfl) ?_
          refine k_uv (WR := (wT a cI cZ (nI h) ++ (wW a cI cZ sp we tw ++ (wF a cI cZ ta pl (upd (fBrE br tu (fEn tu le) k) (fP tu k) 0) st md (nI n) ((fBcE bc (fEn tu le) k) - 1) ++ (wG a cI cZ sl pr mk pc))))) (WN := (wT a cI cZ (nI h) ++ (wW a cI cZ sp we tw ++ (wF a cI cZ ta pl (upd (fBrE br tu (fEn tu le) k) (fP tu k) 0) st md (nI n) ((fBcE bc (fEn tu le) k) - 1) ++ (wE a cI cZ (upd (fTuE tu (fEn tu le) k) k (-1)) le cr to ia ++ (wG a cI cZ sl pr mk pc)))))) (As := [.int (nI k)]) (rest := []) (nL := 2) ⟨hx, hb, hml, hown, hts⟩ hK hP hD hS hA (c_X1_release l D a cI cZ _ (fTuE tu (fEn tu le) k) le cr to ia k (by omega)) [11, 12, 13, 14, 15, 16] [0, 1, 2, 3, 4, 5, 6, 7, 8, 9, 10, 17, 18, 19, 20] [0, 1, 2, 3, 4, 5, 6, 7, 8, 9, 10, 15, 16, 17, 18, 19, 20, 11, 12, 13, 14] rfl rfl (by decide) rfl (by decide) (by decide) rfl rfl (by decide) 11 rfl rfl rfl (cwV 1 hts gX4_endRepairs_X1_release rfl rfl rfl (by decide +kernel) ⟨Nat.le_of_ble_eq_true rfl, Nat.le_of_ble_eq_true rfl⟩) rfl hl.1 rfl (Nat.le_of_ble_eq_true rfl) dX4_endRepairs_38 ⟨Nat.zero_le _, Nat.zero_le _⟩ (fun H locs hP hD hS => ?_)
          have e9 : (upd (fTuE tu (fEn tu le) k) k (-1)) = (fTuE tu (fEn tu le) (k + 1)) := fTuE_t c9
          rw [e9] at hP hD
          clear e9
          have e9 : (upd (fBrE br tu (fEn tu le) k) (fP tu k) 0) = (fBrE br tu (fEn tu le) (k + 1)) := by rw [show fBrE br tu (fEn tu le) (k + 1) = if (fEn tu le) k = true then _ else _ from rfl, if_pos c9]
          rw [e9] at hP hD
          clear e9
          have e9 : ((fBcE bc (fEn tu le) k) - 1) = (fBcE bc (fEn tu le) (k + 1)) := by rw [show fBcE bc (fEn tu le) (k + 1) = if (fEn tu le) k = true then _ else _ from rfl, if_pos c9]
          rw [e9] at hP hD
          clear e9
          refine lv_iinc (v := nI (k + 1)) (lv' := [(1, .int (nI (k + 1))), (0, .ref (a 0))]) hx hb dX4_endRepairs_41 hl (k := 1) rfl (nI_1 _) (by decide) rfl (fun ls hl => ?_)
          refine lv_goto (tgt := 2) hx hb dX4_endRepairs_44 (by decide) ?_
          exact ih_2 (k + 1) (by omega) (by omega) _ _ hP hD hS _ (lv_sub hl [1, 0] rfl)
  exact loop_2 (3 - 0 + 1) 0 (by omega) (by omega) _ _ hP hD hS _ (lv_sub hl [1, 0] rfl)

set_option maxHeartbeats 4000000 in
set_option maxRecDepth 100000 in
theorem c_X4_liveHour (l : Launch) (D : va_G) (a : Nat → Nat) (cI cZ : ClassId) (sz : Nat) (sp : Nat → Int32) (we : Nat → Int32) (tw : Nat → Int32) (ta : Nat → Int32) (pl : Nat → Int32) (br : Nat → Int32) (st : Nat → Int32) (md : Nat → Int32) (bc : Int32) (tu : Nat → Int32) (le : Nat → Int32) (cr : Nat → Int32) (to : Nat → Int32) (ia : Nat → Int32) (sl : Nat → Int32) (pr : Nat → Int32) (mk : Nat → Int32) (pc : Int64) (n : Nat) (h : Nat) (hn : n ≤ 12) (hh : h < 480) (hpl : ∀ k, k < n → pl k = nI (fP pl k) ∧ fP pl k < 24) (htu : ∀ b, b < 3 → ¬ tu b = -1 → tu b = nI (fP tu b) ∧ fP tu b < n) (hwe : ∀ k, we k = 0 ∨ we k = 1) : kUv l yX4_liveHour wsX4_liveHour ({ frames := 5, cells := 0, slots := 0, locals := 120 }) [.ref (a 0)] D cI cZ sz (wT a cI cZ (nI h) ++ (wW a cI cZ sp we tw ++ (wF a cI cZ ta pl br st md (nI n) bc ++ (wE a cI cZ tu le cr to ia ++ (wG a cI cZ sl pr mk pc))))) (wT a cI cZ (nI (h + 1)) ++ (wW a cI cZ sp we tw ++ (wF a cI cZ ta pl (fBrE br tu (fEn tu (fDec le (fWk (fWaves sp tw h) tu cr to) 3)) 3) (setR (fStW n ta pl tu st (fWk (fWaves sp tw h) tu cr to) 3) 0 n 0) (fAddR md (fPw (we h) pl br (fStW n ta pl tu st (fWk (fWaves sp tw h) tu cr to) 3) n (sp h)) n) (nI n) (fBcE bc (fEn tu (fDec le (fWk (fWaves sp tw h) tu cr to) 3)) 3) ++ (wE a cI cZ (fTuE tu (fEn tu (fDec le (fWk (fWaves sp tw h) tu cr to) 3)) 3) (fDec le (fWk (fWaves sp tw h) tu cr to) 3) cr (fDay (h + 1) (fInc to (fWk (fWaves sp tw h) tu cr to) 3)) (fInc ia (fWk (fWaves sp tw h) tu cr to) 3) ++ (wG a cI cZ sl pr (upd mk h (fSum (fPw (we h) pl br (fStW n ta pl tu st (fWk (fWaves sp tw h) tu cr to) 3) n (sp h)) n)) (pc + (fBring sl pr (upd mk h (fSum (fPw (we h) pl br (fStW n ta pl tu st (fWk (fWaves sp tw h) tu cr to) 3) n (sp h)) n)) h).toInt64)))))) := by
  refine Met.ofW (cc := cX4_liveHour) (maxL := 1) (ret := none) (by decide) rfl ?_
  intro p e s m args below meth c s₁ B hml hv
  obtain ⟨rfl, hsz, hP, hK, hD0⟩ := hv
  have hx := B.exec
  have hb := B.bytes
  have hr := B.returns
  have hts := atoms_spec (ws := wsX4_liveHour) B.pre
  have hown : s.vm.findClass RX4 = some m.cls := findClass_of_methodNamed B.named
  have hlocks := B.notSynchronized
  subst hsz
  have hD := hD0.self (sz := s.heap.size)
  generalize hAe : va_A (wT a cI cZ (nI h) ++ (wW a cI cZ sp we tw ++ (wF a cI cZ ta pl br st md (nI n) bc ++ (wE a cI cZ tu le cr to ia ++ (wG a cI cZ sl pr mk pc))))) s.heap.size = A at hD ⊢
  have hA : ∀ q : Nat, s.heap.size ≤ q → A q := fun q h => by rw [← hAe]; exact Or.inr h
  have hS : va_S A s.heap s.heap [] := va_S.rf
  have hl := lv_entry ([.ref (a 0)]) (n := 1) (Nat.le_of_ble_eq_true rfl)
  rw [lg_entry_eq]
  generalize (lg_sl ([.ref (a 0)]) ++ List.replicate (1 - (lg_sl ([.ref (a 0)])).length) Slot.unset).toArray = ls at hl ⊢
  have hl : lv_has ls 1 [(0, .ref (a 0))] := hl
  refine lv_aload_n hx hb dX4_liveHour_0 rfl (lv_at hl 0 rfl) ?_
  refine k_uv (WR := []) (WN := (wT a cI cZ (nI h) ++ (wW a cI cZ sp we tw ++ (wF a cI cZ ta pl br (fStW n ta pl tu st (fWk (fWaves sp tw h) tu cr to) 3) md (nI n) bc ++ (wE a cI cZ tu (fDec le (fWk (fWaves sp tw h) tu cr to) 3) cr (fInc to (fWk (fWaves sp tw h) tu cr to) 3) (fInc ia (fWk (fWaves sp tw h) tu cr to) 3) ++ (wG a cI cZ sl pr mk pc)))))) (As := []) (rest := []) (nL := 1) ⟨hx, hb, hml, hown, hts⟩ hK hP hD hS hA (c_X4_workOnRepairs l D a cI cZ _ sp we tw ta pl br st md bc tu le cr to ia sl pr mk pc n h (hn) (hh) (hpl) (htu)) [0, 1, 2, 3, 4, 5, 6, 7, 8, 9, 10, 11, 12, 13, 14, 15, 16, 17, 18, 19, 20] [] [0, 1, 2, 3, 4, 5, 6, 7, 8, 9, 10, 11, 12, 13, 14, 15, 16, 17, 18, 19, 20] rfl rfl (by decide) rfl (by decide) (by decide) rfl rfl (by decide) 0 rfl rfl rfl (cwV 0 hts gX4_liveHour_X4_workOnRepairs rfl rfl rfl (by decide +kernel) ⟨Nat.le_of_ble_eq_true rfl, Nat.le_of_ble_eq_true rfl⟩) rfl hl.1 rfl (Nat.le_of_ble_eq_true rfl) dX4_liveHour_1 ⟨Nat.zero_le _, Nat.zero_le _⟩ (fun H locs hP hD hS => ?_)
  refine lv_aload_n hx hb dX4_liveHour_4 rfl (lv_at hl 0 rfl) ?_
  refine va_get (D := D) (ci := 4) (v := .ref (a 17)) (C := RX4) (T := TX4) (N := 5) hx hb hts (by decide +kernel) hown hK.1 hP 0 rfl rfl 3 (by decide) (hts (.fieldLink RX4 33 "Turbineorchard" "ledger" "LTurbineorchard$Ledger;") (by decide +kernel)) (fun _ h9 => h9) rfl dX4_liveHour_5 ?_
  refine lv_aload_n hx hb dX4_liveHour_8 rfl (lv_at hl 0 rfl) ?_
  refine va_get (D := D) (ci := 4) (v := .int (nI h)) (C := RX4) (T := TX4) (N := 5) hx hb hts (by decide +kernel) hown hK.1 hP 0 rfl rfl 4 (by decide) (hts (.fieldLink RX4 37 "Turbineorchard" "now" "I") (by decide +kernel)) (fun _ h9 => h9) rfl dX4_liveHour_9 ?_
  refine lv_aload_n hx hb dX4_liveHour_12 rfl (lv_at hl 0 rfl) ?_
  refine va_get (D := D) (ci := 4) (v := .ref (a 5)) (C := RX4) (T := TX4) (N := 5) hx hb hts (by decide +kernel) hown hK.1 hP 0 rfl rfl 1 (by decide) (hts (.fieldLink RX4 19 "Turbineorchard" "field" "LTurbineorchard$Field;") (by decide +kernel)) (fun _ h9 => h9) rfl dX4_liveHour_13 ?_
  refine lv_aload_n hx hb dX4_liveHour_16 rfl (lv_at hl 0 rfl) ?_
  refine va_get (D := D) (ci := 4) (v := .ref (a 1)) (C := RX4) (T := TX4) (N := 5) hx hb hts (by decide +kernel) hown hK.1 hP 0 rfl rfl 0 (by decide) (hts (.fieldLink RX4 12 "Turbineorchard" "weather" "LTurbineorchard$Weather;") (by decide +kernel)) (fun _ h9 => h9) rfl dX4_liveHour_17 ?_
  refine lv_aload_n hx hb dX4_liveHour_20 rfl (lv_at hl 0 rfl) ?_
  refine va_get (D := D) (ci := 4) (v := .int (nI h)) (C := RX4) (T := TX4) (N := 5) hx hb hts (by decide +kernel) hown hK.1 hP 0 rfl rfl 4 (by decide) (hts (.fieldLink RX4 37 "Turbineorchard" "now" "I") (by decide +kernel)) (fun _ h9 => h9) rfl dX4_liveHour_21 ?_
  refine k_rd (As := [.int (nI h)]) (rest := [.ref (a 5), .int (nI h), .ref (a 17)]) (nL := 1) ⟨hx, hb, hml, hown, hts⟩ hK hP (c_X3_speedIn l D a cI cZ sp we tw h (by omega)) [1, 2, 3, 4] rfl 1 rfl rfl rfl (cwV 1 hts gX4_liveHour_X3_speedIn rfl rfl rfl (by decide +kernel) ⟨Nat.le_of_ble_eq_true rfl, Nat.le_of_ble_eq_true rfl⟩) rfl hl.1 rfl (Nat.le_of_ble_eq_true rfl) dX4_liveHour_24 ⟨Nat.zero_le _, Nat.zero_le _⟩ (fun r9 hr9 => ?_)
  subst hr9
  refine lv_aload_n hx hb dX4_liveHour_27 rfl (lv_at hl 0 rfl) ?_
  refine va_get (D := D) (ci := 4) (v := .ref (a 1)) (C := RX4) (T := TX4) (N := 5) hx hb hts (by decide +kernel) hown hK.1 hP 0 rfl rfl 0 (by decide) (hts (.fieldLink RX4 12 "Turbineorchard" "weather" "LTurbineorchard$Weather;") (by decide +kernel)) (fun _ h9 => h9) rfl dX4_liveHour_28 ?_
  refine lv_aload_n hx hb dX4_liveHour_31 rfl (lv_at hl 0 rfl) ?_
  refine va_get (D := D) (ci := 4) (v := .int (nI h)) (C := RX4) (T := TX4) (N := 5) hx hb hts (by decide +kernel) hown hK.1 hP 0 rfl rfl 4 (by decide) (hts (.fieldLink RX4 37 "Turbineorchard" "now" "I") (by decide +kernel)) (fun _ h9 => h9) rfl dX4_liveHour_32 ?_
  refine k_rd (As := [.int (nI h)]) (rest := [.int (sp h), .ref (a 5), .int (nI h), .ref (a 17)]) (nL := 1) ⟨hx, hb, hml, hown, hts⟩ hK hP (c_X3_isWestIn l D a cI cZ sp we tw h (by omega) (hwe h)) [1, 2, 3, 4] rfl 1 rfl rfl rfl (cwV 1 hts gX4_liveHour_X3_isWestIn rfl rfl rfl (by decide +kernel) ⟨Nat.le_of_ble_eq_true rfl, Nat.le_of_ble_eq_true rfl⟩) rfl hl.1 rfl (Nat.le_of_ble_eq_true rfl) dX4_liveHour_35 ⟨Nat.zero_le _, Nat.zero_le _⟩ (fun r9 hr9 => ?_)
  subst hr9
  refine k_ui (WR := (wT a cI cZ (nI h) ++ (wW a cI cZ sp we tw ++ (wE a cI cZ tu (fDec le (fWk (fWaves sp tw h) tu cr to) 3) cr (fInc to (fWk (fWaves sp tw h) tu cr to) 3) (fInc ia (fWk (fWaves sp tw h) tu cr to) 3) ++ (wG a cI cZ sl pr mk pc))))) (WN := (wT a cI cZ (nI h) ++ (wW a cI cZ sp we tw ++ (wF a cI cZ ta pl br (fStW n ta pl tu st (fWk (fWaves sp tw h) tu cr to) 3) (fAddR md (fPw (we h) pl br (fStW n ta pl tu st (fWk (fWaves sp tw h) tu cr to) 3) n (sp h)) n) (nI n) bc ++ (wE a cI cZ tu (fDec le (fWk (fWaves sp tw h) tu cr to) 3) cr (fInc to (fWk (fWaves sp tw h) tu cr to) 3) (fInc ia (fWk (fWaves sp tw h) tu cr to) 3) ++ (wG a cI cZ sl pr mk pc)))))) (As := [.int (sp h), .int (we h)]) (rest := [.int (nI h), .ref (a 17)]) (nL := 1) ⟨hx, hb, hml, hown, hts⟩ hK hP hD hS hA (c_X0_generate l D a cI cZ _ ta pl br (fStW n ta pl tu st (fWk (fWaves sp tw h) tu cr to) 3) md bc n (sp h) (we h) (hn) (hpl)) [5, 6, 7, 8, 9, 10] [0, 1, 2, 3, 4, 11, 12, 13, 14, 15, 16, 17, 18, 19, 20] [0, 1, 2, 3, 4, 15, 16, 17, 18, 19, 20, 5, 6, 7, 8, 9, 10, 11, 12, 13, 14] rfl rfl (by decide) rfl (by decide) (by decide) rfl rfl (by decide) 5 rfl rfl rfl (cwV 2 hts gX4_liveHour_X0_generate rfl rfl rfl (by decide +kernel) ⟨Nat.le_of_ble_eq_true rfl, Nat.le_of_ble_eq_true rfl⟩) rfl hl.1 rfl (Nat.le_of_ble_eq_true rfl) dX4_liveHour_38 ⟨Nat.zero_le _, Nat.zero_le _⟩ (fun r9 H locs hr9 hP hD hS => ?_)
  subst hr9
  refine k_uv (WR := (wT a cI cZ (nI h) ++ (wW a cI cZ sp we tw ++ (wF a cI cZ ta pl br (fStW n ta pl tu st (fWk (fWaves sp tw h) tu cr to) 3) (fAddR md (fPw (we h) pl br (fStW n ta pl tu st (fWk (fWaves sp tw h) tu cr to) 3) n (sp h)) n) (nI n) bc ++ (wE a cI cZ tu (fDec le (fWk (fWaves sp tw h) tu cr to) 3) cr (fInc to (fWk (fWaves sp tw h) tu cr to) 3) (fInc ia (fWk (fWaves sp tw h) tu cr to) 3)))))) (WN := (wT a cI cZ (nI h) ++ (wW a cI cZ sp we tw ++ (wF a cI cZ ta pl br (fStW n ta pl tu st (fWk (fWaves sp tw h) tu cr to) 3) (fAddR md (fPw (we h) pl br (fStW n ta pl tu st (fWk (fWaves sp tw h) tu cr to) 3) n (sp h)) n) (nI n) bc ++ (wE a cI cZ tu (fDec le (fWk (fWaves sp tw h) tu cr to) 3) cr (fInc to (fWk (fWaves sp tw h) tu cr to) 3) (fInc ia (fWk (fWaves sp tw h) tu cr to) 3) ++ (wG a cI cZ sl pr (upd mk h (fSum (fPw (we h) pl br (fStW n ta pl tu st (fWk (fWaves sp tw h) tu cr to) 3) n (sp h)) n)) (pc + (fBring sl pr (upd mk h (fSum (fPw (we h) pl br (fStW n ta pl tu st (fWk (fWaves sp tw h) tu cr to) 3) n (sp h)) n)) h).toInt64))))))) (As := [.int (nI h), .int (fSum (fPw (we h) pl br (fStW n ta pl tu st (fWk (fWaves sp tw h) tu cr to) 3) n (sp h)) n)]) (rest := []) (nL := 1) ⟨hx, hb, hml, hown, hts⟩ hK hP hD hS hA (c_X2_endHour l D a cI cZ _ sl pr mk pc h (fSum (fPw (we h) pl br (fStW n ta pl tu st (fWk (fWaves sp tw h) tu cr to) 3) n (sp h)) n) (by omega)) [17, 18, 19, 20] [0, 1, 2, 3, 4, 5, 6, 7, 8, 9, 10, 11, 12, 13, 14, 15, 16] [0, 1, 2, 3, 4, 5, 6, 7, 8, 9, 10, 11, 12, 13, 14, 15, 16, 17, 18, 19, 20] rfl rfl (by decide) rfl (by decide) (by decide) rfl rfl (by decide) 17 rfl rfl rfl (cwV 2 hts gX4_liveHour_X2_endHour rfl rfl rfl (by decide +kernel) ⟨Nat.le_of_ble_eq_true rfl, Nat.le_of_ble_eq_true rfl⟩) rfl hl.1 rfl (Nat.le_of_ble_eq_true rfl) dX4_liveHour_41 ⟨Nat.zero_le _, Nat.zero_le _⟩ (fun H locs hP hD hS => ?_)
  refine lv_aload_n hx hb dX4_liveHour_44 rfl (lv_at hl 0 rfl) ?_
  refine va_get (D := D) (ci := 4) (v := .ref (a 5)) (C := RX4) (T := TX4) (N := 5) hx hb hts (by decide +kernel) hown hK.1 hP 0 rfl rfl 1 (by decide) (hts (.fieldLink RX4 19 "Turbineorchard" "field" "LTurbineorchard$Field;") (by decide +kernel)) (fun _ h9 => h9) rfl dX4_liveHour_45 ?_
  refine k_uv (WR := (wT a cI cZ (nI h) ++ (wW a cI cZ sp we tw ++ (wE a cI cZ tu (fDec le (fWk (fWaves sp tw h) tu cr to) 3) cr (fInc to (fWk (fWaves sp tw h) tu cr to) 3) (fInc ia (fWk (fWaves sp tw h) tu cr to) 3) ++ (wG a cI cZ sl pr (upd mk h (fSum (fPw (we h) pl br (fStW n ta pl tu st (fWk (fWaves sp tw h) tu cr to) 3) n (sp h)) n)) (pc + (fBring sl pr (upd mk h (fSum (fPw (we h) pl br (fStW n ta pl tu st (fWk (fWaves sp tw h) tu cr to) 3) n (sp h)) n)) h).toInt64)))))) (WN := (wT a cI cZ (nI h) ++ (wW a cI cZ sp we tw ++ (wF a cI cZ ta pl br (setR (fStW n ta pl tu st (fWk (fWaves sp tw h) tu cr to) 3) 0 n 0) (fAddR md (fPw (we h) pl br (fStW n ta pl tu st (fWk (fWaves sp tw h) tu cr to) 3) n (sp h)) n) (nI n) bc ++ (wE a cI cZ tu (fDec le (fWk (fWaves sp tw h) tu cr to) 3) cr (fInc to (fWk (fWaves sp tw h) tu cr to) 3) (fInc ia (fWk (fWaves sp tw h) tu cr to) 3) ++ (wG a cI cZ sl pr (upd mk h (fSum (fPw (we h) pl br (fStW n ta pl tu st (fWk (fWaves sp tw h) tu cr to) 3) n (sp h)) n)) (pc + (fBring sl pr (upd mk h (fSum (fPw (we h) pl br (fStW n ta pl tu st (fWk (fWaves sp tw h) tu cr to) 3) n (sp h)) n)) h).toInt64))))))) (As := []) (rest := []) (nL := 1) ⟨hx, hb, hml, hown, hts⟩ hK hP hD hS hA (c_X0_endStillness l D a cI cZ _ ta pl br (fStW n ta pl tu st (fWk (fWaves sp tw h) tu cr to) 3) (fAddR md (fPw (we h) pl br (fStW n ta pl tu st (fWk (fWaves sp tw h) tu cr to) 3) n (sp h)) n) bc n (hn)) [5, 6, 7, 8, 9, 10] [0, 1, 2, 3, 4, 11, 12, 13, 14, 15, 16, 17, 18, 19, 20] [0, 1, 2, 3, 4, 15, 16, 17, 18, 19, 20, 5, 6, 7, 8, 9, 10, 11, 12, 13, 14] rfl rfl (by decide) rfl (by decide) (by decide) rfl rfl (by decide) 5 rfl rfl rfl (cwV 0 hts gX4_liveHour_X0_endStillness rfl rfl rfl (by decide +kernel) ⟨Nat.le_of_ble_eq_true rfl, Nat.le_of_ble_eq_true rfl⟩) rfl hl.1 rfl (Nat.le_of_ble_eq_true rfl) dX4_liveHour_48 ⟨Nat.zero_le _, Nat.zero_le _⟩ (fun H locs hP hD hS => ?_)
  refine lv_aload_n hx hb dX4_liveHour_51 rfl (lv_at hl 0 rfl) ?_
  refine k_uv (WR := []) (WN := (wT a cI cZ (nI h) ++ (wW a cI cZ sp we tw ++ (wF a cI cZ ta pl (fBrE br tu (fEn tu (fDec le (fWk (fWaves sp tw h) tu cr to) 3)) 3) (setR (fStW n ta pl tu st (fWk (fWaves sp tw h) tu cr to) 3) 0 n 0) (fAddR md (fPw (we h) pl br (fStW n ta pl tu st (fWk (fWaves sp tw h) tu cr to) 3) n (sp h)) n) (nI n) (fBcE bc (fEn tu (fDec le (fWk (fWaves sp tw h) tu cr to) 3)) 3) ++ (wE a cI cZ (fTuE tu (fEn tu (fDec le (fWk (fWaves sp tw h) tu cr to) 3)) 3) (fDec le (fWk (fWaves sp tw h) tu cr to) 3) cr (fInc to (fWk (fWaves sp tw h) tu cr to) 3) (fInc ia (fWk (fWaves sp tw h) tu cr to) 3) ++ (wG a cI cZ sl pr (upd mk h (fSum (fPw (we h) pl br (fStW n ta pl tu st (fWk (fWaves sp tw h) tu cr to) 3) n (sp h)) n)) (pc + (fBring sl pr (upd mk h (fSum (fPw (we h) pl br (fStW n ta pl tu st (fWk (fWaves sp tw h) tu cr to) 3) n (sp h)) n)) h).toInt64))))))) (As := []) (rest := []) (nL := 1) ⟨hx, hb, hml, hown, hts⟩ hK hP hD hS hA (c_X4_endRepairs l D a cI cZ _ sp we tw ta pl br (setR (fStW n ta pl tu st (fWk (fWaves sp tw h) tu cr to) 3) 0 n 0) (fAddR md (fPw (we h) pl br (fStW n ta pl tu st (fWk (fWaves sp tw h) tu cr to) 3) n (sp h)) n) bc tu (fDec le (fWk (fWaves sp tw h) tu cr to) 3) cr (fInc to (fWk (fWaves sp tw h) tu cr to) 3) (fInc ia (fWk (fWaves sp tw h) tu cr to) 3) sl pr (upd mk h (fSum (fPw (we h) pl br (fStW n ta pl tu st (fWk (fWaves sp tw h) tu cr to) 3) n (sp h)) n)) (pc + (fBring sl pr (upd mk h (fSum (fPw (we h) pl br (fStW n ta pl tu st (fWk (fWaves sp tw h) tu cr to) 3) n (sp h)) n)) h).toInt64) n h (hn) (hh) (htu)) [0, 1, 2, 3, 4, 5, 6, 7, 8, 9, 10, 11, 12, 13, 14, 15, 16, 17, 18, 19, 20] [] [0, 1, 2, 3, 4, 5, 6, 7, 8, 9, 10, 11, 12, 13, 14, 15, 16, 17, 18, 19, 20] rfl rfl (by decide) rfl (by decide) (by decide) rfl rfl (by decide) 0 rfl rfl rfl (cwV 0 hts gX4_liveHour_X4_endRepairs rfl rfl rfl (by decide +kernel) ⟨Nat.le_of_ble_eq_true rfl, Nat.le_of_ble_eq_true rfl⟩) rfl hl.1 rfl (Nat.le_of_ble_eq_true rfl) dX4_liveHour_52 ⟨Nat.zero_le _, Nat.zero_le _⟩ (fun H locs hP hD hS => ?_)
  refine lv_aload_n hx hb dX4_liveHour_55 rfl (lv_at hl 0 rfl) ?_
  refine lv_dup hx hb dX4_liveHour_56 rfl ?_
  refine va_get (D := D) (ci := 4) (v := .int (nI h)) (C := RX4) (T := TX4) (N := 5) hx hb hts (by decide +kernel) hown hK.1 hP 0 rfl rfl 4 (by decide) (hts (.fieldLink RX4 37 "Turbineorchard" "now" "I") (by decide +kernel)) (fun _ h9 => h9) rfl dX4_liveHour_57 ?_
  refine lv_iconst (v := 1) hx hb dX4_liveHour_60 (by decide) ?_
  refine lv_iadd hx hb dX4_liveHour_61 ?_
  refine k_rw (y := nI (h + 1)) (nI_1 h) ?_
  refine va_put (D := D) (ci := 4) (v := .int (nI (h + 1))) (ty := .int) (C := RX4) (T := TX4) (N := 5) hx hb hts (by decide +kernel) tyX4 tyX4_ok nmX4 hown hK.1 hP hD hS 0 rfl rfl 4 (by decide) (hts (.fieldLink RX4 37 "Turbineorchard" "now" "I") (by decide +kernel)) (fun _ h9 => h9) rfl (by decide +kernel) rfl rfl (Nat.le_of_ble_eq_true rfl) dX4_liveHour_62 (fun H locs hP hD hS => ?_)
  have hP : va_P D vwCl (wT a cI cZ (nI (h + 1)) ++ (wW a cI cZ sp we tw ++ (wF a cI cZ ta pl (fBrE br tu (fEn tu (fDec le (fWk (fWaves sp tw h) tu cr to) 3)) 3) (setR (fStW n ta pl tu st (fWk (fWaves sp tw h) tu cr to) 3) 0 n 0) (fAddR md (fPw (we h) pl br (fStW n ta pl tu st (fWk (fWaves sp tw h) tu cr to) 3) n (sp h)) n) (nI n) (fBcE bc (fEn tu (fDec le (fWk (fWaves sp tw h) tu cr to) 3)) 3) ++ (wE a cI cZ (fTuE tu (fEn tu (fDec le (fWk (fWaves sp tw h) tu cr to) 3)) 3) (fDec le (fWk (fWaves sp tw h) tu cr to) 3) cr (fInc to (fWk (fWaves sp tw h) tu cr to) 3) (fInc ia (fWk (fWaves sp tw h) tu cr to) 3) ++ (wG a cI cZ sl pr (upd mk h (fSum (fPw (we h) pl br (fStW n ta pl tu st (fWk (fWaves sp tw h) tu cr to) 3) n (sp h)) n)) (pc + (fBring sl pr (upd mk h (fSum (fPw (we h) pl br (fStW n ta pl tu st (fWk (fWaves sp tw h) tu cr to) 3) n (sp h)) n)) h).toInt64)))))) H := hP
  have hD : va_D A (wT a cI cZ (nI (h + 1)) ++ (wW a cI cZ sp we tw ++ (wF a cI cZ ta pl (fBrE br tu (fEn tu (fDec le (fWk (fWaves sp tw h) tu cr to) 3)) 3) (setR (fStW n ta pl tu st (fWk (fWaves sp tw h) tu cr to) 3) 0 n 0) (fAddR md (fPw (we h) pl br (fStW n ta pl tu st (fWk (fWaves sp tw h) tu cr to) 3) n (sp h)) n) (nI n) (fBcE bc (fEn tu (fDec le (fWk (fWaves sp tw h) tu cr to) 3)) 3) ++ (wE a cI cZ (fTuE tu (fEn tu (fDec le (fWk (fWaves sp tw h) tu cr to) 3)) 3) (fDec le (fWk (fWaves sp tw h) tu cr to) 3) cr (fInc to (fWk (fWaves sp tw h) tu cr to) 3) (fInc ia (fWk (fWaves sp tw h) tu cr to) 3) ++ (wG a cI cZ sl pr (upd mk h (fSum (fPw (we h) pl br (fStW n ta pl tu st (fWk (fWaves sp tw h) tu cr to) 3) n (sp h)) n)) (pc + (fBring sl pr (upd mk h (fSum (fPw (we h) pl br (fStW n ta pl tu st (fWk (fWaves sp tw h) tu cr to) 3) n (sp h)) n)) h).toInt64)))))) := hD
  refine lv_aload_n hx hb dX4_liveHour_65 rfl (lv_at hl 0 rfl) ?_
  refine va_get (D := D) (ci := 4) (v := .int (nI (h + 1))) (C := RX4) (T := TX4) (N := 5) hx hb hts (by decide +kernel) hown hK.1 hP 0 rfl rfl 4 (by decide) (hts (.fieldLink RX4 37 "Turbineorchard" "now" "I") (by decide +kernel)) (fun _ h9 => h9) rfl dX4_liveHour_66 ?_
  refine lv_bipush (v := 24) hx hb dX4_liveHour_69 (by decide) ?_
  refine lv_irem hx hb dX4_liveHour_71 (by decide) ?_
  refine k_rw (y := nI ((h + 1) % 24)) (nI_r24 (by omega)) ?_
  refine lv_if_ne (tgt := 82) hx hb dX4_liveHour_72 (by decide) (fun c_72 => ?_) (fun c_72 => ?_)
  · have c_72 : ¬ (h + 1) % 24 = 0 := fun q => c_72 (by rw [q]; rfl)
    have e9 : (fInc to (fWk (fWaves sp tw h) tu cr to) 3) = (fDay (h + 1) (fInc to (fWk (fWaves sp tw h) tu cr to) 3)) := by unfold fDay; rw [if_neg c_72]
    rw [e9] at hP hD
    clear e9
    exact k_endV (sz := 0) hx hb hr hlocks hP hD hS dX4_liveHour_82
  · have c_72 : (h + 1) % 24 = 0 := (nI_eq (by omega) (by decide)).mp c_72
    refine lv_aload_n hx hb dX4_liveHour_75 rfl (lv_at hl 0 rfl) ?_
    refine va_get (D := D) (ci := 4) (v := .ref (a 11)) (C := RX4) (T := TX4) (N := 5) hx hb hts (by decide +kernel) hown hK.1 hP 0 rfl rfl 2 (by decide) (hts (.fieldLink RX4 26 "Turbineorchard" "fleet" "LTurbineorchard$Fleet;") (by decide +kernel)) (fun _ h9 => h9) rfl dX4_liveHour_76 ?_
    refine k_uv (WR := (wT a cI cZ (nI (h + 1)) ++ (wW a cI cZ sp we tw ++ (wF a cI cZ ta pl (fBrE br tu (fEn tu (fDec le (fWk (fWaves sp tw h) tu cr to) 3)) 3) (setR (fStW n ta pl tu st (fWk (fWaves sp tw h) tu cr to) 3) 0 n 0) (fAddR md (fPw (we h) pl br (fStW n ta pl tu st (fWk (fWaves sp tw h) tu cr to) 3) n (sp h)) n) (nI n) (fBcE bc (fEn tu (fDec le (fWk (fWaves sp tw h) tu cr to) 3)) 3) ++ (wG a cI cZ sl pr (upd mk h (fSum (fPw (we h) pl br (fStW n ta pl tu st (fWk (fWaves sp tw h) tu cr to) 3) n (sp h)) n)) (pc + (fBring sl pr (upd mk h (fSum (fPw (we h) pl br (fStW n ta pl tu st (fWk (fWaves sp tw h) tu cr to) 3) n (sp h)) n)) h).toInt64)))))) (WN := (wT a cI cZ (nI (h + 1)) ++ (wW a cI cZ sp we tw ++ (wF a cI cZ ta pl (fBrE br tu (fEn tu (fDec le (fWk (fWaves sp tw h) tu cr to) 3)) 3) (setR (fStW n ta pl tu st (fWk (fWaves sp tw h) tu cr to) 3) 0 n 0) (fAddR md (fPw (we h) pl br (fStW n ta pl tu st (fWk (fWaves sp tw h) tu cr to) 3) n (sp h)) n) (nI n) (fBcE bc (fEn tu (fDec le (fWk (fWaves sp tw h) tu cr to) 3)) 3) ++ (wE a cI cZ (fTuE tu (fEn tu (fDec le (fWk (fWaves sp tw h) tu cr to) 3)) 3) (fDec le (fWk (fWaves sp tw h) tu cr to) 3) cr (setR (fInc to (fWk (fWaves sp tw h) tu cr to) 3) 0 3 0) (fInc ia (fWk (fWaves sp tw h) tu cr to) 3) ++ (wG a cI cZ sl pr (upd mk h (fSum (fPw (we h) pl br (fStW n ta pl tu st (fWk (fWaves sp tw h) tu cr to) 3) n (sp h)) n)) (pc + (fBring sl pr (upd mk h (fSum (fPw (we h) pl br (fStW n ta pl tu st (fWk (fWaves sp tw h) tu cr to) 3) n (sp h)) n)) h).toInt64))))))) (As := []) (rest := []) (nL := 1) ⟨hx, hb, hml, hown, hts⟩ hK hP hD hS hA (c_X1_beginDay l D a cI cZ _ (fTuE tu (fEn tu (fDec le (fWk (fWaves sp tw h) tu cr to) 3)) 3) (fDec le (fWk (fWaves sp tw h) tu cr to) 3) cr (fInc to (fWk (fWaves sp tw h) tu cr to) 3) (fInc ia (fWk (fWaves sp tw h) tu cr to) 3) ) [11, 12, 13, 14, 15, 16] [0, 1, 2, 3, 4, 5, 6, 7, 8, 9, 10, 17, 18, 19, 20] [0, 1, 2, 3, 4, 5, 6, 7, 8, 9, 10, 15, 16, 17, 18, 19, 20, 11, 12, 13, 14] rfl rfl (by decide) rfl (by decide) (by decide) rfl rfl (by decide) 11 rfl rfl rfl (cwV 0 hts gX4_liveHour_X1_beginDay rfl rfl rfl (by decide +kernel) ⟨Nat.le_of_ble_eq_true rfl, Nat.le_of_ble_eq_true rfl⟩) rfl hl.1 rfl (Nat.le_of_ble_eq_true rfl) dX4_liveHour_79 ⟨Nat.zero_le _, Nat.zero_le _⟩ (fun H locs hP hD hS => ?_)
    have e9 : (setR (fInc to (fWk (fWaves sp tw h) tu cr to) 3) 0 3 0) = (fDay (h + 1) (fInc to (fWk (fWaves sp tw h) tu cr to) 3)) := by unfold fDay; rw [if_pos c_72]
    rw [e9] at hP hD
    clear e9
    exact k_endV (sz := 0) hx hb hr hlocks hP hD hS dX4_liveHour_82
