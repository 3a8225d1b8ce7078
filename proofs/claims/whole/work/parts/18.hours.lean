set_option maxHeartbeats 4000000 in
set_option maxRecDepth 100000 in
theorem c_X5_windAt (l : Launch) (D : va_G) (b : Nat → Nat) (cI cZ : ClassId) (sz : Nat) (pl : Nat → Int32) (br : Nat → Int32) (md : Nat → Int32) (tn : Nat → Int32) (sp : Nat → Int32) (we : Nat → Int32) (tw : Nat → Int32) (sl : Nat → Int32) (pr : Nat → Int32) (al : Nat → Int32) (mo : Nat → Int32) (cr : Nat → Int32) (tu : Nat → Int32) (le : Nat → Int32) (to : Nat → Int32) (ia : Nat → Int32) (th : Int32) (n : Nat) (h : Nat) (t : Int32) (hn : n ≤ 12) (hh : h < 480) (hpl : ∀ k, k < n → pl k = nI (fP pl k) ∧ fP pl k < 24) (hwe : ∀ k, we k = 0 ∨ we k = 1) (hbr : ∀ k, br k = 0 ∨ br k = 1) : kUi l yX5_windAt wsX5_windAt ({ frames := 2, cells := 0, slots := 0, locals := 51 }) [.ref (b 0), .int t] D cI cZ sz (wM b cI cZ pl br md tn (nI n) sp we tw sl pr al mo (nI h) cr tu le to ia th) (wM b cI cZ pl br md (kIf (cWindAt n t) (fTnAll n br tn n) tn) (nI n) sp we tw sl pr al mo (nI h) cr tu le to ia (nI (cWindAt n t))) (fun r => cWindAt n t = 0 → r = fWind (we h) pl br (fun _ => 0) n (sp h) (fP pl (cl t))) := by
  refine Met.ofW (cc := cX5_windAt) (maxL := 2) (ret := (some .int)) (by decide) rfl ?_
  intro p e s m args below meth c s₁ B hml hv
  obtain ⟨rfl, hsz, hP, hK, hD0⟩ := hv
  have hx := B.exec
  have hb := B.bytes
  have hr := B.returns
  have hts := atoms_spec (ws := wsX5_windAt) B.pre
  have hown : s.vm.findClass RX5 = some m.cls := findClass_of_methodNamed B.named
  have hlocks := B.notSynchronized
  subst hsz
  have hD := hD0.self (sz := s.heap.size)
  generalize hAe : va_A (wM b cI cZ pl br md tn (nI n) sp we tw sl pr al mo (nI h) cr tu le to ia th) s.heap.size = A at hD ⊢
  have hA : ∀ q : Nat, s.heap.size ≤ q → A q := fun q h => by rw [← hAe]; exact Or.inr h
  have hS : va_S A s.heap s.heap [] := va_S.rf
  have hl := lv_entry ([.ref (b 0), .int t]) (n := 2) (Nat.le_of_ble_eq_true rfl)
  rw [lg_entry_eq]
  generalize (lg_sl ([.ref (b 0), .int t]) ++ List.replicate (2 - (lg_sl ([.ref (b 0), .int t])).length) Slot.unset).toArray = ls at hl ⊢
  have hl : lv_has ls 2 [(0, .ref (b 0)), (1, .int t)] := hl
  refine lv_aload_n hx hb dX5_windAt_0 rfl (lv_at hl 0 rfl) ?_
  refine lv_aload_n hx hb dX5_windAt_1 rfl (lv_at hl 0 rfl) ?_
  refine lv_iload_n hx hb dX5_windAt_2 rfl (lv_at hl 1 rfl) ?_
  refine k_rd (As := [.int t]) (rest := [.ref (b 0)]) (nL := 2) ⟨hx, hb, hml, hown, hts⟩ hK hP (c_X5_isTurbine l D b cI cZ pl br md tn sp we tw sl pr al mo (nI h) cr tu le to ia th n t) [0, 1, 2, 3, 4, 5, 6, 7, 8, 9, 10, 11, 12, 13, 14, 15, 16] rfl 0 rfl rfl rfl (cwV 1 hts gX5_windAt_X5_isTurbine rfl rfl rfl (by decide +kernel) ⟨Nat.le_of_ble_eq_true rfl, Nat.le_of_ble_eq_true rfl⟩) rfl hl.1 rfl (Nat.le_of_ble_eq_true rfl) dX5_windAt_3 ⟨Nat.zero_le _, Nat.zero_le _⟩ (fun r9 hr9 => ?_)
  subst hr9
  refine lv_if_eq (tgt := 13) hx hb dX5_windAt_6 (by decide) (fun c_6 => ?_) (fun c_6 => ?_)
  · have c_6 := bI_0 c_6
    refine lv_iconst (v := 1) hx hb dX5_windAt_13 (by decide) ?_
    refine k_ui (WR := []) (WN := (wM b cI cZ pl br md tn (nI n) sp we tw sl pr al mo (nI h) cr tu le to ia 1)) (As := [.int 1]) (rest := []) (nL := 2) ⟨hx, hb, hml, hown, hts⟩ hK hP hD hS hA (c_X5_fails l D b cI cZ _ pl br md tn (nI n) sp we tw sl pr al mo (nI h) cr tu le to ia th 1) [0, 1, 2, 3, 4, 5, 6, 7, 8, 9, 10, 11, 12, 13, 14, 15, 16] [] [0, 1, 2, 3, 4, 5, 6, 7, 8, 9, 10, 11, 12, 13, 14, 15, 16] rfl rfl (by decide) rfl (by decide) (by decide) rfl rfl (by decide) 0 rfl rfl rfl (cwV 1 hts gX5_windAt_X5_fails rfl rfl rfl (by decide +kernel) ⟨Nat.le_of_ble_eq_true rfl, Nat.le_of_ble_eq_true rfl⟩) rfl hl.1 rfl (Nat.le_of_ble_eq_true rfl) dX5_windAt_14 ⟨Nat.zero_le _, Nat.zero_le _⟩ (fun r9 H locs hr9 hP hD hS => ?_)
    subst hr9
    refine lv_if_eq (tgt := 22) hx hb dX5_windAt_17 (by decide) (fun c_17 => by first | exact absurd c_17 (by decide) | exact absurd (by decide) c_17) (fun c_17 => ?_)
    have e9 : (kIf (cWindAt n t) (fTnAll n br tn n) tn) = tn := kIf_s (fun z9 => absurd (z9.symm.trans (show cWindAt n t = 1 from by unfold cWindAt; rw [if_neg c_6])) (by decide))
    have hP : va_P D vwCl (wM b cI cZ pl br md (kIf (cWindAt n t) (fTnAll n br tn n) tn) (nI n) sp we tw sl pr al mo (nI h) cr tu le to ia 1) H := by rw [e9]; exact hP
    have hD : va_D A (wM b cI cZ pl br md (kIf (cWindAt n t) (fTnAll n br tn n) tn) (nI n) sp we tw sl pr al mo (nI h) cr tu le to ia 1) := by rw [e9]; exact hD
    clear e9
    have e9 : (nI (cWindAt n t)) = 1 := by rw [show cWindAt n t = 1 from by unfold cWindAt; rw [if_neg c_6]]; rfl
    have hP : va_P D vwCl (wM b cI cZ pl br md (kIf (cWindAt n t) (fTnAll n br tn n) tn) (nI n) sp we tw sl pr al mo (nI h) cr tu le to ia (nI (cWindAt n t))) H := by rw [e9]; exact hP
    have hD : va_D A (wM b cI cZ pl br md (kIf (cWindAt n t) (fTnAll n br tn n) tn) (nI n) sp we tw sl pr al mo (nI h) cr tu le to ia (nI (cWindAt n t))) := by rw [e9]; exact hD
    clear e9
    refine lv_iconst (v := (-1)) hx hb dX5_windAt_20 (by decide) ?_
    exact k_endI (ty := .int) hx hb hr hlocks (rfl) (fun z9 => absurd (z9.symm.trans (show cWindAt n t = 1 from by unfold cWindAt; rw [if_neg c_6])) (by decide)) hP hD hS dX5_windAt_21
  · have c_6 := bI_n c_6
    refine lv_iconst (v := 0) hx hb dX5_windAt_9 (by decide) ?_
    refine lv_goto (tgt := 14) hx hb dX5_windAt_10 (by decide) ?_
    refine k_ui (WR := []) (WN := (wM b cI cZ pl br md tn (nI n) sp we tw sl pr al mo (nI h) cr tu le to ia 0)) (As := [.int 0]) (rest := []) (nL := 2) ⟨hx, hb, hml, hown, hts⟩ hK hP hD hS hA (c_X5_fails l D b cI cZ _ pl br md tn (nI n) sp we tw sl pr al mo (nI h) cr tu le to ia th 0) [0, 1, 2, 3, 4, 5, 6, 7, 8, 9, 10, 11, 12, 13, 14, 15, 16] [] [0, 1, 2, 3, 4, 5, 6, 7, 8, 9, 10, 11, 12, 13, 14, 15, 16] rfl rfl (by decide) rfl (by decide) (by decide) rfl rfl (by decide) 0 rfl rfl rfl (cwV 1 hts gX5_windAt_X5_fails rfl rfl rfl (by decide +kernel) ⟨Nat.le_of_ble_eq_true rfl, Nat.le_of_ble_eq_true rfl⟩) rfl hl.1 rfl (Nat.le_of_ble_eq_true rfl) dX5_windAt_14 ⟨Nat.zero_le _, Nat.zero_le _⟩ (fun r9 H locs hr9 hP hD hS => ?_)
    subst hr9
    refine lv_if_eq (tgt := 22) hx hb dX5_windAt_17 (by decide) (fun c_17 => ?_) (fun c_17 => by first | exact absurd c_17 (by decide) | exact absurd (by decide) c_17)
    have hq := has_cl hn c_6
    rw [hq.1] at hl
    refine lv_aload_n hx hb dX5_windAt_22 rfl (lv_at hl 0 rfl) ?_
    refine k_uv (WR := []) (WN := (wM b cI cZ pl br md (fTnAll n br tn n) (nI n) sp we tw sl pr al mo (nI h) cr tu le to ia 0)) (As := []) (rest := []) (nL := 2) ⟨hx, hb, hml, hown, hts⟩ hK hP hD hS hA (c_X5_allTurn l D b cI cZ _ pl br md tn sp we tw sl pr al mo (nI h) cr tu le to ia 0 n (hn)) [0, 1, 2, 3, 4, 5, 6, 7, 8, 9, 10, 11, 12, 13, 14, 15, 16] [] [0, 1, 2, 3, 4, 5, 6, 7, 8, 9, 10, 11, 12, 13, 14, 15, 16] rfl rfl (by decide) rfl (by decide) (by decide) rfl rfl (by decide) 0 rfl rfl rfl (cwV 0 hts gX5_windAt_X5_allTurn rfl rfl rfl (by decide +kernel) ⟨Nat.le_of_ble_eq_true rfl, Nat.le_of_ble_eq_true rfl⟩) rfl hl.1 rfl (Nat.le_of_ble_eq_true rfl) dX5_windAt_23 ⟨Nat.zero_le _, Nat.zero_le _⟩ (fun H locs hP hD hS => ?_)
    refine lv_aload_n hx hb dX5_windAt_26 rfl (lv_at hl 0 rfl) ?_
    refine lv_iload_n hx hb dX5_windAt_27 rfl (lv_at hl 1 rfl) ?_
    refine lv_aload_n hx hb dX5_windAt_28 rfl (lv_at hl 0 rfl) ?_
    refine va_get (D := D) (ci := 5) (v := .int (nI h)) (C := RX5) (T := TX5) (N := 19) hx hb hts (by decide +kernel) hown hK.1 hP 0 rfl rfl 12 (by decide) (hts (.fieldLink RX5 73 "TurbineorchardModel" "now" "I") (by decide +kernel)) (fun _ h9 => h9) rfl dX5_windAt_29 ?_
    refine k_rd (As := [.int (nI (cl t)), .int (nI h)]) (rest := []) (nL := 2) ⟨hx, hb, hml, hown, hts⟩ hK hP (c_X5_windOf l D b cI cZ pl br md (fTnAll n br tn n) sp we tw sl pr al mo (nI h) cr tu le to ia 0 n (cl t) h (fun _ => 0) (hn) (hpl) (hwe) (tn_all hbr) (by omega) (by omega)) [0, 1, 2, 3, 4, 5, 6, 7, 8, 9, 10, 11, 12, 13, 14, 15, 16] rfl 0 rfl rfl rfl (cwV 2 hts gX5_windAt_X5_windOf rfl rfl rfl (by decide +kernel) ⟨Nat.le_of_ble_eq_true rfl, Nat.le_of_ble_eq_true rfl⟩) rfl hl.1 rfl (Nat.le_of_ble_eq_true rfl) dX5_windAt_32 ⟨Nat.zero_le _, Nat.zero_le _⟩ (fun r9 hr9 => ?_)
    subst hr9
    have e9 : (kIf (cWindAt n t) (fTnAll n br tn n) tn) = (fTnAll n br tn n) := kIf_0 (by unfold cWindAt; rw [if_pos c_6])
    have hP : va_P D vwCl (wM b cI cZ pl br md (kIf (cWindAt n t) (fTnAll n br tn n) tn) (nI n) sp we tw sl pr al mo (nI h) cr tu le to ia 0) H := by rw [e9]; exact hP
    have hD : va_D A (wM b cI cZ pl br md (kIf (cWindAt n t) (fTnAll n br tn n) tn) (nI n) sp we tw sl pr al mo (nI h) cr tu le to ia 0) := by rw [e9]; exact hD
    clear e9
    have e9 : (nI (cWindAt n t)) = 0 := by rw [show cWindAt n t = 0 from by unfold cWindAt; rw [if_pos c_6]]; rfl
    have hP : va_P D vwCl (wM b cI cZ pl br md (kIf (cWindAt n t) (fTnAll n br tn n) tn) (nI n) sp we tw sl pr al mo (nI h) cr tu le to ia (nI (cWindAt n t))) H := by rw [e9]; exact hP
    have hD : va_D A (wM b cI cZ pl br md (kIf (cWindAt n t) (fTnAll n br tn n) tn) (nI n) sp we tw sl pr al mo (nI h) cr tu le to ia (nI (cWindAt n t))) := by rw [e9]; exact hD
    clear e9
    exact k_endI (ty := .int) hx hb hr hlocks (rfl) (fun _ => rfl) hP hD hS dX5_windAt_35

set_option maxHeartbeats 4000000 in
set_option maxRecDepth 100000 in
theorem c_X5_sum (l : Launch) (D : va_G) (b : Nat → Nat) (cI cZ : ClassId) (sz : Nat) (pl : Nat → Int32) (br : Nat → Int32) (md : Nat → Int32) (tn : Nat → Int32) (sp : Nat → Int32) (we : Nat → Int32) (tw : Nat → Int32) (sl : Nat → Int32) (pr : Nat → Int32) (al : Nat → Int32) (mo : Nat → Int32) (now : Int32) (cr : Nat → Int32) (tu : Nat → Int32) (le : Nat → Int32) (to : Nat → Int32) (ia : Nat → Int32) (th : Int32) (n : Nat) (g : Nat) (hn : n ≤ 12) (hpl : ∀ k, k < n → pl k = nI (fP pl k) ∧ fP pl k < 24) (hwe : ∀ k, we k = 0 ∨ we k = 1) (hbr : ∀ k, br k = 0 ∨ br k = 1) (hg : g < 480) : kUi l yX5_sum wsX5_sum ({ frames := 3, cells := 0, slots := 0, locals := 74 }) [.ref (b 0), .int (nI g)] D cI cZ sz (wM b cI cZ pl br md tn (nI n) sp we tw sl pr al mo now cr tu le to ia th) (wM b cI cZ pl br md (fTnAll n br tn n) (nI n) sp we tw sl pr al mo now cr tu le to ia th) (fun r => r = fSum (fPw (we g) pl br (fun _ => 0) n (sp g)) n) := by
  refine Met.ofW (cc := cX5_sum) (maxL := 4) (ret := (some .int)) (by decide) rfl ?_
  intro p e s m args below meth c s₁ B hml hv
  obtain ⟨rfl, hsz, hP, hK, hD0⟩ := hv
  have hx := B.exec
  have hb := B.bytes
  have hr := B.returns
  have hts := atoms_spec (ws := wsX5_sum) B.pre
  have hown : s.vm.findClass RX5 = some m.cls := findClass_of_methodNamed B.named
  have hlocks := B.notSynchronized
  subst hsz
  have hD := hD0.self (sz := s.heap.size)
  generalize hAe : va_A (wM b cI cZ pl br md tn (nI n) sp we tw sl pr al mo now cr tu le to ia th) s.heap.size = A at hD ⊢
  have hA : ∀ q : Nat, s.heap.size ≤ q → A q := fun q h => by rw [← hAe]; exact Or.inr h
  have hS : va_S A s.heap s.heap [] := va_S.rf
  have hl := lv_entry ([.ref (b 0), .int (nI g)]) (n := 4) (Nat.le_of_ble_eq_true rfl)
  rw [lg_entry_eq]
  generalize (lg_sl ([.ref (b 0), .int (nI g)]) ++ List.replicate (4 - (lg_sl ([.ref (b 0), .int (nI g)])).length) Slot.unset).toArray = ls at hl ⊢
  have hl : lv_has ls 4 [(0, .ref (b 0)), (1, .int (nI g))] := hl
  refine lv_aload_n hx hb dX5_sum_0 rfl (lv_at hl 0 rfl) ?_
  refine k_uv (WR := []) (WN := (wM b cI cZ pl br md (fTnAll n br tn n) (nI n) sp we tw sl pr al mo now cr tu le to ia th)) (As := []) (rest := []) (nL := 4) ⟨hx, hb, hml, hown, hts⟩ hK hP hD hS hA (c_X5_allTurn l D b cI cZ _ pl br md tn sp we tw sl pr al mo now cr tu le to ia th n (hn)) [0, 1, 2, 3, 4, 5, 6, 7, 8, 9, 10, 11, 12, 13, 14, 15, 16] [] [0, 1, 2, 3, 4, 5, 6, 7, 8, 9, 10, 11, 12, 13, 14, 15, 16] rfl rfl (by decide) rfl (by decide) (by decide) rfl rfl (by decide) 0 rfl rfl rfl (cwV 0 hts gX5_sum_X5_allTurn rfl rfl rfl (by decide +kernel) ⟨Nat.le_of_ble_eq_true rfl, Nat.le_of_ble_eq_true rfl⟩) rfl hl.1 rfl (Nat.le_of_ble_eq_true rfl) dX5_sum_1 ⟨Nat.zero_le _, Nat.zero_le _⟩ (fun H locs hP hD hS => ?_)
  refine lv_iconst (v := 0) hx hb dX5_sum_4 (by decide) ?_
  refine lv_istore_n (lv' := [(2, .int 0), (0, .ref (b 0)), (1, .int (nI g))]) hx hb dX5_sum_5 rfl hl (by decide) rfl (fun ls hl => ?_)
  refine lv_iconst (v := 0) hx hb dX5_sum_6 (by decide) ?_
  refine lv_istore_n (lv' := [(3, .int 0), (2, .int 0), (0, .ref (b 0)), (1, .int (nI g))]) hx hb dX5_sum_7 rfl hl (by decide) rfl (fun ls hl => ?_)
  have loop_8 : ∀ (nn : Nat) (k : Nat) (x : Int32), n - k < nn → (k ≤ n) → (x = fSum (fPw (we g) pl br (fun _ => 0) n (sp g)) k) → ∀ (H : Heap) (locs : List Loc), va_P D vwCl (wM b cI cZ pl br md (fTnAll n br tn n) (nI n) sp we tw sl pr al mo now cr tu le to ia th) H → va_D A (wM b cI cZ pl br md (fTnAll n br tn n) (nI n) sp we tw sl pr al mo now cr tu le to ia th) → va_S A s.heap H locs → ∀ (ls : Array Slot), lv_has ls 4 [(0, .ref (b 0)), (1, .int (nI g)), (2, .int x), (3, .int (nI k))] → W p l e (headSpec wsX5_sum ({ frames := 3, cells := 0, slots := 0, locals := 74 })).room s m ([.ref (b 0), .int (nI g)] : List Value).toArray below meth c H locs 0 0 (MQ below (va_Qi (fun (r : Int32) (_ : Unit) => (fun r => r = fSum (fPw (we g) pl br (fun _ => 0) n (sp g)) n) r) (fun _ t9 => kAt D A (wM b cI cZ pl br md (fTnAll n br tn n) (nI n) sp we tw sl pr al mo now cr tu le to ia th) t9) A) ([.ref (b 0), .int (nI g)] : List Value).toArray s 0 0 A) (F0 m 8 ls []) := by
    intro nn
    induction nn with
    | zero => intro k x hm; exact absurd hm (by omega)
    | succ nn ih_8 =>
      intro k x hm hk hx9 H locs hP hD hS ls hl
      refine lv_iload_n hx hb dX5_sum_8 rfl (lv_at hl 3 rfl) ?_
      refine lv_aload_n hx hb dX5_sum_9 rfl (lv_at hl 0 rfl) ?_
      refine va_get (D := D) (ci := 5) (v := .int (nI n)) (C := RX5) (T := TX5) (N := 19) hx hb hts (by decide +kernel) hown hK.1 hP 0 rfl rfl 4 (by decide) (hts (.fieldLink RX5 62 "TurbineorchardModel" "turbines" "I") (by decide +kernel)) (fun _ h9 => h9) rfl dX5_sum_10 ?_
      refine lv_icmp_ge (tgt := 31) hx hb dX5_sum_13 (by decide) (fun c_13 => ?_) (fun c_13 => ?_)
      · have e8 : k = n := by have := (nI_leI (a := n) (b := k) (by omega) (by omega)).mp c_13; omega
        refine lv_iload_n hx hb dX5_sum_31 rfl (lv_at hl 2 rfl) ?_
        exact k_endI (ty := .int) hx hb hr hlocks (rfl) (by rw [hx9, e8]) hP hD hS dX5_sum_32
      · have c_13 : k < n := Nat.lt_of_not_le (fun h => c_13 ((nI_leI (a := n) (b := k) (by omega) (by omega)).mpr h))
        refine lv_iload_n hx hb dX5_sum_16 rfl (lv_at hl 2 rfl) ?_
        refine lv_aload_n hx hb dX5_sum_17 rfl (lv_at hl 0 rfl) ?_
        refine lv_iload_n hx hb dX5_sum_18 rfl (lv_at hl 3 rfl) ?_
        refine lv_iload_n hx hb dX5_sum_19 rfl (lv_at hl 1 rfl) ?_
        refine k_rd (As := [.int (nI k), .int (nI g)]) (rest := [.int x]) (nL := 4) ⟨hx, hb, hml, hown, hts⟩ hK hP (c_X5_power l D b cI cZ pl br md (fTnAll n br tn n) sp we tw sl pr al mo now cr tu le to ia th n k g (fun _ => 0) (hn) (hpl) (hwe) (tn_all hbr) (by omega) (by omega)) [0, 1, 2, 3, 4, 5, 6, 7, 8, 9, 10, 11, 12, 13, 14, 15, 16] rfl 0 rfl rfl rfl (cwV 2 hts gX5_sum_X5_power rfl rfl rfl (by decide +kernel) ⟨Nat.le_of_ble_eq_true rfl, Nat.le_of_ble_eq_true rfl⟩) rfl hl.1 rfl (Nat.le_of_ble_eq_true rfl) dX5_sum_20 ⟨Nat.zero_le _, Nat.zero_le _⟩ (fun r9 hr9 => ?_)
        subst hr9
        refine lv_iadd hx hb dX5_sum_23 ?_
        refine lv_istore_n (lv' := [(2, .int (x + (fPw (we g) pl br (fun _ => 0) n (sp g) k))), (0, .ref (b 0)), (1, .int (nI g)), (3, .int (nI k))]) hx hb dX5_sum_24 rfl hl (by decide) rfl (fun ls hl => ?_)
        refine lv_iinc (v := nI (k + 1)) (lv' := [(3, .int (nI (k + 1))), (2, .int (x + (fPw (we g) pl br (fun _ => 0) n (sp g) k))), (0, .ref (b 0)), (1, .int (nI g))]) hx hb dX5_sum_25 hl (k := 3) rfl (nI_1 _) (by decide) rfl (fun ls hl => ?_)
        refine lv_goto (tgt := 8) hx hb dX5_sum_28 (by decide) ?_
        exact ih_8 (k + 1) (x + (fPw (we g) pl br (fun _ => 0) n (sp g) k)) (by omega) (by omega) (by rw [hx9]; rfl) _ _ hP hD hS _ (lv_sub hl [2, 3, 1, 0] rfl)
  exact loop_8 (n - 0 + 1) 0 0 (by omega) (by omega) (rfl) _ _ hP hD hS _ (lv_sub hl [2, 3, 1, 0] rfl)

set_option maxHeartbeats 4000000 in
set_option maxRecDepth 100000 in
theorem c_X5_foretold (l : Launch) (D : va_G) (b : Nat → Nat) (cI cZ : ClassId) (sz : Nat) (pl : Nat → Int32) (br : Nat → Int32) (md : Nat → Int32) (tn : Nat → Int32) (sp : Nat → Int32) (we : Nat → Int32) (tw : Nat → Int32) (sl : Nat → Int32) (pr : Nat → Int32) (al : Nat → Int32) (mo : Nat → Int32) (cr : Nat → Int32) (tu : Nat → Int32) (le : Nat → Int32) (to : Nat → Int32) (ia : Nat → Int32) (th : Int32) (n : Nat) (h : Nat) (k : Int32) (hn : n ≤ 12) (hh : h < 480) (hpl : ∀ k, k < n → pl k = nI (fP pl k) ∧ fP pl k < 24) (hwe : ∀ k, we k = 0 ∨ we k = 1) (hbr : ∀ k, br k = 0 ∨ br k = 1) : kUi l yX5_foretold wsX5_foretold ({ frames := 4, cells := 0, slots := 0, locals := 97 }) [.ref (b 0), .int k] D cI cZ sz (wM b cI cZ pl br md tn (nI n) sp we tw sl pr al mo (nI h) cr tu le to ia th) (wM b cI cZ pl br md (kIf (cFore h k) (fTnAll n br tn n) tn) (nI n) sp we tw sl pr al mo (nI h) cr tu le to ia (nI (cFore h k))) (fun r => cFore h k = 0 → r = fSum (fPw (we (cl k)) pl br (fun _ => 0) n (sp (cl k))) n) := by
  refine Met.ofW (cc := cX5_foretold) (maxL := 2) (ret := (some .int)) (by decide) rfl ?_
  intro p e s m args below meth c s₁ B hml hv
  obtain ⟨rfl, hsz, hP, hK, hD0⟩ := hv
  have hx := B.exec
  have hb := B.bytes
  have hr := B.returns
  have hts := atoms_spec (ws := wsX5_foretold) B.pre
  have hown : s.vm.findClass RX5 = some m.cls := findClass_of_methodNamed B.named
  have hlocks := B.notSynchronized
  subst hsz
  have hD := hD0.self (sz := s.heap.size)
  generalize hAe : va_A (wM b cI cZ pl br md tn (nI n) sp we tw sl pr al mo (nI h) cr tu le to ia th) s.heap.size = A at hD ⊢
  have hA : ∀ q : Nat, s.heap.size ≤ q → A q := fun q h => by rw [← hAe]; exact Or.inr h
  have hS : va_S A s.heap s.heap [] := va_S.rf
  have hl := lv_entry ([.ref (b 0), .int k]) (n := 2) (Nat.le_of_ble_eq_true rfl)
  rw [lg_entry_eq]
  generalize (lg_sl ([.ref (b 0), .int k]) ++ List.replicate (2 - (lg_sl ([.ref (b 0), .int k])).length) Slot.unset).toArray = ls at hl ⊢
  have hl : lv_has ls 2 [(0, .ref (b 0)), (1, .int k)] := hl
  refine lv_aload_n hx hb dX5_foretold_0 rfl (lv_at hl 0 rfl) ?_
  refine lv_aload_n hx hb dX5_foretold_1 rfl (lv_at hl 0 rfl) ?_
  refine lv_iload_n hx hb dX5_foretold_2 rfl (lv_at hl 1 rfl) ?_
  refine lv_aload_n hx hb dX5_foretold_3 rfl (lv_at hl 0 rfl) ?_
  refine va_get (D := D) (ci := 5) (v := .int (nI h)) (C := RX5) (T := TX5) (N := 19) hx hb hts (by decide +kernel) hown hK.1 hP 0 rfl rfl 12 (by decide) (hts (.fieldLink RX5 73 "TurbineorchardModel" "now" "I") (by decide +kernel)) (fun _ h9 => h9) rfl dX5_foretold_4 ?_
  refine lv_sipush (v := 479) hx hb dX5_foretold_7 (by decide) ?_
  refine k_pv (As := [.int k, .int (nI h), .int 479]) (rest := [.ref (b 0)]) (nL := 2) ⟨hx, hb, hml, hown, hts⟩ (c_X5_in l _ k (nI h) 479) (cwV 3 hts gX5_foretold_X5_in rfl rfl rfl (by decide +kernel) ⟨Nat.le_of_ble_eq_true rfl, Nat.le_of_ble_eq_true rfl⟩) (va_recv hK.1 hP (ci := 5) (q0 := 0) rfl rfl) rfl hl.1 rfl (Nat.le_of_ble_eq_true rfl) dX5_foretold_10 ⟨Nat.zero_le _, Nat.zero_le _⟩ (fun r9 hr9 => ?_)
  subst hr9
  refine lv_if_eq (tgt := 20) hx hb dX5_foretold_13 (by decide) (fun c_13 => ?_) (fun c_13 => ?_)
  · have c_13 := bI_0 c_13
    refine lv_iconst (v := 1) hx hb dX5_foretold_20 (by decide) ?_
    refine k_ui (WR := []) (WN := (wM b cI cZ pl br md tn (nI n) sp we tw sl pr al mo (nI h) cr tu le to ia 1)) (As := [.int 1]) (rest := []) (nL := 2) ⟨hx, hb, hml, hown, hts⟩ hK hP hD hS hA (c_X5_fails l D b cI cZ _ pl br md tn (nI n) sp we tw sl pr al mo (nI h) cr tu le to ia th 1) [0, 1, 2, 3, 4, 5, 6, 7, 8, 9, 10, 11, 12, 13, 14, 15, 16] [] [0, 1, 2, 3, 4, 5, 6, 7, 8, 9, 10, 11, 12, 13, 14, 15, 16] rfl rfl (by decide) rfl (by decide) (by decide) rfl rfl (by decide) 0 rfl rfl rfl (cwV 1 hts gX5_foretold_X5_fails rfl rfl rfl (by decide +kernel) ⟨Nat.le_of_ble_eq_true rfl, Nat.le_of_ble_eq_true rfl⟩) rfl hl.1 rfl (Nat.le_of_ble_eq_true rfl) dX5_foretold_21 ⟨Nat.zero_le _, Nat.zero_le _⟩ (fun r9 H locs hr9 hP hD hS => ?_)
    subst hr9
    refine lv_if_eq (tgt := 31) hx hb dX5_foretold_24 (by decide) (fun c_24 => by first | exact absurd c_24 (by decide) | exact absurd (by decide) c_24) (fun c_24 => ?_)
    refine lv_iconst (v := (-1)) hx hb dX5_foretold_27 (by decide) ?_
    refine lv_goto (tgt := 36) hx hb dX5_foretold_28 (by decide) ?_
    have e9 : (kIf (cFore h k) (fTnAll n br tn n) tn) = tn := kIf_s (fun z9 => absurd (z9.symm.trans (show cFore h k = 1 from by unfold cFore; rw [if_neg c_13])) (by decide))
    have hP : va_P D vwCl (wM b cI cZ pl br md (kIf (cFore h k) (fTnAll n br tn n) tn) (nI n) sp we tw sl pr al mo (nI h) cr tu le to ia 1) H := by rw [e9]; exact hP
    have hD : va_D A (wM b cI cZ pl br md (kIf (cFore h k) (fTnAll n br tn n) tn) (nI n) sp we tw sl pr al mo (nI h) cr tu le to ia 1) := by rw [e9]; exact hD
    clear e9
    have e9 : (nI (cFore h k)) = 1 := by rw [show cFore h k = 1 from by unfold cFore; rw [if_neg c_13]]; rfl
    have hP : va_P D vwCl (wM b cI cZ pl br md (kIf (cFore h k) (fTnAll n br tn n) tn) (nI n) sp we tw sl pr al mo (nI h) cr tu le to ia (nI (cFore h k))) H := by rw [e9]; exact hP
    have hD : va_D A (wM b cI cZ pl br md (kIf (cFore h k) (fTnAll n br tn n) tn) (nI n) sp we tw sl pr al mo (nI h) cr tu le to ia (nI (cFore h k))) := by rw [e9]; exact hD
    clear e9
    exact k_endI (ty := .int) hx hb hr hlocks (rfl) (fun z9 => absurd (z9.symm.trans (show cFore h k = 1 from by unfold cFore; rw [if_neg c_13])) (by decide)) hP hD hS dX5_foretold_36
  · have c_13 := bI_n c_13
    refine lv_iconst (v := 0) hx hb dX5_foretold_16 (by decide) ?_
    refine lv_goto (tgt := 21) hx hb dX5_foretold_17 (by decide) ?_
    refine k_ui (WR := []) (WN := (wM b cI cZ pl br md tn (nI n) sp we tw sl pr al mo (nI h) cr tu le to ia 0)) (As := [.int 0]) (rest := []) (nL := 2) ⟨hx, hb, hml, hown, hts⟩ hK hP hD hS hA (c_X5_fails l D b cI cZ _ pl br md tn (nI n) sp we tw sl pr al mo (nI h) cr tu le to ia th 0) [0, 1, 2, 3, 4, 5, 6, 7, 8, 9, 10, 11, 12, 13, 14, 15, 16] [] [0, 1, 2, 3, 4, 5, 6, 7, 8, 9, 10, 11, 12, 13, 14, 15, 16] rfl rfl (by decide) rfl (by decide) (by decide) rfl rfl (by decide) 0 rfl rfl rfl (cwV 1 hts gX5_foretold_X5_fails rfl rfl rfl (by decide +kernel) ⟨Nat.le_of_ble_eq_true rfl, Nat.le_of_ble_eq_true rfl⟩) rfl hl.1 rfl (Nat.le_of_ble_eq_true rfl) dX5_foretold_21 ⟨Nat.zero_le _, Nat.zero_le _⟩ (fun r9 H locs hr9 hP hD hS => ?_)
    subst hr9
    refine lv_if_eq (tgt := 31) hx hb dX5_foretold_24 (by decide) (fun c_24 => ?_) (fun c_24 => by first | exact absurd c_24 (by decide) | exact absurd (by decide) c_24)
    have hq := cl_rng (n := h) (m := 479) (nI_toInt (by omega)) (by decide) c_13
    rw [hq.1] at hl
    refine lv_aload_n hx hb dX5_foretold_31 rfl (lv_at hl 0 rfl) ?_
    refine lv_iload_n hx hb dX5_foretold_32 rfl (lv_at hl 1 rfl) ?_
    refine k_ui (WR := []) (WN := (wM b cI cZ pl br md (fTnAll n br tn n) (nI n) sp we tw sl pr al mo (nI h) cr tu le to ia 0)) (As := [.int (nI (cl k))]) (rest := []) (nL := 2) ⟨hx, hb, hml, hown, hts⟩ hK hP hD hS hA (c_X5_sum l D b cI cZ _ pl br md tn sp we tw sl pr al mo (nI h) cr tu le to ia 0 n (cl k) (hn) (hpl) (hwe) (hbr) (by omega)) [0, 1, 2, 3, 4, 5, 6, 7, 8, 9, 10, 11, 12, 13, 14, 15, 16] [] [0, 1, 2, 3, 4, 5, 6, 7, 8, 9, 10, 11, 12, 13, 14, 15, 16] rfl rfl (by decide) rfl (by decide) (by decide) rfl rfl (by decide) 0 rfl rfl rfl (cwV 1 hts gX5_foretold_X5_sum rfl rfl rfl (by decide +kernel) ⟨Nat.le_of_ble_eq_true rfl, Nat.le_of_ble_eq_true rfl⟩) rfl hl.1 rfl (Nat.le_of_ble_eq_true rfl) dX5_foretold_33 ⟨Nat.zero_le _, Nat.zero_le _⟩ (fun r9 H locs hr9 hP hD hS => ?_)
    subst hr9
    have e9 : (kIf (cFore h k) (fTnAll n br tn n) tn) = (fTnAll n br tn n) := kIf_0 (by unfold cFore; rw [if_pos c_13])
    have hP : va_P D vwCl (wM b cI cZ pl br md (kIf (cFore h k) (fTnAll n br tn n) tn) (nI n) sp we tw sl pr al mo (nI h) cr tu le to ia 0) H := by rw [e9]; exact hP
    have hD : va_D A (wM b cI cZ pl br md (kIf (cFore h k) (fTnAll n br tn n) tn) (nI n) sp we tw sl pr al mo (nI h) cr tu le to ia 0) := by rw [e9]; exact hD
    clear e9
    have e9 : (nI (cFore h k)) = 0 := by rw [show cFore h k = 0 from by unfold cFore; rw [if_pos c_13]]; rfl
    have hP : va_P D vwCl (wM b cI cZ pl br md (kIf (cFore h k) (fTnAll n br tn n) tn) (nI n) sp we tw sl pr al mo (nI h) cr tu le to ia (nI (cFore h k))) H := by rw [e9]; exact hP
    have hD : va_D A (wM b cI cZ pl br md (kIf (cFore h k) (fTnAll n br tn n) tn) (nI n) sp we tw sl pr al mo (nI h) cr tu le to ia (nI (cFore h k))) := by rw [e9]; exact hD
    clear e9
    exact k_endI (ty := .int) hx hb hr hlocks (rfl) (fun _ => rfl) hP hD hS dX5_foretold_36

set_option maxHeartbeats 4000000 in
set_option maxRecDepth 100000 in
theorem c_X5_foretoldAnew (l : Launch) (D : va_G) (b : Nat → Nat) (cI cZ : ClassId) (sz : Nat) (pl : Nat → Int32) (br : Nat → Int32) (md : Nat → Int32) (tn : Nat → Int32) (sp : Nat → Int32) (we : Nat → Int32) (tw : Nat → Int32) (sl : Nat → Int32) (pr : Nat → Int32) (al : Nat → Int32) (mo : Nat → Int32) (cr : Nat → Int32) (tu : Nat → Int32) (le : Nat → Int32) (to : Nat → Int32) (ia : Nat → Int32) (th : Int32) (n : Nat) (h : Nat) (k : Int32) (hn : n ≤ 12) (hh : h < 480) (hpl : ∀ k, k < n → pl k = nI (fP pl k) ∧ fP pl k < 24) (hwe : ∀ k, we k = 0 ∨ we k = 1) (hbr : ∀ k, br k = 0 ∨ br k = 1) : kUi l yX5_foretoldAnew wsX5_foretoldAnew ({ frames := 4, cells := 0, slots := 0, locals := 97 }) [.ref (b 0), .int k] D cI cZ sz (wM b cI cZ pl br md tn (nI n) sp we tw sl pr al mo (nI h) cr tu le to ia th) (wM b cI cZ pl br md (kIf (cFore h k) (fTnAll n br tn n) tn) (nI n) sp we tw sl pr al mo (nI h) cr tu le to ia (nI (cFore h k))) (fun r => cFore h k = 0 → r = fSum (fPw (we (cl k)) pl br (fun _ => 0) n (sp (cl k))) n) := by
  refine Met.ofW (cc := cX5_foretoldAnew) (maxL := 2) (ret := (some .int)) (by decide) rfl ?_
  intro p e s m args below meth c s₁ B hml hv
  obtain ⟨rfl, hsz, hP, hK, hD0⟩ := hv
  have hx := B.exec
  have hb := B.bytes
  have hr := B.returns
  have hts := atoms_spec (ws := wsX5_foretoldAnew) B.pre
  have hown : s.vm.findClass RX5 = some m.cls := findClass_of_methodNamed B.named
  have hlocks := B.notSynchronized
  subst hsz
  have hD := hD0.self (sz := s.heap.size)
  generalize hAe : va_A (wM b cI cZ pl br md tn (nI n) sp we tw sl pr al mo (nI h) cr tu le to ia th) s.heap.size = A at hD ⊢
  have hA : ∀ q : Nat, s.heap.size ≤ q → A q := fun q h => by rw [← hAe]; exact Or.inr h
  have hS : va_S A s.heap s.heap [] := va_S.rf
  have hl := lv_entry ([.ref (b 0), .int k]) (n := 2) (Nat.le_of_ble_eq_true rfl)
  rw [lg_entry_eq]
  generalize (lg_sl ([.ref (b 0), .int k]) ++ List.replicate (2 - (lg_sl ([.ref (b 0), .int k])).length) Slot.unset).toArray = ls at hl ⊢
  have hl : lv_has ls 2 [(0, .ref (b 0)), (1, .int k)] := hl
  refine lv_aload_n hx hb dX5_foretoldAnew_0 rfl (lv_at hl 0 rfl) ?_
  refine lv_aload_n hx hb dX5_foretoldAnew_1 rfl (lv_at hl 0 rfl) ?_
  refine lv_iload_n hx hb dX5_foretoldAnew_2 rfl (lv_at hl 1 rfl) ?_
  refine lv_aload_n hx hb dX5_foretoldAnew_3 rfl (lv_at hl 0 rfl) ?_
  refine va_get (D := D) (ci := 5) (v := .int (nI h)) (C := RX5) (T := TX5) (N := 19) hx hb hts (by decide +kernel) hown hK.1 hP 0 rfl rfl 12 (by decide) (hts (.fieldLink RX5 73 "TurbineorchardModel" "now" "I") (by decide +kernel)) (fun _ h9 => h9) rfl dX5_foretoldAnew_4 ?_
  refine lv_sipush (v := 479) hx hb dX5_foretoldAnew_7 (by decide) ?_
  refine k_pv (As := [.int k, .int (nI h), .int 479]) (rest := [.ref (b 0)]) (nL := 2) ⟨hx, hb, hml, hown, hts⟩ (c_X5_in l _ k (nI h) 479) (cwV 3 hts gX5_foretoldAnew_X5_in rfl rfl rfl (by decide +kernel) ⟨Nat.le_of_ble_eq_true rfl, Nat.le_of_ble_eq_true rfl⟩) (va_recv hK.1 hP (ci := 5) (q0 := 0) rfl rfl) rfl hl.1 rfl (Nat.le_of_ble_eq_true rfl) dX5_foretoldAnew_10 ⟨Nat.zero_le _, Nat.zero_le _⟩ (fun r9 hr9 => ?_)
  subst hr9
  refine lv_if_eq (tgt := 20) hx hb dX5_foretoldAnew_13 (by decide) (fun c_13 => ?_) (fun c_13 => ?_)
  · have c_13 := bI_0 c_13
    refine lv_iconst (v := 1) hx hb dX5_foretoldAnew_20 (by decide) ?_
    refine k_ui (WR := []) (WN := (wM b cI cZ pl br md tn (nI n) sp we tw sl pr al mo (nI h) cr tu le to ia 1)) (As := [.int 1]) (rest := []) (nL := 2) ⟨hx, hb, hml, hown, hts⟩ hK hP hD hS hA (c_X5_fails l D b cI cZ _ pl br md tn (nI n) sp we tw sl pr al mo (nI h) cr tu le to ia th 1) [0, 1, 2, 3, 4, 5, 6, 7, 8, 9, 10, 11, 12, 13, 14, 15, 16] [] [0, 1, 2, 3, 4, 5, 6, 7, 8, 9, 10, 11, 12, 13, 14, 15, 16] rfl rfl (by decide) rfl (by decide) (by decide) rfl rfl (by decide) 0 rfl rfl rfl (cwV 1 hts gX5_foretoldAnew_X5_fails rfl rfl rfl (by decide +kernel) ⟨Nat.le_of_ble_eq_true rfl, Nat.le_of_ble_eq_true rfl⟩) rfl hl.1 rfl (Nat.le_of_ble_eq_true rfl) dX5_foretoldAnew_21 ⟨Nat.zero_le _, Nat.zero_le _⟩ (fun r9 H locs hr9 hP hD hS => ?_)
    subst hr9
    refine lv_if_eq (tgt := 31) hx hb dX5_foretoldAnew_24 (by decide) (fun c_24 => by first | exact absurd c_24 (by decide) | exact absurd (by decide) c_24) (fun c_24 => ?_)
    refine lv_iconst (v := (-1)) hx hb dX5_foretoldAnew_27 (by decide) ?_
    refine lv_goto (tgt := 36) hx hb dX5_foretoldAnew_28 (by decide) ?_
    have e9 : (kIf (cFore h k) (fTnAll n br tn n) tn) = tn := kIf_s (fun z9 => absurd (z9.symm.trans (show cFore h k = 1 from by unfold cFore; rw [if_neg c_13])) (by decide))
    have hP : va_P D vwCl (wM b cI cZ pl br md (kIf (cFore h k) (fTnAll n br tn n) tn) (nI n) sp we tw sl pr al mo (nI h) cr tu le to ia 1) H := by rw [e9]; exact hP
    have hD : va_D A (wM b cI cZ pl br md (kIf (cFore h k) (fTnAll n br tn n) tn) (nI n) sp we tw sl pr al mo (nI h) cr tu le to ia 1) := by rw [e9]; exact hD
    clear e9
    have e9 : (nI (cFore h k)) = 1 := by rw [show cFore h k = 1 from by unfold cFore; rw [if_neg c_13]]; rfl
    have hP : va_P D vwCl (wM b cI cZ pl br md (kIf (cFore h k) (fTnAll n br tn n) tn) (nI n) sp we tw sl pr al mo (nI h) cr tu le to ia (nI (cFore h k))) H := by rw [e9]; exact hP
    have hD : va_D A (wM b cI cZ pl br md (kIf (cFore h k) (fTnAll n br tn n) tn) (nI n) sp we tw sl pr al mo (nI h) cr tu le to ia (nI (cFore h k))) := by rw [e9]; exact hD
    clear e9
    exact k_endI (ty := .int) hx hb hr hlocks (rfl) (fun z9 => absurd (z9.symm.trans (show cFore h k = 1 from by unfold cFore; rw [if_neg c_13])) (by decide)) hP hD hS dX5_foretoldAnew_36
  · have c_13 := bI_n c_13
    refine lv_iconst (v := 0) hx hb dX5_foretoldAnew_16 (by decide) ?_
    refine lv_goto (tgt := 21) hx hb dX5_foretoldAnew_17 (by decide) ?_
    refine k_ui (WR := []) (WN := (wM b cI cZ pl br md tn (nI n) sp we tw sl pr al mo (nI h) cr tu le to ia 0)) (As := [.int 0]) (rest := []) (nL := 2) ⟨hx, hb, hml, hown, hts⟩ hK hP hD hS hA (c_X5_fails l D b cI cZ _ pl br md tn (nI n) sp we tw sl pr al mo (nI h) cr tu le to ia th 0) [0, 1, 2, 3, 4, 5, 6, 7, 8, 9, 10, 11, 12, 13, 14, 15, 16] [] [0, 1, 2, 3, 4, 5, 6, 7, 8, 9, 10, 11, 12, 13, 14, 15, 16] rfl rfl (by decide) rfl (by decide) (by decide) rfl rfl (by decide) 0 rfl rfl rfl (cwV 1 hts gX5_foretoldAnew_X5_fails rfl rfl rfl (by decide +kernel) ⟨Nat.le_of_ble_eq_true rfl, Nat.le_of_ble_eq_true rfl⟩) rfl hl.1 rfl (Nat.le_of_ble_eq_true rfl) dX5_foretoldAnew_21 ⟨Nat.zero_le _, Nat.zero_le _⟩ (fun r9 H locs hr9 hP hD hS => ?_)
    subst hr9
    refine lv_if_eq (tgt := 31) hx hb dX5_foretoldAnew_24 (by decide) (fun c_24 => ?_) (fun c_24 => by first | exact absurd c_24 (by decide) | exact absurd (by decide) c_24)
    have hq := cl_rng (n := h) (m := 479) (nI_toInt (by omega)) (by decide) c_13
    rw [hq.1] at hl
    refine lv_aload_n hx hb dX5_foretoldAnew_31 rfl (lv_at hl 0 rfl) ?_
    refine lv_iload_n hx hb dX5_foretoldAnew_32 rfl (lv_at hl 1 rfl) ?_
    refine k_ui (WR := []) (WN := (wM b cI cZ pl br md (fTnAll n br tn n) (nI n) sp we tw sl pr al mo (nI h) cr tu le to ia 0)) (As := [.int (nI (cl k))]) (rest := []) (nL := 2) ⟨hx, hb, hml, hown, hts⟩ hK hP hD hS hA (c_X5_sum l D b cI cZ _ pl br md tn sp we tw sl pr al mo (nI h) cr tu le to ia 0 n (cl k) (hn) (hpl) (hwe) (hbr) (by omega)) [0, 1, 2, 3, 4, 5, 6, 7, 8, 9, 10, 11, 12, 13, 14, 15, 16] [] [0, 1, 2, 3, 4, 5, 6, 7, 8, 9, 10, 11, 12, 13, 14, 15, 16] rfl rfl (by decide) rfl (by decide) (by decide) rfl rfl (by decide) 0 rfl rfl rfl (cwV 1 hts gX5_foretoldAnew_X5_sum rfl rfl rfl (by decide +kernel) ⟨Nat.le_of_ble_eq_true rfl, Nat.le_of_ble_eq_true rfl⟩) rfl hl.1 rfl (Nat.le_of_ble_eq_true rfl) dX5_foretoldAnew_33 ⟨Nat.zero_le _, Nat.zero_le _⟩ (fun r9 H locs hr9 hP hD hS => ?_)
    subst hr9
    have e9 : (kIf (cFore h k) (fTnAll n br tn n) tn) = (fTnAll n br tn n) := kIf_0 (by unfold cFore; rw [if_pos c_13])
    have hP : va_P D vwCl (wM b cI cZ pl br md (kIf (cFore h k) (fTnAll n br tn n) tn) (nI n) sp we tw sl pr al mo (nI h) cr tu le to ia 0) H := by rw [e9]; exact hP
    have hD : va_D A (wM b cI cZ pl br md (kIf (cFore h k) (fTnAll n br tn n) tn) (nI n) sp we tw sl pr al mo (nI h) cr tu le to ia 0) := by rw [e9]; exact hD
    clear e9
    have e9 : (nI (cFore h k)) = 0 := by rw [show cFore h k = 0 from by unfold cFore; rw [if_pos c_13]]; rfl
    have hP : va_P D vwCl (wM b cI cZ pl br md (kIf (cFore h k) (fTnAll n br tn n) tn) (nI n) sp we tw sl pr al mo (nI h) cr tu le to ia (nI (cFore h k))) H := by rw [e9]; exact hP
    have hD : va_D A (wM b cI cZ pl br md (kIf (cFore h k) (fTnAll n br tn n) tn) (nI n) sp we tw sl pr al mo (nI h) cr tu le to ia (nI (cFore h k))) := by rw [e9]; exact hD
    clear e9
    exact k_endI (ty := .int) hx hb hr hlocks (rfl) (fun _ => rfl) hP hD hS dX5_foretoldAnew_36

set_option maxHeartbeats 4000000 in
set_option maxRecDepth 100000 in
theorem c_X5_ofHour (l : Launch) (D : va_G) (b : Nat → Nat) (cI cZ : ClassId) (sz : Nat) (pl : Nat → Int32) (br : Nat → Int32) (md : Nat → Int32) (tn : Nat → Int32) (sp : Nat → Int32) (we : Nat → Int32) (tw : Nat → Int32) (sl : Nat → Int32) (pr : Nat → Int32) (al : Nat → Int32) (mo : Nat → Int32) (cr : Nat → Int32) (tu : Nat → Int32) (le : Nat → Int32) (to : Nat → Int32) (ia : Nat → Int32) (th : Int32) (n : Nat) (h : Nat) (k : Int32) (v : Int32) (hn : n ≤ 12) (hh : h < 480) (hsl : ∀ k, sl k = -1 ∨ 0 ≤ sl k) (hmo : ∀ j, j < h → mo j = fBring sl pr al j) : kUi l yX5_ofHour wsX5_ofHour ({ frames := 1, cells := 0, slots := 0, locals := 23 }) [.ref (b 0), .int k, .int v] D cI cZ sz (wM b cI cZ pl br md tn (nI n) sp we tw sl pr al mo (nI h) cr tu le to ia th) (wM b cI cZ pl br md tn (nI n) sp we tw sl pr al mo (nI h) cr tu le to ia (nI (cOfHour h k v))) (fun r => cOfHour h k v = 0 → r = vOfHour sl pr al (cl k) v) := by
  refine Met.ofW (cc := cX5_ofHour) (maxL := 5) (ret := (some .int)) (by decide) rfl ?_
  intro p e s m args below meth c s₁ B hml hv
  obtain ⟨rfl, hsz, hP, hK, hD0⟩ := hv
  have hx := B.exec
  have hb := B.bytes
  have hr := B.returns
  have hts := atoms_spec (ws := wsX5_ofHour) B.pre
  have hown : s.vm.findClass RX5 = some m.cls := findClass_of_methodNamed B.named
  have hlocks := B.notSynchronized
  subst hsz
  have hD := hD0.self (sz := s.heap.size)
  generalize hAe : va_A (wM b cI cZ pl br md tn (nI n) sp we tw sl pr al mo (nI h) cr tu le to ia th) s.heap.size = A at hD ⊢
  have hA : ∀ q : Nat, s.heap.size ≤ q → A q := fun q h => by rw [← hAe]; exact Or.inr h
  have hS : va_S A s.heap s.heap [] := va_S.rf
  have hl := lv_entry ([.ref (b 0), .int k, .int v]) (n := 5) (Nat.le_of_ble_eq_true rfl)
  rw [lg_entry_eq]
  generalize (lg_sl ([.ref (b 0), .int k, .int v]) ++ List.replicate (5 - (lg_sl ([.ref (b 0), .int k, .int v])).length) Slot.unset).toArray = ls at hl ⊢
  have hl : lv_has ls 5 [(0, .ref (b 0)), (1, .int k), (2, .int v)] := hl
  refine lv_aload_n hx hb dX5_ofHour_0 rfl (lv_at hl 0 rfl) ?_
  refine lv_iload_n hx hb dX5_ofHour_1 rfl (lv_at hl 1 rfl) ?_
  refine lv_iconst (v := 0) hx hb dX5_ofHour_2 (by decide) ?_
  refine lv_aload_n hx hb dX5_ofHour_3 rfl (lv_at hl 0 rfl) ?_
  refine va_get (D := D) (ci := 5) (v := .int (nI h)) (C := RX5) (T := TX5) (N := 19) hx hb hts (by decide +kernel) hown hK.1 hP 0 rfl rfl 12 (by decide) (hts (.fieldLink RX5 73 "TurbineorchardModel" "now" "I") (by decide +kernel)) (fun _ h9 => h9) rfl dX5_ofHour_4 ?_
  refine lv_iconst (v := 1) hx hb dX5_ofHour_7 (by decide) ?_
  refine lv_isub hx hb dX5_ofHour_8 ?_
  refine k_pv (As := [.int k, .int 0, .int ((nI h) - 1)]) (rest := []) (nL := 5) ⟨hx, hb, hml, hown, hts⟩ (c_X5_in l _ k 0 ((nI h) - 1)) (cwV 3 hts gX5_ofHour_X5_in rfl rfl rfl (by decide +kernel) ⟨Nat.le_of_ble_eq_true rfl, Nat.le_of_ble_eq_true rfl⟩) (va_recv hK.1 hP (ci := 5) (q0 := 0) rfl rfl) rfl hl.1 rfl (Nat.le_of_ble_eq_true rfl) dX5_ofHour_9 ⟨Nat.zero_le _, Nat.zero_le _⟩ (fun r9 hr9 => ?_)
  subst hr9
  refine lv_if_eq (tgt := 29) hx hb dX5_ofHour_12 (by decide) (fun c_12 => ?_) (fun c_12 => ?_)
  · have c_12 := bI_0 c_12
    refine lv_iconst (v := 0) hx hb dX5_ofHour_29 (by decide) ?_
    refine lv_istore_n (lv' := [(3, .int 0), (0, .ref (b 0)), (1, .int k), (2, .int v)]) hx hb dX5_ofHour_30 rfl hl (by decide) rfl (fun ls hl => ?_)
    refine lv_aload_n hx hb dX5_ofHour_31 rfl (lv_at hl 1 rfl) ?_
    refine lv_iload_n hx hb dX5_ofHour_32 rfl (lv_at hl 0 rfl) ?_
    refine lv_if_eq (tgt := 40) hx hb dX5_ofHour_33 (by decide) (fun c_33 => ?_) (fun c_33 => by first | exact absurd c_33 (by decide) | exact absurd (by decide) c_33)
    refine lv_iconst (v := 1) hx hb dX5_ofHour_40 (by decide) ?_
    refine k_ui (WR := []) (WN := (wM b cI cZ pl br md tn (nI n) sp we tw sl pr al mo (nI h) cr tu le to ia 1)) (As := [.int 1]) (rest := []) (nL := 5) ⟨hx, hb, hml, hown, hts⟩ hK hP hD hS hA (c_X5_fails l D b cI cZ _ pl br md tn (nI n) sp we tw sl pr al mo (nI h) cr tu le to ia th 1) [0, 1, 2, 3, 4, 5, 6, 7, 8, 9, 10, 11, 12, 13, 14, 15, 16] [] [0, 1, 2, 3, 4, 5, 6, 7, 8, 9, 10, 11, 12, 13, 14, 15, 16] rfl rfl (by decide) rfl (by decide) (by decide) rfl rfl (by decide) 0 rfl rfl rfl (cwV 1 hts gX5_ofHour_X5_fails rfl rfl rfl (by decide +kernel) ⟨Nat.le_of_ble_eq_true rfl, Nat.le_of_ble_eq_true rfl⟩) rfl hl.1 rfl (Nat.le_of_ble_eq_true rfl) dX5_ofHour_41 ⟨Nat.zero_le _, Nat.zero_le _⟩ (fun r9 H locs hr9 hP hD hS => ?_)
    subst hr9
    refine lv_if_eq (tgt := 49) hx hb dX5_ofHour_44 (by decide) (fun c_44 => by first | exact absurd c_44 (by decide) | exact absurd (by decide) c_44) (fun c_44 => ?_)
    have e9 : (nI (cOfHour h k v)) = 1 := by rw [show cOfHour h k v = 1 from by unfold cOfHour; rw [if_neg (fun z8 => c_12 z8.1)]]; rfl
    have hP : va_P D vwCl (wM b cI cZ pl br md tn (nI n) sp we tw sl pr al mo (nI h) cr tu le to ia (nI (cOfHour h k v))) H := by rw [e9]; exact hP
    have hD : va_D A (wM b cI cZ pl br md tn (nI n) sp we tw sl pr al mo (nI h) cr tu le to ia (nI (cOfHour h k v))) := by rw [e9]; exact hD
    clear e9
    refine lv_iconst (v := (-1)) hx hb dX5_ofHour_47 (by decide) ?_
    exact k_endI (ty := .int) hx hb hr hlocks (rfl) (fun z9 => absurd (z9.symm.trans (show cOfHour h k v = 1 from by unfold cOfHour; rw [if_neg (fun z8 => c_12 z8.1)])) (by decide)) hP hD hS dX5_ofHour_48
  · have c_12 := bI_n c_12
    refine lv_aload_n hx hb dX5_ofHour_15 rfl (lv_at hl 0 rfl) ?_
    refine lv_iload_n hx hb dX5_ofHour_16 rfl (lv_at hl 2 rfl) ?_
    refine lv_iconst (v := 0) hx hb dX5_ofHour_17 (by decide) ?_
    refine lv_iconst (v := 3) hx hb dX5_ofHour_18 (by decide) ?_
    refine k_pv (As := [.int v, .int 0, .int 3]) (rest := []) (nL := 5) ⟨hx, hb, hml, hown, hts⟩ (c_X5_in l _ v 0 3) (cwV 3 hts gX5_ofHour_X5_in rfl rfl rfl (by decide +kernel) ⟨Nat.le_of_ble_eq_true rfl, Nat.le_of_ble_eq_true rfl⟩) (va_recv hK.1 hP (ci := 5) (q0 := 0) rfl rfl) rfl hl.1 rfl (Nat.le_of_ble_eq_true rfl) dX5_ofHour_19 ⟨Nat.zero_le _, Nat.zero_le _⟩ (fun r9 hr9 => ?_)
    subst hr9
    refine lv_if_eq (tgt := 29) hx hb dX5_ofHour_22 (by decide) (fun c_22 => ?_) (fun c_22 => ?_)
    · have c_22 := bI_0 c_22
      refine lv_iconst (v := 0) hx hb dX5_ofHour_29 (by decide) ?_
      refine lv_istore_n (lv' := [(3, .int 0), (0, .ref (b 0)), (1, .int k), (2, .int v)]) hx hb dX5_ofHour_30 rfl hl (by decide) rfl (fun ls hl => ?_)
      refine lv_aload_n hx hb dX5_ofHour_31 rfl (lv_at hl 1 rfl) ?_
      refine lv_iload_n hx hb dX5_ofHour_32 rfl (lv_at hl 0 rfl) ?_
      refine lv_if_eq (tgt := 40) hx hb dX5_ofHour_33 (by decide) (fun c_33 => ?_) (fun c_33 => by first | exact absurd c_33 (by decide) | exact absurd (by decide) c_33)
      refine lv_iconst (v := 1) hx hb dX5_ofHour_40 (by decide) ?_
      refine k_ui (WR := []) (WN := (wM b cI cZ pl br md tn (nI n) sp we tw sl pr al mo (nI h) cr tu le to ia 1)) (As := [.int 1]) (rest := []) (nL := 5) ⟨hx, hb, hml, hown, hts⟩ hK hP hD hS hA (c_X5_fails l D b cI cZ _ pl br md tn (nI n) sp we tw sl pr al mo (nI h) cr tu le to ia th 1) [0, 1, 2, 3, 4, 5, 6, 7, 8, 9, 10, 11, 12, 13, 14, 15, 16] [] [0, 1, 2, 3, 4, 5, 6, 7, 8, 9, 10, 11, 12, 13, 14, 15, 16] rfl rfl (by decide) rfl (by decide) (by decide) rfl rfl (by decide) 0 rfl rfl rfl (cwV 1 hts gX5_ofHour_X5_fails rfl rfl rfl (by decide +kernel) ⟨Nat.le_of_ble_eq_true rfl, Nat.le_of_ble_eq_true rfl⟩) rfl hl.1 rfl (Nat.le_of_ble_eq_true rfl) dX5_ofHour_41 ⟨Nat.zero_le _, Nat.zero_le _⟩ (fun r9 H locs hr9 hP hD hS => ?_)
      subst hr9
      refine lv_if_eq (tgt := 49) hx hb dX5_ofHour_44 (by decide) (fun c_44 => by first | exact absurd c_44 (by decide) | exact absurd (by decide) c_44) (fun c_44 => ?_)
      have e9 : (nI (cOfHour h k v)) = 1 := by rw [show cOfHour h k v = 1 from by unfold cOfHour; rw [if_neg (fun z8 => c_22 z8.2)]]; rfl
      have hP : va_P D vwCl (wM b cI cZ pl br md tn (nI n) sp we tw sl pr al mo (nI h) cr tu le to ia (nI (cOfHour h k v))) H := by rw [e9]; exact hP
      have hD : va_D A (wM b cI cZ pl br md tn (nI n) sp we tw sl pr al mo (nI h) cr tu le to ia (nI (cOfHour h k v))) := by rw [e9]; exact hD
      clear e9
      refine lv_iconst (v := (-1)) hx hb dX5_ofHour_47 (by decide) ?_
      exact k_endI (ty := .int) hx hb hr hlocks (rfl) (fun z9 => absurd (z9.symm.trans (show cOfHour h k v = 1 from by unfold cOfHour; rw [if_neg (fun z8 => c_22 z8.2)])) (by decide)) hP hD hS dX5_ofHour_48
    · have c_22 := bI_n c_22
      refine lv_iconst (v := 1) hx hb dX5_ofHour_25 (by decide) ?_
      refine lv_goto (tgt := 30) hx hb dX5_ofHour_26 (by decide) ?_
      refine lv_istore_n (lv' := [(3, .int 1), (0, .ref (b 0)), (1, .int k), (2, .int v)]) hx hb dX5_ofHour_30 rfl hl (by decide) rfl (fun ls hl => ?_)
      refine lv_aload_n hx hb dX5_ofHour_31 rfl (lv_at hl 1 rfl) ?_
      refine lv_iload_n hx hb dX5_ofHour_32 rfl (lv_at hl 0 rfl) ?_
      refine lv_if_eq (tgt := 40) hx hb dX5_ofHour_33 (by decide) (fun c_33 => by first | exact absurd c_33 (by decide) | exact absurd (by decide) c_33) (fun c_33 => ?_)
      refine lv_iconst (v := 0) hx hb dX5_ofHour_36 (by decide) ?_
      refine lv_goto (tgt := 41) hx hb dX5_ofHour_37 (by decide) ?_
      refine k_ui (WR := []) (WN := (wM b cI cZ pl br md tn (nI n) sp we tw sl pr al mo (nI h) cr tu le to ia 0)) (As := [.int 0]) (rest := []) (nL := 5) ⟨hx, hb, hml, hown, hts⟩ hK hP hD hS hA (c_X5_fails l D b cI cZ _ pl br md tn (nI n) sp we tw sl pr al mo (nI h) cr tu le to ia th 0) [0, 1, 2, 3, 4, 5, 6, 7, 8, 9, 10, 11, 12, 13, 14, 15, 16] [] [0, 1, 2, 3, 4, 5, 6, 7, 8, 9, 10, 11, 12, 13, 14, 15, 16] rfl rfl (by decide) rfl (by decide) (by decide) rfl rfl (by decide) 0 rfl rfl rfl (cwV 1 hts gX5_ofHour_X5_fails rfl rfl rfl (by decide +kernel) ⟨Nat.le_of_ble_eq_true rfl, Nat.le_of_ble_eq_true rfl⟩) rfl hl.1 rfl (Nat.le_of_ble_eq_true rfl) dX5_ofHour_41 ⟨Nat.zero_le _, Nat.zero_le _⟩ (fun r9 H locs hr9 hP hD hS => ?_)
      subst hr9
      refine lv_if_eq (tgt := 49) hx hb dX5_ofHour_44 (by decide) (fun c_44 => ?_) (fun c_44 => by first | exact absurd c_44 (by decide) | exact absurd (by decide) c_44)
      have hq := over_cl (by omega) c_12
      rw [hq.1] at hl
      have join_68 :  ∀ (H : Heap) (locs : List Loc), va_P D vwCl (wM b cI cZ pl br md tn (nI n) sp we tw sl pr al mo (nI h) cr tu le to ia 0) H → va_D A (wM b cI cZ pl br md tn (nI n) sp we tw sl pr al mo (nI h) cr tu le to ia 0) → va_S A s.heap H locs → ∀ (ls : Array Slot), lv_has ls 5 [(0, .ref (b 0)), (1, .int (nI (cl k))), (2, .int v)] → W p l e (headSpec wsX5_ofHour ({ frames := 1, cells := 0, slots := 0, locals := 23 })).room s m ([.ref (b 0), .int k, .int v] : List Value).toArray below meth c H locs 0 0 (MQ below (va_Qi (fun (r : Int32) (_ : Unit) => (fun r => cOfHour h k v = 0 → r = vOfHour sl pr al (cl k) v) r) (fun _ t9 => kAt D A (wM b cI cZ pl br md tn (nI n) sp we tw sl pr al mo (nI h) cr tu le to ia (nI (cOfHour h k v))) t9) A) ([.ref (b 0), .int k, .int v] : List Value).toArray s 0 0 A) (F0 m 68 ls [.int (fSold sl (cl k))]) := by
        intro   H locs hP hD hS ls hl
        refine lv_istore (lv' := [(4, .int (fSold sl (cl k))), (0, .ref (b 0)), (1, .int (nI (cl k))), (2, .int v)]) hx hb dX5_ofHour_68 hl (by decide) rfl (fun ls hl => ?_)
        refine lv_iload_n hx hb dX5_ofHour_70 rfl (lv_at hl 3 rfl) ?_
        refine lv_if_ne (tgt := 83) hx hb dX5_ofHour_71 (by decide) (fun c_71 => ?_) (fun c_71 => ?_)
        · refine lv_iload_n hx hb dX5_ofHour_83 rfl (lv_at hl 3 rfl) ?_
          refine lv_iconst (v := 1) hx hb dX5_ofHour_84 (by decide) ?_
          refine lv_icmp_ne (tgt := 93) hx hb dX5_ofHour_85 (by decide) (fun c_85 => ?_) (fun c_85 => ?_)
          · refine lv_iload_n hx hb dX5_ofHour_93 rfl (lv_at hl 3 rfl) ?_
            refine lv_iconst (v := 2) hx hb dX5_ofHour_94 (by decide) ?_
            refine lv_icmp_ne (tgt := 110) hx hb dX5_ofHour_95 (by decide) (fun c_95 => ?_) (fun c_95 => ?_)
            · refine lv_aload_n hx hb dX5_ofHour_110 rfl (lv_at hl 1 rfl) ?_
              refine va_get (D := D) (ci := 5) (v := .ref (b 11)) (C := RX5) (T := TX5) (N := 19) hx hb hts (by decide +kernel) hown hK.1 hP 0 rfl rfl 11 (by decide) (hts (.fieldLink RX5 40 "TurbineorchardModel" "money" "[I") (by decide +kernel)) (fun _ h9 => h9) rfl dX5_ofHour_111 ?_
              refine lv_iload_n hx hb dX5_ofHour_114 rfl (lv_at hl 2 rfl) ?_
              refine k_iald hx hb hK.1 hP 11 0 rfl rfl (cl k) (rfl) (by omega) (by decide) dX5_ofHour_115 ?_
              have e9 : (nI (cOfHour h k v)) = 0 := by rw [show cOfHour h k v = 0 from by unfold cOfHour; rw [if_pos ⟨c_12, c_22⟩]]; rfl
              have hP : va_P D vwCl (wM b cI cZ pl br md tn (nI n) sp we tw sl pr al mo (nI h) cr tu le to ia (nI (cOfHour h k v))) H := by rw [e9]; exact hP
              have hD : va_D A (wM b cI cZ pl br md tn (nI n) sp we tw sl pr al mo (nI h) cr tu le to ia (nI (cOfHour h k v))) := by rw [e9]; exact hD
              clear e9
              exact k_endI (ty := .int) hx hb hr hlocks (rfl) (fun _ => by unfold vOfHour; rw [if_neg c_71, if_neg c_85, if_neg c_95]; exact hmo _ hq.2) hP hD hS dX5_ofHour_116
            · refine lv_iload hx hb dX5_ofHour_98 (lv_at hl 0 rfl) ?_
              refine lv_aload_n hx hb dX5_ofHour_100 rfl (lv_at hl 1 rfl) ?_
              refine va_get (D := D) (ci := 5) (v := .ref (b 10)) (C := RX5) (T := TX5) (N := 19) hx hb hts (by decide +kernel) hown hK.1 hP 0 rfl rfl 10 (by decide) (hts (.fieldLink RX5 37 "TurbineorchardModel" "all" "[I") (by decide +kernel)) (fun _ h9 => h9) rfl dX5_ofHour_101 ?_
              refine lv_iload_n hx hb dX5_ofHour_104 rfl (lv_at hl 2 rfl) ?_
              refine k_iald hx hb hK.1 hP 10 0 rfl rfl (cl k) (rfl) (by omega) (by decide) dX5_ofHour_105 ?_
              refine lv_isub hx hb dX5_ofHour_106 ?_
              refine lv_goto (tgt := 116) hx hb dX5_ofHour_107 (by decide) ?_
              have e9 : (nI (cOfHour h k v)) = 0 := by rw [show cOfHour h k v = 0 from by unfold cOfHour; rw [if_pos ⟨c_12, c_22⟩]]; rfl
              have hP : va_P D vwCl (wM b cI cZ pl br md tn (nI n) sp we tw sl pr al mo (nI h) cr tu le to ia (nI (cOfHour h k v))) H := by rw [e9]; exact hP
              have hD : va_D A (wM b cI cZ pl br md tn (nI n) sp we tw sl pr al mo (nI h) cr tu le to ia (nI (cOfHour h k v))) := by rw [e9]; exact hD
              clear e9
              exact k_endI (ty := .int) hx hb hr hlocks (rfl) (fun _ => by unfold vOfHour; rw [if_neg c_71, if_neg c_85, if_pos c_95]) hP hD hS dX5_ofHour_116
          · refine lv_iload hx hb dX5_ofHour_88 (lv_at hl 0 rfl) ?_
            refine lv_goto (tgt := 116) hx hb dX5_ofHour_90 (by decide) ?_
            have e9 : (nI (cOfHour h k v)) = 0 := by rw [show cOfHour h k v = 0 from by unfold cOfHour; rw [if_pos ⟨c_12, c_22⟩]]; rfl
            have hP : va_P D vwCl (wM b cI cZ pl br md tn (nI n) sp we tw sl pr al mo (nI h) cr tu le to ia (nI (cOfHour h k v))) H := by rw [e9]; exact hP
            have hD : va_D A (wM b cI cZ pl br md tn (nI n) sp we tw sl pr al mo (nI h) cr tu le to ia (nI (cOfHour h k v))) := by rw [e9]; exact hD
            clear e9
            exact k_endI (ty := .int) hx hb hr hlocks (rfl) (fun _ => by unfold vOfHour; rw [if_neg c_71, if_pos c_85]) hP hD hS dX5_ofHour_116
        · refine lv_aload_n hx hb dX5_ofHour_74 rfl (lv_at hl 1 rfl) ?_
          refine va_get (D := D) (ci := 5) (v := .ref (b 10)) (C := RX5) (T := TX5) (N := 19) hx hb hts (by decide +kernel) hown hK.1 hP 0 rfl rfl 10 (by decide) (hts (.fieldLink RX5 37 "TurbineorchardModel" "all" "[I") (by decide +kernel)) (fun _ h9 => h9) rfl dX5_ofHour_75 ?_
          refine lv_iload_n hx hb dX5_ofHour_78 rfl (lv_at hl 2 rfl) ?_
          refine k_iald hx hb hK.1 hP 10 0 rfl rfl (cl k) (rfl) (by omega) (by decide) dX5_ofHour_79 ?_
          refine lv_goto (tgt := 116) hx hb dX5_ofHour_80 (by decide) ?_
          have e9 : (nI (cOfHour h k v)) = 0 := by rw [show cOfHour h k v = 0 from by unfold cOfHour; rw [if_pos ⟨c_12, c_22⟩]]; rfl
          have hP : va_P D vwCl (wM b cI cZ pl br md tn (nI n) sp we tw sl pr al mo (nI h) cr tu le to ia (nI (cOfHour h k v))) H := by rw [e9]; exact hP
          have hD : va_D A (wM b cI cZ pl br md tn (nI n) sp we tw sl pr al mo (nI h) cr tu le to ia (nI (cOfHour h k v))) := by rw [e9]; exact hD
          clear e9
          exact k_endI (ty := .int) hx hb hr hlocks (rfl) (fun _ => by unfold vOfHour; rw [if_pos c_71]) hP hD hS dX5_ofHour_116
      refine lv_aload_n hx hb dX5_ofHour_49 rfl (lv_at hl 1 rfl) ?_
      refine va_get (D := D) (ci := 5) (v := .ref (b 8)) (C := RX5) (T := TX5) (N := 19) hx hb hts (by decide +kernel) hown hK.1 hP 0 rfl rfl 8 (by decide) (hts (.fieldLink RX5 31 "TurbineorchardModel" "sold" "[I") (by decide +kernel)) (fun _ h9 => h9) rfl dX5_ofHour_50 ?_
      refine lv_iload_n hx hb dX5_ofHour_53 rfl (lv_at hl 2 rfl) ?_
      refine k_iald hx hb hK.1 hP 8 0 rfl rfl (cl k) (rfl) (by omega) (by decide) dX5_ofHour_54 ?_
      refine lv_if_ge (tgt := 62) hx hb dX5_ofHour_55 (by decide) (fun c_55 => ?_) (fun c_55 => ?_)
      · refine lv_aload_n hx hb dX5_ofHour_62 rfl (lv_at hl 1 rfl) ?_
        refine va_get (D := D) (ci := 5) (v := .ref (b 8)) (C := RX5) (T := TX5) (N := 19) hx hb hts (by decide +kernel) hown hK.1 hP 0 rfl rfl 8 (by decide) (hts (.fieldLink RX5 31 "TurbineorchardModel" "sold" "[I") (by decide +kernel)) (fun _ h9 => h9) rfl dX5_ofHour_63 ?_
        refine lv_iload_n hx hb dX5_ofHour_66 rfl (lv_at hl 2 rfl) ?_
        refine k_iald hx hb hK.1 hP 8 0 rfl rfl (cl k) (rfl) (by omega) (by decide) dX5_ofHour_67 ?_
        refine k_rw (y := fSold sl (cl k)) (by unfold fSold; rw [if_neg (fun z9 => absurd c_55 (by rw [z9]; decide))]) ?_
        exact join_68   _ _ hP hD hS _ (lv_sub hl [1, 2, 3] rfl)
      · refine lv_iconst (v := 0) hx hb dX5_ofHour_58 (by decide) ?_
        refine lv_goto (tgt := 68) hx hb dX5_ofHour_59 (by decide) ?_
        refine k_rw (y := fSold sl (cl k)) (by unfold fSold; rw [if_pos ((hsl _).resolve_right c_55)]) ?_
        exact join_68   _ _ hP hD hS _ (lv_sub hl [1, 2, 3] rfl)

set_option maxHeartbeats 4000000 in
set_option maxRecDepth 100000 in
theorem c_X5_ratio (l : Launch) (D : va_G) (b : Nat → Nat) (cI cZ : ClassId) (sz : Nat) (pl : Nat → Int32) (br : Nat → Int32) (md : Nat → Int32) (tn : Nat → Int32) (sp : Nat → Int32) (we : Nat → Int32) (tw : Nat → Int32) (sl : Nat → Int32) (pr : Nat → Int32) (al : Nat → Int32) (mo : Nat → Int32) (cr : Nat → Int32) (tu : Nat → Int32) (le : Nat → Int32) (to : Nat → Int32) (ia : Nat → Int32) (th : Int32) (n : Nat) (h : Nat) (k : Int32) (hn : n ≤ 12) (hh : h < 480) (hsl : ∀ k, sl k = -1 ∨ 0 ≤ sl k) : kUf l yX5_ratio wsX5_ratio ({ frames := 1, cells := 0, slots := 0, locals := 23 }) [.ref (b 0), .int k] D cI cZ sz (wM b cI cZ pl br md tn (nI n) sp we tw sl pr al mo (nI h) cr tu le to ia th) (wM b cI cZ pl br md tn (nI n) sp we tw sl pr al mo (nI h) cr tu le to ia (nI (cRatio h k))) (fun r => cRatio h k = 0 → r = fRatio sl al (cl k)) := by
  refine Met.ofW (cc := cX5_ratio) (maxL := 2) (ret := (some .float)) (by decide) rfl ?_
  intro p e s m args below meth c s₁ B hml hv
  obtain ⟨rfl, hsz, hP, hK, hD0⟩ := hv
  have hx := B.exec
  have hb := B.bytes
  have hr := B.returns
  have hts := atoms_spec (ws := wsX5_ratio) B.pre
  have hown : s.vm.findClass RX5 = some m.cls := findClass_of_methodNamed B.named
  have hlocks := B.notSynchronized
  subst hsz
  have hD := hD0.self (sz := s.heap.size)
  generalize hAe : va_A (wM b cI cZ pl br md tn (nI n) sp we tw sl pr al mo (nI h) cr tu le to ia th) s.heap.size = A at hD ⊢
  have hA : ∀ q : Nat, s.heap.size ≤ q → A q := fun q h => by rw [← hAe]; exact Or.inr h
  have hS : va_S A s.heap s.heap [] := va_S.rf
  have hl := lv_entry ([.ref (b 0), .int k]) (n := 2) (Nat.le_of_ble_eq_true rfl)
  rw [lg_entry_eq]
  generalize (lg_sl ([.ref (b 0), .int k]) ++ List.replicate (2 - (lg_sl ([.ref (b 0), .int k])).length) Slot.unset).toArray = ls at hl ⊢
  have hl : lv_has ls 2 [(0, .ref (b 0)), (1, .int k)] := hl
  refine lv_aload_n hx hb dX5_ratio_0 rfl (lv_at hl 0 rfl) ?_
  refine lv_aload_n hx hb dX5_ratio_1 rfl (lv_at hl 0 rfl) ?_
  refine lv_iload_n hx hb dX5_ratio_2 rfl (lv_at hl 1 rfl) ?_
  refine lv_iconst (v := 0) hx hb dX5_ratio_3 (by decide) ?_
  refine lv_aload_n hx hb dX5_ratio_4 rfl (lv_at hl 0 rfl) ?_
  refine va_get (D := D) (ci := 5) (v := .int (nI h)) (C := RX5) (T := TX5) (N := 19) hx hb hts (by decide +kernel) hown hK.1 hP 0 rfl rfl 12 (by decide) (hts (.fieldLink RX5 73 "TurbineorchardModel" "now" "I") (by decide +kernel)) (fun _ h9 => h9) rfl dX5_ratio_5 ?_
  refine lv_iconst (v := 1) hx hb dX5_ratio_8 (by decide) ?_
  refine lv_isub hx hb dX5_ratio_9 ?_
  refine k_pv (As := [.int k, .int 0, .int ((nI h) - 1)]) (rest := [.ref (b 0)]) (nL := 2) ⟨hx, hb, hml, hown, hts⟩ (c_X5_in l _ k 0 ((nI h) - 1)) (cwV 3 hts gX5_ratio_X5_in rfl rfl rfl (by decide +kernel) ⟨Nat.le_of_ble_eq_true rfl, Nat.le_of_ble_eq_true rfl⟩) (va_recv hK.1 hP (ci := 5) (q0 := 0) rfl rfl) rfl hl.1 rfl (Nat.le_of_ble_eq_true rfl) dX5_ratio_10 ⟨Nat.zero_le _, Nat.zero_le _⟩ (fun r9 hr9 => ?_)
  subst hr9
  refine lv_if_eq (tgt := 20) hx hb dX5_ratio_13 (by decide) (fun c_13 => ?_) (fun c_13 => ?_)
  · have c_13 := bI_0 c_13
    refine lv_iconst (v := 1) hx hb dX5_ratio_20 (by decide) ?_
    refine k_ui (WR := []) (WN := (wM b cI cZ pl br md tn (nI n) sp we tw sl pr al mo (nI h) cr tu le to ia 1)) (As := [.int 1]) (rest := []) (nL := 2) ⟨hx, hb, hml, hown, hts⟩ hK hP hD hS hA (c_X5_fails l D b cI cZ _ pl br md tn (nI n) sp we tw sl pr al mo (nI h) cr tu le to ia th 1) [0, 1, 2, 3, 4, 5, 6, 7, 8, 9, 10, 11, 12, 13, 14, 15, 16] [] [0, 1, 2, 3, 4, 5, 6, 7, 8, 9, 10, 11, 12, 13, 14, 15, 16] rfl rfl (by decide) rfl (by decide) (by decide) rfl rfl (by decide) 0 rfl rfl rfl (cwV 1 hts gX5_ratio_X5_fails rfl rfl rfl (by decide +kernel) ⟨Nat.le_of_ble_eq_true rfl, Nat.le_of_ble_eq_true rfl⟩) rfl hl.1 rfl (Nat.le_of_ble_eq_true rfl) dX5_ratio_21 ⟨Nat.zero_le _, Nat.zero_le _⟩ (fun r9 H locs hr9 hP hD hS => ?_)
    subst hr9
    refine lv_if_eq (tgt := 30) hx hb dX5_ratio_24 (by decide) (fun c_24 => by first | exact absurd c_24 (by decide) | exact absurd (by decide) c_24) (fun c_24 => ?_)
    have e9 : (nI (cRatio h k)) = 1 := by rw [show cRatio h k = 1 from by unfold cRatio; rw [if_neg c_13]]; rfl
    have hP : va_P D vwCl (wM b cI cZ pl br md tn (nI n) sp we tw sl pr al mo (nI h) cr tu le to ia (nI (cRatio h k))) H := by rw [e9]; exact hP
    have hD : va_D A (wM b cI cZ pl br md tn (nI n) sp we tw sl pr al mo (nI h) cr tu le to ia (nI (cRatio h k))) := by rw [e9]; exact hD
    clear e9
    refine lv_ldcf (v := 3212836864) hx hb hown (hts (.constantFloat RX5 114 3212836864) (by decide +kernel)) dX5_ratio_27 ?_
    exact k_endUf hx hb hr hlocks (fun z9 => absurd (z9.symm.trans (show cRatio h k = 1 from by unfold cRatio; rw [if_neg c_13])) (by decide)) hP hD hS dX5_ratio_29
  · have c_13 := bI_n c_13
    refine lv_iconst (v := 0) hx hb dX5_ratio_16 (by decide) ?_
    refine lv_goto (tgt := 21) hx hb dX5_ratio_17 (by decide) ?_
    refine k_ui (WR := []) (WN := (wM b cI cZ pl br md tn (nI n) sp we tw sl pr al mo (nI h) cr tu le to ia 0)) (As := [.int 0]) (rest := []) (nL := 2) ⟨hx, hb, hml, hown, hts⟩ hK hP hD hS hA (c_X5_fails l D b cI cZ _ pl br md tn (nI n) sp we tw sl pr al mo (nI h) cr tu le to ia th 0) [0, 1, 2, 3, 4, 5, 6, 7, 8, 9, 10, 11, 12, 13, 14, 15, 16] [] [0, 1, 2, 3, 4, 5, 6, 7, 8, 9, 10, 11, 12, 13, 14, 15, 16] rfl rfl (by decide) rfl (by decide) (by decide) rfl rfl (by decide) 0 rfl rfl rfl (cwV 1 hts gX5_ratio_X5_fails rfl rfl rfl (by decide +kernel) ⟨Nat.le_of_ble_eq_true rfl, Nat.le_of_ble_eq_true rfl⟩) rfl hl.1 rfl (Nat.le_of_ble_eq_true rfl) dX5_ratio_21 ⟨Nat.zero_le _, Nat.zero_le _⟩ (fun r9 H locs hr9 hP hD hS => ?_)
    subst hr9
    refine lv_if_eq (tgt := 30) hx hb dX5_ratio_24 (by decide) (fun c_24 => ?_) (fun c_24 => by first | exact absurd c_24 (by decide) | exact absurd (by decide) c_24)
    have hq := over_cl (by omega) c_13
    rw [hq.1] at hl
    refine lv_aload_n hx hb dX5_ratio_30 rfl (lv_at hl 0 rfl) ?_
    refine va_get (D := D) (ci := 5) (v := .ref (b 8)) (C := RX5) (T := TX5) (N := 19) hx hb hts (by decide +kernel) hown hK.1 hP 0 rfl rfl 8 (by decide) (hts (.fieldLink RX5 31 "TurbineorchardModel" "sold" "[I") (by decide +kernel)) (fun _ h9 => h9) rfl dX5_ratio_31 ?_
    refine lv_iload_n hx hb dX5_ratio_34 rfl (lv_at hl 1 rfl) ?_
    refine k_iald hx hb hK.1 hP 8 0 rfl rfl (cl k) (rfl) (by omega) (by decide) dX5_ratio_35 ?_
    refine lv_if_gt (tgt := 43) hx hb dX5_ratio_36 (by decide) (fun c_36 => ?_) (fun c_36 => ?_)
    · refine lv_aload_n hx hb dX5_ratio_43 rfl (lv_at hl 0 rfl) ?_
      refine va_get (D := D) (ci := 5) (v := .ref (b 10)) (C := RX5) (T := TX5) (N := 19) hx hb hts (by decide +kernel) hown hK.1 hP 0 rfl rfl 10 (by decide) (hts (.fieldLink RX5 37 "TurbineorchardModel" "all" "[I") (by decide +kernel)) (fun _ h9 => h9) rfl dX5_ratio_44 ?_
      refine lv_iload_n hx hb dX5_ratio_47 rfl (lv_at hl 1 rfl) ?_
      refine k_iald hx hb hK.1 hP 10 0 rfl rfl (cl k) (rfl) (by omega) (by decide) dX5_ratio_48 ?_
      refine lv_i2f hx hb dX5_ratio_49 ?_
      refine lv_aload_n hx hb dX5_ratio_50 rfl (lv_at hl 0 rfl) ?_
      refine va_get (D := D) (ci := 5) (v := .ref (b 8)) (C := RX5) (T := TX5) (N := 19) hx hb hts (by decide +kernel) hown hK.1 hP 0 rfl rfl 8 (by decide) (hts (.fieldLink RX5 31 "TurbineorchardModel" "sold" "[I") (by decide +kernel)) (fun _ h9 => h9) rfl dX5_ratio_51 ?_
      refine lv_iload_n hx hb dX5_ratio_54 rfl (lv_at hl 1 rfl) ?_
      refine k_iald hx hb hK.1 hP 8 0 rfl rfl (cl k) (rfl) (by omega) (by decide) dX5_ratio_55 ?_
      refine lv_i2f hx hb dX5_ratio_56 ?_
      refine lv_fdiv hx hb dX5_ratio_57 (fq_no (fun z9 => absurd c_36 (by rw [z9]; decide))) ?_
      have e9 : (nI (cRatio h k)) = 0 := by rw [show cRatio h k = 0 from by unfold cRatio; rw [if_pos c_13]]; rfl
      have hP : va_P D vwCl (wM b cI cZ pl br md tn (nI n) sp we tw sl pr al mo (nI h) cr tu le to ia (nI (cRatio h k))) H := by rw [e9]; exact hP
      have hD : va_D A (wM b cI cZ pl br md tn (nI n) sp we tw sl pr al mo (nI h) cr tu le to ia (nI (cRatio h k))) := by rw [e9]; exact hD
      clear e9
      exact k_endUf hx hb hr hlocks (fun _ => by unfold fRatio; rw [fSold_pos c_36, if_neg (fun z9 => absurd c_36 (by rw [z9]; decide))]) hP hD hS dX5_ratio_58
    · refine lv_fconst0 hx hb dX5_ratio_39 ?_
      refine lv_goto (tgt := 58) hx hb dX5_ratio_40 (by decide) ?_
      have e9 : (nI (cRatio h k)) = 0 := by rw [show cRatio h k = 0 from by unfold cRatio; rw [if_pos c_13]]; rfl
      have hP : va_P D vwCl (wM b cI cZ pl br md tn (nI n) sp we tw sl pr al mo (nI h) cr tu le to ia (nI (cRatio h k))) H := by rw [e9]; exact hP
      have hD : va_D A (wM b cI cZ pl br md tn (nI n) sp we tw sl pr al mo (nI h) cr tu le to ia (nI (cRatio h k))) := by rw [e9]; exact hD
      clear e9
      exact k_endUf hx hb hr hlocks (fun _ => by unfold fRatio; rw [if_pos (fSold_le0 (hsl _) c_36)]) hP hD hS dX5_ratio_58

set_option maxHeartbeats 4000000 in
set_option maxRecDepth 100000 in
theorem c_X5_ofBoat (l : Launch) (D : va_G) (b : Nat → Nat) (cI cZ : ClassId) (sz : Nat) (pl : Nat → Int32) (br : Nat → Int32) (md : Nat → Int32) (tn : Nat → Int32) (sp : Nat → Int32) (we : Nat → Int32) (tw : Nat → Int32) (sl : Nat → Int32) (pr : Nat → Int32) (al : Nat → Int32) (mo : Nat → Int32) (cr : Nat → Int32) (tu : Nat → Int32) (le : Nat → Int32) (to : Nat → Int32) (ia : Nat → Int32) (th : Int32) (n : Nat) (h : Nat) (bt : Int32) (v : Int32) (hn : n ≤ 12) (hh : h < 480) (htz : ∀ b, b < 3 → tu b < 0 → le b = 0) : kUi l yX5_ofBoat wsX5_ofBoat ({ frames := 1, cells := 0, slots := 0, locals := 23 }) [.ref (b 0), .int bt, .int v] D cI cZ sz (wM b cI cZ pl br md tn (nI n) sp we tw sl pr al mo (nI h) cr tu le to ia th) (wM b cI cZ pl br md tn (nI n) sp we tw sl pr al mo (nI h) cr tu le to ia (nI (cOfBoat bt v))) (fun r => cOfBoat bt v = 0 → r = vOfBoat tu le to ia (cl bt) v) := by
  refine Met.ofW (cc := cX5_ofBoat) (maxL := 3) (ret := (some .int)) (by decide) rfl ?_
  intro p e s m args below meth c s₁ B hml hv
  obtain ⟨rfl, hsz, hP, hK, hD0⟩ := hv
  have hx := B.exec
  have hb := B.bytes
  have hr := B.returns
  have hts := atoms_spec (ws := wsX5_ofBoat) B.pre
  have hown : s.vm.findClass RX5 = some m.cls := findClass_of_methodNamed B.named
  have hlocks := B.notSynchronized
  subst hsz
  have hD := hD0.self (sz := s.heap.size)
  generalize hAe : va_A (wM b cI cZ pl br md tn (nI n) sp we tw sl pr al mo (nI h) cr tu le to ia th) s.heap.size = A at hD ⊢
  have hA : ∀ q : Nat, s.heap.size ≤ q → A q := fun q h => by rw [← hAe]; exact Or.inr h
  have hS : va_S A s.heap s.heap [] := va_S.rf
  have hl := lv_entry ([.ref (b 0), .int bt, .int v]) (n := 3) (Nat.le_of_ble_eq_true rfl)
  rw [lg_entry_eq]
  generalize (lg_sl ([.ref (b 0), .int bt, .int v]) ++ List.replicate (3 - (lg_sl ([.ref (b 0), .int bt, .int v])).length) Slot.unset).toArray = ls at hl ⊢
  have hl : lv_has ls 3 [(0, .ref (b 0)), (1, .int bt), (2, .int v)] := hl
  refine lv_aload_n hx hb dX5_ofBoat_0 rfl (lv_at hl 0 rfl) ?_
  refine lv_aload_n hx hb dX5_ofBoat_1 rfl (lv_at hl 0 rfl) ?_
  refine lv_iload_n hx hb dX5_ofBoat_2 rfl (lv_at hl 1 rfl) ?_
  refine lv_iconst (v := 0) hx hb dX5_ofBoat_3 (by decide) ?_
  refine lv_iconst (v := 2) hx hb dX5_ofBoat_4 (by decide) ?_
  refine k_pv (As := [.int bt, .int 0, .int 2]) (rest := [.ref (b 0)]) (nL := 3) ⟨hx, hb, hml, hown, hts⟩ (c_X5_in l _ bt 0 2) (cwV 3 hts gX5_ofBoat_X5_in rfl rfl rfl (by decide +kernel) ⟨Nat.le_of_ble_eq_true rfl, Nat.le_of_ble_eq_true rfl⟩) (va_recv hK.1 hP (ci := 5) (q0 := 0) rfl rfl) rfl hl.1 rfl (Nat.le_of_ble_eq_true rfl) dX5_ofBoat_5 ⟨Nat.zero_le _, Nat.zero_le _⟩ (fun r9 hr9 => ?_)
  subst hr9
  refine lv_if_ne (tgt := 15) hx hb dX5_ofBoat_8 (by decide) (fun c_8 => ?_) (fun c_8 => ?_)
  · have c_8 := bI_n c_8
    refine lv_aload_n hx hb dX5_ofBoat_15 rfl (lv_at hl 0 rfl) ?_
    refine lv_iload_n hx hb dX5_ofBoat_16 rfl (lv_at hl 2 rfl) ?_
    refine lv_iconst (v := 0) hx hb dX5_ofBoat_17 (by decide) ?_
    refine lv_iconst (v := 3) hx hb dX5_ofBoat_18 (by decide) ?_
    refine k_pv (As := [.int v, .int 0, .int 3]) (rest := [.ref (b 0)]) (nL := 3) ⟨hx, hb, hml, hown, hts⟩ (c_X5_in l _ v 0 3) (cwV 3 hts gX5_ofBoat_X5_in rfl rfl rfl (by decide +kernel) ⟨Nat.le_of_ble_eq_true rfl, Nat.le_of_ble_eq_true rfl⟩) (va_recv hK.1 hP (ci := 5) (q0 := 0) rfl rfl) rfl hl.1 rfl (Nat.le_of_ble_eq_true rfl) dX5_ofBoat_19 ⟨Nat.zero_le _, Nat.zero_le _⟩ (fun r9 hr9 => ?_)
    subst hr9
    refine lv_if_eq (tgt := 29) hx hb dX5_ofBoat_22 (by decide) (fun c_22 => ?_) (fun c_22 => ?_)
    · have c_22 := bI_0 c_22
      refine lv_iconst (v := 2) hx hb dX5_ofBoat_29 (by decide) ?_
      refine k_ui (WR := []) (WN := (wM b cI cZ pl br md tn (nI n) sp we tw sl pr al mo (nI h) cr tu le to ia 2)) (As := [.int 2]) (rest := []) (nL := 3) ⟨hx, hb, hml, hown, hts⟩ hK hP hD hS hA (c_X5_fails l D b cI cZ _ pl br md tn (nI n) sp we tw sl pr al mo (nI h) cr tu le to ia th 2) [0, 1, 2, 3, 4, 5, 6, 7, 8, 9, 10, 11, 12, 13, 14, 15, 16] [] [0, 1, 2, 3, 4, 5, 6, 7, 8, 9, 10, 11, 12, 13, 14, 15, 16] rfl rfl (by decide) rfl (by decide) (by decide) rfl rfl (by decide) 0 rfl rfl rfl (cwV 1 hts gX5_ofBoat_X5_fails rfl rfl rfl (by decide +kernel) ⟨Nat.le_of_ble_eq_true rfl, Nat.le_of_ble_eq_true rfl⟩) rfl hl.1 rfl (Nat.le_of_ble_eq_true rfl) dX5_ofBoat_30 ⟨Nat.zero_le _, Nat.zero_le _⟩ (fun r9 H locs hr9 hP hD hS => ?_)
      subst hr9
      refine lv_if_eq (tgt := 38) hx hb dX5_ofBoat_33 (by decide) (fun c_33 => by first | exact absurd c_33 (by decide) | exact absurd (by decide) c_33) (fun c_33 => ?_)
      have e9 : (nI (cOfBoat bt v)) = 2 := by rw [show cOfBoat bt v = 2 from by unfold cOfBoat; rw [if_pos c_8, if_neg c_22]]; rfl
      have hP : va_P D vwCl (wM b cI cZ pl br md tn (nI n) sp we tw sl pr al mo (nI h) cr tu le to ia (nI (cOfBoat bt v))) H := by rw [e9]; exact hP
      have hD : va_D A (wM b cI cZ pl br md tn (nI n) sp we tw sl pr al mo (nI h) cr tu le to ia (nI (cOfBoat bt v))) := by rw [e9]; exact hD
      clear e9
      refine lv_iconst (v := (-1)) hx hb dX5_ofBoat_36 (by decide) ?_
      exact k_endI (ty := .int) hx hb hr hlocks (rfl) (fun z9 => absurd (z9.symm.trans (show cOfBoat bt v = 2 from by unfold cOfBoat; rw [if_pos c_8, if_neg c_22])) (by decide)) hP hD hS dX5_ofBoat_37
    · have c_22 := bI_n c_22
      refine lv_iconst (v := 0) hx hb dX5_ofBoat_25 (by decide) ?_
      refine lv_goto (tgt := 30) hx hb dX5_ofBoat_26 (by decide) ?_
      refine k_ui (WR := []) (WN := (wM b cI cZ pl br md tn (nI n) sp we tw sl pr al mo (nI h) cr tu le to ia 0)) (As := [.int 0]) (rest := []) (nL := 3) ⟨hx, hb, hml, hown, hts⟩ hK hP hD hS hA (c_X5_fails l D b cI cZ _ pl br md tn (nI n) sp we tw sl pr al mo (nI h) cr tu le to ia th 0) [0, 1, 2, 3, 4, 5, 6, 7, 8, 9, 10, 11, 12, 13, 14, 15, 16] [] [0, 1, 2, 3, 4, 5, 6, 7, 8, 9, 10, 11, 12, 13, 14, 15, 16] rfl rfl (by decide) rfl (by decide) (by decide) rfl rfl (by decide) 0 rfl rfl rfl (cwV 1 hts gX5_ofBoat_X5_fails rfl rfl rfl (by decide +kernel) ⟨Nat.le_of_ble_eq_true rfl, Nat.le_of_ble_eq_true rfl⟩) rfl hl.1 rfl (Nat.le_of_ble_eq_true rfl) dX5_ofBoat_30 ⟨Nat.zero_le _, Nat.zero_le _⟩ (fun r9 H locs hr9 hP hD hS => ?_)
      subst hr9
      refine lv_if_eq (tgt := 38) hx hb dX5_ofBoat_33 (by decide) (fun c_33 => ?_) (fun c_33 => by first | exact absurd c_33 (by decide) | exact absurd (by decide) c_33)
      have hq := cl_rng (n := 0) (m := 2) (by decide) (by decide) c_8
      rw [hq.1] at hl
      refine lv_iload_n hx hb dX5_ofBoat_38 rfl (lv_at hl 2 rfl) ?_
      refine lv_if_ne (tgt := 51) hx hb dX5_ofBoat_39 (by decide) (fun c_39 => ?_) (fun c_39 => ?_)
      · refine lv_iload_n hx hb dX5_ofBoat_51 rfl (lv_at hl 2 rfl) ?_
        refine lv_iconst (v := 1) hx hb dX5_ofBoat_52 (by decide) ?_
        refine lv_icmp_ne (tgt := 78) hx hb dX5_ofBoat_53 (by decide) (fun c_53 => ?_) (fun c_53 => ?_)
        · refine lv_iload_n hx hb dX5_ofBoat_78 rfl (lv_at hl 2 rfl) ?_
          refine lv_iconst (v := 2) hx hb dX5_ofBoat_79 (by decide) ?_
          refine lv_icmp_ne (tgt := 92) hx hb dX5_ofBoat_80 (by decide) (fun c_80 => ?_) (fun c_80 => ?_)
          · refine lv_aload_n hx hb dX5_ofBoat_92 rfl (lv_at hl 0 rfl) ?_
            refine va_get (D := D) (ci := 5) (v := .ref (b 16)) (C := RX5) (T := TX5) (N := 19) hx hb hts (by decide +kernel) hown hK.1 hP 0 rfl rfl 17 (by decide) (hts (.fieldLink RX5 55 "TurbineorchardModel" "worked" "[I") (by decide +kernel)) (fun _ h9 => h9) rfl dX5_ofBoat_93 ?_
            refine lv_iload_n hx hb dX5_ofBoat_96 rfl (lv_at hl 1 rfl) ?_
            refine k_iald hx hb hK.1 hP 16 0 rfl rfl (cl bt) (rfl) (by omega) (by decide) dX5_ofBoat_97 ?_
            have e9 : (nI (cOfBoat bt v)) = 0 := by rw [show cOfBoat bt v = 0 from by unfold cOfBoat; rw [if_pos c_8, if_pos c_22]]; rfl
            have hP : va_P D vwCl (wM b cI cZ pl br md tn (nI n) sp we tw sl pr al mo (nI h) cr tu le to ia (nI (cOfBoat bt v))) H := by rw [e9]; exact hP
            have hD : va_D A (wM b cI cZ pl br md tn (nI n) sp we tw sl pr al mo (nI h) cr tu le to ia (nI (cOfBoat bt v))) := by rw [e9]; exact hD
            clear e9
            exact k_endI (ty := .int) hx hb hr hlocks (rfl) (fun _ => by unfold vOfBoat; rw [if_neg c_39, if_neg c_53, if_neg c_80]) hP hD hS dX5_ofBoat_98
          · refine lv_aload_n hx hb dX5_ofBoat_83 rfl (lv_at hl 0 rfl) ?_
            refine va_get (D := D) (ci := 5) (v := .ref (b 15)) (C := RX5) (T := TX5) (N := 19) hx hb hts (by decide +kernel) hown hK.1 hP 0 rfl rfl 16 (by decide) (hts (.fieldLink RX5 52 "TurbineorchardModel" "today" "[I") (by decide +kernel)) (fun _ h9 => h9) rfl dX5_ofBoat_84 ?_
            refine lv_iload_n hx hb dX5_ofBoat_87 rfl (lv_at hl 1 rfl) ?_
            refine k_iald hx hb hK.1 hP 15 0 rfl rfl (cl bt) (rfl) (by omega) (by decide) dX5_ofBoat_88 ?_
            refine lv_goto (tgt := 98) hx hb dX5_ofBoat_89 (by decide) ?_
            have e9 : (nI (cOfBoat bt v)) = 0 := by rw [show cOfBoat bt v = 0 from by unfold cOfBoat; rw [if_pos c_8, if_pos c_22]]; rfl
            have hP : va_P D vwCl (wM b cI cZ pl br md tn (nI n) sp we tw sl pr al mo (nI h) cr tu le to ia (nI (cOfBoat bt v))) H := by rw [e9]; exact hP
            have hD : va_D A (wM b cI cZ pl br md tn (nI n) sp we tw sl pr al mo (nI h) cr tu le to ia (nI (cOfBoat bt v))) := by rw [e9]; exact hD
            clear e9
            exact k_endI (ty := .int) hx hb hr hlocks (rfl) (fun _ => by unfold vOfBoat; rw [if_neg c_39, if_neg c_53, if_pos c_80]) hP hD hS dX5_ofBoat_98
        · refine lv_aload_n hx hb dX5_ofBoat_56 rfl (lv_at hl 0 rfl) ?_
          refine va_get (D := D) (ci := 5) (v := .ref (b 13)) (C := RX5) (T := TX5) (N := 19) hx hb hts (by decide +kernel) hown hK.1 hP 0 rfl rfl 14 (by decide) (hts (.fieldLink RX5 46 "TurbineorchardModel" "at" "[I") (by decide +kernel)) (fun _ h9 => h9) rfl dX5_ofBoat_57 ?_
          refine lv_iload_n hx hb dX5_ofBoat_60 rfl (lv_at hl 1 rfl) ?_
          refine k_iald hx hb hK.1 hP 13 0 rfl rfl (cl bt) (rfl) (by omega) (by decide) dX5_ofBoat_61 ?_
          refine lv_if_ge (tgt := 69) hx hb dX5_ofBoat_62 (by decide) (fun c_62 => ?_) (fun c_62 => ?_)
          · refine lv_aload_n hx hb dX5_ofBoat_69 rfl (lv_at hl 0 rfl) ?_
            refine va_get (D := D) (ci := 5) (v := .ref (b 14)) (C := RX5) (T := TX5) (N := 19) hx hb hts (by decide +kernel) hown hK.1 hP 0 rfl rfl 15 (by decide) (hts (.fieldLink RX5 49 "TurbineorchardModel" "left" "[I") (by decide +kernel)) (fun _ h9 => h9) rfl dX5_ofBoat_70 ?_
            refine lv_iload_n hx hb dX5_ofBoat_73 rfl (lv_at hl 1 rfl) ?_
            refine k_iald hx hb hK.1 hP 14 0 rfl rfl (cl bt) (rfl) (by omega) (by decide) dX5_ofBoat_74 ?_
            refine lv_goto (tgt := 98) hx hb dX5_ofBoat_75 (by decide) ?_
            have e9 : (nI (cOfBoat bt v)) = 0 := by rw [show cOfBoat bt v = 0 from by unfold cOfBoat; rw [if_pos c_8, if_pos c_22]]; rfl
            have hP : va_P D vwCl (wM b cI cZ pl br md tn (nI n) sp we tw sl pr al mo (nI h) cr tu le to ia (nI (cOfBoat bt v))) H := by rw [e9]; exact hP
            have hD : va_D A (wM b cI cZ pl br md tn (nI n) sp we tw sl pr al mo (nI h) cr tu le to ia (nI (cOfBoat bt v))) := by rw [e9]; exact hD
            clear e9
            exact k_endI (ty := .int) hx hb hr hlocks (rfl) (fun _ => by unfold vOfBoat; rw [if_neg c_39, if_pos c_53]) hP hD hS dX5_ofBoat_98
          · refine lv_iconst (v := 0) hx hb dX5_ofBoat_65 (by decide) ?_
            refine lv_goto (tgt := 98) hx hb dX5_ofBoat_66 (by decide) ?_
            have e9 : (nI (cOfBoat bt v)) = 0 := by rw [show cOfBoat bt v = 0 from by unfold cOfBoat; rw [if_pos c_8, if_pos c_22]]; rfl
            have hP : va_P D vwCl (wM b cI cZ pl br md tn (nI n) sp we tw sl pr al mo (nI h) cr tu le to ia (nI (cOfBoat bt v))) H := by rw [e9]; exact hP
            have hD : va_D A (wM b cI cZ pl br md tn (nI n) sp we tw sl pr al mo (nI h) cr tu le to ia (nI (cOfBoat bt v))) := by rw [e9]; exact hD
            clear e9
            exact k_endI (ty := .int) hx hb hr hlocks (rfl) (fun _ => by unfold vOfBoat; rw [if_neg c_39, if_pos c_53]; exact (htz _ (by omega) (Int32.not_le.mp c_62)).symm) hP hD hS dX5_ofBoat_98
      · refine lv_aload_n hx hb dX5_ofBoat_42 rfl (lv_at hl 0 rfl) ?_
        refine va_get (D := D) (ci := 5) (v := .ref (b 13)) (C := RX5) (T := TX5) (N := 19) hx hb hts (by decide +kernel) hown hK.1 hP 0 rfl rfl 14 (by decide) (hts (.fieldLink RX5 46 "TurbineorchardModel" "at" "[I") (by decide +kernel)) (fun _ h9 => h9) rfl dX5_ofBoat_43 ?_
        refine lv_iload_n hx hb dX5_ofBoat_46 rfl (lv_at hl 1 rfl) ?_
        refine k_iald hx hb hK.1 hP 13 0 rfl rfl (cl bt) (rfl) (by omega) (by decide) dX5_ofBoat_47 ?_
        refine lv_goto (tgt := 98) hx hb dX5_ofBoat_48 (by decide) ?_
        have e9 : (nI (cOfBoat bt v)) = 0 := by rw [show cOfBoat bt v = 0 from by unfold cOfBoat; rw [if_pos c_8, if_pos c_22]]; rfl
        have hP : va_P D vwCl (wM b cI cZ pl br md tn (nI n) sp we tw sl pr al mo (nI h) cr tu le to ia (nI (cOfBoat bt v))) H := by rw [e9]; exact hP
        have hD : va_D A (wM b cI cZ pl br md tn (nI n) sp we tw sl pr al mo (nI h) cr tu le to ia (nI (cOfBoat bt v))) := by rw [e9]; exact hD
        clear e9
        exact k_endI (ty := .int) hx hb hr hlocks (rfl) (fun _ => by unfold vOfBoat; rw [if_pos c_39]) hP hD hS dX5_ofBoat_98
  · have c_8 := bI_0 c_8
    refine lv_iconst (v := 1) hx hb dX5_ofBoat_11 (by decide) ?_
    refine lv_goto (tgt := 30) hx hb dX5_ofBoat_12 (by decide) ?_
    refine k_ui (WR := []) (WN := (wM b cI cZ pl br md tn (nI n) sp we tw sl pr al mo (nI h) cr tu le to ia 1)) (As := [.int 1]) (rest := []) (nL := 3) ⟨hx, hb, hml, hown, hts⟩ hK hP hD hS hA (c_X5_fails l D b cI cZ _ pl br md tn (nI n) sp we tw sl pr al mo (nI h) cr tu le to ia th 1) [0, 1, 2, 3, 4, 5, 6, 7, 8, 9, 10, 11, 12, 13, 14, 15, 16] [] [0, 1, 2, 3, 4, 5, 6, 7, 8, 9, 10, 11, 12, 13, 14, 15, 16] rfl rfl (by decide) rfl (by decide) (by decide) rfl rfl (by decide) 0 rfl rfl rfl (cwV 1 hts gX5_ofBoat_X5_fails rfl rfl rfl (by decide +kernel) ⟨Nat.le_of_ble_eq_true rfl, Nat.le_of_ble_eq_true rfl⟩) rfl hl.1 rfl (Nat.le_of_ble_eq_true rfl) dX5_ofBoat_30 ⟨Nat.zero_le _, Nat.zero_le _⟩ (fun r9 H locs hr9 hP hD hS => ?_)
    subst hr9
    refine lv_if_eq (tgt := 38) hx hb dX5_ofBoat_33 (by decide) (fun c_33 => by first | exact absurd c_33 (by decide) | exact absurd (by decide) c_33) (fun c_33 => ?_)
    have e9 : (nI (cOfBoat bt v)) = 1 := by rw [show cOfBoat bt v = 1 from by unfold cOfBoat; rw [if_neg c_8]]; rfl
    have hP : va_P D vwCl (wM b cI cZ pl br md tn (nI n) sp we tw sl pr al mo (nI h) cr tu le to ia (nI (cOfBoat bt v))) H := by rw [e9]; exact hP
    have hD : va_D A (wM b cI cZ pl br md tn (nI n) sp we tw sl pr al mo (nI h) cr tu le to ia (nI (cOfBoat bt v))) := by rw [e9]; exact hD
    clear e9
    refine lv_iconst (v := (-1)) hx hb dX5_ofBoat_36 (by decide) ?_
    exact k_endI (ty := .int) hx hb hr hlocks (rfl) (fun z9 => absurd (z9.symm.trans (show cOfBoat bt v = 1 from by unfold cOfBoat; rw [if_neg c_8])) (by decide)) hP hD hS dX5_ofBoat_37

set_option maxHeartbeats 4000000 in
set_option maxRecDepth 100000 in
theorem c_X5_ofTurbine (l : Launch) (D : va_G) (b : Nat → Nat) (cI cZ : ClassId) (sz : Nat) (pl : Nat → Int32) (br : Nat → Int32) (md : Nat → Int32) (tn : Nat → Int32) (sp : Nat → Int32) (we : Nat → Int32) (tw : Nat → Int32) (sl : Nat → Int32) (pr : Nat → Int32) (al : Nat → Int32) (mo : Nat → Int32) (cr : Nat → Int32) (tu : Nat → Int32) (le : Nat → Int32) (to : Nat → Int32) (ia : Nat → Int32) (th : Int32) (n : Nat) (h : Nat) (t : Int32) (v : Int32) (hn : n ≤ 12) (hh : h < 480) : kUi l yX5_ofTurbine wsX5_ofTurbine ({ frames := 2, cells := 0, slots := 0, locals := 44 }) [.ref (b 0), .int t, .int v] D cI cZ sz (wM b cI cZ pl br md tn (nI n) sp we tw sl pr al mo (nI h) cr tu le to ia th) (wM b cI cZ pl br md tn (nI n) sp we tw sl pr al mo (nI h) cr tu le to ia (nI (cOfTurb n t v))) (fun r => cOfTurb n t v = 0 → r = vOfTurb pl br md (cl t) v) := by
  refine Met.ofW (cc := cX5_ofTurbine) (maxL := 3) (ret := (some .int)) (by decide) rfl ?_
  intro p e s m args below meth c s₁ B hml hv
  obtain ⟨rfl, hsz, hP, hK, hD0⟩ := hv
  have hx := B.exec
  have hb := B.bytes
  have hr := B.returns
  have hts := atoms_spec (ws := wsX5_ofTurbine) B.pre
  have hown : s.vm.findClass RX5 = some m.cls := findClass_of_methodNamed B.named
  have hlocks := B.notSynchronized
  subst hsz
  have hD := hD0.self (sz := s.heap.size)
  generalize hAe : va_A (wM b cI cZ pl br md tn (nI n) sp we tw sl pr al mo (nI h) cr tu le to ia th) s.heap.size = A at hD ⊢
  have hA : ∀ q : Nat, s.heap.size ≤ q → A q := fun q h => by rw [← hAe]; exact Or.inr h
  have hS : va_S A s.heap s.heap [] := va_S.rf
  have hl := lv_entry ([.ref (b 0), .int t, .int v]) (n := 3) (Nat.le_of_ble_eq_true rfl)
  rw [lg_entry_eq]
  generalize (lg_sl ([.ref (b 0), .int t, .int v]) ++ List.replicate (3 - (lg_sl ([.ref (b 0), .int t, .int v])).length) Slot.unset).toArray = ls at hl ⊢
  have hl : lv_has ls 3 [(0, .ref (b 0)), (1, .int t), (2, .int v)] := hl
  refine lv_aload_n hx hb dX5_ofTurbine_0 rfl (lv_at hl 0 rfl) ?_
  refine lv_aload_n hx hb dX5_ofTurbine_1 rfl (lv_at hl 0 rfl) ?_
  refine lv_iload_n hx hb dX5_ofTurbine_2 rfl (lv_at hl 1 rfl) ?_
  refine k_rd (As := [.int t]) (rest := [.ref (b 0)]) (nL := 3) ⟨hx, hb, hml, hown, hts⟩ hK hP (c_X5_isTurbine l D b cI cZ pl br md tn sp we tw sl pr al mo (nI h) cr tu le to ia th n t) [0, 1, 2, 3, 4, 5, 6, 7, 8, 9, 10, 11, 12, 13, 14, 15, 16] rfl 0 rfl rfl rfl (cwV 1 hts gX5_ofTurbine_X5_isTurbine rfl rfl rfl (by decide +kernel) ⟨Nat.le_of_ble_eq_true rfl, Nat.le_of_ble_eq_true rfl⟩) rfl hl.1 rfl (Nat.le_of_ble_eq_true rfl) dX5_ofTurbine_3 ⟨Nat.zero_le _, Nat.zero_le _⟩ (fun r9 hr9 => ?_)
  subst hr9
  refine lv_if_ne (tgt := 13) hx hb dX5_ofTurbine_6 (by decide) (fun c_6 => ?_) (fun c_6 => ?_)
  · have c_6 := bI_n c_6
    refine lv_aload_n hx hb dX5_ofTurbine_13 rfl (lv_at hl 0 rfl) ?_
    refine lv_iload_n hx hb dX5_ofTurbine_14 rfl (lv_at hl 2 rfl) ?_
    refine lv_iconst (v := 0) hx hb dX5_ofTurbine_15 (by decide) ?_
    refine lv_iconst (v := 2) hx hb dX5_ofTurbine_16 (by decide) ?_
    refine k_pv (As := [.int v, .int 0, .int 2]) (rest := [.ref (b 0)]) (nL := 3) ⟨hx, hb, hml, hown, hts⟩ (c_X5_in l _ v 0 2) (cwV 3 hts gX5_ofTurbine_X5_in rfl rfl rfl (by decide +kernel) ⟨Nat.le_of_ble_eq_true rfl, Nat.le_of_ble_eq_true rfl⟩) (va_recv hK.1 hP (ci := 5) (q0 := 0) rfl rfl) rfl hl.1 rfl (Nat.le_of_ble_eq_true rfl) dX5_ofTurbine_17 ⟨Nat.zero_le _, Nat.zero_le _⟩ (fun r9 hr9 => ?_)
    subst hr9
    refine lv_if_eq (tgt := 27) hx hb dX5_ofTurbine_20 (by decide) (fun c_20 => ?_) (fun c_20 => ?_)
    · have c_20 := bI_0 c_20
      refine lv_iconst (v := 2) hx hb dX5_ofTurbine_27 (by decide) ?_
      refine k_ui (WR := []) (WN := (wM b cI cZ pl br md tn (nI n) sp we tw sl pr al mo (nI h) cr tu le to ia 2)) (As := [.int 2]) (rest := []) (nL := 3) ⟨hx, hb, hml, hown, hts⟩ hK hP hD hS hA (c_X5_fails l D b cI cZ _ pl br md tn (nI n) sp we tw sl pr al mo (nI h) cr tu le to ia th 2) [0, 1, 2, 3, 4, 5, 6, 7, 8, 9, 10, 11, 12, 13, 14, 15, 16] [] [0, 1, 2, 3, 4, 5, 6, 7, 8, 9, 10, 11, 12, 13, 14, 15, 16] rfl rfl (by decide) rfl (by decide) (by decide) rfl rfl (by decide) 0 rfl rfl rfl (cwV 1 hts gX5_ofTurbine_X5_fails rfl rfl rfl (by decide +kernel) ⟨Nat.le_of_ble_eq_true rfl, Nat.le_of_ble_eq_true rfl⟩) rfl hl.1 rfl (Nat.le_of_ble_eq_true rfl) dX5_ofTurbine_28 ⟨Nat.zero_le _, Nat.zero_le _⟩ (fun r9 H locs hr9 hP hD hS => ?_)
      subst hr9
      refine lv_if_eq (tgt := 36) hx hb dX5_ofTurbine_31 (by decide) (fun c_31 => by first | exact absurd c_31 (by decide) | exact absurd (by decide) c_31) (fun c_31 => ?_)
      have e9 : (nI (cOfTurb n t v)) = 2 := by rw [show cOfTurb n t v = 2 from by unfold cOfTurb; rw [if_pos c_6, if_neg c_20]]; rfl
      have hP : va_P D vwCl (wM b cI cZ pl br md tn (nI n) sp we tw sl pr al mo (nI h) cr tu le to ia (nI (cOfTurb n t v))) H := by rw [e9]; exact hP
      have hD : va_D A (wM b cI cZ pl br md tn (nI n) sp we tw sl pr al mo (nI h) cr tu le to ia (nI (cOfTurb n t v))) := by rw [e9]; exact hD
      clear e9
      refine lv_iconst (v := (-1)) hx hb dX5_ofTurbine_34 (by decide) ?_
      exact k_endI (ty := .int) hx hb hr hlocks (rfl) (fun z9 => absurd (z9.symm.trans (show cOfTurb n t v = 2 from by unfold cOfTurb; rw [if_pos c_6, if_neg c_20])) (by decide)) hP hD hS dX5_ofTurbine_35
    · have c_20 := bI_n c_20
      refine lv_iconst (v := 0) hx hb dX5_ofTurbine_23 (by decide) ?_
      refine lv_goto (tgt := 28) hx hb dX5_ofTurbine_24 (by decide) ?_
      refine k_ui (WR := []) (WN := (wM b cI cZ pl br md tn (nI n) sp we tw sl pr al mo (nI h) cr tu le to ia 0)) (As := [.int 0]) (rest := []) (nL := 3) ⟨hx, hb, hml, hown, hts⟩ hK hP hD hS hA (c_X5_fails l D b cI cZ _ pl br md tn (nI n) sp we tw sl pr al mo (nI h) cr tu le to ia th 0) [0, 1, 2, 3, 4, 5, 6, 7, 8, 9, 10, 11, 12, 13, 14, 15, 16] [] [0, 1, 2, 3, 4, 5, 6, 7, 8, 9, 10, 11, 12, 13, 14, 15, 16] rfl rfl (by decide) rfl (by decide) (by decide) rfl rfl (by decide) 0 rfl rfl rfl (cwV 1 hts gX5_ofTurbine_X5_fails rfl rfl rfl (by decide +kernel) ⟨Nat.le_of_ble_eq_true rfl, Nat.le_of_ble_eq_true rfl⟩) rfl hl.1 rfl (Nat.le_of_ble_eq_true rfl) dX5_ofTurbine_28 ⟨Nat.zero_le _, Nat.zero_le _⟩ (fun r9 H locs hr9 hP hD hS => ?_)
      subst hr9
      refine lv_if_eq (tgt := 36) hx hb dX5_ofTurbine_31 (by decide) (fun c_31 => ?_) (fun c_31 => by first | exact absurd c_31 (by decide) | exact absurd (by decide) c_31)
      have hq := has_cl hn c_6
      rw [hq.1] at hl
      refine lv_iload_n hx hb dX5_ofTurbine_36 rfl (lv_at hl 2 rfl) ?_
      refine lv_if_ne (tgt := 49) hx hb dX5_ofTurbine_37 (by decide) (fun c_37 => ?_) (fun c_37 => ?_)
      · refine lv_iload_n hx hb dX5_ofTurbine_49 rfl (lv_at hl 2 rfl) ?_
        refine lv_iconst (v := 1) hx hb dX5_ofTurbine_50 (by decide) ?_
        refine lv_icmp_ne (tgt := 63) hx hb dX5_ofTurbine_51 (by decide) (fun c_51 => ?_) (fun c_51 => ?_)
        · refine lv_aload_n hx hb dX5_ofTurbine_63 rfl (lv_at hl 0 rfl) ?_
          refine va_get (D := D) (ci := 5) (v := .ref (b 3)) (C := RX5) (T := TX5) (N := 19) hx hb hts (by decide +kernel) hown hK.1 hP 0 rfl rfl 2 (by decide) (hts (.fieldLink RX5 16 "TurbineorchardModel" "made" "[I") (by decide +kernel)) (fun _ h9 => h9) rfl dX5_ofTurbine_64 ?_
          refine lv_iload_n hx hb dX5_ofTurbine_67 rfl (lv_at hl 1 rfl) ?_
          refine k_iald hx hb hK.1 hP 3 0 rfl rfl (cl t) (rfl) (by omega) (by decide) dX5_ofTurbine_68 ?_
          have e9 : (nI (cOfTurb n t v)) = 0 := by rw [show cOfTurb n t v = 0 from by unfold cOfTurb; rw [if_pos c_6, if_pos c_20]]; rfl
          have hP : va_P D vwCl (wM b cI cZ pl br md tn (nI n) sp we tw sl pr al mo (nI h) cr tu le to ia (nI (cOfTurb n t v))) H := by rw [e9]; exact hP
          have hD : va_D A (wM b cI cZ pl br md tn (nI n) sp we tw sl pr al mo (nI h) cr tu le to ia (nI (cOfTurb n t v))) := by rw [e9]; exact hD
          clear e9
          exact k_endI (ty := .int) hx hb hr hlocks (rfl) (fun _ => by unfold vOfTurb; rw [if_neg c_37, if_neg c_51]) hP hD hS dX5_ofTurbine_69
        · refine lv_aload_n hx hb dX5_ofTurbine_54 rfl (lv_at hl 0 rfl) ?_
          refine va_get (D := D) (ci := 5) (v := .ref (b 2)) (C := RX5) (T := TX5) (N := 19) hx hb hts (by decide +kernel) hown hK.1 hP 0 rfl rfl 1 (by decide) (hts (.fieldLink RX5 13 "TurbineorchardModel" "broken" "[I") (by decide +kernel)) (fun _ h9 => h9) rfl dX5_ofTurbine_55 ?_
          refine lv_iload_n hx hb dX5_ofTurbine_58 rfl (lv_at hl 1 rfl) ?_
          refine k_iald hx hb hK.1 hP 2 0 rfl rfl (cl t) (rfl) (by omega) (by decide) dX5_ofTurbine_59 ?_
          refine lv_goto (tgt := 69) hx hb dX5_ofTurbine_60 (by decide) ?_
          have e9 : (nI (cOfTurb n t v)) = 0 := by rw [show cOfTurb n t v = 0 from by unfold cOfTurb; rw [if_pos c_6, if_pos c_20]]; rfl
          have hP : va_P D vwCl (wM b cI cZ pl br md tn (nI n) sp we tw sl pr al mo (nI h) cr tu le to ia (nI (cOfTurb n t v))) H := by rw [e9]; exact hP
          have hD : va_D A (wM b cI cZ pl br md tn (nI n) sp we tw sl pr al mo (nI h) cr tu le to ia (nI (cOfTurb n t v))) := by rw [e9]; exact hD
          clear e9
          exact k_endI (ty := .int) hx hb hr hlocks (rfl) (fun _ => by unfold vOfTurb; rw [if_neg c_37, if_pos c_51]) hP hD hS dX5_ofTurbine_69
      · refine lv_aload_n hx hb dX5_ofTurbine_40 rfl (lv_at hl 0 rfl) ?_
        refine va_get (D := D) (ci := 5) (v := .ref (b 1)) (C := RX5) (T := TX5) (N := 19) hx hb hts (by decide +kernel) hown hK.1 hP 0 rfl rfl 0 (by decide) (hts (.fieldLink RX5 7 "TurbineorchardModel" "place" "[I") (by decide +kernel)) (fun _ h9 => h9) rfl dX5_ofTurbine_41 ?_
        refine lv_iload_n hx hb dX5_ofTurbine_44 rfl (lv_at hl 1 rfl) ?_
        refine k_iald hx hb hK.1 hP 1 0 rfl rfl (cl t) (rfl) (by omega) (by decide) dX5_ofTurbine_45 ?_
        refine lv_goto (tgt := 69) hx hb dX5_ofTurbine_46 (by decide) ?_
        have e9 : (nI (cOfTurb n t v)) = 0 := by rw [show cOfTurb n t v = 0 from by unfold cOfTurb; rw [if_pos c_6, if_pos c_20]]; rfl
        have hP : va_P D vwCl (wM b cI cZ pl br md tn (nI n) sp we tw sl pr al mo (nI h) cr tu le to ia (nI (cOfTurb n t v))) H := by rw [e9]; exact hP
        have hD : va_D A (wM b cI cZ pl br md tn (nI n) sp we tw sl pr al mo (nI h) cr tu le to ia (nI (cOfTurb n t v))) := by rw [e9]; exact hD
        clear e9
        exact k_endI (ty := .int) hx hb hr hlocks (rfl) (fun _ => by unfold vOfTurb; rw [if_pos c_37]) hP hD hS dX5_ofTurbine_69
  · have c_6 := bI_0 c_6
    refine lv_iconst (v := 1) hx hb dX5_ofTurbine_9 (by decide) ?_
    refine lv_goto (tgt := 28) hx hb dX5_ofTurbine_10 (by decide) ?_
    refine k_ui (WR := []) (WN := (wM b cI cZ pl br md tn (nI n) sp we tw sl pr al mo (nI h) cr tu le to ia 1)) (As := [.int 1]) (rest := []) (nL := 3) ⟨hx, hb, hml, hown, hts⟩ hK hP hD hS hA (c_X5_fails l D b cI cZ _ pl br md tn (nI n) sp we tw sl pr al mo (nI h) cr tu le to ia th 1) [0, 1, 2, 3, 4, 5, 6, 7, 8, 9, 10, 11, 12, 13, 14, 15, 16] [] [0, 1, 2, 3, 4, 5, 6, 7, 8, 9, 10, 11, 12, 13, 14, 15, 16] rfl rfl (by decide) rfl (by decide) (by decide) rfl rfl (by decide) 0 rfl rfl rfl (cwV 1 hts gX5_ofTurbine_X5_fails rfl rfl rfl (by decide +kernel) ⟨Nat.le_of_ble_eq_true rfl, Nat.le_of_ble_eq_true rfl⟩) rfl hl.1 rfl (Nat.le_of_ble_eq_true rfl) dX5_ofTurbine_28 ⟨Nat.zero_le _, Nat.zero_le _⟩ (fun r9 H locs hr9 hP hD hS => ?_)
    subst hr9
    refine lv_if_eq (tgt := 36) hx hb dX5_ofTurbine_31 (by decide) (fun c_31 => by first | exact absurd c_31 (by decide) | exact absurd (by decide) c_31) (fun c_31 => ?_)
    have e9 : (nI (cOfTurb n t v)) = 1 := by rw [show cOfTurb n t v = 1 from by unfold cOfTurb; rw [if_neg c_6]]; rfl
    have hP : va_P D vwCl (wM b cI cZ pl br md tn (nI n) sp we tw sl pr al mo (nI h) cr tu le to ia (nI (cOfTurb n t v))) H := by rw [e9]; exact hP
    have hD : va_D A (wM b cI cZ pl br md tn (nI n) sp we tw sl pr al mo (nI h) cr tu le to ia (nI (cOfTurb n t v))) := by rw [e9]; exact hD
    clear e9
    refine lv_iconst (v := (-1)) hx hb dX5_ofTurbine_34 (by decide) ?_
    exact k_endI (ty := .int) hx hb hr hlocks (rfl) (fun z9 => absurd (z9.symm.trans (show cOfTurb n t v = 1 from by unfold cOfTurb; rw [if_neg c_6])) (by decide)) hP hD hS dX5_ofTurbine_35

set_option maxHeartbeats 4000000 in
set_option maxRecDepth 100000 in
theorem c_X5_brought (l : Launch) (D : va_G) (b : Nat → Nat) (cI cZ : ClassId) (sz : Nat) (pl : Nat → Int32) (br : Nat → Int32) (md : Nat → Int32) (tn : Nat → Int32) (sp : Nat → Int32) (we : Nat → Int32) (tw : Nat → Int32) (sl : Nat → Int32) (pr : Nat → Int32) (al : Nat → Int32) (mo : Nat → Int32) (cr : Nat → Int32) (tu : Nat → Int32) (le : Nat → Int32) (to : Nat → Int32) (ia : Nat → Int32) (th : Int32) (n : Nat) (h : Nat) (hn : n ≤ 12) (hh : h < 480) (hmo : ∀ j, j < h → mo j = fBring sl pr al j) : kUl l yX5_brought wsX5_brought ({ frames := 1, cells := 0, slots := 0, locals := 21 }) [.ref (b 0)] D cI cZ sz (wM b cI cZ pl br md tn (nI n) sp we tw sl pr al mo (nI h) cr tu le to ia th) (wM b cI cZ pl br md tn (nI n) sp we tw sl pr al mo (nI h) cr tu le to ia 0) (fun r => r = fBrt sl pr al h) := by
  refine Met.ofW (cc := cX5_brought) (maxL := 4) (ret := (some .long)) (by decide) rfl ?_
  intro p e s m args below meth c s₁ B hml hv
  obtain ⟨rfl, hsz, hP, hK, hD0⟩ := hv
  have hx := B.exec
  have hb := B.bytes
  have hr := B.returns
  have hts := atoms_spec (ws := wsX5_brought) B.pre
  have hown : s.vm.findClass RX5 = some m.cls := findClass_of_methodNamed B.named
  have hlocks := B.notSynchronized
  subst hsz
  have hD := hD0.self (sz := s.heap.size)
  generalize hAe : va_A (wM b cI cZ pl br md tn (nI n) sp we tw sl pr al mo (nI h) cr tu le to ia th) s.heap.size = A at hD ⊢
  have hA : ∀ q : Nat, s.heap.size ≤ q → A q := fun q h => by rw [← hAe]; exact Or.inr h
  have hS : va_S A s.heap s.heap [] := va_S.rf
  have hl := lv_entry ([.ref (b 0)]) (n := 4) (Nat.le_of_ble_eq_true rfl)
  rw [lg_entry_eq]
  generalize (lg_sl ([.ref (b 0)]) ++ List.replicate (4 - (lg_sl ([.ref (b 0)])).length) Slot.unset).toArray = ls at hl ⊢
  have hl : lv_has ls 4 [(0, .ref (b 0))] := hl
  refine lv_aload_n hx hb dX5_brought_0 rfl (lv_at hl 0 rfl) ?_
  refine lv_iconst (v := 0) hx hb dX5_brought_1 (by decide) ?_
  refine k_ui (WR := []) (WN := (wM b cI cZ pl br md tn (nI n) sp we tw sl pr al mo (nI h) cr tu le to ia 0)) (As := [.int 0]) (rest := []) (nL := 4) ⟨hx, hb, hml, hown, hts⟩ hK hP hD hS hA (c_X5_fails l D b cI cZ _ pl br md tn (nI n) sp we tw sl pr al mo (nI h) cr tu le to ia th 0) [0, 1, 2, 3, 4, 5, 6, 7, 8, 9, 10, 11, 12, 13, 14, 15, 16] [] [0, 1, 2, 3, 4, 5, 6, 7, 8, 9, 10, 11, 12, 13, 14, 15, 16] rfl rfl (by decide) rfl (by decide) (by decide) rfl rfl (by decide) 0 rfl rfl rfl (cwV 1 hts gX5_brought_X5_fails rfl rfl rfl (by decide +kernel) ⟨Nat.le_of_ble_eq_true rfl, Nat.le_of_ble_eq_true rfl⟩) rfl hl.1 rfl (Nat.le_of_ble_eq_true rfl) dX5_brought_2 ⟨Nat.zero_le _, Nat.zero_le _⟩ (fun r9 H locs hr9 hP hD hS => ?_)
  subst hr9
  refine lv_pop hx hb dX5_brought_5 rfl ?_
  refine lv_lconst (v := 0) hx hb dX5_brought_6 (by decide) ?_
  refine lv_lstore_n (lv' := [(1, .long 0), (0, .ref (b 0))]) hx hb dX5_brought_7 rfl hl (by decide) rfl (fun ls hl => ?_)
  refine lv_iconst (v := 0) hx hb dX5_brought_8 (by decide) ?_
  refine lv_istore_n (lv' := [(3, .int 0), (1, .long 0), (0, .ref (b 0))]) hx hb dX5_brought_9 rfl hl (by decide) rfl (fun ls hl => ?_)
  have loop_10 : ∀ (nn : Nat) (k : Nat) (x : Int64), h - k < nn → (k ≤ h) → (x = fBrt sl pr al k) → ∀ (H : Heap) (locs : List Loc), va_P D vwCl (wM b cI cZ pl br md tn (nI n) sp we tw sl pr al mo (nI h) cr tu le to ia 0) H → va_D A (wM b cI cZ pl br md tn (nI n) sp we tw sl pr al mo (nI h) cr tu le to ia 0) → va_S A s.heap H locs → ∀ (ls : Array Slot), lv_has ls 4 [(0, .ref (b 0)), (1, .long x), (3, .int (nI k))] → W p l e (headSpec wsX5_brought ({ frames := 1, cells := 0, slots := 0, locals := 21 })).room s m ([.ref (b 0)] : List Value).toArray below meth c H locs 0 0 (MQ below (va_Ql (fun (r : Int64) (_ : Unit) => (fun r => r = fBrt sl pr al h) r) (fun _ t9 => kAt D A (wM b cI cZ pl br md tn (nI n) sp we tw sl pr al mo (nI h) cr tu le to ia 0) t9) A) ([.ref (b 0)] : List Value).toArray s 0 0 A) (F0 m 10 ls []) := by
    intro nn
    induction nn with
    | zero => intro k x hm; exact absurd hm (by omega)
    | succ nn ih_10 =>
      intro k x hm hk hx9 H locs hP hD hS ls hl
      refine lv_iload_n hx hb dX5_brought_10 rfl (lv_at hl 2 rfl) ?_
      refine lv_aload_n hx hb dX5_brought_11 rfl (lv_at hl 0 rfl) ?_
      refine va_get (D := D) (ci := 5) (v := .int (nI h)) (C := RX5) (T := TX5) (N := 19) hx hb hts (by decide +kernel) hown hK.1 hP 0 rfl rfl 12 (by decide) (hts (.fieldLink RX5 73 "TurbineorchardModel" "now" "I") (by decide +kernel)) (fun _ h9 => h9) rfl dX5_brought_12 ?_
      refine lv_icmp_ge (tgt := 34) hx hb dX5_brought_15 (by decide) (fun c_15 => ?_) (fun c_15 => ?_)
      · have e8 : k = h := by have := (nI_leI (a := h) (b := k) (by omega) (by omega)).mp c_15; omega
        refine lv_lload_n hx hb dX5_brought_34 rfl (lv_at hl 1 rfl) ?_
        exact k_endUl hx hb hr hlocks (by rw [hx9, e8]) hP hD hS dX5_brought_35
      · have c_15 : k < h := Nat.lt_of_not_le (fun z9 => c_15 ((nI_leI (a := h) (b := k) (by omega) (by omega)).mpr z9))
        refine lv_lload_n hx hb dX5_brought_18 rfl (lv_at hl 1 rfl) ?_
        refine lv_aload_n hx hb dX5_brought_19 rfl (lv_at hl 0 rfl) ?_
        refine va_get (D := D) (ci := 5) (v := .ref (b 11)) (C := RX5) (T := TX5) (N := 19) hx hb hts (by decide +kernel) hown hK.1 hP 0 rfl rfl 11 (by decide) (hts (.fieldLink RX5 40 "TurbineorchardModel" "money" "[I") (by decide +kernel)) (fun _ h9 => h9) rfl dX5_brought_20 ?_
        refine lv_iload_n hx hb dX5_brought_23 rfl (lv_at hl 2 rfl) ?_
        refine k_iald hx hb hK.1 hP 11 0 rfl rfl k (rfl) (by omega) (by decide) dX5_brought_24 ?_
        refine lv_i2l hx hb dX5_brought_25 rfl ?_
        refine lv_ladd hx hb dX5_brought_26 ?_
        refine lv_lstore_n (lv' := [(1, .long (x + ((mo k).toInt64))), (0, .ref (b 0)), (3, .int (nI k))]) hx hb dX5_brought_27 rfl hl (by decide) rfl (fun ls hl => ?_)
        refine lv_iinc (v := nI (k + 1)) (lv' := [(3, .int (nI (k + 1))), (1, .long (x + ((mo k).toInt64))), (0, .ref (b 0))]) hx hb dX5_brought_28 hl (k := 2) rfl (nI_1 _) (by decide) rfl (fun ls hl => ?_)
        refine lv_goto (tgt := 10) hx hb dX5_brought_31 (by decide) ?_
        exact ih_10 (k + 1) (x + ((mo k).toInt64)) (by omega) (by omega) (by rw [hx9, hmo k c_15]; rfl) _ _ hP hD hS _ (lv_sub hl [2, 1, 0] rfl)
  exact loop_10 (h - 0 + 1) 0 0 (by omega) (by omega) (rfl) _ _ hP hD hS _ (lv_sub hl [2, 1, 0] rfl)

set_option maxHeartbeats 4000000 in
set_option maxRecDepth 100000 in
theorem c_X5_pass (l : Launch) (D : va_G) (b : Nat → Nat) (cI cZ : ClassId) (sz : Nat) (pl : Nat → Int32) (br : Nat → Int32) (md : Nat → Int32) (tn : Nat → Int32) (sp : Nat → Int32) (we : Nat → Int32) (tw : Nat → Int32) (sl : Nat → Int32) (pr : Nat → Int32) (al : Nat → Int32) (mo : Nat → Int32) (cr : Nat → Int32) (tu : Nat → Int32) (le : Nat → Int32) (to : Nat → Int32) (ia : Nat → Int32) (th : Int32) (n : Nat) (h : Nat) (x : Int32) (ta : Nat → Int32) (hn : n ≤ 12) (hh : h < 480) (hpl : ∀ k, k < n → pl k = nI (fP pl k) ∧ fP pl k < 24) (hwe : ∀ k, we k = 0 ∨ we k = 1) (htw : ∀ k, tw k = -1 ∨ 0 ≤ tw k) (hsl : ∀ k, sl k = -1 ∨ 0 ≤ sl k) (hok : hOk n (mkS br md tu le to ia al)) (hta : taOk n pl ta) (hal : ∀ j, h ≤ j → al j = 0) : kUi l yX5_pass wsX5_pass ({ frames := 3, cells := 0, slots := 0, locals := 74 }) [.ref (b 0), .int x] D cI cZ sz (wM b cI cZ pl br md tn (nI n) sp we tw sl pr al mo (nI h) cr tu le to ia th) (wM b cI cZ pl (kIf (cPass h x) (hIt n h ta pl sp we tw cr (mkS br md tu le to ia al) (cl x) 0) br) (kIf (cPass h x) (hIt n h ta pl sp we tw cr (mkS br md tu le to ia al) (cl x) 1) md) (kIf (cPass h x) (hTn n h ta pl sp we tw cr (mkS br md tu le to ia al) tn (cl x)) tn) (nI n) sp we tw sl pr (kIf (cPass h x) (hIt n h ta pl sp we tw cr (mkS br md tu le to ia al) (cl x) 6) al) (kIf (cPass h x) (hMo n h ta pl sp we tw cr sl pr (mkS br md tu le to ia al) mo (cl x)) mo) (kIfi (cPass h x) (nI (h + cl x)) (nI h)) cr (kIf (cPass h x) (hIt n h ta pl sp we tw cr (mkS br md tu le to ia al) (cl x) 2) tu) (kIf (cPass h x) (hIt n h ta pl sp we tw cr (mkS br md tu le to ia al) (cl x) 3) le) (kIf (cPass h x) (hIt n h ta pl sp we tw cr (mkS br md tu le to ia al) (cl x) 4) to) (kIf (cPass h x) (hIt n h ta pl sp we tw cr (mkS br md tu le to ia al) (cl x) 5) ia) (nI (cPass h x))) (fun r => cPass h x = 0 → r = nI (h + cl x)) := by
  refine Met.ofW (cc := cX5_pass) (maxL := 5) (ret := (some .int)) (by decide) rfl ?_
  intro p e s m args below meth c s₁ B hml hv
  obtain ⟨rfl, hsz, hP, hK, hD0⟩ := hv
  have hx := B.exec
  have hb := B.bytes
  have hr := B.returns
  have hts := atoms_spec (ws := wsX5_pass) B.pre
  have hown : s.vm.findClass RX5 = some m.cls := findClass_of_methodNamed B.named
  have hlocks := B.notSynchronized
  subst hsz
  have hD := hD0.self (sz := s.heap.size)
  generalize hAe : va_A (wM b cI cZ pl br md tn (nI n) sp we tw sl pr al mo (nI h) cr tu le to ia th) s.heap.size = A at hD ⊢
  have hA : ∀ q : Nat, s.heap.size ≤ q → A q := fun q h => by rw [← hAe]; exact Or.inr h
  have hS : va_S A s.heap s.heap [] := va_S.rf
  have hl := lv_entry ([.ref (b 0), .int x]) (n := 5) (Nat.le_of_ble_eq_true rfl)
  rw [lg_entry_eq]
  generalize (lg_sl ([.ref (b 0), .int x]) ++ List.replicate (5 - (lg_sl ([.ref (b 0), .int x])).length) Slot.unset).toArray = ls at hl ⊢
  have hl : lv_has ls 5 [(0, .ref (b 0)), (1, .int x)] := hl
  refine lv_aload_n hx hb dX5_pass_0 rfl (lv_at hl 0 rfl) ?_
  refine lv_aload_n hx hb dX5_pass_1 rfl (lv_at hl 0 rfl) ?_
  refine lv_iload_n hx hb dX5_pass_2 rfl (lv_at hl 1 rfl) ?_
  refine lv_iconst (v := 1) hx hb dX5_pass_3 (by decide) ?_
  refine lv_bipush (v := 48) hx hb dX5_pass_4 (by decide) ?_
  refine k_pv (As := [.int x, .int 1, .int 48]) (rest := [.ref (b 0)]) (nL := 5) ⟨hx, hb, hml, hown, hts⟩ (c_X5_in l _ x 1 48) (cwV 3 hts gX5_pass_X5_in rfl rfl rfl (by decide +kernel) ⟨Nat.le_of_ble_eq_true rfl, Nat.le_of_ble_eq_true rfl⟩) (va_recv hK.1 hP (ci := 5) (q0 := 0) rfl rfl) rfl hl.1 rfl (Nat.le_of_ble_eq_true rfl) dX5_pass_6 ⟨Nat.zero_le _, Nat.zero_le _⟩ (fun r9 hr9 => ?_)
  subst hr9
  refine lv_if_ne (tgt := 16) hx hb dX5_pass_9 (by decide) (fun c_9 => ?_) (fun c_9 => ?_)
  · have c_9 := bI_n c_9
    have hq := cl_rng (n := 1) (m := 48) (by decide) (by decide) c_9
    rw [hq.1] at hl
    refine lv_aload_n hx hb dX5_pass_16 rfl (lv_at hl 0 rfl) ?_
    refine va_get (D := D) (ci := 5) (v := .int (nI h)) (C := RX5) (T := TX5) (N := 19) hx hb hts (by decide +kernel) hown hK.1 hP 0 rfl rfl 12 (by decide) (hts (.fieldLink RX5 73 "TurbineorchardModel" "now" "I") (by decide +kernel)) (fun _ h9 => h9) rfl dX5_pass_17 ?_
    refine lv_iload_n hx hb dX5_pass_20 rfl (lv_at hl 1 rfl) ?_
    refine lv_iadd hx hb dX5_pass_21 ?_
    refine k_rw (y := nI (h + cl x)) (nI_add _ _) ?_
    refine lv_sipush (v := 479) hx hb dX5_pass_22 (by decide) ?_
    refine lv_icmp_le (tgt := 32) hx hb dX5_pass_25 (by decide) (fun c_25 => ?_) (fun c_25 => ?_)
    · have c_25 : h + cl x ≤ 479 := (nI_leI (a := h + cl x) (b := 479) (by omega) (by omega)).mp c_25
      refine lv_iconst (v := 0) hx hb dX5_pass_32 (by decide) ?_
      refine k_ui (WR := []) (WN := (wM b cI cZ pl br md tn (nI n) sp we tw sl pr al mo (nI h) cr tu le to ia 0)) (As := [.int 0]) (rest := []) (nL := 5) ⟨hx, hb, hml, hown, hts⟩ hK hP hD hS hA (c_X5_fails l D b cI cZ _ pl br md tn (nI n) sp we tw sl pr al mo (nI h) cr tu le to ia th 0) [0, 1, 2, 3, 4, 5, 6, 7, 8, 9, 10, 11, 12, 13, 14, 15, 16] [] [0, 1, 2, 3, 4, 5, 6, 7, 8, 9, 10, 11, 12, 13, 14, 15, 16] rfl rfl (by decide) rfl (by decide) (by decide) rfl rfl (by decide) 0 rfl rfl rfl (cwV 1 hts gX5_pass_X5_fails rfl rfl rfl (by decide +kernel) ⟨Nat.le_of_ble_eq_true rfl, Nat.le_of_ble_eq_true rfl⟩) rfl hl.1 rfl (Nat.le_of_ble_eq_true rfl) dX5_pass_33 ⟨Nat.zero_le _, Nat.zero_le _⟩ (fun r9 H locs hr9 hP hD hS => ?_)
      subst hr9
      refine lv_if_eq (tgt := 41) hx hb dX5_pass_36 (by decide) (fun c_36 => ?_) (fun c_36 => by first | exact absurd c_36 (by decide) | exact absurd (by decide) c_36)
      refine lv_iconst (v := 0) hx hb dX5_pass_41 (by decide) ?_
      refine lv_istore_n (lv' := [(2, .int 0), (0, .ref (b 0)), (1, .int (nI (cl x)))]) hx hb dX5_pass_42 rfl hl (by decide) rfl (fun ls hl => ?_)
      have loop_43 : ∀ (nn : Nat) (k : Nat), cl x - k < nn → (k ≤ cl x) → ∀ (H : Heap) (locs : List Loc), va_P D vwCl (wM b cI cZ pl (hIt n h ta pl sp we tw cr (mkS br md tu le to ia al) k 0) (hIt n h ta pl sp we tw cr (mkS br md tu le to ia al) k 1) (hTn n h ta pl sp we tw cr (mkS br md tu le to ia al) tn k) (nI n) sp we tw sl pr (hIt n h ta pl sp we tw cr (mkS br md tu le to ia al) k 6) (hMo n h ta pl sp we tw cr sl pr (mkS br md tu le to ia al) mo k) (nI (h + k)) cr (hIt n h ta pl sp we tw cr (mkS br md tu le to ia al) k 2) (hIt n h ta pl sp we tw cr (mkS br md tu le to ia al) k 3) (hIt n h ta pl sp we tw cr (mkS br md tu le to ia al) k 4) (hIt n h ta pl sp we tw cr (mkS br md tu le to ia al) k 5) 0) H → va_D A (wM b cI cZ pl (hIt n h ta pl sp we tw cr (mkS br md tu le to ia al) k 0) (hIt n h ta pl sp we tw cr (mkS br md tu le to ia al) k 1) (hTn n h ta pl sp we tw cr (mkS br md tu le to ia al) tn k) (nI n) sp we tw sl pr (hIt n h ta pl sp we tw cr (mkS br md tu le to ia al) k 6) (hMo n h ta pl sp we tw cr sl pr (mkS br md tu le to ia al) mo k) (nI (h + k)) cr (hIt n h ta pl sp we tw cr (mkS br md tu le to ia al) k 2) (hIt n h ta pl sp we tw cr (mkS br md tu le to ia al) k 3) (hIt n h ta pl sp we tw cr (mkS br md tu le to ia al) k 4) (hIt n h ta pl sp we tw cr (mkS br md tu le to ia al) k 5) 0) → va_S A s.heap H locs → ∀ (ls : Array Slot), lv_has ls 5 [(0, .ref (b 0)), (1, .int (nI (cl x))), (2, .int (nI k))] → W p l e (headSpec wsX5_pass ({ frames := 3, cells := 0, slots := 0, locals := 74 })).room s m ([.ref (b 0), .int x] : List Value).toArray below meth c H locs 0 0 (MQ below (va_Qi (fun (r : Int32) (_ : Unit) => (fun r => cPass h x = 0 → r = nI (h + cl x)) r) (fun _ t9 => kAt D A (wM b cI cZ pl (kIf (cPass h x) (hIt n h ta pl sp we tw cr (mkS br md tu le to ia al) (cl x) 0) br) (kIf (cPass h x) (hIt n h ta pl sp we tw cr (mkS br md tu le to ia al) (cl x) 1) md) (kIf (cPass h x) (hTn n h ta pl sp we tw cr (mkS br md tu le to ia al) tn (cl x)) tn) (nI n) sp we tw sl pr (kIf (cPass h x) (hIt n h ta pl sp we tw cr (mkS br md tu le to ia al) (cl x) 6) al) (kIf (cPass h x) (hMo n h ta pl sp we tw cr sl pr (mkS br md tu le to ia al) mo (cl x)) mo) (kIfi (cPass h x) (nI (h + cl x)) (nI h)) cr (kIf (cPass h x) (hIt n h ta pl sp we tw cr (mkS br md tu le to ia al) (cl x) 2) tu) (kIf (cPass h x) (hIt n h ta pl sp we tw cr (mkS br md tu le to ia al) (cl x) 3) le) (kIf (cPass h x) (hIt n h ta pl sp we tw cr (mkS br md tu le to ia al) (cl x) 4) to) (kIf (cPass h x) (hIt n h ta pl sp we tw cr (mkS br md tu le to ia al) (cl x) 5) ia) (nI (cPass h x))) t9) A) ([.ref (b 0), .int x] : List Value).toArray s 0 0 A) (F0 m 43 ls []) := by
        intro nn
        induction nn with
        | zero => intro k hm; exact absurd hm (by omega)
        | succ nn ih_43 =>
          intro k hm hk H locs hP hD hS ls hl
          refine lv_iload_n hx hb dX5_pass_43 rfl (lv_at hl 2 rfl) ?_
          refine lv_iload_n hx hb dX5_pass_44 rfl (lv_at hl 1 rfl) ?_
          refine lv_icmp_ge (tgt := 175) hx hb dX5_pass_45 (by decide) (fun c_45 => ?_) (fun c_45 => ?_)
          · have e8 : k = cl x := by have := (nI_leI (a := cl x) (b := k) (by omega) (by omega)).mp c_45; omega
            rw [e8] at hP hD
            refine lv_aload_n hx hb dX5_pass_175 rfl (lv_at hl 0 rfl) ?_
            refine va_get (D := D) (ci := 5) (v := .int (nI (h + (cl x)))) (C := RX5) (T := TX5) (N := 19) hx hb hts (by decide +kernel) hown hK.1 hP 0 rfl rfl 12 (by decide) (hts (.fieldLink RX5 73 "TurbineorchardModel" "now" "I") (by decide +kernel)) (fun _ h9 => h9) rfl dX5_pass_176 ?_
            have e9 : (kIfi (cPass h x) (nI (h + cl x)) (nI h)) = (nI (h + (cl x))) := kIfi_0 (by unfold cPass; rw [if_pos c_9, if_pos c_25])
            have hP : va_P D vwCl (wM b cI cZ pl (hIt n h ta pl sp we tw cr (mkS br md tu le to ia al) (cl x) 0) (hIt n h ta pl sp we tw cr (mkS br md tu le to ia al) (cl x) 1) (hTn n h ta pl sp we tw cr (mkS br md tu le to ia al) tn (cl x)) (nI n) sp we tw sl pr (hIt n h ta pl sp we tw cr (mkS br md tu le to ia al) (cl x) 6) (hMo n h ta pl sp we tw cr sl pr (mkS br md tu le to ia al) mo (cl x)) (kIfi (cPass h x) (nI (h + cl x)) (nI h)) cr (hIt n h ta pl sp we tw cr (mkS br md tu le to ia al) (cl x) 2) (hIt n h ta pl sp we tw cr (mkS br md tu le to ia al) (cl x) 3) (hIt n h ta pl sp we tw cr (mkS br md tu le to ia al) (cl x) 4) (hIt n h ta pl sp we tw cr (mkS br md tu le to ia al) (cl x) 5) 0) H := by rw [e9]; exact hP
            have hD : va_D A (wM b cI cZ pl (hIt n h ta pl sp we tw cr (mkS br md tu le to ia al) (cl x) 0) (hIt n h ta pl sp we tw cr (mkS br md tu le to ia al) (cl x) 1) (hTn n h ta pl sp we tw cr (mkS br md tu le to ia al) tn (cl x)) (nI n) sp we tw sl pr (hIt n h ta pl sp we tw cr (mkS br md tu le to ia al) (cl x) 6) (hMo n h ta pl sp we tw cr sl pr (mkS br md tu le to ia al) mo (cl x)) (kIfi (cPass h x) (nI (h + cl x)) (nI h)) cr (hIt n h ta pl sp we tw cr (mkS br md tu le to ia al) (cl x) 2) (hIt n h ta pl sp we tw cr (mkS br md tu le to ia al) (cl x) 3) (hIt n h ta pl sp we tw cr (mkS br md tu le to ia al) (cl x) 4) (hIt n h ta pl sp we tw cr (mkS br md tu le to ia al) (cl x) 5) 0) := by rw [e9]; exact hD
            clear e9
            have e9 : (kIf (cPass h x) (hTn n h ta pl sp we tw cr (mkS br md tu le to ia al) tn (cl x)) tn) = (hTn n h ta pl sp we tw cr (mkS br md tu le to ia al) tn (cl x)) := kIf_0 (by unfold cPass; rw [if_pos c_9, if_pos c_25])
            have hP : va_P D vwCl (wM b cI cZ pl (hIt n h ta pl sp we tw cr (mkS br md tu le to ia al) (cl x) 0) (hIt n h ta pl sp we tw cr (mkS br md tu le to ia al) (cl x) 1) (kIf (cPass h x) (hTn n h ta pl sp we tw cr (mkS br md tu le to ia al) tn (cl x)) tn) (nI n) sp we tw sl pr (hIt n h ta pl sp we tw cr (mkS br md tu le to ia al) (cl x) 6) (hMo n h ta pl sp we tw cr sl pr (mkS br md tu le to ia al) mo (cl x)) (kIfi (cPass h x) (nI (h + cl x)) (nI h)) cr (hIt n h ta pl sp we tw cr (mkS br md tu le to ia al) (cl x) 2) (hIt n h ta pl sp we tw cr (mkS br md tu le to ia al) (cl x) 3) (hIt n h ta pl sp we tw cr (mkS br md tu le to ia al) (cl x) 4) (hIt n h ta pl sp we tw cr (mkS br md tu le to ia al) (cl x) 5) 0) H := by rw [e9]; exact hP
            have hD : va_D A (wM b cI cZ pl (hIt n h ta pl sp we tw cr (mkS br md tu le to ia al) (cl x) 0) (hIt n h ta pl sp we tw cr (mkS br md tu le to ia al) (cl x) 1) (kIf (cPass h x) (hTn n h ta pl sp we tw cr (mkS br md tu le to ia al) tn (cl x)) tn) (nI n) sp we tw sl pr (hIt n h ta pl sp we tw cr (mkS br md tu le to ia al) (cl x) 6) (hMo n h ta pl sp we tw cr sl pr (mkS br md tu le to ia al) mo (cl x)) (kIfi (cPass h x) (nI (h + cl x)) (nI h)) cr (hIt n h ta pl sp we tw cr (mkS br md tu le to ia al) (cl x) 2) (hIt n h ta pl sp we tw cr (mkS br md tu le to ia al) (cl x) 3) (hIt n h ta pl sp we tw cr (mkS br md tu le to ia al) (cl x) 4) (hIt n h ta pl sp we tw cr (mkS br md tu le to ia al) (cl x) 5) 0) := by rw [e9]; exact hD
            clear e9
            have e9 : (kIf (cPass h x) (hMo n h ta pl sp we tw cr sl pr (mkS br md tu le to ia al) mo (cl x)) mo) = (hMo n h ta pl sp we tw cr sl pr (mkS br md tu le to ia al) mo (cl x)) := kIf_0 (by unfold cPass; rw [if_pos c_9, if_pos c_25])
            have hP : va_P D vwCl (wM b cI cZ pl (hIt n h ta pl sp we tw cr (mkS br md tu le to ia al) (cl x) 0) (hIt n h ta pl sp we tw cr (mkS br md tu le to ia al) (cl x) 1) (kIf (cPass h x) (hTn n h ta pl sp we tw cr (mkS br md tu le to ia al) tn (cl x)) tn) (nI n) sp we tw sl pr (hIt n h ta pl sp we tw cr (mkS br md tu le to ia al) (cl x) 6) (kIf (cPass h x) (hMo n h ta pl sp we tw cr sl pr (mkS br md tu le to ia al) mo (cl x)) mo) (kIfi (cPass h x) (nI (h + cl x)) (nI h)) cr (hIt n h ta pl sp we tw cr (mkS br md tu le to ia al) (cl x) 2) (hIt n h ta pl sp we tw cr (mkS br md tu le to ia al) (cl x) 3) (hIt n h ta pl sp we tw cr (mkS br md tu le to ia al) (cl x) 4) (hIt n h ta pl sp we tw cr (mkS br md tu le to ia al) (cl x) 5) 0) H := by rw [e9]; exact hP
            have hD : va_D A (wM b cI cZ pl (hIt n h ta pl sp we tw cr (mkS br md tu le to ia al) (cl x) 0) (hIt n h ta pl sp we tw cr (mkS br md tu le to ia al) (cl x) 1) (kIf (cPass h x) (hTn n h ta pl sp we tw cr (mkS br md tu le to ia al) tn (cl x)) tn) (nI n) sp we tw sl pr (hIt n h ta pl sp we tw cr (mkS br md tu le to ia al) (cl x) 6) (kIf (cPass h x) (hMo n h ta pl sp we tw cr sl pr (mkS br md tu le to ia al) mo (cl x)) mo) (kIfi (cPass h x) (nI (h + cl x)) (nI h)) cr (hIt n h ta pl sp we tw cr (mkS br md tu le to ia al) (cl x) 2) (hIt n h ta pl sp we tw cr (mkS br md tu le to ia al) (cl x) 3) (hIt n h ta pl sp we tw cr (mkS br md tu le to ia al) (cl x) 4) (hIt n h ta pl sp we tw cr (mkS br md tu le to ia al) (cl x) 5) 0) := by rw [e9]; exact hD
            clear e9
            have e9 : (kIf (cPass h x) (hIt n h ta pl sp we tw cr (mkS br md tu le to ia al) (cl x) 1) md) = (hIt n h ta pl sp we tw cr (mkS br md tu le to ia al) (cl x) 1) := kIf_0 (by unfold cPass; rw [if_pos c_9, if_pos c_25])
            have hP : va_P D vwCl (wM b cI cZ pl (hIt n h ta pl sp we tw cr (mkS br md tu le to ia al) (cl x) 0) (kIf (cPass h x) (hIt n h ta pl sp we tw cr (mkS br md tu le to ia al) (cl x) 1) md) (kIf (cPass h x) (hTn n h ta pl sp we tw cr (mkS br md tu le to ia al) tn (cl x)) tn) (nI n) sp we tw sl pr (hIt n h ta pl sp we tw cr (mkS br md tu le to ia al) (cl x) 6) (kIf (cPass h x) (hMo n h ta pl sp we tw cr sl pr (mkS br md tu le to ia al) mo (cl x)) mo) (kIfi (cPass h x) (nI (h + cl x)) (nI h)) cr (hIt n h ta pl sp we tw cr (mkS br md tu le to ia al) (cl x) 2) (hIt n h ta pl sp we tw cr (mkS br md tu le to ia al) (cl x) 3) (hIt n h ta pl sp we tw cr (mkS br md tu le to ia al) (cl x) 4) (hIt n h ta pl sp we tw cr (mkS br md tu le to ia al) (cl x) 5) 0) H := by rw [e9]; exact hP
            have hD : va_D A (wM b cI cZ pl (hIt n h ta pl sp we tw cr (mkS br md tu le to ia al) (cl x) 0) (kIf (cPass h x) (hIt n h ta pl sp we tw cr (mkS br md tu le to ia al) (cl x) 1) md) (kIf (cPass h x) (hTn n h ta pl sp we tw cr (mkS br md tu le to ia al) tn (cl x)) tn) (nI n) sp we tw sl pr (hIt n h ta pl sp we tw cr (mkS br md tu le to ia al) (cl x) 6) (kIf (cPass h x) (hMo n h ta pl sp we tw cr sl pr (mkS br md tu le to ia al) mo (cl x)) mo) (kIfi (cPass h x) (nI (h + cl x)) (nI h)) cr (hIt n h ta pl sp we tw cr (mkS br md tu le to ia al) (cl x) 2) (hIt n h ta pl sp we tw cr (mkS br md tu le to ia al) (cl x) 3) (hIt n h ta pl sp we tw cr (mkS br md tu le to ia al) (cl x) 4) (hIt n h ta pl sp we tw cr (mkS br md tu le to ia al) (cl x) 5) 0) := by rw [e9]; exact hD
            clear e9
            have e9 : (kIf (cPass h x) (hIt n h ta pl sp we tw cr (mkS br md tu le to ia al) (cl x) 6) al) = (hIt n h ta pl sp we tw cr (mkS br md tu le to ia al) (cl x) 6) := kIf_0 (by unfold cPass; rw [if_pos c_9, if_pos c_25])
            have hP : va_P D vwCl (wM b cI cZ pl (hIt n h ta pl sp we tw cr (mkS br md tu le to ia al) (cl x) 0) (kIf (cPass h x) (hIt n h ta pl sp we tw cr (mkS br md tu le to ia al) (cl x) 1) md) (kIf (cPass h x) (hTn n h ta pl sp we tw cr (mkS br md tu le to ia al) tn (cl x)) tn) (nI n) sp we tw sl pr (kIf (cPass h x) (hIt n h ta pl sp we tw cr (mkS br md tu le to ia al) (cl x) 6) al) (kIf (cPass h x) (hMo n h ta pl sp we tw cr sl pr (mkS br md tu le to ia al) mo (cl x)) mo) (kIfi (cPass h x) (nI (h + cl x)) (nI h)) cr (hIt n h ta pl sp we tw cr (mkS br md tu le to ia al) (cl x) 2) (hIt n h ta pl sp we tw cr (mkS br md tu le to ia al) (cl x) 3) (hIt n h ta pl sp we tw cr (mkS br md tu le to ia al) (cl x) 4) (hIt n h ta pl sp we tw cr (mkS br md tu le to ia al) (cl x) 5) 0) H := by rw [e9]; exact hP
            have hD : va_D A (wM b cI cZ pl (hIt n h ta pl sp we tw cr (mkS br md tu le to ia al) (cl x) 0) (kIf (cPass h x) (hIt n h ta pl sp we tw cr (mkS br md tu le to ia al) (cl x) 1) md) (kIf (cPass h x) (hTn n h ta pl sp we tw cr (mkS br md tu le to ia al) tn (cl x)) tn) (nI n) sp we tw sl pr (kIf (cPass h x) (hIt n h ta pl sp we tw cr (mkS br md tu le to ia al) (cl x) 6) al) (kIf (cPass h x) (hMo n h ta pl sp we tw cr sl pr (mkS br md tu le to ia al) mo (cl x)) mo) (kIfi (cPass h x) (nI (h + cl x)) (nI h)) cr (hIt n h ta pl sp we tw cr (mkS br md tu le to ia al) (cl x) 2) (hIt n h ta pl sp we tw cr (mkS br md tu le to ia al) (cl x) 3) (hIt n h ta pl sp we tw cr (mkS br md tu le to ia al) (cl x) 4) (hIt n h ta pl sp we tw cr (mkS br md tu le to ia al) (cl x) 5) 0) := by rw [e9]; exact hD
            clear e9
            have e9 : (kIf (cPass h x) (hIt n h ta pl sp we tw cr (mkS br md tu le to ia al) (cl x) 5) ia) = (hIt n h ta pl sp we tw cr (mkS br md tu le to ia al) (cl x) 5) := kIf_0 (by unfold cPass; rw [if_pos c_9, if_pos c_25])
            have hP : va_P D vwCl (wM b cI cZ pl (hIt n h ta pl sp we tw cr (mkS br md tu le to ia al) (cl x) 0) (kIf (cPass h x) (hIt n h ta pl sp we tw cr (mkS br md tu le to ia al) (cl x) 1) md) (kIf (cPass h x) (hTn n h ta pl sp we tw cr (mkS br md tu le to ia al) tn (cl x)) tn) (nI n) sp we tw sl pr (kIf (cPass h x) (hIt n h ta pl sp we tw cr (mkS br md tu le to ia al) (cl x) 6) al) (kIf (cPass h x) (hMo n h ta pl sp we tw cr sl pr (mkS br md tu le to ia al) mo (cl x)) mo) (kIfi (cPass h x) (nI (h + cl x)) (nI h)) cr (hIt n h ta pl sp we tw cr (mkS br md tu le to ia al) (cl x) 2) (hIt n h ta pl sp we tw cr (mkS br md tu le to ia al) (cl x) 3) (hIt n h ta pl sp we tw cr (mkS br md tu le to ia al) (cl x) 4) (kIf (cPass h x) (hIt n h ta pl sp we tw cr (mkS br md tu le to ia al) (cl x) 5) ia) 0) H := by rw [e9]; exact hP
            have hD : va_D A (wM b cI cZ pl (hIt n h ta pl sp we tw cr (mkS br md tu le to ia al) (cl x) 0) (kIf (cPass h x) (hIt n h ta pl sp we tw cr (mkS br md tu le to ia al) (cl x) 1) md) (kIf (cPass h x) (hTn n h ta pl sp we tw cr (mkS br md tu le to ia al) tn (cl x)) tn) (nI n) sp we tw sl pr (kIf (cPass h x) (hIt n h ta pl sp we tw cr (mkS br md tu le to ia al) (cl x) 6) al) (kIf (cPass h x) (hMo n h ta pl sp we tw cr sl pr (mkS br md tu le to ia al) mo (cl x)) mo) (kIfi (cPass h x) (nI (h + cl x)) (nI h)) cr (hIt n h ta pl sp we tw cr (mkS br md tu le to ia al) (cl x) 2) (hIt n h ta pl sp we tw cr (mkS br md tu le to ia al) (cl x) 3) (hIt n h ta pl sp we tw cr (mkS br md tu le to ia al) (cl x) 4) (kIf (cPass h x) (hIt n h ta pl sp we tw cr (mkS br md tu le to ia al) (cl x) 5) ia) 0) := by rw [e9]; exact hD
            clear e9
            have e9 : (kIf (cPass h x) (hIt n h ta pl sp we tw cr (mkS br md tu le to ia al) (cl x) 4) to) = (hIt n h ta pl sp we tw cr (mkS br md tu le to ia al) (cl x) 4) := kIf_0 (by unfold cPass; rw [if_pos c_9, if_pos c_25])
            have hP : va_P D vwCl (wM b cI cZ pl (hIt n h ta pl sp we tw cr (mkS br md tu le to ia al) (cl x) 0) (kIf (cPass h x) (hIt n h ta pl sp we tw cr (mkS br md tu le to ia al) (cl x) 1) md) (kIf (cPass h x) (hTn n h ta pl sp we tw cr (mkS br md tu le to ia al) tn (cl x)) tn) (nI n) sp we tw sl pr (kIf (cPass h x) (hIt n h ta pl sp we tw cr (mkS br md tu le to ia al) (cl x) 6) al) (kIf (cPass h x) (hMo n h ta pl sp we tw cr sl pr (mkS br md tu le to ia al) mo (cl x)) mo) (kIfi (cPass h x) (nI (h + cl x)) (nI h)) cr (hIt n h ta pl sp we tw cr (mkS br md tu le to ia al) (cl x) 2) (hIt n h ta pl sp we tw cr (mkS br md tu le to ia al) (cl x) 3) (kIf (cPass h x) (hIt n h ta pl sp we tw cr (mkS br md tu le to ia al) (cl x) 4) to) (kIf (cPass h x) (hIt n h ta pl sp we tw cr (mkS br md tu le to ia al) (cl x) 5) ia) 0) H := by rw [e9]; exact hP
            have hD : va_D A (wM b cI cZ pl (hIt n h ta pl sp we tw cr (mkS br md tu le to ia al) (cl x) 0) (kIf (cPass h x) (hIt n h ta pl sp we tw cr (mkS br md tu le to ia al) (cl x) 1) md) (kIf (cPass h x) (hTn n h ta pl sp we tw cr (mkS br md tu le to ia al) tn (cl x)) tn) (nI n) sp we tw sl pr (kIf (cPass h x) (hIt n h ta pl sp we tw cr (mkS br md tu le to ia al) (cl x) 6) al) (kIf (cPass h x) (hMo n h ta pl sp we tw cr sl pr (mkS br md tu le to ia al) mo (cl x)) mo) (kIfi (cPass h x) (nI (h + cl x)) (nI h)) cr (hIt n h ta pl sp we tw cr (mkS br md tu le to ia al) (cl x) 2) (hIt n h ta pl sp we tw cr (mkS br md tu le to ia al) (cl x) 3) (kIf (cPass h x) (hIt n h ta pl sp we tw cr (mkS br md tu le to ia al) (cl x) 4) to) (kIf (cPass h x) (hIt n h ta pl sp we tw cr (mkS br md tu le to ia al) (cl x) 5) ia) 0) := by rw [e9]; exact hD
            clear e9
            have e9 : (kIf (cPass h x) (hIt n h ta pl sp we tw cr (mkS br md tu le to ia al) (cl x) 3) le) = (hIt n h ta pl sp we tw cr (mkS br md tu le to ia al) (cl x) 3) := kIf_0 (by unfold cPass; rw [if_pos c_9, if_pos c_25])
            have hP : va_P D vwCl (wM b cI cZ pl (hIt n h ta pl sp we tw cr (mkS br md tu le to ia al) (cl x) 0) (kIf (cPass h x) (hIt n h ta pl sp we tw cr (mkS br md tu le to ia al) (cl x) 1) md) (kIf (cPass h x) (hTn n h ta pl sp we tw cr (mkS br md tu le to ia al) tn (cl x)) tn) (nI n) sp we tw sl pr (kIf (cPass h x) (hIt n h ta pl sp we tw cr (mkS br md tu le to ia al) (cl x) 6) al) (kIf (cPass h x) (hMo n h ta pl sp we tw cr sl pr (mkS br md tu le to ia al) mo (cl x)) mo) (kIfi (cPass h x) (nI (h + cl x)) (nI h)) cr (hIt n h ta pl sp we tw cr (mkS br md tu le to ia al) (cl x) 2) (kIf (cPass h x) (hIt n h ta pl sp we tw cr (mkS br md tu le to ia al) (cl x) 3) le) (kIf (cPass h x) (hIt n h ta pl sp we tw cr (mkS br md tu le to ia al) (cl x) 4) to) (kIf (cPass h x) (hIt n h ta pl sp we tw cr (mkS br md tu le to ia al) (cl x) 5) ia) 0) H := by rw [e9]; exact hP
            have hD : va_D A (wM b cI cZ pl (hIt n h ta pl sp we tw cr (mkS br md tu le to ia al) (cl x) 0) (kIf (cPass h x) (hIt n h ta pl sp we tw cr (mkS br md tu le to ia al) (cl x) 1) md) (kIf (cPass h x) (hTn n h ta pl sp we tw cr (mkS br md tu le to ia al) tn (cl x)) tn) (nI n) sp we tw sl pr (kIf (cPass h x) (hIt n h ta pl sp we tw cr (mkS br md tu le to ia al) (cl x) 6) al) (kIf (cPass h x) (hMo n h ta pl sp we tw cr sl pr (mkS br md tu le to ia al) mo (cl x)) mo) (kIfi (cPass h x) (nI (h + cl x)) (nI h)) cr (hIt n h ta pl sp we tw cr (mkS br md tu le to ia al) (cl x) 2) (kIf (cPass h x) (hIt n h ta pl sp we tw cr (mkS br md tu le to ia al) (cl x) 3) le) (kIf (cPass h x) (hIt n h ta pl sp we tw cr (mkS br md tu le to ia al) (cl x) 4) to) (kIf (cPass h x) (hIt n h ta pl sp we tw cr (mkS br md tu le to ia al) (cl x) 5) ia) 0) := by rw [e9]; exact hD
            clear e9
            have e9 : (kIf (cPass h x) (hIt n h ta pl sp we tw cr (mkS br md tu le to ia al) (cl x) 2) tu) = (hIt n h ta pl sp we tw cr (mkS br md tu le to ia al) (cl x) 2) := kIf_0 (by unfold cPass; rw [if_pos c_9, if_pos c_25])
            have hP : va_P D vwCl (wM b cI cZ pl (hIt n h ta pl sp we tw cr (mkS br md tu le to ia al) (cl x) 0) (kIf (cPass h x) (hIt n h ta pl sp we tw cr (mkS br md tu le to ia al) (cl x) 1) md) (kIf (cPass h x) (hTn n h ta pl sp we tw cr (mkS br md tu le to ia al) tn (cl x)) tn) (nI n) sp we tw sl pr (kIf (cPass h x) (hIt n h ta pl sp we tw cr (mkS br md tu le to ia al) (cl x) 6) al) (kIf (cPass h x) (hMo n h ta pl sp we tw cr sl pr (mkS br md tu le to ia al) mo (cl x)) mo) (kIfi (cPass h x) (nI (h + cl x)) (nI h)) cr (kIf (cPass h x) (hIt n h ta pl sp we tw cr (mkS br md tu le to ia al) (cl x) 2) tu) (kIf (cPass h x) (hIt n h ta pl sp we tw cr (mkS br md tu le to ia al) (cl x) 3) le) (kIf (cPass h x) (hIt n h ta pl sp we tw cr (mkS br md tu le to ia al) (cl x) 4) to) (kIf (cPass h x) (hIt n h ta pl sp we tw cr (mkS br md tu le to ia al) (cl x) 5) ia) 0) H := by rw [e9]; exact hP
            have hD : va_D A (wM b cI cZ pl (hIt n h ta pl sp we tw cr (mkS br md tu le to ia al) (cl x) 0) (kIf (cPass h x) (hIt n h ta pl sp we tw cr (mkS br md tu le to ia al) (cl x) 1) md) (kIf (cPass h x) (hTn n h ta pl sp we tw cr (mkS br md tu le to ia al) tn (cl x)) tn) (nI n) sp we tw sl pr (kIf (cPass h x) (hIt n h ta pl sp we tw cr (mkS br md tu le to ia al) (cl x) 6) al) (kIf (cPass h x) (hMo n h ta pl sp we tw cr sl pr (mkS br md tu le to ia al) mo (cl x)) mo) (kIfi (cPass h x) (nI (h + cl x)) (nI h)) cr (kIf (cPass h x) (hIt n h ta pl sp we tw cr (mkS br md tu le to ia al) (cl x) 2) tu) (kIf (cPass h x) (hIt n h ta pl sp we tw cr (mkS br md tu le to ia al) (cl x) 3) le) (kIf (cPass h x) (hIt n h ta pl sp we tw cr (mkS br md tu le to ia al) (cl x) 4) to) (kIf (cPass h x) (hIt n h ta pl sp we tw cr (mkS br md tu le to ia al) (cl x) 5) ia) 0) := by rw [e9]; exact hD
            clear e9
            have e9 : (kIf (cPass h x) (hIt n h ta pl sp we tw cr (mkS br md tu le to ia al) (cl x) 0) br) = (hIt n h ta pl sp we tw cr (mkS br md tu le to ia al) (cl x) 0) := kIf_0 (by unfold cPass; rw [if_pos c_9, if_pos c_25])
            have hP : va_P D vwCl (wM b cI cZ pl (kIf (cPass h x) (hIt n h ta pl sp we tw cr (mkS br md tu le to ia al) (cl x) 0) br) (kIf (cPass h x) (hIt n h ta pl sp we tw cr (mkS br md tu le to ia al) (cl x) 1) md) (kIf (cPass h x) (hTn n h ta pl sp we tw cr (mkS br md tu le to ia al) tn (cl x)) tn) (nI n) sp we tw sl pr (kIf (cPass h x) (hIt n h ta pl sp we tw cr (mkS br md tu le to ia al) (cl x) 6) al) (kIf (cPass h x) (hMo n h ta pl sp we tw cr sl pr (mkS br md tu le to ia al) mo (cl x)) mo) (kIfi (cPass h x) (nI (h + cl x)) (nI h)) cr (kIf (cPass h x) (hIt n h ta pl sp we tw cr (mkS br md tu le to ia al) (cl x) 2) tu) (kIf (cPass h x) (hIt n h ta pl sp we tw cr (mkS br md tu le to ia al) (cl x) 3) le) (kIf (cPass h x) (hIt n h ta pl sp we tw cr (mkS br md tu le to ia al) (cl x) 4) to) (kIf (cPass h x) (hIt n h ta pl sp we tw cr (mkS br md tu le to ia al) (cl x) 5) ia) 0) H := by rw [e9]; exact hP
            have hD : va_D A (wM b cI cZ pl (kIf (cPass h x) (hIt n h ta pl sp we tw cr (mkS br md tu le to ia al) (cl x) 0) br) (kIf (cPass h x) (hIt n h ta pl sp we tw cr (mkS br md tu le to ia al) (cl x) 1) md) (kIf (cPass h x) (hTn n h ta pl sp we tw cr (mkS br md tu le to ia al) tn (cl x)) tn) (nI n) sp we tw sl pr (kIf (cPass h x) (hIt n h ta pl sp we tw cr (mkS br md tu le to ia al) (cl x) 6) al) (kIf (cPass h x) (hMo n h ta pl sp we tw cr sl pr (mkS br md tu le to ia al) mo (cl x)) mo) (kIfi (cPass h x) (nI (h + cl x)) (nI h)) cr (kIf (cPass h x) (hIt n h ta pl sp we tw cr (mkS br md tu le to ia al) (cl x) 2) tu) (kIf (cPass h x) (hIt n h ta pl sp we tw cr (mkS br md tu le to ia al) (cl x) 3) le) (kIf (cPass h x) (hIt n h ta pl sp we tw cr (mkS br md tu le to ia al) (cl x) 4) to) (kIf (cPass h x) (hIt n h ta pl sp we tw cr (mkS br md tu le to ia al) (cl x) 5) ia) 0) := by rw [e9]; exact hD
            clear e9
            have e9 : (nI (cPass h x)) = 0 := by rw [show cPass h x = 0 from by unfold cPass; rw [if_pos c_9, if_pos c_25]]; rfl
            have hP : va_P D vwCl (wM b cI cZ pl (kIf (cPass h x) (hIt n h ta pl sp we tw cr (mkS br md tu le to ia al) (cl x) 0) br) (kIf (cPass h x) (hIt n h ta pl sp we tw cr (mkS br md tu le to ia al) (cl x) 1) md) (kIf (cPass h x) (hTn n h ta pl sp we tw cr (mkS br md tu le to ia al) tn (cl x)) tn) (nI n) sp we tw sl pr (kIf (cPass h x) (hIt n h ta pl sp we tw cr (mkS br md tu le to ia al) (cl x) 6) al) (kIf (cPass h x) (hMo n h ta pl sp we tw cr sl pr (mkS br md tu le to ia al) mo (cl x)) mo) (kIfi (cPass h x) (nI (h + cl x)) (nI h)) cr (kIf (cPass h x) (hIt n h ta pl sp we tw cr (mkS br md tu le to ia al) (cl x) 2) tu) (kIf (cPass h x) (hIt n h ta pl sp we tw cr (mkS br md tu le to ia al) (cl x) 3) le) (kIf (cPass h x) (hIt n h ta pl sp we tw cr (mkS br md tu le to ia al) (cl x) 4) to) (kIf (cPass h x) (hIt n h ta pl sp we tw cr (mkS br md tu le to ia al) (cl x) 5) ia) (nI (cPass h x))) H := by rw [e9]; exact hP
            have hD : va_D A (wM b cI cZ pl (kIf (cPass h x) (hIt n h ta pl sp we tw cr (mkS br md tu le to ia al) (cl x) 0) br) (kIf (cPass h x) (hIt n h ta pl sp we tw cr (mkS br md tu le to ia al) (cl x) 1) md) (kIf (cPass h x) (hTn n h ta pl sp we tw cr (mkS br md tu le to ia al) tn (cl x)) tn) (nI n) sp we tw sl pr (kIf (cPass h x) (hIt n h ta pl sp we tw cr (mkS br md tu le to ia al) (cl x) 6) al) (kIf (cPass h x) (hMo n h ta pl sp we tw cr sl pr (mkS br md tu le to ia al) mo (cl x)) mo) (kIfi (cPass h x) (nI (h + cl x)) (nI h)) cr (kIf (cPass h x) (hIt n h ta pl sp we tw cr (mkS br md tu le to ia al) (cl x) 2) tu) (kIf (cPass h x) (hIt n h ta pl sp we tw cr (mkS br md tu le to ia al) (cl x) 3) le) (kIf (cPass h x) (hIt n h ta pl sp we tw cr (mkS br md tu le to ia al) (cl x) 4) to) (kIf (cPass h x) (hIt n h ta pl sp we tw cr (mkS br md tu le to ia al) (cl x) 5) ia) (nI (cPass h x))) := by rw [e9]; exact hD
            clear e9
            exact k_endI (ty := .int) hx hb hr hlocks (rfl) (fun _ => rfl) hP hD hS dX5_pass_179
          · have c_45 : k < cl x := Nat.lt_of_not_le (fun z9 => c_45 ((nI_leI (a := cl x) (b := k) (by omega) (by omega)).mpr z9))
            have htu9 := (hOk.it (h := h) (ta := ta) (pl := pl) (sp := sp) (we := we) (tw := tw) (cr := cr) hn hok k).htu
            refine lv_aload_n hx hb dX5_pass_48 rfl (lv_at hl 0 rfl) ?_
            refine lv_aload_n hx hb dX5_pass_49 rfl (lv_at hl 0 rfl) ?_
            refine va_get (D := D) (ci := 5) (v := .int (nI (h + k))) (C := RX5) (T := TX5) (N := 19) hx hb hts (by decide +kernel) hown hK.1 hP 0 rfl rfl 12 (by decide) (hts (.fieldLink RX5 73 "TurbineorchardModel" "now" "I") (by decide +kernel)) (fun _ h9 => h9) rfl dX5_pass_50 ?_
            refine k_uv (WR := []) (WN := (wM b cI cZ pl (hIt n h ta pl sp we tw cr (mkS br md tu le to ia al) k 0) (hIt n h ta pl sp we tw cr (mkS br md tu le to ia al) k 1) (fTnW n pl (hIt n h ta pl sp we tw cr (mkS br md tu le to ia al) k 2) (fTnAll n (hIt n h ta pl sp we tw cr (mkS br md tu le to ia al) k 0) (hTn n h ta pl sp we tw cr (mkS br md tu le to ia al) tn k) n) (fWk (fWaves sp tw (h + k)) (hIt n h ta pl sp we tw cr (mkS br md tu le to ia al) k 2) cr (hIt n h ta pl sp we tw cr (mkS br md tu le to ia al) k 4)) 3) (nI n) sp we tw sl pr (hIt n h ta pl sp we tw cr (mkS br md tu le to ia al) k 6) (hMo n h ta pl sp we tw cr sl pr (mkS br md tu le to ia al) mo k) (nI (h + k)) cr (hIt n h ta pl sp we tw cr (mkS br md tu le to ia al) k 2) (fDec (hIt n h ta pl sp we tw cr (mkS br md tu le to ia al) k 3) (fWk (fWaves sp tw (h + k)) (hIt n h ta pl sp we tw cr (mkS br md tu le to ia al) k 2) cr (hIt n h ta pl sp we tw cr (mkS br md tu le to ia al) k 4)) 3) (fInc (hIt n h ta pl sp we tw cr (mkS br md tu le to ia al) k 4) (fWk (fWaves sp tw (h + k)) (hIt n h ta pl sp we tw cr (mkS br md tu le to ia al) k 2) cr (hIt n h ta pl sp we tw cr (mkS br md tu le to ia al) k 4)) 3) (fInc (hIt n h ta pl sp we tw cr (mkS br md tu le to ia al) k 5) (fWk (fWaves sp tw (h + k)) (hIt n h ta pl sp we tw cr (mkS br md tu le to ia al) k 2) cr (hIt n h ta pl sp we tw cr (mkS br md tu le to ia al) k 4)) 3) 0)) (As := [.int (nI (h + k))]) (rest := []) (nL := 5) ⟨hx, hb, hml, hown, hts⟩ hK hP hD hS hA (c_X5_repairs l D b cI cZ _ pl (hIt n h ta pl sp we tw cr (mkS br md tu le to ia al) k 0) (hIt n h ta pl sp we tw cr (mkS br md tu le to ia al) k 1) (hTn n h ta pl sp we tw cr (mkS br md tu le to ia al) tn k) sp we tw sl pr (hIt n h ta pl sp we tw cr (mkS br md tu le to ia al) k 6) (hMo n h ta pl sp we tw cr sl pr (mkS br md tu le to ia al) mo k) (nI (h + k)) cr (hIt n h ta pl sp we tw cr (mkS br md tu le to ia al) k 2) (hIt n h ta pl sp we tw cr (mkS br md tu le to ia al) k 3) (hIt n h ta pl sp we tw cr (mkS br md tu le to ia al) k 4) (hIt n h ta pl sp we tw cr (mkS br md tu le to ia al) k 5) 0 n (h + k) (hn) (hpl) (htw) (htu9) (by omega)) [0, 1, 2, 3, 4, 5, 6, 7, 8, 9, 10, 11, 12, 13, 14, 15, 16] [] [0, 1, 2, 3, 4, 5, 6, 7, 8, 9, 10, 11, 12, 13, 14, 15, 16] rfl rfl (by decide) rfl (by decide) (by decide) rfl rfl (by decide) 0 rfl rfl rfl (cwV 1 hts gX5_pass_X5_repairs rfl rfl rfl (by decide +kernel) ⟨Nat.le_of_ble_eq_true rfl, Nat.le_of_ble_eq_true rfl⟩) rfl hl.1 rfl (Nat.le_of_ble_eq_true rfl) dX5_pass_53 ⟨Nat.zero_le _, Nat.zero_le _⟩ (fun H locs hP hD hS => ?_)
            refine lv_iconst (v := 0) hx hb dX5_pass_56 (by decide) ?_
            have hok9 := hOk.it (h := h) (ta := ta) (pl := pl) (sp := sp) (we := we) (tw := tw) (cr := cr) hn hok k
            have htn : tnOk n (hIt n h ta pl sp we tw cr (mkS br md tu le to ia al) k 0) (hSt n (h + k) ta pl sp tw cr (hIt n h ta pl sp we tw cr (mkS br md tu le to ia al) k)) (hTn n h ta pl sp we tw cr (mkS br md tu le to ia al) tn (k + 1)) := tn_w (wk := hWk (h + k) sp tw cr (hIt n h ta pl sp we tw cr (mkS br md tu le to ia al) k)) hn hpl hta (fun b hb hw => (hok9.htu b hb (of_decide_eq_true hw).2.1).2) (tn_all hok9.1) 3 (Nat.le_refl _)
            have hP : va_P D vwCl (wM b cI cZ pl (hIt n h ta pl sp we tw cr (mkS br md tu le to ia al) k 0) (hIt n h ta pl sp we tw cr (mkS br md tu le to ia al) k 1) (hTn n h ta pl sp we tw cr (mkS br md tu le to ia al) tn (k + 1)) (nI n) sp we tw sl pr (hIt n h ta pl sp we tw cr (mkS br md tu le to ia al) k 6) (hMo n h ta pl sp we tw cr sl pr (mkS br md tu le to ia al) mo k) (nI (h + k)) cr (hIt n h ta pl sp we tw cr (mkS br md tu le to ia al) k 2) (fDec (hIt n h ta pl sp we tw cr (mkS br md tu le to ia al) k 3) (fWk (fWaves sp tw (h + k)) (hIt n h ta pl sp we tw cr (mkS br md tu le to ia al) k 2) cr (hIt n h ta pl sp we tw cr (mkS br md tu le to ia al) k 4)) 3) (fInc (hIt n h ta pl sp we tw cr (mkS br md tu le to ia al) k 4) (fWk (fWaves sp tw (h + k)) (hIt n h ta pl sp we tw cr (mkS br md tu le to ia al) k 2) cr (hIt n h ta pl sp we tw cr (mkS br md tu le to ia al) k 4)) 3) (fInc (hIt n h ta pl sp we tw cr (mkS br md tu le to ia al) k 5) (fWk (fWaves sp tw (h + k)) (hIt n h ta pl sp we tw cr (mkS br md tu le to ia al) k 2) cr (hIt n h ta pl sp we tw cr (mkS br md tu le to ia al) k 4)) 3) 0) H := hP
            have hD : va_D A (wM b cI cZ pl (hIt n h ta pl sp we tw cr (mkS br md tu le to ia al) k 0) (hIt n h ta pl sp we tw cr (mkS br md tu le to ia al) k 1) (hTn n h ta pl sp we tw cr (mkS br md tu le to ia al) tn (k + 1)) (nI n) sp we tw sl pr (hIt n h ta pl sp we tw cr (mkS br md tu le to ia al) k 6) (hMo n h ta pl sp we tw cr sl pr (mkS br md tu le to ia al) mo k) (nI (h + k)) cr (hIt n h ta pl sp we tw cr (mkS br md tu le to ia al) k 2) (fDec (hIt n h ta pl sp we tw cr (mkS br md tu le to ia al) k 3) (fWk (fWaves sp tw (h + k)) (hIt n h ta pl sp we tw cr (mkS br md tu le to ia al) k 2) cr (hIt n h ta pl sp we tw cr (mkS br md tu le to ia al) k 4)) 3) (fInc (hIt n h ta pl sp we tw cr (mkS br md tu le to ia al) k 4) (fWk (fWaves sp tw (h + k)) (hIt n h ta pl sp we tw cr (mkS br md tu le to ia al) k 2) cr (hIt n h ta pl sp we tw cr (mkS br md tu le to ia al) k 4)) 3) (fInc (hIt n h ta pl sp we tw cr (mkS br md tu le to ia al) k 5) (fWk (fWaves sp tw (h + k)) (hIt n h ta pl sp we tw cr (mkS br md tu le to ia al) k 2) cr (hIt n h ta pl sp we tw cr (mkS br md tu le to ia al) k 4)) 3) 0) := hD
            have e9 : (hIt n h ta pl sp we tw cr (mkS br md tu le to ia al) k 1) = (fAddR (hIt n h ta pl sp we tw cr (mkS br md tu le to ia al) k 1) (hPw n (h + k) ta pl sp we tw cr (hIt n h ta pl sp we tw cr (mkS br md tu le to ia al) k)) 0) := (fAddR_0 _ _).symm
            rw [e9] at hP hD
            clear e9
            have e9 : (upd (hIt n h ta pl sp we tw cr (mkS br md tu le to ia al) k 6) (h + k) (fSum (hPw n (h + k) ta pl sp we tw cr (hIt n h ta pl sp we tw cr (mkS br md tu le to ia al) k)) 0)) = (hIt n h ta pl sp we tw cr (mkS br md tu le to ia al) k 6) := (upd_self0 (hIt_al hal k _ (Nat.le_refl _))).symm
            have hP : va_P D vwCl (wM b cI cZ pl (hIt n h ta pl sp we tw cr (mkS br md tu le to ia al) k 0) (fAddR (hIt n h ta pl sp we tw cr (mkS br md tu le to ia al) k 1) (hPw n (h + k) ta pl sp we tw cr (hIt n h ta pl sp we tw cr (mkS br md tu le to ia al) k)) 0) (hTn n h ta pl sp we tw cr (mkS br md tu le to ia al) tn (k + 1)) (nI n) sp we tw sl pr (upd (hIt n h ta pl sp we tw cr (mkS br md tu le to ia al) k 6) (h + k) (fSum (hPw n (h + k) ta pl sp we tw cr (hIt n h ta pl sp we tw cr (mkS br md tu le to ia al) k)) 0)) (hMo n h ta pl sp we tw cr sl pr (mkS br md tu le to ia al) mo k) (nI (h + k)) cr (hIt n h ta pl sp we tw cr (mkS br md tu le to ia al) k 2) (fDec (hIt n h ta pl sp we tw cr (mkS br md tu le to ia al) k 3) (fWk (fWaves sp tw (h + k)) (hIt n h ta pl sp we tw cr (mkS br md tu le to ia al) k 2) cr (hIt n h ta pl sp we tw cr (mkS br md tu le to ia al) k 4)) 3) (fInc (hIt n h ta pl sp we tw cr (mkS br md tu le to ia al) k 4) (fWk (fWaves sp tw (h + k)) (hIt n h ta pl sp we tw cr (mkS br md tu le to ia al) k 2) cr (hIt n h ta pl sp we tw cr (mkS br md tu le to ia al) k 4)) 3) (fInc (hIt n h ta pl sp we tw cr (mkS br md tu le to ia al) k 5) (fWk (fWaves sp tw (h + k)) (hIt n h ta pl sp we tw cr (mkS br md tu le to ia al) k 2) cr (hIt n h ta pl sp we tw cr (mkS br md tu le to ia al) k 4)) 3) 0) H := by rw [e9]; exact hP
            have hD : va_D A (wM b cI cZ pl (hIt n h ta pl sp we tw cr (mkS br md tu le to ia al) k 0) (fAddR (hIt n h ta pl sp we tw cr (mkS br md tu le to ia al) k 1) (hPw n (h + k) ta pl sp we tw cr (hIt n h ta pl sp we tw cr (mkS br md tu le to ia al) k)) 0) (hTn n h ta pl sp we tw cr (mkS br md tu le to ia al) tn (k + 1)) (nI n) sp we tw sl pr (upd (hIt n h ta pl sp we tw cr (mkS br md tu le to ia al) k 6) (h + k) (fSum (hPw n (h + k) ta pl sp we tw cr (hIt n h ta pl sp we tw cr (mkS br md tu le to ia al) k)) 0)) (hMo n h ta pl sp we tw cr sl pr (mkS br md tu le to ia al) mo k) (nI (h + k)) cr (hIt n h ta pl sp we tw cr (mkS br md tu le to ia al) k 2) (fDec (hIt n h ta pl sp we tw cr (mkS br md tu le to ia al) k 3) (fWk (fWaves sp tw (h + k)) (hIt n h ta pl sp we tw cr (mkS br md tu le to ia al) k 2) cr (hIt n h ta pl sp we tw cr (mkS br md tu le to ia al) k 4)) 3) (fInc (hIt n h ta pl sp we tw cr (mkS br md tu le to ia al) k 4) (fWk (fWaves sp tw (h + k)) (hIt n h ta pl sp we tw cr (mkS br md tu le to ia al) k 2) cr (hIt n h ta pl sp we tw cr (mkS br md tu le to ia al) k 4)) 3) (fInc (hIt n h ta pl sp we tw cr (mkS br md tu le to ia al) k 5) (fWk (fWaves sp tw (h + k)) (hIt n h ta pl sp we tw cr (mkS br md tu le to ia al) k 2) cr (hIt n h ta pl sp we tw cr (mkS br md tu le to ia al) k 4)) 3) 0) := by rw [e9]; exact hD
            clear e9
            refine lv_istore_n (lv' := [(3, .int 0), (0, .ref (b 0)), (1, .int (nI (cl x))), (2, .int (nI k))]) hx hb dX5_pass_57 rfl hl (by decide) rfl (fun ls hl => ?_)
            have loop_58 : ∀ (nn : Nat) (j : Nat), n - j < nn → (j ≤ n) → ∀ (H : Heap) (locs : List Loc), va_P D vwCl (wM b cI cZ pl (hIt n h ta pl sp we tw cr (mkS br md tu le to ia al) k 0) (fAddR (hIt n h ta pl sp we tw cr (mkS br md tu le to ia al) k 1) (hPw n (h + k) ta pl sp we tw cr (hIt n h ta pl sp we tw cr (mkS br md tu le to ia al) k)) j) (hTn n h ta pl sp we tw cr (mkS br md tu le to ia al) tn (k + 1)) (nI n) sp we tw sl pr (upd (hIt n h ta pl sp we tw cr (mkS br md tu le to ia al) k 6) (h + k) (fSum (hPw n (h + k) ta pl sp we tw cr (hIt n h ta pl sp we tw cr (mkS br md tu le to ia al) k)) j)) (hMo n h ta pl sp we tw cr sl pr (mkS br md tu le to ia al) mo k) (nI (h + k)) cr (hIt n h ta pl sp we tw cr (mkS br md tu le to ia al) k 2) (fDec (hIt n h ta pl sp we tw cr (mkS br md tu le to ia al) k 3) (fWk (fWaves sp tw (h + k)) (hIt n h ta pl sp we tw cr (mkS br md tu le to ia al) k 2) cr (hIt n h ta pl sp we tw cr (mkS br md tu le to ia al) k 4)) 3) (fInc (hIt n h ta pl sp we tw cr (mkS br md tu le to ia al) k 4) (fWk (fWaves sp tw (h + k)) (hIt n h ta pl sp we tw cr (mkS br md tu le to ia al) k 2) cr (hIt n h ta pl sp we tw cr (mkS br md tu le to ia al) k 4)) 3) (fInc (hIt n h ta pl sp we tw cr (mkS br md tu le to ia al) k 5) (fWk (fWaves sp tw (h + k)) (hIt n h ta pl sp we tw cr (mkS br md tu le to ia al) k 2) cr (hIt n h ta pl sp we tw cr (mkS br md tu le to ia al) k 4)) 3) 0) H → va_D A (wM b cI cZ pl (hIt n h ta pl sp we tw cr (mkS br md tu le to ia al) k 0) (fAddR (hIt n h ta pl sp we tw cr (mkS br md tu le to ia al) k 1) (hPw n (h + k) ta pl sp we tw cr (hIt n h ta pl sp we tw cr (mkS br md tu le to ia al) k)) j) (hTn n h ta pl sp we tw cr (mkS br md tu le to ia al) tn (k + 1)) (nI n) sp we tw sl pr (upd (hIt n h ta pl sp we tw cr (mkS br md tu le to ia al) k 6) (h + k) (fSum (hPw n (h + k) ta pl sp we tw cr (hIt n h ta pl sp we tw cr (mkS br md tu le to ia al) k)) j)) (hMo n h ta pl sp we tw cr sl pr (mkS br md tu le to ia al) mo k) (nI (h + k)) cr (hIt n h ta pl sp we tw cr (mkS br md tu le to ia al) k 2) (fDec (hIt n h ta pl sp we tw cr (mkS br md tu le to ia al) k 3) (fWk (fWaves sp tw (h + k)) (hIt n h ta pl sp we tw cr (mkS br md tu le to ia al) k 2) cr (hIt n h ta pl sp we tw cr (mkS br md tu le to ia al) k 4)) 3) (fInc (hIt n h ta pl sp we tw cr (mkS br md tu le to ia al) k 4) (fWk (fWaves sp tw (h + k)) (hIt n h ta pl sp we tw cr (mkS br md tu le to ia al) k 2) cr (hIt n h ta pl sp we tw cr (mkS br md tu le to ia al) k 4)) 3) (fInc (hIt n h ta pl sp we tw cr (mkS br md tu le to ia al) k 5) (fWk (fWaves sp tw (h + k)) (hIt n h ta pl sp we tw cr (mkS br md tu le to ia al) k 2) cr (hIt n h ta pl sp we tw cr (mkS br md tu le to ia al) k 4)) 3) 0) → va_S A s.heap H locs → ∀ (ls : Array Slot), lv_has ls 5 [(0, .ref (b 0)), (1, .int (nI (cl x))), (2, .int (nI k)), (3, .int (nI j))] → W p l e (headSpec wsX5_pass ({ frames := 3, cells := 0, slots := 0, locals := 74 })).room s m ([.ref (b 0), .int x] : List Value).toArray below meth c H locs 0 0 (MQ below (va_Qi (fun (r : Int32) (_ : Unit) => (fun r => cPass h x = 0 → r = nI (h + cl x)) r) (fun _ t9 => kAt D A (wM b cI cZ pl (kIf (cPass h x) (hIt n h ta pl sp we tw cr (mkS br md tu le to ia al) (cl x) 0) br) (kIf (cPass h x) (hIt n h ta pl sp we tw cr (mkS br md tu le to ia al) (cl x) 1) md) (kIf (cPass h x) (hTn n h ta pl sp we tw cr (mkS br md tu le to ia al) tn (cl x)) tn) (nI n) sp we tw sl pr (kIf (cPass h x) (hIt n h ta pl sp we tw cr (mkS br md tu le to ia al) (cl x) 6) al) (kIf (cPass h x) (hMo n h ta pl sp we tw cr sl pr (mkS br md tu le to ia al) mo (cl x)) mo) (kIfi (cPass h x) (nI (h + cl x)) (nI h)) cr (kIf (cPass h x) (hIt n h ta pl sp we tw cr (mkS br md tu le to ia al) (cl x) 2) tu) (kIf (cPass h x) (hIt n h ta pl sp we tw cr (mkS br md tu le to ia al) (cl x) 3) le) (kIf (cPass h x) (hIt n h ta pl sp we tw cr (mkS br md tu le to ia al) (cl x) 4) to) (kIf (cPass h x) (hIt n h ta pl sp we tw cr (mkS br md tu le to ia al) (cl x) 5) ia) (nI (cPass h x))) t9) A) ([.ref (b 0), .int x] : List Value).toArray s 0 0 A) (F0 m 58 ls []) := by
              intro nn
              induction nn with
              | zero => intro j hm; exact absurd hm (by omega)
              | succ nn ih_58 =>
                intro j hm hj H locs hP hD hS ls hl
                refine lv_iload_n hx hb dX5_pass_58 rfl (lv_at hl 3 rfl) ?_
                refine lv_aload_n hx hb dX5_pass_59 rfl (lv_at hl 0 rfl) ?_
                refine va_get (D := D) (ci := 5) (v := .int (nI n)) (C := RX5) (T := TX5) (N := 19) hx hb hts (by decide +kernel) hown hK.1 hP 0 rfl rfl 4 (by decide) (hts (.fieldLink RX5 62 "TurbineorchardModel" "turbines" "I") (by decide +kernel)) (fun _ h9 => h9) rfl dX5_pass_60 ?_
                refine lv_icmp_ge (tgt := 108) hx hb dX5_pass_63 (by decide) (fun c_63 => ?_) (fun c_63 => ?_)
                · have e8 : j = n := by have := (nI_leI (a := n) (b := j) (by omega) (by omega)).mp c_63; omega
                  rw [e8] at hP hD hl
                  refine lv_aload_n hx hb dX5_pass_108 rfl (lv_at hl 0 rfl) ?_
                  refine lv_aload_n hx hb dX5_pass_109 rfl (lv_at hl 0 rfl) ?_
                  refine va_get (D := D) (ci := 5) (v := .int (nI (h + k))) (C := RX5) (T := TX5) (N := 19) hx hb hts (by decide +kernel) hown hK.1 hP 0 rfl rfl 12 (by decide) (hts (.fieldLink RX5 73 "TurbineorchardModel" "now" "I") (by decide +kernel)) (fun _ h9 => h9) rfl dX5_pass_110 ?_
                  refine k_uv (WR := []) (WN := (wM b cI cZ pl (hIt n h ta pl sp we tw cr (mkS br md tu le to ia al) k 0) (fAddR (hIt n h ta pl sp we tw cr (mkS br md tu le to ia al) k 1) (hPw n (h + k) ta pl sp we tw cr (hIt n h ta pl sp we tw cr (mkS br md tu le to ia al) k)) n) (hTn n h ta pl sp we tw cr (mkS br md tu le to ia al) tn (k + 1)) (nI n) sp we tw sl pr (upd (hIt n h ta pl sp we tw cr (mkS br md tu le to ia al) k 6) (h + k) (fSum (hPw n (h + k) ta pl sp we tw cr (hIt n h ta pl sp we tw cr (mkS br md tu le to ia al) k)) n)) (upd (hMo n h ta pl sp we tw cr sl pr (mkS br md tu le to ia al) mo k) (h + k) (fBring sl pr (upd (hIt n h ta pl sp we tw cr (mkS br md tu le to ia al) k 6) (h + k) (fSum (hPw n (h + k) ta pl sp we tw cr (hIt n h ta pl sp we tw cr (mkS br md tu le to ia al) k)) n)) (h + k))) (nI (h + k)) cr (hIt n h ta pl sp we tw cr (mkS br md tu le to ia al) k 2) (fDec (hIt n h ta pl sp we tw cr (mkS br md tu le to ia al) k 3) (fWk (fWaves sp tw (h + k)) (hIt n h ta pl sp we tw cr (mkS br md tu le to ia al) k 2) cr (hIt n h ta pl sp we tw cr (mkS br md tu le to ia al) k 4)) 3) (fInc (hIt n h ta pl sp we tw cr (mkS br md tu le to ia al) k 4) (fWk (fWaves sp tw (h + k)) (hIt n h ta pl sp we tw cr (mkS br md tu le to ia al) k 2) cr (hIt n h ta pl sp we tw cr (mkS br md tu le to ia al) k 4)) 3) (fInc (hIt n h ta pl sp we tw cr (mkS br md tu le to ia al) k 5) (fWk (fWaves sp tw (h + k)) (hIt n h ta pl sp we tw cr (mkS br md tu le to ia al) k 2) cr (hIt n h ta pl sp we tw cr (mkS br md tu le to ia al) k 4)) 3) 0)) (As := [.int (nI (h + k))]) (rest := []) (nL := 5) ⟨hx, hb, hml, hown, hts⟩ hK hP hD hS hA (c_X5_accounts l D b cI cZ _ pl (hIt n h ta pl sp we tw cr (mkS br md tu le to ia al) k 0) (fAddR (hIt n h ta pl sp we tw cr (mkS br md tu le to ia al) k 1) (hPw n (h + k) ta pl sp we tw cr (hIt n h ta pl sp we tw cr (mkS br md tu le to ia al) k)) n) (hTn n h ta pl sp we tw cr (mkS br md tu le to ia al) tn (k + 1)) (nI n) sp we tw sl pr (upd (hIt n h ta pl sp we tw cr (mkS br md tu le to ia al) k 6) (h + k) (fSum (hPw n (h + k) ta pl sp we tw cr (hIt n h ta pl sp we tw cr (mkS br md tu le to ia al) k)) n)) (hMo n h ta pl sp we tw cr sl pr (mkS br md tu le to ia al) mo k) (nI (h + k)) cr (hIt n h ta pl sp we tw cr (mkS br md tu le to ia al) k 2) (fDec (hIt n h ta pl sp we tw cr (mkS br md tu le to ia al) k 3) (fWk (fWaves sp tw (h + k)) (hIt n h ta pl sp we tw cr (mkS br md tu le to ia al) k 2) cr (hIt n h ta pl sp we tw cr (mkS br md tu le to ia al) k 4)) 3) (fInc (hIt n h ta pl sp we tw cr (mkS br md tu le to ia al) k 4) (fWk (fWaves sp tw (h + k)) (hIt n h ta pl sp we tw cr (mkS br md tu le to ia al) k 2) cr (hIt n h ta pl sp we tw cr (mkS br md tu le to ia al) k 4)) 3) (fInc (hIt n h ta pl sp we tw cr (mkS br md tu le to ia al) k 5) (fWk (fWaves sp tw (h + k)) (hIt n h ta pl sp we tw cr (mkS br md tu le to ia al) k 2) cr (hIt n h ta pl sp we tw cr (mkS br md tu le to ia al) k 4)) 3) 0 (h + k) (by omega) (hsl)) [0, 1, 2, 3, 4, 5, 6, 7, 8, 9, 10, 11, 12, 13, 14, 15, 16] [] [0, 1, 2, 3, 4, 5, 6, 7, 8, 9, 10, 11, 12, 13, 14, 15, 16] rfl rfl (by decide) rfl (by decide) (by decide) rfl rfl (by decide) 0 rfl rfl rfl (cwV 1 hts gX5_pass_X5_accounts rfl rfl rfl (by decide +kernel) ⟨Nat.le_of_ble_eq_true rfl, Nat.le_of_ble_eq_true rfl⟩) rfl hl.1 rfl (Nat.le_of_ble_eq_true rfl) dX5_pass_113 ⟨Nat.zero_le _, Nat.zero_le _⟩ (fun H locs hP hD hS => ?_)
                  refine lv_aload_n hx hb dX5_pass_116 rfl (lv_at hl 0 rfl) ?_
                  refine k_uv (WR := []) (WN := (wM b cI cZ pl (fBrE (hIt n h ta pl sp we tw cr (mkS br md tu le to ia al) k 0) (hIt n h ta pl sp we tw cr (mkS br md tu le to ia al) k 2) (fEn (hIt n h ta pl sp we tw cr (mkS br md tu le to ia al) k 2) (fDec (hIt n h ta pl sp we tw cr (mkS br md tu le to ia al) k 3) (fWk (fWaves sp tw (h + k)) (hIt n h ta pl sp we tw cr (mkS br md tu le to ia al) k 2) cr (hIt n h ta pl sp we tw cr (mkS br md tu le to ia al) k 4)) 3)) 3) (fAddR (hIt n h ta pl sp we tw cr (mkS br md tu le to ia al) k 1) (hPw n (h + k) ta pl sp we tw cr (hIt n h ta pl sp we tw cr (mkS br md tu le to ia al) k)) n) (hTn n h ta pl sp we tw cr (mkS br md tu le to ia al) tn (k + 1)) (nI n) sp we tw sl pr (upd (hIt n h ta pl sp we tw cr (mkS br md tu le to ia al) k 6) (h + k) (fSum (hPw n (h + k) ta pl sp we tw cr (hIt n h ta pl sp we tw cr (mkS br md tu le to ia al) k)) n)) (upd (hMo n h ta pl sp we tw cr sl pr (mkS br md tu le to ia al) mo k) (h + k) (fBring sl pr (upd (hIt n h ta pl sp we tw cr (mkS br md tu le to ia al) k 6) (h + k) (fSum (hPw n (h + k) ta pl sp we tw cr (hIt n h ta pl sp we tw cr (mkS br md tu le to ia al) k)) n)) (h + k))) (nI (h + k)) cr (fTuE (hIt n h ta pl sp we tw cr (mkS br md tu le to ia al) k 2) (fEn (hIt n h ta pl sp we tw cr (mkS br md tu le to ia al) k 2) (fDec (hIt n h ta pl sp we tw cr (mkS br md tu le to ia al) k 3) (fWk (fWaves sp tw (h + k)) (hIt n h ta pl sp we tw cr (mkS br md tu le to ia al) k 2) cr (hIt n h ta pl sp we tw cr (mkS br md tu le to ia al) k 4)) 3)) 3) (fDec (hIt n h ta pl sp we tw cr (mkS br md tu le to ia al) k 3) (fWk (fWaves sp tw (h + k)) (hIt n h ta pl sp we tw cr (mkS br md tu le to ia al) k 2) cr (hIt n h ta pl sp we tw cr (mkS br md tu le to ia al) k 4)) 3) (fInc (hIt n h ta pl sp we tw cr (mkS br md tu le to ia al) k 4) (fWk (fWaves sp tw (h + k)) (hIt n h ta pl sp we tw cr (mkS br md tu le to ia al) k 2) cr (hIt n h ta pl sp we tw cr (mkS br md tu le to ia al) k 4)) 3) (fInc (hIt n h ta pl sp we tw cr (mkS br md tu le to ia al) k 5) (fWk (fWaves sp tw (h + k)) (hIt n h ta pl sp we tw cr (mkS br md tu le to ia al) k 2) cr (hIt n h ta pl sp we tw cr (mkS br md tu le to ia al) k 4)) 3) 0)) (As := []) (rest := []) (nL := 5) ⟨hx, hb, hml, hown, hts⟩ hK hP hD hS hA (c_X5_frees l D b cI cZ _ pl (hIt n h ta pl sp we tw cr (mkS br md tu le to ia al) k 0) (fAddR (hIt n h ta pl sp we tw cr (mkS br md tu le to ia al) k 1) (hPw n (h + k) ta pl sp we tw cr (hIt n h ta pl sp we tw cr (mkS br md tu le to ia al) k)) n) (hTn n h ta pl sp we tw cr (mkS br md tu le to ia al) tn (k + 1)) sp we tw sl pr (upd (hIt n h ta pl sp we tw cr (mkS br md tu le to ia al) k 6) (h + k) (fSum (hPw n (h + k) ta pl sp we tw cr (hIt n h ta pl sp we tw cr (mkS br md tu le to ia al) k)) n)) (upd (hMo n h ta pl sp we tw cr sl pr (mkS br md tu le to ia al) mo k) (h + k) (fBring sl pr (upd (hIt n h ta pl sp we tw cr (mkS br md tu le to ia al) k 6) (h + k) (fSum (hPw n (h + k) ta pl sp we tw cr (hIt n h ta pl sp we tw cr (mkS br md tu le to ia al) k)) n)) (h + k))) (nI (h + k)) cr (hIt n h ta pl sp we tw cr (mkS br md tu le to ia al) k 2) (fDec (hIt n h ta pl sp we tw cr (mkS br md tu le to ia al) k 3) (fWk (fWaves sp tw (h + k)) (hIt n h ta pl sp we tw cr (mkS br md tu le to ia al) k 2) cr (hIt n h ta pl sp we tw cr (mkS br md tu le to ia al) k 4)) 3) (fInc (hIt n h ta pl sp we tw cr (mkS br md tu le to ia al) k 4) (fWk (fWaves sp tw (h + k)) (hIt n h ta pl sp we tw cr (mkS br md tu le to ia al) k 2) cr (hIt n h ta pl sp we tw cr (mkS br md tu le to ia al) k 4)) 3) (fInc (hIt n h ta pl sp we tw cr (mkS br md tu le to ia al) k 5) (fWk (fWaves sp tw (h + k)) (hIt n h ta pl sp we tw cr (mkS br md tu le to ia al) k 2) cr (hIt n h ta pl sp we tw cr (mkS br md tu le to ia al) k 4)) 3) 0 n (hn) (htu9)) [0, 1, 2, 3, 4, 5, 6, 7, 8, 9, 10, 11, 12, 13, 14, 15, 16] [] [0, 1, 2, 3, 4, 5, 6, 7, 8, 9, 10, 11, 12, 13, 14, 15, 16] rfl rfl (by decide) rfl (by decide) (by decide) rfl rfl (by decide) 0 rfl rfl rfl (cwV 0 hts gX5_pass_X5_frees rfl rfl rfl (by decide +kernel) ⟨Nat.le_of_ble_eq_true rfl, Nat.le_of_ble_eq_true rfl⟩) rfl hl.1 rfl (Nat.le_of_ble_eq_true rfl) dX5_pass_117 ⟨Nat.zero_le _, Nat.zero_le _⟩ (fun H locs hP hD hS => ?_)
                  refine lv_aload_n hx hb dX5_pass_120 rfl (lv_at hl 0 rfl) ?_
                  refine lv_dup hx hb dX5_pass_121 rfl ?_
                  refine va_get (D := D) (ci := 5) (v := .int (nI (h + k))) (C := RX5) (T := TX5) (N := 19) hx hb hts (by decide +kernel) hown hK.1 hP 0 rfl rfl 12 (by decide) (hts (.fieldLink RX5 73 "TurbineorchardModel" "now" "I") (by decide +kernel)) (fun _ h9 => h9) rfl dX5_pass_122 ?_
                  refine lv_iconst (v := 1) hx hb dX5_pass_125 (by decide) ?_
                  refine lv_iadd hx hb dX5_pass_126 ?_
                  refine k_rw (y := nI (h + (k + 1))) (nI_1 (h + k)) ?_
                  refine va_put (D := D) (ci := 5) (v := .int (nI (h + (k + 1)))) (ty := .int) (C := RX5) (T := TX5) (N := 19) hx hb hts (by decide +kernel) tyX5 tyX5_ok nmX5 hown hK.1 hP hD hS 0 rfl rfl 12 (by decide) (hts (.fieldLink RX5 73 "TurbineorchardModel" "now" "I") (by decide +kernel)) (fun _ h9 => h9) rfl (by decide +kernel) rfl rfl (Nat.le_of_ble_eq_true rfl) dX5_pass_127 (fun H locs hP hD hS => ?_)
                  have hP : va_P D vwCl (wM b cI cZ pl (fBrE (hIt n h ta pl sp we tw cr (mkS br md tu le to ia al) k 0) (hIt n h ta pl sp we tw cr (mkS br md tu le to ia al) k 2) (fEn (hIt n h ta pl sp we tw cr (mkS br md tu le to ia al) k 2) (fDec (hIt n h ta pl sp we tw cr (mkS br md tu le to ia al) k 3) (fWk (fWaves sp tw (h + k)) (hIt n h ta pl sp we tw cr (mkS br md tu le to ia al) k 2) cr (hIt n h ta pl sp we tw cr (mkS br md tu le to ia al) k 4)) 3)) 3) (fAddR (hIt n h ta pl sp we tw cr (mkS br md tu le to ia al) k 1) (hPw n (h + k) ta pl sp we tw cr (hIt n h ta pl sp we tw cr (mkS br md tu le to ia al) k)) n) (hTn n h ta pl sp we tw cr (mkS br md tu le to ia al) tn (k + 1)) (nI n) sp we tw sl pr (upd (hIt n h ta pl sp we tw cr (mkS br md tu le to ia al) k 6) (h + k) (fSum (hPw n (h + k) ta pl sp we tw cr (hIt n h ta pl sp we tw cr (mkS br md tu le to ia al) k)) n)) (upd (hMo n h ta pl sp we tw cr sl pr (mkS br md tu le to ia al) mo k) (h + k) (fBring sl pr (upd (hIt n h ta pl sp we tw cr (mkS br md tu le to ia al) k 6) (h + k) (fSum (hPw n (h + k) ta pl sp we tw cr (hIt n h ta pl sp we tw cr (mkS br md tu le to ia al) k)) n)) (h + k))) (nI (h + (k + 1))) cr (fTuE (hIt n h ta pl sp we tw cr (mkS br md tu le to ia al) k 2) (fEn (hIt n h ta pl sp we tw cr (mkS br md tu le to ia al) k 2) (fDec (hIt n h ta pl sp we tw cr (mkS br md tu le to ia al) k 3) (fWk (fWaves sp tw (h + k)) (hIt n h ta pl sp we tw cr (mkS br md tu le to ia al) k 2) cr (hIt n h ta pl sp we tw cr (mkS br md tu le to ia al) k 4)) 3)) 3) (fDec (hIt n h ta pl sp we tw cr (mkS br md tu le to ia al) k 3) (fWk (fWaves sp tw (h + k)) (hIt n h ta pl sp we tw cr (mkS br md tu le to ia al) k 2) cr (hIt n h ta pl sp we tw cr (mkS br md tu le to ia al) k 4)) 3) (fInc (hIt n h ta pl sp we tw cr (mkS br md tu le to ia al) k 4) (fWk (fWaves sp tw (h + k)) (hIt n h ta pl sp we tw cr (mkS br md tu le to ia al) k 2) cr (hIt n h ta pl sp we tw cr (mkS br md tu le to ia al) k 4)) 3) (fInc (hIt n h ta pl sp we tw cr (mkS br md tu le to ia al) k 5) (fWk (fWaves sp tw (h + k)) (hIt n h ta pl sp we tw cr (mkS br md tu le to ia al) k 2) cr (hIt n h ta pl sp we tw cr (mkS br md tu le to ia al) k 4)) 3) 0) H := hP
                  have hD : va_D A (wM b cI cZ pl (fBrE (hIt n h ta pl sp we tw cr (mkS br md tu le to ia al) k 0) (hIt n h ta pl sp we tw cr (mkS br md tu le to ia al) k 2) (fEn (hIt n h ta pl sp we tw cr (mkS br md tu le to ia al) k 2) (fDec (hIt n h ta pl sp we tw cr (mkS br md tu le to ia al) k 3) (fWk (fWaves sp tw (h + k)) (hIt n h ta pl sp we tw cr (mkS br md tu le to ia al) k 2) cr (hIt n h ta pl sp we tw cr (mkS br md tu le to ia al) k 4)) 3)) 3) (fAddR (hIt n h ta pl sp we tw cr (mkS br md tu le to ia al) k 1) (hPw n (h + k) ta pl sp we tw cr (hIt n h ta pl sp we tw cr (mkS br md tu le to ia al) k)) n) (hTn n h ta pl sp we tw cr (mkS br md tu le to ia al) tn (k + 1)) (nI n) sp we tw sl pr (upd (hIt n h ta pl sp we tw cr (mkS br md tu le to ia al) k 6) (h + k) (fSum (hPw n (h + k) ta pl sp we tw cr (hIt n h ta pl sp we tw cr (mkS br md tu le to ia al) k)) n)) (upd (hMo n h ta pl sp we tw cr sl pr (mkS br md tu le to ia al) mo k) (h + k) (fBring sl pr (upd (hIt n h ta pl sp we tw cr (mkS br md tu le to ia al) k 6) (h + k) (fSum (hPw n (h + k) ta pl sp we tw cr (hIt n h ta pl sp we tw cr (mkS br md tu le to ia al) k)) n)) (h + k))) (nI (h + (k + 1))) cr (fTuE (hIt n h ta pl sp we tw cr (mkS br md tu le to ia al) k 2) (fEn (hIt n h ta pl sp we tw cr (mkS br md tu le to ia al) k 2) (fDec (hIt n h ta pl sp we tw cr (mkS br md tu le to ia al) k 3) (fWk (fWaves sp tw (h + k)) (hIt n h ta pl sp we tw cr (mkS br md tu le to ia al) k 2) cr (hIt n h ta pl sp we tw cr (mkS br md tu le to ia al) k 4)) 3)) 3) (fDec (hIt n h ta pl sp we tw cr (mkS br md tu le to ia al) k 3) (fWk (fWaves sp tw (h + k)) (hIt n h ta pl sp we tw cr (mkS br md tu le to ia al) k 2) cr (hIt n h ta pl sp we tw cr (mkS br md tu le to ia al) k 4)) 3) (fInc (hIt n h ta pl sp we tw cr (mkS br md tu le to ia al) k 4) (fWk (fWaves sp tw (h + k)) (hIt n h ta pl sp we tw cr (mkS br md tu le to ia al) k 2) cr (hIt n h ta pl sp we tw cr (mkS br md tu le to ia al) k 4)) 3) (fInc (hIt n h ta pl sp we tw cr (mkS br md tu le to ia al) k 5) (fWk (fWaves sp tw (h + k)) (hIt n h ta pl sp we tw cr (mkS br md tu le to ia al) k 2) cr (hIt n h ta pl sp we tw cr (mkS br md tu le to ia al) k 4)) 3) 0) := hD
                  refine lv_iconst (v := 0) hx hb dX5_pass_130 (by decide) ?_
                  have e9 : (fInc (hIt n h ta pl sp we tw cr (mkS br md tu le to ia al) k 4) (fWk (fWaves sp tw (h + k)) (hIt n h ta pl sp we tw cr (mkS br md tu le to ia al) k 2) cr (hIt n h ta pl sp we tw cr (mkS br md tu le to ia al) k 4)) 3) = (fDayJ (h + (k + 1)) (fInc (hIt n h ta pl sp we tw cr (mkS br md tu le to ia al) k 4) (hWk (h + k) sp tw cr (hIt n h ta pl sp we tw cr (mkS br md tu le to ia al) k)) 3) 0) := fDayJ_0
                  rw [e9] at hP hD
                  clear e9
                  refine lv_istore_n (lv' := [(3, .int 0), (0, .ref (b 0)), (1, .int (nI (cl x))), (2, .int (nI k))]) hx hb dX5_pass_131 rfl hl (by decide) rfl (fun ls hl => ?_)
                  have loop_132 : ∀ (nn : Nat) (i : Nat), 3 - i < nn → (i ≤ 3) → ∀ (H : Heap) (locs : List Loc), va_P D vwCl (wM b cI cZ pl (fBrE (hIt n h ta pl sp we tw cr (mkS br md tu le to ia al) k 0) (hIt n h ta pl sp we tw cr (mkS br md tu le to ia al) k 2) (fEn (hIt n h ta pl sp we tw cr (mkS br md tu le to ia al) k 2) (fDec (hIt n h ta pl sp we tw cr (mkS br md tu le to ia al) k 3) (fWk (fWaves sp tw (h + k)) (hIt n h ta pl sp we tw cr (mkS br md tu le to ia al) k 2) cr (hIt n h ta pl sp we tw cr (mkS br md tu le to ia al) k 4)) 3)) 3) (fAddR (hIt n h ta pl sp we tw cr (mkS br md tu le to ia al) k 1) (hPw n (h + k) ta pl sp we tw cr (hIt n h ta pl sp we tw cr (mkS br md tu le to ia al) k)) n) (hTn n h ta pl sp we tw cr (mkS br md tu le to ia al) tn (k + 1)) (nI n) sp we tw sl pr (upd (hIt n h ta pl sp we tw cr (mkS br md tu le to ia al) k 6) (h + k) (fSum (hPw n (h + k) ta pl sp we tw cr (hIt n h ta pl sp we tw cr (mkS br md tu le to ia al) k)) n)) (upd (hMo n h ta pl sp we tw cr sl pr (mkS br md tu le to ia al) mo k) (h + k) (fBring sl pr (upd (hIt n h ta pl sp we tw cr (mkS br md tu le to ia al) k 6) (h + k) (fSum (hPw n (h + k) ta pl sp we tw cr (hIt n h ta pl sp we tw cr (mkS br md tu le to ia al) k)) n)) (h + k))) (nI (h + (k + 1))) cr (fTuE (hIt n h ta pl sp we tw cr (mkS br md tu le to ia al) k 2) (fEn (hIt n h ta pl sp we tw cr (mkS br md tu le to ia al) k 2) (fDec (hIt n h ta pl sp we tw cr (mkS br md tu le to ia al) k 3) (fWk (fWaves sp tw (h + k)) (hIt n h ta pl sp we tw cr (mkS br md tu le to ia al) k 2) cr (hIt n h ta pl sp we tw cr (mkS br md tu le to ia al) k 4)) 3)) 3) (fDec (hIt n h ta pl sp we tw cr (mkS br md tu le to ia al) k 3) (fWk (fWaves sp tw (h + k)) (hIt n h ta pl sp we tw cr (mkS br md tu le to ia al) k 2) cr (hIt n h ta pl sp we tw cr (mkS br md tu le to ia al) k 4)) 3) (fDayJ (h + (k + 1)) (fInc (hIt n h ta pl sp we tw cr (mkS br md tu le to ia al) k 4) (hWk (h + k) sp tw cr (hIt n h ta pl sp we tw cr (mkS br md tu le to ia al) k)) 3) i) (fInc (hIt n h ta pl sp we tw cr (mkS br md tu le to ia al) k 5) (fWk (fWaves sp tw (h + k)) (hIt n h ta pl sp we tw cr (mkS br md tu le to ia al) k 2) cr (hIt n h ta pl sp we tw cr (mkS br md tu le to ia al) k 4)) 3) 0) H → va_D A (wM b cI cZ pl (fBrE (hIt n h ta pl sp we tw cr (mkS br md tu le to ia al) k 0) (hIt n h ta pl sp we tw cr (mkS br md tu le to ia al) k 2) (fEn (hIt n h ta pl sp we tw cr (mkS br md tu le to ia al) k 2) (fDec (hIt n h ta pl sp we tw cr (mkS br md tu le to ia al) k 3) (fWk (fWaves sp tw (h + k)) (hIt n h ta pl sp we tw cr (mkS br md tu le to ia al) k 2) cr (hIt n h ta pl sp we tw cr (mkS br md tu le to ia al) k 4)) 3)) 3) (fAddR (hIt n h ta pl sp we tw cr (mkS br md tu le to ia al) k 1) (hPw n (h + k) ta pl sp we tw cr (hIt n h ta pl sp we tw cr (mkS br md tu le to ia al) k)) n) (hTn n h ta pl sp we tw cr (mkS br md tu le to ia al) tn (k + 1)) (nI n) sp we tw sl pr (upd (hIt n h ta pl sp we tw cr (mkS br md tu le to ia al) k 6) (h + k) (fSum (hPw n (h + k) ta pl sp we tw cr (hIt n h ta pl sp we tw cr (mkS br md tu le to ia al) k)) n)) (upd (hMo n h ta pl sp we tw cr sl pr (mkS br md tu le to ia al) mo k) (h + k) (fBring sl pr (upd (hIt n h ta pl sp we tw cr (mkS br md tu le to ia al) k 6) (h + k) (fSum (hPw n (h + k) ta pl sp we tw cr (hIt n h ta pl sp we tw cr (mkS br md tu le to ia al) k)) n)) (h + k))) (nI (h + (k + 1))) cr (fTuE (hIt n h ta pl sp we tw cr (mkS br md tu le to ia al) k 2) (fEn (hIt n h ta pl sp we tw cr (mkS br md tu le to ia al) k 2) (fDec (hIt n h ta pl sp we tw cr (mkS br md tu le to ia al) k 3) (fWk (fWaves sp tw (h + k)) (hIt n h ta pl sp we tw cr (mkS br md tu le to ia al) k 2) cr (hIt n h ta pl sp we tw cr (mkS br md tu le to ia al) k 4)) 3)) 3) (fDec (hIt n h ta pl sp we tw cr (mkS br md tu le to ia al) k 3) (fWk (fWaves sp tw (h + k)) (hIt n h ta pl sp we tw cr (mkS br md tu le to ia al) k 2) cr (hIt n h ta pl sp we tw cr (mkS br md tu le to ia al) k 4)) 3) (fDayJ (h + (k + 1)) (fInc (hIt n h ta pl sp we tw cr (mkS br md tu le to ia al) k 4) (hWk (h + k) sp tw cr (hIt n h ta pl sp we tw cr (mkS br md tu le to ia al) k)) 3) i) (fInc (hIt n h ta pl sp we tw cr (mkS br md tu le to ia al) k 5) (fWk (fWaves sp tw (h + k)) (hIt n h ta pl sp we tw cr (mkS br md tu le to ia al) k 2) cr (hIt n h ta pl sp we tw cr (mkS br md tu le to ia al) k 4)) 3) 0) → va_S A s.heap H locs → ∀ (ls : Array Slot), lv_has ls 5 [(0, .ref (b 0)), (1, .int (nI (cl x))), (2, .int (nI k)), (3, .int (nI i))] → W p l e (headSpec wsX5_pass ({ frames := 3, cells := 0, slots := 0, locals := 74 })).room s m ([.ref (b 0), .int x] : List Value).toArray below meth c H locs 0 0 (MQ below (va_Qi (fun (r : Int32) (_ : Unit) => (fun r => cPass h x = 0 → r = nI (h + cl x)) r) (fun _ t9 => kAt D A (wM b cI cZ pl (kIf (cPass h x) (hIt n h ta pl sp we tw cr (mkS br md tu le to ia al) (cl x) 0) br) (kIf (cPass h x) (hIt n h ta pl sp we tw cr (mkS br md tu le to ia al) (cl x) 1) md) (kIf (cPass h x) (hTn n h ta pl sp we tw cr (mkS br md tu le to ia al) tn (cl x)) tn) (nI n) sp we tw sl pr (kIf (cPass h x) (hIt n h ta pl sp we tw cr (mkS br md tu le to ia al) (cl x) 6) al) (kIf (cPass h x) (hMo n h ta pl sp we tw cr sl pr (mkS br md tu le to ia al) mo (cl x)) mo) (kIfi (cPass h x) (nI (h + cl x)) (nI h)) cr (kIf (cPass h x) (hIt n h ta pl sp we tw cr (mkS br md tu le to ia al) (cl x) 2) tu) (kIf (cPass h x) (hIt n h ta pl sp we tw cr (mkS br md tu le to ia al) (cl x) 3) le) (kIf (cPass h x) (hIt n h ta pl sp we tw cr (mkS br md tu le to ia al) (cl x) 4) to) (kIf (cPass h x) (hIt n h ta pl sp we tw cr (mkS br md tu le to ia al) (cl x) 5) ia) (nI (cPass h x))) t9) A) ([.ref (b 0), .int x] : List Value).toArray s 0 0 A) (F0 m 132 ls []) := by
                    intro nn
                    induction nn with
                    | zero => intro i hm; exact absurd hm (by omega)
                    | succ nn ih_132 =>
                      intro i hm hi H locs hP hD hS ls hl
                      refine lv_iload_n hx hb dX5_pass_132 rfl (lv_at hl 3 rfl) ?_
                      refine lv_iconst (v := 3) hx hb dX5_pass_133 (by decide) ?_
                      refine lv_icmp_ge (tgt := 169) hx hb dX5_pass_134 (by decide) (fun c_134 => ?_) (fun c_134 => ?_)
                      · have e8 : i = 3 := by have := (nI_leI (a := 3) (b := i) (by omega) (by omega)).mp c_134; omega
                        rw [e8] at hP hD hl
                        refine lv_iinc (v := nI (k + 1)) (lv' := [(2, .int (nI (k + 1))), (0, .ref (b 0)), (1, .int (nI (cl x))), (3, .int (nI 3))]) hx hb dX5_pass_169 hl (k := 2) rfl (nI_1 _) (by decide) rfl (fun ls hl => ?_)
                        refine lv_goto (tgt := 43) hx hb dX5_pass_172 (by decide) ?_
                        exact ih_43 (k + 1) (by omega) (by omega) _ _ hP hD hS _ (lv_sub hl [1, 2, 0] rfl)
                      · have c_134 : i < 3 := Nat.lt_of_not_le (fun z9 => c_134 ((nI_leI (a := 3) (b := i) (by omega) (by omega)).mpr z9))
                        refine lv_aload_n hx hb dX5_pass_137 rfl (lv_at hl 0 rfl) ?_
                        refine va_get (D := D) (ci := 5) (v := .ref (b 15)) (C := RX5) (T := TX5) (N := 19) hx hb hts (by decide +kernel) hown hK.1 hP 0 rfl rfl 16 (by decide) (hts (.fieldLink RX5 52 "TurbineorchardModel" "today" "[I") (by decide +kernel)) (fun _ h9 => h9) rfl dX5_pass_138 ?_
                        refine lv_iload_n hx hb dX5_pass_141 rfl (lv_at hl 3 rfl) ?_
                        refine lv_aload_n hx hb dX5_pass_142 rfl (lv_at hl 0 rfl) ?_
                        refine va_get (D := D) (ci := 5) (v := .int (nI (h + (k + 1)))) (C := RX5) (T := TX5) (N := 19) hx hb hts (by decide +kernel) hown hK.1 hP 0 rfl rfl 12 (by decide) (hts (.fieldLink RX5 73 "TurbineorchardModel" "now" "I") (by decide +kernel)) (fun _ h9 => h9) rfl dX5_pass_143 ?_
                        refine lv_bipush (v := 24) hx hb dX5_pass_146 (by decide) ?_
                        refine lv_irem hx hb dX5_pass_148 (by decide) ?_
                        refine k_rw (y := nI ((h + (k + 1)) % 24)) (nI_r24 (by omega)) ?_
                        refine lv_if_ne (tgt := 156) hx hb dX5_pass_149 (by decide) (fun c_149 => ?_) (fun c_149 => ?_)
                        · have c_149 : ¬ (h + (k + 1)) % 24 = 0 := fun z9 => c_149 (by rw [z9]; rfl)
                          refine lv_aload_n hx hb dX5_pass_156 rfl (lv_at hl 0 rfl) ?_
                          refine va_get (D := D) (ci := 5) (v := .ref (b 15)) (C := RX5) (T := TX5) (N := 19) hx hb hts (by decide +kernel) hown hK.1 hP 0 rfl rfl 16 (by decide) (hts (.fieldLink RX5 52 "TurbineorchardModel" "today" "[I") (by decide +kernel)) (fun _ h9 => h9) rfl dX5_pass_157 ?_
                          refine lv_iload_n hx hb dX5_pass_160 rfl (lv_at hl 3 rfl) ?_
                          refine k_iald hx hb hK.1 hP 15 0 rfl rfl i (rfl) (by omega) (by decide) dX5_pass_161 ?_
                          refine k_iast hx hb hK.1 hP hD hS 15 0 rfl rfl i (rfl) (by omega) (by decide) dX5_pass_162 (fun H locs hP hD hS => ?_)
                          have hP : va_P D vwCl (wM b cI cZ pl (fBrE (hIt n h ta pl sp we tw cr (mkS br md tu le to ia al) k 0) (hIt n h ta pl sp we tw cr (mkS br md tu le to ia al) k 2) (fEn (hIt n h ta pl sp we tw cr (mkS br md tu le to ia al) k 2) (fDec (hIt n h ta pl sp we tw cr (mkS br md tu le to ia al) k 3) (fWk (fWaves sp tw (h + k)) (hIt n h ta pl sp we tw cr (mkS br md tu le to ia al) k 2) cr (hIt n h ta pl sp we tw cr (mkS br md tu le to ia al) k 4)) 3)) 3) (fAddR (hIt n h ta pl sp we tw cr (mkS br md tu le to ia al) k 1) (hPw n (h + k) ta pl sp we tw cr (hIt n h ta pl sp we tw cr (mkS br md tu le to ia al) k)) n) (hTn n h ta pl sp we tw cr (mkS br md tu le to ia al) tn (k + 1)) (nI n) sp we tw sl pr (upd (hIt n h ta pl sp we tw cr (mkS br md tu le to ia al) k 6) (h + k) (fSum (hPw n (h + k) ta pl sp we tw cr (hIt n h ta pl sp we tw cr (mkS br md tu le to ia al) k)) n)) (upd (hMo n h ta pl sp we tw cr sl pr (mkS br md tu le to ia al) mo k) (h + k) (fBring sl pr (upd (hIt n h ta pl sp we tw cr (mkS br md tu le to ia al) k 6) (h + k) (fSum (hPw n (h + k) ta pl sp we tw cr (hIt n h ta pl sp we tw cr (mkS br md tu le to ia al) k)) n)) (h + k))) (nI (h + (k + 1))) cr (fTuE (hIt n h ta pl sp we tw cr (mkS br md tu le to ia al) k 2) (fEn (hIt n h ta pl sp we tw cr (mkS br md tu le to ia al) k 2) (fDec (hIt n h ta pl sp we tw cr (mkS br md tu le to ia al) k 3) (fWk (fWaves sp tw (h + k)) (hIt n h ta pl sp we tw cr (mkS br md tu le to ia al) k 2) cr (hIt n h ta pl sp we tw cr (mkS br md tu le to ia al) k 4)) 3)) 3) (fDec (hIt n h ta pl sp we tw cr (mkS br md tu le to ia al) k 3) (fWk (fWaves sp tw (h + k)) (hIt n h ta pl sp we tw cr (mkS br md tu le to ia al) k 2) cr (hIt n h ta pl sp we tw cr (mkS br md tu le to ia al) k 4)) 3) (upd (fDayJ (h + (k + 1)) (fInc (hIt n h ta pl sp we tw cr (mkS br md tu le to ia al) k 4) (hWk (h + k) sp tw cr (hIt n h ta pl sp we tw cr (mkS br md tu le to ia al) k)) 3) i) i ((fDayJ (h + (k + 1)) (fInc (hIt n h ta pl sp we tw cr (mkS br md tu le to ia al) k 4) (hWk (h + k) sp tw cr (hIt n h ta pl sp we tw cr (mkS br md tu le to ia al) k)) 3) i) i)) (fInc (hIt n h ta pl sp we tw cr (mkS br md tu le to ia al) k 5) (fWk (fWaves sp tw (h + k)) (hIt n h ta pl sp we tw cr (mkS br md tu le to ia al) k 2) cr (hIt n h ta pl sp we tw cr (mkS br md tu le to ia al) k 4)) 3) 0) H := hP
                          have hD : va_D A (wM b cI cZ pl (fBrE (hIt n h ta pl sp we tw cr (mkS br md tu le to ia al) k 0) (hIt n h ta pl sp we tw cr (mkS br md tu le to ia al) k 2) (fEn (hIt n h ta pl sp we tw cr (mkS br md tu le to ia al) k 2) (fDec (hIt n h ta pl sp we tw cr (mkS br md tu le to ia al) k 3) (fWk (fWaves sp tw (h + k)) (hIt n h ta pl sp we tw cr (mkS br md tu le to ia al) k 2) cr (hIt n h ta pl sp we tw cr (mkS br md tu le to ia al) k 4)) 3)) 3) (fAddR (hIt n h ta pl sp we tw cr (mkS br md tu le to ia al) k 1) (hPw n (h + k) ta pl sp we tw cr (hIt n h ta pl sp we tw cr (mkS br md tu le to ia al) k)) n) (hTn n h ta pl sp we tw cr (mkS br md tu le to ia al) tn (k + 1)) (nI n) sp we tw sl pr (upd (hIt n h ta pl sp we tw cr (mkS br md tu le to ia al) k 6) (h + k) (fSum (hPw n (h + k) ta pl sp we tw cr (hIt n h ta pl sp we tw cr (mkS br md tu le to ia al) k)) n)) (upd (hMo n h ta pl sp we tw cr sl pr (mkS br md tu le to ia al) mo k) (h + k) (fBring sl pr (upd (hIt n h ta pl sp we tw cr (mkS br md tu le to ia al) k 6) (h + k) (fSum (hPw n (h + k) ta pl sp we tw cr (hIt n h ta pl sp we tw cr (mkS br md tu le to ia al) k)) n)) (h + k))) (nI (h + (k + 1))) cr (fTuE (hIt n h ta pl sp we tw cr (mkS br md tu le to ia al) k 2) (fEn (hIt n h ta pl sp we tw cr (mkS br md tu le to ia al) k 2) (fDec (hIt n h ta pl sp we tw cr (mkS br md tu le to ia al) k 3) (fWk (fWaves sp tw (h + k)) (hIt n h ta pl sp we tw cr (mkS br md tu le to ia al) k 2) cr (hIt n h ta pl sp we tw cr (mkS br md tu le to ia al) k 4)) 3)) 3) (fDec (hIt n h ta pl sp we tw cr (mkS br md tu le to ia al) k 3) (fWk (fWaves sp tw (h + k)) (hIt n h ta pl sp we tw cr (mkS br md tu le to ia al) k 2) cr (hIt n h ta pl sp we tw cr (mkS br md tu le to ia al) k 4)) 3) (upd (fDayJ (h + (k + 1)) (fInc (hIt n h ta pl sp we tw cr (mkS br md tu le to ia al) k 4) (hWk (h + k) sp tw cr (hIt n h ta pl sp we tw cr (mkS br md tu le to ia al) k)) 3) i) i ((fDayJ (h + (k + 1)) (fInc (hIt n h ta pl sp we tw cr (mkS br md tu le to ia al) k 4) (hWk (h + k) sp tw cr (hIt n h ta pl sp we tw cr (mkS br md tu le to ia al) k)) 3) i) i)) (fInc (hIt n h ta pl sp we tw cr (mkS br md tu le to ia al) k 5) (fWk (fWaves sp tw (h + k)) (hIt n h ta pl sp we tw cr (mkS br md tu le to ia al) k 2) cr (hIt n h ta pl sp we tw cr (mkS br md tu le to ia al) k 4)) 3) 0) := hD
                          have e9 : (upd (fDayJ (h + (k + 1)) (fInc (hIt n h ta pl sp we tw cr (mkS br md tu le to ia al) k 4) (hWk (h + k) sp tw cr (hIt n h ta pl sp we tw cr (mkS br md tu le to ia al) k)) 3) i) i ((fDayJ (h + (k + 1)) (fInc (hIt n h ta pl sp we tw cr (mkS br md tu le to ia al) k 4) (hWk (h + k) sp tw cr (hIt n h ta pl sp we tw cr (mkS br md tu le to ia al) k)) 3) i) i)) = (fDayJ (h + (k + 1)) (fInc (hIt n h ta pl sp we tw cr (mkS br md tu le to ia al) k 4) (hWk (h + k) sp tw cr (hIt n h ta pl sp we tw cr (mkS br md tu le to ia al) k)) 3) (i + 1)) := fDayJ_f c_149
                          rw [e9] at hP hD
                          clear e9
                          refine lv_iinc (v := nI (i + 1)) (lv' := [(3, .int (nI (i + 1))), (0, .ref (b 0)), (1, .int (nI (cl x))), (2, .int (nI k))]) hx hb dX5_pass_163 hl (k := 3) rfl (nI_1 _) (by decide) rfl (fun ls hl => ?_)
                          refine lv_goto (tgt := 132) hx hb dX5_pass_166 (by decide) ?_
                          exact ih_132 (i + 1) (by omega) (by omega) _ _ hP hD hS _ (lv_sub hl [1, 2, 3, 0] rfl)
                        · have c_149 : (h + (k + 1)) % 24 = 0 := (nI_eq (by omega) (by decide)).mp c_149
                          refine lv_iconst (v := 0) hx hb dX5_pass_152 (by decide) ?_
                          refine lv_goto (tgt := 162) hx hb dX5_pass_153 (by decide) ?_
                          refine k_iast hx hb hK.1 hP hD hS 15 0 rfl rfl i (rfl) (by omega) (by decide) dX5_pass_162 (fun H locs hP hD hS => ?_)
                          have hP : va_P D vwCl (wM b cI cZ pl (fBrE (hIt n h ta pl sp we tw cr (mkS br md tu le to ia al) k 0) (hIt n h ta pl sp we tw cr (mkS br md tu le to ia al) k 2) (fEn (hIt n h ta pl sp we tw cr (mkS br md tu le to ia al) k 2) (fDec (hIt n h ta pl sp we tw cr (mkS br md tu le to ia al) k 3) (fWk (fWaves sp tw (h + k)) (hIt n h ta pl sp we tw cr (mkS br md tu le to ia al) k 2) cr (hIt n h ta pl sp we tw cr (mkS br md tu le to ia al) k 4)) 3)) 3) (fAddR (hIt n h ta pl sp we tw cr (mkS br md tu le to ia al) k 1) (hPw n (h + k) ta pl sp we tw cr (hIt n h ta pl sp we tw cr (mkS br md tu le to ia al) k)) n) (hTn n h ta pl sp we tw cr (mkS br md tu le to ia al) tn (k + 1)) (nI n) sp we tw sl pr (upd (hIt n h ta pl sp we tw cr (mkS br md tu le to ia al) k 6) (h + k) (fSum (hPw n (h + k) ta pl sp we tw cr (hIt n h ta pl sp we tw cr (mkS br md tu le to ia al) k)) n)) (upd (hMo n h ta pl sp we tw cr sl pr (mkS br md tu le to ia al) mo k) (h + k) (fBring sl pr (upd (hIt n h ta pl sp we tw cr (mkS br md tu le to ia al) k 6) (h + k) (fSum (hPw n (h + k) ta pl sp we tw cr (hIt n h ta pl sp we tw cr (mkS br md tu le to ia al) k)) n)) (h + k))) (nI (h + (k + 1))) cr (fTuE (hIt n h ta pl sp we tw cr (mkS br md tu le to ia al) k 2) (fEn (hIt n h ta pl sp we tw cr (mkS br md tu le to ia al) k 2) (fDec (hIt n h ta pl sp we tw cr (mkS br md tu le to ia al) k 3) (fWk (fWaves sp tw (h + k)) (hIt n h ta pl sp we tw cr (mkS br md tu le to ia al) k 2) cr (hIt n h ta pl sp we tw cr (mkS br md tu le to ia al) k 4)) 3)) 3) (fDec (hIt n h ta pl sp we tw cr (mkS br md tu le to ia al) k 3) (fWk (fWaves sp tw (h + k)) (hIt n h ta pl sp we tw cr (mkS br md tu le to ia al) k 2) cr (hIt n h ta pl sp we tw cr (mkS br md tu le to ia al) k 4)) 3) (upd (fDayJ (h + (k + 1)) (fInc (hIt n h ta pl sp we tw cr (mkS br md tu le to ia al) k 4) (hWk (h + k) sp tw cr (hIt n h ta pl sp we tw cr (mkS br md tu le to ia al) k)) 3) i) i 0) (fInc (hIt n h ta pl sp we tw cr (mkS br md tu le to ia al) k 5) (fWk (fWaves sp tw (h + k)) (hIt n h ta pl sp we tw cr (mkS br md tu le to ia al) k 2) cr (hIt n h ta pl sp we tw cr (mkS br md tu le to ia al) k 4)) 3) 0) H := hP
                          have hD : va_D A (wM b cI cZ pl (fBrE (hIt n h ta pl sp we tw cr (mkS br md tu le to ia al) k 0) (hIt n h ta pl sp we tw cr (mkS br md tu le to ia al) k 2) (fEn (hIt n h ta pl sp we tw cr (mkS br md tu le to ia al) k 2) (fDec (hIt n h ta pl sp we tw cr (mkS br md tu le to ia al) k 3) (fWk (fWaves sp tw (h + k)) (hIt n h ta pl sp we tw cr (mkS br md tu le to ia al) k 2) cr (hIt n h ta pl sp we tw cr (mkS br md tu le to ia al) k 4)) 3)) 3) (fAddR (hIt n h ta pl sp we tw cr (mkS br md tu le to ia al) k 1) (hPw n (h + k) ta pl sp we tw cr (hIt n h ta pl sp we tw cr (mkS br md tu le to ia al) k)) n) (hTn n h ta pl sp we tw cr (mkS br md tu le to ia al) tn (k + 1)) (nI n) sp we tw sl pr (upd (hIt n h ta pl sp we tw cr (mkS br md tu le to ia al) k 6) (h + k) (fSum (hPw n (h + k) ta pl sp we tw cr (hIt n h ta pl sp we tw cr (mkS br md tu le to ia al) k)) n)) (upd (hMo n h ta pl sp we tw cr sl pr (mkS br md tu le to ia al) mo k) (h + k) (fBring sl pr (upd (hIt n h ta pl sp we tw cr (mkS br md tu le to ia al) k 6) (h + k) (fSum (hPw n (h + k) ta pl sp we tw cr (hIt n h ta pl sp we tw cr (mkS br md tu le to ia al) k)) n)) (h + k))) (nI (h + (k + 1))) cr (fTuE (hIt n h ta pl sp we tw cr (mkS br md tu le to ia al) k 2) (fEn (hIt n h ta pl sp we tw cr (mkS br md tu le to ia al) k 2) (fDec (hIt n h ta pl sp we tw cr (mkS br md tu le to ia al) k 3) (fWk (fWaves sp tw (h + k)) (hIt n h ta pl sp we tw cr (mkS br md tu le to ia al) k 2) cr (hIt n h ta pl sp we tw cr (mkS br md tu le to ia al) k 4)) 3)) 3) (fDec (hIt n h ta pl sp we tw cr (mkS br md tu le to ia al) k 3) (fWk (fWaves sp tw (h + k)) (hIt n h ta pl sp we tw cr (mkS br md tu le to ia al) k 2) cr (hIt n h ta pl sp we tw cr (mkS br md tu le to ia al) k 4)) 3) (upd (fDayJ (h + (k + 1)) (fInc (hIt n h ta pl sp we tw cr (mkS br md tu le to ia al) k 4) (hWk (h + k) sp tw cr (hIt n h ta pl sp we tw cr (mkS br md tu le to ia al) k)) 3) i) i 0) (fInc (hIt n h ta pl sp we tw cr (mkS br md tu le to ia al) k 5) (fWk (fWaves sp tw (h + k)) (hIt n h ta pl sp we tw cr (mkS br md tu le to ia al) k 2) cr (hIt n h ta pl sp we tw cr (mkS br md tu le to ia al) k 4)) 3) 0) := hD
                          have e9 : (upd (fDayJ (h + (k + 1)) (fInc (hIt n h ta pl sp we tw cr (mkS br md tu le to ia al) k 4) (hWk (h + k) sp tw cr (hIt n h ta pl sp we tw cr (mkS br md tu le to ia al) k)) 3) i) i 0) = (fDayJ (h + (k + 1)) (fInc (hIt n h ta pl sp we tw cr (mkS br md tu le to ia al) k 4) (hWk (h + k) sp tw cr (hIt n h ta pl sp we tw cr (mkS br md tu le to ia al) k)) 3) (i + 1)) := fDayJ_t c_149
                          rw [e9] at hP hD
                          clear e9
                          refine lv_iinc (v := nI (i + 1)) (lv' := [(3, .int (nI (i + 1))), (0, .ref (b 0)), (1, .int (nI (cl x))), (2, .int (nI k))]) hx hb dX5_pass_163 hl (k := 3) rfl (nI_1 _) (by decide) rfl (fun ls hl => ?_)
                          refine lv_goto (tgt := 132) hx hb dX5_pass_166 (by decide) ?_
                          exact ih_132 (i + 1) (by omega) (by omega) _ _ hP hD hS _ (lv_sub hl [1, 2, 3, 0] rfl)
                  exact loop_132 (3 - 0 + 1) 0 (by omega) (by omega) _ _ hP hD hS _ (lv_sub hl [1, 2, 3, 0] rfl)
                · have c_63 : j < n := Nat.lt_of_not_le (fun z9 => c_63 ((nI_leI (a := n) (b := j) (by omega) (by omega)).mpr z9))
                  refine lv_aload_n hx hb dX5_pass_66 rfl (lv_at hl 0 rfl) ?_
                  refine lv_iload_n hx hb dX5_pass_67 rfl (lv_at hl 3 rfl) ?_
                  refine lv_aload_n hx hb dX5_pass_68 rfl (lv_at hl 0 rfl) ?_
                  refine va_get (D := D) (ci := 5) (v := .int (nI (h + k))) (C := RX5) (T := TX5) (N := 19) hx hb hts (by decide +kernel) hown hK.1 hP 0 rfl rfl 12 (by decide) (hts (.fieldLink RX5 73 "TurbineorchardModel" "now" "I") (by decide +kernel)) (fun _ h9 => h9) rfl dX5_pass_69 ?_
                  refine k_rd (As := [.int (nI j), .int (nI (h + k))]) (rest := []) (nL := 5) ⟨hx, hb, hml, hown, hts⟩ hK hP (c_X5_power l D b cI cZ pl (hIt n h ta pl sp we tw cr (mkS br md tu le to ia al) k 0) (fAddR (hIt n h ta pl sp we tw cr (mkS br md tu le to ia al) k 1) (hPw n (h + k) ta pl sp we tw cr (hIt n h ta pl sp we tw cr (mkS br md tu le to ia al) k)) j) (hTn n h ta pl sp we tw cr (mkS br md tu le to ia al) tn (k + 1)) sp we tw sl pr (upd (hIt n h ta pl sp we tw cr (mkS br md tu le to ia al) k 6) (h + k) (fSum (hPw n (h + k) ta pl sp we tw cr (hIt n h ta pl sp we tw cr (mkS br md tu le to ia al) k)) j)) (hMo n h ta pl sp we tw cr sl pr (mkS br md tu le to ia al) mo k) (nI (h + k)) cr (hIt n h ta pl sp we tw cr (mkS br md tu le to ia al) k 2) (fDec (hIt n h ta pl sp we tw cr (mkS br md tu le to ia al) k 3) (fWk (fWaves sp tw (h + k)) (hIt n h ta pl sp we tw cr (mkS br md tu le to ia al) k 2) cr (hIt n h ta pl sp we tw cr (mkS br md tu le to ia al) k 4)) 3) (fInc (hIt n h ta pl sp we tw cr (mkS br md tu le to ia al) k 4) (fWk (fWaves sp tw (h + k)) (hIt n h ta pl sp we tw cr (mkS br md tu le to ia al) k 2) cr (hIt n h ta pl sp we tw cr (mkS br md tu le to ia al) k 4)) 3) (fInc (hIt n h ta pl sp we tw cr (mkS br md tu le to ia al) k 5) (fWk (fWaves sp tw (h + k)) (hIt n h ta pl sp we tw cr (mkS br md tu le to ia al) k 2) cr (hIt n h ta pl sp we tw cr (mkS br md tu le to ia al) k 4)) 3) 0 n j (h + k) (hSt n (h + k) ta pl sp tw cr (hIt n h ta pl sp we tw cr (mkS br md tu le to ia al) k)) (hn) (hpl) (hwe) (htn) (by omega) (by omega)) [0, 1, 2, 3, 4, 5, 6, 7, 8, 9, 10, 11, 12, 13, 14, 15, 16] rfl 0 rfl rfl rfl (cwV 2 hts gX5_pass_X5_power rfl rfl rfl (by decide +kernel) ⟨Nat.le_of_ble_eq_true rfl, Nat.le_of_ble_eq_true rfl⟩) rfl hl.1 rfl (Nat.le_of_ble_eq_true rfl) dX5_pass_72 ⟨Nat.zero_le _, Nat.zero_le _⟩ (fun r9 hr9 => ?_)
                  subst hr9
                  refine k_rw (y := (hPw n (h + k) ta pl sp we tw cr (hIt n h ta pl sp we tw cr (mkS br md tu le to ia al) k)) j) (rfl) ?_
                  refine lv_istore (lv' := [(4, .int ((hPw n (h + k) ta pl sp we tw cr (hIt n h ta pl sp we tw cr (mkS br md tu le to ia al) k)) j)), (0, .ref (b 0)), (1, .int (nI (cl x))), (2, .int (nI k)), (3, .int (nI j))]) hx hb dX5_pass_75 hl (by decide) rfl (fun ls hl => ?_)
                  refine lv_aload_n hx hb dX5_pass_77 rfl (lv_at hl 1 rfl) ?_
                  refine va_get (D := D) (ci := 5) (v := .ref (b 3)) (C := RX5) (T := TX5) (N := 19) hx hb hts (by decide +kernel) hown hK.1 hP 0 rfl rfl 2 (by decide) (hts (.fieldLink RX5 16 "TurbineorchardModel" "made" "[I") (by decide +kernel)) (fun _ h9 => h9) rfl dX5_pass_78 ?_
                  refine lv_iload_n hx hb dX5_pass_81 rfl (lv_at hl 4 rfl) ?_
                  refine lv_dup2_11 hx hb dX5_pass_82 rfl rfl ?_
                  refine k_iald hx hb hK.1 hP 3 0 rfl rfl j (rfl) (by omega) (by decide) dX5_pass_83 ?_
                  refine lv_iload hx hb dX5_pass_84 (lv_at hl 0 rfl) ?_
                  refine lv_iadd hx hb dX5_pass_86 ?_
                  refine k_iast hx hb hK.1 hP hD hS 3 0 rfl rfl j (rfl) (by omega) (by decide) dX5_pass_87 (fun H locs hP hD hS => ?_)
                  have hP : va_P D vwCl (wM b cI cZ pl (hIt n h ta pl sp we tw cr (mkS br md tu le to ia al) k 0) (upd (fAddR (hIt n h ta pl sp we tw cr (mkS br md tu le to ia al) k 1) (hPw n (h + k) ta pl sp we tw cr (hIt n h ta pl sp we tw cr (mkS br md tu le to ia al) k)) j) j (((fAddR (hIt n h ta pl sp we tw cr (mkS br md tu le to ia al) k 1) (hPw n (h + k) ta pl sp we tw cr (hIt n h ta pl sp we tw cr (mkS br md tu le to ia al) k)) j) j) + ((hPw n (h + k) ta pl sp we tw cr (hIt n h ta pl sp we tw cr (mkS br md tu le to ia al) k)) j))) (hTn n h ta pl sp we tw cr (mkS br md tu le to ia al) tn (k + 1)) (nI n) sp we tw sl pr (upd (hIt n h ta pl sp we tw cr (mkS br md tu le to ia al) k 6) (h + k) (fSum (hPw n (h + k) ta pl sp we tw cr (hIt n h ta pl sp we tw cr (mkS br md tu le to ia al) k)) j)) (hMo n h ta pl sp we tw cr sl pr (mkS br md tu le to ia al) mo k) (nI (h + k)) cr (hIt n h ta pl sp we tw cr (mkS br md tu le to ia al) k 2) (fDec (hIt n h ta pl sp we tw cr (mkS br md tu le to ia al) k 3) (fWk (fWaves sp tw (h + k)) (hIt n h ta pl sp we tw cr (mkS br md tu le to ia al) k 2) cr (hIt n h ta pl sp we tw cr (mkS br md tu le to ia al) k 4)) 3) (fInc (hIt n h ta pl sp we tw cr (mkS br md tu le to ia al) k 4) (fWk (fWaves sp tw (h + k)) (hIt n h ta pl sp we tw cr (mkS br md tu le to ia al) k 2) cr (hIt n h ta pl sp we tw cr (mkS br md tu le to ia al) k 4)) 3) (fInc (hIt n h ta pl sp we tw cr (mkS br md tu le to ia al) k 5) (fWk (fWaves sp tw (h + k)) (hIt n h ta pl sp we tw cr (mkS br md tu le to ia al) k 2) cr (hIt n h ta pl sp we tw cr (mkS br md tu le to ia al) k 4)) 3) 0) H := hP
                  have hD : va_D A (wM b cI cZ pl (hIt n h ta pl sp we tw cr (mkS br md tu le to ia al) k 0) (upd (fAddR (hIt n h ta pl sp we tw cr (mkS br md tu le to ia al) k 1) (hPw n (h + k) ta pl sp we tw cr (hIt n h ta pl sp we tw cr (mkS br md tu le to ia al) k)) j) j (((fAddR (hIt n h ta pl sp we tw cr (mkS br md tu le to ia al) k 1) (hPw n (h + k) ta pl sp we tw cr (hIt n h ta pl sp we tw cr (mkS br md tu le to ia al) k)) j) j) + ((hPw n (h + k) ta pl sp we tw cr (hIt n h ta pl sp we tw cr (mkS br md tu le to ia al) k)) j))) (hTn n h ta pl sp we tw cr (mkS br md tu le to ia al) tn (k + 1)) (nI n) sp we tw sl pr (upd (hIt n h ta pl sp we tw cr (mkS br md tu le to ia al) k 6) (h + k) (fSum (hPw n (h + k) ta pl sp we tw cr (hIt n h ta pl sp we tw cr (mkS br md tu le to ia al) k)) j)) (hMo n h ta pl sp we tw cr sl pr (mkS br md tu le to ia al) mo k) (nI (h + k)) cr (hIt n h ta pl sp we tw cr (mkS br md tu le to ia al) k 2) (fDec (hIt n h ta pl sp we tw cr (mkS br md tu le to ia al) k 3) (fWk (fWaves sp tw (h + k)) (hIt n h ta pl sp we tw cr (mkS br md tu le to ia al) k 2) cr (hIt n h ta pl sp we tw cr (mkS br md tu le to ia al) k 4)) 3) (fInc (hIt n h ta pl sp we tw cr (mkS br md tu le to ia al) k 4) (fWk (fWaves sp tw (h + k)) (hIt n h ta pl sp we tw cr (mkS br md tu le to ia al) k 2) cr (hIt n h ta pl sp we tw cr (mkS br md tu le to ia al) k 4)) 3) (fInc (hIt n h ta pl sp we tw cr (mkS br md tu le to ia al) k 5) (fWk (fWaves sp tw (h + k)) (hIt n h ta pl sp we tw cr (mkS br md tu le to ia al) k 2) cr (hIt n h ta pl sp we tw cr (mkS br md tu le to ia al) k 4)) 3) 0) := hD
                  have e9 : (upd (fAddR (hIt n h ta pl sp we tw cr (mkS br md tu le to ia al) k 1) (hPw n (h + k) ta pl sp we tw cr (hIt n h ta pl sp we tw cr (mkS br md tu le to ia al) k)) j) j (((fAddR (hIt n h ta pl sp we tw cr (mkS br md tu le to ia al) k 1) (hPw n (h + k) ta pl sp we tw cr (hIt n h ta pl sp we tw cr (mkS br md tu le to ia al) k)) j) j) + ((hPw n (h + k) ta pl sp we tw cr (hIt n h ta pl sp we tw cr (mkS br md tu le to ia al) k)) j))) = (fAddR (hIt n h ta pl sp we tw cr (mkS br md tu le to ia al) k 1) (hPw n (h + k) ta pl sp we tw cr (hIt n h ta pl sp we tw cr (mkS br md tu le to ia al) k)) (j + 1)) := fAddR_1 _ _ _
                  rw [e9] at hP hD
                  clear e9
                  refine lv_aload_n hx hb dX5_pass_88 rfl (lv_at hl 1 rfl) ?_
                  refine va_get (D := D) (ci := 5) (v := .ref (b 10)) (C := RX5) (T := TX5) (N := 19) hx hb hts (by decide +kernel) hown hK.1 hP 0 rfl rfl 10 (by decide) (hts (.fieldLink RX5 37 "TurbineorchardModel" "all" "[I") (by decide +kernel)) (fun _ h9 => h9) rfl dX5_pass_89 ?_
                  refine lv_aload_n hx hb dX5_pass_92 rfl (lv_at hl 1 rfl) ?_
                  refine va_get (D := D) (ci := 5) (v := .int (nI (h + k))) (C := RX5) (T := TX5) (N := 19) hx hb hts (by decide +kernel) hown hK.1 hP 0 rfl rfl 12 (by decide) (hts (.fieldLink RX5 73 "TurbineorchardModel" "now" "I") (by decide +kernel)) (fun _ h9 => h9) rfl dX5_pass_93 ?_
                  refine lv_dup2_11 hx hb dX5_pass_96 rfl rfl ?_
                  refine k_iald hx hb hK.1 hP 10 0 rfl rfl (h + k) (rfl) (by omega) (by decide) dX5_pass_97 ?_
                  refine lv_iload hx hb dX5_pass_98 (lv_at hl 0 rfl) ?_
                  refine lv_iadd hx hb dX5_pass_100 ?_
                  refine k_iast hx hb hK.1 hP hD hS 10 0 rfl rfl (h + k) (rfl) (by omega) (by decide) dX5_pass_101 (fun H locs hP hD hS => ?_)
                  have hP : va_P D vwCl (wM b cI cZ pl (hIt n h ta pl sp we tw cr (mkS br md tu le to ia al) k 0) (fAddR (hIt n h ta pl sp we tw cr (mkS br md tu le to ia al) k 1) (hPw n (h + k) ta pl sp we tw cr (hIt n h ta pl sp we tw cr (mkS br md tu le to ia al) k)) (j + 1)) (hTn n h ta pl sp we tw cr (mkS br md tu le to ia al) tn (k + 1)) (nI n) sp we tw sl pr (upd (upd (hIt n h ta pl sp we tw cr (mkS br md tu le to ia al) k 6) (h + k) (fSum (hPw n (h + k) ta pl sp we tw cr (hIt n h ta pl sp we tw cr (mkS br md tu le to ia al) k)) j)) (h + k) (((upd (hIt n h ta pl sp we tw cr (mkS br md tu le to ia al) k 6) (h + k) (fSum (hPw n (h + k) ta pl sp we tw cr (hIt n h ta pl sp we tw cr (mkS br md tu le to ia al) k)) j)) (h + k)) + ((hPw n (h + k) ta pl sp we tw cr (hIt n h ta pl sp we tw cr (mkS br md tu le to ia al) k)) j))) (hMo n h ta pl sp we tw cr sl pr (mkS br md tu le to ia al) mo k) (nI (h + k)) cr (hIt n h ta pl sp we tw cr (mkS br md tu le to ia al) k 2) (fDec (hIt n h ta pl sp we tw cr (mkS br md tu le to ia al) k 3) (fWk (fWaves sp tw (h + k)) (hIt n h ta pl sp we tw cr (mkS br md tu le to ia al) k 2) cr (hIt n h ta pl sp we tw cr (mkS br md tu le to ia al) k 4)) 3) (fInc (hIt n h ta pl sp we tw cr (mkS br md tu le to ia al) k 4) (fWk (fWaves sp tw (h + k)) (hIt n h ta pl sp we tw cr (mkS br md tu le to ia al) k 2) cr (hIt n h ta pl sp we tw cr (mkS br md tu le to ia al) k 4)) 3) (fInc (hIt n h ta pl sp we tw cr (mkS br md tu le to ia al) k 5) (fWk (fWaves sp tw (h + k)) (hIt n h ta pl sp we tw cr (mkS br md tu le to ia al) k 2) cr (hIt n h ta pl sp we tw cr (mkS br md tu le to ia al) k 4)) 3) 0) H := hP
                  have hD : va_D A (wM b cI cZ pl (hIt n h ta pl sp we tw cr (mkS br md tu le to ia al) k 0) (fAddR (hIt n h ta pl sp we tw cr (mkS br md tu le to ia al) k 1) (hPw n (h + k) ta pl sp we tw cr (hIt n h ta pl sp we tw cr (mkS br md tu le to ia al) k)) (j + 1)) (hTn n h ta pl sp we tw cr (mkS br md tu le to ia al) tn (k + 1)) (nI n) sp we tw sl pr (upd (upd (hIt n h ta pl sp we tw cr (mkS br md tu le to ia al) k 6) (h + k) (fSum (hPw n (h + k) ta pl sp we tw cr (hIt n h ta pl sp we tw cr (mkS br md tu le to ia al) k)) j)) (h + k) (((upd (hIt n h ta pl sp we tw cr (mkS br md tu le to ia al) k 6) (h + k) (fSum (hPw n (h + k) ta pl sp we tw cr (hIt n h ta pl sp we tw cr (mkS br md tu le to ia al) k)) j)) (h + k)) + ((hPw n (h + k) ta pl sp we tw cr (hIt n h ta pl sp we tw cr (mkS br md tu le to ia al) k)) j))) (hMo n h ta pl sp we tw cr sl pr (mkS br md tu le to ia al) mo k) (nI (h + k)) cr (hIt n h ta pl sp we tw cr (mkS br md tu le to ia al) k 2) (fDec (hIt n h ta pl sp we tw cr (mkS br md tu le to ia al) k 3) (fWk (fWaves sp tw (h + k)) (hIt n h ta pl sp we tw cr (mkS br md tu le to ia al) k 2) cr (hIt n h ta pl sp we tw cr (mkS br md tu le to ia al) k 4)) 3) (fInc (hIt n h ta pl sp we tw cr (mkS br md tu le to ia al) k 4) (fWk (fWaves sp tw (h + k)) (hIt n h ta pl sp we tw cr (mkS br md tu le to ia al) k 2) cr (hIt n h ta pl sp we tw cr (mkS br md tu le to ia al) k 4)) 3) (fInc (hIt n h ta pl sp we tw cr (mkS br md tu le to ia al) k 5) (fWk (fWaves sp tw (h + k)) (hIt n h ta pl sp we tw cr (mkS br md tu le to ia al) k 2) cr (hIt n h ta pl sp we tw cr (mkS br md tu le to ia al) k 4)) 3) 0) := hD
                  have e9 : (upd (upd (hIt n h ta pl sp we tw cr (mkS br md tu le to ia al) k 6) (h + k) (fSum (hPw n (h + k) ta pl sp we tw cr (hIt n h ta pl sp we tw cr (mkS br md tu le to ia al) k)) j)) (h + k) (((upd (hIt n h ta pl sp we tw cr (mkS br md tu le to ia al) k 6) (h + k) (fSum (hPw n (h + k) ta pl sp we tw cr (hIt n h ta pl sp we tw cr (mkS br md tu le to ia al) k)) j)) (h + k)) + ((hPw n (h + k) ta pl sp we tw cr (hIt n h ta pl sp we tw cr (mkS br md tu le to ia al) k)) j))) = (upd (hIt n h ta pl sp we tw cr (mkS br md tu le to ia al) k 6) (h + k) (fSum (hPw n (h + k) ta pl sp we tw cr (hIt n h ta pl sp we tw cr (mkS br md tu le to ia al) k)) (j + 1))) := by rw [upd_at, upd_upd]; rfl
                  rw [e9] at hP hD
                  clear e9
                  refine lv_iinc (v := nI (j + 1)) (lv' := [(3, .int (nI (j + 1))), (4, .int ((hPw n (h + k) ta pl sp we tw cr (hIt n h ta pl sp we tw cr (mkS br md tu le to ia al) k)) j)), (0, .ref (b 0)), (1, .int (nI (cl x))), (2, .int (nI k))]) hx hb dX5_pass_102 hl (k := 4) rfl (nI_1 _) (by decide) rfl (fun ls hl => ?_)
                  refine lv_goto (tgt := 58) hx hb dX5_pass_105 (by decide) ?_
                  exact ih_58 (j + 1) (by omega) (by omega) _ _ hP hD hS _ (lv_sub hl [2, 3, 4, 0] rfl)
            exact loop_58 (n - 0 + 1) 0 (by omega) (by omega) _ _ hP hD hS _ (lv_sub hl [1, 2, 3, 0] rfl)
      exact loop_43 (cl x - 0 + 1) 0 (by omega) (by omega) _ _ hP hD hS _ (lv_sub hl [1, 2, 0] rfl)
    · have c_25 : ¬ h + cl x ≤ 479 := fun z9 => c_25 ((nI_leI (a := h + cl x) (b := 479) (by omega) (by omega)).mpr z9)
      refine lv_iconst (v := 2) hx hb dX5_pass_28 (by decide) ?_
      refine lv_goto (tgt := 33) hx hb dX5_pass_29 (by decide) ?_
      refine k_ui (WR := []) (WN := (wM b cI cZ pl br md tn (nI n) sp we tw sl pr al mo (nI h) cr tu le to ia 2)) (As := [.int 2]) (rest := []) (nL := 5) ⟨hx, hb, hml, hown, hts⟩ hK hP hD hS hA (c_X5_fails l D b cI cZ _ pl br md tn (nI n) sp we tw sl pr al mo (nI h) cr tu le to ia th 2) [0, 1, 2, 3, 4, 5, 6, 7, 8, 9, 10, 11, 12, 13, 14, 15, 16] [] [0, 1, 2, 3, 4, 5, 6, 7, 8, 9, 10, 11, 12, 13, 14, 15, 16] rfl rfl (by decide) rfl (by decide) (by decide) rfl rfl (by decide) 0 rfl rfl rfl (cwV 1 hts gX5_pass_X5_fails rfl rfl rfl (by decide +kernel) ⟨Nat.le_of_ble_eq_true rfl, Nat.le_of_ble_eq_true rfl⟩) rfl hl.1 rfl (Nat.le_of_ble_eq_true rfl) dX5_pass_33 ⟨Nat.zero_le _, Nat.zero_le _⟩ (fun r9 H locs hr9 hP hD hS => ?_)
      subst hr9
      refine lv_if_eq (tgt := 41) hx hb dX5_pass_36 (by decide) (fun c_36 => by first | exact absurd c_36 (by decide) | exact absurd (by decide) c_36) (fun c_36 => ?_)
      have e9 : (kIfi (cPass h x) (nI (h + cl x)) (nI h)) = (nI h) := kIfi_s (fun z9 => absurd (z9.symm.trans (show cPass h x = 2 from by unfold cPass; rw [if_pos c_9, if_neg c_25])) (by decide))
      have hP : va_P D vwCl (wM b cI cZ pl br md tn (nI n) sp we tw sl pr al mo (kIfi (cPass h x) (nI (h + cl x)) (nI h)) cr tu le to ia 2) H := by rw [e9]; exact hP
      have hD : va_D A (wM b cI cZ pl br md tn (nI n) sp we tw sl pr al mo (kIfi (cPass h x) (nI (h + cl x)) (nI h)) cr tu le to ia 2) := by rw [e9]; exact hD
      clear e9
      have e9 : (kIf (cPass h x) (hTn n h ta pl sp we tw cr (mkS br md tu le to ia al) tn (cl x)) tn) = tn := kIf_s (fun z9 => absurd (z9.symm.trans (show cPass h x = 2 from by unfold cPass; rw [if_pos c_9, if_neg c_25])) (by decide))
      have hP : va_P D vwCl (wM b cI cZ pl br md (kIf (cPass h x) (hTn n h ta pl sp we tw cr (mkS br md tu le to ia al) tn (cl x)) tn) (nI n) sp we tw sl pr al mo (kIfi (cPass h x) (nI (h + cl x)) (nI h)) cr tu le to ia 2) H := by rw [e9]; exact hP
      have hD : va_D A (wM b cI cZ pl br md (kIf (cPass h x) (hTn n h ta pl sp we tw cr (mkS br md tu le to ia al) tn (cl x)) tn) (nI n) sp we tw sl pr al mo (kIfi (cPass h x) (nI (h + cl x)) (nI h)) cr tu le to ia 2) := by rw [e9]; exact hD
      clear e9
      have e9 : (kIf (cPass h x) (hMo n h ta pl sp we tw cr sl pr (mkS br md tu le to ia al) mo (cl x)) mo) = mo := kIf_s (fun z9 => absurd (z9.symm.trans (show cPass h x = 2 from by unfold cPass; rw [if_pos c_9, if_neg c_25])) (by decide))
      have hP : va_P D vwCl (wM b cI cZ pl br md (kIf (cPass h x) (hTn n h ta pl sp we tw cr (mkS br md tu le to ia al) tn (cl x)) tn) (nI n) sp we tw sl pr al (kIf (cPass h x) (hMo n h ta pl sp we tw cr sl pr (mkS br md tu le to ia al) mo (cl x)) mo) (kIfi (cPass h x) (nI (h + cl x)) (nI h)) cr tu le to ia 2) H := by rw [e9]; exact hP
      have hD : va_D A (wM b cI cZ pl br md (kIf (cPass h x) (hTn n h ta pl sp we tw cr (mkS br md tu le to ia al) tn (cl x)) tn) (nI n) sp we tw sl pr al (kIf (cPass h x) (hMo n h ta pl sp we tw cr sl pr (mkS br md tu le to ia al) mo (cl x)) mo) (kIfi (cPass h x) (nI (h + cl x)) (nI h)) cr tu le to ia 2) := by rw [e9]; exact hD
      clear e9
      have e9 : (kIf (cPass h x) (hIt n h ta pl sp we tw cr (mkS br md tu le to ia al) (cl x) 1) md) = md := kIf_s (fun z9 => absurd (z9.symm.trans (show cPass h x = 2 from by unfold cPass; rw [if_pos c_9, if_neg c_25])) (by decide))
      have hP : va_P D vwCl (wM b cI cZ pl br (kIf (cPass h x) (hIt n h ta pl sp we tw cr (mkS br md tu le to ia al) (cl x) 1) md) (kIf (cPass h x) (hTn n h ta pl sp we tw cr (mkS br md tu le to ia al) tn (cl x)) tn) (nI n) sp we tw sl pr al (kIf (cPass h x) (hMo n h ta pl sp we tw cr sl pr (mkS br md tu le to ia al) mo (cl x)) mo) (kIfi (cPass h x) (nI (h + cl x)) (nI h)) cr tu le to ia 2) H := by rw [e9]; exact hP
      have hD : va_D A (wM b cI cZ pl br (kIf (cPass h x) (hIt n h ta pl sp we tw cr (mkS br md tu le to ia al) (cl x) 1) md) (kIf (cPass h x) (hTn n h ta pl sp we tw cr (mkS br md tu le to ia al) tn (cl x)) tn) (nI n) sp we tw sl pr al (kIf (cPass h x) (hMo n h ta pl sp we tw cr sl pr (mkS br md tu le to ia al) mo (cl x)) mo) (kIfi (cPass h x) (nI (h + cl x)) (nI h)) cr tu le to ia 2) := by rw [e9]; exact hD
      clear e9
      have e9 : (kIf (cPass h x) (hIt n h ta pl sp we tw cr (mkS br md tu le to ia al) (cl x) 6) al) = al := kIf_s (fun z9 => absurd (z9.symm.trans (show cPass h x = 2 from by unfold cPass; rw [if_pos c_9, if_neg c_25])) (by decide))
      have hP : va_P D vwCl (wM b cI cZ pl br (kIf (cPass h x) (hIt n h ta pl sp we tw cr (mkS br md tu le to ia al) (cl x) 1) md) (kIf (cPass h x) (hTn n h ta pl sp we tw cr (mkS br md tu le to ia al) tn (cl x)) tn) (nI n) sp we tw sl pr (kIf (cPass h x) (hIt n h ta pl sp we tw cr (mkS br md tu le to ia al) (cl x) 6) al) (kIf (cPass h x) (hMo n h ta pl sp we tw cr sl pr (mkS br md tu le to ia al) mo (cl x)) mo) (kIfi (cPass h x) (nI (h + cl x)) (nI h)) cr tu le to ia 2) H := by rw [e9]; exact hP
      have hD : va_D A (wM b cI cZ pl br (kIf (cPass h x) (hIt n h ta pl sp we tw cr (mkS br md tu le to ia al) (cl x) 1) md) (kIf (cPass h x) (hTn n h ta pl sp we tw cr (mkS br md tu le to ia al) tn (cl x)) tn) (nI n) sp we tw sl pr (kIf (cPass h x) (hIt n h ta pl sp we tw cr (mkS br md tu le to ia al) (cl x) 6) al) (kIf (cPass h x) (hMo n h ta pl sp we tw cr sl pr (mkS br md tu le to ia al) mo (cl x)) mo) (kIfi (cPass h x) (nI (h + cl x)) (nI h)) cr tu le to ia 2) := by rw [e9]; exact hD
      clear e9
      have e9 : (kIf (cPass h x) (hIt n h ta pl sp we tw cr (mkS br md tu le to ia al) (cl x) 5) ia) = ia := kIf_s (fun z9 => absurd (z9.symm.trans (show cPass h x = 2 from by unfold cPass; rw [if_pos c_9, if_neg c_25])) (by decide))
      have hP : va_P D vwCl (wM b cI cZ pl br (kIf (cPass h x) (hIt n h ta pl sp we tw cr (mkS br md tu le to ia al) (cl x) 1) md) (kIf (cPass h x) (hTn n h ta pl sp we tw cr (mkS br md tu le to ia al) tn (cl x)) tn) (nI n) sp we tw sl pr (kIf (cPass h x) (hIt n h ta pl sp we tw cr (mkS br md tu le to ia al) (cl x) 6) al) (kIf (cPass h x) (hMo n h ta pl sp we tw cr sl pr (mkS br md tu le to ia al) mo (cl x)) mo) (kIfi (cPass h x) (nI (h + cl x)) (nI h)) cr tu le to (kIf (cPass h x) (hIt n h ta pl sp we tw cr (mkS br md tu le to ia al) (cl x) 5) ia) 2) H := by rw [e9]; exact hP
      have hD : va_D A (wM b cI cZ pl br (kIf (cPass h x) (hIt n h ta pl sp we tw cr (mkS br md tu le to ia al) (cl x) 1) md) (kIf (cPass h x) (hTn n h ta pl sp we tw cr (mkS br md tu le to ia al) tn (cl x)) tn) (nI n) sp we tw sl pr (kIf (cPass h x) (hIt n h ta pl sp we tw cr (mkS br md tu le to ia al) (cl x) 6) al) (kIf (cPass h x) (hMo n h ta pl sp we tw cr sl pr (mkS br md tu le to ia al) mo (cl x)) mo) (kIfi (cPass h x) (nI (h + cl x)) (nI h)) cr tu le to (kIf (cPass h x) (hIt n h ta pl sp we tw cr (mkS br md tu le to ia al) (cl x) 5) ia) 2) := by rw [e9]; exact hD
      clear e9
      have e9 : (kIf (cPass h x) (hIt n h ta pl sp we tw cr (mkS br md tu le to ia al) (cl x) 4) to) = to := kIf_s (fun z9 => absurd (z9.symm.trans (show cPass h x = 2 from by unfold cPass; rw [if_pos c_9, if_neg c_25])) (by decide))
      have hP : va_P D vwCl (wM b cI cZ pl br (kIf (cPass h x) (hIt n h ta pl sp we tw cr (mkS br md tu le to ia al) (cl x) 1) md) (kIf (cPass h x) (hTn n h ta pl sp we tw cr (mkS br md tu le to ia al) tn (cl x)) tn) (nI n) sp we tw sl pr (kIf (cPass h x) (hIt n h ta pl sp we tw cr (mkS br md tu le to ia al) (cl x) 6) al) (kIf (cPass h x) (hMo n h ta pl sp we tw cr sl pr (mkS br md tu le to ia al) mo (cl x)) mo) (kIfi (cPass h x) (nI (h + cl x)) (nI h)) cr tu le (kIf (cPass h x) (hIt n h ta pl sp we tw cr (mkS br md tu le to ia al) (cl x) 4) to) (kIf (cPass h x) (hIt n h ta pl sp we tw cr (mkS br md tu le to ia al) (cl x) 5) ia) 2) H := by rw [e9]; exact hP
      have hD : va_D A (wM b cI cZ pl br (kIf (cPass h x) (hIt n h ta pl sp we tw cr (mkS br md tu le to ia al) (cl x) 1) md) (kIf (cPass h x) (hTn n h ta pl sp we tw cr (mkS br md tu le to ia al) tn (cl x)) tn) (nI n) sp we tw sl pr (kIf (cPass h x) (hIt n h ta pl sp we tw cr (mkS br md tu le to ia al) (cl x) 6) al) (kIf (cPass h x) (hMo n h ta pl sp we tw cr sl pr (mkS br md tu le to ia al) mo (cl x)) mo) (kIfi (cPass h x) (nI (h + cl x)) (nI h)) cr tu le (kIf (cPass h x) (hIt n h ta pl sp we tw cr (mkS br md tu le to ia al) (cl x) 4) to) (kIf (cPass h x) (hIt n h ta pl sp we tw cr (mkS br md tu le to ia al) (cl x) 5) ia) 2) := by rw [e9]; exact hD
      clear e9
      have e9 : (kIf (cPass h x) (hIt n h ta pl sp we tw cr (mkS br md tu le to ia al) (cl x) 3) le) = le := kIf_s (fun z9 => absurd (z9.symm.trans (show cPass h x = 2 from by unfold cPass; rw [if_pos c_9, if_neg c_25])) (by decide))
      have hP : va_P D vwCl (wM b cI cZ pl br (kIf (cPass h x) (hIt n h ta pl sp we tw cr (mkS br md tu le to ia al) (cl x) 1) md) (kIf (cPass h x) (hTn n h ta pl sp we tw cr (mkS br md tu le to ia al) tn (cl x)) tn) (nI n) sp we tw sl pr (kIf (cPass h x) (hIt n h ta pl sp we tw cr (mkS br md tu le to ia al) (cl x) 6) al) (kIf (cPass h x) (hMo n h ta pl sp we tw cr sl pr (mkS br md tu le to ia al) mo (cl x)) mo) (kIfi (cPass h x) (nI (h + cl x)) (nI h)) cr tu (kIf (cPass h x) (hIt n h ta pl sp we tw cr (mkS br md tu le to ia al) (cl x) 3) le) (kIf (cPass h x) (hIt n h ta pl sp we tw cr (mkS br md tu le to ia al) (cl x) 4) to) (kIf (cPass h x) (hIt n h ta pl sp we tw cr (mkS br md tu le to ia al) (cl x) 5) ia) 2) H := by rw [e9]; exact hP
      have hD : va_D A (wM b cI cZ pl br (kIf (cPass h x) (hIt n h ta pl sp we tw cr (mkS br md tu le to ia al) (cl x) 1) md) (kIf (cPass h x) (hTn n h ta pl sp we tw cr (mkS br md tu le to ia al) tn (cl x)) tn) (nI n) sp we tw sl pr (kIf (cPass h x) (hIt n h ta pl sp we tw cr (mkS br md tu le to ia al) (cl x) 6) al) (kIf (cPass h x) (hMo n h ta pl sp we tw cr sl pr (mkS br md tu le to ia al) mo (cl x)) mo) (kIfi (cPass h x) (nI (h + cl x)) (nI h)) cr tu (kIf (cPass h x) (hIt n h ta pl sp we tw cr (mkS br md tu le to ia al) (cl x) 3) le) (kIf (cPass h x) (hIt n h ta pl sp we tw cr (mkS br md tu le to ia al) (cl x) 4) to) (kIf (cPass h x) (hIt n h ta pl sp we tw cr (mkS br md tu le to ia al) (cl x) 5) ia) 2) := by rw [e9]; exact hD
      clear e9
      have e9 : (kIf (cPass h x) (hIt n h ta pl sp we tw cr (mkS br md tu le to ia al) (cl x) 2) tu) = tu := kIf_s (fun z9 => absurd (z9.symm.trans (show cPass h x = 2 from by unfold cPass; rw [if_pos c_9, if_neg c_25])) (by decide))
      have hP : va_P D vwCl (wM b cI cZ pl br (kIf (cPass h x) (hIt n h ta pl sp we tw cr (mkS br md tu le to ia al) (cl x) 1) md) (kIf (cPass h x) (hTn n h ta pl sp we tw cr (mkS br md tu le to ia al) tn (cl x)) tn) (nI n) sp we tw sl pr (kIf (cPass h x) (hIt n h ta pl sp we tw cr (mkS br md tu le to ia al) (cl x) 6) al) (kIf (cPass h x) (hMo n h ta pl sp we tw cr sl pr (mkS br md tu le to ia al) mo (cl x)) mo) (kIfi (cPass h x) (nI (h + cl x)) (nI h)) cr (kIf (cPass h x) (hIt n h ta pl sp we tw cr (mkS br md tu le to ia al) (cl x) 2) tu) (kIf (cPass h x) (hIt n h ta pl sp we tw cr (mkS br md tu le to ia al) (cl x) 3) le) (kIf (cPass h x) (hIt n h ta pl sp we tw cr (mkS br md tu le to ia al) (cl x) 4) to) (kIf (cPass h x) (hIt n h ta pl sp we tw cr (mkS br md tu le to ia al) (cl x) 5) ia) 2) H := by rw [e9]; exact hP
      have hD : va_D A (wM b cI cZ pl br (kIf (cPass h x) (hIt n h ta pl sp we tw cr (mkS br md tu le to ia al) (cl x) 1) md) (kIf (cPass h x) (hTn n h ta pl sp we tw cr (mkS br md tu le to ia al) tn (cl x)) tn) (nI n) sp we tw sl pr (kIf (cPass h x) (hIt n h ta pl sp we tw cr (mkS br md tu le to ia al) (cl x) 6) al) (kIf (cPass h x) (hMo n h ta pl sp we tw cr sl pr (mkS br md tu le to ia al) mo (cl x)) mo) (kIfi (cPass h x) (nI (h + cl x)) (nI h)) cr (kIf (cPass h x) (hIt n h ta pl sp we tw cr (mkS br md tu le to ia al) (cl x) 2) tu) (kIf (cPass h x) (hIt n h ta pl sp we tw cr (mkS br md tu le to ia al) (cl x) 3) le) (kIf (cPass h x) (hIt n h ta pl sp we tw cr (mkS br md tu le to ia al) (cl x) 4) to) (kIf (cPass h x) (hIt n h ta pl sp we tw cr (mkS br md tu le to ia al) (cl x) 5) ia) 2) := by rw [e9]; exact hD
      clear e9
      have e9 : (kIf (cPass h x) (hIt n h ta pl sp we tw cr (mkS br md tu le to ia al) (cl x) 0) br) = br := kIf_s (fun z9 => absurd (z9.symm.trans (show cPass h x = 2 from by unfold cPass; rw [if_pos c_9, if_neg c_25])) (by decide))
      have hP : va_P D vwCl (wM b cI cZ pl (kIf (cPass h x) (hIt n h ta pl sp we tw cr (mkS br md tu le to ia al) (cl x) 0) br) (kIf (cPass h x) (hIt n h ta pl sp we tw cr (mkS br md tu le to ia al) (cl x) 1) md) (kIf (cPass h x) (hTn n h ta pl sp we tw cr (mkS br md tu le to ia al) tn (cl x)) tn) (nI n) sp we tw sl pr (kIf (cPass h x) (hIt n h ta pl sp we tw cr (mkS br md tu le to ia al) (cl x) 6) al) (kIf (cPass h x) (hMo n h ta pl sp we tw cr sl pr (mkS br md tu le to ia al) mo (cl x)) mo) (kIfi (cPass h x) (nI (h + cl x)) (nI h)) cr (kIf (cPass h x) (hIt n h ta pl sp we tw cr (mkS br md tu le to ia al) (cl x) 2) tu) (kIf (cPass h x) (hIt n h ta pl sp we tw cr (mkS br md tu le to ia al) (cl x) 3) le) (kIf (cPass h x) (hIt n h ta pl sp we tw cr (mkS br md tu le to ia al) (cl x) 4) to) (kIf (cPass h x) (hIt n h ta pl sp we tw cr (mkS br md tu le to ia al) (cl x) 5) ia) 2) H := by rw [e9]; exact hP
      have hD : va_D A (wM b cI cZ pl (kIf (cPass h x) (hIt n h ta pl sp we tw cr (mkS br md tu le to ia al) (cl x) 0) br) (kIf (cPass h x) (hIt n h ta pl sp we tw cr (mkS br md tu le to ia al) (cl x) 1) md) (kIf (cPass h x) (hTn n h ta pl sp we tw cr (mkS br md tu le to ia al) tn (cl x)) tn) (nI n) sp we tw sl pr (kIf (cPass h x) (hIt n h ta pl sp we tw cr (mkS br md tu le to ia al) (cl x) 6) al) (kIf (cPass h x) (hMo n h ta pl sp we tw cr sl pr (mkS br md tu le to ia al) mo (cl x)) mo) (kIfi (cPass h x) (nI (h + cl x)) (nI h)) cr (kIf (cPass h x) (hIt n h ta pl sp we tw cr (mkS br md tu le to ia al) (cl x) 2) tu) (kIf (cPass h x) (hIt n h ta pl sp we tw cr (mkS br md tu le to ia al) (cl x) 3) le) (kIf (cPass h x) (hIt n h ta pl sp we tw cr (mkS br md tu le to ia al) (cl x) 4) to) (kIf (cPass h x) (hIt n h ta pl sp we tw cr (mkS br md tu le to ia al) (cl x) 5) ia) 2) := by rw [e9]; exact hD
      clear e9
      have e9 : (nI (cPass h x)) = 2 := by rw [show cPass h x = 2 from by unfold cPass; rw [if_pos c_9, if_neg c_25]]; rfl
      have hP : va_P D vwCl (wM b cI cZ pl (kIf (cPass h x) (hIt n h ta pl sp we tw cr (mkS br md tu le to ia al) (cl x) 0) br) (kIf (cPass h x) (hIt n h ta pl sp we tw cr (mkS br md tu le to ia al) (cl x) 1) md) (kIf (cPass h x) (hTn n h ta pl sp we tw cr (mkS br md tu le to ia al) tn (cl x)) tn) (nI n) sp we tw sl pr (kIf (cPass h x) (hIt n h ta pl sp we tw cr (mkS br md tu le to ia al) (cl x) 6) al) (kIf (cPass h x) (hMo n h ta pl sp we tw cr sl pr (mkS br md tu le to ia al) mo (cl x)) mo) (kIfi (cPass h x) (nI (h + cl x)) (nI h)) cr (kIf (cPass h x) (hIt n h ta pl sp we tw cr (mkS br md tu le to ia al) (cl x) 2) tu) (kIf (cPass h x) (hIt n h ta pl sp we tw cr (mkS br md tu le to ia al) (cl x) 3) le) (kIf (cPass h x) (hIt n h ta pl sp we tw cr (mkS br md tu le to ia al) (cl x) 4) to) (kIf (cPass h x) (hIt n h ta pl sp we tw cr (mkS br md tu le to ia al) (cl x) 5) ia) (nI (cPass h x))) H := by rw [e9]; exact hP
      have hD : va_D A (wM b cI cZ pl (kIf (cPass h x) (hIt n h ta pl sp we tw cr (mkS br md tu le to ia al) (cl x) 0) br) (kIf (cPass h x) (hIt n h ta pl sp we tw cr (mkS br md tu le to ia al) (cl x) 1) md) (kIf (cPass h x) (hTn n h ta pl sp we tw cr (mkS br md tu le to ia al) tn (cl x)) tn) (nI n) sp we tw sl pr (kIf (cPass h x) (hIt n h ta pl sp we tw cr (mkS br md tu le to ia al) (cl x) 6) al) (kIf (cPass h x) (hMo n h ta pl sp we tw cr sl pr (mkS br md tu le to ia al) mo (cl x)) mo) (kIfi (cPass h x) (nI (h + cl x)) (nI h)) cr (kIf (cPass h x) (hIt n h ta pl sp we tw cr (mkS br md tu le to ia al) (cl x) 2) tu) (kIf (cPass h x) (hIt n h ta pl sp we tw cr (mkS br md tu le to ia al) (cl x) 3) le) (kIf (cPass h x) (hIt n h ta pl sp we tw cr (mkS br md tu le to ia al) (cl x) 4) to) (kIf (cPass h x) (hIt n h ta pl sp we tw cr (mkS br md tu le to ia al) (cl x) 5) ia) (nI (cPass h x))) := by rw [e9]; exact hD
      clear e9
      refine lv_iconst (v := (-1)) hx hb dX5_pass_39 (by decide) ?_
      exact k_endI (ty := .int) hx hb hr hlocks (rfl) (fun z9 => absurd (z9.symm.trans (show cPass h x = 2 from by unfold cPass; rw [if_pos c_9, if_neg c_25])) (by decide)) hP hD hS dX5_pass_40
  · have c_9 := bI_0 c_9
    refine lv_iconst (v := 1) hx hb dX5_pass_12 (by decide) ?_
    refine lv_goto (tgt := 33) hx hb dX5_pass_13 (by decide) ?_
    refine k_ui (WR := []) (WN := (wM b cI cZ pl br md tn (nI n) sp we tw sl pr al mo (nI h) cr tu le to ia 1)) (As := [.int 1]) (rest := []) (nL := 5) ⟨hx, hb, hml, hown, hts⟩ hK hP hD hS hA (c_X5_fails l D b cI cZ _ pl br md tn (nI n) sp we tw sl pr al mo (nI h) cr tu le to ia th 1) [0, 1, 2, 3, 4, 5, 6, 7, 8, 9, 10, 11, 12, 13, 14, 15, 16] [] [0, 1, 2, 3, 4, 5, 6, 7, 8, 9, 10, 11, 12, 13, 14, 15, 16] rfl rfl (by decide) rfl (by decide) (by decide) rfl rfl (by decide) 0 rfl rfl rfl (cwV 1 hts gX5_pass_X5_fails rfl rfl rfl (by decide +kernel) ⟨Nat.le_of_ble_eq_true rfl, Nat.le_of_ble_eq_true rfl⟩) rfl hl.1 rfl (Nat.le_of_ble_eq_true rfl) dX5_pass_33 ⟨Nat.zero_le _, Nat.zero_le _⟩ (fun r9 H locs hr9 hP hD hS => ?_)
    subst hr9
    refine lv_if_eq (tgt := 41) hx hb dX5_pass_36 (by decide) (fun c_36 => by first | exact absurd c_36 (by decide) | exact absurd (by decide) c_36) (fun c_36 => ?_)
    have e9 : (kIfi (cPass h x) (nI (h + cl x)) (nI h)) = (nI h) := kIfi_s (fun z9 => absurd (z9.symm.trans (show cPass h x = 1 from by unfold cPass; rw [if_neg c_9])) (by decide))
    have hP : va_P D vwCl (wM b cI cZ pl br md tn (nI n) sp we tw sl pr al mo (kIfi (cPass h x) (nI (h + cl x)) (nI h)) cr tu le to ia 1) H := by rw [e9]; exact hP
    have hD : va_D A (wM b cI cZ pl br md tn (nI n) sp we tw sl pr al mo (kIfi (cPass h x) (nI (h + cl x)) (nI h)) cr tu le to ia 1) := by rw [e9]; exact hD
    clear e9
    have e9 : (kIf (cPass h x) (hTn n h ta pl sp we tw cr (mkS br md tu le to ia al) tn (cl x)) tn) = tn := kIf_s (fun z9 => absurd (z9.symm.trans (show cPass h x = 1 from by unfold cPass; rw [if_neg c_9])) (by decide))
    have hP : va_P D vwCl (wM b cI cZ pl br md (kIf (cPass h x) (hTn n h ta pl sp we tw cr (mkS br md tu le to ia al) tn (cl x)) tn) (nI n) sp we tw sl pr al mo (kIfi (cPass h x) (nI (h + cl x)) (nI h)) cr tu le to ia 1) H := by rw [e9]; exact hP
    have hD : va_D A (wM b cI cZ pl br md (kIf (cPass h x) (hTn n h ta pl sp we tw cr (mkS br md tu le to ia al) tn (cl x)) tn) (nI n) sp we tw sl pr al mo (kIfi (cPass h x) (nI (h + cl x)) (nI h)) cr tu le to ia 1) := by rw [e9]; exact hD
    clear e9
    have e9 : (kIf (cPass h x) (hMo n h ta pl sp we tw cr sl pr (mkS br md tu le to ia al) mo (cl x)) mo) = mo := kIf_s (fun z9 => absurd (z9.symm.trans (show cPass h x = 1 from by unfold cPass; rw [if_neg c_9])) (by decide))
    have hP : va_P D vwCl (wM b cI cZ pl br md (kIf (cPass h x) (hTn n h ta pl sp we tw cr (mkS br md tu le to ia al) tn (cl x)) tn) (nI n) sp we tw sl pr al (kIf (cPass h x) (hMo n h ta pl sp we tw cr sl pr (mkS br md tu le to ia al) mo (cl x)) mo) (kIfi (cPass h x) (nI (h + cl x)) (nI h)) cr tu le to ia 1) H := by rw [e9]; exact hP
    have hD : va_D A (wM b cI cZ pl br md (kIf (cPass h x) (hTn n h ta pl sp we tw cr (mkS br md tu le to ia al) tn (cl x)) tn) (nI n) sp we tw sl pr al (kIf (cPass h x) (hMo n h ta pl sp we tw cr sl pr (mkS br md tu le to ia al) mo (cl x)) mo) (kIfi (cPass h x) (nI (h + cl x)) (nI h)) cr tu le to ia 1) := by rw [e9]; exact hD
    clear e9
    have e9 : (kIf (cPass h x) (hIt n h ta pl sp we tw cr (mkS br md tu le to ia al) (cl x) 1) md) = md := kIf_s (fun z9 => absurd (z9.symm.trans (show cPass h x = 1 from by unfold cPass; rw [if_neg c_9])) (by decide))
    have hP : va_P D vwCl (wM b cI cZ pl br (kIf (cPass h x) (hIt n h ta pl sp we tw cr (mkS br md tu le to ia al) (cl x) 1) md) (kIf (cPass h x) (hTn n h ta pl sp we tw cr (mkS br md tu le to ia al) tn (cl x)) tn) (nI n) sp we tw sl pr al (kIf (cPass h x) (hMo n h ta pl sp we tw cr sl pr (mkS br md tu le to ia al) mo (cl x)) mo) (kIfi (cPass h x) (nI (h + cl x)) (nI h)) cr tu le to ia 1) H := by rw [e9]; exact hP
    have hD : va_D A (wM b cI cZ pl br (kIf (cPass h x) (hIt n h ta pl sp we tw cr (mkS br md tu le to ia al) (cl x) 1) md) (kIf (cPass h x) (hTn n h ta pl sp we tw cr (mkS br md tu le to ia al) tn (cl x)) tn) (nI n) sp we tw sl pr al (kIf (cPass h x) (hMo n h ta pl sp we tw cr sl pr (mkS br md tu le to ia al) mo (cl x)) mo) (kIfi (cPass h x) (nI (h + cl x)) (nI h)) cr tu le to ia 1) := by rw [e9]; exact hD
    clear e9
    have e9 : (kIf (cPass h x) (hIt n h ta pl sp we tw cr (mkS br md tu le to ia al) (cl x) 6) al) = al := kIf_s (fun z9 => absurd (z9.symm.trans (show cPass h x = 1 from by unfold cPass; rw [if_neg c_9])) (by decide))
    have hP : va_P D vwCl (wM b cI cZ pl br (kIf (cPass h x) (hIt n h ta pl sp we tw cr (mkS br md tu le to ia al) (cl x) 1) md) (kIf (cPass h x) (hTn n h ta pl sp we tw cr (mkS br md tu le to ia al) tn (cl x)) tn) (nI n) sp we tw sl pr (kIf (cPass h x) (hIt n h ta pl sp we tw cr (mkS br md tu le to ia al) (cl x) 6) al) (kIf (cPass h x) (hMo n h ta pl sp we tw cr sl pr (mkS br md tu le to ia al) mo (cl x)) mo) (kIfi (cPass h x) (nI (h + cl x)) (nI h)) cr tu le to ia 1) H := by rw [e9]; exact hP
    have hD : va_D A (wM b cI cZ pl br (kIf (cPass h x) (hIt n h ta pl sp we tw cr (mkS br md tu le to ia al) (cl x) 1) md) (kIf (cPass h x) (hTn n h ta pl sp we tw cr (mkS br md tu le to ia al) tn (cl x)) tn) (nI n) sp we tw sl pr (kIf (cPass h x) (hIt n h ta pl sp we tw cr (mkS br md tu le to ia al) (cl x) 6) al) (kIf (cPass h x) (hMo n h ta pl sp we tw cr sl pr (mkS br md tu le to ia al) mo (cl x)) mo) (kIfi (cPass h x) (nI (h + cl x)) (nI h)) cr tu le to ia 1) := by rw [e9]; exact hD
    clear e9
    have e9 : (kIf (cPass h x) (hIt n h ta pl sp we tw cr (mkS br md tu le to ia al) (cl x) 5) ia) = ia := kIf_s (fun z9 => absurd (z9.symm.trans (show cPass h x = 1 from by unfold cPass; rw [if_neg c_9])) (by decide))
    have hP : va_P D vwCl (wM b cI cZ pl br (kIf (cPass h x) (hIt n h ta pl sp we tw cr (mkS br md tu le to ia al) (cl x) 1) md) (kIf (cPass h x) (hTn n h ta pl sp we tw cr (mkS br md tu le to ia al) tn (cl x)) tn) (nI n) sp we tw sl pr (kIf (cPass h x) (hIt n h ta pl sp we tw cr (mkS br md tu le to ia al) (cl x) 6) al) (kIf (cPass h x) (hMo n h ta pl sp we tw cr sl pr (mkS br md tu le to ia al) mo (cl x)) mo) (kIfi (cPass h x) (nI (h + cl x)) (nI h)) cr tu le to (kIf (cPass h x) (hIt n h ta pl sp we tw cr (mkS br md tu le to ia al) (cl x) 5) ia) 1) H := by rw [e9]; exact hP
    have hD : va_D A (wM b cI cZ pl br (kIf (cPass h x) (hIt n h ta pl sp we tw cr (mkS br md tu le to ia al) (cl x) 1) md) (kIf (cPass h x) (hTn n h ta pl sp we tw cr (mkS br md tu le to ia al) tn (cl x)) tn) (nI n) sp we tw sl pr (kIf (cPass h x) (hIt n h ta pl sp we tw cr (mkS br md tu le to ia al) (cl x) 6) al) (kIf (cPass h x) (hMo n h ta pl sp we tw cr sl pr (mkS br md tu le to ia al) mo (cl x)) mo) (kIfi (cPass h x) (nI (h + cl x)) (nI h)) cr tu le to (kIf (cPass h x) (hIt n h ta pl sp we tw cr (mkS br md tu le to ia al) (cl x) 5) ia) 1) := by rw [e9]; exact hD
    clear e9
    have e9 : (kIf (cPass h x) (hIt n h ta pl sp we tw cr (mkS br md tu le to ia al) (cl x) 4) to) = to := kIf_s (fun z9 => absurd (z9.symm.trans (show cPass h x = 1 from by unfold cPass; rw [if_neg c_9])) (by decide))
    have hP : va_P D vwCl (wM b cI cZ pl br (kIf (cPass h x) (hIt n h ta pl sp we tw cr (mkS br md tu le to ia al) (cl x) 1) md) (kIf (cPass h x) (hTn n h ta pl sp we tw cr (mkS br md tu le to ia al) tn (cl x)) tn) (nI n) sp we tw sl pr (kIf (cPass h x) (hIt n h ta pl sp we tw cr (mkS br md tu le to ia al) (cl x) 6) al) (kIf (cPass h x) (hMo n h ta pl sp we tw cr sl pr (mkS br md tu le to ia al) mo (cl x)) mo) (kIfi (cPass h x) (nI (h + cl x)) (nI h)) cr tu le (kIf (cPass h x) (hIt n h ta pl sp we tw cr (mkS br md tu le to ia al) (cl x) 4) to) (kIf (cPass h x) (hIt n h ta pl sp we tw cr (mkS br md tu le to ia al) (cl x) 5) ia) 1) H := by rw [e9]; exact hP
    have hD : va_D A (wM b cI cZ pl br (kIf (cPass h x) (hIt n h ta pl sp we tw cr (mkS br md tu le to ia al) (cl x) 1) md) (kIf (cPass h x) (hTn n h ta pl sp we tw cr (mkS br md tu le to ia al) tn (cl x)) tn) (nI n) sp we tw sl pr (kIf (cPass h x) (hIt n h ta pl sp we tw cr (mkS br md tu le to ia al) (cl x) 6) al) (kIf (cPass h x) (hMo n h ta pl sp we tw cr sl pr (mkS br md tu le to ia al) mo (cl x)) mo) (kIfi (cPass h x) (nI (h + cl x)) (nI h)) cr tu le (kIf (cPass h x) (hIt n h ta pl sp we tw cr (mkS br md tu le to ia al) (cl x) 4) to) (kIf (cPass h x) (hIt n h ta pl sp we tw cr (mkS br md tu le to ia al) (cl x) 5) ia) 1) := by rw [e9]; exact hD
    clear e9
    have e9 : (kIf (cPass h x) (hIt n h ta pl sp we tw cr (mkS br md tu le to ia al) (cl x) 3) le) = le := kIf_s (fun z9 => absurd (z9.symm.trans (show cPass h x = 1 from by unfold cPass; rw [if_neg c_9])) (by decide))
    have hP : va_P D vwCl (wM b cI cZ pl br (kIf (cPass h x) (hIt n h ta pl sp we tw cr (mkS br md tu le to ia al) (cl x) 1) md) (kIf (cPass h x) (hTn n h ta pl sp we tw cr (mkS br md tu le to ia al) tn (cl x)) tn) (nI n) sp we tw sl pr (kIf (cPass h x) (hIt n h ta pl sp we tw cr (mkS br md tu le to ia al) (cl x) 6) al) (kIf (cPass h x) (hMo n h ta pl sp we tw cr sl pr (mkS br md tu le to ia al) mo (cl x)) mo) (kIfi (cPass h x) (nI (h + cl x)) (nI h)) cr tu (kIf (cPass h x) (hIt n h ta pl sp we tw cr (mkS br md tu le to ia al) (cl x) 3) le) (kIf (cPass h x) (hIt n h ta pl sp we tw cr (mkS br md tu le to ia al) (cl x) 4) to) (kIf (cPass h x) (hIt n h ta pl sp we tw cr (mkS br md tu le to ia al) (cl x) 5) ia) 1) H := by rw [e9]; exact hP
    have hD : va_D A (wM b cI cZ pl br (kIf (cPass h x) (hIt n h ta pl sp we tw cr (mkS br md tu le to ia al) (cl x) 1) md) (kIf (cPass h x) (hTn n h ta pl sp we tw cr (mkS br md tu le to ia al) tn (cl x)) tn) (nI n) sp we tw sl pr (kIf (cPass h x) (hIt n h ta pl sp we tw cr (mkS br md tu le to ia al) (cl x) 6) al) (kIf (cPass h x) (hMo n h ta pl sp we tw cr sl pr (mkS br md tu le to ia al) mo (cl x)) mo) (kIfi (cPass h x) (nI (h + cl x)) (nI h)) cr tu (kIf (cPass h x) (hIt n h ta pl sp we tw cr (mkS br md tu le to ia al) (cl x) 3) le) (kIf (cPass h x) (hIt n h ta pl sp we tw cr (mkS br md tu le to ia al) (cl x) 4) to) (kIf (cPass h x) (hIt n h ta pl sp we tw cr (mkS br md tu le to ia al) (cl x) 5) ia) 1) := by rw [e9]; exact hD
    clear e9
    have e9 : (kIf (cPass h x) (hIt n h ta pl sp we tw cr (mkS br md tu le to ia al) (cl x) 2) tu) = tu := kIf_s (fun z9 => absurd (z9.symm.trans (show cPass h x = 1 from by unfold cPass; rw [if_neg c_9])) (by decide))
    have hP : va_P D vwCl (wM b cI cZ pl br (kIf (cPass h x) (hIt n h ta pl sp we tw cr (mkS br md tu le to ia al) (cl x) 1) md) (kIf (cPass h x) (hTn n h ta pl sp we tw cr (mkS br md tu le to ia al) tn (cl x)) tn) (nI n) sp we tw sl pr (kIf (cPass h x) (hIt n h ta pl sp we tw cr (mkS br md tu le to ia al) (cl x) 6) al) (kIf (cPass h x) (hMo n h ta pl sp we tw cr sl pr (mkS br md tu le to ia al) mo (cl x)) mo) (kIfi (cPass h x) (nI (h + cl x)) (nI h)) cr (kIf (cPass h x) (hIt n h ta pl sp we tw cr (mkS br md tu le to ia al) (cl x) 2) tu) (kIf (cPass h x) (hIt n h ta pl sp we tw cr (mkS br md tu le to ia al) (cl x) 3) le) (kIf (cPass h x) (hIt n h ta pl sp we tw cr (mkS br md tu le to ia al) (cl x) 4) to) (kIf (cPass h x) (hIt n h ta pl sp we tw cr (mkS br md tu le to ia al) (cl x) 5) ia) 1) H := by rw [e9]; exact hP
    have hD : va_D A (wM b cI cZ pl br (kIf (cPass h x) (hIt n h ta pl sp we tw cr (mkS br md tu le to ia al) (cl x) 1) md) (kIf (cPass h x) (hTn n h ta pl sp we tw cr (mkS br md tu le to ia al) tn (cl x)) tn) (nI n) sp we tw sl pr (kIf (cPass h x) (hIt n h ta pl sp we tw cr (mkS br md tu le to ia al) (cl x) 6) al) (kIf (cPass h x) (hMo n h ta pl sp we tw cr sl pr (mkS br md tu le to ia al) mo (cl x)) mo) (kIfi (cPass h x) (nI (h + cl x)) (nI h)) cr (kIf (cPass h x) (hIt n h ta pl sp we tw cr (mkS br md tu le to ia al) (cl x) 2) tu) (kIf (cPass h x) (hIt n h ta pl sp we tw cr (mkS br md tu le to ia al) (cl x) 3) le) (kIf (cPass h x) (hIt n h ta pl sp we tw cr (mkS br md tu le to ia al) (cl x) 4) to) (kIf (cPass h x) (hIt n h ta pl sp we tw cr (mkS br md tu le to ia al) (cl x) 5) ia) 1) := by rw [e9]; exact hD
    clear e9
    have e9 : (kIf (cPass h x) (hIt n h ta pl sp we tw cr (mkS br md tu le to ia al) (cl x) 0) br) = br := kIf_s (fun z9 => absurd (z9.symm.trans (show cPass h x = 1 from by unfold cPass; rw [if_neg c_9])) (by decide))
    have hP : va_P D vwCl (wM b cI cZ pl (kIf (cPass h x) (hIt n h ta pl sp we tw cr (mkS br md tu le to ia al) (cl x) 0) br) (kIf (cPass h x) (hIt n h ta pl sp we tw cr (mkS br md tu le to ia al) (cl x) 1) md) (kIf (cPass h x) (hTn n h ta pl sp we tw cr (mkS br md tu le to ia al) tn (cl x)) tn) (nI n) sp we tw sl pr (kIf (cPass h x) (hIt n h ta pl sp we tw cr (mkS br md tu le to ia al) (cl x) 6) al) (kIf (cPass h x) (hMo n h ta pl sp we tw cr sl pr (mkS br md tu le to ia al) mo (cl x)) mo) (kIfi (cPass h x) (nI (h + cl x)) (nI h)) cr (kIf (cPass h x) (hIt n h ta pl sp we tw cr (mkS br md tu le to ia al) (cl x) 2) tu) (kIf (cPass h x) (hIt n h ta pl sp we tw cr (mkS br md tu le to ia al) (cl x) 3) le) (kIf (cPass h x) (hIt n h ta pl sp we tw cr (mkS br md tu le to ia al) (cl x) 4) to) (kIf (cPass h x) (hIt n h ta pl sp we tw cr (mkS br md tu le to ia al) (cl x) 5) ia) 1) H := by rw [e9]; exact hP
    have hD : va_D A (wM b cI cZ pl (kIf (cPass h x) (hIt n h ta pl sp we tw cr (mkS br md tu le to ia al) (cl x) 0) br) (kIf (cPass h x) (hIt n h ta pl sp we tw cr (mkS br md tu le to ia al) (cl x) 1) md) (kIf (cPass h x) (hTn n h ta pl sp we tw cr (mkS br md tu le to ia al) tn (cl x)) tn) (nI n) sp we tw sl pr (kIf (cPass h x) (hIt n h ta pl sp we tw cr (mkS br md tu le to ia al) (cl x) 6) al) (kIf (cPass h x) (hMo n h ta pl sp we tw cr sl pr (mkS br md tu le to ia al) mo (cl x)) mo) (kIfi (cPass h x) (nI (h + cl x)) (nI h)) cr (kIf (cPass h x) (hIt n h ta pl sp we tw cr (mkS br md tu le to ia al) (cl x) 2) tu) (kIf (cPass h x) (hIt n h ta pl sp we tw cr (mkS br md tu le to ia al) (cl x) 3) le) (kIf (cPass h x) (hIt n h ta pl sp we tw cr (mkS br md tu le to ia al) (cl x) 4) to) (kIf (cPass h x) (hIt n h ta pl sp we tw cr (mkS br md tu le to ia al) (cl x) 5) ia) 1) := by rw [e9]; exact hD
    clear e9
    have e9 : (nI (cPass h x)) = 1 := by rw [show cPass h x = 1 from by unfold cPass; rw [if_neg c_9]]; rfl
    have hP : va_P D vwCl (wM b cI cZ pl (kIf (cPass h x) (hIt n h ta pl sp we tw cr (mkS br md tu le to ia al) (cl x) 0) br) (kIf (cPass h x) (hIt n h ta pl sp we tw cr (mkS br md tu le to ia al) (cl x) 1) md) (kIf (cPass h x) (hTn n h ta pl sp we tw cr (mkS br md tu le to ia al) tn (cl x)) tn) (nI n) sp we tw sl pr (kIf (cPass h x) (hIt n h ta pl sp we tw cr (mkS br md tu le to ia al) (cl x) 6) al) (kIf (cPass h x) (hMo n h ta pl sp we tw cr sl pr (mkS br md tu le to ia al) mo (cl x)) mo) (kIfi (cPass h x) (nI (h + cl x)) (nI h)) cr (kIf (cPass h x) (hIt n h ta pl sp we tw cr (mkS br md tu le to ia al) (cl x) 2) tu) (kIf (cPass h x) (hIt n h ta pl sp we tw cr (mkS br md tu le to ia al) (cl x) 3) le) (kIf (cPass h x) (hIt n h ta pl sp we tw cr (mkS br md tu le to ia al) (cl x) 4) to) (kIf (cPass h x) (hIt n h ta pl sp we tw cr (mkS br md tu le to ia al) (cl x) 5) ia) (nI (cPass h x))) H := by rw [e9]; exact hP
    have hD : va_D A (wM b cI cZ pl (kIf (cPass h x) (hIt n h ta pl sp we tw cr (mkS br md tu le to ia al) (cl x) 0) br) (kIf (cPass h x) (hIt n h ta pl sp we tw cr (mkS br md tu le to ia al) (cl x) 1) md) (kIf (cPass h x) (hTn n h ta pl sp we tw cr (mkS br md tu le to ia al) tn (cl x)) tn) (nI n) sp we tw sl pr (kIf (cPass h x) (hIt n h ta pl sp we tw cr (mkS br md tu le to ia al) (cl x) 6) al) (kIf (cPass h x) (hMo n h ta pl sp we tw cr sl pr (mkS br md tu le to ia al) mo (cl x)) mo) (kIfi (cPass h x) (nI (h + cl x)) (nI h)) cr (kIf (cPass h x) (hIt n h ta pl sp we tw cr (mkS br md tu le to ia al) (cl x) 2) tu) (kIf (cPass h x) (hIt n h ta pl sp we tw cr (mkS br md tu le to ia al) (cl x) 3) le) (kIf (cPass h x) (hIt n h ta pl sp we tw cr (mkS br md tu le to ia al) (cl x) 4) to) (kIf (cPass h x) (hIt n h ta pl sp we tw cr (mkS br md tu le to ia al) (cl x) 5) ia) (nI (cPass h x))) := by rw [e9]; exact hD
    clear e9
    refine lv_iconst (v := (-1)) hx hb dX5_pass_39 (by decide) ?_
    exact k_endI (ty := .int) hx hb hr hlocks (rfl) (fun z9 => absurd (z9.symm.trans (show cPass h x = 1 from by unfold cPass; rw [if_neg c_9])) (by decide)) hP hD hS dX5_pass_40
