/-! One step of chance: what 'act' does (written by program). -/
theorem w_01 {f : Int32} : (if f - f / 2 * 2 = 0 then (1 : Int32) else 0) = 0 ∨ (if f - f / 2 * 2 = 0 then (1 : Int32) else 0) = 1 := by
  split
  · exact Or.inr rfl
  · exact Or.inl rfl
theorem aP_sell0 {code : Nat} {v r : Int32} {L : List Int32} {new old u : St} (I : PI old) (h : dP code v L new old r u) (hN : code = 0 → PI new) (hh : new.2.1 = old.2.1) : aP old 0 u := by
  rcases h with ⟨h1, rfl, rfl⟩ | ⟨h1, rfl, rfl⟩
  · exact ⟨hN h1, hh, by decide, fun q => absurd q (by decide)⟩
  · exact ⟨I, rfl, by decide, fun q => absurd q (by decide)⟩
theorem aP_sell4 {code : Nat} {v r : Int32} {L : List Int32} {new old u : St} (I : PI old) (h : dP code v L new old r u) (hv : ¬ v < -1) (c : ¬ (-1 : Int32) ≤ r) : aP old (-4) u := by
  rcases h with ⟨h1, rfl, rfl⟩ | ⟨h1, rfl, rfl⟩
  · exact absurd (Int32.not_lt.mp hv) c
  · exact ⟨I, rfl, by decide, fun _ => rfl⟩
set_option maxHeartbeats 4000000 in
set_option maxRecDepth 100000 in
theorem c_L_act (l : Launch) (D : va_G) (a : Nat → Nat) (cI cZ : ClassId) (sz : Nat) (σ : St) (y : Int32) (kd : Nat) (hkd : kd ≤ 9) (hflag : l.stackTraces = false) (I : PI σ) : kWE l yL_act wsL_act ({ frames := 8, cells := 1, slots := 6, locals := 187 }) [.ref (a 0), .int y, .int (nI σ.2.1), .int (nI kd)] D cI cZ sz (wS a cI cZ σ) (wS a cI cZ) (aP σ) 1 6 := by
  refine Met.ofW (cc := cL_act) (maxL := 5) (ret := (some .int)) (by decide) rfl ?_
  intro p e s m args below meth c s₁ B hml hv
  obtain ⟨rfl, hsz, hP, hK, hD0, hX⟩ := hv
  have hx := B.exec
  have hb := B.bytes
  have hr := B.returns
  have hts := atoms_spec (ws := wsL_act) B.pre
  have hown : s.vm.findClass RL = some m.cls := findClass_of_methodNamed B.named
  have hlocks := B.notSynchronized
  subst hsz
  have hD := hD0.self (sz := s.heap.size)
  generalize hAe : va_A (wS a cI cZ σ) s.heap.size = A at hD hX ⊢
  have hA : ∀ q : Nat, s.heap.size ≤ q → A q := fun q h => by rw [← hAe]; exact Or.inr h
  have hl := lv_entry ([.ref (a 0), .int y, .int (nI σ.2.1), .int (nI kd)]) (n := 5) (Nat.le_of_ble_eq_true rfl)
  rw [lg_entry_eq]
  generalize (lg_sl ([.ref (a 0), .int y, .int (nI σ.2.1), .int (nI kd)]) ++ List.replicate (5 - (lg_sl ([.ref (a 0), .int y, .int (nI σ.2.1), .int (nI kd)])).length) Slot.unset).toArray = ls at hl ⊢
  have hl : lv_has ls 5 [(0, .ref (a 0)), (1, .int y), (2, .int (nI σ.2.1)), (3, .int (nI kd))] := hl
  have hS : va_S A s.heap s.heap [] := va_S.rf
  have seg60 : ∀ (x4 : Int32) (ls : Array Slot), lv_has ls 5 [(4, .int x4), (0, .ref (a 0)), (1, .int y), (2, .int (nI σ.2.1)), (3, .int (nI kd))] → W p l e (headSpec wsL_act ({ frames := 8, cells := 1, slots := 6, locals := 187 })).room s m ([.ref (a 0), .int y, .int (nI σ.2.1), .int (nI kd)] : List Value).toArray below meth c s.heap [] 0 0 (MQ below (va_Qi (aP σ) (fun u t => kAt D A (wS a cI cZ u) t) A) ([.ref (a 0), .int y, .int (nI σ.2.1), .int (nI kd)] : List Value).toArray s 1 6 A) (F0 m 60 ls []) := by
    intro x4 ls hl
    refine lv_aload_n hx hb dL_act_60 rfl (lv_at hl 1 rfl) ?_
    refine lv_iconst (v := 0) hx hb dL_act_61 (by decide) ?_
    refine lv_iload_n hx hb dL_act_62 rfl (lv_at hl 2 rfl) ?_
    refine lv_bipush (v := 25) hx hb dL_act_63 (by decide) ?_
    refine k_ps (As := [.int y, .int (nI 25)]) (rest := [.int 0, .ref (a 0)]) (nL := 5) ⟨hx, hb, hml, hown, hts⟩ (c_L_low l y 25 (by decide) (by decide)) (va_cwS 2 hts gL_act_L_low rfl rfl rfl (by decide +kernel) ⟨Nat.le_of_ble_eq_true rfl, Nat.le_of_ble_eq_true rfl⟩) rfl hl.1 rfl (Nat.le_of_ble_eq_true rfl) dL_act_65 ⟨Nat.zero_le _, Nat.zero_le _⟩ (fun r9 hr9 => ?_)
    obtain ⟨j, hj, rfl⟩ := hr9
    refine lv_iconst (v := 0) hx hb dL_act_68 (by decide) ?_
    refine lv_iconst (v := 0) hx hb dL_act_69 (by decide) ?_
    refine k_leW (As := [.ref (a 0), .int 0, .int (nI j), .int 0, .int 0]) (rest := []) (nL := 5) (WR := ([] : va_W)) (WNf := wS a cI cZ) ⟨hx, hb, hml, hown, hts⟩ hK hX hP hD hS hA (c_L_does0 l D a cI cZ _ σ (nI j) 0 0 hflag I) [0, 1, 2, 3, 4, 5, 6, 7, 8, 9, 10, 11, 12, 13, 14, 15, 16, 17, 18, 19, 20] [] [0, 1, 2, 3, 4, 5, 6, 7, 8, 9, 10, 11, 12, 13, 14, 15, 16, 17, 18, 19, 20] rfl rfl rfl rfl rfl (by decide) (fun _ => rfl) (fun _ => rfl) rfl (vx_cwSW (hh := [(0, 101, 102, 36), (0, 101, 107, 38), (0, 101, 112, 40)]) 5 hts gL_act_L_does rfl rfl rfl (by decide +kernel) ⟨Nat.le_of_ble_eq_true rfl, Nat.le_of_ble_eq_true rfl⟩) rfl hl.1 rfl (Nat.le_of_ble_eq_true rfl) dL_act_70 ⟨Nat.le_of_ble_eq_true rfl, Nat.le_of_ble_eq_true rfl⟩ (fun r u H locs hr9 hP hD hS => ?_)
    exact k_endE (u := u) (Wf := wS a cI cZ) (Nat.le_refl _) (Nat.le_refl _) hx hb hr hlocks rfl (aP_of hr9 I (fun q => PI_turb I q) (fun _ => nn_nI (by have := I.n; omega)) L_24 rfl) hP hD hS dL_act_73
  have seg74 : ∀ (x4 : Int32) (ls : Array Slot), lv_has ls 5 [(4, .int x4), (0, .ref (a 0)), (1, .int y), (2, .int (nI σ.2.1)), (3, .int (nI kd))] → W p l e (headSpec wsL_act ({ frames := 8, cells := 1, slots := 6, locals := 187 })).room s m ([.ref (a 0), .int y, .int (nI σ.2.1), .int (nI kd)] : List Value).toArray below meth c s.heap [] 0 0 (MQ below (va_Qi (aP σ) (fun u t => kAt D A (wS a cI cZ u) t) A) ([.ref (a 0), .int y, .int (nI σ.2.1), .int (nI kd)] : List Value).toArray s 1 6 A) (F0 m 74 ls []) := by
    intro x4 ls hl
    refine lv_aload_n hx hb dL_act_74 rfl (lv_at hl 1 rfl) ?_
    refine lv_iconst (v := 1) hx hb dL_act_75 (by decide) ?_
    refine lv_iload hx hb dL_act_76 (lv_at hl 0 rfl) ?_
    refine lv_iload_n hx hb dL_act_78 rfl (lv_at hl 2 rfl) ?_
    refine lv_iconst (v := 2) hx hb dL_act_79 (by decide) ?_
    refine k_ps (As := [.int y, .int (nI 2)]) (rest := [.int x4, .int 1, .ref (a 0)]) (nL := 5) ⟨hx, hb, hml, hown, hts⟩ (c_L_low l y 2 (by decide) (by decide)) (va_cwS 2 hts gL_act_L_low rfl rfl rfl (by decide +kernel) ⟨Nat.le_of_ble_eq_true rfl, Nat.le_of_ble_eq_true rfl⟩) rfl hl.1 rfl (Nat.le_of_ble_eq_true rfl) dL_act_80 ⟨Nat.zero_le _, Nat.zero_le _⟩ (fun r9 hr9 => ?_)
    obtain ⟨j, hj, rfl⟩ := hr9
    refine lv_isub hx hb dL_act_83 ?_
    refine lv_iload hx hb dL_act_84 (lv_at hl 0 rfl) ?_
    refine lv_iload_n hx hb dL_act_86 rfl (lv_at hl 2 rfl) ?_
    refine lv_iconst (v := 5) hx hb dL_act_87 (by decide) ?_
    refine lv_ishr hx hb dL_act_88 ?_
    refine lv_topi (fun z1 _ => ?_)
    refine lv_bipush (v := 60) hx hb dL_act_89 (by decide) ?_
    refine k_ps (As := [.int z1, .int (nI 60)]) (rest := [.int x4, .int (x4 - (nI j)), .int 1, .ref (a 0)]) (nL := 5) ⟨hx, hb, hml, hown, hts⟩ (c_L_low l z1 60 (by decide) (by decide)) (va_cwS 2 hts gL_act_L_low rfl rfl rfl (by decide +kernel) ⟨Nat.le_of_ble_eq_true rfl, Nat.le_of_ble_eq_true rfl⟩) rfl hl.1 rfl (Nat.le_of_ble_eq_true rfl) dL_act_91 ⟨Nat.zero_le _, Nat.zero_le _⟩ (fun r9 hr9 => ?_)
    obtain ⟨j2, hj2, rfl⟩ := hr9
    refine lv_iadd hx hb dL_act_94 ?_
    refine lv_iload_n hx hb dL_act_95 rfl (lv_at hl 2 rfl) ?_
    refine lv_iconst (v := 4) hx hb dL_act_96 (by decide) ?_
    refine lv_ishr hx hb dL_act_97 ?_
    refine lv_topi (fun z2 _ => ?_)
    refine lv_bipush (v := 30) hx hb dL_act_98 (by decide) ?_
    refine k_ps (As := [.int z2, .int (nI 30)]) (rest := [.int (x4 + (nI j2)), .int (x4 - (nI j)), .int 1, .ref (a 0)]) (nL := 5) ⟨hx, hb, hml, hown, hts⟩ (c_L_low l z2 30 (by decide) (by decide)) (va_cwS 2 hts gL_act_L_low rfl rfl rfl (by decide +kernel) ⟨Nat.le_of_ble_eq_true rfl, Nat.le_of_ble_eq_true rfl⟩) rfl hl.1 rfl (Nat.le_of_ble_eq_true rfl) dL_act_100 ⟨Nat.zero_le _, Nat.zero_le _⟩ (fun r9 hr9 => ?_)
    obtain ⟨j3, hj3, rfl⟩ := hr9
    refine k_leW (As := [.ref (a 0), .int 1, .int (x4 - (nI j)), .int (x4 + (nI j2)), .int (nI j3)]) (rest := []) (nL := 5) (WR := ([] : va_W)) (WNf := wS a cI cZ) ⟨hx, hb, hml, hown, hts⟩ hK hX hP hD hS hA (c_L_does1 l D a cI cZ _ σ (x4 - nI j) (x4 + nI j2) (nI j3) _ rfl hflag I) [0, 1, 2, 3, 4, 5, 6, 7, 8, 9, 10, 11, 12, 13, 14, 15, 16, 17, 18, 19, 20] [] [0, 1, 2, 3, 4, 5, 6, 7, 8, 9, 10, 11, 12, 13, 14, 15, 16, 17, 18, 19, 20] rfl rfl rfl rfl rfl (by decide) (fun _ => rfl) (fun _ => rfl) rfl (vx_cwSW (hh := [(0, 101, 102, 36), (0, 101, 107, 38), (0, 101, 112, 40)]) 5 hts gL_act_L_does rfl rfl rfl (by decide +kernel) ⟨Nat.le_of_ble_eq_true rfl, Nat.le_of_ble_eq_true rfl⟩) rfl hl.1 rfl (Nat.le_of_ble_eq_true rfl) dL_act_103 ⟨Nat.le_of_ble_eq_true rfl, Nat.le_of_ble_eq_true rfl⟩ (fun r u H locs hr9 hP hD hS => ?_)
    exact k_endE (u := u) (Wf := wS a cI cZ) (Nat.le_refl _) (Nat.le_refl _) hx hb hr hlocks rfl (aP_of hr9 I (fun q => PI_wind I w_01 q) (fun q => v_wind I.h q) L_3 rfl) hP hD hS dL_act_106
  have seg107 : ∀ (x4 : Int32) (ls : Array Slot), lv_has ls 5 [(4, .int x4), (0, .ref (a 0)), (1, .int y), (2, .int (nI σ.2.1)), (3, .int (nI kd))] → W p l e (headSpec wsL_act ({ frames := 8, cells := 1, slots := 6, locals := 187 })).room s m ([.ref (a 0), .int y, .int (nI σ.2.1), .int (nI kd)] : List Value).toArray below meth c s.heap [] 0 0 (MQ below (va_Qi (aP σ) (fun u t => kAt D A (wS a cI cZ u) t) A) ([.ref (a 0), .int y, .int (nI σ.2.1), .int (nI kd)] : List Value).toArray s 1 6 A) (F0 m 107 ls []) := by
    intro x4 ls hl
    refine lv_aload_n hx hb dL_act_107 rfl (lv_at hl 1 rfl) ?_
    refine lv_iconst (v := 2) hx hb dL_act_108 (by decide) ?_
    refine lv_iload hx hb dL_act_109 (lv_at hl 0 rfl) ?_
    refine lv_iload_n hx hb dL_act_111 rfl (lv_at hl 2 rfl) ?_
    refine lv_iconst (v := 4) hx hb dL_act_112 (by decide) ?_
    refine lv_ishr hx hb dL_act_113 ?_
    refine lv_topi (fun z3 _ => ?_)
    refine lv_bipush (v := 9) hx hb dL_act_114 (by decide) ?_
    refine k_ps (As := [.int z3, .int (nI 9)]) (rest := [.int x4, .int 2, .ref (a 0)]) (nL := 5) ⟨hx, hb, hml, hown, hts⟩ (c_L_low l z3 9 (by decide) (by decide)) (va_cwS 2 hts gL_act_L_low rfl rfl rfl (by decide +kernel) ⟨Nat.le_of_ble_eq_true rfl, Nat.le_of_ble_eq_true rfl⟩) rfl hl.1 rfl (Nat.le_of_ble_eq_true rfl) dL_act_116 ⟨Nat.zero_le _, Nat.zero_le _⟩ (fun r9 hr9 => ?_)
    obtain ⟨j, hj, rfl⟩ := hr9
    refine lv_iconst (v := 0) hx hb dL_act_119 (by decide) ?_
    refine k_leW (As := [.ref (a 0), .int 2, .int x4, .int (nI j), .int 0]) (rest := []) (nL := 5) (WR := ([] : va_W)) (WNf := wS a cI cZ) ⟨hx, hb, hml, hown, hts⟩ hK hX hP hD hS hA (c_L_does2 l D a cI cZ _ σ x4 (nI j) 0 hflag I) [0, 1, 2, 3, 4, 5, 6, 7, 8, 9, 10, 11, 12, 13, 14, 15, 16, 17, 18, 19, 20] [] [0, 1, 2, 3, 4, 5, 6, 7, 8, 9, 10, 11, 12, 13, 14, 15, 16, 17, 18, 19, 20] rfl rfl rfl rfl rfl (by decide) (fun _ => rfl) (fun _ => rfl) rfl (vx_cwSW (hh := [(0, 101, 102, 36), (0, 101, 107, 38), (0, 101, 112, 40)]) 5 hts gL_act_L_does rfl rfl rfl (by decide +kernel) ⟨Nat.le_of_ble_eq_true rfl, Nat.le_of_ble_eq_true rfl⟩) rfl hl.1 rfl (Nat.le_of_ble_eq_true rfl) dL_act_120 ⟨Nat.le_of_ble_eq_true rfl, Nat.le_of_ble_eq_true rfl⟩ (fun r u H locs hr9 hP hD hS => ?_)
    exact k_endE (u := u) (Wf := wS a cI cZ) (Nat.le_refl _) (Nat.le_refl _) hx hb hr hlocks rfl (aP_of hr9 I (fun q => PI_waves I q) (fun _ => v_waves I _) L_3 rfl) hP hD hS dL_act_123
  have seg124 : ∀ (x4 : Int32) (ls : Array Slot), lv_has ls 5 [(4, .int x4), (0, .ref (a 0)), (1, .int y), (2, .int (nI σ.2.1)), (3, .int (nI kd))] → W p l e (headSpec wsL_act ({ frames := 8, cells := 1, slots := 6, locals := 187 })).room s m ([.ref (a 0), .int y, .int (nI σ.2.1), .int (nI kd)] : List Value).toArray below meth c s.heap [] 0 0 (MQ below (va_Qi (aP σ) (fun u t => kAt D A (wS a cI cZ u) t) A) ([.ref (a 0), .int y, .int (nI σ.2.1), .int (nI kd)] : List Value).toArray s 1 6 A) (F0 m 124 ls []) := by
    intro x4 ls hl
    refine lv_aload_n hx hb dL_act_124 rfl (lv_at hl 1 rfl) ?_
    refine lv_iconst (v := 3) hx hb dL_act_125 (by decide) ?_
    refine lv_iload_n hx hb dL_act_126 rfl (lv_at hl 2 rfl) ?_
    refine lv_bipush (v := 8) hx hb dL_act_127 (by decide) ?_
    refine k_ps (As := [.int y, .int (nI 8)]) (rest := [.int 3, .ref (a 0)]) (nL := 5) ⟨hx, hb, hml, hown, hts⟩ (c_L_low l y 8 (by decide) (by decide)) (va_cwS 2 hts gL_act_L_low rfl rfl rfl (by decide +kernel) ⟨Nat.le_of_ble_eq_true rfl, Nat.le_of_ble_eq_true rfl⟩) rfl hl.1 rfl (Nat.le_of_ble_eq_true rfl) dL_act_129 ⟨Nat.zero_le _, Nat.zero_le _⟩ (fun r9 hr9 => ?_)
    obtain ⟨j, hj, rfl⟩ := hr9
    refine lv_iconst (v := 0) hx hb dL_act_132 (by decide) ?_
    refine lv_iconst (v := 0) hx hb dL_act_133 (by decide) ?_
    refine k_leW (As := [.ref (a 0), .int 3, .int (nI j), .int 0, .int 0]) (rest := []) (nL := 5) (WR := ([] : va_W)) (WNf := wS a cI cZ) ⟨hx, hb, hml, hown, hts⟩ hK hX hP hD hS hA (c_L_does3 l D a cI cZ _ σ (nI j) 0 0 hflag I) [0, 1, 2, 3, 4, 5, 6, 7, 8, 9, 10, 11, 12, 13, 14, 15, 16, 17, 18, 19, 20] [] [0, 1, 2, 3, 4, 5, 6, 7, 8, 9, 10, 11, 12, 13, 14, 15, 16, 17, 18, 19, 20] rfl rfl rfl rfl rfl (by decide) (fun _ => rfl) (fun _ => rfl) rfl (vx_cwSW (hh := [(0, 101, 102, 36), (0, 101, 107, 38), (0, 101, 112, 40)]) 5 hts gL_act_L_does rfl rfl rfl (by decide +kernel) ⟨Nat.le_of_ble_eq_true rfl, Nat.le_of_ble_eq_true rfl⟩) rfl hl.1 rfl (Nat.le_of_ble_eq_true rfl) dL_act_134 ⟨Nat.le_of_ble_eq_true rfl, Nat.le_of_ble_eq_true rfl⟩ (fun r u H locs hr9 hP hD hS => ?_)
    exact k_endE (u := u) (Wf := wS a cI cZ) (Nat.le_refl _) (Nat.le_refl _) hx hb hr hlocks rfl (aP_of hr9 I (fun q => PI_breaks I q) (fun q => v_breaks I q) L_24 rfl) hP hD hS dL_act_137
  have seg138 : ∀ (x4 : Int32) (ls : Array Slot), lv_has ls 5 [(4, .int x4), (0, .ref (a 0)), (1, .int y), (2, .int (nI σ.2.1)), (3, .int (nI kd))] → W p l e (headSpec wsL_act ({ frames := 8, cells := 1, slots := 6, locals := 187 })).room s m ([.ref (a 0), .int y, .int (nI σ.2.1), .int (nI kd)] : List Value).toArray below meth c s.heap [] 0 0 (MQ below (va_Qi (aP σ) (fun u t => kAt D A (wS a cI cZ u) t) A) ([.ref (a 0), .int y, .int (nI σ.2.1), .int (nI kd)] : List Value).toArray s 1 6 A) (F0 m 138 ls []) := by
    intro x4 ls hl
    refine lv_aload_n hx hb dL_act_138 rfl (lv_at hl 1 rfl) ?_
    refine lv_iconst (v := 4) hx hb dL_act_139 (by decide) ?_
    refine lv_iload_n hx hb dL_act_140 rfl (lv_at hl 2 rfl) ?_
    refine lv_iconst (v := 4) hx hb dL_act_141 (by decide) ?_
    refine k_ps (As := [.int y, .int (nI 4)]) (rest := [.int 4, .ref (a 0)]) (nL := 5) ⟨hx, hb, hml, hown, hts⟩ (c_L_low l y 4 (by decide) (by decide)) (va_cwS 2 hts gL_act_L_low rfl rfl rfl (by decide +kernel) ⟨Nat.le_of_ble_eq_true rfl, Nat.le_of_ble_eq_true rfl⟩) rfl hl.1 rfl (Nat.le_of_ble_eq_true rfl) dL_act_142 ⟨Nat.zero_le _, Nat.zero_le _⟩ (fun r9 hr9 => ?_)
    obtain ⟨j, hj, rfl⟩ := hr9
    refine lv_iload_n hx hb dL_act_145 rfl (lv_at hl 2 rfl) ?_
    refine lv_iconst (v := 3) hx hb dL_act_146 (by decide) ?_
    refine lv_ishr hx hb dL_act_147 ?_
    refine lv_topi (fun z4 _ => ?_)
    refine lv_bipush (v := 26) hx hb dL_act_148 (by decide) ?_
    refine k_ps (As := [.int z4, .int (nI 26)]) (rest := [.int (nI j), .int 4, .ref (a 0)]) (nL := 5) ⟨hx, hb, hml, hown, hts⟩ (c_L_low l z4 26 (by decide) (by decide)) (va_cwS 2 hts gL_act_L_low rfl rfl rfl (by decide +kernel) ⟨Nat.le_of_ble_eq_true rfl, Nat.le_of_ble_eq_true rfl⟩) rfl hl.1 rfl (Nat.le_of_ble_eq_true rfl) dL_act_150 ⟨Nat.zero_le _, Nat.zero_le _⟩ (fun r9 hr9 => ?_)
    obtain ⟨j2, hj2, rfl⟩ := hr9
    refine lv_iconst (v := 0) hx hb dL_act_153 (by decide) ?_
    refine k_leW (As := [.ref (a 0), .int 4, .int (nI j), .int (nI j2), .int 0]) (rest := []) (nL := 5) (WR := ([] : va_W)) (WNf := wS a cI cZ) ⟨hx, hb, hml, hown, hts⟩ hK hX hP hD hS hA (c_L_does4 l D a cI cZ _ σ (nI j) (nI j2) 0 hflag I) [0, 1, 2, 3, 4, 5, 6, 7, 8, 9, 10, 11, 12, 13, 14, 15, 16, 17, 18, 19, 20] [] [0, 1, 2, 3, 4, 5, 6, 7, 8, 9, 10, 11, 12, 13, 14, 15, 16, 17, 18, 19, 20] rfl rfl rfl rfl rfl (by decide) (fun _ => rfl) (fun _ => rfl) rfl (vx_cwSW (hh := [(0, 101, 102, 36), (0, 101, 107, 38), (0, 101, 112, 40)]) 5 hts gL_act_L_does rfl rfl rfl (by decide +kernel) ⟨Nat.le_of_ble_eq_true rfl, Nat.le_of_ble_eq_true rfl⟩) rfl hl.1 rfl (Nat.le_of_ble_eq_true rfl) dL_act_154 ⟨Nat.le_of_ble_eq_true rfl, Nat.le_of_ble_eq_true rfl⟩ (fun r u H locs hr9 hP hD hS => ?_)
    exact k_endE (u := u) (Wf := wS a cI cZ) (Nat.le_refl _) (Nat.le_refl _) hx hb hr hlocks rfl (aP_of hr9 I (fun q => PI_crew I q) (fun _ => v_crew I _) L_23 rfl) hP hD hS dL_act_157
  have seg158 : ∀ (x4 : Int32) (ls : Array Slot), lv_has ls 5 [(4, .int x4), (0, .ref (a 0)), (1, .int y), (2, .int (nI σ.2.1)), (3, .int (nI kd))] → W p l e (headSpec wsL_act ({ frames := 8, cells := 1, slots := 6, locals := 187 })).room s m ([.ref (a 0), .int y, .int (nI σ.2.1), .int (nI kd)] : List Value).toArray below meth c s.heap [] 0 0 (MQ below (va_Qi (aP σ) (fun u t => kAt D A (wS a cI cZ u) t) A) ([.ref (a 0), .int y, .int (nI σ.2.1), .int (nI kd)] : List Value).toArray s 1 6 A) (F0 m 158 ls []) := by
    intro x4 ls hl
    refine lv_aload_n hx hb dL_act_158 rfl (lv_at hl 1 rfl) ?_
    refine lv_iload_n hx hb dL_act_159 rfl (lv_at hl 2 rfl) ?_
    refine lv_iconst (v := 3) hx hb dL_act_160 (by decide) ?_
    refine k_ps (As := [.int y, .int (nI 3)]) (rest := [.ref (a 0)]) (nL := 5) ⟨hx, hb, hml, hown, hts⟩ (c_L_low l y 3 (by decide) (by decide)) (va_cwS 2 hts gL_act_L_low rfl rfl rfl (by decide +kernel) ⟨Nat.le_of_ble_eq_true rfl, Nat.le_of_ble_eq_true rfl⟩) rfl hl.1 rfl (Nat.le_of_ble_eq_true rfl) dL_act_161 ⟨Nat.zero_le _, Nat.zero_le _⟩ (fun r9 hr9 => ?_)
    obtain ⟨j, hj, rfl⟩ := hr9
    refine lv_iload_n hx hb dL_act_164 rfl (lv_at hl 2 rfl) ?_
    refine lv_iconst (v := 3) hx hb dL_act_165 (by decide) ?_
    refine lv_ishr hx hb dL_act_166 ?_
    refine lv_topi (fun z5 _ => ?_)
    refine lv_bipush (v := 8) hx hb dL_act_167 (by decide) ?_
    refine k_ps (As := [.int z5, .int (nI 8)]) (rest := [.int (nI j), .ref (a 0)]) (nL := 5) ⟨hx, hb, hml, hown, hts⟩ (c_L_low l z5 8 (by decide) (by decide)) (va_cwS 2 hts gL_act_L_low rfl rfl rfl (by decide +kernel) ⟨Nat.le_of_ble_eq_true rfl, Nat.le_of_ble_eq_true rfl⟩) rfl hl.1 rfl (Nat.le_of_ble_eq_true rfl) dL_act_169 ⟨Nat.zero_le _, Nat.zero_le _⟩ (fun r9 hr9 => ?_)
    obtain ⟨j2, hj2, rfl⟩ := hr9
    refine lv_iconst (v := 1) hx hb dL_act_172 (by decide) ?_
    refine lv_iload_n hx hb dL_act_173 rfl (lv_at hl 2 rfl) ?_
    refine lv_iconst (v := 5) hx hb dL_act_174 (by decide) ?_
    refine lv_ishr hx hb dL_act_175 ?_
    refine lv_topi (fun z6 _ => ?_)
    refine lv_bipush (v := 12) hx hb dL_act_176 (by decide) ?_
    refine k_ps (As := [.int z6, .int (nI 12)]) (rest := [.int 1, .int (nI j2), .int (nI j), .ref (a 0)]) (nL := 5) ⟨hx, hb, hml, hown, hts⟩ (c_L_low l z6 12 (by decide) (by decide)) (va_cwS 2 hts gL_act_L_low rfl rfl rfl (by decide +kernel) ⟨Nat.le_of_ble_eq_true rfl, Nat.le_of_ble_eq_true rfl⟩) rfl hl.1 rfl (Nat.le_of_ble_eq_true rfl) dL_act_178 ⟨Nat.zero_le _, Nat.zero_le _⟩ (fun r9 hr9 => ?_)
    obtain ⟨j3, hj3, rfl⟩ := hr9
    refine lv_iadd hx hb dL_act_181 ?_
    refine k_leW (As := [.ref (a 0), .int (nI j), .int (nI j2), .int (1 + (nI j3))]) (rest := []) (nL := 5) (WR := ([] : va_W)) (WNf := wS a cI cZ) ⟨hx, hb, hml, hown, hts⟩ hK hX hP hD hS hA (c_L_repairs l D a cI cZ _ σ (nI j) (nI j2) (1 + nI j3) hflag I) [0, 1, 2, 3, 4, 5, 6, 7, 8, 9, 10, 11, 12, 13, 14, 15, 16, 17, 18, 19, 20] [] [0, 1, 2, 3, 4, 5, 6, 7, 8, 9, 10, 11, 12, 13, 14, 15, 16, 17, 18, 19, 20] rfl rfl rfl rfl rfl (by decide) (fun _ => rfl) (fun _ => rfl) rfl (vx_cwSW (hh := [(0, 8, 9, 36), (0, 8, 14, 38), (0, 8, 19, 40)]) 4 hts gL_act_L_repairs rfl rfl rfl (by decide +kernel) ⟨Nat.le_of_ble_eq_true rfl, Nat.le_of_ble_eq_true rfl⟩) rfl hl.1 rfl (Nat.le_of_ble_eq_true rfl) dL_act_182 ⟨Nat.le_of_ble_eq_true rfl, Nat.le_of_ble_eq_true rfl⟩ (fun r u H locs hr9 hP hD hS => ?_)
    exact k_endE (u := u) (Wf := wS a cI cZ) (Nat.le_refl _) (Nat.le_refl _) hx hb hr hlocks rfl (aP_of hr9 I (fun q => PI_repair I q) (fun _ => by decide) L_234 rfl) hP hD hS dL_act_185
  have seg186 : ∀ (x4 : Int32) (ls : Array Slot), lv_has ls 5 [(4, .int x4), (0, .ref (a 0)), (1, .int y), (2, .int (nI σ.2.1)), (3, .int (nI kd))] → W p l e (headSpec wsL_act ({ frames := 8, cells := 1, slots := 6, locals := 187 })).room s m ([.ref (a 0), .int y, .int (nI σ.2.1), .int (nI kd)] : List Value).toArray below meth c s.heap [] 0 0 (MQ below (va_Qi (aP σ) (fun u t => kAt D A (wS a cI cZ u) t) A) ([.ref (a 0), .int y, .int (nI σ.2.1), .int (nI kd)] : List Value).toArray s 1 6 A) (F0 m 186 ls []) := by
    intro x4 ls hl
    refine lv_aload_n hx hb dL_act_186 rfl (lv_at hl 1 rfl) ?_
    refine lv_iconst (v := 5) hx hb dL_act_187 (by decide) ?_
    refine lv_iload hx hb dL_act_188 (lv_at hl 0 rfl) ?_
    refine lv_iload_n hx hb dL_act_190 rfl (lv_at hl 2 rfl) ?_
    refine lv_iconst (v := 4) hx hb dL_act_191 (by decide) ?_
    refine lv_ishr hx hb dL_act_192 ?_
    refine lv_topi (fun z7 _ => ?_)
    refine lv_sipush (v := 6000) hx hb dL_act_193 (by decide) ?_
    refine k_ps (As := [.int z7, .int (nI 6000)]) (rest := [.int x4, .int 5, .ref (a 0)]) (nL := 5) ⟨hx, hb, hml, hown, hts⟩ (c_L_low l z7 6000 (by decide) (by decide)) (va_cwS 2 hts gL_act_L_low rfl rfl rfl (by decide +kernel) ⟨Nat.le_of_ble_eq_true rfl, Nat.le_of_ble_eq_true rfl⟩) rfl hl.1 rfl (Nat.le_of_ble_eq_true rfl) dL_act_196 ⟨Nat.zero_le _, Nat.zero_le _⟩ (fun r9 hr9 => ?_)
    obtain ⟨j, hj, rfl⟩ := hr9
    refine lv_iconst (v := 1) hx hb dL_act_199 (by decide) ?_
    refine lv_iload_n hx hb dL_act_200 rfl (lv_at hl 2 rfl) ?_
    refine lv_bipush (v := 6) hx hb dL_act_201 (by decide) ?_
    refine lv_ishr hx hb dL_act_203 ?_
    refine lv_topi (fun z8 _ => ?_)
    refine lv_bipush (v := 100) hx hb dL_act_204 (by decide) ?_
    refine k_ps (As := [.int z8, .int (nI 100)]) (rest := [.int 1, .int (nI j), .int x4, .int 5, .ref (a 0)]) (nL := 5) ⟨hx, hb, hml, hown, hts⟩ (c_L_low l z8 100 (by decide) (by decide)) (va_cwS 2 hts gL_act_L_low rfl rfl rfl (by decide +kernel) ⟨Nat.le_of_ble_eq_true rfl, Nat.le_of_ble_eq_true rfl⟩) rfl hl.1 rfl (Nat.le_of_ble_eq_true rfl) dL_act_206 ⟨Nat.zero_le _, Nat.zero_le _⟩ (fun r9 hr9 => ?_)
    obtain ⟨j2, hj2, rfl⟩ := hr9
    refine lv_iadd hx hb dL_act_209 ?_
    refine k_leW (As := [.ref (a 0), .int 5, .int x4, .int (nI j), .int (1 + (nI j2))]) (rest := []) (nL := 5) (WR := ([] : va_W)) (WNf := wS a cI cZ) ⟨hx, hb, hml, hown, hts⟩ hK hX hP hD hS hA (c_L_does5 l D a cI cZ _ σ x4 (nI j) (1 + nI j2) hflag I) [0, 1, 2, 3, 4, 5, 6, 7, 8, 9, 10, 11, 12, 13, 14, 15, 16, 17, 18, 19, 20] [] [0, 1, 2, 3, 4, 5, 6, 7, 8, 9, 10, 11, 12, 13, 14, 15, 16, 17, 18, 19, 20] rfl rfl rfl rfl rfl (by decide) (fun _ => rfl) (fun _ => rfl) rfl (vx_cwSW (hh := [(0, 101, 102, 36), (0, 101, 107, 38), (0, 101, 112, 40)]) 5 hts gL_act_L_does rfl rfl rfl (by decide +kernel) ⟨Nat.le_of_ble_eq_true rfl, Nat.le_of_ble_eq_true rfl⟩) rfl hl.1 rfl (Nat.le_of_ble_eq_true rfl) dL_act_210 ⟨Nat.le_of_ble_eq_true rfl, Nat.le_of_ble_eq_true rfl⟩ (fun r u H locs hr9 hP hD hS => ?_)
    refine lv_iconst (v := (-1)) hx hb dL_act_213 (by decide) ?_
    refine lv_icmp_ge (tgt := 222) hx hb dL_act_214 (by decide) (fun c1 => ?_) (fun c1 => ?_)
    · refine lv_iconst (v := 0) hx hb dL_act_222 (by decide) ?_
      exact k_endE (u := u) (Wf := wS a cI cZ) (Nat.le_refl _) (Nat.le_refl _) hx hb hr hlocks rfl (aP_sell0 I hr9 (fun q => PI_sell I q) rfl) hP hD hS dL_act_223
    · refine lv_bipush (v := (-4)) hx hb dL_act_217 (by decide) ?_
      refine lv_goto (tgt := 223) hx hb dL_act_219 (by decide) ?_
      exact k_endE (u := u) (Wf := wS a cI cZ) (Nat.le_refl _) (Nat.le_refl _) hx hb hr hlocks rfl (aP_sell4 I hr9 (v_sell I _) c1) hP hD hS dL_act_223
  refine lv_iload_n hx hb dL_act_0 rfl (lv_at hl 2 rfl) ?_
  refine lv_iload_n hx hb dL_act_1 rfl (lv_at hl 1 rfl) ?_
  refine lv_iconst (v := 3) hx hb dL_act_2 (by decide) ?_
  refine lv_ishr hx hb dL_act_3 ?_
  refine lv_topi (fun z9 _ => ?_)
  refine lv_bipush (v := 30) hx hb dL_act_4 (by decide) ?_
  refine k_ps (As := [.int z9, .int (nI 30)]) (rest := [.int (nI σ.2.1)]) (nL := 5) ⟨hx, hb, hml, hown, hts⟩ (c_L_low l z9 30 (by decide) (by decide)) (va_cwS 2 hts gL_act_L_low rfl rfl rfl (by decide +kernel) ⟨Nat.le_of_ble_eq_true rfl, Nat.le_of_ble_eq_true rfl⟩) rfl hl.1 rfl (Nat.le_of_ble_eq_true rfl) dL_act_6 ⟨Nat.zero_le _, Nat.zero_le _⟩ (fun r9 hr9 => ?_)
  obtain ⟨j0, hj0, rfl⟩ := hr9
  refine lv_iadd hx hb dL_act_9 ?_
  refine lv_istore (lv' := [(4, .int ((nI σ.2.1) + (nI j0))), (0, .ref (a 0)), (1, .int y), (2, .int (nI σ.2.1)), (3, .int (nI kd))]) hx hb dL_act_10 hl (by decide) rfl (fun ls hl => ?_)
  refine lv_iload_n hx hb dL_act_12 rfl (lv_at hl 4 rfl) ?_
  have h10 : kd = 0 ∨ kd = 1 ∨ kd = 2 ∨ kd = 3 ∨ kd = 4 ∨ kd = 5 ∨ kd = 6 ∨ kd = 7 ∨ kd = 8 ∨ kd = 9 := by omega
  rcases h10 with rfl | rfl | rfl | rfl | rfl | rfl | rfl | rfl | rfl | rfl
  · refine lv_tableIn (off := 47) (tgt := 60) hx hb dL_act_13 (by decide) (by decide) (by decide) (by decide) ?_
    exact seg60 _ _ hl
  · refine lv_tableIn (off := 47) (tgt := 60) hx hb dL_act_13 (by decide) (by decide) (by decide) (by decide) ?_
    exact seg60 _ _ hl
  · refine lv_tableIn (off := 61) (tgt := 74) hx hb dL_act_13 (by decide) (by decide) (by decide) (by decide) ?_
    exact seg74 _ _ hl
  · refine lv_tableIn (off := 61) (tgt := 74) hx hb dL_act_13 (by decide) (by decide) (by decide) (by decide) ?_
    exact seg74 _ _ hl
  · refine lv_tableIn (off := 94) (tgt := 107) hx hb dL_act_13 (by decide) (by decide) (by decide) (by decide) ?_
    exact seg107 _ _ hl
  · refine lv_tableIn (off := 111) (tgt := 124) hx hb dL_act_13 (by decide) (by decide) (by decide) (by decide) ?_
    exact seg124 _ _ hl
  · refine lv_tableIn (off := 125) (tgt := 138) hx hb dL_act_13 (by decide) (by decide) (by decide) (by decide) ?_
    exact seg138 _ _ hl
  · refine lv_tableIn (off := 145) (tgt := 158) hx hb dL_act_13 (by decide) (by decide) (by decide) (by decide) ?_
    exact seg158 _ _ hl
  · refine lv_tableOut (tgt := 186) hx hb dL_act_13 (Or.inr (by decide)) (by decide) ?_
    exact seg186 _ _ hl
  · refine lv_tableOut (tgt := 186) hx hb dL_act_13 (Or.inr (by decide)) (by decide) ?_
    exact seg186 _ _ hl
