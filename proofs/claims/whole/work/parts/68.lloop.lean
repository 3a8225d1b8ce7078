/-! The law's loop, and its last case (written by program). -/
theorem head_lt {L i0 : Nat} (hL : L ≤ 2560) (hi : i0 ≤ 2565) : Int32.ofNat L - 5 < nI i0 ↔ L < i0 + 5 := by
  have h1 : (Int32.ofNat L).toInt = (L : Int) := nI_toInt (n := L) (by omega)
  have h5 : (5 : Int32).toInt = 5 := by decide
  have h2 : (Int32.ofNat L - 5).toInt = (L : Int) - 5 := by
    rw [Int32.toInt_sub, h1, h5]
    unfold Int.bmod
    simp only
    split <;> omega
  rw [Int32.lt_iff_toInt_lt, h2, nI_toInt (by omega)]
  omega
set_option maxHeartbeats 8000000 in
set_option maxRecDepth 100000 in
theorem law_brought {p : Program} {l : Launch} {e : Env} {s : State} {m : MethodId} {below : List Frame} {meth : Method} {c : Code} {Q : State → Prop} {sb L : Nat} {xs : Nat → Int32} {D : va_G} {cI cZ cJ cD : ClassId} {a bm : Nat → Nat} {o od i0 cells slots : Nat} {n h : Nat} {sp we tw ta pl br md tu le cr to ia sl pr al tn mo : Nat → Int32} {th : Int32} {fo : Nat → Int64} {fd : Nat → UInt64} (E : LH p l s m c sb L xs D cI cZ cJ cD) (I : LInv n h we tw ta pl br md tu le to ia sl pr al mo) {H : Heap} {locs : List Loc} {ls : Array Slot} (hf : cells + 1 ≤ room_1.cells ∧ slots + 6 ≤ room_1.slots) (hP : va_P D vwCl (wT a cI cZ (nI h) ++ (wW a cI cZ sp we tw ++ (wF a cI cZ ta pl br (fun _ => 0) md (nI n) (fSum br n) ++ (wE a cI cZ tu le cr to ia ++ (wG a cI cZ sl pr al (fBrt sl pr al h) ++ (wM bm cI cZ pl br md tn (nI n) sp we tw sl pr al mo (nI h) cr tu le to ia th ++ (wOJ o cJ fo ++ wOD od cD fd))))))) H) (hD : va_D (lA s) (wT a cI cZ (nI h) ++ (wW a cI cZ sp we tw ++ (wF a cI cZ ta pl br (fun _ => 0) md (nI n) (fSum br n) ++ (wE a cI cZ tu le cr to ia ++ (wG a cI cZ sl pr al (fBrt sl pr al h) ++ (wM bm cI cZ pl br md tn (nI n) sp we tw sl pr al mo (nI h) cr tu le to ia th ++ (wOJ o cJ fo ++ wOD od cD fd)))))))) (hS : va_S (lA s) s.heap H locs) (hl : lv_has ls 8 [(5, .int (nI i0)), (4, .ref od), (3, .ref o), (2, .ref (bm 0)), (1, .ref (a 0)), (0, .ref sb)]) (k : LK p l e s m below meth c Q sb D cI cZ cJ cD a bm o od i0 (cells + 1) (slots + 6)) : W p l e room_1 s m #[.ref sb] below meth c H locs cells slots Q (F0 m 1126 ls []) := by
  obtain ⟨hx, hb, hml, hown, hts, hXs, hbl, hK, hX, hfl, hL⟩ := E
  refine lv_aload_n hx hb dL_law_1126 rfl (lv_at hl 4 rfl) ?_
  refine k_rdl (As := []) (rest := []) (nL := 8) ⟨hx, hb, hml, hown, hts⟩ hK.k hP (c_X4_brought l D a cI cZ sp we tw ta pl br (fun _ => 0) md (fSum br n) tu le cr to ia sl pr al (fBrt sl pr al h) n h) [0, 1, 2, 3, 4, 5, 6, 7, 8, 9, 10, 11, 12, 13, 14, 15, 16, 17, 18, 19, 20] rfl 0 rfl rfl rfl (cwV 0 hts gL_law_X4_brought rfl rfl rfl (by decide +kernel) ⟨Nat.le_of_ble_eq_true rfl, Nat.le_of_ble_eq_true rfl⟩) rfl hl.1 rfl (Nat.le_of_ble_eq_true rfl) dL_law_1127 ⟨by omega, by omega⟩ (fun r8 hr8 => ?_)
  subst hr8
  refine lv_aload_n hx hb dL_law_1130 rfl (lv_at hl 3 rfl) ?_
  refine k_ul (As := []) (rest := [.long (fBrt sl pr al h)]) (nL := 8) (WR := wT a cI cZ (nI h) ++ (wW a cI cZ sp we tw ++ (wF a cI cZ ta pl br (fun _ => 0) md (nI n) (fSum br n) ++ (wE a cI cZ tu le cr to ia ++ (wG a cI cZ sl pr al (fBrt sl pr al h) ++ (wOJ o cJ fo ++ wOD od cD fd)))))) (WN := wT a cI cZ (nI h) ++ (wW a cI cZ sp we tw ++ (wF a cI cZ ta pl br (fun _ => 0) md (nI n) (fSum br n) ++ (wE a cI cZ tu le cr to ia ++ (wG a cI cZ sl pr al (fBrt sl pr al h) ++ (wM bm cI cZ pl br md tn (nI n) sp we tw sl pr al mo (nI h) cr tu le to ia 0 ++ (wOJ o cJ fo ++ wOD od cD fd))))))) ⟨hx, hb, hml, hown, hts⟩ hK.k hP hD hS (fun _ h => h) (c_X5_brought l D bm cI cZ H.size pl br md tn sp we tw sl pr al mo cr tu le to ia th n h I.1 I.2.1 I.2.2.2.2.2.2.2.2.2) [21, 22, 23, 24, 25, 26, 27, 28, 29, 30, 31, 32, 33, 34, 35, 36, 37] [0, 1, 2, 3, 4, 5, 6, 7, 8, 9, 10, 11, 12, 13, 14, 15, 16, 17, 18, 19, 20, 38, 39] [0, 1, 2, 3, 4, 5, 6, 7, 8, 9, 10, 11, 12, 13, 14, 15, 16, 17, 18, 19, 20, 23, 24, 25, 26, 27, 28, 29, 30, 31, 32, 33, 34, 35, 36, 37, 38, 39, 21, 22] rfl rfl rfl rfl rfl (by decide) rfl rfl rfl 21 rfl rfl rfl (cwV 0 hts gL_law_X5_brought rfl rfl rfl (by decide +kernel) ⟨Nat.le_of_ble_eq_true rfl, Nat.le_of_ble_eq_true rfl⟩) rfl hl.1 rfl (Nat.le_of_ble_eq_true rfl) dL_law_1131 ⟨by omega, by omega⟩ (fun r9 H2 locs2 hr9 hP2 hD2 hS2 => ?_)
  subst hr9
  refine lv_lcmp_self hx hb rfl dL_law_1134 ?_
  refine lv_if_eq (tgt := 1140) hx hb dL_law_1135 (by decide) (fun _ => ?_) (fun q => absurd rfl q)
  exact W.widen (k := cells + 1) (n := slots + 6) (by omega) (by omega) (k n h sp we tw ta pl br md tu le cr to ia sl pr al tn mo 0 fo fd H2 locs2 ls I hP2 hD2 hS2 hl)
set_option maxHeartbeats 8000000 in
set_option maxRecDepth 100000 in
theorem law_loop {p : Program} {l : Launch} {e : Env} {s : State} {m : MethodId} {below : List Frame} {meth : Method} {c : Code} {Q : State → Prop} {sb L : Nat} {xs : Nat → Int32} {D : va_G} {cI cZ cJ cD : ClassId} {a bm : Nat → Nat} {o od : Nat} (E : LH p l s m c sb L xs D cI cZ cJ cD) (K : ∀ (H : Heap) (locs : List Loc) (ls : Array Slot) (cells slots : Nat), cells ≤ 1088 → slots ≤ 14771 → va_S (lA s) s.heap H locs → W p l e room_1 s m #[.ref sb] below meth c H locs cells slots Q (F0 m 1146 ls [])) : ∀ (f i0 cells slots : Nat) (n h : Nat) (sp we tw ta pl br md tu le cr to ia sl pr al tn mo : Nat → Int32) (th : Int32) (fo : Nat → Int64) (fd : Nat → UInt64) (H : Heap) (locs : List Loc) (ls : Array Slot), L < i0 + 5 + 5 * f → i0 ≤ 2565 → cells + f ≤ 1088 → slots + 6 * f ≤ 14771 → LInv n h we tw ta pl br md tu le to ia sl pr al mo → va_P D vwCl (wT a cI cZ (nI h) ++ (wW a cI cZ sp we tw ++ (wF a cI cZ ta pl br (fun _ => 0) md (nI n) (fSum br n) ++ (wE a cI cZ tu le cr to ia ++ (wG a cI cZ sl pr al (fBrt sl pr al h) ++ (wM bm cI cZ pl br md tn (nI n) sp we tw sl pr al mo (nI h) cr tu le to ia th ++ (wOJ o cJ fo ++ wOD od cD fd))))))) H → va_D (lA s) (wT a cI cZ (nI h) ++ (wW a cI cZ sp we tw ++ (wF a cI cZ ta pl br (fun _ => 0) md (nI n) (fSum br n) ++ (wE a cI cZ tu le cr to ia ++ (wG a cI cZ sl pr al (fBrt sl pr al h) ++ (wM bm cI cZ pl br md tn (nI n) sp we tw sl pr al mo (nI h) cr tu le to ia th ++ (wOJ o cJ fo ++ wOD od cD fd))))))) → va_S (lA s) s.heap H locs → lv_has ls 8 [(5, .int (nI i0)), (4, .ref od), (3, .ref o), (2, .ref (bm 0)), (1, .ref (a 0)), (0, .ref sb)] → W p l e room_1 s m #[.ref sb] below meth c H locs cells slots Q (F0 m 28 ls []) := by
  obtain ⟨hx, hb, hml, hown, hts, hXs, hbl, hK, hX, hfl, hL⟩ := E
  have E : LH p l s m c sb L xs D cI cZ cJ cD := ⟨hx, hb, hml, hown, hts, hXs, hbl, hK, hX, hfl, hL⟩
  intro f
  induction f with
  | zero =>
    intro i0 cells slots n h sp we tw ta pl br md tu le cr to ia sl pr al tn mo th fo fd H locs ls hf hi hc hsl I hP hD hS hl
    refine lv_iload hx hb dL_law_28 (lv_at hl 0 rfl) ?_
    refine lv_aload_n hx hb dL_law_30 rfl (lv_at hl 5 rfl) ?_
    refine va_slen (A := lA s) hx hb hXs hbl (fun h => absurd hbl (Nat.not_lt.mpr h)) hS dL_law_31 ?_
    refine lv_iconst (v := 5) hx hb dL_law_32 (by decide) ?_
    refine lv_isub hx hb dL_law_33 ?_
    refine lv_icmp_gt (tgt := 1146) hx hb dL_law_34 (by decide) (fun _ => K H locs ls cells slots (by omega) (by omega) hS) (fun q => absurd ((head_lt hL hi).mpr (by omega)) q)
  | succ f ih =>
    intro i0 cells slots n h sp we tw ta pl br md tu le cr to ia sl pr al tn mo th fo fd H locs ls hf hi hc hsl I hP hD hS hl
    refine lv_iload hx hb dL_law_28 (lv_at hl 0 rfl) ?_
    refine lv_aload_n hx hb dL_law_30 rfl (lv_at hl 5 rfl) ?_
    refine va_slen (A := lA s) hx hb hXs hbl (fun h => absurd hbl (Nat.not_lt.mpr h)) hS dL_law_31 ?_
    refine lv_iconst (v := 5) hx hb dL_law_32 (by decide) ?_
    refine lv_isub hx hb dL_law_33 ?_
    refine lv_icmp_gt (tgt := 1146) hx hb dL_law_34 (by decide) (fun _ => K H locs ls cells slots (by omega) (by omega) hS) (fun q => ?_)
    have hi5 : i0 + 5 ≤ L := Nat.not_lt.mp (fun z => q ((head_lt hL hi).mpr z))
    have hf2 : cells + 1 ≤ room_1.cells ∧ slots + 6 ≤ room_1.slots := ⟨by show cells + 1 ≤ 1088; omega, by show slots + 6 ≤ 14771; omega⟩
    have k : LK p l e s m below meth c Q sb D cI cZ cJ cD a bm o od i0 (cells + 1) (slots + 6) := fun n h sp we tw ta pl br md tu le cr to ia sl pr al tn mo th fo fd H1 locs1 ls1 I1 hP1 hD1 hS1 hl1 => by
      refine lv_iinc (k := 0) (v := nI (i0 + 5)) (lv' := [(5, .int (nI (i0 + 5))), (4, .ref od), (3, .ref o), (2, .ref (bm 0)), (1, .ref (a 0)), (0, .ref sb)]) hx hb dL_law_1140 hl1 rfl (by rw [← nI_add]; rfl) (by decide) rfl (fun ls2 hl2 => ?_)
      refine lv_goto (tgt := 28) hx hb dL_law_1143 (by decide) ?_
      exact ih (i0 + 5) (cells + 1) (slots + 6) n h sp we tw ta pl br md tu le cr to ia sl pr al tn mo th fo fd H1 locs1 ls2 (by omega) (by omega) (by omega) (by omega) I1 hP1 hD1 hS1 hl2
    refine lv_aload_n hx hb dL_law_37 rfl (lv_at hl 5 rfl) ?_
    refine lv_iload hx hb dL_law_38 (lv_at hl 0 rfl) ?_
    refine va_sld (A := lA s) hx hb hXs hbl (fun h => absurd hbl (Nat.not_lt.mpr h)) hS (vp_in_nI (by omega) (by omega)) dL_law_40 ?_
    refine lv_bipush (v := 15) hx hb dL_law_41 (by decide) ?_
    refine lv_iand hx hb dL_law_43 ?_
    obtain ⟨j, hj, ej⟩ := pk_andE (xs (nI i0).toNatClampNeg) (m := 15) 4 (by decide)
    rw [ej]
    clear ej
    rcases j with _ | j
    · refine lv_tableIn (off := 80) (tgt := 124) hx hb dL_law_44 (by decide) (by decide) (by decide) (by decide) ?_
      exact law_turbine E I hi5 rfl hf2 hP hD hS hl k
    rcases j with _ | j
    · refine lv_tableIn (off := 136) (tgt := 180) hx hb dL_law_44 (by decide) (by decide) (by decide) (by decide) ?_
      exact law_wind E I hi5 rfl rfl rfl rfl hf2 hP hD hS hl k
    rcases j with _ | j
    · refine lv_tableIn (off := 244) (tgt := 288) hx hb dL_law_44 (by decide) (by decide) (by decide) (by decide) ?_
      exact law_waves E I hi5 rfl rfl hf2 hP hD hS hl k
    rcases j with _ | j
    · refine lv_tableIn (off := 312) (tgt := 356) hx hb dL_law_44 (by decide) (by decide) (by decide) (by decide) ?_
      exact law_breaks E I hi5 rfl hf2 hP hD hS hl k
    rcases j with _ | j
    · refine lv_tableIn (off := 368) (tgt := 412) hx hb dL_law_44 (by decide) (by decide) (by decide) (by decide) ?_
      exact law_crew E I hi5 rfl rfl hf2 hP hD hS hl k
    rcases j with _ | j
    · refine lv_tableIn (off := 436) (tgt := 480) hx hb dL_law_44 (by decide) (by decide) (by decide) (by decide) ?_
      exact law_repair E I hi5 rfl rfl rfl hf2 hP hD hS hl k
    rcases j with _ | j
    · refine lv_tableIn (off := 496) (tgt := 540) hx hb dL_law_44 (by decide) (by decide) (by decide) (by decide) ?_
      exact law_sell E I hi5 rfl rfl rfl hf2 hP hD hS hl k
    rcases j with _ | j
    · refine lv_tableIn (off := 576) (tgt := 620) hx hb dL_law_44 (by decide) (by decide) (by decide) (by decide) ?_
      exact law_pass E I hi5 rfl hf2 hP hD hS hl k
    rcases j with _ | j
    · refine lv_tableIn (off := 632) (tgt := 676) hx hb dL_law_44 (by decide) (by decide) (by decide) (by decide) ?_
      exact law_windAt E I hi5 rfl hf2 hP hD hS hl k
    rcases j with _ | j
    · refine lv_tableIn (off := 688) (tgt := 732) hx hb dL_law_44 (by decide) (by decide) (by decide) (by decide) ?_
      exact law_foretold E I hi5 rfl hf2 hP hD hS hl k
    rcases j with _ | j
    · refine lv_tableIn (off := 744) (tgt := 788) hx hb dL_law_44 (by decide) (by decide) (by decide) (by decide) ?_
      exact law_foretoldAnew E I hi5 rfl hf2 hP hD hS hl k
    rcases j with _ | j
    · refine lv_tableIn (off := 800) (tgt := 844) hx hb dL_law_44 (by decide) (by decide) (by decide) (by decide) ?_
      exact law_ofHour E I hi5 rfl rfl hf2 hP hD hS hl k
    rcases j with _ | j
    · refine lv_tableIn (off := 868) (tgt := 912) hx hb dL_law_44 (by decide) (by decide) (by decide) (by decide) ?_
      exact law_ratio E I hi5 rfl hf2 hP hD hS hl k
    rcases j with _ | j
    · refine lv_tableIn (off := 946) (tgt := 990) hx hb dL_law_44 (by decide) (by decide) (by decide) (by decide) ?_
      exact law_ofBoat E I hi5 rfl rfl hf2 hP hD hS hl k
    rcases j with _ | j
    · refine lv_tableIn (off := 1014) (tgt := 1058) hx hb dL_law_44 (by decide) (by decide) (by decide) (by decide) ?_
      exact law_ofTurbine E I hi5 rfl rfl hf2 hP hD hS hl k
    rcases j with _ | j
    · refine lv_tableIn (off := 1082) (tgt := 1126) hx hb dL_law_44 (by decide) (by decide) (by decide) (by decide) ?_
      exact law_brought E I hf2 hP hD hS hl k
    exact absurd hj (by omega)
