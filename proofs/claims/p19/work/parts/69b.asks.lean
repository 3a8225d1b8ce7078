/-! What the law asks of an object: sums come out even (written by program). -/
theorem lv_lcmp_self {p : Program} {l : Launch} {e : Env} {R : Room} {s : State} {m : MethodId} {args : Array Value} {below : List Frame} {meth : Method} {c : Code} {H : Heap} {locs : List Loc} {cells slots : Nat} {Q : State → Prop} {cc : ByteArray} {pc : Nat} {ls : Array Slot} {rest : List Value} (hexec : p.tables.exec = Jvm.exec) (hb : c.code = cc) {x y : Int64} (hxy : x = y) (hdg : decode cc pc = .ok (.lcmp, 1))
    (k : W p l e R s m args below meth c H locs cells slots Q (F0 m (pc + 1) ls (.int 0 :: rest))) : W p l e R s m args below meth c H locs cells slots Q (F0 m pc ls (.long y :: .long x :: rest)) := by
  subst hxy
  intro T hT X
  obtain ⟨t, a, b⟩ := k T hT X
  refine ⟨t, ?_, b⟩
  jvm_step X.here [X.here.top, hexec, hb, hdg]
  exact a
theorem vH0 {sl pr mk : Nat → Int32} {k : Nat} : vOfHour sl pr mk k 0 = mk k := by unfold vOfHour; rw [if_pos rfl]
theorem vH1 {sl pr mk : Nat → Int32} {k : Nat} : vOfHour sl pr mk k 1 = fSold sl k := by unfold vOfHour; rw [if_neg (by decide), if_pos rfl]
theorem vH2 {sl pr mk : Nat → Int32} {k : Nat} : vOfHour sl pr mk k 2 = fSold sl k - mk k := by unfold vOfHour; rw [if_neg (by decide), if_neg (by decide), if_pos rfl]
theorem vH3 {sl pr mk : Nat → Int32} {k : Nat} : vOfHour sl pr mk k 3 = fBring sl pr mk k := by unfold vOfHour; rw [if_neg (by decide), if_neg (by decide), if_neg (by decide)]
theorem hour_k {σ : St} (I : PI σ) {k : Nat} (hk : k < σ.2.1) (w : Int32) : hourV σ (nI k) w = vOfHour (σ.2.2 12) (σ.2.2 13) (σ.2.2 14) k w := by
  have hh := I.h
  unfold hourV
  rw [if_pos ⟨nI_pos' (by omega), by
    obtain ⟨q, e⟩ : ∃ q, σ.2.1 = q + 1 := ⟨σ.2.1 - 1, by omega⟩
    rw [e, nI_pred]; exact nI_le (by omega) (by omega)⟩]
  show vOfHour _ _ _ (nI k).toNatClampNeg w = _
  rw [nI_clamp (by omega)]
theorem hour_0 {σ : St} (I : PI σ) {k : Nat} (hk : k < σ.2.1) : hourV σ (nI k) 0 = σ.2.2 14 k := (hour_k I hk 0).trans vH0
theorem hour_1 {σ : St} (I : PI σ) {k : Nat} (hk : k < σ.2.1) : hourV σ (nI k) 1 = fSold (σ.2.2 12) k := (hour_k I hk 1).trans vH1
theorem hour_2 {σ : St} (I : PI σ) {k : Nat} (hk : k < σ.2.1) : hourV σ (nI k) 2 = fSold (σ.2.2 12) k - σ.2.2 14 k := (hour_k I hk 2).trans vH2
theorem hour_3 {σ : St} (I : PI σ) {k : Nat} (hk : k < σ.2.1) : hourV σ (nI k) 3 = fBring (σ.2.2 12) (σ.2.2 13) (σ.2.2 14) k := (hour_k I hk 3).trans vH3
theorem hour_now {σ : St} (I : PI σ) : hourV σ (nI σ.2.1) 0 = -3 := by
  have hh := I.h
  unfold hourV
  rw [if_neg (fun c => by
    have h1 := (over_cl (x := nI σ.2.1) (by omega) c).2
    rw [show cl (nI σ.2.1) = σ.2.1 from nI_clamp (by omega)] at h1
    exact Nat.lt_irrefl _ h1)]
theorem ratio_0 {σ : St} (I : PI σ) {k : Nat} (hk : k < σ.2.1) : cRatio σ.2.1 (nI k) = 0 := by
  have hh := I.h
  unfold cRatio
  rw [if_pos ⟨nI_pos' (by omega), by
    obtain ⟨q, e⟩ : ∃ q, σ.2.1 = q + 1 := ⟨σ.2.1 - 1, by omega⟩
    rw [e, nI_pred]; exact nI_le (by omega) (by omega)⟩]
theorem ratio_n {σ : St} (I : PI σ) {k : Nat} (op : CmpOp) : 0 ≤ Op.cmpValue (FP.fcmp (fRatio (σ.2.2 12) (σ.2.2 14) k) FP.fconst0) op := by
  refine ratio_ge ?_ (I.2.2.2.2.2.2.1 k).1 op
  have h1 : σ.2.2 12 k = -1 ∨ 0 ≤ σ.2.2 12 k := I.1.2.2.2.2.2.2.2.1 k
  unfold fSold
  split
  · decide
  · next q =>
    have := le_i (h1.resolve_left q)
    rw [i_0] at this; exact this
theorem fore_now {σ : St} (I : PI σ) : cFore σ.2.1 (nI σ.2.1) = 0 := by
  have hh := I.h
  unfold cFore
  rw [if_pos ⟨nI_le (Nat.le_refl _) (by omega), nI_le (a := σ.2.1) (b := 479) (by omega) (by decide)⟩]
theorem of_t {σ : St} (I : PI σ) {t : Nat} (ht : t < σ.1) (w : Int32) : ofV σ (nI t) w = vOfTurb (σ.2.2 4) (σ.2.2 5) (σ.2.2 6) t w := by
  have hn := I.n
  unfold ofV
  rw [if_pos (hasT_nI I.n ht)]
  show vOfTurb _ _ _ (nI t).toNatClampNeg w = _
  rw [nI_clamp (by omega)]
theorem of_2 {σ : St} (I : PI σ) {t : Nat} (ht : t < σ.1) : ofV σ (nI t) 2 = σ.2.2 6 t := by
  rw [of_t I ht]; unfold vOfTurb; rw [if_neg (by decide), if_neg (by decide)]
theorem of_1 {σ : St} (I : PI σ) {t : Nat} (ht : t < σ.1) : ofV σ (nI t) 1 = σ.2.2 5 t := by
  rw [of_t I ht]; unfold vOfTurb; rw [if_neg (by decide), if_pos rfl]
theorem of_no {σ : St} (I : PI σ) {t : Nat} (ht : ¬ t < σ.1) (ht2 : t < 12) (w : Int32) : ofV σ (nI t) w = -2 := by
  unfold ofV
  rw [if_neg (fun c => ht (by
    have h1 := (has_cl I.n c).2
    rw [show cl (nI t) = t from nI_clamp (by omega)] at h1; exact h1))]
theorem md_nn {σ : St} (I : PI σ) (t : Nat) : 0 ≤ σ.2.2 6 t := by
  have h1 : 0 ≤ (σ.2.2 6 t).toInt := (I.2.2.2.2.2.1 t).1
  exact Int32.le_iff_toInt_le.mpr (by rw [i_0]; exact h1)
theorem md_z {σ : St} (I : PI σ) {t : Nat} (ht : ¬ t < σ.1) : σ.2.2 6 t = 0 := (I.2.2.2.2.2.1 t).2.2 (by omega)
theorem made_all {σ : St} (I : PI σ) : lSum (σ.2.2 14) σ.2.1 = lSum (σ.2.2 6) 12 := by
  have h1 : iSum (fun j => (σ.2.2 14 j).toInt) σ.2.1 = iSum (fun t => (σ.2.2 6 t).toInt) σ.1 := I.2.2.2.2.2.2.2
  have h2 : ∀ k, σ.1 + k ≤ 12 → iSum (fun t => (σ.2.2 6 t).toInt) (σ.1 + k) = iSum (fun t => (σ.2.2 6 t).toInt) σ.1 := by
    intro k
    induction k with
    | zero => intro _; rfl
    | succ k ih =>
      intro hk
      show iSum (fun t => (σ.2.2 6 t).toInt) (σ.1 + k) + (σ.2.2 6 (σ.1 + k)).toInt = _
      rw [ih (by omega), md_z I (by omega), i_0]; omega
  have hn := I.n
  have h3 := h2 (12 - σ.1) (by omega)
  rw [show σ.1 + (12 - σ.1) = 12 by omega] at h3
  rw [lSum_int, lSum_int, h1, h3]
theorem wind_ok {σ : St} (I : PI σ) (p : Nat) : iR (fWind (σ.2.2 1 σ.2.1) (σ.2.2 4) (σ.2.2 5) (fun _ => 0) σ.1 (σ.2.2 0 σ.2.1) p) := iR_wind (I.2.1 _)
theorem windAt_0 {σ : St} (I : PI σ) {t : Nat} (ht : t < σ.1) : cWindAt σ.1 (nI t) = 0 := by unfold cWindAt; rw [if_pos (hasT_nI I.n ht)]
theorem boat_v {tu le to ia : Nat → Int32} {b : Nat} (hb : b < 3) : vOfBoat tu le to ia (cl (nI b)) 0 = tu b ∧ vOfBoat tu le to ia (cl (nI b)) 1 = le b ∧ vOfBoat tu le to ia (cl (nI b)) 2 = to b ∧ vOfBoat tu le to ia (cl (nI b)) 3 = ia b := by
  rw [show cl (nI b) = b from nI_clamp (by omega)]
  unfold vOfBoat
  refine ⟨?_, ?_, ?_, ?_⟩
  · rw [if_pos rfl]
  · rw [if_neg (by decide), if_pos rfl]
  · rw [if_neg (by decide), if_neg (by decide), if_pos rfl]
  · rw [if_neg (by decide), if_neg (by decide), if_neg (by decide)]
theorem boat_c {σ : St} (I : PI σ) {b : Nat} (hb : b < 3) : (σ.2.2 7 b = -1 ∧ σ.2.2 8 b = 0) ∨ ∃ j, j < σ.1 ∧ σ.2.2 7 b = nI j ∧ σ.2.2 5 j = 1 ∧ 1 ≤ σ.2.2 8 b := by
  rcases I.ok.2.2.1 b hb with h | ⟨h1, h2, h3⟩
  · exact Or.inl h
  · refine Or.inr ⟨fP (σ.2.2 7) b, h2, h1, h3, ?_⟩
    have hn := I.n
    have h1 : σ.2.2 7 b = nI (fP (σ.2.2 7) b) := h1
    have h2 : fP (σ.2.2 7) b < σ.1 := h2
    have hne : ¬ σ.2.2 7 b = -1 := by rw [h1]; exact fun w => nI_pos (n := fP (σ.2.2 7) b) (by omega) (by rw [w]; decide)
    have h4 : 1 ≤ (σ.2.2 8 b).toInt := (I.2.2.2.2.1 b hb).resolve_left hne
    exact Int32.le_iff_toInt_le.mpr (by rw [i_1]; exact h4)
theorem boat_t {σ : St} (I : PI σ) (b : Nat) : σ.2.2 10 b ≤ σ.2.2 11 b ∧ σ.2.2 10 b ≤ 24 := by
  obtain ⟨h1, h2, h3, h4⟩ : 0 ≤ (σ.2.2 10 b).toInt ∧ (σ.2.2 10 b).toInt ≤ 24 ∧ (σ.2.2 10 b).toInt ≤ (σ.2.2 11 b).toInt ∧ (σ.2.2 11 b).toInt ≤ σ.2.1 := I.2.2.2.1 b
  exact ⟨Int32.le_iff_toInt_le.mpr h3, Int32.le_iff_toInt_le.mpr (by rw [show (24 : Int32).toInt = 24 by decide]; exact h2)⟩
theorem foreAnew {σ : St} (I : PI σ) (k : Nat) : fSum (fPw (σ.2.2 1 k) (σ.2.2 4) (σ.2.2 5) (fun _ => 0) σ.1 (σ.2.2 0 k)) σ.1 = fSum (fPwAnew (σ.2.2 1 k) (σ.2.2 4) (σ.2.2 3) (σ.2.2 5) (fun _ => 0) σ.1 (σ.2.2 0 k)) σ.1 := (pwanew_eq (I.we k) I.n I.pl I.ta).symm
set_option maxHeartbeats 4000000 in
set_option maxRecDepth 100000 in
theorem c_L_asks (l : Launch) (D : va_G) (a : Nat → Nat) (cI cZ : ClassId) (sz : Nat) (σ : St) (hflag : l.stackTraces = false) (I : PI σ) : kWE l yL_asks wsL_asks ({ frames := 8, cells := 2937, slots := 17622, locals := 140 }) [.ref (a 0), .int (nI σ.2.1)] D cI cZ sz (wS a cI cZ σ) (fun _ : Unit => wS a cI cZ σ) (fun r _ => r = 1) 2937 17622 := by
  refine Met.ofW (cc := cL_asks) (maxL := 10) (ret := (some .boolean)) (by decide) rfl ?_
  intro p e s m args below meth c s₁ B hml hv
  obtain ⟨rfl, hsz, hP, hK, hD0, hX⟩ := hv
  have hx := B.exec
  have hb := B.bytes
  have hr := B.returns
  have hts := atoms_spec (ws := wsL_asks) B.pre
  have hown : s.vm.findClass RL = some m.cls := findClass_of_methodNamed B.named
  have hlocks := B.notSynchronized
  subst hsz
  have hD := hD0.self (sz := s.heap.size)
  generalize hAe : va_A (wS a cI cZ σ) s.heap.size = A at hD hX ⊢
  have hA : ∀ q : Nat, s.heap.size ≤ q → A q := fun q h => by rw [← hAe]; exact Or.inr h
  have hl := lv_entry ([.ref (a 0), .int (nI σ.2.1)]) (n := 10) (Nat.le_of_ble_eq_true rfl)
  rw [lg_entry_eq]
  generalize (lg_sl ([.ref (a 0), .int (nI σ.2.1)]) ++ List.replicate (10 - (lg_sl ([.ref (a 0), .int (nI σ.2.1)])).length) Slot.unset).toArray = ls at hl ⊢
  have hl : lv_has ls 10 [(0, .ref (a 0)), (1, .int (nI σ.2.1))] := hl
  have hS : va_S A s.heap s.heap [] := va_S.rf
  have hh := I.h
  have seg251 : ∀ (H : Heap) (locs : List Loc) (cells slots : Nat), cells ≤ 2934 → slots ≤ 17604 → va_P D vwCl (wS a cI cZ σ) H → va_D A (wS a cI cZ σ) → va_S A s.heap H locs → ∀ (ls : Array Slot), lv_has ls 10 [(2, .long (lSum (σ.2.2 14) σ.2.1)), (4, .long (lSum (σ.2.2 6) 12)), (6, .long (fBrt (σ.2.2 12) (σ.2.2 13) (σ.2.2 14) σ.2.1)), (0, .ref (a 0)), (1, .int (nI σ.2.1))] → W p l e (headSpec wsL_asks ({ frames := 8, cells := 2937, slots := 17622, locals := 140 })).room s m ([.ref (a 0), .int (nI σ.2.1)] : List Value).toArray below meth c H locs cells slots (MQ below (va_Qi (fun (r : Int32) (_ : Unit) => r = 1) (fun _ t => kAt D A (wS a cI cZ σ) t) A) ([.ref (a 0), .int (nI σ.2.1)] : List Value).toArray s 2937 17622 A) (F0 m 251 ls []) := by
    intro H locs cells slots hc hs hP hD hS ls hl
    refine lv_lload_n hx hb dL_asks_251 rfl (lv_at hl 0 rfl) ?_
    refine lv_lload hx hb dL_asks_252 (lv_at hl 1 rfl) ?_
    refine lv_lcmp_self hx hb (made_all I) dL_asks_254 ?_
    refine lv_if_ne (tgt := 296) hx hb dL_asks_255 (by decide) (fun q => absurd rfl q) (fun _ => ?_)
    refine lv_lload hx hb dL_asks_258 (lv_at hl 2 rfl) ?_
    refine lv_aload_n hx hb dL_asks_260 rfl (lv_at hl 3 rfl) ?_
    refine k_rdl (As := []) (rest := [.long (fBrt (σ.2.2 12) (σ.2.2 13) (σ.2.2 14) σ.2.1)]) (nL := 10) ⟨hx, hb, hml, hown, hts⟩ hK.k hP (c_X4_brought l D a cI cZ (σ.2.2 0) (σ.2.2 1) (σ.2.2 2) (σ.2.2 3) (σ.2.2 4) (σ.2.2 5) (fun _ => 0) (σ.2.2 6) (fSum (σ.2.2 5) σ.1) (σ.2.2 7) (σ.2.2 8) (σ.2.2 9) (σ.2.2 10) (σ.2.2 11) (σ.2.2 12) (σ.2.2 13) (σ.2.2 14) (fBrt (σ.2.2 12) (σ.2.2 13) (σ.2.2 14) σ.2.1) σ.1 σ.2.1) [0, 1, 2, 3, 4, 5, 6, 7, 8, 9, 10, 11, 12, 13, 14, 15, 16, 17, 18, 19, 20] rfl 0 rfl rfl rfl (cwV 0 hts gL_asks_X4_brought rfl rfl rfl (by decide +kernel) ⟨Nat.le_of_ble_eq_true rfl, Nat.le_of_ble_eq_true rfl⟩) rfl hl.1 rfl (Nat.le_of_ble_eq_true rfl) dL_asks_261 ⟨show cells ≤ 2937 by omega, show slots ≤ 17622 by omega⟩ (fun r9 hr9 => ?_)
    subst hr9
    refine lv_lcmp_self hx hb rfl dL_asks_264 ?_
    refine lv_if_ne (tgt := 296) hx hb dL_asks_265 (by decide) (fun q => absurd rfl q) (fun _ => ?_)
    refine lv_aload_n hx hb dL_asks_268 rfl (lv_at hl 3 rfl) ?_
    refine lv_iload_n hx hb dL_asks_269 rfl (lv_at hl 4 rfl) ?_
    refine k_xi0 (As := [.int (nI σ.2.1)]) (rest := []) (nL := 10) (WR := ([] : va_W)) ⟨hx, hb, hml, hown, hts⟩ hK hX hP hD hS hA (c_X4_foretold l D a cI cZ _ (σ.2.2 0) (σ.2.2 1) (σ.2.2 2) (σ.2.2 3) (σ.2.2 4) (σ.2.2 5) (fun _ => 0) (σ.2.2 6) (fSum (σ.2.2 5) σ.1) (σ.2.2 7) (σ.2.2 8) (σ.2.2 9) (σ.2.2 10) (σ.2.2 11) (σ.2.2 12) (σ.2.2 13) (σ.2.2 14) (fBrt (σ.2.2 12) (σ.2.2 13) (σ.2.2 14) σ.2.1) σ.1 σ.2.1 (nI σ.2.1) hflag I.n I.h I.pl I.we) (fore_now I) [0, 1, 2, 3, 4, 5, 6, 7, 8, 9, 10, 11, 12, 13, 14, 15, 16, 17, 18, 19, 20] [] [0, 1, 2, 3, 4, 5, 6, 7, 8, 9, 10, 11, 12, 13, 14, 15, 16, 17, 18, 19, 20] rfl rfl rfl rfl rfl (by decide) rfl rfl rfl 0 rfl rfl rfl (cwV 1 hts gL_asks_X4_foretold rfl rfl rfl (by decide +kernel) ⟨Nat.le_of_ble_eq_true rfl, Nat.le_of_ble_eq_true rfl⟩) rfl hl.1 rfl (Nat.le_of_ble_eq_true rfl) dL_asks_270 ⟨show cells + 1 ≤ 2937 by omega, show slots + 6 ≤ 17622 by omega⟩ (fun r9 H locs hr9 hP hD hS => ?_)
    have hra := hr9
    refine lv_aload_n hx hb dL_asks_273 rfl (lv_at hl 3 rfl) ?_
    refine lv_iload_n hx hb dL_asks_274 rfl (lv_at hl 4 rfl) ?_
    refine k_xi0 (As := [.int (nI σ.2.1)]) (rest := [.int r9]) (nL := 10) (WR := ([] : va_W)) ⟨hx, hb, hml, hown, hts⟩ hK hX hP hD hS hA (c_X4_foretoldAnew l D a cI cZ _ (σ.2.2 0) (σ.2.2 1) (σ.2.2 2) (σ.2.2 3) (σ.2.2 4) (σ.2.2 5) (fun _ => 0) (σ.2.2 6) (fSum (σ.2.2 5) σ.1) (σ.2.2 7) (σ.2.2 8) (σ.2.2 9) (σ.2.2 10) (σ.2.2 11) (σ.2.2 12) (σ.2.2 13) (σ.2.2 14) (fBrt (σ.2.2 12) (σ.2.2 13) (σ.2.2 14) σ.2.1) σ.1 σ.2.1 (nI σ.2.1) hflag I.n I.h I.pl I.we) (fore_now I) [0, 1, 2, 3, 4, 5, 6, 7, 8, 9, 10, 11, 12, 13, 14, 15, 16, 17, 18, 19, 20] [] [0, 1, 2, 3, 4, 5, 6, 7, 8, 9, 10, 11, 12, 13, 14, 15, 16, 17, 18, 19, 20] rfl rfl rfl rfl rfl (by decide) rfl rfl rfl 0 rfl rfl rfl (cwV 1 hts gL_asks_X4_foretoldAnew rfl rfl rfl (by decide +kernel) ⟨Nat.le_of_ble_eq_true rfl, Nat.le_of_ble_eq_true rfl⟩) rfl hl.1 rfl (Nat.le_of_ble_eq_true rfl) dL_asks_275 ⟨show cells + 1 + 1 ≤ 2937 by omega, show slots + 6 + 6 ≤ 17622 by omega⟩ (fun rb H locs hrb hP hD hS => ?_)
    have e9 : r9 = rb := hra.trans ((foreAnew I _).trans hrb.symm)
    refine lv_icmp_ne (tgt := 296) hx hb dL_asks_278 (by decide) (fun q => absurd e9 q) (fun _ => ?_)
    refine lv_aload_n hx hb dL_asks_281 rfl (lv_at hl 3 rfl) ?_
    refine lv_iload_n hx hb dL_asks_282 rfl (lv_at hl 4 rfl) ?_
    refine lv_iconst (v := 0) hx hb dL_asks_283 (by decide) ?_
    refine k_leW (As := [.ref (a 0), .int (nI σ.2.1), .int 0]) (rest := []) (nL := 10) (WR := ([] : va_W)) (WNf := fun _ => wS a cI cZ σ) ⟨hx, hb, hml, hown, hts⟩ hK hX hP hD hS hA (c_L_hour l D a cI cZ _ σ (nI σ.2.1) 0 hflag I (by decide)) [0, 1, 2, 3, 4, 5, 6, 7, 8, 9, 10, 11, 12, 13, 14, 15, 16, 17, 18, 19, 20] [] [0, 1, 2, 3, 4, 5, 6, 7, 8, 9, 10, 11, 12, 13, 14, 15, 16, 17, 18, 19, 20] rfl rfl rfl rfl rfl (by decide) (fun _ => rfl) (fun _ => rfl) rfl (vx_cwSW (hh := [(0, 6, 7, 38)]) 3 hts gL_asks_L_hour rfl rfl rfl (by decide +kernel) ⟨Nat.le_of_ble_eq_true rfl, Nat.le_of_ble_eq_true rfl⟩) rfl hl.1 rfl (Nat.le_of_ble_eq_true rfl) dL_asks_284 ⟨show cells + 1 + 1 + 1 ≤ 2937 by omega, show slots + 6 + 6 + 6 ≤ 17622 by omega⟩ (fun rc _ H locs hrc hP hD hS => ?_)
    have e8 := hrc.trans (hour_now I)
    subst e8
    refine lv_bipush (v := (-3)) hx hb dL_asks_287 (by decide) ?_
    refine lv_icmp_ne (tgt := 296) hx hb dL_asks_289 (by decide) (fun q => absurd rfl q) (fun _ => ?_)
    refine lv_iconst (v := 1) hx hb dL_asks_292 (by decide) ?_
    refine lv_goto (tgt := 297) hx hb dL_asks_293 (by decide) ?_
    exact k_endE (u := ()) (Wf := fun _ : Unit => wS a cI cZ σ) (show cells + 1 + 1 + 1 ≤ 2937 by omega) (show slots + 6 + 6 + 6 ≤ 17622 by omega) hx hb hr hlocks rfl rfl hP hD hS dL_asks_297
  generalize (MQ below (va_Qi (fun (r : Int32) (_ : Unit) => r = 1) (fun _ t => kAt D A (wS a cI cZ σ) t) A) ([.ref (a 0), .int (nI σ.2.1)] : List Value).toArray s 2937 17622 A) = Q at seg251 ⊢
  have loop157 : ∀ (nn b : Nat), 3 - b < nn → b ≤ 3 → ∀ (H : Heap) (locs : List Loc) (cells slots : Nat), cells ≤ 2916 + 6 * b → slots ≤ 17496 + 36 * b → va_P D vwCl (wS a cI cZ σ) H → va_D A (wS a cI cZ σ) → va_S A s.heap H locs → ∀ (ls : Array Slot), lv_has ls 10 [(8, .int (nI b)), (2, .long (lSum (σ.2.2 14) σ.2.1)), (4, .long (lSum (σ.2.2 6) 12)), (6, .long (fBrt (σ.2.2 12) (σ.2.2 13) (σ.2.2 14) σ.2.1)), (0, .ref (a 0)), (1, .int (nI σ.2.1))] → W p l e (headSpec wsL_asks ({ frames := 8, cells := 2937, slots := 17622, locals := 140 })).room s m ([.ref (a 0), .int (nI σ.2.1)] : List Value).toArray below meth c H locs cells slots Q (F0 m 157 ls []) := by
    intro nn
    induction nn with
    | zero => intro b h; omega
    | succ nn ih =>
      intro b hm hk H locs cells slots hc hs hP hD hS ls hl
      refine lv_iload hx hb dL_asks_157 (lv_at hl 0 rfl) ?_
      refine lv_iconst (v := 3) hx hb dL_asks_159 (by decide) ?_
      refine lv_icmp_ge (tgt := 251) hx hb dL_asks_160 (by decide) (fun c1 => ?_) (fun c1 => ?_)
      · have c2 : 3 ≤ b := (nI_leI (a := 3) (b := b) (by decide) (by omega)).mp c1
        obtain rfl : b = 3 := by omega
        exact seg251 H locs cells slots (by omega) (by omega) hP hD hS ls (lv_sub hl [1, 2, 3, 4, 5] rfl)
      · have c2 : b < 3 := Nat.lt_of_not_le (fun z => c1 (nI_le (a := 3) (b := b) z (by omega)))
        obtain ⟨bv0, bv1, bv2, bv3⟩ := boat_v (tu := σ.2.2 7) (le := σ.2.2 8) (to := σ.2.2 10) (ia := σ.2.2 11) c2
        refine lv_aload_n hx hb dL_asks_163 rfl (lv_at hl 4 rfl) ?_
        refine lv_iload hx hb dL_asks_164 (lv_at hl 0 rfl) ?_
        refine lv_iconst (v := 0) hx hb dL_asks_166 (by decide) ?_
        refine k_xi0 (As := [.int (nI b), .int 0]) (rest := []) (nL := 10) (WR := ([] : va_W)) ⟨hx, hb, hml, hown, hts⟩ hK hX hP hD hS hA (c_X4_ofBoat l D a cI cZ _ (σ.2.2 0) (σ.2.2 1) (σ.2.2 2) (σ.2.2 3) (σ.2.2 4) (σ.2.2 5) (fun _ => 0) (σ.2.2 6) (fSum (σ.2.2 5) σ.1) (σ.2.2 7) (σ.2.2 8) (σ.2.2 9) (σ.2.2 10) (σ.2.2 11) (σ.2.2 12) (σ.2.2 13) (σ.2.2 14) (fBrt (σ.2.2 12) (σ.2.2 13) (σ.2.2 14) σ.2.1) σ.1 σ.2.1 (nI b) 0 hflag I.n I.h) (boat_0 (k := 0) c2 (by decide)) [0, 1, 2, 3, 4, 5, 6, 7, 8, 9, 10, 11, 12, 13, 14, 15, 16, 17, 18, 19, 20] [] [0, 1, 2, 3, 4, 5, 6, 7, 8, 9, 10, 11, 12, 13, 14, 15, 16, 17, 18, 19, 20] rfl rfl rfl rfl rfl (by decide) rfl rfl rfl 0 rfl rfl rfl (cwV 2 hts gL_asks_X4_ofBoat rfl rfl rfl (by decide +kernel) ⟨Nat.le_of_ble_eq_true rfl, Nat.le_of_ble_eq_true rfl⟩) rfl hl.1 rfl (Nat.le_of_ble_eq_true rfl) dL_asks_167 ⟨show cells + 1 ≤ 2937 by omega, show slots + 6 ≤ 17622 by omega⟩ (fun r9 H locs hr9 hP hD hS => ?_)
        have e9 := hr9.trans bv0
        clear hr9
        subst e9
        refine lv_istore (lv' := [(9, .int (σ.2.2 7 b)), (8, .int (nI b)), (2, .long (lSum (σ.2.2 14) σ.2.1)), (4, .long (lSum (σ.2.2 6) 12)), (6, .long (fBrt (σ.2.2 12) (σ.2.2 13) (σ.2.2 14) σ.2.1)), (0, .ref (a 0)), (1, .int (nI σ.2.1))]) hx hb dL_asks_170 hl (by decide) rfl (fun ls hl => ?_)
        refine lv_iload hx hb dL_asks_172 (lv_at hl 0 rfl) ?_
        rcases boat_c I c2 with ⟨b1, b2⟩ | ⟨j, b1, b2, b3, b4⟩
        · refine lv_if_lt (tgt := 199) hx hb dL_asks_174 (by decide) (fun _ => ?_) (fun q => absurd q (by rw [b1]; decide))
          refine lv_iload hx hb dL_asks_199 (lv_at hl 0 rfl) ?_
          refine lv_if_ge (tgt := 214) hx hb dL_asks_201 (by decide) (fun q => absurd q (by rw [b1]; decide)) (fun _ => ?_)
          refine lv_aload_n hx hb dL_asks_204 rfl (lv_at hl 5 rfl) ?_
          refine lv_iload hx hb dL_asks_205 (lv_at hl 1 rfl) ?_
          refine lv_iconst (v := 1) hx hb dL_asks_207 (by decide) ?_
          refine k_xi0 (As := [.int (nI b), .int 1]) (rest := []) (nL := 10) (WR := ([] : va_W)) ⟨hx, hb, hml, hown, hts⟩ hK hX hP hD hS hA (c_X4_ofBoat l D a cI cZ _ (σ.2.2 0) (σ.2.2 1) (σ.2.2 2) (σ.2.2 3) (σ.2.2 4) (σ.2.2 5) (fun _ => 0) (σ.2.2 6) (fSum (σ.2.2 5) σ.1) (σ.2.2 7) (σ.2.2 8) (σ.2.2 9) (σ.2.2 10) (σ.2.2 11) (σ.2.2 12) (σ.2.2 13) (σ.2.2 14) (fBrt (σ.2.2 12) (σ.2.2 13) (σ.2.2 14) σ.2.1) σ.1 σ.2.1 (nI b) 1 hflag I.n I.h) (boat_0 (k := 1) c2 (by decide)) [0, 1, 2, 3, 4, 5, 6, 7, 8, 9, 10, 11, 12, 13, 14, 15, 16, 17, 18, 19, 20] [] [0, 1, 2, 3, 4, 5, 6, 7, 8, 9, 10, 11, 12, 13, 14, 15, 16, 17, 18, 19, 20] rfl rfl rfl rfl rfl (by decide) rfl rfl rfl 0 rfl rfl rfl (cwV 2 hts gL_asks_X4_ofBoat rfl rfl rfl (by decide +kernel) ⟨Nat.le_of_ble_eq_true rfl, Nat.le_of_ble_eq_true rfl⟩) rfl hl.1 rfl (Nat.le_of_ble_eq_true rfl) dL_asks_208 ⟨show cells + 1 + 1 ≤ 2937 by omega, show slots + 6 + 6 ≤ 17622 by omega⟩ (fun r9 H locs hr9 hP hD hS => ?_)
          have e9 := hr9.trans bv1
          clear hr9
          subst e9
          refine lv_if_ne (tgt := 243) hx hb dL_asks_211 (by decide) (fun q => absurd b2 q) (fun _ => ?_)
          refine lv_aload_n hx hb dL_asks_214 rfl (lv_at hl 5 rfl) ?_
          refine lv_iload hx hb dL_asks_215 (lv_at hl 1 rfl) ?_
          refine lv_iconst (v := 2) hx hb dL_asks_217 (by decide) ?_
          refine k_xi0 (As := [.int (nI b), .int 2]) (rest := []) (nL := 10) (WR := ([] : va_W)) ⟨hx, hb, hml, hown, hts⟩ hK hX hP hD hS hA (c_X4_ofBoat l D a cI cZ _ (σ.2.2 0) (σ.2.2 1) (σ.2.2 2) (σ.2.2 3) (σ.2.2 4) (σ.2.2 5) (fun _ => 0) (σ.2.2 6) (fSum (σ.2.2 5) σ.1) (σ.2.2 7) (σ.2.2 8) (σ.2.2 9) (σ.2.2 10) (σ.2.2 11) (σ.2.2 12) (σ.2.2 13) (σ.2.2 14) (fBrt (σ.2.2 12) (σ.2.2 13) (σ.2.2 14) σ.2.1) σ.1 σ.2.1 (nI b) 2 hflag I.n I.h) (boat_0 (k := 2) c2 (by decide)) [0, 1, 2, 3, 4, 5, 6, 7, 8, 9, 10, 11, 12, 13, 14, 15, 16, 17, 18, 19, 20] [] [0, 1, 2, 3, 4, 5, 6, 7, 8, 9, 10, 11, 12, 13, 14, 15, 16, 17, 18, 19, 20] rfl rfl rfl rfl rfl (by decide) rfl rfl rfl 0 rfl rfl rfl (cwV 2 hts gL_asks_X4_ofBoat rfl rfl rfl (by decide +kernel) ⟨Nat.le_of_ble_eq_true rfl, Nat.le_of_ble_eq_true rfl⟩) rfl hl.1 rfl (Nat.le_of_ble_eq_true rfl) dL_asks_218 ⟨show cells + 1 + 1 + 1 ≤ 2937 by omega, show slots + 6 + 6 + 6 ≤ 17622 by omega⟩ (fun r9 H locs hr9 hP hD hS => ?_)
          have e9 := hr9.trans bv2
          clear hr9
          subst e9
          refine lv_aload_n hx hb dL_asks_221 rfl (lv_at hl 5 rfl) ?_
          refine lv_iload hx hb dL_asks_222 (lv_at hl 1 rfl) ?_
          refine lv_iconst (v := 3) hx hb dL_asks_224 (by decide) ?_
          refine k_xi0 (As := [.int (nI b), .int 3]) (rest := [.int (σ.2.2 10 b)]) (nL := 10) (WR := ([] : va_W)) ⟨hx, hb, hml, hown, hts⟩ hK hX hP hD hS hA (c_X4_ofBoat l D a cI cZ _ (σ.2.2 0) (σ.2.2 1) (σ.2.2 2) (σ.2.2 3) (σ.2.2 4) (σ.2.2 5) (fun _ => 0) (σ.2.2 6) (fSum (σ.2.2 5) σ.1) (σ.2.2 7) (σ.2.2 8) (σ.2.2 9) (σ.2.2 10) (σ.2.2 11) (σ.2.2 12) (σ.2.2 13) (σ.2.2 14) (fBrt (σ.2.2 12) (σ.2.2 13) (σ.2.2 14) σ.2.1) σ.1 σ.2.1 (nI b) 3 hflag I.n I.h) (boat_0 (k := 3) c2 (by decide)) [0, 1, 2, 3, 4, 5, 6, 7, 8, 9, 10, 11, 12, 13, 14, 15, 16, 17, 18, 19, 20] [] [0, 1, 2, 3, 4, 5, 6, 7, 8, 9, 10, 11, 12, 13, 14, 15, 16, 17, 18, 19, 20] rfl rfl rfl rfl rfl (by decide) rfl rfl rfl 0 rfl rfl rfl (cwV 2 hts gL_asks_X4_ofBoat rfl rfl rfl (by decide +kernel) ⟨Nat.le_of_ble_eq_true rfl, Nat.le_of_ble_eq_true rfl⟩) rfl hl.1 rfl (Nat.le_of_ble_eq_true rfl) dL_asks_225 ⟨show cells + 1 + 1 + 1 + 1 ≤ 2937 by omega, show slots + 6 + 6 + 6 + 6 ≤ 17622 by omega⟩ (fun r9 H locs hr9 hP hD hS => ?_)
          have e9 := hr9.trans bv3
          clear hr9
          subst e9
          refine lv_icmp_gt (tgt := 243) hx hb dL_asks_228 (by decide) (fun q => absurd q (Int32.not_lt.mpr (boat_t I b).1)) (fun _ => ?_)
          refine lv_aload_n hx hb dL_asks_231 rfl (lv_at hl 5 rfl) ?_
          refine lv_iload hx hb dL_asks_232 (lv_at hl 1 rfl) ?_
          refine lv_iconst (v := 2) hx hb dL_asks_234 (by decide) ?_
          refine k_xi0 (As := [.int (nI b), .int 2]) (rest := []) (nL := 10) (WR := ([] : va_W)) ⟨hx, hb, hml, hown, hts⟩ hK hX hP hD hS hA (c_X4_ofBoat l D a cI cZ _ (σ.2.2 0) (σ.2.2 1) (σ.2.2 2) (σ.2.2 3) (σ.2.2 4) (σ.2.2 5) (fun _ => 0) (σ.2.2 6) (fSum (σ.2.2 5) σ.1) (σ.2.2 7) (σ.2.2 8) (σ.2.2 9) (σ.2.2 10) (σ.2.2 11) (σ.2.2 12) (σ.2.2 13) (σ.2.2 14) (fBrt (σ.2.2 12) (σ.2.2 13) (σ.2.2 14) σ.2.1) σ.1 σ.2.1 (nI b) 2 hflag I.n I.h) (boat_0 (k := 2) c2 (by decide)) [0, 1, 2, 3, 4, 5, 6, 7, 8, 9, 10, 11, 12, 13, 14, 15, 16, 17, 18, 19, 20] [] [0, 1, 2, 3, 4, 5, 6, 7, 8, 9, 10, 11, 12, 13, 14, 15, 16, 17, 18, 19, 20] rfl rfl rfl rfl rfl (by decide) rfl rfl rfl 0 rfl rfl rfl (cwV 2 hts gL_asks_X4_ofBoat rfl rfl rfl (by decide +kernel) ⟨Nat.le_of_ble_eq_true rfl, Nat.le_of_ble_eq_true rfl⟩) rfl hl.1 rfl (Nat.le_of_ble_eq_true rfl) dL_asks_235 ⟨show cells + 1 + 1 + 1 + 1 + 1 ≤ 2937 by omega, show slots + 6 + 6 + 6 + 6 + 6 ≤ 17622 by omega⟩ (fun r9 H locs hr9 hP hD hS => ?_)
          have e9 := hr9.trans bv2
          clear hr9
          subst e9
          refine lv_bipush (v := 24) hx hb dL_asks_238 (by decide) ?_
          refine lv_icmp_le (tgt := 245) hx hb dL_asks_240 (by decide) (fun _ => ?_) (fun q => absurd (boat_t I b).2 q)
          refine lv_iinc (v := nI (b + 1)) (lv' := [(8, .int (nI (b + 1))), (9, .int (σ.2.2 7 b)), (2, .long (lSum (σ.2.2 14) σ.2.1)), (4, .long (lSum (σ.2.2 6) 12)), (6, .long (fBrt (σ.2.2 12) (σ.2.2 13) (σ.2.2 14) σ.2.1)), (0, .ref (a 0)), (1, .int (nI σ.2.1))]) hx hb dL_asks_245 hl (k := 1) rfl (nI_1 _) (by decide) rfl (fun ls hl => ?_)
          refine lv_goto (tgt := 157) hx hb dL_asks_248 (by decide) ?_
          exact ih (b + 1) (by omega) (by omega) H locs (cells + 1 + 1 + 1 + 1 + 1) (slots + 6 + 6 + 6 + 6 + 6) (by omega) (by omega) hP hD hS ls (lv_sub hl [0, 2, 3, 4, 5, 6] rfl)
        · have hn := I.n
          refine lv_if_lt (tgt := 199) hx hb dL_asks_174 (by decide) (fun q => absurd q (by rw [b2]; exact nI_pos (by omega))) (fun _ => ?_)
          refine lv_aload_n hx hb dL_asks_177 rfl (lv_at hl 5 rfl) ?_
          refine lv_iload hx hb dL_asks_178 (lv_at hl 0 rfl) ?_
          refine lv_iconst (v := 1) hx hb dL_asks_180 (by decide) ?_
          refine k_leW (As := [.ref (a 0), .int (σ.2.2 7 b), .int 1]) (rest := []) (nL := 10) (WR := ([] : va_W)) (WNf := fun _ => wS a cI cZ σ) ⟨hx, hb, hml, hown, hts⟩ hK hX hP hD hS hA (c_L_of l D a cI cZ _ σ (σ.2.2 7 b) 1 hflag I (by decide)) [0, 1, 2, 3, 4, 5, 6, 7, 8, 9, 10, 11, 12, 13, 14, 15, 16, 17, 18, 19, 20] [] [0, 1, 2, 3, 4, 5, 6, 7, 8, 9, 10, 11, 12, 13, 14, 15, 16, 17, 18, 19, 20] rfl rfl rfl rfl rfl (by decide) (fun _ => rfl) (fun _ => rfl) rfl (vx_cwSW (hh := [(0, 6, 7, 36)]) 3 hts gL_asks_L_of rfl rfl rfl (by decide +kernel) ⟨Nat.le_of_ble_eq_true rfl, Nat.le_of_ble_eq_true rfl⟩) rfl hl.1 rfl (Nat.le_of_ble_eq_true rfl) dL_asks_181 ⟨show cells + 1 + 1 ≤ 2937 by omega, show slots + 6 + 6 ≤ 17622 by omega⟩ (fun r9 _ H locs hr9 hP hD hS => ?_)
          rw [b2, of_1 I b1, b3] at hr9
          subst hr9
          refine lv_iconst (v := 1) hx hb dL_asks_184 (by decide) ?_
          refine lv_icmp_ne (tgt := 243) hx hb dL_asks_185 (by decide) (fun q => absurd rfl q) (fun _ => ?_)
          refine lv_aload_n hx hb dL_asks_188 rfl (lv_at hl 5 rfl) ?_
          refine lv_iload hx hb dL_asks_189 (lv_at hl 1 rfl) ?_
          refine lv_iconst (v := 1) hx hb dL_asks_191 (by decide) ?_
          refine k_xi0 (As := [.int (nI b), .int 1]) (rest := []) (nL := 10) (WR := ([] : va_W)) ⟨hx, hb, hml, hown, hts⟩ hK hX hP hD hS hA (c_X4_ofBoat l D a cI cZ _ (σ.2.2 0) (σ.2.2 1) (σ.2.2 2) (σ.2.2 3) (σ.2.2 4) (σ.2.2 5) (fun _ => 0) (σ.2.2 6) (fSum (σ.2.2 5) σ.1) (σ.2.2 7) (σ.2.2 8) (σ.2.2 9) (σ.2.2 10) (σ.2.2 11) (σ.2.2 12) (σ.2.2 13) (σ.2.2 14) (fBrt (σ.2.2 12) (σ.2.2 13) (σ.2.2 14) σ.2.1) σ.1 σ.2.1 (nI b) 1 hflag I.n I.h) (boat_0 (k := 1) c2 (by decide)) [0, 1, 2, 3, 4, 5, 6, 7, 8, 9, 10, 11, 12, 13, 14, 15, 16, 17, 18, 19, 20] [] [0, 1, 2, 3, 4, 5, 6, 7, 8, 9, 10, 11, 12, 13, 14, 15, 16, 17, 18, 19, 20] rfl rfl rfl rfl rfl (by decide) rfl rfl rfl 0 rfl rfl rfl (cwV 2 hts gL_asks_X4_ofBoat rfl rfl rfl (by decide +kernel) ⟨Nat.le_of_ble_eq_true rfl, Nat.le_of_ble_eq_true rfl⟩) rfl hl.1 rfl (Nat.le_of_ble_eq_true rfl) dL_asks_192 ⟨show cells + 1 + 1 + 1 ≤ 2937 by omega, show slots + 6 + 6 + 6 ≤ 17622 by omega⟩ (fun r9 H locs hr9 hP hD hS => ?_)
          have e9 := hr9.trans bv1
          clear hr9
          subst e9
          refine lv_iconst (v := 1) hx hb dL_asks_195 (by decide) ?_
          refine lv_icmp_lt (tgt := 243) hx hb dL_asks_196 (by decide) (fun q => absurd q (Int32.not_lt.mpr b4)) (fun _ => ?_)
          refine lv_iload hx hb dL_asks_199 (lv_at hl 0 rfl) ?_
          refine lv_if_ge (tgt := 214) hx hb dL_asks_201 (by decide) (fun _ => ?_) (fun q => absurd (by rw [b2]; exact nI_pos' (by omega)) q)
          refine lv_aload_n hx hb dL_asks_214 rfl (lv_at hl 5 rfl) ?_
          refine lv_iload hx hb dL_asks_215 (lv_at hl 1 rfl) ?_
          refine lv_iconst (v := 2) hx hb dL_asks_217 (by decide) ?_
          refine k_xi0 (As := [.int (nI b), .int 2]) (rest := []) (nL := 10) (WR := ([] : va_W)) ⟨hx, hb, hml, hown, hts⟩ hK hX hP hD hS hA (c_X4_ofBoat l D a cI cZ _ (σ.2.2 0) (σ.2.2 1) (σ.2.2 2) (σ.2.2 3) (σ.2.2 4) (σ.2.2 5) (fun _ => 0) (σ.2.2 6) (fSum (σ.2.2 5) σ.1) (σ.2.2 7) (σ.2.2 8) (σ.2.2 9) (σ.2.2 10) (σ.2.2 11) (σ.2.2 12) (σ.2.2 13) (σ.2.2 14) (fBrt (σ.2.2 12) (σ.2.2 13) (σ.2.2 14) σ.2.1) σ.1 σ.2.1 (nI b) 2 hflag I.n I.h) (boat_0 (k := 2) c2 (by decide)) [0, 1, 2, 3, 4, 5, 6, 7, 8, 9, 10, 11, 12, 13, 14, 15, 16, 17, 18, 19, 20] [] [0, 1, 2, 3, 4, 5, 6, 7, 8, 9, 10, 11, 12, 13, 14, 15, 16, 17, 18, 19, 20] rfl rfl rfl rfl rfl (by decide) rfl rfl rfl 0 rfl rfl rfl (cwV 2 hts gL_asks_X4_ofBoat rfl rfl rfl (by decide +kernel) ⟨Nat.le_of_ble_eq_true rfl, Nat.le_of_ble_eq_true rfl⟩) rfl hl.1 rfl (Nat.le_of_ble_eq_true rfl) dL_asks_218 ⟨show cells + 1 + 1 + 1 + 1 ≤ 2937 by omega, show slots + 6 + 6 + 6 + 6 ≤ 17622 by omega⟩ (fun r9 H locs hr9 hP hD hS => ?_)
          have e9 := hr9.trans bv2
          clear hr9
          subst e9
          refine lv_aload_n hx hb dL_asks_221 rfl (lv_at hl 5 rfl) ?_
          refine lv_iload hx hb dL_asks_222 (lv_at hl 1 rfl) ?_
          refine lv_iconst (v := 3) hx hb dL_asks_224 (by decide) ?_
          refine k_xi0 (As := [.int (nI b), .int 3]) (rest := [.int (σ.2.2 10 b)]) (nL := 10) (WR := ([] : va_W)) ⟨hx, hb, hml, hown, hts⟩ hK hX hP hD hS hA (c_X4_ofBoat l D a cI cZ _ (σ.2.2 0) (σ.2.2 1) (σ.2.2 2) (σ.2.2 3) (σ.2.2 4) (σ.2.2 5) (fun _ => 0) (σ.2.2 6) (fSum (σ.2.2 5) σ.1) (σ.2.2 7) (σ.2.2 8) (σ.2.2 9) (σ.2.2 10) (σ.2.2 11) (σ.2.2 12) (σ.2.2 13) (σ.2.2 14) (fBrt (σ.2.2 12) (σ.2.2 13) (σ.2.2 14) σ.2.1) σ.1 σ.2.1 (nI b) 3 hflag I.n I.h) (boat_0 (k := 3) c2 (by decide)) [0, 1, 2, 3, 4, 5, 6, 7, 8, 9, 10, 11, 12, 13, 14, 15, 16, 17, 18, 19, 20] [] [0, 1, 2, 3, 4, 5, 6, 7, 8, 9, 10, 11, 12, 13, 14, 15, 16, 17, 18, 19, 20] rfl rfl rfl rfl rfl (by decide) rfl rfl rfl 0 rfl rfl rfl (cwV 2 hts gL_asks_X4_ofBoat rfl rfl rfl (by decide +kernel) ⟨Nat.le_of_ble_eq_true rfl, Nat.le_of_ble_eq_true rfl⟩) rfl hl.1 rfl (Nat.le_of_ble_eq_true rfl) dL_asks_225 ⟨show cells + 1 + 1 + 1 + 1 + 1 ≤ 2937 by omega, show slots + 6 + 6 + 6 + 6 + 6 ≤ 17622 by omega⟩ (fun r9 H locs hr9 hP hD hS => ?_)
          have e9 := hr9.trans bv3
          clear hr9
          subst e9
          refine lv_icmp_gt (tgt := 243) hx hb dL_asks_228 (by decide) (fun q => absurd q (Int32.not_lt.mpr (boat_t I b).1)) (fun _ => ?_)
          refine lv_aload_n hx hb dL_asks_231 rfl (lv_at hl 5 rfl) ?_
          refine lv_iload hx hb dL_asks_232 (lv_at hl 1 rfl) ?_
          refine lv_iconst (v := 2) hx hb dL_asks_234 (by decide) ?_
          refine k_xi0 (As := [.int (nI b), .int 2]) (rest := []) (nL := 10) (WR := ([] : va_W)) ⟨hx, hb, hml, hown, hts⟩ hK hX hP hD hS hA (c_X4_ofBoat l D a cI cZ _ (σ.2.2 0) (σ.2.2 1) (σ.2.2 2) (σ.2.2 3) (σ.2.2 4) (σ.2.2 5) (fun _ => 0) (σ.2.2 6) (fSum (σ.2.2 5) σ.1) (σ.2.2 7) (σ.2.2 8) (σ.2.2 9) (σ.2.2 10) (σ.2.2 11) (σ.2.2 12) (σ.2.2 13) (σ.2.2 14) (fBrt (σ.2.2 12) (σ.2.2 13) (σ.2.2 14) σ.2.1) σ.1 σ.2.1 (nI b) 2 hflag I.n I.h) (boat_0 (k := 2) c2 (by decide)) [0, 1, 2, 3, 4, 5, 6, 7, 8, 9, 10, 11, 12, 13, 14, 15, 16, 17, 18, 19, 20] [] [0, 1, 2, 3, 4, 5, 6, 7, 8, 9, 10, 11, 12, 13, 14, 15, 16, 17, 18, 19, 20] rfl rfl rfl rfl rfl (by decide) rfl rfl rfl 0 rfl rfl rfl (cwV 2 hts gL_asks_X4_ofBoat rfl rfl rfl (by decide +kernel) ⟨Nat.le_of_ble_eq_true rfl, Nat.le_of_ble_eq_true rfl⟩) rfl hl.1 rfl (Nat.le_of_ble_eq_true rfl) dL_asks_235 ⟨show cells + 1 + 1 + 1 + 1 + 1 + 1 ≤ 2937 by omega, show slots + 6 + 6 + 6 + 6 + 6 + 6 ≤ 17622 by omega⟩ (fun r9 H locs hr9 hP hD hS => ?_)
          have e9 := hr9.trans bv2
          clear hr9
          subst e9
          refine lv_bipush (v := 24) hx hb dL_asks_238 (by decide) ?_
          refine lv_icmp_le (tgt := 245) hx hb dL_asks_240 (by decide) (fun _ => ?_) (fun q => absurd (boat_t I b).2 q)
          refine lv_iinc (v := nI (b + 1)) (lv' := [(8, .int (nI (b + 1))), (9, .int (σ.2.2 7 b)), (2, .long (lSum (σ.2.2 14) σ.2.1)), (4, .long (lSum (σ.2.2 6) 12)), (6, .long (fBrt (σ.2.2 12) (σ.2.2 13) (σ.2.2 14) σ.2.1)), (0, .ref (a 0)), (1, .int (nI σ.2.1))]) hx hb dL_asks_245 hl (k := 1) rfl (nI_1 _) (by decide) rfl (fun ls hl => ?_)
          refine lv_goto (tgt := 157) hx hb dL_asks_248 (by decide) ?_
          exact ih (b + 1) (by omega) (by omega) H locs (cells + 1 + 1 + 1 + 1 + 1 + 1) (slots + 6 + 6 + 6 + 6 + 6 + 6) (by omega) (by omega) hP hD hS ls (lv_sub hl [0, 2, 3, 4, 5, 6] rfl)
  have loop88 : ∀ (nn t : Nat), 12 - t < nn → t ≤ 12 → ∀ (H : Heap) (locs : List Loc) (cells slots : Nat), cells ≤ 2880 + 3 * t → slots ≤ 17280 + 18 * t → va_P D vwCl (wS a cI cZ σ) H → va_D A (wS a cI cZ σ) → va_S A s.heap H locs → ∀ (ls : Array Slot), lv_has ls 10 [(8, .int (nI t)), (2, .long (lSum (σ.2.2 14) σ.2.1)), (4, .long (lSum (σ.2.2 6) t)), (6, .long (fBrt (σ.2.2 12) (σ.2.2 13) (σ.2.2 14) σ.2.1)), (0, .ref (a 0)), (1, .int (nI σ.2.1))] → W p l e (headSpec wsL_asks ({ frames := 8, cells := 2937, slots := 17622, locals := 140 })).room s m ([.ref (a 0), .int (nI σ.2.1)] : List Value).toArray below meth c H locs cells slots Q (F0 m 88 ls []) := by
    intro nn
    induction nn with
    | zero => intro t h; omega
    | succ nn ih =>
      intro t hm hk H locs cells slots hc hs hP hD hS ls hl
      refine lv_iload hx hb dL_asks_88 (lv_at hl 0 rfl) ?_
      refine lv_bipush (v := 12) hx hb dL_asks_90 (by decide) ?_
      refine lv_icmp_ge (tgt := 154) hx hb dL_asks_92 (by decide) (fun c1 => ?_) (fun c1 => ?_)
      · have c2 : 12 ≤ t := (nI_leI (a := 12) (b := t) (by decide) (by omega)).mp c1
        obtain rfl : t = 12 := by omega
        refine lv_iconst (v := 0) hx hb dL_asks_154 (by decide) ?_
        refine lv_istore (lv' := [(8, .int 0), (2, .long (lSum (σ.2.2 14) σ.2.1)), (4, .long (lSum (σ.2.2 6) 12)), (6, .long (fBrt (σ.2.2 12) (σ.2.2 13) (σ.2.2 14) σ.2.1)), (0, .ref (a 0)), (1, .int (nI σ.2.1))]) hx hb dL_asks_155 hl (by decide) rfl (fun ls hl => ?_)
        exact loop157 4 0 (by omega) (by omega) H locs cells slots (by omega) (by omega) hP hD hS ls (lv_sub hl [0, 1, 2, 3, 4, 5] rfl)
      · have c2 : t < 12 := Nat.lt_of_not_le (fun z => c1 (nI_le (a := 12) (b := t) z (by omega)))
        refine lv_aload_n hx hb dL_asks_95 rfl (lv_at hl 4 rfl) ?_
        refine lv_iload hx hb dL_asks_96 (lv_at hl 0 rfl) ?_
        refine lv_iconst (v := 2) hx hb dL_asks_98 (by decide) ?_
        refine k_leW (As := [.ref (a 0), .int (nI t), .int 2]) (rest := []) (nL := 10) (WR := ([] : va_W)) (WNf := fun _ => wS a cI cZ σ) ⟨hx, hb, hml, hown, hts⟩ hK hX hP hD hS hA (c_L_of l D a cI cZ _ σ (nI t) 2 hflag I (by decide)) [0, 1, 2, 3, 4, 5, 6, 7, 8, 9, 10, 11, 12, 13, 14, 15, 16, 17, 18, 19, 20] [] [0, 1, 2, 3, 4, 5, 6, 7, 8, 9, 10, 11, 12, 13, 14, 15, 16, 17, 18, 19, 20] rfl rfl rfl rfl rfl (by decide) (fun _ => rfl) (fun _ => rfl) rfl (vx_cwSW (hh := [(0, 6, 7, 36)]) 3 hts gL_asks_L_of rfl rfl rfl (by decide +kernel) ⟨Nat.le_of_ble_eq_true rfl, Nat.le_of_ble_eq_true rfl⟩) rfl hl.1 rfl (Nat.le_of_ble_eq_true rfl) dL_asks_99 ⟨show cells + 1 ≤ 2937 by omega, show slots + 6 ≤ 17622 by omega⟩ (fun r9 _ H locs hr9 hP hD hS => ?_)
        by_cases htn : t < σ.1
        · have e9 := hr9.trans (of_2 I htn)
          clear hr9
          subst e9
          refine lv_istore (lv' := [(9, .int (σ.2.2 6 t)), (8, .int (nI t)), (2, .long (lSum (σ.2.2 14) σ.2.1)), (4, .long (lSum (σ.2.2 6) t)), (6, .long (fBrt (σ.2.2 12) (σ.2.2 13) (σ.2.2 14) σ.2.1)), (0, .ref (a 0)), (1, .int (nI σ.2.1))]) hx hb dL_asks_102 hl (by decide) rfl (fun ls hl => ?_)
          refine lv_lload hx hb dL_asks_104 (lv_at hl 3 rfl) ?_
          refine lv_iload hx hb dL_asks_106 (lv_at hl 0 rfl) ?_
          refine lv_if_ge (tgt := 115) hx hb dL_asks_108 (by decide) (fun _ => ?_) (fun q => absurd (md_nn I t) q)
          refine lv_iload hx hb dL_asks_115 (lv_at hl 0 rfl) ?_
          refine lv_i2l hx hb dL_asks_117 rfl ?_
          refine lv_ladd hx hb dL_asks_118 ?_
          refine lv_lstore (lv' := [(4, .long ((lSum (σ.2.2 6) t) + ((σ.2.2 6 t).toInt64))), (9, .int (σ.2.2 6 t)), (8, .int (nI t)), (2, .long (lSum (σ.2.2 14) σ.2.1)), (6, .long (fBrt (σ.2.2 12) (σ.2.2 13) (σ.2.2 14) σ.2.1)), (0, .ref (a 0)), (1, .int (nI σ.2.1))]) hx hb dL_asks_119 hl (by decide) rfl (fun ls hl => ?_)
          refine lv_iload hx hb dL_asks_121 (lv_at hl 1 rfl) ?_
          refine lv_if_lt (tgt := 148) hx hb dL_asks_123 (by decide) (fun q => absurd q (Int32.not_lt.mpr (md_nn I t))) (fun _ => ?_)
          refine lv_aload_n hx hb dL_asks_126 rfl (lv_at hl 5 rfl) ?_
          refine lv_iload hx hb dL_asks_127 (lv_at hl 2 rfl) ?_
          refine k_xi0 (As := [.int (nI t)]) (rest := []) (nL := 10) (WR := ([] : va_W)) ⟨hx, hb, hml, hown, hts⟩ hK hX hP hD hS hA (c_X4_windAt l D a cI cZ _ (σ.2.2 0) (σ.2.2 1) (σ.2.2 2) (σ.2.2 3) (σ.2.2 4) (σ.2.2 5) (fun _ => 0) (σ.2.2 6) (fSum (σ.2.2 5) σ.1) (σ.2.2 7) (σ.2.2 8) (σ.2.2 9) (σ.2.2 10) (σ.2.2 11) (σ.2.2 12) (σ.2.2 13) (σ.2.2 14) (fBrt (σ.2.2 12) (σ.2.2 13) (σ.2.2 14) σ.2.1) σ.1 σ.2.1 (nI t) hflag I.n I.h I.pl I.we) (windAt_0 I htn) [0, 1, 2, 3, 4, 5, 6, 7, 8, 9, 10, 11, 12, 13, 14, 15, 16, 17, 18, 19, 20] [] [0, 1, 2, 3, 4, 5, 6, 7, 8, 9, 10, 11, 12, 13, 14, 15, 16, 17, 18, 19, 20] rfl rfl rfl rfl rfl (by decide) rfl rfl rfl 0 rfl rfl rfl (cwV 1 hts gL_asks_X4_windAt rfl rfl rfl (by decide +kernel) ⟨Nat.le_of_ble_eq_true rfl, Nat.le_of_ble_eq_true rfl⟩) rfl hl.1 rfl (Nat.le_of_ble_eq_true rfl) dL_asks_129 ⟨show cells + 1 + 1 ≤ 2937 by omega, show slots + 6 + 6 ≤ 17622 by omega⟩ (fun r9 H locs hr9 hP hD hS => ?_)
          have hw9 := wind_ok I (fP (σ.2.2 4) (cl (nI t)))
          rw [← hr9] at hw9
          clear hr9
          refine lv_if_lt (tgt := 146) hx hb dL_asks_132 (by decide) (fun q => absurd (Int32.lt_iff_toInt_lt.mp q) (by have := hw9.1; rw [i_0]; omega)) (fun _ => ?_)
          refine lv_aload_n hx hb dL_asks_135 rfl (lv_at hl 5 rfl) ?_
          refine lv_iload hx hb dL_asks_136 (lv_at hl 2 rfl) ?_
          refine k_xi0 (As := [.int (nI t)]) (rest := []) (nL := 10) (WR := ([] : va_W)) ⟨hx, hb, hml, hown, hts⟩ hK hX hP hD hS hA (c_X4_windAt l D a cI cZ _ (σ.2.2 0) (σ.2.2 1) (σ.2.2 2) (σ.2.2 3) (σ.2.2 4) (σ.2.2 5) (fun _ => 0) (σ.2.2 6) (fSum (σ.2.2 5) σ.1) (σ.2.2 7) (σ.2.2 8) (σ.2.2 9) (σ.2.2 10) (σ.2.2 11) (σ.2.2 12) (σ.2.2 13) (σ.2.2 14) (fBrt (σ.2.2 12) (σ.2.2 13) (σ.2.2 14) σ.2.1) σ.1 σ.2.1 (nI t) hflag I.n I.h I.pl I.we) (windAt_0 I htn) [0, 1, 2, 3, 4, 5, 6, 7, 8, 9, 10, 11, 12, 13, 14, 15, 16, 17, 18, 19, 20] [] [0, 1, 2, 3, 4, 5, 6, 7, 8, 9, 10, 11, 12, 13, 14, 15, 16, 17, 18, 19, 20] rfl rfl rfl rfl rfl (by decide) rfl rfl rfl 0 rfl rfl rfl (cwV 1 hts gL_asks_X4_windAt rfl rfl rfl (by decide +kernel) ⟨Nat.le_of_ble_eq_true rfl, Nat.le_of_ble_eq_true rfl⟩) rfl hl.1 rfl (Nat.le_of_ble_eq_true rfl) dL_asks_138 ⟨show cells + 1 + 1 + 1 ≤ 2937 by omega, show slots + 6 + 6 + 6 ≤ 17622 by omega⟩ (fun r9 H locs hr9 hP hD hS => ?_)
          have hw9 := wind_ok I (fP (σ.2.2 4) (cl (nI t)))
          rw [← hr9] at hw9
          clear hr9
          refine lv_bipush (v := 40) hx hb dL_asks_141 (by decide) ?_
          refine lv_icmp_le (tgt := 148) hx hb dL_asks_143 (by decide) (fun _ => ?_) (fun q => absurd (Int32.le_iff_toInt_le.mpr (by rw [show (40 : Int32).toInt = 40 by decide]; exact hw9.2)) q)
          refine lv_iinc (v := nI (t + 1)) (lv' := [(8, .int (nI (t + 1))), (4, .long ((lSum (σ.2.2 6) t) + ((σ.2.2 6 t).toInt64))), (9, .int (σ.2.2 6 t)), (2, .long (lSum (σ.2.2 14) σ.2.1)), (6, .long (fBrt (σ.2.2 12) (σ.2.2 13) (σ.2.2 14) σ.2.1)), (0, .ref (a 0)), (1, .int (nI σ.2.1))]) hx hb dL_asks_148 hl (k := 2) rfl (nI_1 _) (by decide) rfl (fun ls hl => ?_)
          refine lv_goto (tgt := 88) hx hb dL_asks_151 (by decide) ?_
          exact ih (t + 1) (by omega) (by omega) H locs (cells + 1 + 1 + 1) (slots + 6 + 6 + 6) (by omega) (by omega) hP hD hS ls (lv_sub hl [0, 3, 1, 4, 5, 6] rfl)
        · have e9 := hr9.trans (of_no I htn c2 2)
          clear hr9
          subst e9
          refine lv_istore (lv' := [(9, .int (-2)), (8, .int (nI t)), (2, .long (lSum (σ.2.2 14) σ.2.1)), (4, .long (lSum (σ.2.2 6) t)), (6, .long (fBrt (σ.2.2 12) (σ.2.2 13) (σ.2.2 14) σ.2.1)), (0, .ref (a 0)), (1, .int (nI σ.2.1))]) hx hb dL_asks_102 hl (by decide) rfl (fun ls hl => ?_)
          refine lv_lload hx hb dL_asks_104 (lv_at hl 3 rfl) ?_
          refine lv_iload hx hb dL_asks_106 (lv_at hl 0 rfl) ?_
          refine lv_if_ge (tgt := 115) hx hb dL_asks_108 (by decide) (fun q => absurd q (by decide)) (fun _ => ?_)
          refine lv_lconst (v := 0) hx hb dL_asks_111 (by decide) ?_
          refine lv_goto (tgt := 118) hx hb dL_asks_112 (by decide) ?_
          refine lv_ladd hx hb dL_asks_118 ?_
          refine k_rwl (y := lSum (σ.2.2 6) (t + 1)) (by show _ = lSum (σ.2.2 6) t + (σ.2.2 6 t).toInt64; rw [md_z I htn]; rfl) ?_
          refine lv_lstore (lv' := [(4, .long (lSum (σ.2.2 6) (t + 1))), (9, .int (-2)), (8, .int (nI t)), (2, .long (lSum (σ.2.2 14) σ.2.1)), (6, .long (fBrt (σ.2.2 12) (σ.2.2 13) (σ.2.2 14) σ.2.1)), (0, .ref (a 0)), (1, .int (nI σ.2.1))]) hx hb dL_asks_119 hl (by decide) rfl (fun ls hl => ?_)
          refine lv_iload hx hb dL_asks_121 (lv_at hl 1 rfl) ?_
          refine lv_if_lt (tgt := 148) hx hb dL_asks_123 (by decide) (fun _ => ?_) (fun q => absurd q (by decide))
          refine lv_iinc (v := nI (t + 1)) (lv' := [(8, .int (nI (t + 1))), (4, .long (lSum (σ.2.2 6) (t + 1))), (9, .int (-2)), (2, .long (lSum (σ.2.2 14) σ.2.1)), (6, .long (fBrt (σ.2.2 12) (σ.2.2 13) (σ.2.2 14) σ.2.1)), (0, .ref (a 0)), (1, .int (nI σ.2.1))]) hx hb dL_asks_148 hl (k := 2) rfl (nI_1 _) (by decide) rfl (fun ls hl => ?_)
          refine lv_goto (tgt := 88) hx hb dL_asks_151 (by decide) ?_
          exact ih (t + 1) (by omega) (by omega) H locs (cells + 1) (slots + 6) (by omega) (by omega) hP hD hS ls (lv_sub hl [0, 3, 1, 4, 5, 6] rfl)
  have loop11 : ∀ (nn k : Nat), σ.2.1 - k < nn → k ≤ σ.2.1 → ∀ (H : Heap) (locs : List Loc) (cells slots : Nat), cells ≤ 6 * k → slots ≤ 36 * k → va_P D vwCl (wS a cI cZ σ) H → va_D A (wS a cI cZ σ) → va_S A s.heap H locs → ∀ (ls : Array Slot), lv_has ls 10 [(8, .int (nI k)), (2, .long (lSum (σ.2.2 14) k)), (4, .long 0), (6, .long (fBrt (σ.2.2 12) (σ.2.2 13) (σ.2.2 14) k)), (0, .ref (a 0)), (1, .int (nI σ.2.1))] → W p l e (headSpec wsL_asks ({ frames := 8, cells := 2937, slots := 17622, locals := 140 })).room s m ([.ref (a 0), .int (nI σ.2.1)] : List Value).toArray below meth c H locs cells slots Q (F0 m 11 ls []) := by
    intro nn
    induction nn with
    | zero => intro k h; omega
    | succ nn ih =>
      intro k hm hk H locs cells slots hc hs hP hD hS ls hl
      refine lv_iload hx hb dL_asks_11 (lv_at hl 0 rfl) ?_
      refine lv_iload_n hx hb dL_asks_13 rfl (lv_at hl 5 rfl) ?_
      refine lv_icmp_ge (tgt := 85) hx hb dL_asks_14 (by decide) (fun c1 => ?_) (fun c1 => ?_)
      · have c2 : σ.2.1 ≤ k := (nI_leI (by omega) (by omega)).mp c1
        obtain rfl : k = σ.2.1 := by omega
        refine lv_iconst (v := 0) hx hb dL_asks_85 (by decide) ?_
        refine lv_istore (lv' := [(8, .int 0), (2, .long (lSum (σ.2.2 14) σ.2.1)), (4, .long 0), (6, .long (fBrt (σ.2.2 12) (σ.2.2 13) (σ.2.2 14) σ.2.1)), (0, .ref (a 0)), (1, .int (nI σ.2.1))]) hx hb dL_asks_86 hl (by decide) rfl (fun ls hl => ?_)
        exact loop88 13 0 (by omega) (by omega) H locs cells slots (by omega) (by omega) hP hD hS ls (lv_sub hl [0, 1, 2, 3, 4, 5] rfl)
      · have c2 : k < σ.2.1 := Nat.lt_of_not_le (fun z => c1 (nI_le z (by omega)))
        refine lv_lload_n hx hb dL_asks_17 rfl (lv_at hl 1 rfl) ?_
        refine lv_aload_n hx hb dL_asks_18 rfl (lv_at hl 4 rfl) ?_
        refine lv_iload hx hb dL_asks_19 (lv_at hl 0 rfl) ?_
        refine lv_iconst (v := 0) hx hb dL_asks_21 (by decide) ?_
        refine k_leW (As := [.ref (a 0), .int (nI k), .int 0]) (rest := [.long (lSum (σ.2.2 14) k)]) (nL := 10) (WR := ([] : va_W)) (WNf := fun _ => wS a cI cZ σ) ⟨hx, hb, hml, hown, hts⟩ hK hX hP hD hS hA (c_L_hour l D a cI cZ _ σ (nI k) 0 hflag I (by decide)) [0, 1, 2, 3, 4, 5, 6, 7, 8, 9, 10, 11, 12, 13, 14, 15, 16, 17, 18, 19, 20] [] [0, 1, 2, 3, 4, 5, 6, 7, 8, 9, 10, 11, 12, 13, 14, 15, 16, 17, 18, 19, 20] rfl rfl rfl rfl rfl (by decide) (fun _ => rfl) (fun _ => rfl) rfl (vx_cwSW (hh := [(0, 6, 7, 38)]) 3 hts gL_asks_L_hour rfl rfl rfl (by decide +kernel) ⟨Nat.le_of_ble_eq_true rfl, Nat.le_of_ble_eq_true rfl⟩) rfl hl.1 rfl (Nat.le_of_ble_eq_true rfl) dL_asks_22 ⟨show cells + 1 ≤ 2937 by omega, show slots + 6 ≤ 17622 by omega⟩ (fun r9 _ H locs hr9 hP hD hS => ?_)
        have e9 := hr9.trans (hour_0 I c2)
        clear hr9
        subst e9
        refine lv_i2l hx hb dL_asks_25 rfl ?_
        refine lv_ladd hx hb dL_asks_26 ?_
        refine lv_lstore_n (lv' := [(2, .long ((lSum (σ.2.2 14) k) + ((σ.2.2 14 k).toInt64))), (8, .int (nI k)), (4, .long 0), (6, .long (fBrt (σ.2.2 12) (σ.2.2 13) (σ.2.2 14) k)), (0, .ref (a 0)), (1, .int (nI σ.2.1))]) hx hb dL_asks_27 rfl hl (by decide) rfl (fun ls hl => ?_)
        refine lv_lload hx hb dL_asks_28 (lv_at hl 3 rfl) ?_
        refine lv_aload_n hx hb dL_asks_30 rfl (lv_at hl 4 rfl) ?_
        refine lv_iload hx hb dL_asks_31 (lv_at hl 1 rfl) ?_
        refine lv_iconst (v := 3) hx hb dL_asks_33 (by decide) ?_
        refine k_leW (As := [.ref (a 0), .int (nI k), .int 3]) (rest := [.long (fBrt (σ.2.2 12) (σ.2.2 13) (σ.2.2 14) k)]) (nL := 10) (WR := ([] : va_W)) (WNf := fun _ => wS a cI cZ σ) ⟨hx, hb, hml, hown, hts⟩ hK hX hP hD hS hA (c_L_hour l D a cI cZ _ σ (nI k) 3 hflag I (by decide)) [0, 1, 2, 3, 4, 5, 6, 7, 8, 9, 10, 11, 12, 13, 14, 15, 16, 17, 18, 19, 20] [] [0, 1, 2, 3, 4, 5, 6, 7, 8, 9, 10, 11, 12, 13, 14, 15, 16, 17, 18, 19, 20] rfl rfl rfl rfl rfl (by decide) (fun _ => rfl) (fun _ => rfl) rfl (vx_cwSW (hh := [(0, 6, 7, 38)]) 3 hts gL_asks_L_hour rfl rfl rfl (by decide +kernel) ⟨Nat.le_of_ble_eq_true rfl, Nat.le_of_ble_eq_true rfl⟩) rfl hl.1 rfl (Nat.le_of_ble_eq_true rfl) dL_asks_34 ⟨show cells + 1 + 1 ≤ 2937 by omega, show slots + 6 + 6 ≤ 17622 by omega⟩ (fun r9 _ H locs hr9 hP hD hS => ?_)
        have e9 := hr9.trans (hour_3 I c2)
        clear hr9
        subst e9
        refine lv_i2l hx hb dL_asks_37 rfl ?_
        refine lv_ladd hx hb dL_asks_38 ?_
        refine lv_lstore (lv' := [(6, .long ((fBrt (σ.2.2 12) (σ.2.2 13) (σ.2.2 14) k) + ((fBring (σ.2.2 12) (σ.2.2 13) (σ.2.2 14) k).toInt64))), (2, .long ((lSum (σ.2.2 14) k) + ((σ.2.2 14 k).toInt64))), (8, .int (nI k)), (4, .long 0), (0, .ref (a 0)), (1, .int (nI σ.2.1))]) hx hb dL_asks_39 hl (by decide) rfl (fun ls hl => ?_)
        refine lv_aload_n hx hb dL_asks_41 rfl (lv_at hl 4 rfl) ?_
        refine lv_iload hx hb dL_asks_42 (lv_at hl 2 rfl) ?_
        refine lv_iconst (v := 2) hx hb dL_asks_44 (by decide) ?_
        refine k_leW (As := [.ref (a 0), .int (nI k), .int 2]) (rest := []) (nL := 10) (WR := ([] : va_W)) (WNf := fun _ => wS a cI cZ σ) ⟨hx, hb, hml, hown, hts⟩ hK hX hP hD hS hA (c_L_hour l D a cI cZ _ σ (nI k) 2 hflag I (by decide)) [0, 1, 2, 3, 4, 5, 6, 7, 8, 9, 10, 11, 12, 13, 14, 15, 16, 17, 18, 19, 20] [] [0, 1, 2, 3, 4, 5, 6, 7, 8, 9, 10, 11, 12, 13, 14, 15, 16, 17, 18, 19, 20] rfl rfl rfl rfl rfl (by decide) (fun _ => rfl) (fun _ => rfl) rfl (vx_cwSW (hh := [(0, 6, 7, 38)]) 3 hts gL_asks_L_hour rfl rfl rfl (by decide +kernel) ⟨Nat.le_of_ble_eq_true rfl, Nat.le_of_ble_eq_true rfl⟩) rfl hl.1 rfl (Nat.le_of_ble_eq_true rfl) dL_asks_45 ⟨show cells + 1 + 1 + 1 ≤ 2937 by omega, show slots + 6 + 6 + 6 ≤ 17622 by omega⟩ (fun r9 _ H locs hr9 hP hD hS => ?_)
        have e9 := hr9.trans (hour_2 I c2)
        clear hr9
        subst e9
        refine lv_aload_n hx hb dL_asks_48 rfl (lv_at hl 4 rfl) ?_
        refine lv_iload hx hb dL_asks_49 (lv_at hl 2 rfl) ?_
        refine lv_iconst (v := 1) hx hb dL_asks_51 (by decide) ?_
        refine k_leW (As := [.ref (a 0), .int (nI k), .int 1]) (rest := [.int (fSold (σ.2.2 12) k - σ.2.2 14 k)]) (nL := 10) (WR := ([] : va_W)) (WNf := fun _ => wS a cI cZ σ) ⟨hx, hb, hml, hown, hts⟩ hK hX hP hD hS hA (c_L_hour l D a cI cZ _ σ (nI k) 1 hflag I (by decide)) [0, 1, 2, 3, 4, 5, 6, 7, 8, 9, 10, 11, 12, 13, 14, 15, 16, 17, 18, 19, 20] [] [0, 1, 2, 3, 4, 5, 6, 7, 8, 9, 10, 11, 12, 13, 14, 15, 16, 17, 18, 19, 20] rfl rfl rfl rfl rfl (by decide) (fun _ => rfl) (fun _ => rfl) rfl (vx_cwSW (hh := [(0, 6, 7, 38)]) 3 hts gL_asks_L_hour rfl rfl rfl (by decide +kernel) ⟨Nat.le_of_ble_eq_true rfl, Nat.le_of_ble_eq_true rfl⟩) rfl hl.1 rfl (Nat.le_of_ble_eq_true rfl) dL_asks_52 ⟨show cells + 1 + 1 + 1 + 1 ≤ 2937 by omega, show slots + 6 + 6 + 6 + 6 ≤ 17622 by omega⟩ (fun r9 _ H locs hr9 hP hD hS => ?_)
        have e9 := hr9.trans (hour_1 I c2)
        clear hr9
        subst e9
        refine lv_aload_n hx hb dL_asks_55 rfl (lv_at hl 4 rfl) ?_
        refine lv_iload hx hb dL_asks_56 (lv_at hl 2 rfl) ?_
        refine lv_iconst (v := 0) hx hb dL_asks_58 (by decide) ?_
        refine k_leW (As := [.ref (a 0), .int (nI k), .int 0]) (rest := [.int (fSold (σ.2.2 12) k), .int (fSold (σ.2.2 12) k - σ.2.2 14 k)]) (nL := 10) (WR := ([] : va_W)) (WNf := fun _ => wS a cI cZ σ) ⟨hx, hb, hml, hown, hts⟩ hK hX hP hD hS hA (c_L_hour l D a cI cZ _ σ (nI k) 0 hflag I (by decide)) [0, 1, 2, 3, 4, 5, 6, 7, 8, 9, 10, 11, 12, 13, 14, 15, 16, 17, 18, 19, 20] [] [0, 1, 2, 3, 4, 5, 6, 7, 8, 9, 10, 11, 12, 13, 14, 15, 16, 17, 18, 19, 20] rfl rfl rfl rfl rfl (by decide) (fun _ => rfl) (fun _ => rfl) rfl (vx_cwSW (hh := [(0, 6, 7, 38)]) 3 hts gL_asks_L_hour rfl rfl rfl (by decide +kernel) ⟨Nat.le_of_ble_eq_true rfl, Nat.le_of_ble_eq_true rfl⟩) rfl hl.1 rfl (Nat.le_of_ble_eq_true rfl) dL_asks_59 ⟨show cells + 1 + 1 + 1 + 1 + 1 ≤ 2937 by omega, show slots + 6 + 6 + 6 + 6 + 6 ≤ 17622 by omega⟩ (fun r9 _ H locs hr9 hP hD hS => ?_)
        have e9 := hr9.trans (hour_0 I c2)
        clear hr9
        subst e9
        refine lv_isub hx hb dL_asks_62 ?_
        refine lv_icmp_ne (tgt := 77) hx hb dL_asks_63 (by decide) (fun q => absurd rfl q) (fun _ => ?_)
        refine lv_aload_n hx hb dL_asks_66 rfl (lv_at hl 4 rfl) ?_
        refine lv_iload hx hb dL_asks_67 (lv_at hl 2 rfl) ?_
        refine k_xf0 (As := [.int (nI k)]) (rest := []) (nL := 10) (WR := ([] : va_W)) ⟨hx, hb, hml, hown, hts⟩ hK hX hP hD hS hA (c_X4_ratio l D a cI cZ _ (σ.2.2 0) (σ.2.2 1) (σ.2.2 2) (σ.2.2 3) (σ.2.2 4) (σ.2.2 5) (fun _ => 0) (σ.2.2 6) (fSum (σ.2.2 5) σ.1) (σ.2.2 7) (σ.2.2 8) (σ.2.2 9) (σ.2.2 10) (σ.2.2 11) (σ.2.2 12) (σ.2.2 13) (σ.2.2 14) (fBrt (σ.2.2 12) (σ.2.2 13) (σ.2.2 14) σ.2.1) σ.1 σ.2.1 (nI k) hflag I.n I.h) (ratio_0 I c2) [0, 1, 2, 3, 4, 5, 6, 7, 8, 9, 10, 11, 12, 13, 14, 15, 16, 17, 18, 19, 20] [] [0, 1, 2, 3, 4, 5, 6, 7, 8, 9, 10, 11, 12, 13, 14, 15, 16, 17, 18, 19, 20] rfl rfl rfl rfl rfl (by decide) rfl rfl rfl 0 rfl rfl rfl (cwV 1 hts gL_asks_X4_ratio rfl rfl rfl (by decide +kernel) ⟨Nat.le_of_ble_eq_true rfl, Nat.le_of_ble_eq_true rfl⟩) rfl hl.1 rfl (Nat.le_of_ble_eq_true rfl) dL_asks_69 ⟨show cells + 1 + 1 + 1 + 1 + 1 + 1 ≤ 2937 by omega, show slots + 6 + 6 + 6 + 6 + 6 + 6 ≤ 17622 by omega⟩ (fun r9 H locs hr9 hP hD hS => ?_)
        refine lv_fconst0 hx hb dL_asks_72 ?_
        refine lv_fcmp hx hb dL_asks_73 ?_
        have h9 := ratio_n I (k := cl (nI k)) .g
        rw [← hr9] at h9
        refine lv_if_ge (tgt := 79) hx hb dL_asks_74 (by decide) (fun _ => ?_) (fun q => absurd h9 q)
        refine lv_iinc (v := nI (k + 1)) (lv' := [(8, .int (nI (k + 1))), (6, .long ((fBrt (σ.2.2 12) (σ.2.2 13) (σ.2.2 14) k) + ((fBring (σ.2.2 12) (σ.2.2 13) (σ.2.2 14) k).toInt64))), (2, .long ((lSum (σ.2.2 14) k) + ((σ.2.2 14 k).toInt64))), (4, .long 0), (0, .ref (a 0)), (1, .int (nI σ.2.1))]) hx hb dL_asks_79 hl (k := 2) rfl (nI_1 _) (by decide) rfl (fun ls hl => ?_)
        refine lv_goto (tgt := 11) hx hb dL_asks_82 (by decide) ?_
        exact ih (k + 1) (by omega) (by omega) H locs (cells + 1 + 1 + 1 + 1 + 1 + 1) (slots + 6 + 6 + 6 + 6 + 6 + 6) (by omega) (by omega) hP hD hS ls (lv_sub hl [0, 2, 3, 1, 4, 5] rfl)
  refine lv_lconst (v := 0) hx hb dL_asks_0 (by decide) ?_
  refine lv_lstore_n (lv' := [(2, .long 0), (0, .ref (a 0)), (1, .int (nI σ.2.1))]) hx hb dL_asks_1 rfl hl (by decide) rfl (fun ls hl => ?_)
  refine lv_lconst (v := 0) hx hb dL_asks_2 (by decide) ?_
  refine lv_lstore (lv' := [(4, .long 0), (2, .long 0), (0, .ref (a 0)), (1, .int (nI σ.2.1))]) hx hb dL_asks_3 hl (by decide) rfl (fun ls hl => ?_)
  refine lv_lconst (v := 0) hx hb dL_asks_5 (by decide) ?_
  refine lv_lstore (lv' := [(6, .long 0), (4, .long 0), (2, .long 0), (0, .ref (a 0)), (1, .int (nI σ.2.1))]) hx hb dL_asks_6 hl (by decide) rfl (fun ls hl => ?_)
  refine lv_iconst (v := 0) hx hb dL_asks_8 (by decide) ?_
  refine lv_istore (lv' := [(8, .int 0), (6, .long 0), (4, .long 0), (2, .long 0), (0, .ref (a 0)), (1, .int (nI σ.2.1))]) hx hb dL_asks_9 hl (by decide) rfl (fun ls hl => ?_)
  exact loop11 (σ.2.1 + 1) 0 (by omega) (by omega) s.heap [] 0 0 (by omega) (by omega) hP hD hS ls (lv_sub hl [0, 3, 2, 1, 4, 5] rfl)
