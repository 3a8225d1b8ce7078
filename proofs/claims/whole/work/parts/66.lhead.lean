/-! The law's body, a piece a call (written by program). -/
section KIT7
variable {p : Program} {l : Launch} {e : Env} {R : Room} {s : State} {m : MethodId} {args : Array Value} {below : List Frame} {meth : Method} {c : Code} {H : Heap} {locs : List Loc} {cells slots : Nat} {Q : State → Prop}
variable {cc : ByteArray} {pc : Nat} {ls : Array Slot} {rest : List Value} {D : va_G} {A : Nat → Prop} {ws : va_W} {H0 : Heap}
variable {Ts wsY ws' : List Cond} {bytes : ByteArray} {nL maxL index n : Nat} {own C : String} {y : MethodName} {ret : Option FieldType} {rm : Room} {b : Addr} {As st0 : List Value} {cI cZ : ClassId} {W1 W2 : va_W}
theorem k_uf {post : UInt32 → Prop} {WR WN : va_W} (S : CallFix p m c cc nL s args Ts own) (hK : kK D cI cZ s) (hP : va_P D vwCl ws H) (hD : va_D A ws) (hS : va_S A H0 H locs) (hA : ∀ q, H0.size ≤ q → A q) (hM : kUf l y wsY rm (.ref b :: As) D cI cZ H.size W1 W2 post) (isC isR is9 : List Nat) (hC : isC.map (fun i => ws[i]?) = W1.map some) (hC2 : isC.filterMap (fun i => ws[i]?) = W1) (hnC : va_nd isC = true) (hR : isR.map (fun i => ws[i]?) = WR.map some) (hnR : va_nd isR = true) (hdis : ∀ i ∈ isR, i ∉ isC) (h9 : is9.map (fun i => (WR ++ W2)[i]?) = WN.map some) (h92 : is9.filterMap (fun i => (WR ++ W2)[i]?) = WN) (hn9 : va_nd is9 = true)
    (q0 : Nat) {ci : Nat} {fs : List Value} {q : vw_C} (hq : ws[q0]? = some (b, .inr (ci, fs))) (hcl : vwCl[ci]? = some q) (hn1 : q.1 = C) (cw : CallW R s args own C index y bytes maxL ret wsY rm 0 0 n) (hn : As.length = n) (hsize : ls.size = nL) (hst : st0 = As.reverse ++ .ref b :: rest) (hW : (rest.map fun v => v.category).sum ≤ 8) (hdg : decode cc pc = .ok (.invokevirtual index, 3)) (hf : cells ≤ R.cells ∧ slots ≤ R.slots)
    (kk : ∀ (r : UInt32) (H1 : Heap) (locs1 : List Loc), post r → va_P D vwCl WN H1 → va_D A WN → va_S A H0 H1 locs1 → W p l e R s m args below meth c H1 locs1 cells slots Q (F0 m (pc + 3) ls (.float r :: rest))) : W p l e R s m args below meth c H locs cells slots Q (F0 m pc ls st0) := by
  subst hn1
  have hPc : va_P D vwCl W1 H := hP.sub isC hC2
  have hDc : va_D A W1 := hD.sub isC hnC hC
  have hFc := va_free (wc := W1) hD hS hA isC hC
  refine va_callf (va_runV S hM cw ⟨kPre_blind, va_recv hK.1 hP hcl hq, fun U hU hW => ⟨rfl, by rw [hU], by rw [hU]; exact hPc, hK.warm hW, hDc.weaken (fun _ _ _ _ => trivial)⟩⟩ rfl hn hsize hst (lv_room hW) hdg hf) hS (fun q _ h => hFc q h) hFc (fun r u t H1 locs1 ht hvm hw hB hz1 hk1 hS1 => ?_)
  obtain ⟨hP1, hD1⟩ := hB
  rw [ht] at hP1
  obtain ⟨hP2, hD2⟩ := va_join (wr := WR) hP hD isC isR hC hR hnR hdis hk1 hFc hP1 hD1
  exact kk r H1 locs1 hw (hP2.sub is9 h92) (hD2.sub is9 hn9 h9) hS1
theorem k_ul {post : Int64 → Prop} {WR WN : va_W} (S : CallFix p m c cc nL s args Ts own) (hK : kK D cI cZ s) (hP : va_P D vwCl ws H) (hD : va_D A ws) (hS : va_S A H0 H locs) (hA : ∀ q, H0.size ≤ q → A q) (hM : kUl l y wsY rm (.ref b :: As) D cI cZ H.size W1 W2 post) (isC isR is9 : List Nat) (hC : isC.map (fun i => ws[i]?) = W1.map some) (hC2 : isC.filterMap (fun i => ws[i]?) = W1) (hnC : va_nd isC = true) (hR : isR.map (fun i => ws[i]?) = WR.map some) (hnR : va_nd isR = true) (hdis : ∀ i ∈ isR, i ∉ isC) (h9 : is9.map (fun i => (WR ++ W2)[i]?) = WN.map some) (h92 : is9.filterMap (fun i => (WR ++ W2)[i]?) = WN) (hn9 : va_nd is9 = true)
    (q0 : Nat) {ci : Nat} {fs : List Value} {q : vw_C} (hq : ws[q0]? = some (b, .inr (ci, fs))) (hcl : vwCl[ci]? = some q) (hn1 : q.1 = C) (cw : CallW R s args own C index y bytes maxL ret wsY rm 0 0 n) (hn : As.length = n) (hsize : ls.size = nL) (hst : st0 = As.reverse ++ .ref b :: rest) (hW : (rest.map fun v => v.category).sum ≤ 8) (hdg : decode cc pc = .ok (.invokevirtual index, 3)) (hf : cells ≤ R.cells ∧ slots ≤ R.slots)
    (kk : ∀ (r : Int64) (H1 : Heap) (locs1 : List Loc), post r → va_P D vwCl WN H1 → va_D A WN → va_S A H0 H1 locs1 → W p l e R s m args below meth c H1 locs1 cells slots Q (F0 m (pc + 3) ls (.long r :: rest))) : W p l e R s m args below meth c H locs cells slots Q (F0 m pc ls st0) := by
  subst hn1
  have hPc : va_P D vwCl W1 H := hP.sub isC hC2
  have hDc : va_D A W1 := hD.sub isC hnC hC
  have hFc := va_free (wc := W1) hD hS hA isC hC
  refine va_calll (va_runV S hM cw ⟨kPre_blind, va_recv hK.1 hP hcl hq, fun U hU hW => ⟨rfl, by rw [hU], by rw [hU]; exact hPc, hK.warm hW, hDc.weaken (fun _ _ _ _ => trivial)⟩⟩ rfl hn hsize hst (lv_room hW) hdg hf) hS (fun q _ h => hFc q h) hFc (fun r u t H1 locs1 ht hvm hw hB hz1 hk1 hS1 => ?_)
  obtain ⟨hP1, hD1⟩ := hB
  rw [ht] at hP1
  obtain ⟨hP2, hD2⟩ := va_join (wr := WR) hP hD isC isR hC hR hnR hdis hk1 hFc hP1 hD1
  exact kk r H1 locs1 hw (hP2.sub is9 h92) (hD2.sub is9 hn9 h9) hS1
end KIT7
def LK (p : Program) (l : Launch) (e : Env) (s : State) (m : MethodId) (below : List Frame) (meth : Method) (c : Code) (Q : State → Prop) (sb : Nat) (D : va_G) (cI cZ cJ cD : ClassId) (a bm : Nat → Nat) (o od i0 cells slots : Nat) : Prop := ∀ (n h : Nat) (sp we tw ta pl br md tu le cr to ia sl pr al tn mo : Nat → Int32) (th : Int32) (fo : Nat → Int64) (fd : Nat → UInt64) (H1 : Heap) (locs1 : List Loc) (ls1 : Array Slot), LInv n h we tw ta pl br md tu le to ia sl pr al mo → va_P D vwCl (wT a cI cZ (nI h) ++ (wW a cI cZ sp we tw ++ (wF a cI cZ ta pl br (fun _ => 0) md (nI n) (fSum br n) ++ (wE a cI cZ tu le cr to ia ++ (wG a cI cZ sl pr al (fBrt sl pr al h) ++ (wM bm cI cZ pl br md tn (nI n) sp we tw sl pr al mo (nI h) cr tu le to ia th ++ (wOJ o cJ fo ++ wOD od cD fd))))))) H1 → va_D (lA s) (wT a cI cZ (nI h) ++ (wW a cI cZ sp we tw ++ (wF a cI cZ ta pl br (fun _ => 0) md (nI n) (fSum br n) ++ (wE a cI cZ tu le cr to ia ++ (wG a cI cZ sl pr al (fBrt sl pr al h) ++ (wM bm cI cZ pl br md tn (nI n) sp we tw sl pr al mo (nI h) cr tu le to ia th ++ (wOJ o cJ fo ++ wOD od cD fd))))))) → va_S (lA s) s.heap H1 locs1 → lv_has ls1 8 [(5, .int (nI i0)), (4, .ref od), (3, .ref o), (2, .ref (bm 0)), (1, .ref (a 0)), (0, .ref sb)] → W p l e room_1 s m #[.ref sb] below meth c H1 locs1 cells slots Q (F0 m 1140 ls1 [])
set_option maxHeartbeats 4000000 in
set_option maxRecDepth 100000 in
theorem law_thr {p : Program} {l : Launch} {e : Env} {s : State} {m : MethodId} {below : List Frame} {meth : Method} {c : Code} {Q : State → Prop} {sb L : Nat} {xs : Nat → Int32} {D : va_G} {cI cZ cJ cD : ClassId} {a bm : Nat → Nat} {o od i0 cells slots : Nat} {n h : Nat} {sp we tw ta pl br md tu le cr to ia sl pr al tn mo : Nat → Int32} {th : Int32} {fo : Nat → Int64} {fd : Nat → UInt64} {code : Nat} (E : LH p l s m c sb L xs D cI cZ cJ cD) {T : Nat} {H : Heap} {locs : List Loc} {ls : Array Slot} (hf : cells ≤ room_1.cells ∧ slots ≤ room_1.slots) (hP : va_P D vwCl (wT a cI cZ (nI h) ++ (wW a cI cZ sp we tw ++ (wF a cI cZ ta pl br (fun _ => 0) md (nI n) (fSum br n) ++ (wE a cI cZ tu le cr to ia ++ (wG a cI cZ sl pr al (fBrt sl pr al h) ++ (wM bm cI cZ pl br md tn (nI n) sp we tw sl pr al mo (nI h) cr tu le to ia (nI code) ++ (wOJ o cJ fo ++ wOD od cD fd))))))) H) (hsz : ls.size = 8) (e2 : ls[2]? = some (.val (.ref (bm 0)))) (e6 : ls[6]? = some (.val (.int (nI code)))) (d0 : decode cL_law T = .ok (.aload_n 2, 1)) (d1 : decode cL_law (T + 1) = .ok (.invokevirtual 76, 3)) (d4 : decode cL_law (T + 1 + 3) = .ok (.iload 6, 2)) (d6 : decode cL_law (T + 1 + 3 + 2) = .ok (.if_icmp .eq 5, 3))
    (k : W p l e room_1 s m #[.ref sb] below meth c H locs cells slots Q (F0 m (T + 11) ls [])) : W p l e room_1 s m #[.ref sb] below meth c H locs cells slots Q (F0 m T ls []) := by
  obtain ⟨hx, hb, hml, hown, hts, hXs, hbl, hK, hX, hfl, hL⟩ := E
  refine lv_aload_n hx hb d0 rfl e2 ?_
  refine k_rd (As := []) (rest := []) (nL := 8) ⟨hx, hb, hml, hown, hts⟩ hK.k hP (c_X5_thrown l D bm cI cZ pl br md tn (nI n) sp we tw sl pr al mo (nI h) cr tu le to ia (nI code)) [21, 22, 23, 24, 25, 26, 27, 28, 29, 30, 31, 32, 33, 34, 35, 36, 37] rfl 21 rfl rfl rfl (cwV 0 hts gL_law_X5_thrown rfl rfl rfl (by decide +kernel) ⟨Nat.le_of_ble_eq_true rfl, Nat.le_of_ble_eq_true rfl⟩) rfl hsz rfl (Nat.le_of_ble_eq_true rfl) d1 hf (fun r9 hr9 => ?_)
  subst hr9
  refine lv_iload hx hb d4 e6 ?_
  refine lv_icmp_eq (tgt := T + 11) hx hb d6 (by omega) (fun _ => k) (fun q => absurd rfl q)

set_option maxHeartbeats 4000000 in
set_option maxRecDepth 100000 in
theorem law_cmp {p : Program} {l : Launch} {e : Env} {s : State} {m : MethodId} {below : List Frame} {meth : Method} {c : Code} {Q : State → Prop} {sb L : Nat} {xs : Nat → Int32} {D : va_G} {cI cZ cJ cD : ClassId} {a bm : Nat → Nat} {o od i0 cells slots : Nat} {n h : Nat} {sp we tw ta pl br md tu le cr to ia sl pr al tn mo : Nat → Int32} {th : Int32} {fo : Nat → Int64} {fd : Nat → UInt64} {code : Nat} {r : Int32} (E : LH p l s m c sb L xs D cI cZ cJ cD) (hcd : code < 4) (hv : code = 0 → fo 0 = r.toInt64) {T : Nat} {H : Heap} {locs : List Loc} {ls : Array Slot} (hP : va_P D vwCl (wT a cI cZ (nI h) ++ (wW a cI cZ sp we tw ++ (wF a cI cZ ta pl br (fun _ => 0) md (nI n) (fSum br n) ++ (wE a cI cZ tu le cr to ia ++ (wG a cI cZ sl pr al (fBrt sl pr al h) ++ (wM bm cI cZ pl br md tn (nI n) sp we tw sl pr al mo (nI h) cr tu le to ia (nI code) ++ (wOJ o cJ fo ++ wOD od cD fd))))))) H) (e3 : ls[3]? = some (.val (.ref o))) (e6 : ls[6]? = some (.val (.int (nI code)))) (e7 : ls[7]? = some (.val (.int r))) {off : Int} (d11 : decode cL_law T = .ok (.iload 6, 2)) (d13 : decode cL_law (T + 2) = .ok (.ifCond .ne 15, 3)) (d16 : decode cL_law (T + 2 + 3) = .ok (.aload_n 3, 1)) (d17 : decode cL_law (T + 2 + 3 + 1) = .ok (.iconst 0, 1)) (d18 : decode cL_law (T + 2 + 3 + 1 + 1) = .ok (.laload, 1)) (d19 : decode cL_law (T + 2 + 3 + 1 + 1 + 1) = .ok (.iload 7, 2)) (d21 : decode cL_law (T + 2 + 3 + 1 + 1 + 1 + 2) = .ok (.i2l, 1)) (d22 : decode cL_law (T + 2 + 3 + 1 + 1 + 1 + 2 + 1) = .ok (.lcmp, 1)) (d23 : decode cL_law (T + 2 + 3 + 1 + 1 + 1 + 2 + 1 + 1) = .ok (.ifCond .eq 5, 3)) (d28 : decode cL_law (T + 17) = .ok (.goto off, 3)) (ht : ((T + 17 : Nat) : Int) + off = (1140 : Nat))
    (k : W p l e room_1 s m #[.ref sb] below meth c H locs cells slots Q (F0 m 1140 ls [])) : W p l e room_1 s m #[.ref sb] below meth c H locs cells slots Q (F0 m T ls []) := by
  obtain ⟨hx, hb, hml, hown, hts, hXs, hbl, hK, hX, hfl, hL⟩ := E
  have kg : W p l e room_1 s m #[.ref sb] below meth c H locs cells slots Q (F0 m (T + 17) ls []) := lv_goto (tgt := 1140) hx hb d28 ht k
  refine lv_iload hx hb d11 e6 ?_
  refine lv_if_ne (tgt := T + 17) hx hb d13 (by omega) (fun _ => kg) (fun q => ?_)
  have hc : code = 0 := by
    rw [← nI_0] at q
    exact (nI_eq (by omega) (by decide)).mp q
  refine lv_aload_n hx hb d16 rfl e3 ?_
  refine lv_iconst (v := 0) hx hb d17 (by decide) ?_
  refine va_lald hx hb hK.1 hP 38 2 rfl rfl (fun h => by rcases h with h | h; exact absurd h (by decide); exact absurd h (by decide)) d18 ?_
  refine lv_iload hx hb d19 e7 ?_
  refine lv_i2l hx hb d21 rfl ?_
  refine lv_lcmp_self hx hb (hv hc) d22 ?_
  exact lv_if_eq (tgt := T + 17) hx hb d23 (by omega) (fun _ => kg) (fun q => absurd rfl q)

theorem c_lt4_turbine {n : Nat} {ta : Nat → Int32} {x : Int32} : cTurb n ta x < 4 := by
  unfold cTurb
  (repeat' split) <;> decide
theorem c_lt4_wind {h : Nat} {f t v : Int32} : cWind h f t v < 4 := by
  unfold cWind
  (repeat' split) <;> decide
theorem c_lt4_waves {h : Nat} {k w : Int32} : cWaves h k w < 4 := by
  unfold cWaves
  (repeat' split) <;> decide
theorem c_lt4_breaks {n : Nat} {br : Nat → Int32} {t : Int32} : cBreaks n br t < 4 := by
  unfold cBreaks
  (repeat' split) <;> decide
theorem c_lt4_crew {b x : Int32} : cCrew b x < 4 := by
  unfold cCrew
  (repeat' split) <;> decide
theorem c_lt4_sell {h : Nat} {k u q : Int32} : cSell h k u q < 4 := by
  unfold cSell
  (repeat' split) <;> decide
theorem c_lt4_pass {h : Nat} {x : Int32} : cPass h x < 4 := by
  unfold cPass
  (repeat' split) <;> decide
theorem c_lt4_windAt {n : Nat} {t : Int32} : cWindAt n t < 4 := by
  unfold cWindAt
  (repeat' split) <;> decide
theorem c_lt4_foretold {h : Nat} {k : Int32} : cFore h k < 4 := by
  unfold cFore
  (repeat' split) <;> decide
theorem c_lt4_foretoldAnew {h : Nat} {k : Int32} : cFore h k < 4 := by
  unfold cFore
  (repeat' split) <;> decide
theorem c_lt4_ofHour {h : Nat} {k w : Int32} : cOfHour h k w < 4 := by
  unfold cOfHour
  (repeat' split) <;> decide
theorem c_lt4_ratio {h : Nat} {k : Int32} : cRatio h k < 4 := by
  unfold cRatio
  (repeat' split) <;> decide
theorem c_lt4_ofBoat {b w : Int32} : cOfBoat b w < 4 := by
  unfold cOfBoat
  (repeat' split) <;> decide
theorem c_lt4_ofTurbine {n : Nat} {t w : Int32} : cOfTurb n t w < 4 := by
  unfold cOfTurb
  (repeat' split) <;> decide
theorem kf2d_val {x : UInt32} (h : FP.Core.fIsNaN x = false) : FP.Core.val64 (FP.f2d x) ≠ .nan := by
  have h2 : FP.Core.dIsNaN (FP.f2d x) = false := (FP.f2d_nan x).trans h
  intro q
  rw [(FP.Core.dIsNaN_iff (FP.f2d x)).mpr q] at h2
  cases h2
theorem lv_dcmp_self {p : Program} {l : Launch} {e : Env} {R : Room} {s : State} {m : MethodId} {args : Array Value} {below : List Frame} {meth : Method} {c : Code} {H : Heap} {locs : List Loc} {cells slots : Nat} {Q : State → Prop} {cc : ByteArray} {pc : Nat} {ls : Array Slot} {rest : List Value} (hexec : p.tables.exec = Jvm.exec) (hb : c.code = cc) {x y : UInt64} {op : CmpOp} (hxy : y = x) (hn : FP.Core.val64 x ≠ .nan) (hdg : decode cc pc = .ok (.dcmp op, 1))
    (k : W p l e R s m args below meth c H locs cells slots Q (F0 m (pc + 1) ls (.int 0 :: rest))) : W p l e R s m args below meth c H locs cells slots Q (F0 m pc ls (.double x :: .double y :: rest)) := by
  subst hxy
  refine lv_dcmp hexec hb hdg ?_
  have h1 : FP.dcmp y y = some .eq := FP.Core.dcmp_self hn
  rw [h1]
  exact k
