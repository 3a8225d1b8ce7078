/-! The state between two calls: how many turbines, the hour, the rows; what each call makes of it. -/
abbrev St := Nat × Nat × (Nat → Nat → Int32)
def mkG (sp we tw ta pl br md tu le cr to ia sl pr al : Nat → Int32) : Nat → Nat → Int32 := fun i => match i with
  | 0 => sp
  | 1 => we
  | 2 => tw
  | 3 => ta
  | 4 => pl
  | 5 => br
  | 6 => md
  | 7 => tu
  | 8 => le
  | 9 => cr
  | 10 => to
  | 11 => ia
  | 12 => sl
  | 13 => pr
  | _ => al
abbrev wSx (a : Nat → Nat) (cI cZ : ClassId) (σ : St) (bc : Int32) (pc : Int64) : va_W := wT a cI cZ (nI σ.2.1) ++ (wW a cI cZ (σ.2.2 0) (σ.2.2 1) (σ.2.2 2) ++ (wF a cI cZ (σ.2.2 3) (σ.2.2 4) (σ.2.2 5) (fun _ => 0) (σ.2.2 6) (nI σ.1) bc ++ (wE a cI cZ (σ.2.2 7) (σ.2.2 8) (σ.2.2 9) (σ.2.2 10) (σ.2.2 11) ++ (wG a cI cZ (σ.2.2 12) (σ.2.2 13) (σ.2.2 14) pc))))
abbrev wS (a : Nat → Nat) (cI cZ : ClassId) (σ : St) : va_W := wSx a cI cZ σ (fSum (σ.2.2 5) σ.1) (fBrt (σ.2.2 12) (σ.2.2 13) (σ.2.2 14) σ.2.1)
/-- the rows that hours change -/
abbrev hσ (σ : St) : Nat → Nat → Int32 := mkS (σ.2.2 5) (σ.2.2 6) (σ.2.2 7) (σ.2.2 8) (σ.2.2 10) (σ.2.2 11) (σ.2.2 14)
def PI (σ : St) : Prop := LInv σ.1 σ.2.1 (σ.2.2 1) (σ.2.2 2) (σ.2.2 3) (σ.2.2 4) (σ.2.2 5) (σ.2.2 6) (σ.2.2 7) (σ.2.2 8) (σ.2.2 10) (σ.2.2 11) (σ.2.2 12) (σ.2.2 13) (σ.2.2 14) ∧ nInv σ.1 σ.2.1 (σ.2.2 0) (σ.2.2 9) (hσ σ)
theorem PI.n {σ : St} (I : PI σ) : σ.1 ≤ 12 := I.1.1
theorem PI.h {σ : St} (I : PI σ) : σ.2.1 < 480 := I.1.2.1
theorem PI.pl {σ : St} (I : PI σ) : ∀ k, k < σ.1 → σ.2.2 4 k = nI (fP (σ.2.2 4) k) ∧ fP (σ.2.2 4) k < 24 := I.1.2.2.1
theorem PI.ta {σ : St} (I : PI σ) : taOk σ.1 (σ.2.2 4) (σ.2.2 3) := I.1.2.2.2.1
theorem PI.ok {σ : St} (I : PI σ) : hOk σ.1 (hσ σ) := I.1.2.2.2.2.1
theorem PI.we {σ : St} (I : PI σ) : ∀ k, σ.2.2 1 k = 0 ∨ σ.2.2 1 k = 1 := I.1.2.2.2.2.2.1
theorem PI.br {σ : St} (I : PI σ) : ∀ k, σ.2.2 5 k = 0 ∨ σ.2.2 5 k = 1 := I.ok.1
def nTurb (σ : St) (x : Int32) : St := (σ.1 + 1, σ.2.1, mkG (σ.2.2 0) (σ.2.2 1) (σ.2.2 2) (upd (σ.2.2 3) (cl x) (nI σ.1)) (upd (σ.2.2 4) σ.1 (nI (cl x))) (σ.2.2 5) (σ.2.2 6) (σ.2.2 7) (σ.2.2 8) (σ.2.2 9) (σ.2.2 10) (σ.2.2 11) (σ.2.2 12) (σ.2.2 13) (σ.2.2 14))
def nWind (σ : St) (f t v w : Int32) : St := (σ.1, σ.2.1, mkG (setR (σ.2.2 0) (cl f) (cl t + 1) v) (setR (σ.2.2 1) (cl f) (cl t + 1) w) (σ.2.2 2) (σ.2.2 3) (σ.2.2 4) (σ.2.2 5) (σ.2.2 6) (σ.2.2 7) (σ.2.2 8) (σ.2.2 9) (σ.2.2 10) (σ.2.2 11) (σ.2.2 12) (σ.2.2 13) (σ.2.2 14))
def nWaves (σ : St) (k w : Int32) : St := (σ.1, σ.2.1, mkG (σ.2.2 0) (σ.2.2 1) (upd (σ.2.2 2) (cl k) w) (σ.2.2 3) (σ.2.2 4) (σ.2.2 5) (σ.2.2 6) (σ.2.2 7) (σ.2.2 8) (σ.2.2 9) (σ.2.2 10) (σ.2.2 11) (σ.2.2 12) (σ.2.2 13) (σ.2.2 14))
def nBreaks (σ : St) (t : Int32) : St := (σ.1, σ.2.1, mkG (σ.2.2 0) (σ.2.2 1) (σ.2.2 2) (σ.2.2 3) (σ.2.2 4) (upd (σ.2.2 5) (cl t) 1) (σ.2.2 6) (σ.2.2 7) (σ.2.2 8) (σ.2.2 9) (σ.2.2 10) (σ.2.2 11) (σ.2.2 12) (σ.2.2 13) (σ.2.2 14))
def nCrew (σ : St) (b x : Int32) : St := (σ.1, σ.2.1, mkG (σ.2.2 0) (σ.2.2 1) (σ.2.2 2) (σ.2.2 3) (σ.2.2 4) (σ.2.2 5) (σ.2.2 6) (σ.2.2 7) (σ.2.2 8) (upd (σ.2.2 9) (cl b) x) (σ.2.2 10) (σ.2.2 11) (σ.2.2 12) (σ.2.2 13) (σ.2.2 14))
def nRepair (σ : St) (b t x : Int32) : St := (σ.1, σ.2.1, mkG (σ.2.2 0) (σ.2.2 1) (σ.2.2 2) (σ.2.2 3) (σ.2.2 4) (σ.2.2 5) (σ.2.2 6) (upd (σ.2.2 7) (cl b) t) (upd (σ.2.2 8) (cl b) x) (σ.2.2 9) (σ.2.2 10) (σ.2.2 11) (σ.2.2 12) (σ.2.2 13) (σ.2.2 14))
def nSell (σ : St) (k u q : Int32) : St := (σ.1, σ.2.1, mkG (σ.2.2 0) (σ.2.2 1) (σ.2.2 2) (σ.2.2 3) (σ.2.2 4) (σ.2.2 5) (σ.2.2 6) (σ.2.2 7) (σ.2.2 8) (σ.2.2 9) (σ.2.2 10) (σ.2.2 11) (upd (σ.2.2 12) (cl k) u) (upd (σ.2.2 13) (cl k) q) (σ.2.2 14))
/-- the rows behind so many hours -/
abbrev pσ (σ : St) (k : Nat) : Nat → Nat → Int32 := hIt σ.1 σ.2.1 (σ.2.2 3) (σ.2.2 4) (σ.2.2 0) (σ.2.2 1) (σ.2.2 2) (σ.2.2 9) (hσ σ) k
def nPass (σ : St) (x : Int32) : St := (σ.1, σ.2.1 + cl x, mkG (σ.2.2 0) (σ.2.2 1) (σ.2.2 2) (σ.2.2 3) (σ.2.2 4) (pσ σ (cl x) 0) (pσ σ (cl x) 1) (pσ σ (cl x) 2) (pσ σ (cl x) 3) (σ.2.2 9) (pσ σ (cl x) 4) (pσ σ (cl x) 5) (σ.2.2 12) (σ.2.2 13) (pσ σ (cl x) 6))
theorem le_i {x y : Int32} (h : x ≤ y) : x.toInt ≤ y.toInt := Int32.le_iff_toInt_le.mp h
theorem PI_turb {σ : St} (I : PI σ) {x : Int32} (c : cTurb σ.1 (σ.2.2 3) x = 0) : PI (nTurb σ x) := by
  have h1 := inv_turb I.1 c
  obtain ⟨ex, -, -, hn⟩ := turb_x c
  obtain ⟨n1, n2, n3, n4, n5, n6, n7⟩ := I.2
  refine ⟨?_, n1, n2, n3, n4, fun t => ⟨(n5 t).1, (n5 t).2.1, fun z => (n5 t).2.2 (by have z : σ.1 + 1 ≤ t := z; omega)⟩, n6, ?_⟩
  · show LInv (σ.1 + 1) σ.2.1 (σ.2.2 1) (σ.2.2 2) (upd (σ.2.2 3) (cl x) (nI σ.1)) (upd (σ.2.2 4) σ.1 (nI (cl x))) (σ.2.2 5) (σ.2.2 6) (σ.2.2 7) (σ.2.2 8) (σ.2.2 10) (σ.2.2 11) (σ.2.2 12) (σ.2.2 13) (σ.2.2 14)
    rw [← ex]; exact h1
  · show iSum (fun j => (σ.2.2 14 j).toInt) σ.2.1 = iSum (fun t => (σ.2.2 6 t).toInt) σ.1 + (σ.2.2 6 σ.1).toInt
    have h2 : σ.2.2 6 σ.1 = 0 := (n5 σ.1).2.2 (Nat.le_refl _)
    have h3 : iSum (fun j => (σ.2.2 14 j).toInt) σ.2.1 = iSum (fun t => (σ.2.2 6 t).toInt) σ.1 := n7
    rw [h2, i_0, h3]; omega
theorem wind_x {h : Nat} {f t v : Int32} (hh : h < 480) (c : cWind h f t v = 0) : ∃ i j : Nat, i ≤ j ∧ j < 480 ∧ f = nI i ∧ t = nI j ∧ iR v := by
  unfold cWind at c
  split at c
  · next q =>
    have a1 := le_i q.1.1
    have a2 := le_i q.2.1.1
    have a3 := le_i q.2.1.2
    have a4 := le_i q.2.2.1
    have a5 := le_i q.2.2.2
    rw [nI_toInt (by omega)] at a1
    have e1 : (479 : Int32).toInt = 479 := by decide
    have e2 : (40 : Int32).toInt = 40 := by decide
    rw [e1] at a3; rw [e2] at a5; rw [i_0] at a4
    obtain ⟨i, hi, rfl⟩ := i_nI (x := f) (m := 479) ⟨by omega, by omega⟩
    obtain ⟨j, hj, rfl⟩ := i_nI (x := t) (m := 479) ⟨by omega, by omega⟩
    rw [nI_toInt (by omega), nI_toInt (by omega)] at a2
    exact ⟨i, j, by omega, by omega, rfl, rfl, a4, a5⟩
  · cases c
theorem PI_wind {σ : St} (I : PI σ) {f t v w : Int32} (hw : w = 0 ∨ w = 1) (c : cWind σ.2.1 f t v = 0) : PI (nWind σ f t v w) := by
  obtain ⟨-, -, -, -, -, -, hv⟩ := wind_x I.h c
  obtain ⟨n1, n2, n3, n4, n5, n6, n7⟩ := I.2
  refine ⟨inv_wind I.1 hw, fun k => ?_, n2, n3, n4, n5, n6, n7⟩
  show iR (setR (σ.2.2 0) (cl f) (cl t + 1) v k)
  unfold setR
  split
  · exact hv
  · exact n1 k
theorem PI_waves {σ : St} (I : PI σ) {k w : Int32} (c : cWaves σ.2.1 k w = 0) : PI (nWaves σ k w) := ⟨inv_waves I.1 c, I.2⟩
theorem PI_breaks {σ : St} (I : PI σ) {t : Int32} (c : cBreaks σ.1 (σ.2.2 5) t = 0) : PI (nBreaks σ t) := ⟨inv_breaks I.1 c, I.2⟩
theorem PI_crew {σ : St} (I : PI σ) {b x : Int32} (c : cCrew b x = 0) : PI (nCrew σ b x) := by
  obtain ⟨n1, n2, n3, n4, n5, n6, n7⟩ := I.2
  have hx : 0 ≤ x.toInt ∧ x.toInt ≤ 24 := by
    unfold cCrew at c
    split at c
    · split at c
      · next q =>
        have a1 := le_i q.1
        have a2 := le_i q.2
        have e2 : (24 : Int32).toInt = 24 := by decide
        rw [i_0] at a1; rw [e2] at a2
        exact ⟨a1, a2⟩
      · cases c
    · cases c
  refine ⟨I.1, n1, fun k => ?_, n3, n4, n5, n6, n7⟩
  show 0 ≤ (upd (σ.2.2 9) (cl b) x k).toInt ∧ (upd (σ.2.2 9) (cl b) x k).toInt ≤ 24
  by_cases e : k = cl b
  · subst e; rw [upd_at]; exact hx
  · rw [upd_ne _ _ e]; exact n2 k
theorem PI_repair {σ : St} (I : PI σ) {b t x : Int32} (c : cRepair σ.1 (σ.2.2 5) (σ.2.2 7) b t x = 0) : PI (nRepair σ b t x) := by
  obtain ⟨n1, n2, n3, n4, n5, n6, n7⟩ := I.2
  have hx : 1 ≤ x.toInt := by
    unfold cRepair at c
    split at c
    · split at c
      · next q =>
        have a1 := le_i q.1
        rw [i_1] at a1
        exact a1
      · cases c
    · cases c
  refine ⟨inv_repair I.1 c, n1, n2, n3, fun k hk => ?_, n5, n6, n7⟩
  show upd (σ.2.2 7) (cl b) t k = -1 ∨ 1 ≤ (upd (σ.2.2 8) (cl b) x k).toInt
  by_cases e : k = cl b
  · subst e; rw [upd_at, upd_at]; exact Or.inr hx
  · rw [upd_ne _ _ e, upd_ne _ _ e]; exact n4 k hk
theorem PI_sell {σ : St} (I : PI σ) {k u q : Int32} (c : cSell σ.2.1 k u q = 0) : PI (nSell σ k u q) := ⟨inv_sell I.1 c, I.2⟩
theorem PI_pass {σ : St} (I : PI σ) {x : Int32} (c : cPass σ.2.1 x = 0) : PI (nPass σ x) :=
  ⟨inv_pass (sp := σ.2.2 0) (cr := σ.2.2 9) I.1 c, by
    have h1 := nInv.it (ta := σ.2.2 3) (pl := σ.2.2 4) (we := σ.2.2 1) (tw := σ.2.2 2) I.n I.2 (cl x) (by have := pass_x c; omega)
    exact h1⟩
/-- what a call of the law's 'does' answers -/
def dP (code : Nat) (v : Int32) (L : List Int32) (new old : St) (r : Int32) (u : St) : Prop := (code = 0 ∧ r = v ∧ u = new) ∨ (¬ code = 0 ∧ r = L.getD (code - 1) (-4) ∧ u = old)
/-- what 'act' answers -/
def aP (old : St) (r : Int32) (u : St) : Prop := PI u ∧ u.2.1 = old.2.1 ∧ ¬ r = -1 ∧ (r < -1 → u = old)
theorem i_m1 : (-1 : Int32).toInt = -1 := by decide
theorem lt_m1 {x : Int32} (h : x.toInt < -1) : ¬ x = -1 := fun e => by rw [e, i_m1] at h; omega
theorem ge_m1 {x : Int32} (h : 0 ≤ x.toInt) : ¬ x = -1 ∧ ¬ x < -1 := ⟨fun e => by rw [e, i_m1] at h; omega, fun e => by have := Int32.lt_iff_toInt_lt.mp e; rw [i_m1] at this; omega⟩
theorem aP_of {code : Nat} {v r : Int32} {L : List Int32} {new old u : St} (h : dP code v L new old r u) (I : PI old) (hN : code = 0 → PI new) (hv : code = 0 → 0 ≤ v.toInt) (hL : ∀ i, (L.getD i (-4)).toInt < -1) (hh : new.2.1 = old.2.1) : aP old r u := by
  rcases h with ⟨h1, rfl, rfl⟩ | ⟨h1, rfl, rfl⟩
  · have hz := ge_m1 (hv h1)
    exact ⟨hN h1, hh, hz.1, fun q => absurd q hz.2⟩
  · exact ⟨I, rfl, lt_m1 (hL _), fun _ => rfl⟩
theorem L_24 : ∀ i, (([-2, -4] : List Int32).getD i (-4)).toInt < -1 := fun i => by
  rcases i with _ | _ | i
  · decide
  · decide
  · show (-4 : Int32).toInt < -1; decide
theorem L_3 : ∀ i, (([-3] : List Int32).getD i (-4)).toInt < -1 := fun i => by
  rcases i with _ | i
  · decide
  · show (-4 : Int32).toInt < -1; decide
theorem L_23 : ∀ i, (([-2, -3] : List Int32).getD i (-4)).toInt < -1 := fun i => by
  rcases i with _ | _ | i
  · decide
  · decide
  · show (-4 : Int32).toInt < -1; decide
theorem L_34 : ∀ i, (([-3, -4] : List Int32).getD i (-4)).toInt < -1 := fun i => by
  rcases i with _ | _ | i
  · decide
  · decide
  · show (-4 : Int32).toInt < -1; decide
theorem L_234 : ∀ i, (([-2, -3, -4] : List Int32).getD i (-4)).toInt < -1 := fun i => by
  rcases i with _ | _ | _ | i
  · decide
  · decide
  · decide
  · show (-4 : Int32).toInt < -1; decide
theorem nn_nI {j : Nat} (h : j < 2 ^ 31) : 0 ≤ (nI j).toInt := by rw [nI_toInt h]; omega
theorem v_wind {h : Nat} {f t v : Int32} (hh : h < 480) (c : cWind h f t v = 0) : 0 ≤ (t - f + 1).toInt := by
  obtain ⟨i, j, hij, hj, rfl, rfl, -⟩ := wind_x hh c
  rw [pk_sub hij, nI_1]; exact nn_nI (by omega)
theorem v_waves {σ : St} (I : PI σ) (k : Nat) : 0 ≤ (fWaves (σ.2.2 0) (σ.2.2 2) k).toInt := by
  unfold fWaves
  split
  · obtain ⟨j, hj, e⟩ := i_nI (I.2.1 k)
    rw [e, show (3 : Int32) = nI 3 from rfl, pk_div (by omega) (by decide) (by decide)]
    exact nn_nI (by omega)
  · next q =>
    have h1 : σ.2.2 2 k = -1 ∨ 0 ≤ σ.2.2 2 k := I.1.2.2.2.2.2.2.1 k
    have := le_i (h1.resolve_left q)
    rw [i_0] at this; exact this
theorem v_breaks {σ : St} (I : PI σ) {t : Int32} (c : cBreaks σ.1 (σ.2.2 5) t = 0) : 0 ≤ (fSum (σ.2.2 5) σ.1 + 1).toInt := by
  rw [breaks_bc I.1 c]
  have h1 : ∀ k, 0 ≤ (upd (σ.2.2 5) (cl t) 1 k).toInt ∧ (upd (σ.2.2 5) (cl t) 1 k).toInt ≤ 2000 := fun k => by
    by_cases e : k = cl t
    · subst e; rw [upd_at]; decide
    · rw [upd_ne _ _ e]
      rcases I.br k with z | z <;> rw [z] <;> decide
  rw [fSum_int h1 _ I.n]
  exact (iSum_bd h1 σ.1).1
theorem v_crew {σ : St} (I : PI σ) (k : Nat) : 0 ≤ (σ.2.2 9 k).toInt := (I.2.2.1 k).1
theorem v_sell {σ : St} (I : PI σ) (k : Nat) : ¬ σ.2.2 12 k < -1 := by
  have h1 : σ.2.2 12 k = -1 ∨ 0 ≤ σ.2.2 12 k := I.1.2.2.2.2.2.2.2.1 k
  rcases h1 with z | z
  · rw [z]; decide
  · have := le_i z
    rw [i_0] at this
    exact (ge_m1 this).2
theorem w_turb {a : Nat → Nat} {cI cZ : ClassId} {σ : St} (I : PI σ) (x : Int32) : wS a cI cZ (nTurb σ x) = wSx a cI cZ (nTurb σ x) (fSum (σ.2.2 5) σ.1) (fBrt (σ.2.2 12) (σ.2.2 13) (σ.2.2 14) σ.2.1) := by
  show wSx a cI cZ (nTurb σ x) (fSum (σ.2.2 5) (σ.1 + 1)) _ = _
  rw [← turb_bc I.1]; rfl
theorem w_breaks {a : Nat → Nat} {cI cZ : ClassId} {σ : St} (I : PI σ) {t : Int32} (c : cBreaks σ.1 (σ.2.2 5) t = 0) : wS a cI cZ (nBreaks σ t) = wSx a cI cZ (nBreaks σ t) (fSum (σ.2.2 5) σ.1 + 1) (fBrt (σ.2.2 12) (σ.2.2 13) (σ.2.2 14) σ.2.1) := by
  show wSx a cI cZ (nBreaks σ t) (fSum (upd (σ.2.2 5) (cl t) 1) σ.1) _ = _
  rw [← breaks_bc I.1 c]; rfl
theorem w_sell {a : Nat → Nat} {cI cZ : ClassId} {σ : St} {k u q : Int32} (c : cSell σ.2.1 k u q = 0) : wS a cI cZ (nSell σ k u q) = wSx a cI cZ (nSell σ k u q) (fSum (σ.2.2 5) σ.1) (fBrt (σ.2.2 12) (σ.2.2 13) (σ.2.2 14) σ.2.1) := by
  show wSx a cI cZ (nSell σ k u q) _ (fBrt (upd (σ.2.2 12) (cl k) u) (upd (σ.2.2 13) (cl k) q) (σ.2.2 14) σ.2.1) = _
  rw [← sell_brt c]; rfl
