/-! What the calls keep; where the two sides reckon alike. -/
/-- what holds between two calls, of whom and where -/
def LInv (n h : Nat) (we tw ta pl br md tu le to ia sl pr al : Nat → Int32) : Prop := n ≤ 12 ∧ h < 480 ∧ (∀ k, k < n → pl k = nI (fP pl k) ∧ fP pl k < 24) ∧ taOk n pl ta ∧ hOk n (mkS br md tu le to ia al) ∧ (∀ k, we k = 0 ∨ we k = 1) ∧ (∀ k, tw k = -1 ∨ 0 ≤ tw k) ∧ (∀ k, sl k = -1 ∨ 0 ≤ sl k) ∧ (∀ j, h ≤ j → al j = 0)
theorem hasT_nI {n j : Nat} (hn : n ≤ 12) (hj : j < n) : hasT n (nI j) := by
  refine ⟨nI_pos' (by omega), ?_⟩
  obtain ⟨m, rfl⟩ : ∃ m, n = m + 1 := ⟨n - 1, by omega⟩
  rw [nI_pred]
  exact nI_le (by omega) (by omega)
theorem other_iff {n q : Nat} {pl ta br st : Nat → Int32} (hn : n ≤ 12) (hta : taOk n pl ta) (hq : q < 24) : fOther n ta br st q = true ↔ ∃ k, k < n ∧ fP pl k = q ∧ br k = 0 ∧ st k = 0 := by
  unfold fOther
  rw [decide_eq_true_iff]
  constructor
  · rintro ⟨hT, hb, hs⟩
    rcases hta.2 q hq with h | ⟨k, hk, e, e2⟩
    · rw [h] at hT; exact absurd hT.1 (by decide)
    · rw [fP_nI e (by omega)] at hb hs
      exact ⟨k, hk, e2, hb, hs⟩
  · rintro ⟨k, hk, e, hb, hs⟩
    have h := hta.1 k hk
    rw [e] at h
    rw [fP_nI h (by omega), h]
    exact ⟨hasT_nI hn hk, hb, hs⟩
theorem hits_iff {w : Int32} {n p d : Nat} {pl br st : Nat → Int32} (hd : 1 ≤ d) : fHits w pl br st n p d = true ↔ ∃ k, k < n ∧ (fAhd w (fP pl k) < fAhd w p ∧ fLane w (fP pl k) = fLane w p ∧ br k = 0 ∧ st k = 0) ∧ fAhd w p - fAhd w (fP pl k) = d := by
  unfold fHits
  rw [fAny_iff]
  constructor
  · rintro ⟨k, hk, h⟩
    have h := of_decide_eq_true h
    unfold fAw at h
    split at h
    · next c => exact ⟨k, hk, c, h⟩
    · omega
  · rintro ⟨k, hk, c, h⟩
    refine ⟨k, hk, decide_eq_true ?_⟩
    unfold fAw
    rw [if_pos c]; exact h
theorem anew_eq {w v : Int32} {n p : Nat} {pl ta br st : Nat → Int32} (hw : w = 0 ∨ w = 1) (hn : n ≤ 12) (hta : taOk n pl ta) (hp : p < 24) : fAnew w ta br st n v p = fWind w pl br st n v p := by
  unfold fAnew fWind
  have h5 : fAhd w p ≤ 5 := by
    rcases hw with rfl | rfl
    · show (if (0 : Int32) = 0 then p / 6 else p % 6) ≤ 5
      rw [if_pos rfl]; omega
    · show (if (1 : Int32) = 0 then p / 6 else p % 6) ≤ 5
      rw [if_neg (by decide)]; omega
  rw [fStep_le (a := fAhd w p) (b := 5) h5 (fun d h1 h2 => hits_f (fun k hk e => by unfold fAw at e; split at e <;> omega))]
  refine fStep_congr fun d h1 h2 => ?_
  rw [Bool.eq_iff_iff, hits_iff h1, other_iff hn hta (by omega)]
  rcases hw with rfl | rfl
  · have e : ∀ q, fAhd 0 q = q / 6 := fun q => if_pos rfl
    have e2 : ∀ q, fLane 0 q = q % 6 := fun q => if_pos rfl
    have e3 : fPace 0 = 6 := rfl
    simp only [e, e2, e3] at h2 ⊢
    constructor
    · rintro ⟨k, hk, a1, a2, a3⟩
      exact ⟨k, hk, ⟨by omega, by omega, a2, a3⟩, by omega⟩
    · rintro ⟨k, hk, ⟨a1, a2, a3, a4⟩, a5⟩
      exact ⟨k, hk, by omega, a3, a4⟩
  · have e : ∀ q, fAhd 1 q = q % 6 := fun q => if_neg (by decide)
    have e2 : ∀ q, fLane 1 q = q / 6 := fun q => if_neg (by decide)
    have e3 : fPace 1 = 1 := rfl
    simp only [e, e2, e3] at h2 ⊢
    constructor
    · rintro ⟨k, hk, a1, a2, a3⟩
      exact ⟨k, hk, ⟨by omega, by omega, a2, a3⟩, by omega⟩
    · rintro ⟨k, hk, ⟨a1, a2, a3, a4⟩, a5⟩
      exact ⟨k, hk, by omega, a3, a4⟩
theorem pwanew_eq {w v : Int32} {n : Nat} {pl ta br st : Nat → Int32} (hw : w = 0 ∨ w = 1) (hn : n ≤ 12) (hpl : ∀ k, k < n → pl k = nI (fP pl k) ∧ fP pl k < 24) (hta : taOk n pl ta) : fSum (fPwAnew w pl ta br st n v) n = fSum (fPw w pl br st n v) n :=
  fSum_congr fun k hk => by unfold fPwAnew fPw; rw [anew_eq hw hn hta (hpl k hk).2]
section INV
variable {n h : Nat} {we tw ta pl br md tu le to ia sl pr al : Nat → Int32}
theorem LInv.hbr (I : LInv n h we tw ta pl br md tu le to ia sl pr al) : ∀ k, br k = 0 ∨ br k = 1 := I.2.2.2.2.1.1
theorem LInv.htu (I : LInv n h we tw ta pl br md tu le to ia sl pr al) : ∀ b, b < 3 → ¬ tu b = -1 → tu b = nI (fP tu b) ∧ fP tu b < n := I.2.2.2.2.1.htu
theorem LInv.htz (I : LInv n h we tw ta pl br md tu le to ia sl pr al) : ∀ b, b < 3 → tu b < 0 → le b = 0 := fun b hb q => by
  rcases I.2.2.2.2.1.2.2.1 b hb with ⟨-, h1⟩ | ⟨h1, h2, -⟩
  · exact h1
  · have h1 : tu b = nI (fP tu b) := h1
    have h2 : fP tu b < n := h2
    rw [h1] at q
    exact absurd q (nI_pos (by have := I.1; omega))
theorem turb_x {x : Int32} (c : cTurb n ta x = 0) : x = nI (cl x) ∧ cl x < 24 ∧ ta (cl x) = -1 ∧ n < 12 := by
  unfold cTurb at c
  split at c
  · next q =>
    obtain ⟨ex, -, hx⟩ := cl_rng (n := 0) (m := 23) rfl rfl q
    split at c
    · next q2 => exact ⟨ex, by omega, q2.1, q2.2⟩
    · cases c
  · cases c
theorem inv_turb (I : LInv n h we tw ta pl br md tu le to ia sl pr al) {x : Int32} (c : cTurb n ta x = 0) : LInv (n + 1) h we tw (upd ta (cl x) (nI n)) (upd pl n x) br md tu le to ia sl pr al := by
  obtain ⟨ex, hx, hta, hn⟩ := turb_x c
  obtain ⟨i1, i2, i3, i4, i5, i6⟩ := I
  have hfn : fP (upd pl n x) n = cl x := by show (upd pl n x n).toNatClampNeg = _; rw [upd_at]
  have hfk : ∀ k, k < n → fP (upd pl n x) k = fP pl k := fun k hk => by show (upd pl n x k).toNatClampNeg = _; rw [upd_ne _ _ (by omega)]; rfl
  have hnot : ∀ k, k < n → fP pl k ≠ cl x := fun k hk e => by
    have h1 := i4.1 k hk
    rw [e, hta] at h1
    have := nI_pos (n := k) (by omega)
    rw [← h1] at this
    exact this (by decide)
  refine ⟨by omega, i2, fun k hk => ?_, ⟨fun k hk => ?_, fun q hq => ?_⟩, ⟨i5.1, fun k hk => i5.2.1 k (by omega), fun b hb => ?_, i5.2.2.2⟩, i6⟩
  · by_cases e : k = n
    · subst e; rw [hfn, upd_at]; exact ⟨ex, hx⟩
    · rw [hfk k (by omega), upd_ne _ _ e]; exact i3 k (by omega)
  · by_cases e : k = n
    · subst e; rw [hfn, upd_at]
    · rw [hfk k (by omega), upd_ne _ _ (hnot k (by omega))]; exact i4.1 k (by omega)
  · by_cases e : q = cl x
    · subst e; rw [upd_at]; exact Or.inr ⟨n, by omega, rfl, hfn⟩
    · rw [upd_ne _ _ e]
      rcases i4.2 q hq with z | ⟨k, hk, z1, z2⟩
      · exact Or.inl z
      · exact Or.inr ⟨k, by omega, z1, by rw [hfk k hk]; exact z2⟩
  · rcases i5.2.2.1 b hb with z | ⟨z1, z2, z3⟩
    · exact Or.inl z
    · exact Or.inr ⟨z1, by omega, z3⟩
theorem turb_bc (I : LInv n h we tw ta pl br md tu le to ia sl pr al) : fSum br n = fSum br (n + 1) := by
  show fSum br n = fSum br n + br n
  have h0 : br n = 0 := I.2.2.2.2.1.2.1 n (Nat.le_refl _)
  rw [h0]; simp
theorem inv_wind (I : LInv n h we tw ta pl br md tu le to ia sl pr al) {w : Int32} {f t : Nat} (hw : w = 0 ∨ w = 1) : LInv n h (setR we f t w) tw ta pl br md tu le to ia sl pr al := by
  obtain ⟨i1, i2, i3, i4, i5, i6, i7⟩ := I
  refine ⟨i1, i2, i3, i4, i5, fun k => ?_, i7⟩
  unfold setR
  split
  · exact hw
  · exact i6 k
theorem inv_waves (I : LInv n h we tw ta pl br md tu le to ia sl pr al) {k w : Int32} (c : cWaves h k w = 0) : LInv n h we (upd tw (cl k) w) ta pl br md tu le to ia sl pr al := by
  obtain ⟨i1, i2, i3, i4, i5, i6, i7, i8⟩ := I
  refine ⟨i1, i2, i3, i4, i5, i6, fun j => ?_, i8⟩
  unfold cWaves at c
  split at c
  · next q =>
    by_cases e : j = cl k
    · subst e; rw [upd_at]; exact Or.inr q.2.1
    · rw [upd_ne _ _ e]; exact i7 j
  · cases c
theorem breaks_x {t : Int32} (hn : n ≤ 12) (c : cBreaks n br t = 0) : t = nI (cl t) ∧ cl t < n ∧ br (cl t) = 0 := by
  unfold cBreaks at c
  split at c
  · next q =>
    split at c
    · next q2 => exact ⟨(has_cl hn q).1, (has_cl hn q).2, q2⟩
    · cases c
  · cases c
theorem inv_breaks (I : LInv n h we tw ta pl br md tu le to ia sl pr al) {t : Int32} (c : cBreaks n br t = 0) : LInv n h we tw ta pl (upd br (cl t) 1) md tu le to ia sl pr al := by
  obtain ⟨-, ht, -⟩ := breaks_x I.1 c
  obtain ⟨i1, i2, i3, i4, i5, i6⟩ := I
  refine ⟨i1, i2, i3, i4, ⟨fun k => ?_, fun k hk => ?_, fun b hb => ?_, i5.2.2.2⟩, i6⟩
  · show upd br (cl t) 1 k = 0 ∨ upd br (cl t) 1 k = 1
    by_cases e : k = cl t
    · subst e; rw [upd_at]; exact Or.inr rfl
    · rw [upd_ne _ _ e]; exact i5.1 k
  · show upd br (cl t) 1 k = 0
    rw [upd_ne _ _ (by omega)]; exact i5.2.1 k hk
  · rcases i5.2.2.1 b hb with z | ⟨z1, z2, z3⟩
    · exact Or.inl z
    · refine Or.inr ⟨z1, z2, ?_⟩
      show upd br (cl t) 1 (fP tu b) = 1
      by_cases e : fP tu b = cl t
      · rw [e, upd_at]
      · rw [upd_ne _ _ e]; exact z3
theorem breaks_bc (I : LInv n h we tw ta pl br md tu le to ia sl pr al) {t : Int32} (c : cBreaks n br t = 0) : fSum br n + 1 = fSum (upd br (cl t) 1) n := by
  obtain ⟨-, ht, hz⟩ := breaks_x I.1 c
  rw [fSum_set n ht, hz]; simp
theorem inv_repair (I : LInv n h we tw ta pl br md tu le to ia sl pr al) {b t x : Int32} (c : cRepair n br tu b t x = 0) : LInv n h we tw ta pl br md (upd tu (cl b) t) (upd le (cl b) x) to ia sl pr al := by
  obtain ⟨i1, i2, i3, i4, i5, i6⟩ := I
  unfold cRepair at c
  split at c
  · next q =>
    split at c
    · next q2 =>
      split at c
      · next q3 =>
        obtain ⟨et, ht⟩ := has_cl i1 q.2
        obtain ⟨eb, -, hb3⟩ := cl_rng (n := 0) (m := 2) rfl rfl q.1
        have hne : ∀ b', b' < 3 → ¬ tu b' = t := fun b' hb' e => by
          rcases (by omega : b' = 0 ∨ b' = 1 ∨ b' = 2) with rfl | rfl | rfl
          · exact q3.2.2 (Or.inl e)
          · exact q3.2.2 (Or.inr (Or.inl e))
          · exact q3.2.2 (Or.inr (Or.inr e))
        have hbr1 : br (cl t) = 1 := (i5.1 (cl t)).resolve_left q3.2.1
        refine ⟨i1, i2, i3, i4, ⟨i5.1, i5.2.1, fun b' hb' => ?_, fun b' b2 hb' hb2 hn hz => ?_⟩, i6⟩
        · show (upd tu (cl b) t b' = -1 ∧ upd le (cl b) x b' = 0) ∨ (upd tu (cl b) t b' = nI (fP (upd tu (cl b) t) b') ∧ fP (upd tu (cl b) t) b' < n ∧ br (fP (upd tu (cl b) t) b') = 1)
          by_cases e : b' = cl b
          · subst e
            have hf : fP (upd tu (cl b) t) (cl b) = cl t := by show (upd tu (cl b) t (cl b)).toNatClampNeg = _; rw [upd_at]
            rw [hf, upd_at]
            exact Or.inr ⟨et, ht, hbr1⟩
          · have hf : fP (upd tu (cl b) t) b' = fP tu b' := by show (upd tu (cl b) t b').toNatClampNeg = _; rw [upd_ne _ _ e]; rfl
            rw [hf, upd_ne _ _ e, upd_ne _ _ e]
            exact i5.2.2.1 b' hb'
        · have hz : ¬ upd tu (cl b) t b' = -1 := hz
          show ¬ upd tu (cl b) t b' = upd tu (cl b) t b2
          by_cases e : b' = cl b
          · subst e
            rw [upd_at, upd_ne _ _ (fun z => hn z.symm)]
            exact fun z => hne b2 hb2 z.symm
          · rw [upd_ne _ _ e] at hz ⊢
            by_cases e2 : b2 = cl b
            · subst e2; rw [upd_at]; exact hne b' hb'
            · rw [upd_ne _ _ e2]; exact i5.2.2.2 b' b2 hb' hb2 hn hz
      · cases c
    · cases c
  · cases c
theorem sell_x {k u q : Int32} (c : cSell h k u q = 0) : h < cl k ∧ 0 ≤ u := by
  unfold cSell at c
  split at c
  · next z =>
    split at c
    · exact ⟨by omega, z.2.1.1⟩
    · cases c
  · cases c
theorem fBrt_c {sl pr sl' pr' al : Nat → Int32} : ∀ m, (∀ j, j < m → sl j = sl' j ∧ pr j = pr' j) → fBrt sl pr al m = fBrt sl' pr' al m
  | 0, _ => rfl
  | m + 1, hz => by
    show fBrt sl pr al m + _ = fBrt sl' pr' al m + _
    rw [fBrt_c m (fun j hj => hz j (by omega))]
    have e : fBring sl pr al m = fBring sl' pr' al m := by unfold fBring fSold; rw [(hz m (by omega)).1, (hz m (by omega)).2]
    rw [e]
theorem sell_brt {k u q : Int32} (c : cSell h k u q = 0) : fBrt sl pr al h = fBrt (upd sl (cl k) u) (upd pr (cl k) q) al h :=
  fBrt_c h (fun j hj => by have := (sell_x c).1; rw [upd_ne _ _ (by omega), upd_ne _ _ (by omega)]; exact ⟨rfl, rfl⟩)
theorem inv_sell (I : LInv n h we tw ta pl br md tu le to ia sl pr al) {k u q : Int32} (c : cSell h k u q = 0) : LInv n h we tw ta pl br md tu le to ia (upd sl (cl k) u) (upd pr (cl k) q) al := by
  obtain ⟨hk, hu⟩ := sell_x c
  obtain ⟨i1, i2, i3, i4, i5, i6, i7, i8, i9⟩ := I
  refine ⟨i1, i2, i3, i4, i5, i6, i7, fun j => ?_, i9⟩
  · by_cases e : j = cl k
    · subst e; rw [upd_at]; exact Or.inr hu
    · rw [upd_ne _ _ e]; exact i8 j
theorem pass_x {x : Int32} (c : cPass h x = 0) : h + cl x < 480 := by
  unfold cPass at c
  split at c
  · split at c
    · omega
    · cases c
  · cases c
theorem inv_pass {sp cr : Nat → Int32} (I : LInv n h we tw ta pl br md tu le to ia sl pr al) {x : Int32} (c : cPass h x = 0) : LInv n (h + cl x) we tw ta pl (hIt n h ta pl sp we tw cr (mkS br md tu le to ia al) (cl x) 0) (hIt n h ta pl sp we tw cr (mkS br md tu le to ia al) (cl x) 1) (hIt n h ta pl sp we tw cr (mkS br md tu le to ia al) (cl x) 2) (hIt n h ta pl sp we tw cr (mkS br md tu le to ia al) (cl x) 3) (hIt n h ta pl sp we tw cr (mkS br md tu le to ia al) (cl x) 4) (hIt n h ta pl sp we tw cr (mkS br md tu le to ia al) (cl x) 5) sl pr (hIt n h ta pl sp we tw cr (mkS br md tu le to ia al) (cl x) 6) := by
  obtain ⟨i1, i2, i3, i4, i5, i6, i7, i8, i9⟩ := I
  exact ⟨i1, pass_x c, i3, i4, hOk.it i1 i5 (cl x), i6, i7, i8, fun j hj => hIt_al (σ := mkS br md tu le to ia al) i9 (cl x) j hj⟩
end INV
