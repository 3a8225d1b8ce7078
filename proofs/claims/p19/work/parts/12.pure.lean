/-! The numbers of the calls: what is refused, and the hour's step. -/
abbrev cl (x : Int32) : Nat := x.toNatClampNeg
theorem cl_rng {x a b : Int32} {n m : Nat} (ha : a.toInt = n) (hb : b.toInt = m) (h : a ≤ x ∧ x ≤ b) : x = nI (cl x) ∧ n ≤ cl x ∧ cl x ≤ m := by
  have h1 := Int32.le_iff_toInt_le.mp h.1
  have h2 := Int32.le_iff_toInt_le.mp h.2
  have h3 : (0 : Int32).toInt = 0 := by decide
  obtain ⟨j, hj, rfl⟩ := nI_of (x := x) (fun hlt => by have := Int32.lt_iff_toInt_lt.mp hlt; omega)
  rw [nI_toInt hj] at h1 h2
  show nI j = nI (nI j).toNatClampNeg ∧ n ≤ (nI j).toNatClampNeg ∧ (nI j).toNatClampNeg ≤ m
  rw [nI_clamp hj]
  exact ⟨rfl, by omega, by omega⟩
theorem over_cl {h : Nat} {x : Int32} (hh : h < 2 ^ 31) (c : 0 ≤ x ∧ x ≤ nI h - 1) : x = nI (cl x) ∧ cl x < h := by
  rcases Nat.eq_zero_or_pos h with h0 | h0
  · subst h0
    exfalso
    have h3 := Int32.le_iff_toInt_le.mp c.1
    have h4 := Int32.le_iff_toInt_le.mp c.2
    have h5 : (nI 0 - 1).toInt = -1 := by decide
    have h6 : (0 : Int32).toInt = 0 := by decide
    omega
  · obtain ⟨q, rfl⟩ : ∃ q, h = q + 1 := ⟨h - 1, by omega⟩
    rw [nI_pred] at c
    have := cl_rng (n := 0) (m := q) (by decide) (nI_toInt (by omega)) c
    exact ⟨this.1, by omega⟩
theorem has_cl {n : Nat} {x : Int32} (hn : n ≤ 12) (h : hasT n x) : x = nI (cl x) ∧ cl x < n := over_cl (by omega) h
def cTurb (n : Nat) (ta : Nat → Int32) (x : Int32) : Nat := if 0 ≤ x ∧ x ≤ 23 then (if ta (cl x) = -1 ∧ n < 12 then 0 else 2) else 1
def cWind (h : Nat) (f t v : Int32) : Nat := if (nI h ≤ f ∧ f ≤ 479) ∧ (f ≤ t ∧ t ≤ 479) ∧ (0 ≤ v ∧ v ≤ 40) then 0 else 1
def cWaves (h : Nat) (k w : Int32) : Nat := if (nI h ≤ k ∧ k ≤ 479) ∧ (0 ≤ w ∧ w ≤ 20) then 0 else 1
def cBreaks (n : Nat) (br : Nat → Int32) (t : Int32) : Nat := if hasT n t then (if br (cl t) = 0 then 0 else 2) else 1
def cCrew (b x : Int32) : Nat := if 0 ≤ b ∧ b ≤ 2 then (if 0 ≤ x ∧ x ≤ 24 then 0 else 2) else 1
def cRepair (n : Nat) (br tu : Nat → Int32) (b t x : Int32) : Nat := if (0 ≤ b ∧ b ≤ 2) ∧ hasT n t then (if 1 ≤ x ∧ x ≤ 40 then (if tu (cl b) = -1 ∧ ¬ br (cl t) = 0 ∧ ¬ (tu 0 = t ∨ tu 1 = t ∨ tu 2 = t) then 0 else 3) else 2) else 1
def cSell (h : Nat) (k u q : Int32) : Nat := if (0 ≤ k ∧ k ≤ 479) ∧ (0 ≤ u ∧ u ≤ 30000) ∧ (1 ≤ q ∧ q ≤ 100) then (if h / 24 < cl k / 24 then 0 else 2) else 1
def cPass (h : Nat) (x : Int32) : Nat := if 1 ≤ x ∧ x ≤ 48 then (if h + cl x ≤ 479 then 0 else 2) else 1
def cWindAt (n : Nat) (t : Int32) : Nat := if hasT n t then 0 else 1
def cFore (h : Nat) (k : Int32) : Nat := if nI h ≤ k ∧ k ≤ 479 then 0 else 1
def cOfHour (h : Nat) (k w : Int32) : Nat := if (0 ≤ k ∧ k ≤ nI h - 1) ∧ (0 ≤ w ∧ w ≤ 3) then 0 else 1
def cRatio (h : Nat) (k : Int32) : Nat := if 0 ≤ k ∧ k ≤ nI h - 1 then 0 else 1
def cOfBoat (b w : Int32) : Nat := if 0 ≤ b ∧ b ≤ 2 then (if 0 ≤ w ∧ w ≤ 3 then 0 else 2) else 1
def cOfTurb (n : Nat) (t w : Int32) : Nat := if hasT n t then (if 0 ≤ w ∧ w ≤ 2 then 0 else 2) else 1
def vOfHour (sl pr mk : Nat → Int32) (k : Nat) (w : Int32) : Int32 := if w = 0 then mk k else if w = 1 then fSold sl k else if w = 2 then fSold sl k - mk k else fBring sl pr mk k
def vOfBoat (tu le to ia : Nat → Int32) (b : Nat) (w : Int32) : Int32 := if w = 0 then tu b else if w = 1 then le b else if w = 2 then to b else ia b
def vOfTurb (pl br md : Nat → Int32) (t : Nat) (w : Int32) : Int32 := if w = 0 then pl t else if w = 1 then br t else md t
theorem four {w : Int32} (h : 0 ≤ w ∧ w ≤ 3) : w = 0 ∨ w = 1 ∨ w = 2 ∨ w = 3 := by
  obtain ⟨h1, -, h3⟩ := cl_rng (n := 0) (m := 3) (by decide) (by decide) h
  rcases (show cl w = 0 ∨ cl w = 1 ∨ cl w = 2 ∨ cl w = 3 by omega) with q | q | q | q <;> rw [q] at h1
  · exact Or.inl h1
  · exact Or.inr (Or.inl h1)
  · exact Or.inr (Or.inr (Or.inl h1))
  · exact Or.inr (Or.inr (Or.inr h1))
theorem three {w : Int32} (h : 0 ≤ w ∧ w ≤ 2) : w = 0 ∨ w = 1 ∨ w = 2 := by
  obtain ⟨h1, -, h3⟩ := cl_rng (n := 0) (m := 2) (by decide) (by decide) h
  rcases (show cl w = 0 ∨ cl w = 1 ∨ cl w = 2 by omega) with q | q | q <;> rw [q] at h1
  · exact Or.inl h1
  · exact Or.inr (Or.inl h1)
  · exact Or.inr (Or.inr h1)
/-! the state that hours change: broken, made, at, left, today, worked, all -/
def mkS (br md tu le to ia al : Nat → Int32) : Nat → Nat → Int32 := fun i => match i with
  | 0 => br
  | 1 => md
  | 2 => tu
  | 3 => le
  | 4 => to
  | 5 => ia
  | _ => al
def hWk (h : Nat) (sp tw cr : Nat → Int32) (σ : Nat → Nat → Int32) : Nat → Bool := fWk (fWaves sp tw h) (σ 2) cr (σ 4)
def hSt (n h : Nat) (ta pl sp tw cr : Nat → Int32) (σ : Nat → Nat → Int32) : Nat → Int32 := fStW n ta pl (σ 2) (fun _ => 0) (hWk h sp tw cr σ) 3
def hPw (n h : Nat) (ta pl sp we tw cr : Nat → Int32) (σ : Nat → Nat → Int32) : Nat → Int32 := fPw (we h) pl (σ 0) (hSt n h ta pl sp tw cr σ) n (sp h)
def hEn (h : Nat) (sp tw cr : Nat → Int32) (σ : Nat → Nat → Int32) : Nat → Bool := fEn (σ 2) (fDec (σ 3) (hWk h sp tw cr σ) 3)
def hStep (n h : Nat) (ta pl sp we tw cr : Nat → Int32) (σ : Nat → Nat → Int32) : Nat → Nat → Int32 := mkS
  (fBrE (σ 0) (σ 2) (hEn h sp tw cr σ) 3)
  (fAddR (σ 1) (hPw n h ta pl sp we tw cr σ) n)
  (fTuE (σ 2) (hEn h sp tw cr σ) 3)
  (fDec (σ 3) (hWk h sp tw cr σ) 3)
  (fDay (h + 1) (fInc (σ 4) (hWk h sp tw cr σ) 3))
  (fInc (σ 5) (hWk h sp tw cr σ) 3)
  (upd (σ 6) h (fSum (hPw n h ta pl sp we tw cr σ) n))
def hIt (n h : Nat) (ta pl sp we tw cr : Nat → Int32) (σ : Nat → Nat → Int32) : Nat → (Nat → Nat → Int32)
  | 0 => σ
  | k + 1 => hStep n (h + k) ta pl sp we tw cr (hIt n h ta pl sp we tw cr σ k)
/-- what all hours ahead of m brought -/
def fBrt (sl pr al : Nat → Int32) : Nat → Int64
  | 0 => 0
  | m + 1 => fBrt sl pr al m + (fBring sl pr al m).toInt64
/-- the boats, and what is broken -/
def hOk (n : Nat) (σ : Nat → Nat → Int32) : Prop := (∀ k, σ 0 k = 0 ∨ σ 0 k = 1) ∧ (∀ k, n ≤ k → σ 0 k = 0) ∧ (∀ b, b < 3 → (σ 2 b = -1 ∧ σ 3 b = 0) ∨ (σ 2 b = nI (fP (σ 2) b) ∧ fP (σ 2) b < n ∧ σ 0 (fP (σ 2) b) = 1)) ∧ (∀ b b', b < 3 → b' < 3 → b ≠ b' → ¬ σ 2 b = -1 → ¬ σ 2 b = σ 2 b')
theorem hOk.htu {n : Nat} {σ : Nat → Nat → Int32} (h : hOk n σ) : ∀ b, b < 3 → ¬ σ 2 b = -1 → σ 2 b = nI (fP (σ 2) b) ∧ fP (σ 2) b < n := fun b hb hq => by
  rcases h.2.2.1 b hb with q | q
  · exact absurd q.1 hq
  · exact ⟨q.1, q.2.1⟩
theorem fBrt_upd {sl pr al : Nat → Int32} {x : Int32} {h m : Nat} (hm : m ≤ h) : fBrt sl pr (upd al h x) m = fBrt sl pr al m := by
  induction m with
  | zero => rfl
  | succ m ih =>
    simp only [fBrt]
    rw [ih (by omega)]
    unfold fBring
    rw [upd_ne al x (show m ≠ h by omega)]
theorem fSum_set {f : Nat → Int32} {t : Nat} {x : Int32} : ∀ n, t < n → fSum (upd f t x) n = fSum f n - f t + x := by
  intro n
  induction n with
  | zero => intro h; omega
  | succ n ih =>
    intro h
    simp only [fSum]
    rcases Nat.lt_succ_iff_lt_or_eq.mp h with q | q
    · rw [ih q, upd_ne f x (show n ≠ t by omega)]; grind
    · subst q
      rw [upd_at, fSum_congr (g := f) (fun k hk => upd_ne f x (by omega))]; grind
theorem fStillAt_out {n : Nat} {ta st : Nat → Int32} {q k : Nat} (hn : n ≤ 12) (hk : n ≤ k) : fStillAt n ta st q k = st k := by
  unfold fStillAt
  by_cases h : hasT n (ta q)
  · rw [if_pos h, upd_ne st 1 (by have := (hasT_P hn h).1; omega)]
  · rw [if_neg h]
theorem fB4_out {n : Nat} {ta st : Nat → Int32} {p k : Nat} (hn : n ≤ 12) (hk : n ≤ k) : fB4 n ta st p k = st k := by
  have e1 : fB1 n ta st p k = st k := by unfold fB1; split; exact fStillAt_out hn hk; rfl
  have e2 : fB2 n ta st p k = st k := by unfold fB2; split; (rw [fStillAt_out hn hk]; exact e1); exact e1
  have e3 : fB3 n ta st p k = st k := by unfold fB3; split; (rw [fStillAt_out hn hk]; exact e2); exact e2
  unfold fB4; split; (rw [fStillAt_out hn hk]; exact e3); exact e3
theorem fStW_out {n : Nat} {ta pl tu st : Nat → Int32} {wk : Nat → Bool} {k : Nat} (hn : n ≤ 12) (hk : n ≤ k) (m : Nat) : fStW n ta pl tu st wk m k = st k := by
  induction m with
  | zero => rfl
  | succ m ih => unfold fStW; split; (rw [fB4_out hn hk]; exact ih); exact ih
theorem st_back {n : Nat} {ta pl tu : Nat → Int32} {wk : Nat → Bool} (hn : n ≤ 12) : setR (fStW n ta pl tu (fun _ => 0) wk 3) 0 n 0 = (fun _ => 0) := by
  funext k
  unfold setR
  by_cases h : 0 ≤ k ∧ k < n
  · rw [if_pos h]
  · rw [if_neg h, fStW_out hn (by omega)]
/-- the boats whose repair ends, one by one -/
theorem fBrE_ok {n : Nat} {br tu : Nat → Int32} {en : Nat → Bool} (hen : ∀ b, b < 3 → en b = true → tu b = nI (fP tu b) ∧ fP tu b < n ∧ br (fP tu b) = 1) (hne : ∀ b b', b < 3 → b' < 3 → b ≠ b' → ¬ tu b = -1 → ¬ tu b = tu b') (hn : n ≤ 12) :
    ∀ k, k ≤ 3 → (∀ t, (∀ b, b < k → en b = true → fP tu b ≠ t) → fBrE br tu en k t = br t) ∧ (∀ b, b < k → en b = true → fBrE br tu en k (fP tu b) = 0) ∧ fBcE (fSum br n) en k = fSum (fBrE br tu en k) n := by
  intro k
  induction k with
  | zero => intro _; exact ⟨fun _ _ => rfl, fun b hb => absurd hb (by omega), rfl⟩
  | succ k ih =>
    intro hk
    obtain ⟨i1, i2, i3⟩ := ih (by omega)
    unfold fBrE fBcE
    by_cases hq : en k = true
    · rw [if_pos hq, if_pos hq]
      obtain ⟨e1, e2, e3⟩ := hen k (by omega) hq
      have hk9 : ¬ tu k = -1 := by rw [e1]; exact fun z => nI_pos (n := fP tu k) (by omega) (by rw [z]; decide)
      refine ⟨fun t ht => ?_, fun b hb he => ?_, ?_⟩
      · rw [upd_ne _ _ (fun z => ht k (by omega) hq z.symm)]
        exact i1 t (fun b hb => ht b (by omega))
      · by_cases hbk : fP tu b = fP tu k
        · rw [hbk, upd_at]
        · rw [upd_ne _ _ hbk]
          exact i2 b (by rcases Nat.lt_succ_iff_lt_or_eq.mp hb with z | z; exact z; exact absurd (by rw [z]) hbk) he
      · rw [fSum_set n e2, i3]
        have : fBrE br tu en k (fP tu k) = 1 := by
          rw [i1 _ (fun b hb he z => ?_)]
          · exact e3
          · refine hne k b (by omega) (by omega) (by omega) hk9 ?_
            rw [e1, (hen b (by omega) he).1, z]
        rw [this]
        grind
    · rw [if_neg hq, if_neg hq]
      refine ⟨fun t ht => i1 t (fun b hb => ht b (by omega)), fun b hb he => ?_, i3⟩
      exact i2 b (by rcases Nat.lt_succ_iff_lt_or_eq.mp hb with z | z; exact z; exact absurd (by rw [← z]; exact he) hq) he
theorem hOk.step {n h : Nat} {ta pl sp we tw cr : Nat → Int32} {σ : Nat → Nat → Int32} (hn : n ≤ 12) (hk : hOk n σ) : hOk n (hStep n h ta pl sp we tw cr σ) ∧ fBcE (fSum (σ 0) n) (hEn h sp tw cr σ) 3 = fSum (hStep n h ta pl sp we tw cr σ 0) n := by
  obtain ⟨h1, h2, h3, h4⟩ := hk
  have hen : ∀ b, b < 3 → hEn h sp tw cr σ b = true → σ 2 b = nI (fP (σ 2) b) ∧ fP (σ 2) b < n ∧ σ 0 (fP (σ 2) b) = 1 := by
    intro b hb he
    rcases h3 b hb with q | q
    · exact absurd q.1 (of_decide_eq_true he).1
    · exact q
  obtain ⟨b1, b2, b3⟩ := fBrE_ok hen h4 hn 3 (Nat.le_refl _)
  have br_dec : ∀ t, (∃ b, b < 3 ∧ hEn h sp tw cr σ b = true ∧ fP (σ 2) b = t) ∨ (∀ b, b < 3 → hEn h sp tw cr σ b = true → fP (σ 2) b ≠ t) := by
    intro t
    by_cases q : ∃ b, b < 3 ∧ hEn h sp tw cr σ b = true ∧ fP (σ 2) b = t
    · exact Or.inl q
    · exact Or.inr (fun b hb he z => q ⟨b, hb, he, z⟩)
  have tu_of : ∀ b, b < 3 → ¬ fTuE (σ 2) (hEn h sp tw cr σ) 3 b = -1 → hEn h sp tw cr σ b = false ∧ fTuE (σ 2) (hEn h sp tw cr σ) 3 b = σ 2 b := by
    intro b hb hq
    unfold fTuE at hq ⊢
    by_cases q : b < 3 ∧ hEn h sp tw cr σ b = true
    · rw [if_pos q] at hq; exact absurd rfl hq
    · rw [if_neg q]; exact ⟨by cases z : hEn h sp tw cr σ b; rfl; exact absurd ⟨hb, z⟩ q, rfl⟩
  refine ⟨⟨fun t => ?_, fun t ht => ?_, fun b hb => ?_, fun b b' hb hb' hbb hq => ?_⟩, b3⟩
  · show fBrE (σ 0) (σ 2) (hEn h sp tw cr σ) 3 t = 0 ∨ fBrE (σ 0) (σ 2) (hEn h sp tw cr σ) 3 t = 1
    rcases br_dec t with ⟨b, hb, he, rfl⟩ | q
    · exact Or.inl (b2 b hb he)
    · rw [b1 t q]; exact h1 t
  · show fBrE (σ 0) (σ 2) (hEn h sp tw cr σ) 3 t = 0
    rw [b1 t (fun b hb he z => by have := (hen b hb he).2.1; omega)]
    exact h2 t ht
  · show (fTuE (σ 2) (hEn h sp tw cr σ) 3 b = -1 ∧ fDec (σ 3) (hWk h sp tw cr σ) 3 b = 0) ∨ (fTuE (σ 2) (hEn h sp tw cr σ) 3 b = nI (fP (fTuE (σ 2) (hEn h sp tw cr σ) 3) b) ∧ fP (fTuE (σ 2) (hEn h sp tw cr σ) 3) b < n ∧ fBrE (σ 0) (σ 2) (hEn h sp tw cr σ) 3 (fP (fTuE (σ 2) (hEn h sp tw cr σ) 3) b) = 1)
    by_cases q : hEn h sp tw cr σ b = true
    · refine Or.inl ⟨?_, (of_decide_eq_true q).2⟩
      unfold fTuE; rw [if_pos ⟨hb, q⟩]
    · have e : fTuE (σ 2) (hEn h sp tw cr σ) 3 b = σ 2 b := by unfold fTuE; rw [if_neg (fun z => q z.2)]
      have eP : fP (fTuE (σ 2) (hEn h sp tw cr σ) 3) b = fP (σ 2) b := by unfold fP; rw [e]
      rw [eP, e]
      rcases h3 b hb with z | z
      · refine Or.inl ⟨z.1, ?_⟩
        unfold fDec
        rw [if_neg (fun y => (of_decide_eq_true y.2).2.1 z.1)]
        exact z.2
      · refine Or.inr ⟨z.1, z.2.1, ?_⟩
        rw [b1 _ (fun b' hb' he y => ?_)]
        · exact z.2.2
        · have hbb : b ≠ b' := fun w => q (by rw [w]; exact he)
          have hm : ¬ σ 2 b = -1 := by rw [z.1]; exact fun w => nI_pos (n := fP (σ 2) b) (by omega) (by rw [w]; decide)
          exact h4 b b' hb hb' hbb hm (by rw [z.1, (hen b' hb' he).1, y])
  · obtain ⟨q1, q2⟩ := tu_of b hb hq
    show ¬ fTuE (σ 2) (hEn h sp tw cr σ) 3 b = fTuE (σ 2) (hEn h sp tw cr σ) 3 b'
    rw [q2]
    have hq' : ¬ σ 2 b = -1 := by rw [← q2]; exact hq
    unfold fTuE
    by_cases z : b' < 3 ∧ hEn h sp tw cr σ b' = true
    · rw [if_pos z]; exact hq'
    · rw [if_neg z]; exact h4 b b' hb hb' hbb hq'
theorem hOk.it {n h : Nat} {ta pl sp we tw cr : Nat → Int32} {σ : Nat → Nat → Int32} (hn : n ≤ 12) (hk : hOk n σ) : ∀ k, hOk n (hIt n h ta pl sp we tw cr σ k)
  | 0 => hk
  | k + 1 => ((hOk.it hn hk k).step hn).1
