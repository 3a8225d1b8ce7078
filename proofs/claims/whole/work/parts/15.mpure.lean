/-! Pure rows for the reference: its turns, its wakes, its hours. -/
/-- what the reference's turns say -/
def tnOk (n : Nat) (br st tn : Nat → Int32) : Prop := ∀ k, k < n → (tn k = 1 ∧ br k = 0 ∧ st k = 0) ∨ (tn k = 0 ∧ ¬ (br k = 0 ∧ st k = 0))
def taOk (n : Nat) (pl ta : Nat → Int32) : Prop := (∀ k, k < n → ta (fP pl k) = nI k) ∧ (∀ q, q < 24 → ta q = -1 ∨ ∃ k, k < n ∧ ta q = nI k ∧ fP pl k = q)
theorem hits_t {w : Int32} {pl br st : Nat → Int32} {n p d k : Nat} (hk : k < n) (h : fAw w pl br st p k = d) : fHits w pl br st n p d = true := fAny_iff.mpr ⟨k, hk, decide_eq_true h⟩
theorem hits_f {w : Int32} {pl br st : Nat → Int32} {n p d : Nat} (h : ∀ k, k < n → ¬ fAw w pl br st p k = d) : fHits w pl br st n p d = false := by
  cases q : fHits w pl br st n p d
  · rfl
  · obtain ⟨k, h1, h2⟩ := fAny_iff.mp q
    exact absurd (of_decide_eq_true h2) (h k h1)
theorem aw_iff {w : Int32} {pl br st tn : Nat → Int32} {q k d : Nat} (hd1 : 1 ≤ d) (ht : (tn k = 1 ∧ br k = 0 ∧ st k = 0) ∨ (tn k = 0 ∧ ¬ (br k = 0 ∧ st k = 0))) : fAw w pl br st q k = d ↔ (fAhd w (fP pl k) + d = fAhd w q ∧ fLane w (fP pl k) = fLane w q) ∧ tn k = 1 := by
  unfold fAw
  constructor
  · intro h
    by_cases c : fAhd w (fP pl k) < fAhd w q ∧ fLane w (fP pl k) = fLane w q ∧ br k = 0 ∧ st k = 0
    · rw [if_pos c] at h
      refine ⟨⟨by omega, c.2.1⟩, ?_⟩
      rcases ht with t | t
      · exact t.1
      · exact absurd c.2.2 t.2
    · rw [if_neg c] at h; omega
  · rintro ⟨⟨h1, h2⟩, h3⟩
    have hb : br k = 0 ∧ st k = 0 := by
      rcases ht with t | t
      · exact t.2
      · rw [t.1] at h3; exact absurd h3 (by decide)
    rw [if_pos ⟨by omega, h2, hb⟩]; omega
theorem aw_w {w : Int32} (hw : w = 1) {pl br st tn : Nat → Int32} {q k d : Nat} (hq : q < 24) (hk : fP pl k < 24) (hd1 : 1 ≤ d) (hd : d < 6) (ht : (tn k = 1 ∧ br k = 0 ∧ st k = 0) ∨ (tn k = 0 ∧ ¬ (br k = 0 ∧ st k = 0))) : fAw w pl br st q k = d ↔ (¬ nI (q % 6) - nI d < 0 ∧ ¬ nI (q / 6) - 0 < 0 ∧ nI (fP pl k) = 6 * (nI (q / 6) - 0) + (nI (q % 6) - nI d)) ∧ tn k = 1 := by
  have h0 : ¬ w = 0 := by rw [hw]; decide
  rw [aw_iff hd1 ht, ahead_w hq hk hd]
  unfold fAhd fLane
  simp only [if_neg h0]
theorem aw_n {w : Int32} (hw : w = 0) {pl br st tn : Nat → Int32} {q k d : Nat} (hq : q < 24) (hk : fP pl k < 24) (hd1 : 1 ≤ d) (hd : d < 6) (ht : (tn k = 1 ∧ br k = 0 ∧ st k = 0) ∨ (tn k = 0 ∧ ¬ (br k = 0 ∧ st k = 0))) : fAw w pl br st q k = d ↔ (¬ nI (q % 6) - 0 < 0 ∧ ¬ nI (q / 6) - nI d < 0 ∧ nI (fP pl k) = 6 * (nI (q / 6) - nI d) + (nI (q % 6) - 0)) ∧ tn k = 1 := by
  rw [aw_iff hd1 ht, ahead_n hq hk hd]
  unfold fAhd fLane
  simp only [if_pos hw]
theorem tn_all {n : Nat} {br tn : Nat → Int32} (hbr : ∀ k, br k = 0 ∨ br k = 1) : tnOk n br (fun _ => 0) (fTnAll n br tn n) := by
  intro k hk
  unfold fTnAll
  rw [if_pos hk]
  rcases hbr k with h | h
  · left; rw [h]; exact ⟨by decide, rfl, rfl⟩
  · right; rw [h]; exact ⟨by decide, fun q => absurd q.1 (by decide)⟩
theorem fTnAll_1 {n k : Nat} {br tn : Nat → Int32} : upd (fTnAll n br tn k) k (1 - br k) = fTnAll n br tn (k + 1) := by
  funext j
  by_cases hj : j = k
  · subst hj; rw [upd_at]; unfold fTnAll; rw [if_pos (by omega)]
  · rw [upd_ne _ _ hj]; unfold fTnAll
    by_cases h1 : j < k
    · rw [if_pos h1, if_pos (by omega)]
    · rw [if_neg h1, if_neg (by omega)]
theorem fTnAll_0 {n : Nat} {br tn : Nat → Int32} : tn = fTnAll n br tn 0 := by funext j; unfold fTnAll; rw [if_neg (by omega)]
theorem fTnB_0 {pl tn : Nat → Int32} {p : Nat} : tn = fTnB pl tn p 0 := by funext j; unfold fTnB; rw [if_neg (fun h => absurd h.1 (by omega))]
theorem fTnB_k {pl tn : Nat → Int32} {p k : Nat} : fTnB pl tn p k k = tn k := by unfold fTnB; rw [if_neg (fun h => absurd h.1 (by omega))]
theorem fTnB_t {pl tn : Nat → Int32} {p k : Nat} (h : (fP pl k % 6 = p % 6 ∧ (fP pl k / 6 = p / 6 + 1 ∨ p / 6 = fP pl k / 6 + 1)) ∨ (fP pl k / 6 = p / 6 ∧ (fP pl k % 6 = p % 6 + 1 ∨ p % 6 = fP pl k % 6 + 1))) : upd (fTnB pl tn p k) k 0 = fTnB pl tn p (k + 1) := by
  funext j
  by_cases hj : j = k
  · subst hj; rw [upd_at]; unfold fTnB; rw [if_pos ⟨by omega, h⟩]
  · rw [upd_ne _ _ hj]; unfold fTnB
    by_cases h1 : j < k
    · simp only [h1, show j < k + 1 by omega]
    · simp only [h1, show ¬ j < k + 1 by omega]
theorem fTnB_f {pl tn : Nat → Int32} {p k : Nat} (h : ¬ ((fP pl k % 6 = p % 6 ∧ (fP pl k / 6 = p / 6 + 1 ∨ p / 6 = fP pl k / 6 + 1)) ∨ (fP pl k / 6 = p / 6 ∧ (fP pl k % 6 = p % 6 + 1 ∨ p % 6 = fP pl k % 6 + 1)))) : upd (fTnB pl tn p k) k (fTnB pl tn p k k) = fTnB pl tn p (k + 1) := by
  funext j
  by_cases hj : j = k
  · subst hj; rw [upd_at, fTnB_k]; unfold fTnB; rw [if_neg (fun q => h q.2)]
  · rw [upd_ne _ _ hj]; unfold fTnB
    by_cases h1 : j < k
    · simp only [h1, show j < k + 1 by omega]
    · simp only [h1, show ¬ j < k + 1 by omega]
theorem still_at {n : Nat} {pl ta st : Nat → Int32} {q t : Nat} (hn : n ≤ 12) (hta : taOk n pl ta) (hq : q < 24) (ht : t < n) : fStillAt n ta st q t = if fP pl t = q then 1 else st t := by
  unfold fStillAt
  rcases hta.2 q hq with h | ⟨k, h1, h2, h3⟩
  · rw [if_neg (by rw [h]; exact hasT_m1 n)]
    rw [if_neg (fun z => by have := hta.1 t ht; rw [z, h] at this; exact nI_pos (n := t) (by omega) (by rw [← this]; decide))]
  · rw [if_pos (by rw [h2]; exact hasT_of hn h1), fP_nI h2 (by omega)]
    by_cases hk : t = k
    · subst hk; rw [upd_at, if_pos h3]
    · rw [upd_ne st 1 hk, if_neg (fun z => hk ?_)]
      have := hta.1 t ht
      rw [z, h2] at this
      exact ((nI_eq (by omega) (by omega)).mp this).symm
theorem bes_dec : ∀ p, p < 24 → ∀ r, r < 24 → (((6 ≤ p ∧ r = p - 6) ∨ (p < 18 ∧ r = p + 6) ∨ (0 < p % 6 ∧ r = p - 1) ∨ (p % 6 < 5 ∧ r = p + 1)) ↔ ((r % 6 = p % 6 ∧ (r / 6 = p / 6 + 1 ∨ p / 6 = r / 6 + 1)) ∨ (r / 6 = p / 6 ∧ (r % 6 = p % 6 + 1 ∨ p % 6 = r % 6 + 1)))) := by decide +kernel
theorem still_b4 {n : Nat} {pl ta st : Nat → Int32} {p t : Nat} (hn : n ≤ 12) (hta : taOk n pl ta) (hp : p < 24) (ht : t < n) : fB4 n ta st p t = if (6 ≤ p ∧ fP pl t = p - 6) ∨ (p < 18 ∧ fP pl t = p + 6) ∨ (0 < p % 6 ∧ fP pl t = p - 1) ∨ (p % 6 < 5 ∧ fP pl t = p + 1) then 1 else st t := by
  have e1 : fB1 n ta st p t = if (6 ≤ p ∧ fP pl t = p - 6) then 1 else st t := by
    unfold fB1
    by_cases c : 6 ≤ p
    · rw [if_pos c, still_at hn hta (by omega) ht]; simp only [c, true_and]
    · rw [if_neg c, if_neg (fun z => c z.1)]
  have e2 : fB2 n ta st p t = if (6 ≤ p ∧ fP pl t = p - 6) ∨ (p < 18 ∧ fP pl t = p + 6) then 1 else st t := by
    unfold fB2
    by_cases c : p < 18
    · rw [if_pos c, still_at hn hta (by omega) ht, e1]
      by_cases d : fP pl t = p + 6
      · rw [if_pos d, if_pos (Or.inr ⟨c, d⟩)]
      · rw [if_neg d]; simp only [d, and_false, or_false]
    · rw [if_neg c, e1]; simp only [c, false_and, or_false]
  have e3 : fB3 n ta st p t = if (6 ≤ p ∧ fP pl t = p - 6) ∨ (p < 18 ∧ fP pl t = p + 6) ∨ (0 < p % 6 ∧ fP pl t = p - 1) then 1 else st t := by
    unfold fB3
    by_cases c : 0 < p % 6
    · rw [if_pos c, still_at hn hta (by omega) ht, e2]
      by_cases d : fP pl t = p - 1
      · rw [if_pos d, if_pos (Or.inr (Or.inr ⟨c, d⟩))]
      · rw [if_neg d]; simp only [d, and_false, or_false]
    · rw [if_neg c, e2]; simp only [c, false_and, or_false]
  unfold fB4
  by_cases c : p % 6 < 5
  · by_cases d : fP pl t = p + 1
    · have hb : p + 1 < 24 := by omega
      rw [if_pos c, still_at hn hta hb ht, if_pos d, if_pos (Or.inr (Or.inr (Or.inr ⟨c, d⟩)))]
    · rw [if_pos c, still_at hn hta (by omega) ht, e3, if_neg d]; simp only [d, and_false, or_false]
  · rw [if_neg c, e3]; simp only [c, false_and, or_false]
theorem tn_w {n : Nat} {pl ta tu br tn : Nat → Int32} {wk : Nat → Bool} (hn : n ≤ 12) (hpl : ∀ k, k < n → pl k = nI (fP pl k) ∧ fP pl k < 24) (hta : taOk n pl ta) (htu : ∀ b, b < 3 → wk b = true → fP tu b < n) (h : tnOk n br (fun _ => 0) tn) : ∀ k, k ≤ 3 → tnOk n br (fStW n ta pl tu (fun _ => 0) wk k) (fTnW n pl tu tn wk k) := by
  intro k
  induction k with
  | zero => intro _; exact h
  | succ k ih =>
    intro hk
    have ih := ih (by omega)
    unfold fStW fTnW
    by_cases q : wk k = true
    · rw [if_pos q, if_pos q]
      intro t ht
      have hb : fP tu k < n := htu k (by omega) q
      have hp := (hpl _ hb).2
      have hr := (hpl t ht).2
      have e := bes_dec _ hp _ hr
      rw [still_b4 hn hta hp ht]
      unfold fTnB
      by_cases c : (6 ≤ fP pl (fP tu k) ∧ fP pl t = fP pl (fP tu k) - 6) ∨ (fP pl (fP tu k) < 18 ∧ fP pl t = fP pl (fP tu k) + 6) ∨ (0 < fP pl (fP tu k) % 6 ∧ fP pl t = fP pl (fP tu k) - 1) ∨ (fP pl (fP tu k) % 6 < 5 ∧ fP pl t = fP pl (fP tu k) + 1)
      · rw [if_pos c, if_pos ⟨ht, e.mp c⟩]
        exact Or.inr ⟨rfl, fun z => absurd z.2 (by decide)⟩
      · rw [if_neg c, if_neg (fun z => c (e.mpr z.2))]
        exact ih t ht
    · rw [if_neg q, if_neg q]; exact ih
/-- the reference's turns, its money, hour by hour -/
def hTn (n h : Nat) (ta pl sp we tw cr : Nat → Int32) (σ : Nat → Nat → Int32) (tn : Nat → Int32) : Nat → (Nat → Int32)
  | 0 => tn
  | k + 1 => fTnW n pl (hIt n h ta pl sp we tw cr σ k 2) (fTnAll n (hIt n h ta pl sp we tw cr σ k 0) (hTn n h ta pl sp we tw cr σ tn k) n) (hWk (h + k) sp tw cr (hIt n h ta pl sp we tw cr σ k)) 3
def hMo (n h : Nat) (ta pl sp we tw cr sl pr : Nat → Int32) (σ : Nat → Nat → Int32) (mo : Nat → Int32) : Nat → (Nat → Int32)
  | 0 => mo
  | k + 1 => upd (hMo n h ta pl sp we tw cr sl pr σ mo k) (h + k) (fBring sl pr (hIt n h ta pl sp we tw cr σ (k + 1) 6) (h + k))
theorem hIt_al {n h : Nat} {ta pl sp we tw cr : Nat → Int32} {σ : Nat → Nat → Int32} (hz : ∀ j, h ≤ j → σ 6 j = 0) : ∀ k j, h + k ≤ j → hIt n h ta pl sp we tw cr σ k 6 j = 0 := by
  intro k
  induction k with
  | zero => intro j hj; exact hz j hj
  | succ k ih =>
    intro j hj
    show upd (hIt n h ta pl sp we tw cr σ k 6) (h + k) _ j = 0
    rw [upd_ne _ _ (by omega)]
    exact ih j (by omega)
theorem hIt_al_lt {n h : Nat} {ta pl sp we tw cr : Nat → Int32} {σ : Nat → Nat → Int32} : ∀ k j, j < h → hIt n h ta pl sp we tw cr σ k 6 j = σ 6 j := by
  intro k
  induction k with
  | zero => intro j hj; rfl
  | succ k ih =>
    intro j hj
    show upd (hIt n h ta pl sp we tw cr σ k 6) (h + k) _ j = _
    rw [upd_ne _ _ (by omega)]
    exact ih j hj
theorem fBring_c {sl pr al al' : Nat → Int32} {j : Nat} (h : al j = al' j) : fBring sl pr al j = fBring sl pr al' j := by unfold fBring; rw [h]
theorem hMo_ok {n h : Nat} {ta pl sp we tw cr sl pr mo : Nat → Int32} {σ : Nat → Nat → Int32} (hmo : ∀ j, j < h → mo j = fBring sl pr (σ 6) j) : ∀ k j, j < h + k → hMo n h ta pl sp we tw cr sl pr σ mo k j = fBring sl pr (hIt n h ta pl sp we tw cr σ k 6) j := by
  intro k
  induction k with
  | zero => intro j hj; exact hmo j hj
  | succ k ih =>
    intro j hj
    show upd (hMo n h ta pl sp we tw cr sl pr σ mo k) (h + k) _ j = _
    by_cases c : j = h + k
    · subst c; rw [upd_at]
    · rw [upd_ne _ _ c, ih j (by omega)]
      refine fBring_c ?_
      show _ = upd (hIt n h ta pl sp we tw cr σ k 6) (h + k) _ j
      rw [upd_ne _ _ c]
theorem upd_self0 {f : Nat → Int32} {k : Nat} (h : f k = 0) : f = upd f k 0 := by
  funext j
  by_cases c : j = k
  · subst c; rw [upd_at, h]
  · rw [upd_ne _ _ c]
theorem upd_upd (f : Nat → Int32) (k : Nat) (x y : Int32) : upd (upd f k x) k y = upd f k y := by
  funext j
  by_cases c : j = k
  · subst c; rw [upd_at, upd_at]
  · rw [upd_ne _ _ c, upd_ne _ _ c, upd_ne _ _ c]
