/-! The numbers that the methods speak of: wakes, winds, powers, sums, ranges. -/
def fLane (w : Int32) (p : Nat) : Nat := if w = 0 then p % 6 else p / 6
def fAhd (w : Int32) (p : Nat) : Nat := if w = 0 then p / 6 else p % 6
def fWake (d : Nat) : Int32 := if d = 1 then 30 else if d = 2 then 20 else 10
def fTaken (v : Int32) (d : Nat) : Int32 := v * fWake d / 100
def fPow (v : Int32) : Int32 := if 4 ≤ v ∧ v ≤ 25 then (if 2000 < v * v * v then 2000 else v * v * v) else 0
/-- a place as a natural number -/
def fP (pl : Nat → Int32) (k : Nat) : Nat := (pl k).toNatClampNeg
/-- how far ahead the turbine k turns, in the same lane; 0: it doesn't -/
def fAw (w : Int32) (pl br st : Nat → Int32) (p k : Nat) : Nat := if fAhd w (fP pl k) < fAhd w p ∧ fLane w (fP pl k) = fLane w p ∧ br k = 0 ∧ st k = 0 then fAhd w p - fAhd w (fP pl k) else 0
def fAny (f : Nat → Bool) : Nat → Bool
  | 0 => false
  | n + 1 => fAny f n || f n
def fMask (aw : Nat → Nat) : Nat → Int32
  | 0 => 0
  | n + 1 => if aw n = 0 then fMask aw n else fMask aw n ||| ((1 : Int32) <<< (nI (aw n) &&& 31))
def fStep (g : Nat → Bool) (v : Int32) : Nat → Int32
  | 0 => v
  | d + 1 => if g (d + 1) = true then fStep g v d - fTaken (fStep g v d) (d + 1) else fStep g v d
def fHits (w : Int32) (pl br st : Nat → Int32) (n p d : Nat) : Bool := fAny (fun k => decide (fAw w pl br st p k = d)) n
def fWind (w : Int32) (pl br st : Nat → Int32) (n : Nat) (v : Int32) (p : Nat) : Int32 := fStep (fHits w pl br st n p) v 5
def fPw (w : Int32) (pl br st : Nat → Int32) (n : Nat) (v : Int32) (t : Nat) : Int32 := if br t = 0 ∧ st t = 0 then fPow (fWind w pl br st n v (fP pl t)) else 0
def fSum (f : Nat → Int32) : Nat → Int32
  | 0 => 0
  | n + 1 => fSum f n + f n
def fAddR (md f : Nat → Int32) (k : Nat) : Nat → Int32 := fun t => if t < k then md t + f t else md t
def setR (f : Nat → Int32) (x y : Nat) (v : Int32) : Nat → Int32 := fun j => if x ≤ j ∧ j < y then v else f j
/-- there is such a turbine -/
abbrev hasT (n : Nat) (x : Int32) : Prop := 0 ≤ x ∧ x ≤ nI n - 1
theorem fAny_iff {f : Nat → Bool} {n : Nat} : fAny f n = true ↔ ∃ k, k < n ∧ f k = true := by
  induction n with
  | zero => simp [fAny]
  | succ n ih =>
    simp only [fAny, Bool.or_eq_true, ih]
    constructor
    · rintro (⟨k, h1, h2⟩ | h)
      · exact ⟨k, by omega, h2⟩
      · exact ⟨n, by omega, h⟩
    · rintro ⟨k, h1, h2⟩
      rcases Nat.lt_succ_iff_lt_or_eq.mp h1 with h | h
      · exact Or.inl ⟨k, h, h2⟩
      · subst h; exact Or.inr h2
theorem fAny_congr {f g : Nat → Bool} {n : Nat} (h : ∀ k, k < n → f k = g k) : fAny f n = fAny g n := by
  induction n with
  | zero => rfl
  | succ n ih => simp only [fAny]; rw [ih (fun k hk => h k (by omega)), h n (by omega)]
theorem upd_at (f : Nat → Int32) (k : Nat) (x : Int32) : upd f k x k = x := pk_us
theorem upd_ne (f : Nat → Int32) {k j : Nat} (x : Int32) (h : j ≠ k) : upd f k x j = f j := pk_un h
theorem setR_0 (f : Nat → Int32) (x : Nat) (v : Int32) : setR f x x v = f := by
  funext j; unfold setR; rw [if_neg (by omega)]
theorem setR_1 (f : Nat → Int32) {x k : Nat} (v : Int32) (h : x ≤ k) : upd (setR f x k v) k v = setR f x (k + 1) v := by
  funext j
  by_cases hj : j = k
  · subst hj; rw [upd_at]; unfold setR; rw [if_pos (by omega)]
  · rw [upd_ne _ _ hj]; unfold setR
    by_cases h1 : x ≤ j ∧ j < k
    · rw [if_pos h1, if_pos (by omega)]
    · rw [if_neg h1, if_neg (by omega)]
theorem fAddR_0 (md f : Nat → Int32) : fAddR md f 0 = md := by
  funext j; unfold fAddR; rw [if_neg (by omega)]
theorem fAddR_k (md f : Nat → Int32) (k : Nat) : fAddR md f k k = md k := by unfold fAddR; rw [if_neg (by omega)]
theorem fAddR_1 (md f : Nat → Int32) (k : Nat) : upd (fAddR md f k) k (fAddR md f k k + f k) = fAddR md f (k + 1) := by
  funext j
  by_cases hj : j = k
  · subst hj; rw [upd_at, fAddR_k]; unfold fAddR; rw [if_pos (by omega)]
  · rw [upd_ne _ _ hj]; unfold fAddR
    by_cases h1 : j < k
    · rw [if_pos h1, if_pos (by omega)]
    · rw [if_neg h1, if_neg (by omega)]
theorem hasT_of {n j : Nat} (hn : n ≤ 12) (h : j < n) : hasT n (nI j) := by
  refine ⟨nI_pos' (by omega), ?_⟩
  obtain ⟨q, rfl⟩ : ∃ q, n = q + 1 := ⟨n - 1, by omega⟩
  rw [nI_pred]
  exact nI_le (by omega) (by omega)
theorem hasT_to {n : Nat} {x : Int32} (hn : n ≤ 12) (h : hasT n x) : ∃ j, j < n ∧ x = nI j := by
  obtain ⟨h1, h2⟩ := h
  rcases Nat.eq_zero_or_pos n with h0 | h0
  · subst h0
    exfalso
    have h3 := Int32.le_iff_toInt_le.mp h1
    have h4 := Int32.le_iff_toInt_le.mp h2
    have h5 : (nI 0 - 1).toInt = -1 := by decide
    have h6 : (0 : Int32).toInt = 0 := by decide
    omega
  · obtain ⟨q, rfl⟩ : ∃ q, n = q + 1 := ⟨n - 1, by omega⟩
    rw [nI_pred] at h2
    have h3 := Int32.le_iff_toInt_le.mp h1
    have h4 := Int32.le_iff_toInt_le.mp h2
    rw [nI_toInt (by omega)] at h4
    have h6 : (0 : Int32).toInt = 0 := by decide
    obtain ⟨j, hj, rfl⟩ := nI_of (x := x) (fun hlt => by have := Int32.lt_iff_toInt_lt.mp hlt; omega)
    rw [nI_toInt (by omega)] at h4
    exact ⟨j, by omega, rfl⟩
theorem hasT_m1 (n : Nat) : ¬ hasT n (-1) := fun h => absurd h.1 (by decide)
theorem sub_le0 {a b : Nat} (ha : a < 2 ^ 30) (hb : b < 2 ^ 30) : nI a - nI b ≤ 0 ↔ a ≤ b := by
  rw [Int32.le_iff_toInt_le, pk_sub_toInt ha hb, show (0 : Int32).toInt = 0 from rfl]
  omega
theorem fAhd_lt {w : Int32} {p : Nat} (h : p < 24) : fAhd w p < 6 := by
  unfold fAhd; split <;> omega
theorem fLane_lt {w : Int32} {p : Nat} (h : p < 24) : fLane w p < 6 := by
  unfold fLane; split <;> omega
theorem fAw_le {w : Int32} {pl br st : Nat → Int32} {p k : Nat} (h : p < 24) : fAw w pl br st p k ≤ 5 := by
  have := fAhd_lt (w := w) h
  unfold fAw; split <;> omega
theorem nI_dm {p : Nat} (hp : p < 2 ^ 31) : nI p / 6 = nI (p / 6) := pk_div hp (by decide) (by decide)
theorem nI_rm {p : Nat} (hp : p < 2 ^ 31) : nI p - nI p / 6 * 6 = nI (p % 6) := pk_rem hp (by decide) (by decide)
/-- a bit of the mask -/
theorem bit_dec : ∀ a, a < 6 → ∀ d, d < 6 → (((1 : Int32) <<< (nI a &&& 31)) &&& ((1 : Int32) <<< (nI d &&& 31)) = 0 ↔ a ≠ d) := by decide +kernel
theorem and_or0 (x y z : Int32) : (x ||| y) &&& z = 0 ↔ x &&& z = 0 ∧ y &&& z = 0 := by
  rw [← Int32.toBitVec_inj, ← Int32.toBitVec_inj, ← Int32.toBitVec_inj]
  simp only [Int32.toBitVec_and, Int32.toBitVec_or]
  rw [show (0 : Int32).toBitVec = 0#32 from rfl]
  generalize x.toBitVec = a
  generalize y.toBitVec = b
  generalize z.toBitVec = c
  constructor
  · intro h
    constructor
    · ext i hi
      have := congrArg (fun v => v.getLsbD i) h
      simp at this ⊢
      intro h1
      exact (this (Or.inl h1))
    · ext i hi
      have := congrArg (fun v => v.getLsbD i) h
      simp at this ⊢
      intro h1
      exact (this (Or.inr h1))
  · rintro ⟨h1, h2⟩
    ext i hi
    have e1 := congrArg (fun v => v.getLsbD i) h1
    have e2 := congrArg (fun v => v.getLsbD i) h2
    simp at e1 e2 ⊢
    rintro (h | h)
    · exact e1 h
    · exact e2 h
theorem fMask_bit {aw : Nat → Nat} (h : ∀ k, aw k ≤ 5) {d : Nat} (h1 : 1 ≤ d) (h5 : d ≤ 5) (n : Nat) : (fMask aw n &&& ((1 : Int32) <<< (nI d &&& 31)) = 0) ↔ fAny (fun k => decide (aw k = d)) n = false := by
  induction n with
  | zero => simp only [fMask, fAny]; exact ⟨fun _ => trivial, fun _ => by rw [Int32.zero_and]⟩
  | succ n ih =>
    simp only [fMask, fAny, Bool.or_eq_false_iff, decide_eq_false_iff_not]
    by_cases h0 : aw n = 0
    · rw [if_pos h0, ih]
      exact ⟨fun q => ⟨q, by omega⟩, fun q => q.1⟩
    · rw [if_neg h0, and_or0, ih, bit_dec _ (by have := h n; omega) _ (by omega)]
theorem fStep_le {g : Nat → Bool} {v : Int32} {a b : Nat} (hab : a ≤ b) (h : ∀ d, a < d → d ≤ b → g d = false) : fStep g v b = fStep g v a := by
  induction b with
  | zero => rw [show a = 0 by omega]
  | succ b ih =>
    rcases Nat.lt_or_ge a (b + 1) with q | q
    · simp only [fStep]
      rw [if_neg (by rw [h (b + 1) q (Nat.le_refl _)]; decide)]
      exact ih (by omega) (fun d h1 h2 => h d h1 (by omega))
    · rw [show a = b + 1 by omega]
theorem fStep_congr {g g' : Nat → Bool} {v : Int32} {b : Nat} (h : ∀ d, 1 ≤ d → d ≤ b → g d = g' d) : fStep g v b = fStep g' v b := by
  induction b with
  | zero => rfl
  | succ b ih => simp only [fStep]; rw [ih (fun d h1 h2 => h d h1 (by omega)), h (b + 1) (by omega) (Nat.le_refl _)]
theorem fSum_congr {f g : Nat → Int32} {n : Nat} (h : ∀ k, k < n → f k = g k) : fSum f n = fSum g n := by
  induction n with
  | zero => rfl
  | succ n ih => simp only [fSum]; rw [ih (fun k hk => h k (by omega)), h n (by omega)]
/-- what was sold for an hour -/
def fSold (sl : Nat → Int32) (k : Nat) : Int32 := if sl k = -1 then 0 else sl k
/-- what an hour brings -/
def fBring (sl pr mk : Nat → Int32) (k : Nat) : Int32 := if 0 < fSold sl k - mk k then fSold sl k * pr k - (fSold sl k - mk k) * 2 * pr k else fSold sl k * pr k - (fSold sl k - mk k) * (pr k / 2)
/-- the place behind which a wake comes: one lane, so many places ahead -/
def fOther (n : Nat) (ta br st : Nat → Int32) (q : Nat) : Bool := decide (hasT n (ta q) ∧ br (fP ta q) = 0 ∧ st (fP ta q) = 0)
def fPace (w : Int32) : Nat := if w = 0 then 6 else 1
def fAnew (w : Int32) (ta br st : Nat → Int32) (n : Nat) (v : Int32) (p : Nat) : Int32 := fStep (fun d => fOther n ta br st (p - d * fPace w)) v (fAhd w p)
def fPwAnew (w : Int32) (pl ta br st : Nat → Int32) (n : Nat) (v : Int32) (t : Nat) : Int32 := if br t = 0 ∧ st t = 0 then fPow (fAnew w ta br st n v (fP pl t)) else 0
def fStillAt (n : Nat) (ta st : Nat → Int32) (q : Nat) : Nat → Int32 := if hasT n (ta q) then upd st (fP ta q) 1 else st
def fB1 (n : Nat) (ta st : Nat → Int32) (p : Nat) : Nat → Int32 := if 6 ≤ p then fStillAt n ta st (p - 6) else st
def fB2 (n : Nat) (ta st : Nat → Int32) (p : Nat) : Nat → Int32 := if p < 18 then fStillAt n ta (fB1 n ta st p) (p + 6) else fB1 n ta st p
def fB3 (n : Nat) (ta st : Nat → Int32) (p : Nat) : Nat → Int32 := if 0 < p % 6 then fStillAt n ta (fB2 n ta st p) (p - 1) else fB2 n ta st p
def fB4 (n : Nat) (ta st : Nat → Int32) (p : Nat) : Nat → Int32 := if p % 6 < 5 then fStillAt n ta (fB3 n ta st p) (p + 1) else fB3 n ta st p
theorem fP_nI {f : Nat → Int32} {q j : Nat} (h : f q = nI j) (hj : j < 2 ^ 31) : fP f q = j := by unfold fP; rw [h]; exact nI_clamp hj
theorem hasT_P {n : Nat} {f : Nat → Int32} {q : Nat} (hn : n ≤ 12) (h : hasT n (f q)) : fP f q < n ∧ f q = nI (fP f q) := by
  obtain ⟨j, h1, h2⟩ := hasT_to hn h
  rw [fP_nI h2 (by omega)]
  exact ⟨h1, h2⟩
theorem pace_in {w : Int32} {p d : Nat} (hp : p < 24) (h : d ≤ fAhd w p) : d * fPace w ≤ p := by
  unfold fAhd at h; unfold fPace
  by_cases hw : w = 0
  · rw [if_pos hw] at h ⊢; omega
  · rw [if_neg hw] at h ⊢; omega
theorem fSum_back (f : Nat → Int32) (n k : Nat) : fSum f n - fSum f (k + 1) + f k = fSum f n - fSum f k := by
  simp only [fSum]
  grind
theorem nI_m1_lt {j : Nat} (hj : j < 2 ^ 31) : nI j + -1 < 0 ↔ j = 0 := by
  rcases Nat.eq_zero_or_pos j with h | h
  · subst h; exact ⟨fun _ => rfl, fun _ => by decide⟩
  · obtain ⟨k, rfl⟩ : ∃ k, j = k + 1 := ⟨j - 1, by omega⟩
    rw [pk_m1]
    exact ⟨fun q => absurd q (nI_pos (by omega)), fun q => absurd q (by omega)⟩
def fWaves (sp tw : Nat → Int32) (k : Nat) : Int32 := if tw k = -1 then sp k / 3 else tw k
/-- who works in an hour of such waves -/
def fWk (wv : Int32) (tu cr to : Nat → Int32) (b : Nat) : Bool := decide (wv ≤ 4 ∧ ¬ tu b = -1 ∧ to b < cr b)
def fDec (f : Nat → Int32) (wk : Nat → Bool) (k : Nat) : Nat → Int32 := fun b => if b < k ∧ wk b = true then f b - 1 else f b
def fInc (f : Nat → Int32) (wk : Nat → Bool) (k : Nat) : Nat → Int32 := fun b => if b < k ∧ wk b = true then f b + 1 else f b
def fStW (n : Nat) (ta pl tu st : Nat → Int32) (wk : Nat → Bool) : Nat → (Nat → Int32)
  | 0 => st
  | k + 1 => if wk k = true then fB4 n ta (fStW n ta pl tu st wk k) (fP pl (fP tu k)) else fStW n ta pl tu st wk k
/-- whose repair ends -/
def fEn (tu le : Nat → Int32) (b : Nat) : Bool := decide (¬ tu b = -1 ∧ le b = 0)
def fTuE (tu : Nat → Int32) (en : Nat → Bool) (k : Nat) : Nat → Int32 := fun b => if b < k ∧ en b = true then -1 else tu b
def fBrE (br tu : Nat → Int32) (en : Nat → Bool) : Nat → (Nat → Int32)
  | 0 => br
  | k + 1 => if en k = true then upd (fBrE br tu en k) (fP tu k) 0 else fBrE br tu en k
def fBcE (bc : Int32) (en : Nat → Bool) : Nat → Int32
  | 0 => bc
  | k + 1 => if en k = true then fBcE bc en k - 1 else fBcE bc en k
def fDay (h : Nat) (to : Nat → Int32) : Nat → Int32 := if h % 24 = 0 then setR to 0 3 0 else to
theorem fDec_0 (f : Nat → Int32) (wk : Nat → Bool) : fDec f wk 0 = f := by funext b; unfold fDec; rw [if_neg (by omega)]
theorem fInc_0 (f : Nat → Int32) (wk : Nat → Bool) : fInc f wk 0 = f := by funext b; unfold fInc; rw [if_neg (by omega)]
theorem fTuE_0 (f : Nat → Int32) (wk : Nat → Bool) : fTuE f wk 0 = f := by funext b; unfold fTuE; rw [if_neg (by omega)]
theorem fDec_k (f : Nat → Int32) (wk : Nat → Bool) (k : Nat) : fDec f wk k k = f k := by unfold fDec; rw [if_neg (by omega)]
theorem fInc_k (f : Nat → Int32) (wk : Nat → Bool) (k : Nat) : fInc f wk k k = f k := by unfold fInc; rw [if_neg (by omega)]
theorem fTuE_k (f : Nat → Int32) (wk : Nat → Bool) (k : Nat) : fTuE f wk k k = f k := by unfold fTuE; rw [if_neg (by omega)]
theorem fDec_t {f : Nat → Int32} {wk : Nat → Bool} {k : Nat} (h : wk k = true) : upd (fDec f wk k) k (fDec f wk k k - 1) = fDec f wk (k + 1) := by
  funext b
  by_cases hb : b = k
  · subst hb; rw [upd_at, fDec_k]; unfold fDec; rw [if_pos ⟨by omega, h⟩]
  · rw [upd_ne _ _ hb]; unfold fDec
    by_cases h1 : b < k ∧ wk b = true
    · rw [if_pos h1, if_pos ⟨by omega, h1.2⟩]
    · rw [if_neg h1, if_neg (fun q => h1 ⟨by omega, q.2⟩)]
theorem fInc_t {f : Nat → Int32} {wk : Nat → Bool} {k : Nat} (h : wk k = true) : upd (fInc f wk k) k (fInc f wk k k + 1) = fInc f wk (k + 1) := by
  funext b
  by_cases hb : b = k
  · subst hb; rw [upd_at, fInc_k]; unfold fInc; rw [if_pos ⟨by omega, h⟩]
  · rw [upd_ne _ _ hb]; unfold fInc
    by_cases h1 : b < k ∧ wk b = true
    · rw [if_pos h1, if_pos ⟨by omega, h1.2⟩]
    · rw [if_neg h1, if_neg (fun q => h1 ⟨by omega, q.2⟩)]
theorem fTuE_t {f : Nat → Int32} {wk : Nat → Bool} {k : Nat} (h : wk k = true) : upd (fTuE f wk k) k (-1) = fTuE f wk (k + 1) := by
  funext b
  by_cases hb : b = k
  · subst hb; rw [upd_at]; unfold fTuE; rw [if_pos ⟨by omega, h⟩]
  · rw [upd_ne _ _ hb]; unfold fTuE
    by_cases h1 : b < k ∧ wk b = true
    · rw [if_pos h1, if_pos ⟨by omega, h1.2⟩]
    · rw [if_neg h1, if_neg (fun q => h1 ⟨by omega, q.2⟩)]
theorem fDec_f {f : Nat → Int32} {wk : Nat → Bool} {k : Nat} (h : wk k = false) : fDec f wk k = fDec f wk (k + 1) := by
  funext b; unfold fDec
  by_cases h1 : b < k ∧ wk b = true
  · rw [if_pos h1, if_pos ⟨by omega, h1.2⟩]
  · rw [if_neg h1, if_neg (fun q => h1 ⟨(Nat.lt_succ_iff_lt_or_eq.mp q.1).elim id (fun z => absurd q.2 (by rw [z, h]; decide)), q.2⟩)]
theorem fInc_f {f : Nat → Int32} {wk : Nat → Bool} {k : Nat} (h : wk k = false) : fInc f wk k = fInc f wk (k + 1) := by
  funext b; unfold fInc
  by_cases h1 : b < k ∧ wk b = true
  · rw [if_pos h1, if_pos ⟨by omega, h1.2⟩]
  · rw [if_neg h1, if_neg (fun q => h1 ⟨(Nat.lt_succ_iff_lt_or_eq.mp q.1).elim id (fun z => absurd q.2 (by rw [z, h]; decide)), q.2⟩)]
theorem fTuE_f {f : Nat → Int32} {wk : Nat → Bool} {k : Nat} (h : wk k = false) : fTuE f wk k = fTuE f wk (k + 1) := by
  funext b; unfold fTuE
  by_cases h1 : b < k ∧ wk b = true
  · rw [if_pos h1, if_pos ⟨by omega, h1.2⟩]
  · rw [if_neg h1, if_neg (fun q => h1 ⟨(Nat.lt_succ_iff_lt_or_eq.mp q.1).elim id (fun z => absurd q.2 (by rw [z, h]; decide)), q.2⟩)]
theorem fDec_no {f : Nat → Int32} {wk : Nat → Bool} {k : Nat} (h : ∀ b, wk b = false) : f = fDec f wk k := by
  induction k with
  | zero => exact (fDec_0 f wk).symm
  | succ k ih => rw [← fDec_f (h k)]; exact ih
theorem fInc_no {f : Nat → Int32} {wk : Nat → Bool} {k : Nat} (h : ∀ b, wk b = false) : f = fInc f wk k := by
  induction k with
  | zero => exact (fInc_0 f wk).symm
  | succ k ih => rw [← fInc_f (h k)]; exact ih
theorem fStW_no {n : Nat} {ta pl tu st : Nat → Int32} {wk : Nat → Bool} {k : Nat} (h : ∀ b, wk b = false) : st = fStW n ta pl tu st wk k := by
  induction k with
  | zero => rfl
  | succ k ih => unfold fStW; rw [if_neg (by rw [h k]; decide)]; exact ih
theorem nI_r24 {h : Nat} (hh : h < 2 ^ 31) : nI h - nI h / 24 * 24 = nI (h % 24) := pk_rem hh (by decide) (by decide)
