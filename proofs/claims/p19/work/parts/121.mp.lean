/-! Where turbines stand, hours that are to come (pure). -/
def taOk (n : Nat) (pl ta : Nat → Int32) : Prop := (∀ k, k < n → ta (fP pl k) = nI k) ∧ (∀ q, q < 24 → ta q = -1 ∨ ∃ k, k < n ∧ ta q = nI k ∧ fP pl k = q)
theorem hits_f {w : Int32} {pl br st : Nat → Int32} {n p d : Nat} (h : ∀ k, k < n → ¬ fAw w pl br st p k = d) : fHits w pl br st n p d = false := by
  cases q : fHits w pl br st n p d
  · rfl
  · obtain ⟨k, h1, h2⟩ := fAny_iff.mp q
    exact absurd (of_decide_eq_true h2) (h k h1)
theorem hIt_al {n h : Nat} {ta pl sp we tw cr : Nat → Int32} {σ : Nat → Nat → Int32} (hz : ∀ j, h ≤ j → σ 6 j = 0) : ∀ k j, h + k ≤ j → hIt n h ta pl sp we tw cr σ k 6 j = 0 := by
  intro k
  induction k with
  | zero => intro j hj; exact hz j hj
  | succ k ih =>
    intro j hj
    show upd (hIt n h ta pl sp we tw cr σ k 6) (h + k) _ j = 0
    rw [upd_ne _ _ (by omega)]
    exact ih j (by omega)
