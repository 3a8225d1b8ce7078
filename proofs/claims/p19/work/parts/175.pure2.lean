theorem fSold_le0 {sl : Nat → Int32} {k : Nat} (hsl : sl k = -1 ∨ 0 ≤ sl k) (h : ¬ 0 < sl k) : fSold sl k = 0 := by
  unfold fSold
  by_cases c : sl k = -1
  · rw [if_pos c]
  · rw [if_neg c]
    exact Int32.le_antisymm (Int32.not_lt.mp h) (hsl.resolve_left c)
theorem fSold_pos {sl : Nat → Int32} {k : Nat} (h : 0 < sl k) : fSold sl k = sl k := if_neg (fun z => absurd h (by rw [z]; decide))
def fDayJ (m : Nat) (f : Nat → Int32) (i : Nat) : Nat → Int32 := if m % 24 = 0 then setR f 0 i 0 else f
theorem fDayJ_0 {m : Nat} {f : Nat → Int32} : f = fDayJ m f 0 := by
  unfold fDayJ; split
  · exact (setR_0 f 0 0).symm
  · rfl
theorem fDayJ_t {m : Nat} {f : Nat → Int32} {i : Nat} (h : m % 24 = 0) : upd (fDayJ m f i) i 0 = fDayJ m f (i + 1) := by
  unfold fDayJ; rw [if_pos h, if_pos h]; exact setR_1 f 0 (Nat.zero_le i)
theorem fDayJ_f {m : Nat} {f : Nat → Int32} {i : Nat} (h : ¬ m % 24 = 0) : upd (fDayJ m f i) i (fDayJ m f i i) = fDayJ m f (i + 1) := by
  unfold fDayJ; rw [if_neg h, if_neg h]
  funext j
  by_cases c : j = i
  · subst c; rw [upd_at]
  · rw [upd_ne _ _ c]
