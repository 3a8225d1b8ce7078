/-! The law's start: what its word lists and its Statement give (written by program). -/
theorem arr_of {args : Array Value} {s : State} {ty : FieldType} (h : (Cond.arrayClass ty).before args s = true) : ∃ cA : ClassId, ArrOfT s cA ty ∧ s.vm.findClass ("[" ++ ty.toString) = some cA := by
  obtain ⟨cA, kA, comp, h1, h2, h3⟩ := Cond.arrayClass_spec h
  exact ⟨cA, fun n z => ⟨fun k h => (by cases h), kA, h2, comp, h3⟩, h1⟩
theorem str_of {args : Array Value} {s : State} {k : Nat} (h : (Cond.exactly (.string RX4 k) "java/lang/String").before args s = true) : ∃ a : Nat, (Term.string RX4 k).eval args s none [] s = some (.ref a) := by
  obtain ⟨a, c, cell, kk, h1, -⟩ := Cond.exactly_spec h
  exact ⟨a, h1⟩
theorem lw_str {args : Array Value} {s : State} (hg : (Jvm.Cond.and given_1 narrow_1).before args s = true) : ∀ q ∈ kStr, ∃ a : Nat, (Term.string RX4 q.1).eval args s none [] s = some (.ref a) := by
  have hs := flat_of_before _ hg
  exact List.forall_mem_cons.mpr ⟨str_of (hs _ (by decide +kernel)), List.forall_mem_cons.mpr ⟨str_of (hs _ (by decide +kernel)), List.forall_mem_cons.mpr ⟨str_of (hs _ (by decide +kernel)), List.forall_mem_cons.mpr ⟨str_of (hs _ (by decide +kernel)), List.forall_mem_cons.mpr ⟨str_of (hs _ (by decide +kernel)), List.forall_mem_cons.mpr ⟨str_of (hs _ (by decide +kernel)), List.forall_mem_cons.mpr ⟨str_of (hs _ (by decide +kernel)), List.forall_mem_cons.mpr ⟨str_of (hs _ (by decide +kernel)), List.forall_mem_cons.mpr ⟨str_of (hs _ (by decide +kernel)), List.forall_mem_cons.mpr ⟨str_of (hs _ (by decide +kernel)), List.forall_mem_cons.mpr ⟨str_of (hs _ (by decide +kernel)), List.forall_mem_cons.mpr ⟨str_of (hs _ (by decide +kernel)), List.forall_mem_cons.mpr ⟨str_of (hs _ (by decide +kernel)), List.forall_mem_cons.mpr ⟨str_of (hs _ (by decide +kernel)), List.forall_mem_cons.mpr ⟨str_of (hs _ (by decide +kernel)), List.forall_mem_cons.mpr ⟨str_of (hs _ (by decide +kernel)), fun _ h => absurd h List.not_mem_nil⟩⟩⟩⟩⟩⟩⟩⟩⟩⟩⟩⟩⟩⟩⟩⟩
theorem lw_castable : ∀ q ∈ kExc, Cond.castable q.1 q.1 ∈ lw_tbl := by decide +kernel
theorem lw_declares : ∀ n ∈ kDec, Cond.declares n ∈ lw_tbl := by decide +kernel
theorem lw_stringRef : ∀ q ∈ kStr, Cond.stringRef RX4 q.1 q.2 ∈ lw_tbl := by decide +kernel
theorem lw_kX {args : Array Value} {s : State} (hts : ∀ w ∈ lw_tbl, w.before args s = true) (hg : (Jvm.Cond.and given_1 narrow_1).before args s = true) : kX (lA s) s s.heap := by
  have hs := flat_of_before _ hg
  refine ⟨vx_Zqof (hts _ (by decide +kernel)) (hts _ (by decide +kernel)) (hs _ (by decide +kernel)) (fun a h1 h2 => absurd h1 (Nat.not_lt.mpr h2)), vx_Zqof (hts _ (by decide +kernel)) (hts _ (by decide +kernel)) (hs _ (by decide +kernel)) (fun a h1 h2 => absurd h1 (Nat.not_lt.mpr h2)), fun q hq => va_Nw.of rfl (hts _ (lw_castable q hq)), fun n hn => va_Nw.of rfl (hts _ (lw_declares n hn)), fun q hq => ?_⟩
  obtain ⟨sa, h⟩ := lw_str hg q hq
  exact ⟨sa, vk_R.of (hts _ (lw_stringRef q hq)) h⟩
theorem lw_pr {args : Array Value} {s : State} (hg : (Jvm.Cond.and given_1 narrow_1).before args s = true) : ∀ q ∈ kPr, va_Nc q.1 q.2 s := by
  have hs := flat_of_before _ hg
  exact List.forall_mem_cons.mpr ⟨va_Nc.of (hs _ (by decide +kernel)), List.forall_mem_cons.mpr ⟨va_Nc.of (hs _ (by decide +kernel)), List.forall_mem_cons.mpr ⟨va_Nc.of (hs _ (by decide +kernel)), fun _ h => absurd h List.not_mem_nil⟩⟩⟩
theorem lw_kL {args : Array Value} {s : State} (hts : ∀ w ∈ lw_tbl, w.before args s = true) (hg : (Jvm.Cond.and given_1 narrow_1).before args s = true) : ∃ (D : va_G) (cI cZ : ClassId), kL D cI cZ s := by
  obtain ⟨c0, i0, k0⟩ := u_known (C := RX0) (T := TX0) (N := 7) (n := 7) hts inX0 (hts _ (by decide +kernel))
  obtain ⟨c1, i1, k1⟩ := u_known (C := RX1) (T := TX1) (N := 5) (n := 5) hts inX1 (hts _ (by decide +kernel))
  obtain ⟨c2, i2, k2⟩ := u_known (C := RX2) (T := TX2) (N := 4) (n := 4) hts inX2 (hts _ (by decide +kernel))
  obtain ⟨c3, i3, k3⟩ := u_known (C := RX3) (T := TX3) (N := 3) (n := 3) hts inX3 (hts _ (by decide +kernel))
  obtain ⟨c4, i4, k4⟩ := u_known (C := RX4) (T := TX4) (N := 5) (n := 5) hts inX4 (hts _ (by decide +kernel))
  obtain ⟨cI, aI, nI'⟩ := arr_of (ty := .int) (hts _ (by decide +kernel))
  obtain ⟨cZ, aZ, nZ⟩ := arr_of (ty := .boolean) (hts _ (by decide +kernel))
  refine ⟨(fun c => match c with | 0 => c0 | 1 => c1 | 2 => c2 | 3 => c3 | _ => c4, fun c => match c with | 0 => i0 | 1 => i1 | 2 => i2 | 3 => i3 | _ => i4), cI, cZ, ⟨fun c q hq => ?_, fun k q hk => ?_⟩, va_Nw.of rfl (hts _ (by decide +kernel)), lw_pr hg⟩
  · rcases c with _ | _ | _ | _ | _ | c
    · cases hq; exact k0
    · cases hq; exact k1
    · cases hq; exact k2
    · cases hq; exact k3
    · cases hq; exact k4
    · cases hq
  · rcases k with _ | _ | k
    · cases hk; exact ⟨aI, nI'⟩
    · cases hk; exact ⟨aZ, nZ⟩
    · cases hk
def s0 : St := (0, 0, mkG (setR (fun _ => 0) 0 480 10) (fun _ => 0) (setR (fun _ => 0) 0 480 (-1)) (setR (fun _ => 0) 0 24 (-1)) (fun _ => 0) (fun _ => 0) (fun _ => 0) (setR (fun _ => 0) 0 3 (-1)) (fun _ => 0) (setR (fun _ => 0) 0 3 8) (fun _ => 0) (fun _ => 0) (setR (fun _ => 0) 0 480 (-1)) (setR (fun _ => 0) 0 480 2) (fun _ => 0))
theorem PI_0 : PI s0 := by
  have hm : ∀ k, setR (fun _ => 0) 0 480 (-1) k = -1 ∨ 0 ≤ setR (fun _ => 0) 0 480 (-1) k := fun k => by
    unfold setR
    split
    · exact Or.inl rfl
    · exact Or.inr (by show (0 : Int32) ≤ 0; decide)
  have h3 : ∀ b, b < 3 → setR (fun _ => 0) 0 3 (-1) b = -1 := fun b hb => by unfold setR; rw [if_pos (by omega)]
  refine ⟨⟨by decide, by decide, fun k hk => absurd hk (Nat.not_lt_zero k), ⟨fun k hk => absurd hk (Nat.not_lt_zero k), fun q hq => Or.inl ?_⟩, ⟨fun k => Or.inl rfl, fun k _ => rfl, fun b hb => Or.inl ⟨h3 b hb, rfl⟩, fun b b' hb hb' _ hn => absurd (h3 b hb) hn⟩, fun _ => Or.inl rfl, hm, hm, fun _ _ => rfl⟩, fun k => ?_, fun b => ?_, fun b => ?_, fun b hb => Or.inl (h3 b hb), fun t => ?_, fun j => ?_, rfl⟩
  · show setR (fun _ => 0) 0 24 (-1) q = -1
    unfold setR; rw [if_pos (by omega)]
  · show iR (setR (fun _ => 0) 0 480 10 k)
    unfold setR iR
    split
    · decide
    · show 0 ≤ (0 : Int32).toInt ∧ (0 : Int32).toInt ≤ 40
      decide
  · show 0 ≤ (setR (fun _ => 0) 0 3 8 b).toInt ∧ (setR (fun _ => 0) 0 3 8 b).toInt ≤ 24
    unfold setR
    split
    · decide
    · show 0 ≤ (0 : Int32).toInt ∧ (0 : Int32).toInt ≤ 24
      decide
  · show 0 ≤ (0 : Int32).toInt ∧ (0 : Int32).toInt ≤ 24 ∧ (0 : Int32).toInt ≤ (0 : Int32).toInt ∧ (0 : Int32).toInt ≤ ((0 : Nat) : Int)
    decide
  · show 0 ≤ (0 : Int32).toInt ∧ (0 : Int32).toInt ≤ 2000 * ((0 : Nat) : Int) ∧ (0 ≤ t → (0 : Int32) = 0)
    exact ⟨by decide, by decide, fun _ => rfl⟩
  · show 0 ≤ (0 : Int32).toInt ∧ (0 : Int32).toInt ≤ 24000
    decide
