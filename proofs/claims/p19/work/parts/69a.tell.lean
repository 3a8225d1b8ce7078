/-! What the law notes of an object: 64 numbers (written by program). -/
def fO (σ : St) (w : Int32) (k : Nat) : Int32 := ofV σ (nI k) w
def fB (σ : St) (b k : Nat) : Int32 := vOfBoat (σ.2.2 7) (σ.2.2 8) (σ.2.2 10) (σ.2.2 11) (cl (nI b)) (nI k)
def fF (σ : St) (k : Nat) : Int32 := fSum (fPw (σ.2.2 1 (cl (nI σ.2.1 + nI k))) (σ.2.2 4) (σ.2.2 5) (fun _ => 0) σ.1 (σ.2.2 0 (cl (nI σ.2.1 + nI k)))) σ.1
def tA (f0 f1 f2 : Nat → Int32) : Nat → (Nat → Int32)
  | 0 => fun _ => 0
  | k + 1 => upd (upd (tA f0 f1 f2 k) k (f0 k + 100 * f1 k)) (12 + k) (f2 k)
def tR (f : Nat → Nat → Int32) (r0 : Nat → Int32) (b : Nat) : Nat → (Nat → Int32)
  | 0 => r0
  | k + 1 => upd (tR f r0 b k) (24 + 4 * b + k) (f b k)
def tB (f : Nat → Nat → Int32) (r0 : Nat → Int32) : Nat → (Nat → Int32)
  | 0 => r0
  | b + 1 => tR f (tB f r0 b) b 4
def tF (f : Nat → Int32) (r0 : Nat → Int32) : Nat → (Nat → Int32)
  | 0 => r0
  | k + 1 => upd (tF f r0 k) (40 + k) (f k)
def tellV (σ : St) : Nat → Int32 := tF (fF σ) (upd (tB (fB σ) (tA (fO σ 0) (fO σ 1) (fO σ 2) 12) 3) 36 (fBrt (σ.2.2 12) (σ.2.2 13) (σ.2.2 14) σ.2.1).toInt32) 8
theorem fore_0 {h k : Nat} (hh : h + 8 ≤ 480) (hk : k < 8) : cFore h (nI h + nI k) = 0 := by
  unfold cFore
  rw [nI_add, if_pos ⟨nI_le (by omega) (by omega), nI_le (a := h + k) (b := 479) (by omega) (by decide)⟩]
theorem boat_0 {b k : Nat} (hb : b < 3) (hk : k < 4) : cOfBoat (nI b) (nI k) = 0 := by
  unfold cOfBoat
  rw [if_pos ⟨nI_pos' (by omega), nI_le (a := b) (b := 2) (by omega) (by decide)⟩, if_pos ⟨nI_pos' (by omega), nI_le (a := k) (b := 3) (by omega) (by decide)⟩]
set_option maxHeartbeats 4000000 in
set_option maxRecDepth 100000 in
theorem c_L_tell (l : Launch) (D : va_G) (a : Nat → Nat) (cI cZ : ClassId) (sz : Nat) (σ : St) (hflag : l.stackTraces = false) (I : PI σ) (hh : σ.2.1 + 8 ≤ 480) : kWR l yL_tell wsL_tell ({ frames := 8, cells := 57, slots := 400, locals := 140 }) [.ref (a 0), .int (nI σ.2.1)] D cI cZ sz (wS a cI cZ σ) (fun q => wS a cI cZ σ ++ [(q, .inl (cI, 64, .inl (tellV σ)))]) 57 400 := by
  refine Met.ofW (cc := cL_tell) (maxL := 5) (ret := (some (.array .int))) (by decide) rfl ?_
  intro p e s m args below meth c s₁ B hml hv
  obtain ⟨rfl, hsz, hP, hK, hD0, hX⟩ := hv
  have hx := B.exec
  have hb := B.bytes
  have hr := B.returns
  have hts := atoms_spec (ws := wsL_tell) B.pre
  have hown : s.vm.findClass RL = some m.cls := findClass_of_methodNamed B.named
  have hlocks := B.notSynchronized
  subst hsz
  have hD := hD0.self (sz := s.heap.size)
  generalize hAe : va_A (wS a cI cZ σ) s.heap.size = A at hD hX ⊢
  have hA : ∀ q : Nat, s.heap.size ≤ q → A q := fun q h => by rw [← hAe]; exact Or.inr h
  have hl := lv_entry ([.ref (a 0), .int (nI σ.2.1)]) (n := 5) (Nat.le_of_ble_eq_true rfl)
  rw [lg_entry_eq]
  generalize (lg_sl ([.ref (a 0), .int (nI σ.2.1)]) ++ List.replicate (5 - (lg_sl ([.ref (a 0), .int (nI σ.2.1)])).length) Slot.unset).toArray = ls at hl ⊢
  have hl : lv_has ls 5 [(0, .ref (a 0)), (1, .int (nI σ.2.1))] := hl
  have hS : va_S A s.heap s.heap [] := va_S.rf
  refine lv_bipush (v := 64) hx hb dL_tell_0 (by decide) ?_
  refine k_newI hx hb (hts (.arrayClass .int) (by decide +kernel)) hK.k hP hD hS hA 64 rfl (by decide) (Nat.le_of_ble_eq_true rfl) (Nat.le_of_ble_eq_true rfl) dL_tell_2 (fun q H hP hD hS => ?_)
  refine lv_astore_n (lv' := [(2, .ref q), (0, .ref (a 0)), (1, .int (nI σ.2.1))]) hx hb dL_tell_4 rfl hl (by decide) rfl (fun ls hl => ?_)
  refine lv_iconst (v := 0) hx hb dL_tell_5 (by decide) ?_
  refine lv_istore_n (lv' := [(3, .int 0), (2, .ref q), (0, .ref (a 0)), (1, .int (nI σ.2.1))]) hx hb dL_tell_6 rfl hl (by decide) rfl (fun ls hl => ?_)
  have seg132 : ∀ (H : Heap) (locs : List Loc) (cells slots : Nat), cells ≤ 57 → slots ≤ 400 → va_P D vwCl (wS a cI cZ σ ++ [(q, .inl (cI, 64, .inl (tellV σ)))]) H → va_D A (wS a cI cZ σ ++ [(q, .inl (cI, 64, .inl (tellV σ)))]) → va_S A s.heap H locs → ∀ (ls : Array Slot), lv_has ls 5 [(2, .ref q), (0, .ref (a 0)), (1, .int (nI σ.2.1))] → W p l e (headSpec wsL_tell ({ frames := 8, cells := 57, slots := 400, locals := 140 })).room s m ([.ref (a 0), .int (nI σ.2.1)] : List Value).toArray below meth c H locs cells slots (MQ below (va_Qr (fun _ : Unit => True) (fun _ q t => kAt D A (wS a cI cZ σ ++ [(q, .inl (cI, 64, .inl (tellV σ)))]) t) A) ([.ref (a 0), .int (nI σ.2.1)] : List Value).toArray s 57 400 A) (F0 m 132 ls []) := by
    intro H locs cells slots hc hs hP hD hS ls hl
    refine lv_aload_n hx hb dL_tell_132 rfl (lv_at hl 0 rfl) ?_
    exact W.widen (k := 57) (n := 400) hc hs (W.aret hx hb hr (Or.inr ⟨_, rfl⟩) (Or.inr ⟨q, rfl⟩) (fun t ht hW => ⟨⟨(), q, rfl, trivial, by rw [ht]; exact hP, hD⟩, hS.F ht⟩) hS.2.2 dL_tell_133 hlocks)
  generalize (MQ below (va_Qr (fun _ : Unit => True) (fun _ q t => kAt D A (wS a cI cZ σ ++ [(q, .inl (cI, 64, .inl (tellV σ)))]) t) A) ([.ref (a 0), .int (nI σ.2.1)] : List Value).toArray s 57 400 A) = Q at seg132 ⊢
  have loop107 : ∀ (nn k : Nat), 8 - k < nn → k ≤ 8 → ∀ (H : Heap) (locs : List Loc) (cells slots : Nat), cells ≤ 49 + k → slots ≤ 352 + 6 * k → va_P D vwCl (wS a cI cZ σ ++ [(q, .inl (cI, 64, .inl (tF (fF σ) (upd (tB (fB σ) (tA (fO σ 0) (fO σ 1) (fO σ 2) 12) 3) 36 (fBrt (σ.2.2 12) (σ.2.2 13) (σ.2.2 14) σ.2.1).toInt32) k)))]) H → va_D A (wS a cI cZ σ ++ [(q, .inl (cI, 64, .inl (tF (fF σ) (upd (tB (fB σ) (tA (fO σ 0) (fO σ 1) (fO σ 2) 12) 3) 36 (fBrt (σ.2.2 12) (σ.2.2 13) (σ.2.2 14) σ.2.1).toInt32) k)))]) → va_S A s.heap H locs → ∀ (ls : Array Slot), lv_has ls 5 [(3, .int (nI k)), (2, .ref q), (0, .ref (a 0)), (1, .int (nI σ.2.1))] → W p l e (headSpec wsL_tell ({ frames := 8, cells := 57, slots := 400, locals := 140 })).room s m ([.ref (a 0), .int (nI σ.2.1)] : List Value).toArray below meth c H locs cells slots Q (F0 m 107 ls []) := by
    intro nn
    induction nn with
    | zero => intro k h; omega
    | succ nn ih =>
      intro k hm hk H locs cells slots hc hs hP hD hS ls hl
      refine lv_iload_n hx hb dL_tell_107 rfl (lv_at hl 0 rfl) ?_
      refine lv_bipush (v := 8) hx hb dL_tell_108 (by decide) ?_
      refine lv_icmp_ge (tgt := 132) hx hb dL_tell_110 (by decide) (fun c1 => ?_) (fun c1 => ?_)
      · have c2 : 8 ≤ k := (nI_leI (a := 8) (b := k) (by decide) (by omega)).mp c1
        obtain rfl : k = 8 := by omega
        exact seg132 H locs cells slots (by omega) (by omega) hP hD hS ls (lv_sub hl [1, 2, 3] rfl)
      · have c2 : k < 8 := Nat.lt_of_not_le (fun z => c1 (nI_le (a := 8) (b := k) z (by omega)))
        refine lv_aload_n hx hb dL_tell_113 rfl (lv_at hl 1 rfl) ?_
        refine lv_bipush (v := 40) hx hb dL_tell_114 (by decide) ?_
        refine lv_iload_n hx hb dL_tell_116 rfl (lv_at hl 0 rfl) ?_
        refine lv_iadd hx hb dL_tell_117 ?_
        refine lv_aload_n hx hb dL_tell_118 rfl (lv_at hl 2 rfl) ?_
        refine lv_iload_n hx hb dL_tell_119 rfl (lv_at hl 3 rfl) ?_
        refine lv_iload_n hx hb dL_tell_120 rfl (lv_at hl 0 rfl) ?_
        refine lv_iadd hx hb dL_tell_121 ?_
        refine k_xi0 (As := [.int (nI σ.2.1 + nI k)]) (rest := [.int (40 + (nI k)), .ref q]) (nL := 5) (WR := [(q, .inl (cI, 64, .inl (tF (fF σ) (upd (tB (fB σ) (tA (fO σ 0) (fO σ 1) (fO σ 2) 12) 3) 36 (fBrt (σ.2.2 12) (σ.2.2 13) (σ.2.2 14) σ.2.1).toInt32) k)))]) ⟨hx, hb, hml, hown, hts⟩ hK hX hP hD hS hA (c_X4_foretold l D a cI cZ _ (σ.2.2 0) (σ.2.2 1) (σ.2.2 2) (σ.2.2 3) (σ.2.2 4) (σ.2.2 5) (fun _ => 0) (σ.2.2 6) (fSum (σ.2.2 5) σ.1) (σ.2.2 7) (σ.2.2 8) (σ.2.2 9) (σ.2.2 10) (σ.2.2 11) (σ.2.2 12) (σ.2.2 13) (σ.2.2 14) (fBrt (σ.2.2 12) (σ.2.2 13) (σ.2.2 14) σ.2.1) σ.1 σ.2.1 (nI σ.2.1 + nI k) hflag I.n I.h I.pl I.we) (fore_0 (by omega) (by omega)) [0, 1, 2, 3, 4, 5, 6, 7, 8, 9, 10, 11, 12, 13, 14, 15, 16, 17, 18, 19, 20] [21] [1, 2, 3, 4, 5, 6, 7, 8, 9, 10, 11, 12, 13, 14, 15, 16, 17, 18, 19, 20, 21, 0] rfl rfl rfl rfl rfl (by decide) rfl rfl rfl 0 rfl rfl rfl (cwV 1 hts gL_tell_X4_foretold rfl rfl rfl (by decide +kernel) ⟨Nat.le_of_ble_eq_true rfl, Nat.le_of_ble_eq_true rfl⟩) rfl hl.1 rfl (Nat.le_of_ble_eq_true rfl) dL_tell_122 ⟨show cells + 1 ≤ 57 by omega, show slots + 6 ≤ 400 by omega⟩ (fun r9 H locs hr9 hP hD hS => ?_)
        subst hr9
        refine k_iast hx hb hK.1 hP hD hS 21 0 rfl rfl (40 + k) (nI_add 40 k) (by omega) (by decide) dL_tell_125 (fun H locs hP hD hS => ?_)
        have hP : va_P D vwCl (wS a cI cZ σ ++ [(q, .inl (cI, 64, .inl (tF (fF σ) (upd (tB (fB σ) (tA (fO σ 0) (fO σ 1) (fO σ 2) 12) 3) 36 (fBrt (σ.2.2 12) (σ.2.2 13) (σ.2.2 14) σ.2.1).toInt32) (k + 1))))]) H := hP
        have hD : va_D A (wS a cI cZ σ ++ [(q, .inl (cI, 64, .inl (tF (fF σ) (upd (tB (fB σ) (tA (fO σ 0) (fO σ 1) (fO σ 2) 12) 3) 36 (fBrt (σ.2.2 12) (σ.2.2 13) (σ.2.2 14) σ.2.1).toInt32) (k + 1))))]) := hD
        refine lv_iinc (v := nI (k + 1)) (lv' := [(3, .int (nI (k + 1))), (2, .ref q), (0, .ref (a 0)), (1, .int (nI σ.2.1))]) hx hb dL_tell_126 hl (k := 0) rfl (nI_1 _) (by decide) rfl (fun ls hl => ?_)
        refine lv_goto (tgt := 107) hx hb dL_tell_129 (by decide) ?_
        exact ih (k + 1) (by omega) (by omega) H locs (cells + 1) (slots + 6) (by omega) (by omega) hP hD hS ls hl
  have seg96 : ∀ (H : Heap) (locs : List Loc) (cells slots : Nat), cells ≤ 49 → slots ≤ 352 → va_P D vwCl (wS a cI cZ σ ++ [(q, .inl (cI, 64, .inl (tB (fB σ) (tA (fO σ 0) (fO σ 1) (fO σ 2) 12) 3)))]) H → va_D A (wS a cI cZ σ ++ [(q, .inl (cI, 64, .inl (tB (fB σ) (tA (fO σ 0) (fO σ 1) (fO σ 2) 12) 3)))]) → va_S A s.heap H locs → ∀ (ls : Array Slot), lv_has ls 5 [(2, .ref q), (0, .ref (a 0)), (1, .int (nI σ.2.1))] → W p l e (headSpec wsL_tell ({ frames := 8, cells := 57, slots := 400, locals := 140 })).room s m ([.ref (a 0), .int (nI σ.2.1)] : List Value).toArray below meth c H locs cells slots Q (F0 m 96 ls []) := by
    intro H locs cells slots hc hs hP hD hS ls hl
    refine lv_aload_n hx hb dL_tell_96 rfl (lv_at hl 0 rfl) ?_
    refine lv_bipush (v := 36) hx hb dL_tell_97 (by decide) ?_
    refine lv_aload_n hx hb dL_tell_99 rfl (lv_at hl 1 rfl) ?_
    refine k_rdl (As := []) (rest := [.int 36, .ref q]) (nL := 5) ⟨hx, hb, hml, hown, hts⟩ hK.k hP (c_X4_brought l D a cI cZ (σ.2.2 0) (σ.2.2 1) (σ.2.2 2) (σ.2.2 3) (σ.2.2 4) (σ.2.2 5) (fun _ => 0) (σ.2.2 6) (fSum (σ.2.2 5) σ.1) (σ.2.2 7) (σ.2.2 8) (σ.2.2 9) (σ.2.2 10) (σ.2.2 11) (σ.2.2 12) (σ.2.2 13) (σ.2.2 14) (fBrt (σ.2.2 12) (σ.2.2 13) (σ.2.2 14) σ.2.1) σ.1 σ.2.1) [0, 1, 2, 3, 4, 5, 6, 7, 8, 9, 10, 11, 12, 13, 14, 15, 16, 17, 18, 19, 20] rfl 0 rfl rfl rfl (cwV 0 hts gL_tell_X4_brought rfl rfl rfl (by decide +kernel) ⟨Nat.le_of_ble_eq_true rfl, Nat.le_of_ble_eq_true rfl⟩) rfl hl.1 rfl (Nat.le_of_ble_eq_true rfl) dL_tell_100 ⟨show cells ≤ 57 by omega, show slots ≤ 400 by omega⟩ (fun r9 hr9 => ?_)
    subst hr9
    refine lv_l2i hx hb dL_tell_103 rfl ?_
    refine k_iast hx hb hK.1 hP hD hS 21 0 rfl rfl 36 rfl (by decide) (by decide) dL_tell_104 (fun H locs hP hD hS => ?_)
    have hP : va_P D vwCl (wS a cI cZ σ ++ [(q, .inl (cI, 64, .inl (tF (fF σ) (upd (tB (fB σ) (tA (fO σ 0) (fO σ 1) (fO σ 2) 12) 3) 36 (fBrt (σ.2.2 12) (σ.2.2 13) (σ.2.2 14) σ.2.1).toInt32) 0)))]) H := hP
    have hD : va_D A (wS a cI cZ σ ++ [(q, .inl (cI, 64, .inl (tF (fF σ) (upd (tB (fB σ) (tA (fO σ 0) (fO σ 1) (fO σ 2) 12) 3) 36 (fBrt (σ.2.2 12) (σ.2.2 13) (σ.2.2 14) σ.2.1).toInt32) 0)))]) := hD
    refine lv_iconst (v := 0) hx hb dL_tell_105 (by decide) ?_
    refine lv_istore_n (lv' := [(3, .int 0), (2, .ref q), (0, .ref (a 0)), (1, .int (nI σ.2.1))]) hx hb dL_tell_106 rfl hl (by decide) rfl (fun ls hl => ?_)
    exact loop107 9 0 (by omega) (by omega) H locs cells slots (by omega) (by omega) hP hD hS ls hl
  have loop60 : ∀ (b : Nat), b < 3 → (∀ (H : Heap) (locs : List Loc) (cells slots : Nat), cells ≤ 37 + 4 * b + 4 → slots ≤ 280 + 24 * b + 24 → va_P D vwCl (wS a cI cZ σ ++ [(q, .inl (cI, 64, .inl (tR (fB σ) (tB (fB σ) (tA (fO σ 0) (fO σ 1) (fO σ 2) 12) b) b 4)))]) H → va_D A (wS a cI cZ σ ++ [(q, .inl (cI, 64, .inl (tR (fB σ) (tB (fB σ) (tA (fO σ 0) (fO σ 1) (fO σ 2) 12) b) b 4)))]) → va_S A s.heap H locs → ∀ (ls : Array Slot), lv_has ls 5 [(3, .int (nI b)), (2, .ref q), (0, .ref (a 0)), (1, .int (nI σ.2.1))] → W p l e (headSpec wsL_tell ({ frames := 8, cells := 57, slots := 400, locals := 140 })).room s m ([.ref (a 0), .int (nI σ.2.1)] : List Value).toArray below meth c H locs cells slots Q (F0 m 90 ls [])) → ∀ (nn k : Nat), 4 - k < nn → k ≤ 4 → ∀ (H : Heap) (locs : List Loc) (cells slots : Nat), cells ≤ 37 + 4 * b + k → slots ≤ 280 + 24 * b + 6 * k → va_P D vwCl (wS a cI cZ σ ++ [(q, .inl (cI, 64, .inl (tR (fB σ) (tB (fB σ) (tA (fO σ 0) (fO σ 1) (fO σ 2) 12) b) b k)))]) H → va_D A (wS a cI cZ σ ++ [(q, .inl (cI, 64, .inl (tR (fB σ) (tB (fB σ) (tA (fO σ 0) (fO σ 1) (fO σ 2) 12) b) b k)))]) → va_S A s.heap H locs → ∀ (ls : Array Slot), lv_has ls 5 [(4, .int (nI k)), (3, .int (nI b)), (2, .ref q), (0, .ref (a 0)), (1, .int (nI σ.2.1))] → W p l e (headSpec wsL_tell ({ frames := 8, cells := 57, slots := 400, locals := 140 })).room s m ([.ref (a 0), .int (nI σ.2.1)] : List Value).toArray below meth c H locs cells slots Q (F0 m 60 ls []) := by
    intro b hb3 K nn
    induction nn with
    | zero => intro k h; omega
    | succ nn ih =>
      intro k hm hk H locs cells slots hc hs hP hD hS ls hl
      refine lv_iload hx hb dL_tell_60 (lv_at hl 0 rfl) ?_
      refine lv_iconst (v := 4) hx hb dL_tell_62 (by decide) ?_
      refine lv_icmp_ge (tgt := 90) hx hb dL_tell_63 (by decide) (fun c1 => ?_) (fun c1 => ?_)
      · have c2 : 4 ≤ k := (nI_leI (a := 4) (b := k) (by decide) (by omega)).mp c1
        obtain rfl : k = 4 := by omega
        exact K H locs cells slots (by omega) (by omega) hP hD hS ls (lv_sub hl [1, 2, 3, 4] rfl)
      · have c2 : k < 4 := Nat.lt_of_not_le (fun z => c1 (nI_le (a := 4) (b := k) z (by omega)))
        refine lv_aload_n hx hb dL_tell_66 rfl (lv_at hl 2 rfl) ?_
        refine lv_bipush (v := 24) hx hb dL_tell_67 (by decide) ?_
        refine lv_iconst (v := 4) hx hb dL_tell_69 (by decide) ?_
        refine lv_iload_n hx hb dL_tell_70 rfl (lv_at hl 1 rfl) ?_
        refine lv_imul hx hb dL_tell_71 ?_
        refine lv_iadd hx hb dL_tell_72 ?_
        refine lv_iload hx hb dL_tell_73 (lv_at hl 0 rfl) ?_
        refine lv_iadd hx hb dL_tell_75 ?_
        refine lv_aload_n hx hb dL_tell_76 rfl (lv_at hl 3 rfl) ?_
        refine lv_iload_n hx hb dL_tell_77 rfl (lv_at hl 1 rfl) ?_
        refine lv_iload hx hb dL_tell_78 (lv_at hl 0 rfl) ?_
        refine k_xi0 (As := [.int (nI b), .int (nI k)]) (rest := [.int ((24 + (4 * (nI b))) + (nI k)), .ref q]) (nL := 5) (WR := [(q, .inl (cI, 64, .inl (tR (fB σ) (tB (fB σ) (tA (fO σ 0) (fO σ 1) (fO σ 2) 12) b) b k)))]) ⟨hx, hb, hml, hown, hts⟩ hK hX hP hD hS hA (c_X4_ofBoat l D a cI cZ _ (σ.2.2 0) (σ.2.2 1) (σ.2.2 2) (σ.2.2 3) (σ.2.2 4) (σ.2.2 5) (fun _ => 0) (σ.2.2 6) (fSum (σ.2.2 5) σ.1) (σ.2.2 7) (σ.2.2 8) (σ.2.2 9) (σ.2.2 10) (σ.2.2 11) (σ.2.2 12) (σ.2.2 13) (σ.2.2 14) (fBrt (σ.2.2 12) (σ.2.2 13) (σ.2.2 14) σ.2.1) σ.1 σ.2.1 (nI b) (nI k) hflag I.n I.h) (boat_0 hb3 c2) [0, 1, 2, 3, 4, 5, 6, 7, 8, 9, 10, 11, 12, 13, 14, 15, 16, 17, 18, 19, 20] [21] [1, 2, 3, 4, 5, 6, 7, 8, 9, 10, 11, 12, 13, 14, 15, 16, 17, 18, 19, 20, 21, 0] rfl rfl rfl rfl rfl (by decide) rfl rfl rfl 0 rfl rfl rfl (cwV 2 hts gL_tell_X4_ofBoat rfl rfl rfl (by decide +kernel) ⟨Nat.le_of_ble_eq_true rfl, Nat.le_of_ble_eq_true rfl⟩) rfl hl.1 rfl (Nat.le_of_ble_eq_true rfl) dL_tell_80 ⟨show cells + 1 ≤ 57 by omega, show slots + 6 ≤ 400 by omega⟩ (fun r9 H locs hr9 hP hD hS => ?_)
        subst hr9
        refine k_iast hx hb hK.1 hP hD hS 21 0 rfl rfl (24 + 4 * b + k) (by rw [show (4 : Int32) * nI b = nI (4 * b) from pk_mul 4 b, show (24 : Int32) + nI (4 * b) = nI (24 + 4 * b) from nI_add 24 _, nI_add]) (by omega) (by decide) dL_tell_83 (fun H locs hP hD hS => ?_)
        have hP : va_P D vwCl (wS a cI cZ σ ++ [(q, .inl (cI, 64, .inl (tR (fB σ) (tB (fB σ) (tA (fO σ 0) (fO σ 1) (fO σ 2) 12) b) b (k + 1))))]) H := hP
        have hD : va_D A (wS a cI cZ σ ++ [(q, .inl (cI, 64, .inl (tR (fB σ) (tB (fB σ) (tA (fO σ 0) (fO σ 1) (fO σ 2) 12) b) b (k + 1))))]) := hD
        refine lv_iinc (v := nI (k + 1)) (lv' := [(4, .int (nI (k + 1))), (3, .int (nI b)), (2, .ref q), (0, .ref (a 0)), (1, .int (nI σ.2.1))]) hx hb dL_tell_84 hl (k := 0) rfl (nI_1 _) (by decide) rfl (fun ls hl => ?_)
        refine lv_goto (tgt := 60) hx hb dL_tell_87 (by decide) ?_
        exact ih (k + 1) (by omega) (by omega) H locs (cells + 1) (slots + 6) (by omega) (by omega) hP hD hS ls hl
  have loop52 : ∀ (nn b : Nat), 3 - b < nn → b ≤ 3 → ∀ (H : Heap) (locs : List Loc) (cells slots : Nat), cells ≤ 37 + 4 * b → slots ≤ 280 + 24 * b → va_P D vwCl (wS a cI cZ σ ++ [(q, .inl (cI, 64, .inl (tB (fB σ) (tA (fO σ 0) (fO σ 1) (fO σ 2) 12) b)))]) H → va_D A (wS a cI cZ σ ++ [(q, .inl (cI, 64, .inl (tB (fB σ) (tA (fO σ 0) (fO σ 1) (fO σ 2) 12) b)))]) → va_S A s.heap H locs → ∀ (ls : Array Slot), lv_has ls 5 [(3, .int (nI b)), (2, .ref q), (0, .ref (a 0)), (1, .int (nI σ.2.1))] → W p l e (headSpec wsL_tell ({ frames := 8, cells := 57, slots := 400, locals := 140 })).room s m ([.ref (a 0), .int (nI σ.2.1)] : List Value).toArray below meth c H locs cells slots Q (F0 m 52 ls []) := by
    intro nn
    induction nn with
    | zero => intro b h; omega
    | succ nn ih =>
      intro b hm hk H locs cells slots hc hs hP hD hS ls hl
      refine lv_iload_n hx hb dL_tell_52 rfl (lv_at hl 0 rfl) ?_
      refine lv_iconst (v := 3) hx hb dL_tell_53 (by decide) ?_
      refine lv_icmp_ge (tgt := 96) hx hb dL_tell_54 (by decide) (fun c1 => ?_) (fun c1 => ?_)
      · have c2 : 3 ≤ b := (nI_leI (a := 3) (b := b) (by decide) (by omega)).mp c1
        obtain rfl : b = 3 := by omega
        exact seg96 H locs cells slots (by omega) (by omega) hP hD hS ls (lv_sub hl [1, 2, 3] rfl)
      · have c2 : b < 3 := Nat.lt_of_not_le (fun z => c1 (nI_le (a := 3) (b := b) z (by omega)))
        refine lv_iconst (v := 0) hx hb dL_tell_57 (by decide) ?_
        refine lv_istore (lv' := [(4, .int 0), (3, .int (nI b)), (2, .ref q), (0, .ref (a 0)), (1, .int (nI σ.2.1))]) hx hb dL_tell_58 hl (by decide) rfl (fun ls hl => ?_)
        refine loop60 b c2 (fun H locs cells slots hc hs hP hD hS ls hl => ?_) 5 0 (by omega) (by omega) H locs cells slots (by omega) (by omega) hP hD hS ls hl
        refine lv_iinc (v := nI (b + 1)) (lv' := [(3, .int (nI (b + 1))), (2, .ref q), (0, .ref (a 0)), (1, .int (nI σ.2.1))]) hx hb dL_tell_90 hl (k := 0) rfl (nI_1 _) (by decide) rfl (fun ls hl => ?_)
        refine lv_goto (tgt := 52) hx hb dL_tell_93 (by decide) ?_
        exact ih (b + 1) (by omega) (by omega) H locs cells slots (by omega) (by omega) hP hD hS ls hl
  have loop7 : ∀ (nn k : Nat), 12 - k < nn → k ≤ 12 → ∀ (H : Heap) (locs : List Loc) (cells slots : Nat), cells ≤ 1 + 3 * k → slots ≤ 64 + 18 * k → va_P D vwCl (wS a cI cZ σ ++ [(q, .inl (cI, 64, .inl (tA (fO σ 0) (fO σ 1) (fO σ 2) k)))]) H → va_D A (wS a cI cZ σ ++ [(q, .inl (cI, 64, .inl (tA (fO σ 0) (fO σ 1) (fO σ 2) k)))]) → va_S A s.heap H locs → ∀ (ls : Array Slot), lv_has ls 5 [(3, .int (nI k)), (2, .ref q), (0, .ref (a 0)), (1, .int (nI σ.2.1))] → W p l e (headSpec wsL_tell ({ frames := 8, cells := 57, slots := 400, locals := 140 })).room s m ([.ref (a 0), .int (nI σ.2.1)] : List Value).toArray below meth c H locs cells slots Q (F0 m 7 ls []) := by
    intro nn
    induction nn with
    | zero => intro k h; omega
    | succ nn ih =>
      intro k hm hk H locs cells slots hc hs hP hD hS ls hl
      refine lv_iload_n hx hb dL_tell_7 rfl (lv_at hl 0 rfl) ?_
      refine lv_bipush (v := 12) hx hb dL_tell_8 (by decide) ?_
      refine lv_icmp_ge (tgt := 50) hx hb dL_tell_10 (by decide) (fun c1 => ?_) (fun c1 => ?_)
      · have c2 : 12 ≤ k := (nI_leI (a := 12) (b := k) (by decide) (by omega)).mp c1
        obtain rfl : k = 12 := by omega
        refine lv_iconst (v := 0) hx hb dL_tell_50 (by decide) ?_
        refine lv_istore_n (lv' := [(3, .int 0), (2, .ref q), (0, .ref (a 0)), (1, .int (nI σ.2.1))]) hx hb dL_tell_51 rfl hl (by decide) rfl (fun ls hl => ?_)
        exact loop52 4 0 (by omega) (by omega) H locs cells slots (by omega) (by omega) hP hD hS ls hl
      · have c2 : k < 12 := Nat.lt_of_not_le (fun z => c1 (nI_le (a := 12) (b := k) z (by omega)))
        refine lv_aload_n hx hb dL_tell_13 rfl (lv_at hl 1 rfl) ?_
        refine lv_iload_n hx hb dL_tell_14 rfl (lv_at hl 0 rfl) ?_
        refine lv_aload_n hx hb dL_tell_15 rfl (lv_at hl 2 rfl) ?_
        refine lv_iload_n hx hb dL_tell_16 rfl (lv_at hl 0 rfl) ?_
        refine lv_iconst (v := 0) hx hb dL_tell_17 (by decide) ?_
        refine k_leW (As := [.ref (a 0), .int (nI k), .int 0]) (rest := [.int (nI k), .ref q]) (nL := 5) (WR := [(q, .inl (cI, 64, .inl (tA (fO σ 0) (fO σ 1) (fO σ 2) k)))]) (WNf := fun _ => wS a cI cZ σ ++ [(q, .inl (cI, 64, .inl (tA (fO σ 0) (fO σ 1) (fO σ 2) k)))]) ⟨hx, hb, hml, hown, hts⟩ hK hX hP hD hS hA (c_L_of l D a cI cZ _ σ (nI k) 0 hflag I (by decide)) [0, 1, 2, 3, 4, 5, 6, 7, 8, 9, 10, 11, 12, 13, 14, 15, 16, 17, 18, 19, 20] [21] [1, 2, 3, 4, 5, 6, 7, 8, 9, 10, 11, 12, 13, 14, 15, 16, 17, 18, 19, 20, 21, 0] rfl rfl rfl rfl rfl (by decide) (fun _ => rfl) (fun _ => rfl) rfl (vx_cwSW (hh := [(0, 6, 7, 36)]) 3 hts gL_tell_L_of rfl rfl rfl (by decide +kernel) ⟨Nat.le_of_ble_eq_true rfl, Nat.le_of_ble_eq_true rfl⟩) rfl hl.1 rfl (Nat.le_of_ble_eq_true rfl) dL_tell_18 ⟨show cells + 1 ≤ 57 by omega, show slots + 6 ≤ 400 by omega⟩ (fun r9 _ H locs hr9 hP hD hS => ?_)
        subst hr9
        refine lv_bipush (v := 100) hx hb dL_tell_21 (by decide) ?_
        refine lv_aload_n hx hb dL_tell_23 rfl (lv_at hl 2 rfl) ?_
        refine lv_iload_n hx hb dL_tell_24 rfl (lv_at hl 0 rfl) ?_
        refine lv_iconst (v := 1) hx hb dL_tell_25 (by decide) ?_
        refine k_leW (As := [.ref (a 0), .int (nI k), .int 1]) (rest := [.int 100, .int (ofV σ (nI k) 0), .int (nI k), .ref q]) (nL := 5) (WR := [(q, .inl (cI, 64, .inl (tA (fO σ 0) (fO σ 1) (fO σ 2) k)))]) (WNf := fun _ => wS a cI cZ σ ++ [(q, .inl (cI, 64, .inl (tA (fO σ 0) (fO σ 1) (fO σ 2) k)))]) ⟨hx, hb, hml, hown, hts⟩ hK hX hP hD hS hA (c_L_of l D a cI cZ _ σ (nI k) 1 hflag I (by decide)) [0, 1, 2, 3, 4, 5, 6, 7, 8, 9, 10, 11, 12, 13, 14, 15, 16, 17, 18, 19, 20] [21] [1, 2, 3, 4, 5, 6, 7, 8, 9, 10, 11, 12, 13, 14, 15, 16, 17, 18, 19, 20, 21, 0] rfl rfl rfl rfl rfl (by decide) (fun _ => rfl) (fun _ => rfl) rfl (vx_cwSW (hh := [(0, 6, 7, 36)]) 3 hts gL_tell_L_of rfl rfl rfl (by decide +kernel) ⟨Nat.le_of_ble_eq_true rfl, Nat.le_of_ble_eq_true rfl⟩) rfl hl.1 rfl (Nat.le_of_ble_eq_true rfl) dL_tell_26 ⟨show cells + 1 + 1 ≤ 57 by omega, show slots + 6 + 6 ≤ 400 by omega⟩ (fun r9 _ H locs hr9 hP hD hS => ?_)
        subst hr9
        refine lv_imul hx hb dL_tell_29 ?_
        refine lv_iadd hx hb dL_tell_30 ?_
        refine k_iast hx hb hK.1 hP hD hS 21 0 rfl rfl k rfl (by omega) (by decide) dL_tell_31 (fun H locs hP hD hS => ?_)
        have hP : va_P D vwCl (wS a cI cZ σ ++ [(q, .inl (cI, 64, .inl (upd (tA (fO σ 0) (fO σ 1) (fO σ 2) k) k (fO σ 0 k + 100 * fO σ 1 k))))]) H := hP
        have hD : va_D A (wS a cI cZ σ ++ [(q, .inl (cI, 64, .inl (upd (tA (fO σ 0) (fO σ 1) (fO σ 2) k) k (fO σ 0 k + 100 * fO σ 1 k))))]) := hD
        refine lv_aload_n hx hb dL_tell_32 rfl (lv_at hl 1 rfl) ?_
        refine lv_bipush (v := 12) hx hb dL_tell_33 (by decide) ?_
        refine lv_iload_n hx hb dL_tell_35 rfl (lv_at hl 0 rfl) ?_
        refine lv_iadd hx hb dL_tell_36 ?_
        refine lv_aload_n hx hb dL_tell_37 rfl (lv_at hl 2 rfl) ?_
        refine lv_iload_n hx hb dL_tell_38 rfl (lv_at hl 0 rfl) ?_
        refine lv_iconst (v := 2) hx hb dL_tell_39 (by decide) ?_
        refine k_leW (As := [.ref (a 0), .int (nI k), .int 2]) (rest := [.int (12 + (nI k)), .ref q]) (nL := 5) (WR := [(q, .inl (cI, 64, .inl (upd (tA (fO σ 0) (fO σ 1) (fO σ 2) k) k (fO σ 0 k + 100 * fO σ 1 k))))]) (WNf := fun _ => wS a cI cZ σ ++ [(q, .inl (cI, 64, .inl (upd (tA (fO σ 0) (fO σ 1) (fO σ 2) k) k (fO σ 0 k + 100 * fO σ 1 k))))]) ⟨hx, hb, hml, hown, hts⟩ hK hX hP hD hS hA (c_L_of l D a cI cZ _ σ (nI k) 2 hflag I (by decide)) [0, 1, 2, 3, 4, 5, 6, 7, 8, 9, 10, 11, 12, 13, 14, 15, 16, 17, 18, 19, 20] [21] [1, 2, 3, 4, 5, 6, 7, 8, 9, 10, 11, 12, 13, 14, 15, 16, 17, 18, 19, 20, 21, 0] rfl rfl rfl rfl rfl (by decide) (fun _ => rfl) (fun _ => rfl) rfl (vx_cwSW (hh := [(0, 6, 7, 36)]) 3 hts gL_tell_L_of rfl rfl rfl (by decide +kernel) ⟨Nat.le_of_ble_eq_true rfl, Nat.le_of_ble_eq_true rfl⟩) rfl hl.1 rfl (Nat.le_of_ble_eq_true rfl) dL_tell_40 ⟨show cells + 1 + 1 + 1 ≤ 57 by omega, show slots + 6 + 6 + 6 ≤ 400 by omega⟩ (fun r9 _ H locs hr9 hP hD hS => ?_)
        subst hr9
        refine k_iast hx hb hK.1 hP hD hS 21 0 rfl rfl (12 + k) (nI_add 12 k) (by omega) (by decide) dL_tell_43 (fun H locs hP hD hS => ?_)
        have hP : va_P D vwCl (wS a cI cZ σ ++ [(q, .inl (cI, 64, .inl (tA (fO σ 0) (fO σ 1) (fO σ 2) (k + 1))))]) H := hP
        have hD : va_D A (wS a cI cZ σ ++ [(q, .inl (cI, 64, .inl (tA (fO σ 0) (fO σ 1) (fO σ 2) (k + 1))))]) := hD
        refine lv_iinc (v := nI (k + 1)) (lv' := [(3, .int (nI (k + 1))), (2, .ref q), (0, .ref (a 0)), (1, .int (nI σ.2.1))]) hx hb dL_tell_44 hl (k := 0) rfl (nI_1 _) (by decide) rfl (fun ls hl => ?_)
        refine lv_goto (tgt := 7) hx hb dL_tell_47 (by decide) ?_
        exact ih (k + 1) (by omega) (by omega) H locs (cells + 1 + 1 + 1) (slots + 6 + 6 + 6) (by omega) (by omega) hP hD hS ls hl
  exact loop7 13 0 (by omega) (by omega) H [] _ _ (by omega) (by omega) hP hD hS ls hl
