/-! The law's body, piece by piece (written by program). -/
set_option maxHeartbeats 4000000 in
set_option maxRecDepth 100000 in
theorem law_look {p : Program} {l : Launch} {e : Env} {s : State} {m : MethodId} {below : List Frame} {meth : Method} {c : Code} {Q : State → Prop} {sb L : Nat} {xs : Nat → Int32} {D : va_G} {cI cZ : ClassId} {a : Nat → Nat} (E : LH p l s m c sb L xs D cI cZ) {i cb sb9 : Nat} (hcb : cb + 2937 ≤ 759212) (hsb : sb9 + 17622 ≤ 6823987) (K : ∀ (σ : St) (lk : Int32) (H : Heap) (locs : List Loc) (cells slots : Nat) (ls : Array Slot), cells ≤ cb + 2937 → slots ≤ sb9 + 17622 → PI σ → σ.2.1 ≤ 8 * (i + 1) → va_P D vwCl (wS a cI cZ σ) H → va_D (lA s) (wS a cI cZ σ) → va_S (lA s) s.heap H locs → lv_has ls 10 [(2, .int (nI σ.2.1)), (4, .int (nI i)), (3, .int lk), (1, .ref (a 0)), (0, .ref sb)] → W p l e room_1 s m #[.ref sb] below meth c H locs cells slots Q (F0 m 202 ls [])) : ∀ (σ : St) (lk x : Int32) (H : Heap) (locs : List Loc) (cells slots : Nat) (ls : Array Slot), cells ≤ cb → slots ≤ sb9 → PI σ → σ.2.1 ≤ 8 * (i + 1) → va_P D vwCl (wS a cI cZ σ) H → va_D (lA s) (wS a cI cZ σ) → va_S (lA s) s.heap H locs → lv_has ls 10 [(2, .int (nI σ.2.1)), (5, .int x), (4, .int (nI i)), (3, .int lk), (1, .ref (a 0)), (0, .ref sb)] → W p l e room_1 s m #[.ref sb] below meth c H locs cells slots Q (F0 m 152 ls []) := by
  obtain ⟨hx, hb, hml, hown, hts, hXs, hbl, hK, hX, hfl, hL⟩ := E
  have hA : ∀ q : Nat, s.heap.size ≤ q → lA s q := fun _ h => h
  intro σ lk x H locs cells slots ls hc hs I hh hP hD hS hl
  have K172 : ∀ (v : Int32), v = 0 ∨ v = 1 → W p l e room_1 s m #[.ref sb] below meth c H locs cells slots Q (F0 m 172 ls [.int v]) := by
    intro v hv
    rcases hv with rfl | rfl
    · refine lv_istore (lv' := [(8, .int 0), (2, .int (nI σ.2.1)), (5, .int x), (4, .int (nI i)), (3, .int lk), (1, .ref (a 0)), (0, .ref sb)]) hx hb dL_law_172 hl (by decide) rfl (fun ls hl => ?_)
      refine lv_iload_n hx hb dL_law_174 rfl (lv_at hl 4 rfl) ?_
      refine lv_iload hx hb dL_law_175 (lv_at hl 0 rfl) ?_
      refine lv_if_eq (tgt := 184) hx hb dL_law_177 (by decide) (fun _ => ?_) (fun q => absurd rfl q)
      refine lv_iconst (v := 0) hx hb dL_law_184 (by decide) ?_
      refine lv_iadd hx hb dL_law_185 ?_
      refine lv_istore_n (lv' := [(3, .int (lk + 0)), (8, .int 0), (2, .int (nI σ.2.1)), (5, .int x), (4, .int (nI i)), (1, .ref (a 0)), (0, .ref sb)]) hx hb dL_law_186 rfl hl (by decide) rfl (fun ls hl => ?_)
      refine lv_iload hx hb dL_law_187 (lv_at hl 1 rfl) ?_
      refine lv_if_eq (tgt := 202) hx hb dL_law_189 (by decide) (fun _ => ?_) (fun q => absurd rfl q)
      exact K σ (lk + 0) H locs cells slots ls (by omega) (by omega) I hh hP hD hS (lv_sub hl [2, 4, 0, 5, 6] rfl)
    · refine lv_istore (lv' := [(8, .int 1), (2, .int (nI σ.2.1)), (5, .int x), (4, .int (nI i)), (3, .int lk), (1, .ref (a 0)), (0, .ref sb)]) hx hb dL_law_172 hl (by decide) rfl (fun ls hl => ?_)
      refine lv_iload_n hx hb dL_law_174 rfl (lv_at hl 4 rfl) ?_
      refine lv_iload hx hb dL_law_175 (lv_at hl 0 rfl) ?_
      refine lv_if_eq (tgt := 184) hx hb dL_law_177 (by decide) (fun q => absurd q (by decide)) (fun _ => ?_)
      refine lv_iconst (v := 1) hx hb dL_law_180 (by decide) ?_
      refine lv_goto (tgt := 185) hx hb dL_law_181 (by decide) ?_
      refine lv_iadd hx hb dL_law_185 ?_
      refine lv_istore_n (lv' := [(3, .int (lk + 1)), (8, .int 1), (2, .int (nI σ.2.1)), (5, .int x), (4, .int (nI i)), (1, .ref (a 0)), (0, .ref sb)]) hx hb dL_law_186 rfl hl (by decide) rfl (fun ls hl => ?_)
      refine lv_iload hx hb dL_law_187 (lv_at hl 1 rfl) ?_
      refine lv_if_eq (tgt := 202) hx hb dL_law_189 (by decide) (fun q => absurd q (by decide)) (fun _ => ?_)
      refine lv_aload_n hx hb dL_law_192 rfl (lv_at hl 5 rfl) ?_
      refine lv_iload_n hx hb dL_law_193 rfl (lv_at hl 2 rfl) ?_
      refine k_leS (As := [.ref (a 0), .int (nI σ.2.1)]) (rest := []) (nL := 10) (WR := ([] : va_W)) (WNf := fun _ => wS a cI cZ σ) ⟨hx, hb, hml, hown, hts⟩ hK hX hP hD hS hA (c_L_asks l D a cI cZ _ σ hfl I) [0, 1, 2, 3, 4, 5, 6, 7, 8, 9, 10, 11, 12, 13, 14, 15, 16, 17, 18, 19, 20] [] [0, 1, 2, 3, 4, 5, 6, 7, 8, 9, 10, 11, 12, 13, 14, 15, 16, 17, 18, 19, 20] rfl rfl rfl rfl rfl (by decide) (fun _ => rfl) (fun _ => rfl) rfl (va_cwS 2 hts gL_law_L_asks rfl rfl rfl (by decide +kernel) ⟨Nat.le_of_ble_eq_true rfl, Nat.le_of_ble_eq_true rfl⟩) rfl hl.1 rfl (Nat.le_of_ble_eq_true rfl) dL_law_194 ⟨show cells + 2937 ≤ 759212 by omega, show slots + 17622 ≤ 6823987 by omega⟩ (fun r9 _ H locs hr9 hP hD hS => ?_)
      obtain rfl := hr9
      refine lv_if_ne (tgt := 202) hx hb dL_law_197 (by decide) (fun _ => ?_) (fun q => absurd q (by decide))
      exact K σ (lk + 1) H locs (cells + 2937) (slots + 17622) ls (by omega) (by omega) I hh hP hD hS (lv_sub hl [2, 4, 0, 5, 6] rfl)
  refine lv_iload hx hb dL_law_152 (lv_at hl 1 rfl) ?_
  refine lv_iconst (v := 4) hx hb dL_law_154 (by decide) ?_
  refine k_ps (As := [.int x, .int (nI 4)]) (rest := []) (nL := 10) ⟨hx, hb, hml, hown, hts⟩ (c_L_low l x 4 (by decide) (by decide)) (va_cwS 2 hts gL_law_L_low rfl rfl rfl (by decide +kernel) ⟨Nat.le_of_ble_eq_true rfl, Nat.le_of_ble_eq_true rfl⟩) rfl hl.1 rfl (Nat.le_of_ble_eq_true rfl) dL_law_155 ⟨show cells ≤ 759212 by omega, show slots ≤ 6823987 by omega⟩ (fun r9 hr9 => ?_)
  obtain ⟨j, hj, rfl⟩ := hr9
  refine lv_if_ne (tgt := 171) hx hb dL_law_158 (by decide) (fun c1 => ?_) (fun c1 => ?_)
  · refine lv_iconst (v := 0) hx hb dL_law_171 (by decide) ?_
    exact K172 0 (Or.inl rfl)
  · refine lv_iload_n hx hb dL_law_161 rfl (lv_at hl 3 rfl) ?_
    refine lv_bipush (v := 6) hx hb dL_law_162 (by decide) ?_
    refine lv_icmp_ge (tgt := 171) hx hb dL_law_164 (by decide) (fun c2 => ?_) (fun c2 => ?_)
    · refine lv_iconst (v := 0) hx hb dL_law_171 (by decide) ?_
      exact K172 0 (Or.inl rfl)
    · refine lv_iconst (v := 1) hx hb dL_law_167 (by decide) ?_
      refine lv_goto (tgt := 172) hx hb dL_law_168 (by decide) ?_
      exact K172 1 (Or.inr rfl)

set_option maxHeartbeats 4000000 in
set_option maxRecDepth 100000 in
theorem law_pass {p : Program} {l : Launch} {e : Env} {s : State} {m : MethodId} {below : List Frame} {meth : Method} {c : Code} {Q : State → Prop} {sb L : Nat} {xs : Nat → Int32} {D : va_G} {cI cZ : ClassId} {a : Nat → Nat} (E : LH p l s m c sb L xs D cI cZ) {i cb sb9 : Nat} (hi : i < 44) (hcb : cb + 115 ≤ 759212) (hsb : sb9 + 806 ≤ 6823987) (K : ∀ (σ : St) (lk x : Int32) (H : Heap) (locs : List Loc) (cells slots : Nat) (ls : Array Slot), cells ≤ cb + 115 → slots ≤ sb9 + 806 → PI σ → σ.2.1 ≤ 8 * (i + 1) → va_P D vwCl (wS a cI cZ σ) H → va_D (lA s) (wS a cI cZ σ) → va_S (lA s) s.heap H locs → lv_has ls 10 [(2, .int (nI σ.2.1)), (5, .int x), (4, .int (nI i)), (3, .int lk), (1, .ref (a 0)), (0, .ref sb)] → W p l e room_1 s m #[.ref sb] below meth c H locs cells slots Q (F0 m 152 ls [])) : ∀ (σ : St) (lk x y : Int32) (kd : Nat) (H : Heap) (locs : List Loc) (cells slots : Nat) (ls : Array Slot), cells ≤ cb → slots ≤ sb9 → PI σ → σ.2.1 ≤ 8 * i → va_P D vwCl (wS a cI cZ σ) H → va_D (lA s) (wS a cI cZ σ) → va_S (lA s) s.heap H locs → lv_has ls 10 [(7, .int (nI kd)), (6, .int y), (5, .int x), (4, .int (nI i)), (3, .int lk), (2, .int (nI σ.2.1)), (1, .ref (a 0)), (0, .ref sb)] → W p l e room_1 s m #[.ref sb] below meth c H locs cells slots Q (F0 m 72 ls []) := by
  obtain ⟨hx, hb, hml, hown, hts, hXs, hbl, hK, hX, hfl, hL⟩ := E
  have hA : ∀ q : Nat, s.heap.size ≤ q → lA s q := fun _ h => h
  intro σ lk x y kd H locs cells slots ls hc hs I hh hP hD hS hl
  refine lv_iconst (v := 1) hx hb dL_law_72 (by decide) ?_
  refine lv_iload hx hb dL_law_73 (lv_at hl 1 rfl) ?_
  refine lv_bipush (v := 8) hx hb dL_law_75 (by decide) ?_
  refine k_ps (As := [.int y, .int (nI 8)]) (rest := [.int 1]) (nL := 10) ⟨hx, hb, hml, hown, hts⟩ (c_L_low l y 8 (by decide) (by decide)) (va_cwS 2 hts gL_law_L_low rfl rfl rfl (by decide +kernel) ⟨Nat.le_of_ble_eq_true rfl, Nat.le_of_ble_eq_true rfl⟩) rfl hl.1 rfl (Nat.le_of_ble_eq_true rfl) dL_law_77 ⟨show cells ≤ 759212 by omega, show slots ≤ 6823987 by omega⟩ (fun r9 hr9 => ?_)
  obtain ⟨j, hj, rfl⟩ := hr9
  refine lv_iadd hx hb dL_law_80 ?_
  refine k_rw (y := nI (1 + j)) (nI_add 1 j) ?_
  refine lv_istore (lv' := [(8, .int (nI (1 + j))), (7, .int (nI kd)), (6, .int y), (5, .int x), (4, .int (nI i)), (3, .int lk), (2, .int (nI σ.2.1)), (1, .ref (a 0)), (0, .ref sb)]) hx hb dL_law_81 hl (by decide) rfl (fun ls hl => ?_)
  refine lv_iload_n hx hb dL_law_83 rfl (lv_at hl 6 rfl) ?_
  refine lv_iload hx hb dL_law_84 (lv_at hl 0 rfl) ?_
  refine lv_iadd hx hb dL_law_86 ?_
  refine k_rw (y := nI (nPass σ (nI (1 + j))).2.1) (by show nI σ.2.1 + nI (1 + j) = nI (σ.2.1 + cl (nI (1 + j))); rw [show cl (nI (1 + j)) = 1 + j from nI_clamp (by omega), nI_add]) ?_
  have hc0 : cPass σ.2.1 (nI (1 + j)) = 0 := pass_0 (by omega) hj
  refine lv_istore_n (lv' := [(2, .int (nI (nPass σ (nI (1 + j))).2.1)), (8, .int (nI (1 + j))), (7, .int (nI kd)), (6, .int y), (5, .int x), (4, .int (nI i)), (3, .int lk), (1, .ref (a 0)), (0, .ref sb)]) hx hb dL_law_87 rfl hl (by decide) rfl (fun ls hl => ?_)
  refine lv_aload_n hx hb dL_law_88 rfl (lv_at hl 7 rfl) ?_
  refine lv_bipush (v := 6) hx hb dL_law_89 (by decide) ?_
  refine lv_iload hx hb dL_law_91 (lv_at hl 1 rfl) ?_
  refine lv_iconst (v := 0) hx hb dL_law_93 (by decide) ?_
  refine lv_iconst (v := 0) hx hb dL_law_94 (by decide) ?_
  refine k_leW (As := [.ref (a 0), .int 6, .int (nI (1 + j)), .int 0, .int 0]) (rest := []) (nL := 10) (WR := ([] : va_W)) (WNf := wS a cI cZ) ⟨hx, hb, hml, hown, hts⟩ hK hX hP hD hS hA (c_L_does6 l D a cI cZ _ σ (nI (1 + j)) 0 0 hfl I) [0, 1, 2, 3, 4, 5, 6, 7, 8, 9, 10, 11, 12, 13, 14, 15, 16, 17, 18, 19, 20] [] [0, 1, 2, 3, 4, 5, 6, 7, 8, 9, 10, 11, 12, 13, 14, 15, 16, 17, 18, 19, 20] rfl rfl rfl rfl rfl (by decide) (fun _ => rfl) (fun _ => rfl) rfl (vx_cwSW (hh := [(0, 101, 102, 36), (0, 101, 107, 38), (0, 101, 112, 40)]) 5 hts gL_law_L_does rfl rfl rfl (by decide +kernel) ⟨Nat.le_of_ble_eq_true rfl, Nat.le_of_ble_eq_true rfl⟩) rfl hl.1 rfl (Nat.le_of_ble_eq_true rfl) dL_law_95 ⟨show cells + 1 ≤ 759212 by omega, show slots + 6 ≤ 6823987 by omega⟩ (fun r u H locs hr9 hP hD hS => ?_)
  obtain ⟨rfl, rfl⟩ := dP_0 hr9 hc0
  refine lv_iload_n hx hb dL_law_98 rfl (lv_at hl 0 rfl) ?_
  refine lv_icmp_eq (tgt := 104) hx hb dL_law_99 (by decide) (fun _ => ?_) (fun q => absurd rfl q)
  refine lv_goto (tgt := 152) hx hb dL_law_104 (by decide) ?_
  refine K (nPass σ (nI (1 + j))) lk x H locs (cells + 1) (slots + 6) ls (by omega) (by omega) (PI_pass I hc0) ?_ hP hD hS (lv_sub hl [0, 4, 5, 6, 7, 8] rfl)
  show σ.2.1 + cl (nI (1 + j)) ≤ 8 * (i + 1)
  rw [show cl (nI (1 + j)) = 1 + j from nI_clamp (by omega)]; omega

set_option maxHeartbeats 4000000 in
set_option maxRecDepth 100000 in
theorem law_act {p : Program} {l : Launch} {e : Env} {s : State} {m : MethodId} {below : List Frame} {meth : Method} {c : Code} {Q : State → Prop} {sb L : Nat} {xs : Nat → Int32} {D : va_G} {cI cZ : ClassId} {a : Nat → Nat} (E : LH p l s m c sb L xs D cI cZ) {i cb sb9 : Nat} (hi : i < 44) (hcb : cb + 115 ≤ 759212) (hsb : sb9 + 806 ≤ 6823987) (K : ∀ (σ : St) (lk x : Int32) (H : Heap) (locs : List Loc) (cells slots : Nat) (ls : Array Slot), cells ≤ cb + 115 → slots ≤ sb9 + 806 → PI σ → σ.2.1 ≤ 8 * (i + 1) → va_P D vwCl (wS a cI cZ σ) H → va_D (lA s) (wS a cI cZ σ) → va_S (lA s) s.heap H locs → lv_has ls 10 [(2, .int (nI σ.2.1)), (5, .int x), (4, .int (nI i)), (3, .int lk), (1, .ref (a 0)), (0, .ref sb)] → W p l e room_1 s m #[.ref sb] below meth c H locs cells slots Q (F0 m 152 ls [])) : ∀ (σ : St) (lk x y : Int32) (kd : Nat) (H : Heap) (locs : List Loc) (cells slots : Nat) (ls : Array Slot), cells ≤ cb → slots ≤ sb9 → kd ≤ 9 → PI σ → σ.2.1 ≤ 8 * i → va_P D vwCl (wS a cI cZ σ) H → va_D (lA s) (wS a cI cZ σ) → va_S (lA s) s.heap H locs → lv_has ls 10 [(7, .int (nI kd)), (6, .int y), (5, .int x), (4, .int (nI i)), (3, .int lk), (2, .int (nI σ.2.1)), (1, .ref (a 0)), (0, .ref sb)] → W p l e room_1 s m #[.ref sb] below meth c H locs cells slots Q (F0 m 107 ls []) := by
  obtain ⟨hx, hb, hml, hown, hts, hXs, hbl, hK, hX, hfl, hL⟩ := E
  have hA : ∀ q : Nat, s.heap.size ≤ q → lA s q := fun _ h => h
  intro σ lk x y kd H locs cells slots ls hc hs hkd I hh hP hD hS hl
  refine lv_aload_n hx hb dL_law_107 rfl (lv_at hl 6 rfl) ?_
  refine lv_iload_n hx hb dL_law_108 rfl (lv_at hl 5 rfl) ?_
  refine k_lrS (As := [.ref (a 0), .int (nI σ.2.1)]) (rest := []) (nL := 10) (WR := ([] : va_W)) (WNf := fun q => wS a cI cZ σ ++ [(q, .inl (cI, 64, .inl (tellV σ)))]) ⟨hx, hb, hml, hown, hts⟩ hK hX hP hD hS hA (c_L_tell l D a cI cZ _ σ hfl I (by omega)) [0, 1, 2, 3, 4, 5, 6, 7, 8, 9, 10, 11, 12, 13, 14, 15, 16, 17, 18, 19, 20] [] [0, 1, 2, 3, 4, 5, 6, 7, 8, 9, 10, 11, 12, 13, 14, 15, 16, 17, 18, 19, 20, 21] rfl rfl rfl rfl rfl (by decide) (fun _ => rfl) (fun _ => rfl) rfl (va_cwS 2 hts gL_law_L_tell rfl rfl rfl (by decide +kernel) ⟨Nat.le_of_ble_eq_true rfl, Nat.le_of_ble_eq_true rfl⟩) rfl hl.1 rfl (Nat.le_of_ble_eq_true rfl) dL_law_109 ⟨show cells + 57 ≤ 759212 by omega, show slots + 400 ≤ 6823987 by omega⟩ (fun q H locs hP hD hS => ?_)
  refine lv_astore (lv' := [(8, .ref q), (7, .int (nI kd)), (6, .int y), (5, .int x), (4, .int (nI i)), (3, .int lk), (2, .int (nI σ.2.1)), (1, .ref (a 0)), (0, .ref sb)]) hx hb dL_law_112 hl (by decide) rfl (fun ls hl => ?_)
  refine lv_aload_n hx hb dL_law_114 rfl (lv_at hl 7 rfl) ?_
  refine lv_iload hx hb dL_law_115 (lv_at hl 2 rfl) ?_
  refine lv_iload_n hx hb dL_law_117 rfl (lv_at hl 6 rfl) ?_
  refine lv_iload hx hb dL_law_118 (lv_at hl 1 rfl) ?_
  refine k_leS (As := [.ref (a 0), .int y, .int (nI σ.2.1), .int (nI kd)]) (rest := []) (nL := 10) (WR := [(q, .inl (cI, 64, .inl (tellV σ)))]) (WNf := fun u => wS a cI cZ u ++ [(q, .inl (cI, 64, .inl (tellV σ)))]) ⟨hx, hb, hml, hown, hts⟩ hK hX hP hD hS hA (c_L_act l D a cI cZ _ σ y kd hkd hfl I) [0, 1, 2, 3, 4, 5, 6, 7, 8, 9, 10, 11, 12, 13, 14, 15, 16, 17, 18, 19, 20] [21] [1, 2, 3, 4, 5, 6, 7, 8, 9, 10, 11, 12, 13, 14, 15, 16, 17, 18, 19, 20, 21, 0] rfl rfl rfl rfl rfl (by decide) (fun _ => rfl) (fun _ => rfl) rfl (va_cwS 4 hts gL_law_L_act rfl rfl rfl (by decide +kernel) ⟨Nat.le_of_ble_eq_true rfl, Nat.le_of_ble_eq_true rfl⟩) rfl hl.1 rfl (Nat.le_of_ble_eq_true rfl) dL_law_120 ⟨show cells + 57 + 1 ≤ 759212 by omega, show slots + 400 + 6 ≤ 6823987 by omega⟩ (fun r u H locs hr9 hP hD hS => ?_)
  obtain ⟨Iu, hu, hr1, hr2⟩ := hr9
  refine lv_istore (lv' := [(9, .int r), (8, .ref q), (7, .int (nI kd)), (6, .int y), (5, .int x), (4, .int (nI i)), (3, .int lk), (2, .int (nI σ.2.1)), (1, .ref (a 0)), (0, .ref sb)]) hx hb dL_law_123 hl (by decide) rfl (fun ls hl => ?_)
  refine lv_iload hx hb dL_law_125 (lv_at hl 0 rfl) ?_
  refine lv_iconst (v := (-1)) hx hb dL_law_127 (by decide) ?_
  refine lv_icmp_eq (tgt := 150) hx hb dL_law_128 (by decide) (fun q => absurd q hr1) (fun _ => ?_)
  refine lv_iload hx hb dL_law_131 (lv_at hl 0 rfl) ?_
  refine lv_iconst (v := (-1)) hx hb dL_law_133 (by decide) ?_
  refine lv_icmp_ge (tgt := 152) hx hb dL_law_134 (by decide) (fun c1 => ?_) (fun c1 => ?_)
  · have hl : lv_has ls 10 [(2, .int (nI u.2.1)), (5, .int x), (4, .int (nI i)), (3, .int lk), (1, .ref (a 0)), (0, .ref sb)] := by rw [hu]; exact lv_sub hl [7, 4, 5, 6, 8, 9] rfl
    exact K u lk x H locs (cells + 57 + 1) (slots + 400 + 6) ls (by omega) (by omega) Iu (by rw [hu]; omega) (hP.sub [0, 1, 2, 3, 4, 5, 6, 7, 8, 9, 10, 11, 12, 13, 14, 15, 16, 17, 18, 19, 20] rfl) (hD.sub [0, 1, 2, 3, 4, 5, 6, 7, 8, 9, 10, 11, 12, 13, 14, 15, 16, 17, 18, 19, 20] rfl rfl) hS hl
  · have e2 := hr2 (Int32.not_le.mp c1)
    rw [e2] at hP hD
    refine lv_aload hx hb dL_law_137 (lv_at hl 1 rfl) ?_
    refine lv_aload_n hx hb dL_law_139 rfl (lv_at hl 8 rfl) ?_
    refine lv_iload_n hx hb dL_law_140 rfl (lv_at hl 7 rfl) ?_
    refine k_lrS (As := [.ref (a 0), .int (nI σ.2.1)]) (rest := [.ref q]) (nL := 10) (WR := [(q, .inl (cI, 64, .inl (tellV σ)))]) (WNf := fun q2 => wS a cI cZ σ ++ ([(q2, .inl (cI, 64, .inl (tellV σ)))] ++ [(q, .inl (cI, 64, .inl (tellV σ)))])) ⟨hx, hb, hml, hown, hts⟩ hK hX hP hD hS hA (c_L_tell l D a cI cZ _ σ hfl I (by omega)) [0, 1, 2, 3, 4, 5, 6, 7, 8, 9, 10, 11, 12, 13, 14, 15, 16, 17, 18, 19, 20] [21] [1, 2, 3, 4, 5, 6, 7, 8, 9, 10, 11, 12, 13, 14, 15, 16, 17, 18, 19, 20, 21, 22, 0] rfl rfl rfl rfl rfl (by decide) (fun _ => rfl) (fun _ => rfl) rfl (va_cwS 2 hts gL_law_L_tell rfl rfl rfl (by decide +kernel) ⟨Nat.le_of_ble_eq_true rfl, Nat.le_of_ble_eq_true rfl⟩) rfl hl.1 rfl (Nat.le_of_ble_eq_true rfl) dL_law_141 ⟨show cells + 57 + 1 + 57 ≤ 759212 by omega, show slots + 400 + 6 + 400 ≤ 6823987 by omega⟩ (fun q2 H locs hP hD hS => ?_)
    refine k_rdS (As := [.ref q, .ref q2]) (rest := []) (nL := 10) ⟨hx, hb, hml, hown, hts⟩ hK.k hP (c_L_same l D q q2 cI cZ (tellV σ)) [22, 21] rfl (va_cwS 2 hts gL_law_L_same rfl rfl rfl (by decide +kernel) ⟨Nat.le_of_ble_eq_true rfl, Nat.le_of_ble_eq_true rfl⟩) rfl hl.1 rfl (Nat.le_of_ble_eq_true rfl) dL_law_144 ⟨show cells + 57 + 1 + 57 ≤ 759212 by omega, show slots + 400 + 6 + 400 ≤ 6823987 by omega⟩ (fun r8 hr8 => ?_)
    obtain rfl := hr8
    refine lv_if_ne (tgt := 152) hx hb dL_law_147 (by decide) (fun _ => ?_) (fun q => absurd q (by decide))
    exact K σ lk x H locs (cells + 57 + 1 + 57) (slots + 400 + 6 + 400) ls (by omega) (by omega) I (by omega) (hP.sub [0, 1, 2, 3, 4, 5, 6, 7, 8, 9, 10, 11, 12, 13, 14, 15, 16, 17, 18, 19, 20] rfl) (hD.sub [0, 1, 2, 3, 4, 5, 6, 7, 8, 9, 10, 11, 12, 13, 14, 15, 16, 17, 18, 19, 20] rfl rfl) hS (lv_sub hl [7, 4, 5, 6, 8, 9] rfl)

set_option maxHeartbeats 4000000 in
set_option maxRecDepth 100000 in
theorem law_loop {p : Program} {l : Launch} {e : Env} {s : State} {m : MethodId} {below : List Frame} {meth : Method} {c : Code} {Q : State → Prop} {sb L : Nat} {xs : Nat → Int32} {D : va_G} {cI cZ : ClassId} {a : Nat → Nat} (E : LH p l s m c sb L xs D cI cZ) (K : ∀ (σ : St) (lk : Int32) (H : Heap) (locs : List Loc) (cells slots : Nat) (ls : Array Slot), cells ≤ 21 + 3052 * 44 → slots ≤ 2991 + 18428 * 44 → PI σ → σ.2.1 ≤ 8 * 44 → va_P D vwCl (wS a cI cZ σ) H → va_D (lA s) (wS a cI cZ σ) → va_S (lA s) s.heap H locs → lv_has ls 10 [(4, .int (nI 44)), (3, .int lk), (2, .int (nI σ.2.1)), (1, .ref (a 0)), (0, .ref sb)] → W p l e room_1 s m #[.ref sb] below meth c H locs cells slots Q (F0 m 208 ls [])) : ∀ (nn i : Nat), 44 - i < nn → i ≤ 44 → ∀ (σ : St) (lk : Int32) (H : Heap) (locs : List Loc) (cells slots : Nat) (ls : Array Slot), cells ≤ 21 + 3052 * i → slots ≤ 2991 + 18428 * i → PI σ → σ.2.1 ≤ 8 * i → va_P D vwCl (wS a cI cZ σ) H → va_D (lA s) (wS a cI cZ σ) → va_S (lA s) s.heap H locs → lv_has ls 10 [(4, .int (nI i)), (3, .int lk), (2, .int (nI σ.2.1)), (1, .ref (a 0)), (0, .ref sb)] → W p l e room_1 s m #[.ref sb] below meth c H locs cells slots Q (F0 m 15 ls []) := by
  have E9 := E
  obtain ⟨hx, hb, hml, hown, hts, hXs, hbl, hK, hX, hfl, hL⟩ := E
  intro nn
  induction nn with
  | zero => intro i h; omega
  | succ nn ih =>
    intro i hm hi σ lk H locs cells slots ls hc hs I hh hP hD hS hl
    refine lv_iload hx hb dL_law_15 (lv_at hl 0 rfl) ?_
    refine lv_bipush (v := 44) hx hb dL_law_17 (by decide) ?_
    refine lv_icmp_ge (tgt := 208) hx hb dL_law_19 (by decide) (fun c1 => ?_) (fun c1 => ?_)
    · have c2 : 44 ≤ i := (nI_leI (a := 44) (b := i) (by decide) (by omega)).mp c1
      obtain rfl : i = 44 := by omega
      exact K σ lk H locs cells slots ls hc hs I hh hP hD hS hl
    · have c2 : i < 44 := Nat.lt_of_not_le (fun z => c1 (nI_le (a := 44) (b := i) z (by omega)))
      have K152 := law_look E9 (a := a) (e := e) (below := below) (meth := meth) (Q := Q) (i := i) (cb := 21 + 3052 * i + 115) (sb9 := 2991 + 18428 * i + 806) (by omega) (by omega) (fun σ lk H locs cells slots ls hc hs I hh hP hD hS hl => by
        refine lv_iinc (v := nI (i + 1)) (lv' := [(4, .int (nI (i + 1))), (2, .int (nI σ.2.1)), (3, .int lk), (1, .ref (a 0)), (0, .ref sb)]) hx hb dL_law_202 hl (k := 1) rfl (nI_1 _) (by decide) rfl (fun ls hl => ?_)
        refine lv_goto (tgt := 15) hx hb dL_law_205 (by decide) ?_
        exact ih (i + 1) (by omega) (by omega) σ lk H locs cells slots ls (by omega) (by omega) I hh hP hD hS (lv_sub hl [0, 2, 1, 3, 4] rfl))
      have K107 := law_act E9 (a := a) (e := e) (below := below) (meth := meth) (Q := Q) (cb := 21 + 3052 * i) (sb9 := 2991 + 18428 * i) c2 (by omega) (by omega) K152
      have K72 := law_pass E9 (a := a) (e := e) (below := below) (meth := meth) (Q := Q) (cb := 21 + 3052 * i) (sb9 := 2991 + 18428 * i) c2 (by omega) (by omega) K152
      refine lv_aload_n hx hb dL_law_22 rfl (lv_at hl 4 rfl) ?_
      refine lv_iconst (v := 2) hx hb dL_law_23 (by decide) ?_
      refine lv_iload hx hb dL_law_24 (lv_at hl 0 rfl) ?_
      refine lv_imul hx hb dL_law_26 ?_
      refine k_rw (y := nI (2 * i)) (pk_mul 2 i) ?_
      refine k_cell (As := [.ref sb, .int (nI (2 * i))]) (rest := []) (nL := 10) ⟨hx, hb, hml, hown, hts⟩ hXs hbl hS (c_L_cell l sb L xs (2 * i) (by omega) hL) (va_cwS 2 hts gL_law_L_cell rfl rfl rfl (by decide +kernel) ⟨Nat.le_of_ble_eq_true rfl, Nat.le_of_ble_eq_true rfl⟩) rfl hl.1 rfl (Nat.le_of_ble_eq_true rfl) dL_law_27 ⟨show cells ≤ 759212 by omega, show slots ≤ 6823987 by omega⟩ (fun x => ?_)
      refine lv_istore (lv' := [(5, .int x), (4, .int (nI i)), (3, .int lk), (2, .int (nI σ.2.1)), (1, .ref (a 0)), (0, .ref sb)]) hx hb dL_law_30 hl (by decide) rfl (fun ls hl => ?_)
      refine lv_aload_n hx hb dL_law_32 rfl (lv_at hl 5 rfl) ?_
      refine lv_iconst (v := 2) hx hb dL_law_33 (by decide) ?_
      refine lv_iload hx hb dL_law_34 (lv_at hl 1 rfl) ?_
      refine lv_imul hx hb dL_law_36 ?_
      refine lv_iconst (v := 1) hx hb dL_law_37 (by decide) ?_
      refine lv_iadd hx hb dL_law_38 ?_
      refine k_rw (y := nI (2 * i + 1)) (by rw [show (2 : Int32) * nI i = nI (2 * i) from pk_mul 2 i, nI_1]) ?_
      refine k_cell (As := [.ref sb, .int (nI (2 * i + 1))]) (rest := []) (nL := 10) ⟨hx, hb, hml, hown, hts⟩ hXs hbl hS (c_L_cell l sb L xs (2 * i + 1) (by omega) hL) (va_cwS 2 hts gL_law_L_cell rfl rfl rfl (by decide +kernel) ⟨Nat.le_of_ble_eq_true rfl, Nat.le_of_ble_eq_true rfl⟩) rfl hl.1 rfl (Nat.le_of_ble_eq_true rfl) dL_law_39 ⟨show cells ≤ 759212 by omega, show slots ≤ 6823987 by omega⟩ (fun y => ?_)
      refine lv_istore (lv' := [(6, .int y), (5, .int x), (4, .int (nI i)), (3, .int lk), (2, .int (nI σ.2.1)), (1, .ref (a 0)), (0, .ref sb)]) hx hb dL_law_42 hl (by decide) rfl (fun ls hl => ?_)
      refine lv_iload hx hb dL_law_44 (lv_at hl 2 rfl) ?_
      refine lv_iconst (v := 3) hx hb dL_law_46 (by decide) ?_
      have K63 : ∀ kd : Nat, kd ≤ 12 → W p l e room_1 s m #[.ref sb] below meth c H locs cells slots Q (F0 m 63 ls [.int (nI kd)]) := by
        intro kd hkd
        refine lv_istore (lv' := [(7, .int (nI kd)), (6, .int y), (5, .int x), (4, .int (nI i)), (3, .int lk), (2, .int (nI σ.2.1)), (1, .ref (a 0)), (0, .ref sb)]) hx hb dL_law_63 hl (by decide) rfl (fun ls hl => ?_)
        refine lv_iload hx hb dL_law_65 (lv_at hl 0 rfl) ?_
        refine lv_bipush (v := 9) hx hb dL_law_67 (by decide) ?_
        refine lv_icmp_le (tgt := 107) hx hb dL_law_69 (by decide) (fun c3 => ?_) (fun c3 => ?_)
        · exact K107 σ lk x y kd H locs cells slots ls hc hs ((nI_leI (a := kd) (b := 9) (by omega) (by decide)).mp c3) I hh hP hD hS (lv_sub hl [0, 1, 2, 3, 4, 5, 6, 7] rfl)
        · exact K72 σ lk x y kd H locs cells slots ls hc hs I hh hP hD hS (lv_sub hl [0, 1, 2, 3, 4, 5, 6, 7] rfl)
      refine lv_icmp_ge (tgt := 54) hx hb dL_law_47 (by decide) (fun c3 => ?_) (fun c3 => ?_)
      · refine lv_iload hx hb dL_law_54 (lv_at hl 1 rfl) ?_
        refine lv_iconst (v := 3) hx hb dL_law_56 (by decide) ?_
        refine lv_ishr hx hb dL_law_57 ?_
        refine lv_topi (fun z10 _ => ?_)
        refine lv_bipush (v := 13) hx hb dL_law_58 (by decide) ?_
        refine k_ps (As := [.int z10, .int (nI 13)]) (rest := []) (nL := 10) ⟨hx, hb, hml, hown, hts⟩ (c_L_low l z10 13 (by decide) (by decide)) (va_cwS 2 hts gL_law_L_low rfl rfl rfl (by decide +kernel) ⟨Nat.le_of_ble_eq_true rfl, Nat.le_of_ble_eq_true rfl⟩) rfl hl.1 rfl (Nat.le_of_ble_eq_true rfl) dL_law_60 ⟨show cells ≤ 759212 by omega, show slots ≤ 6823987 by omega⟩ (fun r9 hr9 => ?_)
        obtain ⟨j, hj, rfl⟩ := hr9
        exact K63 j (by omega)
      · refine lv_iconst (v := 0) hx hb dL_law_50 (by decide) ?_
        refine lv_goto (tgt := 63) hx hb dL_law_51 (by decide) ?_
        exact K63 0 (by omega)

set_option maxHeartbeats 4000000 in
set_option maxRecDepth 100000 in
theorem law_end {p : Program} {l : Launch} {e : Env} {s : State} {m : MethodId} {below : List Frame} {meth : Method} {c : Code} {Q : State → Prop} {sb L : Nat} {xs : Nat → Int32} {D : va_G} {cI cZ : ClassId} {a : Nat → Nat} (E : LH p l s m c sb L xs D cI cZ) (K : ∀ (H : Heap) (locs : List Loc) (cells slots : Nat) (ls : Array Slot), cells ≤ 759212 → slots ≤ 6823987 → va_S (lA s) s.heap H locs → W p l e room_1 s m #[.ref sb] below meth c H locs cells slots Q (F0 m 324 ls [])) : ∀ (σ : St) (lk : Int32) (H : Heap) (locs : List Loc) (cells slots : Nat) (ls : Array Slot), cells ≤ 21 + 3052 * 44 → slots ≤ 2991 + 18428 * 44 → PI σ → σ.2.1 ≤ 8 * 44 → va_P D vwCl (wS a cI cZ σ) H → va_D (lA s) (wS a cI cZ σ) → va_S (lA s) s.heap H locs → lv_has ls 10 [(4, .int (nI 44)), (3, .int lk), (2, .int (nI σ.2.1)), (1, .ref (a 0)), (0, .ref sb)] → W p l e room_1 s m #[.ref sb] below meth c H locs cells slots Q (F0 m 208 ls []) := by
  obtain ⟨hx, hb, hml, hown, hts, hXs, hbl, hK, hX, hfl, hL⟩ := E
  have hA : ∀ q : Nat, s.heap.size ≤ q → lA s q := fun _ h => h
  intro σ lk H locs cells slots ls hc hs I hh hP hD hS hl
  refine lv_aload_n hx hb dL_law_208 rfl (lv_at hl 3 rfl) ?_
  refine lv_iload_n hx hb dL_law_209 rfl (lv_at hl 2 rfl) ?_
  refine k_leS (As := [.ref (a 0), .int (nI σ.2.1)]) (rest := []) (nL := 10) (WR := ([] : va_W)) (WNf := fun _ => wS a cI cZ σ) ⟨hx, hb, hml, hown, hts⟩ hK hX hP hD hS hA (c_L_asks l D a cI cZ _ σ hfl I) [0, 1, 2, 3, 4, 5, 6, 7, 8, 9, 10, 11, 12, 13, 14, 15, 16, 17, 18, 19, 20] [] [0, 1, 2, 3, 4, 5, 6, 7, 8, 9, 10, 11, 12, 13, 14, 15, 16, 17, 18, 19, 20] rfl rfl rfl rfl rfl (by decide) (fun _ => rfl) (fun _ => rfl) rfl (va_cwS 2 hts gL_law_L_asks rfl rfl rfl (by decide +kernel) ⟨Nat.le_of_ble_eq_true rfl, Nat.le_of_ble_eq_true rfl⟩) rfl hl.1 rfl (Nat.le_of_ble_eq_true rfl) dL_law_210 ⟨show cells + 2937 ≤ 759212 by omega, show slots + 17622 ≤ 6823987 by omega⟩ (fun r9 _ H locs hr9 hP hD hS => ?_)
  obtain rfl := hr9
  refine lv_if_eq (tgt := 328) hx hb dL_law_213 (by decide) (fun q => absurd q (by decide)) (fun _ => ?_)
  refine lv_aload_n hx hb dL_law_216 rfl (lv_at hl 3 rfl) ?_
  refine lv_iconst (v := 0) hx hb dL_law_217 (by decide) ?_
  refine lv_iconst (v := (-1)) hx hb dL_law_218 (by decide) ?_
  refine lv_iconst (v := 0) hx hb dL_law_219 (by decide) ?_
  refine lv_iconst (v := 0) hx hb dL_law_220 (by decide) ?_
  refine k_leW (As := [.ref (a 0), .int 0, .int (-1), .int 0, .int 0]) (rest := []) (nL := 10) (WR := ([] : va_W)) (WNf := wS a cI cZ) ⟨hx, hb, hml, hown, hts⟩ hK hX hP hD hS hA (c_L_does0 l D a cI cZ _ σ (-1) 0 0 hfl I) [0, 1, 2, 3, 4, 5, 6, 7, 8, 9, 10, 11, 12, 13, 14, 15, 16, 17, 18, 19, 20] [] [0, 1, 2, 3, 4, 5, 6, 7, 8, 9, 10, 11, 12, 13, 14, 15, 16, 17, 18, 19, 20] rfl rfl rfl rfl rfl (by decide) (fun _ => rfl) (fun _ => rfl) rfl (vx_cwSW (hh := [(0, 101, 102, 36), (0, 101, 107, 38), (0, 101, 112, 40)]) 5 hts gL_law_L_does rfl rfl rfl (by decide +kernel) ⟨Nat.le_of_ble_eq_true rfl, Nat.le_of_ble_eq_true rfl⟩) rfl hl.1 rfl (Nat.le_of_ble_eq_true rfl) dL_law_221 ⟨show cells + 2937 + 1 ≤ 759212 by omega, show slots + 17622 + 6 ≤ 6823987 by omega⟩ (fun r u H locs hr9 hP hD hS => ?_)
  obtain ⟨e1, e2⟩ := dP_n hr9 no_turb rfl
  rw [e2] at hP hD
  subst e1
  refine lv_bipush (v := (-2)) hx hb dL_law_224 (by decide) ?_
  refine lv_icmp_ne (tgt := 328) hx hb dL_law_226 (by decide) (fun q => absurd rfl q) (fun _ => ?_)
  refine lv_aload_n hx hb dL_law_229 rfl (lv_at hl 3 rfl) ?_
  refine lv_iconst (v := 1) hx hb dL_law_230 (by decide) ?_
  refine lv_iload_n hx hb dL_law_231 rfl (lv_at hl 2 rfl) ?_
  refine lv_iconst (v := 1) hx hb dL_law_232 (by decide) ?_
  refine lv_isub hx hb dL_law_233 ?_
  refine lv_sipush (v := 400) hx hb dL_law_234 (by decide) ?_
  refine lv_iconst (v := 1) hx hb dL_law_237 (by decide) ?_
  refine k_leW (As := [.ref (a 0), .int 1, .int (nI σ.2.1 - 1), .int 400, .int 1]) (rest := []) (nL := 10) (WR := ([] : va_W)) (WNf := wS a cI cZ) ⟨hx, hb, hml, hown, hts⟩ hK hX hP hD hS hA (c_L_does1 l D a cI cZ _ σ (nI σ.2.1 - 1) 400 1 _ rfl hfl I) [0, 1, 2, 3, 4, 5, 6, 7, 8, 9, 10, 11, 12, 13, 14, 15, 16, 17, 18, 19, 20] [] [0, 1, 2, 3, 4, 5, 6, 7, 8, 9, 10, 11, 12, 13, 14, 15, 16, 17, 18, 19, 20] rfl rfl rfl rfl rfl (by decide) (fun _ => rfl) (fun _ => rfl) rfl (vx_cwSW (hh := [(0, 101, 102, 36), (0, 101, 107, 38), (0, 101, 112, 40)]) 5 hts gL_law_L_does rfl rfl rfl (by decide +kernel) ⟨Nat.le_of_ble_eq_true rfl, Nat.le_of_ble_eq_true rfl⟩) rfl hl.1 rfl (Nat.le_of_ble_eq_true rfl) dL_law_238 ⟨show cells + 2937 + 1 + 1 ≤ 759212 by omega, show slots + 17622 + 6 + 6 ≤ 6823987 by omega⟩ (fun r u H locs hr9 hP hD hS => ?_)
  obtain ⟨e1, e2⟩ := dP_n hr9 (no_wind I.h) rfl
  rw [e2] at hP hD
  subst e1
  refine lv_bipush (v := (-3)) hx hb dL_law_241 (by decide) ?_
  refine lv_icmp_ne (tgt := 328) hx hb dL_law_243 (by decide) (fun q => absurd rfl q) (fun _ => ?_)
  refine lv_aload_n hx hb dL_law_246 rfl (lv_at hl 3 rfl) ?_
  refine lv_iconst (v := 2) hx hb dL_law_247 (by decide) ?_
  refine lv_sipush (v := 480) hx hb dL_law_248 (by decide) ?_
  refine lv_iconst (v := 0) hx hb dL_law_251 (by decide) ?_
  refine lv_iconst (v := 0) hx hb dL_law_252 (by decide) ?_
  refine k_leW (As := [.ref (a 0), .int 2, .int 480, .int 0, .int 0]) (rest := []) (nL := 10) (WR := ([] : va_W)) (WNf := wS a cI cZ) ⟨hx, hb, hml, hown, hts⟩ hK hX hP hD hS hA (c_L_does2 l D a cI cZ _ σ 480 0 0 hfl I) [0, 1, 2, 3, 4, 5, 6, 7, 8, 9, 10, 11, 12, 13, 14, 15, 16, 17, 18, 19, 20] [] [0, 1, 2, 3, 4, 5, 6, 7, 8, 9, 10, 11, 12, 13, 14, 15, 16, 17, 18, 19, 20] rfl rfl rfl rfl rfl (by decide) (fun _ => rfl) (fun _ => rfl) rfl (vx_cwSW (hh := [(0, 101, 102, 36), (0, 101, 107, 38), (0, 101, 112, 40)]) 5 hts gL_law_L_does rfl rfl rfl (by decide +kernel) ⟨Nat.le_of_ble_eq_true rfl, Nat.le_of_ble_eq_true rfl⟩) rfl hl.1 rfl (Nat.le_of_ble_eq_true rfl) dL_law_253 ⟨show cells + 2937 + 1 + 1 + 1 ≤ 759212 by omega, show slots + 17622 + 6 + 6 + 6 ≤ 6823987 by omega⟩ (fun r u H locs hr9 hP hD hS => ?_)
  obtain ⟨e1, e2⟩ := dP_n hr9 no_waves rfl
  rw [e2] at hP hD
  subst e1
  refine lv_bipush (v := (-3)) hx hb dL_law_256 (by decide) ?_
  refine lv_icmp_ne (tgt := 328) hx hb dL_law_258 (by decide) (fun q => absurd rfl q) (fun _ => ?_)
  refine lv_aload_n hx hb dL_law_261 rfl (lv_at hl 3 rfl) ?_
  refine lv_iconst (v := 3) hx hb dL_law_262 (by decide) ?_
  refine lv_iconst (v := (-1)) hx hb dL_law_263 (by decide) ?_
  refine lv_iconst (v := 0) hx hb dL_law_264 (by decide) ?_
  refine lv_iconst (v := 0) hx hb dL_law_265 (by decide) ?_
  refine k_leW (As := [.ref (a 0), .int 3, .int (-1), .int 0, .int 0]) (rest := []) (nL := 10) (WR := ([] : va_W)) (WNf := wS a cI cZ) ⟨hx, hb, hml, hown, hts⟩ hK hX hP hD hS hA (c_L_does3 l D a cI cZ _ σ (-1) 0 0 hfl I) [0, 1, 2, 3, 4, 5, 6, 7, 8, 9, 10, 11, 12, 13, 14, 15, 16, 17, 18, 19, 20] [] [0, 1, 2, 3, 4, 5, 6, 7, 8, 9, 10, 11, 12, 13, 14, 15, 16, 17, 18, 19, 20] rfl rfl rfl rfl rfl (by decide) (fun _ => rfl) (fun _ => rfl) rfl (vx_cwSW (hh := [(0, 101, 102, 36), (0, 101, 107, 38), (0, 101, 112, 40)]) 5 hts gL_law_L_does rfl rfl rfl (by decide +kernel) ⟨Nat.le_of_ble_eq_true rfl, Nat.le_of_ble_eq_true rfl⟩) rfl hl.1 rfl (Nat.le_of_ble_eq_true rfl) dL_law_266 ⟨show cells + 2937 + 1 + 1 + 1 + 1 ≤ 759212 by omega, show slots + 17622 + 6 + 6 + 6 + 6 ≤ 6823987 by omega⟩ (fun r u H locs hr9 hP hD hS => ?_)
  obtain ⟨e1, e2⟩ := dP_n hr9 no_breaks rfl
  rw [e2] at hP hD
  subst e1
  refine lv_bipush (v := (-2)) hx hb dL_law_269 (by decide) ?_
  refine lv_icmp_ne (tgt := 328) hx hb dL_law_271 (by decide) (fun q => absurd rfl q) (fun _ => ?_)
  refine lv_aload_n hx hb dL_law_274 rfl (lv_at hl 3 rfl) ?_
  refine lv_iconst (v := 4) hx hb dL_law_275 (by decide) ?_
  refine lv_iconst (v := 3) hx hb dL_law_276 (by decide) ?_
  refine lv_iconst (v := 0) hx hb dL_law_277 (by decide) ?_
  refine lv_iconst (v := 0) hx hb dL_law_278 (by decide) ?_
  refine k_leW (As := [.ref (a 0), .int 4, .int 3, .int 0, .int 0]) (rest := []) (nL := 10) (WR := ([] : va_W)) (WNf := wS a cI cZ) ⟨hx, hb, hml, hown, hts⟩ hK hX hP hD hS hA (c_L_does4 l D a cI cZ _ σ 3 0 0 hfl I) [0, 1, 2, 3, 4, 5, 6, 7, 8, 9, 10, 11, 12, 13, 14, 15, 16, 17, 18, 19, 20] [] [0, 1, 2, 3, 4, 5, 6, 7, 8, 9, 10, 11, 12, 13, 14, 15, 16, 17, 18, 19, 20] rfl rfl rfl rfl rfl (by decide) (fun _ => rfl) (fun _ => rfl) rfl (vx_cwSW (hh := [(0, 101, 102, 36), (0, 101, 107, 38), (0, 101, 112, 40)]) 5 hts gL_law_L_does rfl rfl rfl (by decide +kernel) ⟨Nat.le_of_ble_eq_true rfl, Nat.le_of_ble_eq_true rfl⟩) rfl hl.1 rfl (Nat.le_of_ble_eq_true rfl) dL_law_279 ⟨show cells + 2937 + 1 + 1 + 1 + 1 + 1 ≤ 759212 by omega, show slots + 17622 + 6 + 6 + 6 + 6 + 6 ≤ 6823987 by omega⟩ (fun r u H locs hr9 hP hD hS => ?_)
  obtain ⟨e1, e2⟩ := dP_n hr9 no_crew rfl
  rw [e2] at hP hD
  subst e1
  refine lv_bipush (v := (-2)) hx hb dL_law_282 (by decide) ?_
  refine lv_icmp_ne (tgt := 328) hx hb dL_law_284 (by decide) (fun q => absurd rfl q) (fun _ => ?_)
  refine lv_aload_n hx hb dL_law_287 rfl (lv_at hl 3 rfl) ?_
  refine lv_iconst (v := (-1)) hx hb dL_law_288 (by decide) ?_
  refine lv_iconst (v := 0) hx hb dL_law_289 (by decide) ?_
  refine lv_iconst (v := 1) hx hb dL_law_290 (by decide) ?_
  refine k_leW (As := [.ref (a 0), .int (-1), .int 0, .int 1]) (rest := []) (nL := 10) (WR := ([] : va_W)) (WNf := wS a cI cZ) ⟨hx, hb, hml, hown, hts⟩ hK hX hP hD hS hA (c_L_repairs l D a cI cZ _ σ (-1) 0 1 hfl I) [0, 1, 2, 3, 4, 5, 6, 7, 8, 9, 10, 11, 12, 13, 14, 15, 16, 17, 18, 19, 20] [] [0, 1, 2, 3, 4, 5, 6, 7, 8, 9, 10, 11, 12, 13, 14, 15, 16, 17, 18, 19, 20] rfl rfl rfl rfl rfl (by decide) (fun _ => rfl) (fun _ => rfl) rfl (vx_cwSW (hh := [(0, 8, 9, 36), (0, 8, 14, 38), (0, 8, 19, 40)]) 4 hts gL_law_L_repairs rfl rfl rfl (by decide +kernel) ⟨Nat.le_of_ble_eq_true rfl, Nat.le_of_ble_eq_true rfl⟩) rfl hl.1 rfl (Nat.le_of_ble_eq_true rfl) dL_law_291 ⟨show cells + 2937 + 1 + 1 + 1 + 1 + 1 + 1 ≤ 759212 by omega, show slots + 17622 + 6 + 6 + 6 + 6 + 6 + 6 ≤ 6823987 by omega⟩ (fun r u H locs hr9 hP hD hS => ?_)
  obtain ⟨e1, e2⟩ := dP_n hr9 no_repair rfl
  rw [e2] at hP hD
  subst e1
  refine lv_bipush (v := (-2)) hx hb dL_law_294 (by decide) ?_
  refine lv_icmp_ne (tgt := 328) hx hb dL_law_296 (by decide) (fun q => absurd rfl q) (fun _ => ?_)
  refine lv_aload_n hx hb dL_law_299 rfl (lv_at hl 3 rfl) ?_
  refine lv_bipush (v := 6) hx hb dL_law_300 (by decide) ?_
  refine lv_iconst (v := 0) hx hb dL_law_302 (by decide) ?_
  refine lv_iconst (v := 0) hx hb dL_law_303 (by decide) ?_
  refine lv_iconst (v := 0) hx hb dL_law_304 (by decide) ?_
  refine k_leW (As := [.ref (a 0), .int 6, .int 0, .int 0, .int 0]) (rest := []) (nL := 10) (WR := ([] : va_W)) (WNf := wS a cI cZ) ⟨hx, hb, hml, hown, hts⟩ hK hX hP hD hS hA (c_L_does6 l D a cI cZ _ σ 0 0 0 hfl I) [0, 1, 2, 3, 4, 5, 6, 7, 8, 9, 10, 11, 12, 13, 14, 15, 16, 17, 18, 19, 20] [] [0, 1, 2, 3, 4, 5, 6, 7, 8, 9, 10, 11, 12, 13, 14, 15, 16, 17, 18, 19, 20] rfl rfl rfl rfl rfl (by decide) (fun _ => rfl) (fun _ => rfl) rfl (vx_cwSW (hh := [(0, 101, 102, 36), (0, 101, 107, 38), (0, 101, 112, 40)]) 5 hts gL_law_L_does rfl rfl rfl (by decide +kernel) ⟨Nat.le_of_ble_eq_true rfl, Nat.le_of_ble_eq_true rfl⟩) rfl hl.1 rfl (Nat.le_of_ble_eq_true rfl) dL_law_305 ⟨show cells + 2937 + 1 + 1 + 1 + 1 + 1 + 1 + 1 ≤ 759212 by omega, show slots + 17622 + 6 + 6 + 6 + 6 + 6 + 6 + 6 ≤ 6823987 by omega⟩ (fun r u H locs hr9 hP hD hS => ?_)
  obtain ⟨e1, e2⟩ := dP_n hr9 no_pass rfl
  rw [e2] at hP hD
  subst e1
  refine lv_bipush (v := (-3)) hx hb dL_law_308 (by decide) ?_
  refine lv_icmp_ne (tgt := 328) hx hb dL_law_310 (by decide) (fun q => absurd rfl q) (fun _ => ?_)
  refine lv_aload_n hx hb dL_law_313 rfl (lv_at hl 3 rfl) ?_
  refine lv_iconst (v := (-1)) hx hb dL_law_314 (by decide) ?_
  refine lv_iconst (v := 0) hx hb dL_law_315 (by decide) ?_
  refine k_leW (As := [.ref (a 0), .int (-1), .int 0]) (rest := []) (nL := 10) (WR := ([] : va_W)) (WNf := fun _ => wS a cI cZ σ) ⟨hx, hb, hml, hown, hts⟩ hK hX hP hD hS hA (c_L_of l D a cI cZ _ σ (-1) 0 hfl I (by decide)) [0, 1, 2, 3, 4, 5, 6, 7, 8, 9, 10, 11, 12, 13, 14, 15, 16, 17, 18, 19, 20] [] [0, 1, 2, 3, 4, 5, 6, 7, 8, 9, 10, 11, 12, 13, 14, 15, 16, 17, 18, 19, 20] rfl rfl rfl rfl rfl (by decide) (fun _ => rfl) (fun _ => rfl) rfl (vx_cwSW (hh := [(0, 6, 7, 36)]) 3 hts gL_law_L_of rfl rfl rfl (by decide +kernel) ⟨Nat.le_of_ble_eq_true rfl, Nat.le_of_ble_eq_true rfl⟩) rfl hl.1 rfl (Nat.le_of_ble_eq_true rfl) dL_law_316 ⟨show cells + 2937 + 1 + 1 + 1 + 1 + 1 + 1 + 1 + 1 ≤ 759212 by omega, show slots + 17622 + 6 + 6 + 6 + 6 + 6 + 6 + 6 + 6 ≤ 6823987 by omega⟩ (fun r u H locs hr9 hP hD hS => ?_)
  have e9 := hr9.trans no_of
  clear hr9
  subst e9
  refine lv_bipush (v := (-2)) hx hb dL_law_319 (by decide) ?_
  refine lv_icmp_ne (tgt := 328) hx hb dL_law_321 (by decide) (fun q => absurd rfl q) (fun _ => ?_)
  exact K H locs (cells + 2937 + 1 + 1 + 1 + 1 + 1 + 1 + 1 + 1) (slots + 17622 + 6 + 6 + 6 + 6 + 6 + 6 + 6 + 6) ls (by omega) (by omega) hS
