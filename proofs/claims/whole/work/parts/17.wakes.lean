set_option maxHeartbeats 4000000 in
set_option maxRecDepth 100000 in
theorem c_X5_ahead (l : Launch) (D : va_G) (b : Nat → Nat) (cI cZ : ClassId) (pl : Nat → Int32) (br : Nat → Int32) (md : Nat → Int32) (tn : Nat → Int32) (sp : Nat → Int32) (we : Nat → Int32) (tw : Nat → Int32) (sl : Nat → Int32) (pr : Nat → Int32) (al : Nat → Int32) (mo : Nat → Int32) (now : Int32) (cr : Nat → Int32) (tu : Nat → Int32) (le : Nat → Int32) (to : Nat → Int32) (ia : Nat → Int32) (th : Int32) (n : Nat) (t : Nat) (g : Nat) (d : Nat) (st : Nat → Int32) (hn : n ≤ 12) (hpl : ∀ k, k < n → pl k = nI (fP pl k) ∧ fP pl k < 24) (hwe : ∀ k, we k = 0 ∨ we k = 1) (htn : tnOk n br st tn) (ht : t < n) (hg : g < 480) (hd1 : 1 ≤ d) (hd : d < 6) : kRd l yX5_ahead wsX5_ahead ({ frames := 0, cells := 0, slots := 0, locals := 0 }) [.ref (b 0), .int (nI t), .int (nI g), .int (nI d)] D cI cZ (wM b cI cZ pl br md tn (nI n) sp we tw sl pr al mo now cr tu le to ia th) (fun r => r < 0 ↔ fHits (we g) pl br st n (fP pl t) d = false) := by
  refine Met.ofW (cc := cX5_ahead) (maxL := 7) (ret := (some .int)) (by decide) rfl ?_
  intro p e s m args below meth c s₁ B hml hv
  obtain ⟨rfl, hP, hK⟩ := hv
  have hx := B.exec
  have hb := B.bytes
  have hr := B.returns
  have hts := atoms_spec (ws := wsX5_ahead) B.pre
  have hown : s.vm.findClass RX5 = some m.cls := findClass_of_methodNamed B.named
  have hlocks := B.notSynchronized
  have hl := lv_entry ([.ref (b 0), .int (nI t), .int (nI g), .int (nI d)]) (n := 7) (Nat.le_of_ble_eq_true rfl)
  rw [lg_entry_eq]
  generalize (lg_sl ([.ref (b 0), .int (nI t), .int (nI g), .int (nI d)]) ++ List.replicate (7 - (lg_sl ([.ref (b 0), .int (nI t), .int (nI g), .int (nI d)])).length) Slot.unset).toArray = ls at hl ⊢
  have hl : lv_has ls 7 [(0, .ref (b 0)), (1, .int (nI t)), (2, .int (nI g)), (3, .int (nI d))] := hl
  have hp := (hpl t ht).2
  refine lv_aload_n hx hb dX5_ahead_0 rfl (lv_at hl 0 rfl) ?_
  refine va_get (D := D) (ci := 5) (v := .ref (b 1)) (C := RX5) (T := TX5) (N := 19) hx hb hts (by decide +kernel) hown hK.1 hP 0 rfl rfl 0 (by decide) (hts (.fieldLink RX5 7 "TurbineorchardModel" "place" "[I") (by decide +kernel)) (fun _ h9 => h9) rfl dX5_ahead_1 ?_
  refine lv_iload_n hx hb dX5_ahead_4 rfl (lv_at hl 1 rfl) ?_
  refine k_iald hx hb hK.1 hP 1 0 rfl rfl t (rfl) (by omega) (by decide) dX5_ahead_5 ?_
  refine k_rw (y := nI (fP pl t)) ((hpl t ht).1) ?_
  refine lv_bipush (v := 6) hx hb dX5_ahead_6 (by decide) ?_
  refine lv_irem hx hb dX5_ahead_8 (by decide) ?_
  refine k_rw (y := nI (fP pl t % 6)) (nI_rm (by omega)) ?_
  refine lv_istore (lv' := [(4, .int (nI (fP pl t % 6))), (0, .ref (b 0)), (1, .int (nI t)), (2, .int (nI g)), (3, .int (nI d))]) hx hb dX5_ahead_9 hl (by decide) rfl (fun ls hl => ?_)
  refine lv_aload_n hx hb dX5_ahead_11 rfl (lv_at hl 1 rfl) ?_
  refine va_get (D := D) (ci := 5) (v := .ref (b 1)) (C := RX5) (T := TX5) (N := 19) hx hb hts (by decide +kernel) hown hK.1 hP 0 rfl rfl 0 (by decide) (hts (.fieldLink RX5 7 "TurbineorchardModel" "place" "[I") (by decide +kernel)) (fun _ h9 => h9) rfl dX5_ahead_12 ?_
  refine lv_iload_n hx hb dX5_ahead_15 rfl (lv_at hl 2 rfl) ?_
  refine k_iald hx hb hK.1 hP 1 0 rfl rfl t (rfl) (by omega) (by decide) dX5_ahead_16 ?_
  refine k_rw (y := nI (fP pl t)) ((hpl t ht).1) ?_
  refine lv_bipush (v := 6) hx hb dX5_ahead_17 (by decide) ?_
  refine lv_idiv hx hb dX5_ahead_19 (by decide) ?_
  refine k_rw (y := nI (fP pl t / 6)) (nI_dm (by omega)) ?_
  refine lv_istore (lv' := [(5, .int (nI (fP pl t / 6))), (4, .int (nI (fP pl t % 6))), (0, .ref (b 0)), (1, .int (nI t)), (2, .int (nI g)), (3, .int (nI d))]) hx hb dX5_ahead_20 hl (by decide) rfl (fun ls hl => ?_)
  refine lv_iload hx hb dX5_ahead_22 (lv_at hl 1 rfl) ?_
  refine lv_aload_n hx hb dX5_ahead_24 rfl (lv_at hl 2 rfl) ?_
  refine va_get (D := D) (ci := 5) (v := .ref (b 6)) (C := RX5) (T := TX5) (N := 19) hx hb hts (by decide +kernel) hown hK.1 hP 0 rfl rfl 6 (by decide) (hts (.fieldLink RX5 25 "TurbineorchardModel" "west" "[I") (by decide +kernel)) (fun _ h9 => h9) rfl dX5_ahead_25 ?_
  refine lv_iload_n hx hb dX5_ahead_28 rfl (lv_at hl 4 rfl) ?_
  refine k_iald hx hb hK.1 hP 6 0 rfl rfl g (rfl) (by omega) (by decide) dX5_ahead_29 ?_
  refine lv_iconst (v := 1) hx hb dX5_ahead_30 (by decide) ?_
  refine lv_icmp_ne (tgt := 38) hx hb dX5_ahead_31 (by decide) (fun c_31 => ?_) (fun c_31 => ?_)
  · refine lv_iconst (v := 0) hx hb dX5_ahead_38 (by decide) ?_
    refine lv_isub hx hb dX5_ahead_39 ?_
    refine lv_istore (lv' := [(4, .int ((nI (fP pl t % 6)) - 0)), (5, .int (nI (fP pl t / 6))), (0, .ref (b 0)), (1, .int (nI t)), (2, .int (nI g)), (3, .int (nI d))]) hx hb dX5_ahead_40 hl (by decide) rfl (fun ls hl => ?_)
    refine lv_iload hx hb dX5_ahead_42 (lv_at hl 1 rfl) ?_
    refine lv_aload_n hx hb dX5_ahead_44 rfl (lv_at hl 2 rfl) ?_
    refine va_get (D := D) (ci := 5) (v := .ref (b 6)) (C := RX5) (T := TX5) (N := 19) hx hb hts (by decide +kernel) hown hK.1 hP 0 rfl rfl 6 (by decide) (hts (.fieldLink RX5 25 "TurbineorchardModel" "west" "[I") (by decide +kernel)) (fun _ h9 => h9) rfl dX5_ahead_45 ?_
    refine lv_iload_n hx hb dX5_ahead_48 rfl (lv_at hl 4 rfl) ?_
    refine k_iald hx hb hK.1 hP 6 0 rfl rfl g (rfl) (by omega) (by decide) dX5_ahead_49 ?_
    refine lv_iconst (v := 1) hx hb dX5_ahead_50 (by decide) ?_
    refine lv_icmp_ne (tgt := 58) hx hb dX5_ahead_51 (by decide) (fun c_51 => ?_) (fun c_51 => ?_)
    · refine lv_iload_n hx hb dX5_ahead_58 rfl (lv_at hl 5 rfl) ?_
      refine lv_isub hx hb dX5_ahead_59 ?_
      refine lv_istore (lv' := [(5, .int ((nI (fP pl t / 6)) - (nI d))), (4, .int ((nI (fP pl t % 6)) - 0)), (0, .ref (b 0)), (1, .int (nI t)), (2, .int (nI g)), (3, .int (nI d))]) hx hb dX5_ahead_60 hl (by decide) rfl (fun ls hl => ?_)
      refine lv_iconst (v := 0) hx hb dX5_ahead_62 (by decide) ?_
      refine lv_istore (lv' := [(6, .int 0), (5, .int ((nI (fP pl t / 6)) - (nI d))), (4, .int ((nI (fP pl t % 6)) - 0)), (0, .ref (b 0)), (1, .int (nI t)), (2, .int (nI g)), (3, .int (nI d))]) hx hb dX5_ahead_63 hl (by decide) rfl (fun ls hl => ?_)
      have loop_65 : ∀ (nn : Nat) (k : Nat), n - k < nn → (k ≤ n) → (∀ i, i < k → ¬ fAw (we g) pl br st (fP pl t) i = d) → ∀ (ls : Array Slot), lv_has ls 7 [(0, .ref (b 0)), (4, .int ((nI (fP pl t % 6)) - 0)), (5, .int ((nI (fP pl t / 6)) - (nI d))), (6, .int (nI k))] → W p l e (headSpec wsX5_ahead ({ frames := 0, cells := 0, slots := 0, locals := 0 })).room s m ([.ref (b 0), .int (nI t), .int (nI g), .int (nI d)] : List Value).toArray below meth c s.heap [] 0 0 (MQ below (vp_Si (fun r => r < 0 ↔ fHits (we g) pl br st n (fP pl t) d = false)) ([.ref (b 0), .int (nI t), .int (nI g), .int (nI d)] : List Value).toArray s 0 0 (fun _ => False)) (F0 m 65 ls []) := by
        intro nn
        induction nn with
        | zero => intro k hm; exact absurd hm (by omega)
        | succ nn ih_65 =>
          intro k hm hk hi  ls hl
          refine lv_iload hx hb dX5_ahead_65 (lv_at hl 3 rfl) ?_
          refine lv_aload_n hx hb dX5_ahead_67 rfl (lv_at hl 0 rfl) ?_
          refine va_get (D := D) (ci := 5) (v := .int (nI n)) (C := RX5) (T := TX5) (N := 19) hx hb hts (by decide +kernel) hown hK.1 hP 0 rfl rfl 4 (by decide) (hts (.fieldLink RX5 62 "TurbineorchardModel" "turbines" "I") (by decide +kernel)) (fun _ h9 => h9) rfl dX5_ahead_68 ?_
          refine lv_icmp_ge (tgt := 122) hx hb dX5_ahead_71 (by decide) (fun c_71 => ?_) (fun c_71 => ?_)
          · have e8 : k = n := by have := (nI_leI (a := n) (b := k) (by omega) (by omega)).mp c_71; omega
            refine lv_iconst (v := (-1)) hx hb dX5_ahead_122 (by decide) ?_
            exact k_endR (ty := .int) hx hb hr hlocks (rfl) (⟨fun _ => hits_f (by rw [← e8]; exact hi), fun _ => by decide⟩) dX5_ahead_123
          · have c_71 : k < n := Nat.lt_of_not_le (fun h => c_71 ((nI_leI (a := n) (b := k) (by omega) (by omega)).mpr h))
            refine lv_iload hx hb dX5_ahead_74 (lv_at hl 1 rfl) ?_
            refine lv_if_lt (tgt := 116) hx hb dX5_ahead_76 (by decide) (fun c_76 => ?_) (fun c_76 => ?_)
            · refine lv_iinc (v := nI (k + 1)) (lv' := [(6, .int (nI (k + 1))), (0, .ref (b 0)), (4, .int ((nI (fP pl t % 6)) - 0)), (5, .int ((nI (fP pl t / 6)) - (nI d)))]) hx hb dX5_ahead_116 hl (k := 3) rfl (nI_1 _) (by decide) rfl (fun ls hl => ?_)
              refine lv_goto (tgt := 65) hx hb dX5_ahead_119 (by decide) ?_
              exact ih_65 (k + 1) (by omega) (by omega) (fun i hj => (Nat.lt_succ_iff_lt_or_eq.mp hj).elim (hi i) (fun e9 => by rw [e9]; exact fun z9 => ((aw_n ((hwe g).resolve_right c_31) hp (hpl k c_71).2 hd1 hd (htn k c_71)).mp z9).1.1 c_76)) _ (lv_sub hl [1, 2, 3, 0] rfl)
            · refine lv_iload hx hb dX5_ahead_79 (lv_at hl 2 rfl) ?_
              refine lv_if_lt (tgt := 116) hx hb dX5_ahead_81 (by decide) (fun c_81 => ?_) (fun c_81 => ?_)
              · refine lv_iinc (v := nI (k + 1)) (lv' := [(6, .int (nI (k + 1))), (0, .ref (b 0)), (4, .int ((nI (fP pl t % 6)) - 0)), (5, .int ((nI (fP pl t / 6)) - (nI d)))]) hx hb dX5_ahead_116 hl (k := 3) rfl (nI_1 _) (by decide) rfl (fun ls hl => ?_)
                refine lv_goto (tgt := 65) hx hb dX5_ahead_119 (by decide) ?_
                exact ih_65 (k + 1) (by omega) (by omega) (fun i hj => (Nat.lt_succ_iff_lt_or_eq.mp hj).elim (hi i) (fun e9 => by rw [e9]; exact fun z9 => ((aw_n ((hwe g).resolve_right c_31) hp (hpl k c_71).2 hd1 hd (htn k c_71)).mp z9).1.2.1 c_81)) _ (lv_sub hl [1, 2, 3, 0] rfl)
              · refine lv_aload_n hx hb dX5_ahead_84 rfl (lv_at hl 0 rfl) ?_
                refine va_get (D := D) (ci := 5) (v := .ref (b 1)) (C := RX5) (T := TX5) (N := 19) hx hb hts (by decide +kernel) hown hK.1 hP 0 rfl rfl 0 (by decide) (hts (.fieldLink RX5 7 "TurbineorchardModel" "place" "[I") (by decide +kernel)) (fun _ h9 => h9) rfl dX5_ahead_85 ?_
                refine lv_iload hx hb dX5_ahead_88 (lv_at hl 3 rfl) ?_
                refine k_iald hx hb hK.1 hP 1 0 rfl rfl k (rfl) (by omega) (by decide) dX5_ahead_90 ?_
                refine k_rw (y := nI (fP pl k)) ((hpl k c_71).1) ?_
                refine lv_bipush (v := 6) hx hb dX5_ahead_91 (by decide) ?_
                refine lv_iload hx hb dX5_ahead_93 (lv_at hl 2 rfl) ?_
                refine lv_imul hx hb dX5_ahead_95 ?_
                refine lv_iload hx hb dX5_ahead_96 (lv_at hl 1 rfl) ?_
                refine lv_iadd hx hb dX5_ahead_98 ?_
                refine lv_icmp_ne (tgt := 116) hx hb dX5_ahead_99 (by decide) (fun c_99 => ?_) (fun c_99 => ?_)
                · refine lv_iinc (v := nI (k + 1)) (lv' := [(6, .int (nI (k + 1))), (0, .ref (b 0)), (4, .int ((nI (fP pl t % 6)) - 0)), (5, .int ((nI (fP pl t / 6)) - (nI d)))]) hx hb dX5_ahead_116 hl (k := 3) rfl (nI_1 _) (by decide) rfl (fun ls hl => ?_)
                  refine lv_goto (tgt := 65) hx hb dX5_ahead_119 (by decide) ?_
                  exact ih_65 (k + 1) (by omega) (by omega) (fun i hj => (Nat.lt_succ_iff_lt_or_eq.mp hj).elim (hi i) (fun e9 => by rw [e9]; exact fun z9 => c_99 ((aw_n ((hwe g).resolve_right c_31) hp (hpl k c_71).2 hd1 hd (htn k c_71)).mp z9).1.2.2)) _ (lv_sub hl [1, 2, 3, 0] rfl)
                · refine lv_aload_n hx hb dX5_ahead_102 rfl (lv_at hl 0 rfl) ?_
                  refine va_get (D := D) (ci := 5) (v := .ref (b 4)) (C := RX5) (T := TX5) (N := 19) hx hb hts (by decide +kernel) hown hK.1 hP 0 rfl rfl 3 (by decide) (hts (.fieldLink RX5 19 "TurbineorchardModel" "turns" "[I") (by decide +kernel)) (fun _ h9 => h9) rfl dX5_ahead_103 ?_
                  refine lv_iload hx hb dX5_ahead_106 (lv_at hl 3 rfl) ?_
                  refine k_iald hx hb hK.1 hP 4 0 rfl rfl k (rfl) (by omega) (by decide) dX5_ahead_108 ?_
                  refine lv_iconst (v := 1) hx hb dX5_ahead_109 (by decide) ?_
                  refine lv_icmp_ne (tgt := 116) hx hb dX5_ahead_110 (by decide) (fun c_110 => ?_) (fun c_110 => ?_)
                  · refine lv_iinc (v := nI (k + 1)) (lv' := [(6, .int (nI (k + 1))), (0, .ref (b 0)), (4, .int ((nI (fP pl t % 6)) - 0)), (5, .int ((nI (fP pl t / 6)) - (nI d)))]) hx hb dX5_ahead_116 hl (k := 3) rfl (nI_1 _) (by decide) rfl (fun ls hl => ?_)
                    refine lv_goto (tgt := 65) hx hb dX5_ahead_119 (by decide) ?_
                    exact ih_65 (k + 1) (by omega) (by omega) (fun i hj => (Nat.lt_succ_iff_lt_or_eq.mp hj).elim (hi i) (fun e9 => by rw [e9]; exact fun z9 => c_110 ((aw_n ((hwe g).resolve_right c_31) hp (hpl k c_71).2 hd1 hd (htn k c_71)).mp z9).2)) _ (lv_sub hl [1, 2, 3, 0] rfl)
                  · refine lv_iload hx hb dX5_ahead_113 (lv_at hl 3 rfl) ?_
                    exact k_endR (ty := .int) hx hb hr hlocks (rfl) (⟨fun z9 => absurd z9 (nI_pos (by omega)), fun z9 => absurd (z9.symm.trans (hits_t c_71 ((aw_n ((hwe g).resolve_right c_31) hp (hpl k c_71).2 hd1 hd (htn k c_71)).mpr ⟨⟨c_76, c_81, c_99⟩, c_110⟩))) (by decide)⟩) dX5_ahead_115
      exact loop_65 (n - 0 + 1) 0 (by omega) (by omega) (fun i hj => absurd hj (by omega)) _ (lv_sub hl [3, 2, 1, 0] rfl)
    · exact absurd c_51 c_31
  · refine lv_iload_n hx hb dX5_ahead_34 rfl (lv_at hl 5 rfl) ?_
    refine lv_goto (tgt := 39) hx hb dX5_ahead_35 (by decide) ?_
    refine lv_isub hx hb dX5_ahead_39 ?_
    refine lv_istore (lv' := [(4, .int ((nI (fP pl t % 6)) - (nI d))), (5, .int (nI (fP pl t / 6))), (0, .ref (b 0)), (1, .int (nI t)), (2, .int (nI g)), (3, .int (nI d))]) hx hb dX5_ahead_40 hl (by decide) rfl (fun ls hl => ?_)
    refine lv_iload hx hb dX5_ahead_42 (lv_at hl 1 rfl) ?_
    refine lv_aload_n hx hb dX5_ahead_44 rfl (lv_at hl 2 rfl) ?_
    refine va_get (D := D) (ci := 5) (v := .ref (b 6)) (C := RX5) (T := TX5) (N := 19) hx hb hts (by decide +kernel) hown hK.1 hP 0 rfl rfl 6 (by decide) (hts (.fieldLink RX5 25 "TurbineorchardModel" "west" "[I") (by decide +kernel)) (fun _ h9 => h9) rfl dX5_ahead_45 ?_
    refine lv_iload_n hx hb dX5_ahead_48 rfl (lv_at hl 4 rfl) ?_
    refine k_iald hx hb hK.1 hP 6 0 rfl rfl g (rfl) (by omega) (by decide) dX5_ahead_49 ?_
    refine lv_iconst (v := 1) hx hb dX5_ahead_50 (by decide) ?_
    refine lv_icmp_ne (tgt := 58) hx hb dX5_ahead_51 (by decide) (fun c_51 => ?_) (fun c_51 => ?_)
    · exact absurd c_31 c_51
    · refine lv_iconst (v := 0) hx hb dX5_ahead_54 (by decide) ?_
      refine lv_goto (tgt := 59) hx hb dX5_ahead_55 (by decide) ?_
      refine lv_isub hx hb dX5_ahead_59 ?_
      refine lv_istore (lv' := [(5, .int ((nI (fP pl t / 6)) - 0)), (4, .int ((nI (fP pl t % 6)) - (nI d))), (0, .ref (b 0)), (1, .int (nI t)), (2, .int (nI g)), (3, .int (nI d))]) hx hb dX5_ahead_60 hl (by decide) rfl (fun ls hl => ?_)
      refine lv_iconst (v := 0) hx hb dX5_ahead_62 (by decide) ?_
      refine lv_istore (lv' := [(6, .int 0), (5, .int ((nI (fP pl t / 6)) - 0)), (4, .int ((nI (fP pl t % 6)) - (nI d))), (0, .ref (b 0)), (1, .int (nI t)), (2, .int (nI g)), (3, .int (nI d))]) hx hb dX5_ahead_63 hl (by decide) rfl (fun ls hl => ?_)
      have loop_65 : ∀ (nn : Nat) (k : Nat), n - k < nn → (k ≤ n) → (∀ i, i < k → ¬ fAw (we g) pl br st (fP pl t) i = d) → ∀ (ls : Array Slot), lv_has ls 7 [(0, .ref (b 0)), (4, .int ((nI (fP pl t % 6)) - (nI d))), (5, .int ((nI (fP pl t / 6)) - 0)), (6, .int (nI k))] → W p l e (headSpec wsX5_ahead ({ frames := 0, cells := 0, slots := 0, locals := 0 })).room s m ([.ref (b 0), .int (nI t), .int (nI g), .int (nI d)] : List Value).toArray below meth c s.heap [] 0 0 (MQ below (vp_Si (fun r => r < 0 ↔ fHits (we g) pl br st n (fP pl t) d = false)) ([.ref (b 0), .int (nI t), .int (nI g), .int (nI d)] : List Value).toArray s 0 0 (fun _ => False)) (F0 m 65 ls []) := by
        intro nn
        induction nn with
        | zero => intro k hm; exact absurd hm (by omega)
        | succ nn ih_65 =>
          intro k hm hk hi  ls hl
          refine lv_iload hx hb dX5_ahead_65 (lv_at hl 3 rfl) ?_
          refine lv_aload_n hx hb dX5_ahead_67 rfl (lv_at hl 0 rfl) ?_
          refine va_get (D := D) (ci := 5) (v := .int (nI n)) (C := RX5) (T := TX5) (N := 19) hx hb hts (by decide +kernel) hown hK.1 hP 0 rfl rfl 4 (by decide) (hts (.fieldLink RX5 62 "TurbineorchardModel" "turbines" "I") (by decide +kernel)) (fun _ h9 => h9) rfl dX5_ahead_68 ?_
          refine lv_icmp_ge (tgt := 122) hx hb dX5_ahead_71 (by decide) (fun c_71 => ?_) (fun c_71 => ?_)
          · have e8 : k = n := by have := (nI_leI (a := n) (b := k) (by omega) (by omega)).mp c_71; omega
            refine lv_iconst (v := (-1)) hx hb dX5_ahead_122 (by decide) ?_
            exact k_endR (ty := .int) hx hb hr hlocks (rfl) (⟨fun _ => hits_f (by rw [← e8]; exact hi), fun _ => by decide⟩) dX5_ahead_123
          · have c_71 : k < n := Nat.lt_of_not_le (fun h => c_71 ((nI_leI (a := n) (b := k) (by omega) (by omega)).mpr h))
            refine lv_iload hx hb dX5_ahead_74 (lv_at hl 1 rfl) ?_
            refine lv_if_lt (tgt := 116) hx hb dX5_ahead_76 (by decide) (fun c_76 => ?_) (fun c_76 => ?_)
            · refine lv_iinc (v := nI (k + 1)) (lv' := [(6, .int (nI (k + 1))), (0, .ref (b 0)), (4, .int ((nI (fP pl t % 6)) - (nI d))), (5, .int ((nI (fP pl t / 6)) - 0))]) hx hb dX5_ahead_116 hl (k := 3) rfl (nI_1 _) (by decide) rfl (fun ls hl => ?_)
              refine lv_goto (tgt := 65) hx hb dX5_ahead_119 (by decide) ?_
              exact ih_65 (k + 1) (by omega) (by omega) (fun i hj => (Nat.lt_succ_iff_lt_or_eq.mp hj).elim (hi i) (fun e9 => by rw [e9]; exact fun z9 => ((aw_w c_31 hp (hpl k c_71).2 hd1 hd (htn k c_71)).mp z9).1.1 c_76)) _ (lv_sub hl [1, 2, 3, 0] rfl)
            · refine lv_iload hx hb dX5_ahead_79 (lv_at hl 2 rfl) ?_
              refine lv_if_lt (tgt := 116) hx hb dX5_ahead_81 (by decide) (fun c_81 => ?_) (fun c_81 => ?_)
              · refine lv_iinc (v := nI (k + 1)) (lv' := [(6, .int (nI (k + 1))), (0, .ref (b 0)), (4, .int ((nI (fP pl t % 6)) - (nI d))), (5, .int ((nI (fP pl t / 6)) - 0))]) hx hb dX5_ahead_116 hl (k := 3) rfl (nI_1 _) (by decide) rfl (fun ls hl => ?_)
                refine lv_goto (tgt := 65) hx hb dX5_ahead_119 (by decide) ?_
                exact ih_65 (k + 1) (by omega) (by omega) (fun i hj => (Nat.lt_succ_iff_lt_or_eq.mp hj).elim (hi i) (fun e9 => by rw [e9]; exact fun z9 => ((aw_w c_31 hp (hpl k c_71).2 hd1 hd (htn k c_71)).mp z9).1.2.1 c_81)) _ (lv_sub hl [1, 2, 3, 0] rfl)
              · refine lv_aload_n hx hb dX5_ahead_84 rfl (lv_at hl 0 rfl) ?_
                refine va_get (D := D) (ci := 5) (v := .ref (b 1)) (C := RX5) (T := TX5) (N := 19) hx hb hts (by decide +kernel) hown hK.1 hP 0 rfl rfl 0 (by decide) (hts (.fieldLink RX5 7 "TurbineorchardModel" "place" "[I") (by decide +kernel)) (fun _ h9 => h9) rfl dX5_ahead_85 ?_
                refine lv_iload hx hb dX5_ahead_88 (lv_at hl 3 rfl) ?_
                refine k_iald hx hb hK.1 hP 1 0 rfl rfl k (rfl) (by omega) (by decide) dX5_ahead_90 ?_
                refine k_rw (y := nI (fP pl k)) ((hpl k c_71).1) ?_
                refine lv_bipush (v := 6) hx hb dX5_ahead_91 (by decide) ?_
                refine lv_iload hx hb dX5_ahead_93 (lv_at hl 2 rfl) ?_
                refine lv_imul hx hb dX5_ahead_95 ?_
                refine lv_iload hx hb dX5_ahead_96 (lv_at hl 1 rfl) ?_
                refine lv_iadd hx hb dX5_ahead_98 ?_
                refine lv_icmp_ne (tgt := 116) hx hb dX5_ahead_99 (by decide) (fun c_99 => ?_) (fun c_99 => ?_)
                · refine lv_iinc (v := nI (k + 1)) (lv' := [(6, .int (nI (k + 1))), (0, .ref (b 0)), (4, .int ((nI (fP pl t % 6)) - (nI d))), (5, .int ((nI (fP pl t / 6)) - 0))]) hx hb dX5_ahead_116 hl (k := 3) rfl (nI_1 _) (by decide) rfl (fun ls hl => ?_)
                  refine lv_goto (tgt := 65) hx hb dX5_ahead_119 (by decide) ?_
                  exact ih_65 (k + 1) (by omega) (by omega) (fun i hj => (Nat.lt_succ_iff_lt_or_eq.mp hj).elim (hi i) (fun e9 => by rw [e9]; exact fun z9 => c_99 ((aw_w c_31 hp (hpl k c_71).2 hd1 hd (htn k c_71)).mp z9).1.2.2)) _ (lv_sub hl [1, 2, 3, 0] rfl)
                · refine lv_aload_n hx hb dX5_ahead_102 rfl (lv_at hl 0 rfl) ?_
                  refine va_get (D := D) (ci := 5) (v := .ref (b 4)) (C := RX5) (T := TX5) (N := 19) hx hb hts (by decide +kernel) hown hK.1 hP 0 rfl rfl 3 (by decide) (hts (.fieldLink RX5 19 "TurbineorchardModel" "turns" "[I") (by decide +kernel)) (fun _ h9 => h9) rfl dX5_ahead_103 ?_
                  refine lv_iload hx hb dX5_ahead_106 (lv_at hl 3 rfl) ?_
                  refine k_iald hx hb hK.1 hP 4 0 rfl rfl k (rfl) (by omega) (by decide) dX5_ahead_108 ?_
                  refine lv_iconst (v := 1) hx hb dX5_ahead_109 (by decide) ?_
                  refine lv_icmp_ne (tgt := 116) hx hb dX5_ahead_110 (by decide) (fun c_110 => ?_) (fun c_110 => ?_)
                  · refine lv_iinc (v := nI (k + 1)) (lv' := [(6, .int (nI (k + 1))), (0, .ref (b 0)), (4, .int ((nI (fP pl t % 6)) - (nI d))), (5, .int ((nI (fP pl t / 6)) - 0))]) hx hb dX5_ahead_116 hl (k := 3) rfl (nI_1 _) (by decide) rfl (fun ls hl => ?_)
                    refine lv_goto (tgt := 65) hx hb dX5_ahead_119 (by decide) ?_
                    exact ih_65 (k + 1) (by omega) (by omega) (fun i hj => (Nat.lt_succ_iff_lt_or_eq.mp hj).elim (hi i) (fun e9 => by rw [e9]; exact fun z9 => c_110 ((aw_w c_31 hp (hpl k c_71).2 hd1 hd (htn k c_71)).mp z9).2)) _ (lv_sub hl [1, 2, 3, 0] rfl)
                  · refine lv_iload hx hb dX5_ahead_113 (lv_at hl 3 rfl) ?_
                    exact k_endR (ty := .int) hx hb hr hlocks (rfl) (⟨fun z9 => absurd z9 (nI_pos (by omega)), fun z9 => absurd (z9.symm.trans (hits_t c_71 ((aw_w c_31 hp (hpl k c_71).2 hd1 hd (htn k c_71)).mpr ⟨⟨c_76, c_81, c_99⟩, c_110⟩))) (by decide)⟩) dX5_ahead_115
      exact loop_65 (n - 0 + 1) 0 (by omega) (by omega) (fun i hj => absurd hj (by omega)) _ (lv_sub hl [3, 2, 1, 0] rfl)

set_option maxHeartbeats 4000000 in
set_option maxRecDepth 100000 in
theorem c_X5_windOf (l : Launch) (D : va_G) (b : Nat → Nat) (cI cZ : ClassId) (pl : Nat → Int32) (br : Nat → Int32) (md : Nat → Int32) (tn : Nat → Int32) (sp : Nat → Int32) (we : Nat → Int32) (tw : Nat → Int32) (sl : Nat → Int32) (pr : Nat → Int32) (al : Nat → Int32) (mo : Nat → Int32) (now : Int32) (cr : Nat → Int32) (tu : Nat → Int32) (le : Nat → Int32) (to : Nat → Int32) (ia : Nat → Int32) (th : Int32) (n : Nat) (t : Nat) (g : Nat) (st : Nat → Int32) (hn : n ≤ 12) (hpl : ∀ k, k < n → pl k = nI (fP pl k) ∧ fP pl k < 24) (hwe : ∀ k, we k = 0 ∨ we k = 1) (htn : tnOk n br st tn) (ht : t < n) (hg : g < 480) : kRd l yX5_windOf wsX5_windOf ({ frames := 1, cells := 0, slots := 0, locals := 26 }) [.ref (b 0), .int (nI t), .int (nI g)] D cI cZ (wM b cI cZ pl br md tn (nI n) sp we tw sl pr al mo now cr tu le to ia th) (fun r => r = fWind (we g) pl br st n (sp g) (fP pl t)) := by
  refine Met.ofW (cc := cX5_windOf) (maxL := 6) (ret := (some .int)) (by decide) rfl ?_
  intro p e s m args below meth c s₁ B hml hv
  obtain ⟨rfl, hP, hK⟩ := hv
  have hx := B.exec
  have hb := B.bytes
  have hr := B.returns
  have hts := atoms_spec (ws := wsX5_windOf) B.pre
  have hown : s.vm.findClass RX5 = some m.cls := findClass_of_methodNamed B.named
  have hlocks := B.notSynchronized
  have hl := lv_entry ([.ref (b 0), .int (nI t), .int (nI g)]) (n := 6) (Nat.le_of_ble_eq_true rfl)
  rw [lg_entry_eq]
  generalize (lg_sl ([.ref (b 0), .int (nI t), .int (nI g)]) ++ List.replicate (6 - (lg_sl ([.ref (b 0), .int (nI t), .int (nI g)])).length) Slot.unset).toArray = ls at hl ⊢
  have hl : lv_has ls 6 [(0, .ref (b 0)), (1, .int (nI t)), (2, .int (nI g))] := hl
  refine lv_aload_n hx hb dX5_windOf_0 rfl (lv_at hl 0 rfl) ?_
  refine va_get (D := D) (ci := 5) (v := .ref (b 5)) (C := RX5) (T := TX5) (N := 19) hx hb hts (by decide +kernel) hown hK.1 hP 0 rfl rfl 5 (by decide) (hts (.fieldLink RX5 22 "TurbineorchardModel" "speed" "[I") (by decide +kernel)) (fun _ h9 => h9) rfl dX5_windOf_1 ?_
  refine lv_iload_n hx hb dX5_windOf_4 rfl (lv_at hl 2 rfl) ?_
  refine k_iald hx hb hK.1 hP 5 0 rfl rfl g (rfl) (by omega) (by decide) dX5_windOf_5 ?_
  refine lv_istore_n (lv' := [(3, .int (sp g)), (0, .ref (b 0)), (1, .int (nI t)), (2, .int (nI g))]) hx hb dX5_windOf_6 rfl hl (by decide) rfl (fun ls hl => ?_)
  refine lv_iconst (v := 1) hx hb dX5_windOf_7 (by decide) ?_
  refine lv_istore (lv' := [(4, .int 1), (3, .int (sp g)), (0, .ref (b 0)), (1, .int (nI t)), (2, .int (nI g))]) hx hb dX5_windOf_8 hl (by decide) rfl (fun ls hl => ?_)
  have loop_10 : ∀ (nn : Nat) (k : Nat) (x : Int32), 5 - k < nn → (k ≤ 5) → (x = fStep (fHits (we g) pl br st n (fP pl t)) (sp g) k) → ∀ (ls : Array Slot), lv_has ls 6 [(0, .ref (b 0)), (1, .int (nI t)), (2, .int (nI g)), (3, .int x), (4, .int (nI (k + 1)))] → W p l e (headSpec wsX5_windOf ({ frames := 1, cells := 0, slots := 0, locals := 26 })).room s m ([.ref (b 0), .int (nI t), .int (nI g)] : List Value).toArray below meth c s.heap [] 0 0 (MQ below (vp_Si (fun r => r = fWind (we g) pl br st n (sp g) (fP pl t))) ([.ref (b 0), .int (nI t), .int (nI g)] : List Value).toArray s 0 0 (fun _ => False)) (F0 m 10 ls []) := by
    intro nn
    induction nn with
    | zero => intro k x hm; exact absurd hm (by omega)
    | succ nn ih_10 =>
      intro k x hm hk hx9  ls hl
      refine lv_iload hx hb dX5_windOf_10 (lv_at hl 4 rfl) ?_
      refine lv_bipush (v := 6) hx hb dX5_windOf_12 (by decide) ?_
      refine lv_icmp_ge (tgt := 74) hx hb dX5_windOf_14 (by decide) (fun c_14 => ?_) (fun c_14 => ?_)
      · have e8 : k = 5 := by have := (nI_leI (a := 6) (b := k + 1) (by omega) (by omega)).mp c_14; omega
        refine lv_iload_n hx hb dX5_windOf_74 rfl (lv_at hl 3 rfl) ?_
        exact k_endR (ty := .int) hx hb hr hlocks (rfl) (by rw [hx9, e8]; rfl) dX5_windOf_75
      · have c_14 : k < 5 := Nat.lt_of_not_le (fun z9 => c_14 ((nI_leI (a := 6) (b := k + 1) (by omega) (by omega)).mpr (by omega)))
        have join_41 :  ∀ (ls : Array Slot), lv_has ls 6 [(0, .ref (b 0)), (1, .int (nI t)), (2, .int (nI g)), (3, .int x), (4, .int (nI (k + 1)))] → W p l e (headSpec wsX5_windOf ({ frames := 1, cells := 0, slots := 0, locals := 26 })).room s m ([.ref (b 0), .int (nI t), .int (nI g)] : List Value).toArray below meth c s.heap [] 0 0 (MQ below (vp_Si (fun r => r = fWind (we g) pl br st n (sp g) (fP pl t))) ([.ref (b 0), .int (nI t), .int (nI g)] : List Value).toArray s 0 0 (fun _ => False)) (F0 m 41 ls [.int (fWake (k + 1))]) := by
          intro    ls hl
          refine lv_istore (lv' := [(5, .int (fWake (k + 1))), (0, .ref (b 0)), (1, .int (nI t)), (2, .int (nI g)), (3, .int x), (4, .int (nI (k + 1)))]) hx hb dX5_windOf_41 hl (by decide) rfl (fun ls hl => ?_)
          refine lv_iload_n hx hb dX5_windOf_43 rfl (lv_at hl 4 rfl) ?_
          refine lv_aload_n hx hb dX5_windOf_44 rfl (lv_at hl 1 rfl) ?_
          refine lv_iload_n hx hb dX5_windOf_45 rfl (lv_at hl 2 rfl) ?_
          refine lv_iload_n hx hb dX5_windOf_46 rfl (lv_at hl 3 rfl) ?_
          refine lv_iload hx hb dX5_windOf_47 (lv_at hl 5 rfl) ?_
          refine k_rd (As := [.int (nI t), .int (nI g), .int (nI (k + 1))]) (rest := [.int x]) (nL := 6) ⟨hx, hb, hml, hown, hts⟩ hK hP (c_X5_ahead l D b cI cZ pl br md tn sp we tw sl pr al mo now cr tu le to ia th n t g (k + 1) st (hn) (hpl) (hwe) (htn) (by omega) (by omega) (by omega) (by omega)) [0, 1, 2, 3, 4, 5, 6, 7, 8, 9, 10, 11, 12, 13, 14, 15, 16] rfl 0 rfl rfl rfl (cwV 3 hts gX5_windOf_X5_ahead rfl rfl rfl (by decide +kernel) ⟨Nat.le_of_ble_eq_true rfl, Nat.le_of_ble_eq_true rfl⟩) rfl hl.1 rfl (Nat.le_of_ble_eq_true rfl) dX5_windOf_49 ⟨Nat.zero_le _, Nat.zero_le _⟩ (fun r9 hr9 => ?_)
          obtain ⟨r_1, er⟩ : ∃ z, z = r9 := ⟨_, rfl⟩
          rw [← er] at hr9 ⊢
          have h49 := hr9
          refine lv_if_ge (tgt := 59) hx hb dX5_windOf_52 (by decide) (fun c_52 => ?_) (fun c_52 => ?_)
          · have h52 : (fHits (we g) pl br st n (fP pl t)) (k + 1) = true := (Bool.not_eq_false _).mp (fun z9 => absurd (h49.mpr z9) (Int32.not_lt.mpr c_52))
            refine lv_iload_n hx hb dX5_windOf_59 rfl (lv_at hl 4 rfl) ?_
            refine lv_iload hx hb dX5_windOf_60 (lv_at hl 0 rfl) ?_
            refine lv_imul hx hb dX5_windOf_62 ?_
            refine lv_bipush (v := 100) hx hb dX5_windOf_63 (by decide) ?_
            refine lv_idiv hx hb dX5_windOf_65 (by decide) ?_
            refine lv_isub hx hb dX5_windOf_66 ?_
            refine lv_istore_n (lv' := [(3, .int (x - ((x * (fWake (k + 1))) / 100))), (5, .int (fWake (k + 1))), (0, .ref (b 0)), (1, .int (nI t)), (2, .int (nI g)), (4, .int (nI (k + 1)))]) hx hb dX5_windOf_67 rfl hl (by decide) rfl (fun ls hl => ?_)
            refine lv_iinc (v := nI ((k + 1) + 1)) (lv' := [(4, .int (nI ((k + 1) + 1))), (3, .int (x - ((x * (fWake (k + 1))) / 100))), (5, .int (fWake (k + 1))), (0, .ref (b 0)), (1, .int (nI t)), (2, .int (nI g))]) hx hb dX5_windOf_68 hl (k := 5) rfl (nI_1 _) (by decide) rfl (fun ls hl => ?_)
            refine lv_goto (tgt := 10) hx hb dX5_windOf_71 (by decide) ?_
            exact ih_10 (k + 1) (x - ((x * (fWake (k + 1))) / 100)) (by omega) (by omega) (by simp only [fStep]; rw [if_pos h52, hx9]; rfl) _ (lv_sub hl [3, 4, 5, 1, 0] rfl)
          · have h52 : (fHits (we g) pl br st n (fP pl t)) (k + 1) = false := h49.mp (Int32.not_le.mp c_52)
            refine lv_iconst (v := 0) hx hb dX5_windOf_55 (by decide) ?_
            refine lv_goto (tgt := 66) hx hb dX5_windOf_56 (by decide) ?_
            refine lv_isub hx hb dX5_windOf_66 ?_
            refine lv_istore_n (lv' := [(3, .int (x - 0)), (5, .int (fWake (k + 1))), (0, .ref (b 0)), (1, .int (nI t)), (2, .int (nI g)), (4, .int (nI (k + 1)))]) hx hb dX5_windOf_67 rfl hl (by decide) rfl (fun ls hl => ?_)
            refine lv_iinc (v := nI ((k + 1) + 1)) (lv' := [(4, .int (nI ((k + 1) + 1))), (3, .int (x - 0)), (5, .int (fWake (k + 1))), (0, .ref (b 0)), (1, .int (nI t)), (2, .int (nI g))]) hx hb dX5_windOf_68 hl (k := 5) rfl (nI_1 _) (by decide) rfl (fun ls hl => ?_)
            refine lv_goto (tgt := 10) hx hb dX5_windOf_71 (by decide) ?_
            exact ih_10 (k + 1) (x - 0) (by omega) (by omega) (by simp only [fStep]; rw [if_neg (by rw [h52]; decide), hx9]; exact Int32.sub_zero _) _ (lv_sub hl [3, 4, 5, 1, 0] rfl)
        refine lv_iload hx hb dX5_windOf_17 (lv_at hl 4 rfl) ?_
        refine lv_iconst (v := 1) hx hb dX5_windOf_19 (by decide) ?_
        refine lv_icmp_ne (tgt := 28) hx hb dX5_windOf_20 (by decide) (fun c_20 => ?_) (fun c_20 => ?_)
        · have c_20 : ¬ k + 1 = 1 := fun z9 => c_20 (by rw [z9]; rfl)
          refine lv_iload hx hb dX5_windOf_28 (lv_at hl 4 rfl) ?_
          refine lv_iconst (v := 2) hx hb dX5_windOf_30 (by decide) ?_
          refine lv_icmp_ne (tgt := 39) hx hb dX5_windOf_31 (by decide) (fun c_31 => ?_) (fun c_31 => ?_)
          · have c_31 : ¬ k + 1 = 2 := fun z9 => c_31 (by rw [z9]; rfl)
            refine lv_bipush (v := 10) hx hb dX5_windOf_39 (by decide) ?_
            refine k_rw (y := fWake (k + 1)) (by unfold fWake; rw [if_neg c_20, if_neg c_31]) ?_
            exact join_41   _ (lv_sub hl [0, 1, 2, 3, 4] rfl)
          · have c_31 : k + 1 = 2 := (nI_eq (by omega) (by decide)).mp c_31
            refine lv_bipush (v := 20) hx hb dX5_windOf_34 (by decide) ?_
            refine lv_goto (tgt := 41) hx hb dX5_windOf_36 (by decide) ?_
            refine k_rw (y := fWake (k + 1)) (by unfold fWake; rw [if_neg c_20, if_pos c_31]) ?_
            exact join_41   _ (lv_sub hl [0, 1, 2, 3, 4] rfl)
        · have c_20 : k + 1 = 1 := (nI_eq (by omega) (by decide)).mp c_20
          refine lv_bipush (v := 30) hx hb dX5_windOf_23 (by decide) ?_
          refine lv_goto (tgt := 41) hx hb dX5_windOf_25 (by decide) ?_
          refine k_rw (y := fWake (k + 1)) (by unfold fWake; rw [if_pos c_20]) ?_
          exact join_41   _ (lv_sub hl [0, 1, 2, 3, 4] rfl)
  exact loop_10 (5 - 0 + 1) 0 (sp g) (by omega) (by omega) (rfl) _ (lv_sub hl [2, 3, 4, 1, 0] rfl)

set_option maxHeartbeats 4000000 in
set_option maxRecDepth 100000 in
theorem c_X5_power (l : Launch) (D : va_G) (b : Nat → Nat) (cI cZ : ClassId) (pl : Nat → Int32) (br : Nat → Int32) (md : Nat → Int32) (tn : Nat → Int32) (sp : Nat → Int32) (we : Nat → Int32) (tw : Nat → Int32) (sl : Nat → Int32) (pr : Nat → Int32) (al : Nat → Int32) (mo : Nat → Int32) (now : Int32) (cr : Nat → Int32) (tu : Nat → Int32) (le : Nat → Int32) (to : Nat → Int32) (ia : Nat → Int32) (th : Int32) (n : Nat) (t : Nat) (g : Nat) (st : Nat → Int32) (hn : n ≤ 12) (hpl : ∀ k, k < n → pl k = nI (fP pl k) ∧ fP pl k < 24) (hwe : ∀ k, we k = 0 ∨ we k = 1) (htn : tnOk n br st tn) (ht : t < n) (hg : g < 480) : kRd l yX5_power wsX5_power ({ frames := 2, cells := 0, slots := 0, locals := 51 }) [.ref (b 0), .int (nI t), .int (nI g)] D cI cZ (wM b cI cZ pl br md tn (nI n) sp we tw sl pr al mo now cr tu le to ia th) (fun r => r = fPw (we g) pl br st n (sp g) t) := by
  refine Met.ofW (cc := cX5_power) (maxL := 4) (ret := (some .int)) (by decide) rfl ?_
  intro p e s m args below meth c s₁ B hml hv
  obtain ⟨rfl, hP, hK⟩ := hv
  have hx := B.exec
  have hb := B.bytes
  have hr := B.returns
  have hts := atoms_spec (ws := wsX5_power) B.pre
  have hown : s.vm.findClass RX5 = some m.cls := findClass_of_methodNamed B.named
  have hlocks := B.notSynchronized
  have hl := lv_entry ([.ref (b 0), .int (nI t), .int (nI g)]) (n := 4) (Nat.le_of_ble_eq_true rfl)
  rw [lg_entry_eq]
  generalize (lg_sl ([.ref (b 0), .int (nI t), .int (nI g)]) ++ List.replicate (4 - (lg_sl ([.ref (b 0), .int (nI t), .int (nI g)])).length) Slot.unset).toArray = ls at hl ⊢
  have hl : lv_has ls 4 [(0, .ref (b 0)), (1, .int (nI t)), (2, .int (nI g))] := hl
  refine lv_aload_n hx hb dX5_power_0 rfl (lv_at hl 0 rfl) ?_
  refine lv_iload_n hx hb dX5_power_1 rfl (lv_at hl 1 rfl) ?_
  refine lv_iload_n hx hb dX5_power_2 rfl (lv_at hl 2 rfl) ?_
  refine k_rd (As := [.int (nI t), .int (nI g)]) (rest := []) (nL := 4) ⟨hx, hb, hml, hown, hts⟩ hK hP (c_X5_windOf l D b cI cZ pl br md tn sp we tw sl pr al mo now cr tu le to ia th n t g st (hn) (hpl) (hwe) (htn) (by omega) (by omega)) [0, 1, 2, 3, 4, 5, 6, 7, 8, 9, 10, 11, 12, 13, 14, 15, 16] rfl 0 rfl rfl rfl (cwV 2 hts gX5_power_X5_windOf rfl rfl rfl (by decide +kernel) ⟨Nat.le_of_ble_eq_true rfl, Nat.le_of_ble_eq_true rfl⟩) rfl hl.1 rfl (Nat.le_of_ble_eq_true rfl) dX5_power_3 ⟨Nat.zero_le _, Nat.zero_le _⟩ (fun r9 hr9 => ?_)
  subst hr9
  refine lv_istore_n (lv' := [(3, .int (fWind (we g) pl br st n (sp g) (fP pl t))), (0, .ref (b 0)), (1, .int (nI t)), (2, .int (nI g))]) hx hb dX5_power_6 rfl hl (by decide) rfl (fun ls hl => ?_)
  refine lv_aload_n hx hb dX5_power_7 rfl (lv_at hl 1 rfl) ?_
  refine va_get (D := D) (ci := 5) (v := .ref (b 4)) (C := RX5) (T := TX5) (N := 19) hx hb hts (by decide +kernel) hown hK.1 hP 0 rfl rfl 3 (by decide) (hts (.fieldLink RX5 19 "TurbineorchardModel" "turns" "[I") (by decide +kernel)) (fun _ h9 => h9) rfl dX5_power_8 ?_
  refine lv_iload_n hx hb dX5_power_11 rfl (lv_at hl 2 rfl) ?_
  refine k_iald hx hb hK.1 hP 4 0 rfl rfl t (rfl) (by omega) (by decide) dX5_power_12 ?_
  refine lv_if_eq (tgt := 27) hx hb dX5_power_13 (by decide) (fun c_13 => ?_) (fun c_13 => ?_)
  · refine lv_iconst (v := 0) hx hb dX5_power_27 (by decide) ?_
    exact k_endR (ty := .int) hx hb hr hlocks (rfl) (by unfold fPw; rw [if_neg ((htn t ht).elim (fun z9 => absurd (z9.1.symm.trans c_13) (by decide)) (fun z9 => z9.2))]) dX5_power_28
  · refine lv_iload_n hx hb dX5_power_16 rfl (lv_at hl 0 rfl) ?_
    refine lv_iconst (v := 4) hx hb dX5_power_17 (by decide) ?_
    refine lv_icmp_lt (tgt := 27) hx hb dX5_power_18 (by decide) (fun c_18 => ?_) (fun c_18 => ?_)
    · refine lv_iconst (v := 0) hx hb dX5_power_27 (by decide) ?_
      exact k_endR (ty := .int) hx hb hr hlocks (rfl) (by unfold fPw; rw [if_pos ((htn t ht).elim (fun z9 => z9.2) (fun z9 => absurd z9.1 c_13))]; unfold fPow; rw [if_neg (fun z9 => absurd z9.1 (Int32.not_le.mpr c_18))]) dX5_power_28
    · refine lv_iload_n hx hb dX5_power_21 rfl (lv_at hl 0 rfl) ?_
      refine lv_bipush (v := 25) hx hb dX5_power_22 (by decide) ?_
      refine lv_icmp_le (tgt := 29) hx hb dX5_power_24 (by decide) (fun c_24 => ?_) (fun c_24 => ?_)
      · refine lv_iload_n hx hb dX5_power_29 rfl (lv_at hl 0 rfl) ?_
        refine lv_iload_n hx hb dX5_power_30 rfl (lv_at hl 0 rfl) ?_
        refine lv_imul hx hb dX5_power_31 ?_
        refine lv_iload_n hx hb dX5_power_32 rfl (lv_at hl 0 rfl) ?_
        refine lv_imul hx hb dX5_power_33 ?_
        refine lv_sipush (v := 2000) hx hb dX5_power_34 (by decide) ?_
        refine lv_icmp_le (tgt := 46) hx hb dX5_power_37 (by decide) (fun c_37 => ?_) (fun c_37 => ?_)
        · refine lv_iload_n hx hb dX5_power_46 rfl (lv_at hl 0 rfl) ?_
          refine lv_iload_n hx hb dX5_power_47 rfl (lv_at hl 0 rfl) ?_
          refine lv_imul hx hb dX5_power_48 ?_
          refine lv_iload_n hx hb dX5_power_49 rfl (lv_at hl 0 rfl) ?_
          refine lv_imul hx hb dX5_power_50 ?_
          exact k_endR (ty := .int) hx hb hr hlocks (rfl) (by unfold fPw; rw [if_pos ((htn t ht).elim (fun z9 => z9.2) (fun z9 => absurd z9.1 c_13))]; unfold fPow; rw [if_pos ⟨Int32.not_lt.mp c_18, c_24⟩, if_neg (Int32.not_lt.mpr c_37)]) dX5_power_51
        · refine lv_sipush (v := 2000) hx hb dX5_power_40 (by decide) ?_
          refine lv_goto (tgt := 51) hx hb dX5_power_43 (by decide) ?_
          exact k_endR (ty := .int) hx hb hr hlocks (rfl) (by unfold fPw; rw [if_pos ((htn t ht).elim (fun z9 => z9.2) (fun z9 => absurd z9.1 c_13))]; unfold fPow; rw [if_pos ⟨Int32.not_lt.mp c_18, c_24⟩, if_pos (Int32.not_le.mp c_37)]) dX5_power_51
      · refine lv_iconst (v := 0) hx hb dX5_power_27 (by decide) ?_
        exact k_endR (ty := .int) hx hb hr hlocks (rfl) (by unfold fPw; rw [if_pos ((htn t ht).elim (fun z9 => z9.2) (fun z9 => absurd z9.1 c_13))]; unfold fPow; rw [if_neg (fun z9 => c_24 z9.2)]) dX5_power_28

set_option maxHeartbeats 4000000 in
set_option maxRecDepth 100000 in
theorem c_X5_allTurn (l : Launch) (D : va_G) (b : Nat → Nat) (cI cZ : ClassId) (sz : Nat) (pl : Nat → Int32) (br : Nat → Int32) (md : Nat → Int32) (tn : Nat → Int32) (sp : Nat → Int32) (we : Nat → Int32) (tw : Nat → Int32) (sl : Nat → Int32) (pr : Nat → Int32) (al : Nat → Int32) (mo : Nat → Int32) (now : Int32) (cr : Nat → Int32) (tu : Nat → Int32) (le : Nat → Int32) (to : Nat → Int32) (ia : Nat → Int32) (th : Int32) (n : Nat) (hn : n ≤ 12) : kUv l yX5_allTurn wsX5_allTurn ({ frames := 0, cells := 0, slots := 0, locals := 0 }) [.ref (b 0)] D cI cZ sz (wM b cI cZ pl br md tn (nI n) sp we tw sl pr al mo now cr tu le to ia th) (wM b cI cZ pl br md (fTnAll n br tn n) (nI n) sp we tw sl pr al mo now cr tu le to ia th) := by
  refine Met.ofW (cc := cX5_allTurn) (maxL := 2) (ret := none) (by decide) rfl ?_
  intro p e s m args below meth c s₁ B hml hv
  obtain ⟨rfl, hsz, hP, hK, hD0⟩ := hv
  have hx := B.exec
  have hb := B.bytes
  have hr := B.returns
  have hts := atoms_spec (ws := wsX5_allTurn) B.pre
  have hown : s.vm.findClass RX5 = some m.cls := findClass_of_methodNamed B.named
  have hlocks := B.notSynchronized
  subst hsz
  have hD := hD0.self (sz := s.heap.size)
  generalize hAe : va_A (wM b cI cZ pl br md tn (nI n) sp we tw sl pr al mo now cr tu le to ia th) s.heap.size = A at hD ⊢
  have hA : ∀ q : Nat, s.heap.size ≤ q → A q := fun q h => by rw [← hAe]; exact Or.inr h
  have hS : va_S A s.heap s.heap [] := va_S.rf
  have hl := lv_entry ([.ref (b 0)]) (n := 2) (Nat.le_of_ble_eq_true rfl)
  rw [lg_entry_eq]
  generalize (lg_sl ([.ref (b 0)]) ++ List.replicate (2 - (lg_sl ([.ref (b 0)])).length) Slot.unset).toArray = ls at hl ⊢
  have hl : lv_has ls 2 [(0, .ref (b 0))] := hl
  refine lv_iconst (v := 0) hx hb dX5_allTurn_0 (by decide) ?_
  have e9 : tn = (fTnAll n br tn 0) := fTnAll_0
  rw [e9] at hP hD
  clear e9
  refine lv_istore_n (lv' := [(1, .int 0), (0, .ref (b 0))]) hx hb dX5_allTurn_1 rfl hl (by decide) rfl (fun ls hl => ?_)
  have loop_2 : ∀ (nn : Nat) (k : Nat), n - k < nn → (k ≤ n) → ∀ (H : Heap) (locs : List Loc), va_P D vwCl (wM b cI cZ pl br md (fTnAll n br tn k) (nI n) sp we tw sl pr al mo now cr tu le to ia th) H → va_D A (wM b cI cZ pl br md (fTnAll n br tn k) (nI n) sp we tw sl pr al mo now cr tu le to ia th) → va_S A s.heap H locs → ∀ (ls : Array Slot), lv_has ls 2 [(0, .ref (b 0)), (1, .int (nI k))] → W p l e (headSpec wsX5_allTurn ({ frames := 0, cells := 0, slots := 0, locals := 0 })).room s m ([.ref (b 0)] : List Value).toArray below meth c H locs 0 0 (MQ below (va_Qv (fun _ : Unit => True) (fun _ t9 => kAt D A (wM b cI cZ pl br md (fTnAll n br tn n) (nI n) sp we tw sl pr al mo now cr tu le to ia th) t9) A) ([.ref (b 0)] : List Value).toArray s 0 0 A) (F0 m 2 ls []) := by
    intro nn
    induction nn with
    | zero => intro k hm; exact absurd hm (by omega)
    | succ nn ih_2 =>
      intro k hm hk H locs hP hD hS ls hl
      refine lv_iload_n hx hb dX5_allTurn_2 rfl (lv_at hl 1 rfl) ?_
      refine lv_aload_n hx hb dX5_allTurn_3 rfl (lv_at hl 0 rfl) ?_
      refine va_get (D := D) (ci := 5) (v := .int (nI n)) (C := RX5) (T := TX5) (N := 19) hx hb hts (by decide +kernel) hown hK.1 hP 0 rfl rfl 4 (by decide) (hts (.fieldLink RX5 62 "TurbineorchardModel" "turbines" "I") (by decide +kernel)) (fun _ h9 => h9) rfl dX5_allTurn_4 ?_
      refine lv_icmp_ge (tgt := 30) hx hb dX5_allTurn_7 (by decide) (fun c_7 => ?_) (fun c_7 => ?_)
      · have e8 : k = n := by have := (nI_leI (a := n) (b := k) (by omega) (by omega)).mp c_7; omega
        rw [e8] at hP hD
        exact k_endV (sz := 0) hx hb hr hlocks hP hD hS dX5_allTurn_30
      · have c_7 : k < n := Nat.lt_of_not_le (fun h => c_7 ((nI_leI (a := n) (b := k) (by omega) (by omega)).mpr h))
        refine lv_aload_n hx hb dX5_allTurn_10 rfl (lv_at hl 0 rfl) ?_
        refine va_get (D := D) (ci := 5) (v := .ref (b 4)) (C := RX5) (T := TX5) (N := 19) hx hb hts (by decide +kernel) hown hK.1 hP 0 rfl rfl 3 (by decide) (hts (.fieldLink RX5 19 "TurbineorchardModel" "turns" "[I") (by decide +kernel)) (fun _ h9 => h9) rfl dX5_allTurn_11 ?_
        refine lv_iload_n hx hb dX5_allTurn_14 rfl (lv_at hl 1 rfl) ?_
        refine lv_iconst (v := 1) hx hb dX5_allTurn_15 (by decide) ?_
        refine lv_aload_n hx hb dX5_allTurn_16 rfl (lv_at hl 0 rfl) ?_
        refine va_get (D := D) (ci := 5) (v := .ref (b 2)) (C := RX5) (T := TX5) (N := 19) hx hb hts (by decide +kernel) hown hK.1 hP 0 rfl rfl 1 (by decide) (hts (.fieldLink RX5 13 "TurbineorchardModel" "broken" "[I") (by decide +kernel)) (fun _ h9 => h9) rfl dX5_allTurn_17 ?_
        refine lv_iload_n hx hb dX5_allTurn_20 rfl (lv_at hl 1 rfl) ?_
        refine k_iald hx hb hK.1 hP 2 0 rfl rfl k (rfl) (by omega) (by decide) dX5_allTurn_21 ?_
        refine lv_isub hx hb dX5_allTurn_22 ?_
        refine k_iast hx hb hK.1 hP hD hS 4 0 rfl rfl k (rfl) (by omega) (by decide) dX5_allTurn_23 (fun H locs hP hD hS => ?_)
        have hP : va_P D vwCl (wM b cI cZ pl br md (upd (fTnAll n br tn k) k (1 - (br k))) (nI n) sp we tw sl pr al mo now cr tu le to ia th) H := hP
        have hD : va_D A (wM b cI cZ pl br md (upd (fTnAll n br tn k) k (1 - (br k))) (nI n) sp we tw sl pr al mo now cr tu le to ia th) := hD
        have e9 : (upd (fTnAll n br tn k) k (1 - (br k))) = (fTnAll n br tn (k + 1)) := fTnAll_1
        rw [e9] at hP hD
        clear e9
        refine lv_iinc (v := nI (k + 1)) (lv' := [(1, .int (nI (k + 1))), (0, .ref (b 0))]) hx hb dX5_allTurn_24 hl (k := 1) rfl (nI_1 _) (by decide) rfl (fun ls hl => ?_)
        refine lv_goto (tgt := 2) hx hb dX5_allTurn_27 (by decide) ?_
        exact ih_2 (k + 1) (by omega) (by omega) _ _ hP hD hS _ (lv_sub hl [1, 0] rfl)
  exact loop_2 (n - 0 + 1) 0 (by omega) (by omega) _ _ hP hD hS _ (lv_sub hl [1, 0] rfl)

set_option maxHeartbeats 4000000 in
set_option maxRecDepth 100000 in
theorem c_X5_areBeside (l : Launch) (b0 : Nat) (q : Nat) (u : Nat) (hq : q < 24) (hr0 : u < 24) : kPs l yX5_areBeside wsX5_areBeside ({ frames := 0, cells := 0, slots := 0, locals := 0 }) [.ref b0, .int (nI q), .int (nI u)] (fun r => r = bI ((q % 6 = u % 6 ∧ (q / 6 = u / 6 + 1 ∨ u / 6 = q / 6 + 1)) ∨ (q / 6 = u / 6 ∧ (q % 6 = u % 6 + 1 ∨ u % 6 = q % 6 + 1)))) := by
  refine Met.ofW (cc := cX5_areBeside) (maxL := 5) (ret := (some .boolean)) (by decide) rfl ?_
  intro p e s m args below meth c s₁ B hml hv
  obtain ⟨rfl, -⟩ := hv
  have hx := B.exec
  have hb := B.bytes
  have hr := B.returns
  have hts := atoms_spec (ws := wsX5_areBeside) B.pre
  have hown : s.vm.findClass RX5 = some m.cls := findClass_of_methodNamed B.named
  have hlocks := B.notSynchronized
  have hl := lv_entry ([.ref b0, .int (nI q), .int (nI u)]) (n := 5) (Nat.le_of_ble_eq_true rfl)
  rw [lg_entry_eq]
  generalize (lg_sl ([.ref b0, .int (nI q), .int (nI u)]) ++ List.replicate (5 - (lg_sl ([.ref b0, .int (nI q), .int (nI u)])).length) Slot.unset).toArray = ls at hl ⊢
  have hl : lv_has ls 5 [(0, .ref b0), (1, .int (nI q)), (2, .int (nI u))] := hl
  refine lv_iload_n hx hb dX5_areBeside_0 rfl (lv_at hl 1 rfl) ?_
  refine lv_bipush (v := 6) hx hb dX5_areBeside_1 (by decide) ?_
  refine lv_irem hx hb dX5_areBeside_3 (by decide) ?_
  refine k_rw (y := nI (q % 6)) (nI_rm (by omega)) ?_
  refine lv_iload_n hx hb dX5_areBeside_4 rfl (lv_at hl 2 rfl) ?_
  refine lv_bipush (v := 6) hx hb dX5_areBeside_5 (by decide) ?_
  refine lv_irem hx hb dX5_areBeside_7 (by decide) ?_
  refine k_rw (y := nI (u % 6)) (nI_rm (by omega)) ?_
  refine lv_isub hx hb dX5_areBeside_8 ?_
  refine lv_istore_n (lv' := [(3, .int ((nI (q % 6)) - (nI (u % 6)))), (0, .ref b0), (1, .int (nI q)), (2, .int (nI u))]) hx hb dX5_areBeside_9 rfl hl (by decide) rfl (fun ls hl => ?_)
  refine lv_iload_n hx hb dX5_areBeside_10 rfl (lv_at hl 2 rfl) ?_
  refine lv_bipush (v := 6) hx hb dX5_areBeside_11 (by decide) ?_
  refine lv_idiv hx hb dX5_areBeside_13 (by decide) ?_
  refine k_rw (y := nI (q / 6)) (nI_dm (by omega)) ?_
  refine lv_iload_n hx hb dX5_areBeside_14 rfl (lv_at hl 3 rfl) ?_
  refine lv_bipush (v := 6) hx hb dX5_areBeside_15 (by decide) ?_
  refine lv_idiv hx hb dX5_areBeside_17 (by decide) ?_
  refine k_rw (y := nI (u / 6)) (nI_dm (by omega)) ?_
  refine lv_isub hx hb dX5_areBeside_18 ?_
  refine lv_istore (lv' := [(4, .int ((nI (q / 6)) - (nI (u / 6)))), (3, .int ((nI (q % 6)) - (nI (u % 6)))), (0, .ref b0), (1, .int (nI q)), (2, .int (nI u))]) hx hb dX5_areBeside_19 hl (by decide) rfl (fun ls hl => ?_)
  refine lv_iload_n hx hb dX5_areBeside_21 rfl (lv_at hl 1 rfl) ?_
  refine lv_iload_n hx hb dX5_areBeside_22 rfl (lv_at hl 1 rfl) ?_
  refine lv_imul hx hb dX5_areBeside_23 ?_
  refine lv_iload hx hb dX5_areBeside_24 (lv_at hl 0 rfl) ?_
  refine lv_iload hx hb dX5_areBeside_26 (lv_at hl 0 rfl) ?_
  refine lv_imul hx hb dX5_areBeside_28 ?_
  refine lv_iadd hx hb dX5_areBeside_29 ?_
  refine lv_iconst (v := 1) hx hb dX5_areBeside_30 (by decide) ?_
  refine lv_icmp_ne (tgt := 38) hx hb dX5_areBeside_31 (by decide) (fun c_31 => ?_) (fun c_31 => ?_)
  · refine lv_iconst (v := 0) hx hb dX5_areBeside_38 (by decide) ?_
    exact k_endR (ty := .boolean) hx hb hr hlocks (rfl) ((bI_f (fun z9 => c_31 ((beside_dec q hq u hr0).mpr z9))).symm) dX5_areBeside_39
  · refine lv_iconst (v := 1) hx hb dX5_areBeside_34 (by decide) ?_
    refine lv_goto (tgt := 39) hx hb dX5_areBeside_35 (by decide) ?_
    exact k_endR (ty := .boolean) hx hb hr hlocks (rfl) ((bI_t ((beside_dec q hq u hr0).mp c_31)).symm) dX5_areBeside_39

set_option maxHeartbeats 4000000 in
set_option maxRecDepth 100000 in
theorem c_X5_repairs (l : Launch) (D : va_G) (b : Nat → Nat) (cI cZ : ClassId) (sz : Nat) (pl : Nat → Int32) (br : Nat → Int32) (md : Nat → Int32) (tn : Nat → Int32) (sp : Nat → Int32) (we : Nat → Int32) (tw : Nat → Int32) (sl : Nat → Int32) (pr : Nat → Int32) (al : Nat → Int32) (mo : Nat → Int32) (now : Int32) (cr : Nat → Int32) (tu : Nat → Int32) (le : Nat → Int32) (to : Nat → Int32) (ia : Nat → Int32) (th : Int32) (n : Nat) (g : Nat) (hn : n ≤ 12) (hpl : ∀ k, k < n → pl k = nI (fP pl k) ∧ fP pl k < 24) (htw : ∀ k, tw k = -1 ∨ 0 ≤ tw k) (htu : ∀ b, b < 3 → ¬ tu b = -1 → tu b = nI (fP tu b) ∧ fP tu b < n) (hg : g < 480) : kUv l yX5_repairs wsX5_repairs ({ frames := 1, cells := 0, slots := 0, locals := 24 }) [.ref (b 0), .int (nI g)] D cI cZ sz (wM b cI cZ pl br md tn (nI n) sp we tw sl pr al mo now cr tu le to ia th) (wM b cI cZ pl br md (fTnW n pl tu (fTnAll n br tn n) (fWk (fWaves sp tw g) tu cr to) 3) (nI n) sp we tw sl pr al mo now cr tu (fDec le (fWk (fWaves sp tw g) tu cr to) 3) (fInc to (fWk (fWaves sp tw g) tu cr to) 3) (fInc ia (fWk (fWaves sp tw g) tu cr to) 3) th) := by
  refine Met.ofW (cc := cX5_repairs) (maxL := 4) (ret := none) (by decide) rfl ?_
  intro p e s m args below meth c s₁ B hml hv
  obtain ⟨rfl, hsz, hP, hK, hD0⟩ := hv
  have hx := B.exec
  have hb := B.bytes
  have hr := B.returns
  have hts := atoms_spec (ws := wsX5_repairs) B.pre
  have hown : s.vm.findClass RX5 = some m.cls := findClass_of_methodNamed B.named
  have hlocks := B.notSynchronized
  subst hsz
  have hD := hD0.self (sz := s.heap.size)
  generalize hAe : va_A (wM b cI cZ pl br md tn (nI n) sp we tw sl pr al mo now cr tu le to ia th) s.heap.size = A at hD ⊢
  have hA : ∀ q : Nat, s.heap.size ≤ q → A q := fun q h => by rw [← hAe]; exact Or.inr h
  have hS : va_S A s.heap s.heap [] := va_S.rf
  have hl := lv_entry ([.ref (b 0), .int (nI g)]) (n := 4) (Nat.le_of_ble_eq_true rfl)
  rw [lg_entry_eq]
  generalize (lg_sl ([.ref (b 0), .int (nI g)]) ++ List.replicate (4 - (lg_sl ([.ref (b 0), .int (nI g)])).length) Slot.unset).toArray = ls at hl ⊢
  have hl : lv_has ls 4 [(0, .ref (b 0)), (1, .int (nI g))] := hl
  refine lv_aload_n hx hb dX5_repairs_0 rfl (lv_at hl 0 rfl) ?_
  refine k_uv (WR := []) (WN := (wM b cI cZ pl br md (fTnAll n br tn n) (nI n) sp we tw sl pr al mo now cr tu le to ia th)) (As := []) (rest := []) (nL := 4) ⟨hx, hb, hml, hown, hts⟩ hK hP hD hS hA (c_X5_allTurn l D b cI cZ _ pl br md tn sp we tw sl pr al mo now cr tu le to ia th n (hn)) [0, 1, 2, 3, 4, 5, 6, 7, 8, 9, 10, 11, 12, 13, 14, 15, 16] [] [0, 1, 2, 3, 4, 5, 6, 7, 8, 9, 10, 11, 12, 13, 14, 15, 16] rfl rfl (by decide) rfl (by decide) (by decide) rfl rfl (by decide) 0 rfl rfl rfl (cwV 0 hts gX5_repairs_X5_allTurn rfl rfl rfl (by decide +kernel) ⟨Nat.le_of_ble_eq_true rfl, Nat.le_of_ble_eq_true rfl⟩) rfl hl.1 rfl (Nat.le_of_ble_eq_true rfl) dX5_repairs_1 ⟨Nat.zero_le _, Nat.zero_le _⟩ (fun H locs hP hD hS => ?_)
  refine lv_iconst (v := 0) hx hb dX5_repairs_4 (by decide) ?_
  have e9 : to = (fInc to (fWk (fWaves sp tw g) tu cr to) 0) := (fInc_0 _ _).symm
  rw [e9] at hP hD
  clear e9
  have e9 : le = (fDec le (fWk (fWaves sp tw g) tu cr to) 0) := (fDec_0 _ _).symm
  rw [e9] at hP hD
  clear e9
  have e9 : ia = (fInc ia (fWk (fWaves sp tw g) tu cr to) 0) := (fInc_0 _ _).symm
  rw [e9] at hP hD
  clear e9
  have e9 : (fTnAll n br tn n) = (fTnW n pl tu (fTnAll n br tn n) (fWk (fWaves sp tw g) tu cr to) 0) := rfl
  rw [e9] at hP hD
  clear e9
  refine lv_istore_n (lv' := [(2, .int 0), (0, .ref (b 0)), (1, .int (nI g))]) hx hb dX5_repairs_5 rfl hl (by decide) rfl (fun ls hl => ?_)
  have loop_6 : ∀ (nn : Nat) (k : Nat), 3 - k < nn → (k ≤ 3) → ∀ (H : Heap) (locs : List Loc), va_P D vwCl (wM b cI cZ pl br md (fTnW n pl tu (fTnAll n br tn n) (fWk (fWaves sp tw g) tu cr to) k) (nI n) sp we tw sl pr al mo now cr tu (fDec le (fWk (fWaves sp tw g) tu cr to) k) (fInc to (fWk (fWaves sp tw g) tu cr to) k) (fInc ia (fWk (fWaves sp tw g) tu cr to) k) th) H → va_D A (wM b cI cZ pl br md (fTnW n pl tu (fTnAll n br tn n) (fWk (fWaves sp tw g) tu cr to) k) (nI n) sp we tw sl pr al mo now cr tu (fDec le (fWk (fWaves sp tw g) tu cr to) k) (fInc to (fWk (fWaves sp tw g) tu cr to) k) (fInc ia (fWk (fWaves sp tw g) tu cr to) k) th) → va_S A s.heap H locs → ∀ (ls : Array Slot), lv_has ls 4 [(0, .ref (b 0)), (1, .int (nI g)), (2, .int (nI k))] → W p l e (headSpec wsX5_repairs ({ frames := 1, cells := 0, slots := 0, locals := 24 })).room s m ([.ref (b 0), .int (nI g)] : List Value).toArray below meth c H locs 0 0 (MQ below (va_Qv (fun _ : Unit => True) (fun _ t9 => kAt D A (wM b cI cZ pl br md (fTnW n pl tu (fTnAll n br tn n) (fWk (fWaves sp tw g) tu cr to) 3) (nI n) sp we tw sl pr al mo now cr tu (fDec le (fWk (fWaves sp tw g) tu cr to) 3) (fInc to (fWk (fWaves sp tw g) tu cr to) 3) (fInc ia (fWk (fWaves sp tw g) tu cr to) 3) th) t9) A) ([.ref (b 0), .int (nI g)] : List Value).toArray s 0 0 A) (F0 m 6 ls []) := by
    intro nn
    induction nn with
    | zero => intro k hm; exact absurd hm (by omega)
    | succ nn ih_6 =>
      intro k hm hk H locs hP hD hS ls hl
      refine lv_iload_n hx hb dX5_repairs_6 rfl (lv_at hl 2 rfl) ?_
      refine lv_iconst (v := 3) hx hb dX5_repairs_7 (by decide) ?_
      refine lv_icmp_ge (tgt := 136) hx hb dX5_repairs_8 (by decide) (fun c_8 => ?_) (fun c_8 => ?_)
      · have e8 : k = 3 := by have := (nI_leI (a := 3) (b := k) (by omega) (by omega)).mp c_8; omega
        subst e8
        exact k_endV (sz := 0) hx hb hr hlocks hP hD hS dX5_repairs_136
      · have c_8 : k < 3 := Nat.lt_of_not_le (fun h => c_8 ((nI_leI (a := 3) (b := k) (by omega) (by omega)).mpr h))
        refine lv_aload_n hx hb dX5_repairs_11 rfl (lv_at hl 0 rfl) ?_
        refine va_get (D := D) (ci := 5) (v := .ref (b 13)) (C := RX5) (T := TX5) (N := 19) hx hb hts (by decide +kernel) hown hK.1 hP 0 rfl rfl 14 (by decide) (hts (.fieldLink RX5 46 "TurbineorchardModel" "at" "[I") (by decide +kernel)) (fun _ h9 => h9) rfl dX5_repairs_12 ?_
        refine lv_iload_n hx hb dX5_repairs_15 rfl (lv_at hl 2 rfl) ?_
        refine k_iald hx hb hK.1 hP 13 0 rfl rfl k (rfl) (by omega) (by decide) dX5_repairs_16 ?_
        refine lv_if_lt (tgt := 130) hx hb dX5_repairs_17 (by decide) (fun c_17 => ?_) (fun c_17 => ?_)
        · have c9 : (fWk (fWaves sp tw g) tu cr to) k = false := decide_eq_false (fun z9 => absurd c_17 (by rw [(htu k c_8 z9.2.1).1]; exact nI_pos (by have := (htu k c_8 z9.2.1).2; omega)))
          have e9 : (fDec le (fWk (fWaves sp tw g) tu cr to) k) = (fDec le (fWk (fWaves sp tw g) tu cr to) (k + 1)) := fDec_f c9
          rw [e9] at hP hD
          clear e9
          have e9 : (fInc to (fWk (fWaves sp tw g) tu cr to) k) = (fInc to (fWk (fWaves sp tw g) tu cr to) (k + 1)) := fInc_f c9
          rw [e9] at hP hD
          clear e9
          have e9 : (fInc ia (fWk (fWaves sp tw g) tu cr to) k) = (fInc ia (fWk (fWaves sp tw g) tu cr to) (k + 1)) := fInc_f c9
          rw [e9] at hP hD
          clear e9
          have e9 : (fTnW n pl tu (fTnAll n br tn n) (fWk (fWaves sp tw g) tu cr to) (k + 1)) = (fTnW n pl tu (fTnAll n br tn n) (fWk (fWaves sp tw g) tu cr to) k) := by rw [show fTnW n pl tu (fTnAll n br tn n) (fWk (fWaves sp tw g) tu cr to) (k + 1) = if (fWk (fWaves sp tw g) tu cr to) k = true then _ else _ from rfl, if_neg (by rw [c9]; decide)]
          have hP : va_P D vwCl (wM b cI cZ pl br md (fTnW n pl tu (fTnAll n br tn n) (fWk (fWaves sp tw g) tu cr to) (k + 1)) (nI n) sp we tw sl pr al mo now cr tu (fDec le (fWk (fWaves sp tw g) tu cr to) (k + 1)) (fInc to (fWk (fWaves sp tw g) tu cr to) (k + 1)) (fInc ia (fWk (fWaves sp tw g) tu cr to) (k + 1)) th) H := by rw [e9]; exact hP
          have hD : va_D A (wM b cI cZ pl br md (fTnW n pl tu (fTnAll n br tn n) (fWk (fWaves sp tw g) tu cr to) (k + 1)) (nI n) sp we tw sl pr al mo now cr tu (fDec le (fWk (fWaves sp tw g) tu cr to) (k + 1)) (fInc to (fWk (fWaves sp tw g) tu cr to) (k + 1)) (fInc ia (fWk (fWaves sp tw g) tu cr to) (k + 1)) th) := by rw [e9]; exact hD
          clear e9
          refine lv_iinc (v := nI (k + 1)) (lv' := [(2, .int (nI (k + 1))), (0, .ref (b 0)), (1, .int (nI g))]) hx hb dX5_repairs_130 hl (k := 2) rfl (nI_1 _) (by decide) rfl (fun ls hl => ?_)
          refine lv_goto (tgt := 6) hx hb dX5_repairs_133 (by decide) ?_
          exact ih_6 (k + 1) (by omega) (by omega) _ _ hP hD hS _ (lv_sub hl [1, 2, 0] rfl)
        · refine lv_aload_n hx hb dX5_repairs_20 rfl (lv_at hl 0 rfl) ?_
          refine lv_iload_n hx hb dX5_repairs_21 rfl (lv_at hl 1 rfl) ?_
          refine k_rd (As := [.int (nI g)]) (rest := []) (nL := 4) ⟨hx, hb, hml, hown, hts⟩ hK hP (c_X5_wavesOf l D b cI cZ pl br md (fTnW n pl tu (fTnAll n br tn n) (fWk (fWaves sp tw g) tu cr to) k) (nI n) sp we tw sl pr al mo now cr tu (fDec le (fWk (fWaves sp tw g) tu cr to) k) (fInc to (fWk (fWaves sp tw g) tu cr to) k) (fInc ia (fWk (fWaves sp tw g) tu cr to) k) th g (by omega) (htw)) [0, 1, 2, 3, 4, 5, 6, 7, 8, 9, 10, 11, 12, 13, 14, 15, 16] rfl 0 rfl rfl rfl (cwV 1 hts gX5_repairs_X5_wavesOf rfl rfl rfl (by decide +kernel) ⟨Nat.le_of_ble_eq_true rfl, Nat.le_of_ble_eq_true rfl⟩) rfl hl.1 rfl (Nat.le_of_ble_eq_true rfl) dX5_repairs_22 ⟨Nat.zero_le _, Nat.zero_le _⟩ (fun r9 hr9 => ?_)
          subst hr9
          refine lv_iconst (v := 4) hx hb dX5_repairs_25 (by decide) ?_
          refine lv_icmp_gt (tgt := 130) hx hb dX5_repairs_26 (by decide) (fun c_26 => ?_) (fun c_26 => ?_)
          · have c9 : (fWk (fWaves sp tw g) tu cr to) k = false := decide_eq_false (fun z9 => absurd z9.1 (Int32.not_le.mpr c_26))
            have e9 : (fDec le (fWk (fWaves sp tw g) tu cr to) k) = (fDec le (fWk (fWaves sp tw g) tu cr to) (k + 1)) := fDec_f c9
            rw [e9] at hP hD
            clear e9
            have e9 : (fInc to (fWk (fWaves sp tw g) tu cr to) k) = (fInc to (fWk (fWaves sp tw g) tu cr to) (k + 1)) := fInc_f c9
            rw [e9] at hP hD
            clear e9
            have e9 : (fInc ia (fWk (fWaves sp tw g) tu cr to) k) = (fInc ia (fWk (fWaves sp tw g) tu cr to) (k + 1)) := fInc_f c9
            rw [e9] at hP hD
            clear e9
            have e9 : (fTnW n pl tu (fTnAll n br tn n) (fWk (fWaves sp tw g) tu cr to) (k + 1)) = (fTnW n pl tu (fTnAll n br tn n) (fWk (fWaves sp tw g) tu cr to) k) := by rw [show fTnW n pl tu (fTnAll n br tn n) (fWk (fWaves sp tw g) tu cr to) (k + 1) = if (fWk (fWaves sp tw g) tu cr to) k = true then _ else _ from rfl, if_neg (by rw [c9]; decide)]
            have hP : va_P D vwCl (wM b cI cZ pl br md (fTnW n pl tu (fTnAll n br tn n) (fWk (fWaves sp tw g) tu cr to) (k + 1)) (nI n) sp we tw sl pr al mo now cr tu (fDec le (fWk (fWaves sp tw g) tu cr to) (k + 1)) (fInc to (fWk (fWaves sp tw g) tu cr to) (k + 1)) (fInc ia (fWk (fWaves sp tw g) tu cr to) (k + 1)) th) H := by rw [e9]; exact hP
            have hD : va_D A (wM b cI cZ pl br md (fTnW n pl tu (fTnAll n br tn n) (fWk (fWaves sp tw g) tu cr to) (k + 1)) (nI n) sp we tw sl pr al mo now cr tu (fDec le (fWk (fWaves sp tw g) tu cr to) (k + 1)) (fInc to (fWk (fWaves sp tw g) tu cr to) (k + 1)) (fInc ia (fWk (fWaves sp tw g) tu cr to) (k + 1)) th) := by rw [e9]; exact hD
            clear e9
            refine lv_iinc (v := nI (k + 1)) (lv' := [(2, .int (nI (k + 1))), (0, .ref (b 0)), (1, .int (nI g))]) hx hb dX5_repairs_130 hl (k := 2) rfl (nI_1 _) (by decide) rfl (fun ls hl => ?_)
            refine lv_goto (tgt := 6) hx hb dX5_repairs_133 (by decide) ?_
            exact ih_6 (k + 1) (by omega) (by omega) _ _ hP hD hS _ (lv_sub hl [1, 2, 0] rfl)
          · refine lv_aload_n hx hb dX5_repairs_29 rfl (lv_at hl 0 rfl) ?_
            refine va_get (D := D) (ci := 5) (v := .ref (b 15)) (C := RX5) (T := TX5) (N := 19) hx hb hts (by decide +kernel) hown hK.1 hP 0 rfl rfl 16 (by decide) (hts (.fieldLink RX5 52 "TurbineorchardModel" "today" "[I") (by decide +kernel)) (fun _ h9 => h9) rfl dX5_repairs_30 ?_
            refine lv_iload_n hx hb dX5_repairs_33 rfl (lv_at hl 2 rfl) ?_
            refine k_iald hx hb hK.1 hP 15 0 rfl rfl k (rfl) (by omega) (by decide) dX5_repairs_34 ?_
            refine lv_aload_n hx hb dX5_repairs_35 rfl (lv_at hl 0 rfl) ?_
            refine va_get (D := D) (ci := 5) (v := .ref (b 12)) (C := RX5) (T := TX5) (N := 19) hx hb hts (by decide +kernel) hown hK.1 hP 0 rfl rfl 13 (by decide) (hts (.fieldLink RX5 43 "TurbineorchardModel" "crew" "[I") (by decide +kernel)) (fun _ h9 => h9) rfl dX5_repairs_36 ?_
            refine lv_iload_n hx hb dX5_repairs_39 rfl (lv_at hl 2 rfl) ?_
            refine k_iald hx hb hK.1 hP 12 0 rfl rfl k (rfl) (by omega) (by decide) dX5_repairs_40 ?_
            refine lv_icmp_ge (tgt := 130) hx hb dX5_repairs_41 (by decide) (fun c_41 => ?_) (fun c_41 => ?_)
            · have c9 : (fWk (fWaves sp tw g) tu cr to) k = false := decide_eq_false (fun z9 => absurd (show fInc to (fWk (fWaves sp tw g) tu cr to) k k < cr k by rw [fInc_k]; exact z9.2.2) (Int32.not_lt.mpr c_41))
              have e9 : (fDec le (fWk (fWaves sp tw g) tu cr to) k) = (fDec le (fWk (fWaves sp tw g) tu cr to) (k + 1)) := fDec_f c9
              rw [e9] at hP hD
              clear e9
              have e9 : (fInc to (fWk (fWaves sp tw g) tu cr to) k) = (fInc to (fWk (fWaves sp tw g) tu cr to) (k + 1)) := fInc_f c9
              rw [e9] at hP hD
              clear e9
              have e9 : (fInc ia (fWk (fWaves sp tw g) tu cr to) k) = (fInc ia (fWk (fWaves sp tw g) tu cr to) (k + 1)) := fInc_f c9
              rw [e9] at hP hD
              clear e9
              have e9 : (fTnW n pl tu (fTnAll n br tn n) (fWk (fWaves sp tw g) tu cr to) (k + 1)) = (fTnW n pl tu (fTnAll n br tn n) (fWk (fWaves sp tw g) tu cr to) k) := by rw [show fTnW n pl tu (fTnAll n br tn n) (fWk (fWaves sp tw g) tu cr to) (k + 1) = if (fWk (fWaves sp tw g) tu cr to) k = true then _ else _ from rfl, if_neg (by rw [c9]; decide)]
              have hP : va_P D vwCl (wM b cI cZ pl br md (fTnW n pl tu (fTnAll n br tn n) (fWk (fWaves sp tw g) tu cr to) (k + 1)) (nI n) sp we tw sl pr al mo now cr tu (fDec le (fWk (fWaves sp tw g) tu cr to) (k + 1)) (fInc to (fWk (fWaves sp tw g) tu cr to) (k + 1)) (fInc ia (fWk (fWaves sp tw g) tu cr to) (k + 1)) th) H := by rw [e9]; exact hP
              have hD : va_D A (wM b cI cZ pl br md (fTnW n pl tu (fTnAll n br tn n) (fWk (fWaves sp tw g) tu cr to) (k + 1)) (nI n) sp we tw sl pr al mo now cr tu (fDec le (fWk (fWaves sp tw g) tu cr to) (k + 1)) (fInc to (fWk (fWaves sp tw g) tu cr to) (k + 1)) (fInc ia (fWk (fWaves sp tw g) tu cr to) (k + 1)) th) := by rw [e9]; exact hD
              clear e9
              refine lv_iinc (v := nI (k + 1)) (lv' := [(2, .int (nI (k + 1))), (0, .ref (b 0)), (1, .int (nI g))]) hx hb dX5_repairs_130 hl (k := 2) rfl (nI_1 _) (by decide) rfl (fun ls hl => ?_)
              refine lv_goto (tgt := 6) hx hb dX5_repairs_133 (by decide) ?_
              exact ih_6 (k + 1) (by omega) (by omega) _ _ hP hD hS _ (lv_sub hl [1, 2, 0] rfl)
            · have h17 : ¬ tu k = -1 := fun z9 => c_17 (by rw [z9]; decide)
              have c9 : (fWk (fWaves sp tw g) tu cr to) k = true := decide_eq_true ⟨Int32.not_lt.mp c_26, h17, by have := Int32.not_le.mp c_41; rw [fInc_k] at this; exact this⟩
              have hbt := htu k c_8 h17
              refine lv_aload_n hx hb dX5_repairs_44 rfl (lv_at hl 0 rfl) ?_
              refine va_get (D := D) (ci := 5) (v := .ref (b 14)) (C := RX5) (T := TX5) (N := 19) hx hb hts (by decide +kernel) hown hK.1 hP 0 rfl rfl 15 (by decide) (hts (.fieldLink RX5 49 "TurbineorchardModel" "left" "[I") (by decide +kernel)) (fun _ h9 => h9) rfl dX5_repairs_45 ?_
              refine lv_iload_n hx hb dX5_repairs_48 rfl (lv_at hl 2 rfl) ?_
              refine lv_dup2_11 hx hb dX5_repairs_49 rfl rfl ?_
              refine k_iald hx hb hK.1 hP 14 0 rfl rfl k (rfl) (by omega) (by decide) dX5_repairs_50 ?_
              refine lv_iconst (v := 1) hx hb dX5_repairs_51 (by decide) ?_
              refine lv_isub hx hb dX5_repairs_52 ?_
              refine k_iast hx hb hK.1 hP hD hS 14 0 rfl rfl k (rfl) (by omega) (by decide) dX5_repairs_53 (fun H locs hP hD hS => ?_)
              have hP : va_P D vwCl (wM b cI cZ pl br md (fTnW n pl tu (fTnAll n br tn n) (fWk (fWaves sp tw g) tu cr to) k) (nI n) sp we tw sl pr al mo now cr tu (upd (fDec le (fWk (fWaves sp tw g) tu cr to) k) k (((fDec le (fWk (fWaves sp tw g) tu cr to) k) k) - 1)) (fInc to (fWk (fWaves sp tw g) tu cr to) k) (fInc ia (fWk (fWaves sp tw g) tu cr to) k) th) H := hP
              have hD : va_D A (wM b cI cZ pl br md (fTnW n pl tu (fTnAll n br tn n) (fWk (fWaves sp tw g) tu cr to) k) (nI n) sp we tw sl pr al mo now cr tu (upd (fDec le (fWk (fWaves sp tw g) tu cr to) k) k (((fDec le (fWk (fWaves sp tw g) tu cr to) k) k) - 1)) (fInc to (fWk (fWaves sp tw g) tu cr to) k) (fInc ia (fWk (fWaves sp tw g) tu cr to) k) th) := hD
              refine lv_aload_n hx hb dX5_repairs_54 rfl (lv_at hl 0 rfl) ?_
              refine va_get (D := D) (ci := 5) (v := .ref (b 15)) (C := RX5) (T := TX5) (N := 19) hx hb hts (by decide +kernel) hown hK.1 hP 0 rfl rfl 16 (by decide) (hts (.fieldLink RX5 52 "TurbineorchardModel" "today" "[I") (by decide +kernel)) (fun _ h9 => h9) rfl dX5_repairs_55 ?_
              refine lv_iload_n hx hb dX5_repairs_58 rfl (lv_at hl 2 rfl) ?_
              refine lv_dup2_11 hx hb dX5_repairs_59 rfl rfl ?_
              refine k_iald hx hb hK.1 hP 15 0 rfl rfl k (rfl) (by omega) (by decide) dX5_repairs_60 ?_
              refine lv_iconst (v := 1) hx hb dX5_repairs_61 (by decide) ?_
              refine lv_iadd hx hb dX5_repairs_62 ?_
              refine k_iast hx hb hK.1 hP hD hS 15 0 rfl rfl k (rfl) (by omega) (by decide) dX5_repairs_63 (fun H locs hP hD hS => ?_)
              have hP : va_P D vwCl (wM b cI cZ pl br md (fTnW n pl tu (fTnAll n br tn n) (fWk (fWaves sp tw g) tu cr to) k) (nI n) sp we tw sl pr al mo now cr tu (upd (fDec le (fWk (fWaves sp tw g) tu cr to) k) k (((fDec le (fWk (fWaves sp tw g) tu cr to) k) k) - 1)) (upd (fInc to (fWk (fWaves sp tw g) tu cr to) k) k (((fInc to (fWk (fWaves sp tw g) tu cr to) k) k) + 1)) (fInc ia (fWk (fWaves sp tw g) tu cr to) k) th) H := hP
              have hD : va_D A (wM b cI cZ pl br md (fTnW n pl tu (fTnAll n br tn n) (fWk (fWaves sp tw g) tu cr to) k) (nI n) sp we tw sl pr al mo now cr tu (upd (fDec le (fWk (fWaves sp tw g) tu cr to) k) k (((fDec le (fWk (fWaves sp tw g) tu cr to) k) k) - 1)) (upd (fInc to (fWk (fWaves sp tw g) tu cr to) k) k (((fInc to (fWk (fWaves sp tw g) tu cr to) k) k) + 1)) (fInc ia (fWk (fWaves sp tw g) tu cr to) k) th) := hD
              refine lv_aload_n hx hb dX5_repairs_64 rfl (lv_at hl 0 rfl) ?_
              refine va_get (D := D) (ci := 5) (v := .ref (b 16)) (C := RX5) (T := TX5) (N := 19) hx hb hts (by decide +kernel) hown hK.1 hP 0 rfl rfl 17 (by decide) (hts (.fieldLink RX5 55 "TurbineorchardModel" "worked" "[I") (by decide +kernel)) (fun _ h9 => h9) rfl dX5_repairs_65 ?_
              refine lv_iload_n hx hb dX5_repairs_68 rfl (lv_at hl 2 rfl) ?_
              refine lv_dup2_11 hx hb dX5_repairs_69 rfl rfl ?_
              refine k_iald hx hb hK.1 hP 16 0 rfl rfl k (rfl) (by omega) (by decide) dX5_repairs_70 ?_
              refine lv_iconst (v := 1) hx hb dX5_repairs_71 (by decide) ?_
              refine lv_iadd hx hb dX5_repairs_72 ?_
              refine k_iast hx hb hK.1 hP hD hS 16 0 rfl rfl k (rfl) (by omega) (by decide) dX5_repairs_73 (fun H locs hP hD hS => ?_)
              have hP : va_P D vwCl (wM b cI cZ pl br md (fTnW n pl tu (fTnAll n br tn n) (fWk (fWaves sp tw g) tu cr to) k) (nI n) sp we tw sl pr al mo now cr tu (upd (fDec le (fWk (fWaves sp tw g) tu cr to) k) k (((fDec le (fWk (fWaves sp tw g) tu cr to) k) k) - 1)) (upd (fInc to (fWk (fWaves sp tw g) tu cr to) k) k (((fInc to (fWk (fWaves sp tw g) tu cr to) k) k) + 1)) (upd (fInc ia (fWk (fWaves sp tw g) tu cr to) k) k (((fInc ia (fWk (fWaves sp tw g) tu cr to) k) k) + 1)) th) H := hP
              have hD : va_D A (wM b cI cZ pl br md (fTnW n pl tu (fTnAll n br tn n) (fWk (fWaves sp tw g) tu cr to) k) (nI n) sp we tw sl pr al mo now cr tu (upd (fDec le (fWk (fWaves sp tw g) tu cr to) k) k (((fDec le (fWk (fWaves sp tw g) tu cr to) k) k) - 1)) (upd (fInc to (fWk (fWaves sp tw g) tu cr to) k) k (((fInc to (fWk (fWaves sp tw g) tu cr to) k) k) + 1)) (upd (fInc ia (fWk (fWaves sp tw g) tu cr to) k) k (((fInc ia (fWk (fWaves sp tw g) tu cr to) k) k) + 1)) th) := hD
              refine lv_iconst (v := 0) hx hb dX5_repairs_74 (by decide) ?_
              have e9 : (fTnW n pl tu (fTnAll n br tn n) (fWk (fWaves sp tw g) tu cr to) k) = (fTnB pl (fTnW n pl tu (fTnAll n br tn n) (fWk (fWaves sp tw g) tu cr to) k) (fP pl (fP tu k)) 0) := fTnB_0
              rw [e9] at hP hD
              clear e9
              refine lv_istore_n (lv' := [(3, .int 0), (0, .ref (b 0)), (1, .int (nI g)), (2, .int (nI k))]) hx hb dX5_repairs_75 rfl hl (by decide) rfl (fun ls hl => ?_)
              have loop_76 : ∀ (nn : Nat) (j : Nat), n - j < nn → (j ≤ n) → ∀ (H : Heap) (locs : List Loc), va_P D vwCl (wM b cI cZ pl br md (fTnB pl (fTnW n pl tu (fTnAll n br tn n) (fWk (fWaves sp tw g) tu cr to) k) (fP pl (fP tu k)) j) (nI n) sp we tw sl pr al mo now cr tu (upd (fDec le (fWk (fWaves sp tw g) tu cr to) k) k (fDec le (fWk (fWaves sp tw g) tu cr to) k k - 1)) (upd (fInc to (fWk (fWaves sp tw g) tu cr to) k) k (fInc to (fWk (fWaves sp tw g) tu cr to) k k + 1)) (upd (fInc ia (fWk (fWaves sp tw g) tu cr to) k) k (fInc ia (fWk (fWaves sp tw g) tu cr to) k k + 1)) th) H → va_D A (wM b cI cZ pl br md (fTnB pl (fTnW n pl tu (fTnAll n br tn n) (fWk (fWaves sp tw g) tu cr to) k) (fP pl (fP tu k)) j) (nI n) sp we tw sl pr al mo now cr tu (upd (fDec le (fWk (fWaves sp tw g) tu cr to) k) k (fDec le (fWk (fWaves sp tw g) tu cr to) k k - 1)) (upd (fInc to (fWk (fWaves sp tw g) tu cr to) k) k (fInc to (fWk (fWaves sp tw g) tu cr to) k k + 1)) (upd (fInc ia (fWk (fWaves sp tw g) tu cr to) k) k (fInc ia (fWk (fWaves sp tw g) tu cr to) k k + 1)) th) → va_S A s.heap H locs → ∀ (ls : Array Slot), lv_has ls 4 [(0, .ref (b 0)), (1, .int (nI g)), (2, .int (nI k)), (3, .int (nI j))] → W p l e (headSpec wsX5_repairs ({ frames := 1, cells := 0, slots := 0, locals := 24 })).room s m ([.ref (b 0), .int (nI g)] : List Value).toArray below meth c H locs 0 0 (MQ below (va_Qv (fun _ : Unit => True) (fun _ t9 => kAt D A (wM b cI cZ pl br md (fTnW n pl tu (fTnAll n br tn n) (fWk (fWaves sp tw g) tu cr to) 3) (nI n) sp we tw sl pr al mo now cr tu (fDec le (fWk (fWaves sp tw g) tu cr to) 3) (fInc to (fWk (fWaves sp tw g) tu cr to) 3) (fInc ia (fWk (fWaves sp tw g) tu cr to) 3) th) t9) A) ([.ref (b 0), .int (nI g)] : List Value).toArray s 0 0 A) (F0 m 76 ls []) := by
                intro nn
                induction nn with
                | zero => intro j hm; exact absurd hm (by omega)
                | succ nn ih_76 =>
                  intro j hm hj H locs hP hD hS ls hl
                  refine lv_iload_n hx hb dX5_repairs_76 rfl (lv_at hl 3 rfl) ?_
                  refine lv_aload_n hx hb dX5_repairs_77 rfl (lv_at hl 0 rfl) ?_
                  refine va_get (D := D) (ci := 5) (v := .int (nI n)) (C := RX5) (T := TX5) (N := 19) hx hb hts (by decide +kernel) hown hK.1 hP 0 rfl rfl 4 (by decide) (hts (.fieldLink RX5 62 "TurbineorchardModel" "turbines" "I") (by decide +kernel)) (fun _ h9 => h9) rfl dX5_repairs_78 ?_
                  refine lv_icmp_ge (tgt := 130) hx hb dX5_repairs_81 (by decide) (fun c_81 => ?_) (fun c_81 => ?_)
                  · have e8 : j = n := by have := (nI_leI (a := n) (b := j) (by omega) (by omega)).mp c_81; omega
                    rw [e8] at hP hD hl
                    have e9 : (upd (fDec le (fWk (fWaves sp tw g) tu cr to) k) k (fDec le (fWk (fWaves sp tw g) tu cr to) k k - 1)) = (fDec le (fWk (fWaves sp tw g) tu cr to) (k + 1)) := fDec_t c9
                    rw [e9] at hP hD
                    clear e9
                    have e9 : (upd (fInc to (fWk (fWaves sp tw g) tu cr to) k) k (fInc to (fWk (fWaves sp tw g) tu cr to) k k + 1)) = (fInc to (fWk (fWaves sp tw g) tu cr to) (k + 1)) := fInc_t c9
                    rw [e9] at hP hD
                    clear e9
                    have e9 : (upd (fInc ia (fWk (fWaves sp tw g) tu cr to) k) k (fInc ia (fWk (fWaves sp tw g) tu cr to) k k + 1)) = (fInc ia (fWk (fWaves sp tw g) tu cr to) (k + 1)) := fInc_t c9
                    rw [e9] at hP hD
                    clear e9
                    have e9 : (fTnW n pl tu (fTnAll n br tn n) (fWk (fWaves sp tw g) tu cr to) (k + 1)) = (fTnB pl (fTnW n pl tu (fTnAll n br tn n) (fWk (fWaves sp tw g) tu cr to) k) (fP pl (fP tu k)) n) := by rw [show fTnW n pl tu (fTnAll n br tn n) (fWk (fWaves sp tw g) tu cr to) (k + 1) = if (fWk (fWaves sp tw g) tu cr to) k = true then _ else _ from rfl, if_pos c9]
                    have hP : va_P D vwCl (wM b cI cZ pl br md (fTnW n pl tu (fTnAll n br tn n) (fWk (fWaves sp tw g) tu cr to) (k + 1)) (nI n) sp we tw sl pr al mo now cr tu (fDec le (fWk (fWaves sp tw g) tu cr to) (k + 1)) (fInc to (fWk (fWaves sp tw g) tu cr to) (k + 1)) (fInc ia (fWk (fWaves sp tw g) tu cr to) (k + 1)) th) H := by rw [e9]; exact hP
                    have hD : va_D A (wM b cI cZ pl br md (fTnW n pl tu (fTnAll n br tn n) (fWk (fWaves sp tw g) tu cr to) (k + 1)) (nI n) sp we tw sl pr al mo now cr tu (fDec le (fWk (fWaves sp tw g) tu cr to) (k + 1)) (fInc to (fWk (fWaves sp tw g) tu cr to) (k + 1)) (fInc ia (fWk (fWaves sp tw g) tu cr to) (k + 1)) th) := by rw [e9]; exact hD
                    clear e9
                    refine lv_iinc (v := nI (k + 1)) (lv' := [(2, .int (nI (k + 1))), (0, .ref (b 0)), (1, .int (nI g)), (3, .int (nI n))]) hx hb dX5_repairs_130 hl (k := 2) rfl (nI_1 _) (by decide) rfl (fun ls hl => ?_)
                    refine lv_goto (tgt := 6) hx hb dX5_repairs_133 (by decide) ?_
                    exact ih_6 (k + 1) (by omega) (by omega) _ _ hP hD hS _ (lv_sub hl [1, 2, 0] rfl)
                  · have c_81 : j < n := Nat.lt_of_not_le (fun z9 => c_81 ((nI_leI (a := n) (b := j) (by omega) (by omega)).mpr z9))
                    refine lv_aload_n hx hb dX5_repairs_84 rfl (lv_at hl 0 rfl) ?_
                    refine va_get (D := D) (ci := 5) (v := .ref (b 4)) (C := RX5) (T := TX5) (N := 19) hx hb hts (by decide +kernel) hown hK.1 hP 0 rfl rfl 3 (by decide) (hts (.fieldLink RX5 19 "TurbineorchardModel" "turns" "[I") (by decide +kernel)) (fun _ h9 => h9) rfl dX5_repairs_85 ?_
                    refine lv_iload_n hx hb dX5_repairs_88 rfl (lv_at hl 3 rfl) ?_
                    refine lv_aload_n hx hb dX5_repairs_89 rfl (lv_at hl 0 rfl) ?_
                    refine lv_aload_n hx hb dX5_repairs_90 rfl (lv_at hl 0 rfl) ?_
                    refine va_get (D := D) (ci := 5) (v := .ref (b 1)) (C := RX5) (T := TX5) (N := 19) hx hb hts (by decide +kernel) hown hK.1 hP 0 rfl rfl 0 (by decide) (hts (.fieldLink RX5 7 "TurbineorchardModel" "place" "[I") (by decide +kernel)) (fun _ h9 => h9) rfl dX5_repairs_91 ?_
                    refine lv_iload_n hx hb dX5_repairs_94 rfl (lv_at hl 3 rfl) ?_
                    refine k_iald hx hb hK.1 hP 1 0 rfl rfl j (rfl) (by omega) (by decide) dX5_repairs_95 ?_
                    refine k_rw (y := nI (fP pl j)) ((hpl j c_81).1) ?_
                    refine lv_aload_n hx hb dX5_repairs_96 rfl (lv_at hl 0 rfl) ?_
                    refine va_get (D := D) (ci := 5) (v := .ref (b 1)) (C := RX5) (T := TX5) (N := 19) hx hb hts (by decide +kernel) hown hK.1 hP 0 rfl rfl 0 (by decide) (hts (.fieldLink RX5 7 "TurbineorchardModel" "place" "[I") (by decide +kernel)) (fun _ h9 => h9) rfl dX5_repairs_97 ?_
                    refine lv_aload_n hx hb dX5_repairs_100 rfl (lv_at hl 0 rfl) ?_
                    refine va_get (D := D) (ci := 5) (v := .ref (b 13)) (C := RX5) (T := TX5) (N := 19) hx hb hts (by decide +kernel) hown hK.1 hP 0 rfl rfl 14 (by decide) (hts (.fieldLink RX5 46 "TurbineorchardModel" "at" "[I") (by decide +kernel)) (fun _ h9 => h9) rfl dX5_repairs_101 ?_
                    refine lv_iload_n hx hb dX5_repairs_104 rfl (lv_at hl 2 rfl) ?_
                    refine k_iald hx hb hK.1 hP 13 0 rfl rfl k (rfl) (by omega) (by decide) dX5_repairs_105 ?_
                    refine k_rw (y := nI (fP tu k)) (hbt.1) ?_
                    refine k_iald hx hb hK.1 hP 1 0 rfl rfl (fP tu k) (rfl) (by omega) (by decide) dX5_repairs_106 ?_
                    refine k_rw (y := nI (fP pl (fP tu k))) ((hpl _ hbt.2).1) ?_
                    refine k_pv (As := [.int (nI (fP pl j)), .int (nI (fP pl (fP tu k)))]) (rest := [.int (nI j), .ref (b 4)]) (nL := 4) ⟨hx, hb, hml, hown, hts⟩ (c_X5_areBeside l _ (fP pl j) (fP pl (fP tu k)) ((hpl j c_81).2) ((hpl _ hbt.2).2)) (cwV 2 hts gX5_repairs_X5_areBeside rfl rfl rfl (by decide +kernel) ⟨Nat.le_of_ble_eq_true rfl, Nat.le_of_ble_eq_true rfl⟩) (va_recv hK.1 hP (ci := 5) (q0 := 0) rfl rfl) rfl hl.1 rfl (Nat.le_of_ble_eq_true rfl) dX5_repairs_107 ⟨Nat.zero_le _, Nat.zero_le _⟩ (fun r9 hr9 => ?_)
                    subst hr9
                    refine lv_if_eq (tgt := 117) hx hb dX5_repairs_110 (by decide) (fun c_110 => ?_) (fun c_110 => ?_)
                    · have c_110 := bI_0 c_110
                      refine lv_aload_n hx hb dX5_repairs_117 rfl (lv_at hl 0 rfl) ?_
                      refine va_get (D := D) (ci := 5) (v := .ref (b 4)) (C := RX5) (T := TX5) (N := 19) hx hb hts (by decide +kernel) hown hK.1 hP 0 rfl rfl 3 (by decide) (hts (.fieldLink RX5 19 "TurbineorchardModel" "turns" "[I") (by decide +kernel)) (fun _ h9 => h9) rfl dX5_repairs_118 ?_
                      refine lv_iload_n hx hb dX5_repairs_121 rfl (lv_at hl 3 rfl) ?_
                      refine k_iald hx hb hK.1 hP 4 0 rfl rfl j (rfl) (by omega) (by decide) dX5_repairs_122 ?_
                      refine k_iast hx hb hK.1 hP hD hS 4 0 rfl rfl j (rfl) (by omega) (by decide) dX5_repairs_123 (fun H locs hP hD hS => ?_)
                      have hP : va_P D vwCl (wM b cI cZ pl br md (upd (fTnB pl (fTnW n pl tu (fTnAll n br tn n) (fWk (fWaves sp tw g) tu cr to) k) (fP pl (fP tu k)) j) j ((fTnB pl (fTnW n pl tu (fTnAll n br tn n) (fWk (fWaves sp tw g) tu cr to) k) (fP pl (fP tu k)) j) j)) (nI n) sp we tw sl pr al mo now cr tu (upd (fDec le (fWk (fWaves sp tw g) tu cr to) k) k (fDec le (fWk (fWaves sp tw g) tu cr to) k k - 1)) (upd (fInc to (fWk (fWaves sp tw g) tu cr to) k) k (fInc to (fWk (fWaves sp tw g) tu cr to) k k + 1)) (upd (fInc ia (fWk (fWaves sp tw g) tu cr to) k) k (fInc ia (fWk (fWaves sp tw g) tu cr to) k k + 1)) th) H := hP
                      have hD : va_D A (wM b cI cZ pl br md (upd (fTnB pl (fTnW n pl tu (fTnAll n br tn n) (fWk (fWaves sp tw g) tu cr to) k) (fP pl (fP tu k)) j) j ((fTnB pl (fTnW n pl tu (fTnAll n br tn n) (fWk (fWaves sp tw g) tu cr to) k) (fP pl (fP tu k)) j) j)) (nI n) sp we tw sl pr al mo now cr tu (upd (fDec le (fWk (fWaves sp tw g) tu cr to) k) k (fDec le (fWk (fWaves sp tw g) tu cr to) k k - 1)) (upd (fInc to (fWk (fWaves sp tw g) tu cr to) k) k (fInc to (fWk (fWaves sp tw g) tu cr to) k k + 1)) (upd (fInc ia (fWk (fWaves sp tw g) tu cr to) k) k (fInc ia (fWk (fWaves sp tw g) tu cr to) k k + 1)) th) := hD
                      have e9 : (upd (fTnB pl (fTnW n pl tu (fTnAll n br tn n) (fWk (fWaves sp tw g) tu cr to) k) (fP pl (fP tu k)) j) j ((fTnB pl (fTnW n pl tu (fTnAll n br tn n) (fWk (fWaves sp tw g) tu cr to) k) (fP pl (fP tu k)) j) j)) = (fTnB pl (fTnW n pl tu (fTnAll n br tn n) (fWk (fWaves sp tw g) tu cr to) k) (fP pl (fP tu k)) (j + 1)) := fTnB_f c_110
                      rw [e9] at hP hD
                      clear e9
                      refine lv_iinc (v := nI (j + 1)) (lv' := [(3, .int (nI (j + 1))), (0, .ref (b 0)), (1, .int (nI g)), (2, .int (nI k))]) hx hb dX5_repairs_124 hl (k := 3) rfl (nI_1 _) (by decide) rfl (fun ls hl => ?_)
                      refine lv_goto (tgt := 76) hx hb dX5_repairs_127 (by decide) ?_
                      exact ih_76 (j + 1) (by omega) (by omega) _ _ hP hD hS _ (lv_sub hl [1, 2, 3, 0] rfl)
                    · have c_110 := bI_n c_110
                      refine lv_iconst (v := 0) hx hb dX5_repairs_113 (by decide) ?_
                      refine lv_goto (tgt := 123) hx hb dX5_repairs_114 (by decide) ?_
                      refine k_iast hx hb hK.1 hP hD hS 4 0 rfl rfl j (rfl) (by omega) (by decide) dX5_repairs_123 (fun H locs hP hD hS => ?_)
                      have hP : va_P D vwCl (wM b cI cZ pl br md (upd (fTnB pl (fTnW n pl tu (fTnAll n br tn n) (fWk (fWaves sp tw g) tu cr to) k) (fP pl (fP tu k)) j) j 0) (nI n) sp we tw sl pr al mo now cr tu (upd (fDec le (fWk (fWaves sp tw g) tu cr to) k) k (fDec le (fWk (fWaves sp tw g) tu cr to) k k - 1)) (upd (fInc to (fWk (fWaves sp tw g) tu cr to) k) k (fInc to (fWk (fWaves sp tw g) tu cr to) k k + 1)) (upd (fInc ia (fWk (fWaves sp tw g) tu cr to) k) k (fInc ia (fWk (fWaves sp tw g) tu cr to) k k + 1)) th) H := hP
                      have hD : va_D A (wM b cI cZ pl br md (upd (fTnB pl (fTnW n pl tu (fTnAll n br tn n) (fWk (fWaves sp tw g) tu cr to) k) (fP pl (fP tu k)) j) j 0) (nI n) sp we tw sl pr al mo now cr tu (upd (fDec le (fWk (fWaves sp tw g) tu cr to) k) k (fDec le (fWk (fWaves sp tw g) tu cr to) k k - 1)) (upd (fInc to (fWk (fWaves sp tw g) tu cr to) k) k (fInc to (fWk (fWaves sp tw g) tu cr to) k k + 1)) (upd (fInc ia (fWk (fWaves sp tw g) tu cr to) k) k (fInc ia (fWk (fWaves sp tw g) tu cr to) k k + 1)) th) := hD
                      have e9 : (upd (fTnB pl (fTnW n pl tu (fTnAll n br tn n) (fWk (fWaves sp tw g) tu cr to) k) (fP pl (fP tu k)) j) j 0) = (fTnB pl (fTnW n pl tu (fTnAll n br tn n) (fWk (fWaves sp tw g) tu cr to) k) (fP pl (fP tu k)) (j + 1)) := fTnB_t c_110
                      rw [e9] at hP hD
                      clear e9
                      refine lv_iinc (v := nI (j + 1)) (lv' := [(3, .int (nI (j + 1))), (0, .ref (b 0)), (1, .int (nI g)), (2, .int (nI k))]) hx hb dX5_repairs_124 hl (k := 3) rfl (nI_1 _) (by decide) rfl (fun ls hl => ?_)
                      refine lv_goto (tgt := 76) hx hb dX5_repairs_127 (by decide) ?_
                      exact ih_76 (j + 1) (by omega) (by omega) _ _ hP hD hS _ (lv_sub hl [1, 2, 3, 0] rfl)
              exact loop_76 (n - 0 + 1) 0 (by omega) (by omega) _ _ hP hD hS _ (lv_sub hl [1, 2, 3, 0] rfl)
  exact loop_6 (3 - 0 + 1) 0 (by omega) (by omega) _ _ hP hD hS _ (lv_sub hl [1, 2, 0] rfl)

set_option maxHeartbeats 4000000 in
set_option maxRecDepth 100000 in
theorem c_X5_frees (l : Launch) (D : va_G) (b : Nat → Nat) (cI cZ : ClassId) (sz : Nat) (pl : Nat → Int32) (br : Nat → Int32) (md : Nat → Int32) (tn : Nat → Int32) (sp : Nat → Int32) (we : Nat → Int32) (tw : Nat → Int32) (sl : Nat → Int32) (pr : Nat → Int32) (al : Nat → Int32) (mo : Nat → Int32) (now : Int32) (cr : Nat → Int32) (tu : Nat → Int32) (le : Nat → Int32) (to : Nat → Int32) (ia : Nat → Int32) (th : Int32) (n : Nat) (hn : n ≤ 12) (htu : ∀ b, b < 3 → ¬ tu b = -1 → tu b = nI (fP tu b) ∧ fP tu b < n) : kUv l yX5_frees wsX5_frees ({ frames := 0, cells := 0, slots := 0, locals := 0 }) [.ref (b 0)] D cI cZ sz (wM b cI cZ pl br md tn (nI n) sp we tw sl pr al mo now cr tu le to ia th) (wM b cI cZ pl (fBrE br tu (fEn tu le) 3) md tn (nI n) sp we tw sl pr al mo now cr (fTuE tu (fEn tu le) 3) le to ia th) := by
  refine Met.ofW (cc := cX5_frees) (maxL := 2) (ret := none) (by decide) rfl ?_
  intro p e s m args below meth c s₁ B hml hv
  obtain ⟨rfl, hsz, hP, hK, hD0⟩ := hv
  have hx := B.exec
  have hb := B.bytes
  have hr := B.returns
  have hts := atoms_spec (ws := wsX5_frees) B.pre
  have hown : s.vm.findClass RX5 = some m.cls := findClass_of_methodNamed B.named
  have hlocks := B.notSynchronized
  subst hsz
  have hD := hD0.self (sz := s.heap.size)
  generalize hAe : va_A (wM b cI cZ pl br md tn (nI n) sp we tw sl pr al mo now cr tu le to ia th) s.heap.size = A at hD ⊢
  have hA : ∀ q : Nat, s.heap.size ≤ q → A q := fun q h => by rw [← hAe]; exact Or.inr h
  have hS : va_S A s.heap s.heap [] := va_S.rf
  have hl := lv_entry ([.ref (b 0)]) (n := 2) (Nat.le_of_ble_eq_true rfl)
  rw [lg_entry_eq]
  generalize (lg_sl ([.ref (b 0)]) ++ List.replicate (2 - (lg_sl ([.ref (b 0)])).length) Slot.unset).toArray = ls at hl ⊢
  have hl : lv_has ls 2 [(0, .ref (b 0))] := hl
  refine lv_iconst (v := 0) hx hb dX5_frees_0 (by decide) ?_
  have e9 : tu = (fTuE tu (fEn tu le) 0) := (fTuE_0 _ _).symm
  rw [e9] at hP hD
  clear e9
  have e9 : br = (fBrE br tu (fEn tu le) 0) := rfl
  rw [e9] at hP hD
  clear e9
  refine lv_istore_n (lv' := [(1, .int 0), (0, .ref (b 0))]) hx hb dX5_frees_1 rfl hl (by decide) rfl (fun ls hl => ?_)
  have loop_2 : ∀ (nn : Nat) (k : Nat), 3 - k < nn → (k ≤ 3) → ∀ (H : Heap) (locs : List Loc), va_P D vwCl (wM b cI cZ pl (fBrE br tu (fEn tu le) k) md tn (nI n) sp we tw sl pr al mo now cr (fTuE tu (fEn tu le) k) le to ia th) H → va_D A (wM b cI cZ pl (fBrE br tu (fEn tu le) k) md tn (nI n) sp we tw sl pr al mo now cr (fTuE tu (fEn tu le) k) le to ia th) → va_S A s.heap H locs → ∀ (ls : Array Slot), lv_has ls 2 [(0, .ref (b 0)), (1, .int (nI k))] → W p l e (headSpec wsX5_frees ({ frames := 0, cells := 0, slots := 0, locals := 0 })).room s m ([.ref (b 0)] : List Value).toArray below meth c H locs 0 0 (MQ below (va_Qv (fun _ : Unit => True) (fun _ t9 => kAt D A (wM b cI cZ pl (fBrE br tu (fEn tu le) 3) md tn (nI n) sp we tw sl pr al mo now cr (fTuE tu (fEn tu le) 3) le to ia th) t9) A) ([.ref (b 0)] : List Value).toArray s 0 0 A) (F0 m 2 ls []) := by
    intro nn
    induction nn with
    | zero => intro k hm; exact absurd hm (by omega)
    | succ nn ih_2 =>
      intro k hm hk H locs hP hD hS ls hl
      refine lv_iload_n hx hb dX5_frees_2 rfl (lv_at hl 1 rfl) ?_
      refine lv_iconst (v := 3) hx hb dX5_frees_3 (by decide) ?_
      refine lv_icmp_ge (tgt := 50) hx hb dX5_frees_4 (by decide) (fun c_4 => ?_) (fun c_4 => ?_)
      · have e8 : k = 3 := by have := (nI_leI (a := 3) (b := k) (by omega) (by omega)).mp c_4; omega
        subst e8
        exact k_endV (sz := 0) hx hb hr hlocks hP hD hS dX5_frees_50
      · have c_4 : k < 3 := Nat.lt_of_not_le (fun h => c_4 ((nI_leI (a := 3) (b := k) (by omega) (by omega)).mpr h))
        refine lv_aload_n hx hb dX5_frees_7 rfl (lv_at hl 0 rfl) ?_
        refine va_get (D := D) (ci := 5) (v := .ref (b 13)) (C := RX5) (T := TX5) (N := 19) hx hb hts (by decide +kernel) hown hK.1 hP 0 rfl rfl 14 (by decide) (hts (.fieldLink RX5 46 "TurbineorchardModel" "at" "[I") (by decide +kernel)) (fun _ h9 => h9) rfl dX5_frees_8 ?_
        refine lv_iload_n hx hb dX5_frees_11 rfl (lv_at hl 1 rfl) ?_
        refine k_iald hx hb hK.1 hP 13 0 rfl rfl k (rfl) (by omega) (by decide) dX5_frees_12 ?_
        refine lv_if_lt (tgt := 44) hx hb dX5_frees_13 (by decide) (fun c_13 => ?_) (fun c_13 => ?_)
        · have c9 : (fEn tu le) k = false := decide_eq_false (fun z9 => absurd (show fTuE tu (fEn tu le) k k < 0 from c_13) (by rw [fTuE_k, (htu k c_4 z9.1).1]; exact nI_pos (by have := (htu k c_4 z9.1).2; omega)))
          have e9 : (fTuE tu (fEn tu le) k) = (fTuE tu (fEn tu le) (k + 1)) := fTuE_f c9
          rw [e9] at hP hD
          clear e9
          have e9 : (fBrE br tu (fEn tu le) k) = (fBrE br tu (fEn tu le) (k + 1)) := by rw [show fBrE br tu (fEn tu le) (k + 1) = if (fEn tu le) k = true then _ else _ from rfl, if_neg (by rw [c9]; decide)]
          rw [e9] at hP hD
          clear e9
          refine lv_iinc (v := nI (k + 1)) (lv' := [(1, .int (nI (k + 1))), (0, .ref (b 0))]) hx hb dX5_frees_44 hl (k := 1) rfl (nI_1 _) (by decide) rfl (fun ls hl => ?_)
          refine lv_goto (tgt := 2) hx hb dX5_frees_47 (by decide) ?_
          exact ih_2 (k + 1) (by omega) (by omega) _ _ hP hD hS _ (lv_sub hl [1, 0] rfl)
        · refine lv_aload_n hx hb dX5_frees_16 rfl (lv_at hl 0 rfl) ?_
          refine va_get (D := D) (ci := 5) (v := .ref (b 14)) (C := RX5) (T := TX5) (N := 19) hx hb hts (by decide +kernel) hown hK.1 hP 0 rfl rfl 15 (by decide) (hts (.fieldLink RX5 49 "TurbineorchardModel" "left" "[I") (by decide +kernel)) (fun _ h9 => h9) rfl dX5_frees_17 ?_
          refine lv_iload_n hx hb dX5_frees_20 rfl (lv_at hl 1 rfl) ?_
          refine k_iald hx hb hK.1 hP 14 0 rfl rfl k (rfl) (by omega) (by decide) dX5_frees_21 ?_
          refine lv_if_ne (tgt := 44) hx hb dX5_frees_22 (by decide) (fun c_22 => ?_) (fun c_22 => ?_)
          · have c9 : (fEn tu le) k = false := decide_eq_false (fun z9 => c_22 z9.2)
            have e9 : (fTuE tu (fEn tu le) k) = (fTuE tu (fEn tu le) (k + 1)) := fTuE_f c9
            rw [e9] at hP hD
            clear e9
            have e9 : (fBrE br tu (fEn tu le) k) = (fBrE br tu (fEn tu le) (k + 1)) := by rw [show fBrE br tu (fEn tu le) (k + 1) = if (fEn tu le) k = true then _ else _ from rfl, if_neg (by rw [c9]; decide)]
            rw [e9] at hP hD
            clear e9
            refine lv_iinc (v := nI (k + 1)) (lv' := [(1, .int (nI (k + 1))), (0, .ref (b 0))]) hx hb dX5_frees_44 hl (k := 1) rfl (nI_1 _) (by decide) rfl (fun ls hl => ?_)
            refine lv_goto (tgt := 2) hx hb dX5_frees_47 (by decide) ?_
            exact ih_2 (k + 1) (by omega) (by omega) _ _ hP hD hS _ (lv_sub hl [1, 0] rfl)
          · have h13 : ¬ tu k = -1 := fun z9 => c_13 (by rw [fTuE_k, z9]; decide)
            have c9 : (fEn tu le) k = true := decide_eq_true ⟨h13, c_22⟩
            have hbt := htu k c_4 h13
            refine lv_aload_n hx hb dX5_frees_25 rfl (lv_at hl 0 rfl) ?_
            refine va_get (D := D) (ci := 5) (v := .ref (b 2)) (C := RX5) (T := TX5) (N := 19) hx hb hts (by decide +kernel) hown hK.1 hP 0 rfl rfl 1 (by decide) (hts (.fieldLink RX5 13 "TurbineorchardModel" "broken" "[I") (by decide +kernel)) (fun _ h9 => h9) rfl dX5_frees_26 ?_
            refine lv_aload_n hx hb dX5_frees_29 rfl (lv_at hl 0 rfl) ?_
            refine va_get (D := D) (ci := 5) (v := .ref (b 13)) (C := RX5) (T := TX5) (N := 19) hx hb hts (by decide +kernel) hown hK.1 hP 0 rfl rfl 14 (by decide) (hts (.fieldLink RX5 46 "TurbineorchardModel" "at" "[I") (by decide +kernel)) (fun _ h9 => h9) rfl dX5_frees_30 ?_
            refine lv_iload_n hx hb dX5_frees_33 rfl (lv_at hl 1 rfl) ?_
            refine k_iald hx hb hK.1 hP 13 0 rfl rfl k (rfl) (by omega) (by decide) dX5_frees_34 ?_
            refine k_rw (y := nI (fP tu k)) (by rw [fTuE_k]; exact hbt.1) ?_
            refine lv_iconst (v := 0) hx hb dX5_frees_35 (by decide) ?_
            refine k_iast hx hb hK.1 hP hD hS 2 0 rfl rfl (fP tu k) (rfl) (by have := hbt.2; omega) (by decide) dX5_frees_36 (fun H locs hP hD hS => ?_)
            have hP : va_P D vwCl (wM b cI cZ pl (upd (fBrE br tu (fEn tu le) k) (fP tu k) 0) md tn (nI n) sp we tw sl pr al mo now cr (fTuE tu (fEn tu le) k) le to ia th) H := hP
            have hD : va_D A (wM b cI cZ pl (upd (fBrE br tu (fEn tu le) k) (fP tu k) 0) md tn (nI n) sp we tw sl pr al mo now cr (fTuE tu (fEn tu le) k) le to ia th) := hD
            refine lv_aload_n hx hb dX5_frees_37 rfl (lv_at hl 0 rfl) ?_
            refine va_get (D := D) (ci := 5) (v := .ref (b 13)) (C := RX5) (T := TX5) (N := 19) hx hb hts (by decide +kernel) hown hK.1 hP 0 rfl rfl 14 (by decide) (hts (.fieldLink RX5 46 "TurbineorchardModel" "at" "[I") (by decide +kernel)) (fun _ h9 => h9) rfl dX5_frees_38 ?_
            refine lv_iload_n hx hb dX5_frees_41 rfl (lv_at hl 1 rfl) ?_
            refine lv_iconst (v := (-1)) hx hb dX5_frees_42 (by decide) ?_
            refine k_iast hx hb hK.1 hP hD hS 13 0 rfl rfl k (rfl) (by omega) (by decide) dX5_frees_43 (fun H locs hP hD hS => ?_)
            have hP : va_P D vwCl (wM b cI cZ pl (upd (fBrE br tu (fEn tu le) k) (fP tu k) 0) md tn (nI n) sp we tw sl pr al mo now cr (upd (fTuE tu (fEn tu le) k) k (-1)) le to ia th) H := hP
            have hD : va_D A (wM b cI cZ pl (upd (fBrE br tu (fEn tu le) k) (fP tu k) 0) md tn (nI n) sp we tw sl pr al mo now cr (upd (fTuE tu (fEn tu le) k) k (-1)) le to ia th) := hD
            have e9 : (upd (fTuE tu (fEn tu le) k) k (-1)) = (fTuE tu (fEn tu le) (k + 1)) := fTuE_t c9
            rw [e9] at hP hD
            clear e9
            have e9 : (upd (fBrE br tu (fEn tu le) k) (fP tu k) 0) = (fBrE br tu (fEn tu le) (k + 1)) := by rw [show fBrE br tu (fEn tu le) (k + 1) = if (fEn tu le) k = true then _ else _ from rfl, if_pos c9]
            rw [e9] at hP hD
            clear e9
            refine lv_iinc (v := nI (k + 1)) (lv' := [(1, .int (nI (k + 1))), (0, .ref (b 0))]) hx hb dX5_frees_44 hl (k := 1) rfl (nI_1 _) (by decide) rfl (fun ls hl => ?_)
            refine lv_goto (tgt := 2) hx hb dX5_frees_47 (by decide) ?_
            exact ih_2 (k + 1) (by omega) (by omega) _ _ hP hD hS _ (lv_sub hl [1, 0] rfl)
  exact loop_2 (3 - 0 + 1) 0 (by omega) (by omega) _ _ hP hD hS _ (lv_sub hl [1, 0] rfl)

set_option maxHeartbeats 4000000 in
set_option maxRecDepth 100000 in
theorem c_X5_accounts (l : Launch) (D : va_G) (b : Nat → Nat) (cI cZ : ClassId) (sz : Nat) (pl : Nat → Int32) (br : Nat → Int32) (md : Nat → Int32) (tn : Nat → Int32) (cnt : Int32) (sp : Nat → Int32) (we : Nat → Int32) (tw : Nat → Int32) (sl : Nat → Int32) (pr : Nat → Int32) (al : Nat → Int32) (mo : Nat → Int32) (now : Int32) (cr : Nat → Int32) (tu : Nat → Int32) (le : Nat → Int32) (to : Nat → Int32) (ia : Nat → Int32) (th : Int32) (g : Nat) (hg : g < 480) (hsl : ∀ k, sl k = -1 ∨ 0 ≤ sl k) : kUv l yX5_accounts wsX5_accounts ({ frames := 0, cells := 0, slots := 0, locals := 0 }) [.ref (b 0), .int (nI g)] D cI cZ sz (wM b cI cZ pl br md tn cnt sp we tw sl pr al mo now cr tu le to ia th) (wM b cI cZ pl br md tn cnt sp we tw sl pr al (upd mo g (fBring sl pr al g)) now cr tu le to ia th) := by
  refine Met.ofW (cc := cX5_accounts) (maxL := 4) (ret := none) (by decide) rfl ?_
  intro p e s m args below meth c s₁ B hml hv
  obtain ⟨rfl, hsz, hP, hK, hD0⟩ := hv
  have hx := B.exec
  have hb := B.bytes
  have hr := B.returns
  have hts := atoms_spec (ws := wsX5_accounts) B.pre
  have hown : s.vm.findClass RX5 = some m.cls := findClass_of_methodNamed B.named
  have hlocks := B.notSynchronized
  subst hsz
  have hD := hD0.self (sz := s.heap.size)
  generalize hAe : va_A (wM b cI cZ pl br md tn cnt sp we tw sl pr al mo now cr tu le to ia th) s.heap.size = A at hD ⊢
  have hA : ∀ q : Nat, s.heap.size ≤ q → A q := fun q h => by rw [← hAe]; exact Or.inr h
  have hS : va_S A s.heap s.heap [] := va_S.rf
  have hl := lv_entry ([.ref (b 0), .int (nI g)]) (n := 4) (Nat.le_of_ble_eq_true rfl)
  rw [lg_entry_eq]
  generalize (lg_sl ([.ref (b 0), .int (nI g)]) ++ List.replicate (4 - (lg_sl ([.ref (b 0), .int (nI g)])).length) Slot.unset).toArray = ls at hl ⊢
  have hl : lv_has ls 4 [(0, .ref (b 0)), (1, .int (nI g))] := hl
  have join_19 :  ∀ (H : Heap) (locs : List Loc), va_P D vwCl (wM b cI cZ pl br md tn cnt sp we tw sl pr al mo now cr tu le to ia th) H → va_D A (wM b cI cZ pl br md tn cnt sp we tw sl pr al mo now cr tu le to ia th) → va_S A s.heap H locs → ∀ (ls : Array Slot), lv_has ls 4 [(0, .ref (b 0)), (1, .int (nI g))] → W p l e (headSpec wsX5_accounts ({ frames := 0, cells := 0, slots := 0, locals := 0 })).room s m ([.ref (b 0), .int (nI g)] : List Value).toArray below meth c H locs 0 0 (MQ below (va_Qv (fun _ : Unit => True) (fun _ t9 => kAt D A (wM b cI cZ pl br md tn cnt sp we tw sl pr al (upd mo g (fBring sl pr al g)) now cr tu le to ia th) t9) A) ([.ref (b 0), .int (nI g)] : List Value).toArray s 0 0 A) (F0 m 19 ls [.int (fSold sl g)]) := by
    intro   H locs hP hD hS ls hl
    refine lv_istore_n (lv' := [(2, .int (fSold sl g)), (0, .ref (b 0)), (1, .int (nI g))]) hx hb dX5_accounts_19 rfl hl (by decide) rfl (fun ls hl => ?_)
    refine lv_iload_n hx hb dX5_accounts_20 rfl (lv_at hl 0 rfl) ?_
    refine lv_aload_n hx hb dX5_accounts_21 rfl (lv_at hl 1 rfl) ?_
    refine va_get (D := D) (ci := 5) (v := .ref (b 10)) (C := RX5) (T := TX5) (N := 19) hx hb hts (by decide +kernel) hown hK.1 hP 0 rfl rfl 10 (by decide) (hts (.fieldLink RX5 37 "TurbineorchardModel" "all" "[I") (by decide +kernel)) (fun _ h9 => h9) rfl dX5_accounts_22 ?_
    refine lv_iload_n hx hb dX5_accounts_25 rfl (lv_at hl 2 rfl) ?_
    refine k_iald hx hb hK.1 hP 10 0 rfl rfl g (rfl) (by omega) (by decide) dX5_accounts_26 ?_
    refine lv_isub hx hb dX5_accounts_27 ?_
    refine lv_istore_n (lv' := [(3, .int ((fSold sl g) - (al g))), (2, .int (fSold sl g)), (0, .ref (b 0)), (1, .int (nI g))]) hx hb dX5_accounts_28 rfl hl (by decide) rfl (fun ls hl => ?_)
    refine lv_aload_n hx hb dX5_accounts_29 rfl (lv_at hl 2 rfl) ?_
    refine va_get (D := D) (ci := 5) (v := .ref (b 11)) (C := RX5) (T := TX5) (N := 19) hx hb hts (by decide +kernel) hown hK.1 hP 0 rfl rfl 11 (by decide) (hts (.fieldLink RX5 40 "TurbineorchardModel" "money" "[I") (by decide +kernel)) (fun _ h9 => h9) rfl dX5_accounts_30 ?_
    refine lv_iload_n hx hb dX5_accounts_33 rfl (lv_at hl 3 rfl) ?_
    refine lv_iload_n hx hb dX5_accounts_34 rfl (lv_at hl 1 rfl) ?_
    refine lv_aload_n hx hb dX5_accounts_35 rfl (lv_at hl 2 rfl) ?_
    refine va_get (D := D) (ci := 5) (v := .ref (b 9)) (C := RX5) (T := TX5) (N := 19) hx hb hts (by decide +kernel) hown hK.1 hP 0 rfl rfl 9 (by decide) (hts (.fieldLink RX5 34 "TurbineorchardModel" "price" "[I") (by decide +kernel)) (fun _ h9 => h9) rfl dX5_accounts_36 ?_
    refine lv_iload_n hx hb dX5_accounts_39 rfl (lv_at hl 3 rfl) ?_
    refine k_iald hx hb hK.1 hP 9 0 rfl rfl g (rfl) (by omega) (by decide) dX5_accounts_40 ?_
    refine lv_imul hx hb dX5_accounts_41 ?_
    refine lv_iload_n hx hb dX5_accounts_42 rfl (lv_at hl 0 rfl) ?_
    refine lv_if_le (tgt := 59) hx hb dX5_accounts_43 (by decide) (fun c_43 => ?_) (fun c_43 => ?_)
    · refine lv_aload_n hx hb dX5_accounts_59 rfl (lv_at hl 2 rfl) ?_
      refine va_get (D := D) (ci := 5) (v := .ref (b 9)) (C := RX5) (T := TX5) (N := 19) hx hb hts (by decide +kernel) hown hK.1 hP 0 rfl rfl 9 (by decide) (hts (.fieldLink RX5 34 "TurbineorchardModel" "price" "[I") (by decide +kernel)) (fun _ h9 => h9) rfl dX5_accounts_60 ?_
      refine lv_iload_n hx hb dX5_accounts_63 rfl (lv_at hl 3 rfl) ?_
      refine k_iald hx hb hK.1 hP 9 0 rfl rfl g (rfl) (by omega) (by decide) dX5_accounts_64 ?_
      refine lv_iconst (v := 2) hx hb dX5_accounts_65 (by decide) ?_
      refine lv_idiv hx hb dX5_accounts_66 (by decide) ?_
      refine lv_iload_n hx hb dX5_accounts_67 rfl (lv_at hl 0 rfl) ?_
      refine lv_imul hx hb dX5_accounts_68 ?_
      refine lv_isub hx hb dX5_accounts_69 ?_
      refine k_rw (y := fBring sl pr al g) (by unfold fBring; rw [if_neg (Int32.not_lt.mpr c_43)]; grind) ?_
      refine k_iast hx hb hK.1 hP hD hS 11 0 rfl rfl g (rfl) (by omega) (by decide) dX5_accounts_70 (fun H locs hP hD hS => ?_)
      have hP : va_P D vwCl (wM b cI cZ pl br md tn cnt sp we tw sl pr al (upd mo g (fBring sl pr al g)) now cr tu le to ia th) H := hP
      have hD : va_D A (wM b cI cZ pl br md tn cnt sp we tw sl pr al (upd mo g (fBring sl pr al g)) now cr tu le to ia th) := hD
      exact k_endV (sz := 0) hx hb hr hlocks hP hD hS dX5_accounts_71
    · refine lv_iconst (v := 2) hx hb dX5_accounts_46 (by decide) ?_
      refine lv_aload_n hx hb dX5_accounts_47 rfl (lv_at hl 2 rfl) ?_
      refine va_get (D := D) (ci := 5) (v := .ref (b 9)) (C := RX5) (T := TX5) (N := 19) hx hb hts (by decide +kernel) hown hK.1 hP 0 rfl rfl 9 (by decide) (hts (.fieldLink RX5 34 "TurbineorchardModel" "price" "[I") (by decide +kernel)) (fun _ h9 => h9) rfl dX5_accounts_48 ?_
      refine lv_iload_n hx hb dX5_accounts_51 rfl (lv_at hl 3 rfl) ?_
      refine k_iald hx hb hK.1 hP 9 0 rfl rfl g (rfl) (by omega) (by decide) dX5_accounts_52 ?_
      refine lv_imul hx hb dX5_accounts_53 ?_
      refine lv_iload_n hx hb dX5_accounts_54 rfl (lv_at hl 0 rfl) ?_
      refine lv_imul hx hb dX5_accounts_55 ?_
      refine lv_goto (tgt := 69) hx hb dX5_accounts_56 (by decide) ?_
      refine lv_isub hx hb dX5_accounts_69 ?_
      refine k_rw (y := fBring sl pr al g) (by unfold fBring; rw [if_pos (Int32.not_le.mp c_43)]; grind) ?_
      refine k_iast hx hb hK.1 hP hD hS 11 0 rfl rfl g (rfl) (by omega) (by decide) dX5_accounts_70 (fun H locs hP hD hS => ?_)
      have hP : va_P D vwCl (wM b cI cZ pl br md tn cnt sp we tw sl pr al (upd mo g (fBring sl pr al g)) now cr tu le to ia th) H := hP
      have hD : va_D A (wM b cI cZ pl br md tn cnt sp we tw sl pr al (upd mo g (fBring sl pr al g)) now cr tu le to ia th) := hD
      exact k_endV (sz := 0) hx hb hr hlocks hP hD hS dX5_accounts_71
  refine lv_aload_n hx hb dX5_accounts_0 rfl (lv_at hl 0 rfl) ?_
  refine va_get (D := D) (ci := 5) (v := .ref (b 8)) (C := RX5) (T := TX5) (N := 19) hx hb hts (by decide +kernel) hown hK.1 hP 0 rfl rfl 8 (by decide) (hts (.fieldLink RX5 31 "TurbineorchardModel" "sold" "[I") (by decide +kernel)) (fun _ h9 => h9) rfl dX5_accounts_1 ?_
  refine lv_iload_n hx hb dX5_accounts_4 rfl (lv_at hl 1 rfl) ?_
  refine k_iald hx hb hK.1 hP 8 0 rfl rfl g (rfl) (by omega) (by decide) dX5_accounts_5 ?_
  refine lv_if_ge (tgt := 13) hx hb dX5_accounts_6 (by decide) (fun c_6 => ?_) (fun c_6 => ?_)
  · refine lv_aload_n hx hb dX5_accounts_13 rfl (lv_at hl 0 rfl) ?_
    refine va_get (D := D) (ci := 5) (v := .ref (b 8)) (C := RX5) (T := TX5) (N := 19) hx hb hts (by decide +kernel) hown hK.1 hP 0 rfl rfl 8 (by decide) (hts (.fieldLink RX5 31 "TurbineorchardModel" "sold" "[I") (by decide +kernel)) (fun _ h9 => h9) rfl dX5_accounts_14 ?_
    refine lv_iload_n hx hb dX5_accounts_17 rfl (lv_at hl 1 rfl) ?_
    refine k_iald hx hb hK.1 hP 8 0 rfl rfl g (rfl) (by omega) (by decide) dX5_accounts_18 ?_
    refine k_rw (y := fSold sl g) (by unfold fSold; rw [if_neg (fun z9 => absurd c_6 (by rw [z9]; decide))]) ?_
    exact join_19   _ _ hP hD hS _ (lv_sub hl [0, 1] rfl)
  · refine lv_iconst (v := 0) hx hb dX5_accounts_9 (by decide) ?_
    refine lv_goto (tgt := 19) hx hb dX5_accounts_10 (by decide) ?_
    refine k_rw (y := fSold sl g) (by unfold fSold; rw [if_pos ((hsl g).resolve_right c_6)]) ?_
    exact join_19   _ _ hP hD hS _ (lv_sub hl [0, 1] rfl)
