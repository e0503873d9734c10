set_option maxHeartbeats 4000000 in
set_option maxRecDepth 100000 in
theorem vX5_wrongPlace_0 {l : Launch} {d : Nat} {G : GS} {h : HP} {Q : Int → GS → HP → Prop} (a0 a1 a2 : Int) (H : (ty G a0 = 5) ∧ R l MX5_addAll d 0 0 [vR a0, vR a1] G h (fun r1 G2 h3 => S l MX5_wrongPlace (d + 1, 0, 0, 0, 0) 10 [some (vR a0), some (vR a1), none, some (vI a2), some (vI 0), none, none, none] [] G2 h3 Q)) : S l MX5_wrongPlace (d + 1, 0, 0, 0, 0) 0 [some (vR a0), some (vR a1), some (vI a2), none, none, none, none, none] [] G h Q := by
  refine s_aload_n dX5_wrongPlace_0 rfl rfl ?_
  refine s_aload_n dX5_wrongPlace_1 rfl rfl ?_
  have f4 := H.1
  replace H := H.2
  refine s_callV (M' := MX5_addAll) (As := [vR a1]) (a := a0) (st := []) dX5_wrongPlace_2 ml_X5_50 cv_X5_addAll rfl rfl (Nat.le_of_ble_eq_true rfl) ⟨Nat.le_refl _, Nat.le_refl _⟩ f4 (R_mono (fun r1 G2 h3 H => ?_) H)
  show S l MX5_wrongPlace (d + 1, 0, 0, 0, 0) 5 [some (vR a0), some (vR a1), some (vI a2), none, none, none, none, none] [] G2 h3 Q
  refine s_iload_n dX5_wrongPlace_5 rfl rfl ?_
  refine s_istore_n dX5_wrongPlace_6 rfl (by decide) rfl ?_
  show S l MX5_wrongPlace (d + 1, 0, 0, 0, 0) 7 [some (vR a0), some (vR a1), some (vI a2), some (vI a2), none, none, none, none] [] G2 h3 Q
  refine s_iconst dX5_wrongPlace_7 ?_
  refine s_istore dX5_wrongPlace_8 (by decide) rfl ?_
  show S l MX5_wrongPlace (d + 1, 0, 0, 0, 0) 10 [some (vR a0), some (vR a1), some (vI a2), some (vI a2), some (vI 0), none, none, none] [] G2 h3 Q
  exact S_cut (by first | exact ⟨rfl, ⟨rfl, ⟨rfl, ⟨rfl, trivial⟩⟩⟩⟩ | simp [lsub]) H
set_option maxHeartbeats 4000000 in
set_option maxRecDepth 100000 in
theorem vX5_wrongPlace_10 {l : Launch} {d : Nat} {G : GS} {h : HP} {Q : Int → GS → HP → Prop} (a0 a1 a3 a4 : Int) (H : (ty G a1 = 4) ∧ (inA G 10 (h a1 1) 0) ∧ (inR a4) ∧ (inR (h (h a1 1) 0)) ∧ (((h (h a1 1) 0) ≤ a4 → Q ((-1)) G h) ∧ (a4 < (h (h a1 1) 0) → S l MX5_wrongPlace (d + 1, 0, 0, 0, 0) 24 [some (vR a0), some (vR a1), none, some (vI a3), some (vI a4), some (vI 0), none, none] [] G h Q))) : S l MX5_wrongPlace (d + 1, 0, 0, 0, 0) 10 [some (vR a0), some (vR a1), none, some (vI a3), some (vI a4), none, none, none] [] G h Q := by
  refine s_iload dX5_wrongPlace_10 rfl ?_
  refine s_aload_n dX5_wrongPlace_12 rfl rfl ?_
  have f1 := H.1
  replace H := H.2
  refine s_getf (c := 4) (k := 1) (t := 2) (j := 1) dX5_wrongPlace_13 fl_X5_19 (by decide) (by decide) rfl rfl f1 ?_
  refine s_iconst dX5_wrongPlace_16 ?_
  have f2 := H.1
  replace H := H.2
  refine s_iald dX5_wrongPlace_17 f2 ?_
  have f3 := H.1
  replace H := H.2
  have f4 := H.1
  replace H := H.2
  refine s_icmp_ge (tgt := 120) dX5_wrongPlace_18 (by decide) f3 f4 (fun c5 => ?_) (fun c5 => ?_)
  · replace H := H.1 c5
    refine s_iconst dX5_wrongPlace_120 ?_
    exact s_iret dX5_wrongPlace_121 rfl ⟨Nat.le_refl _, Nat.le_refl _⟩ H
  · replace H := H.2 c5
    refine s_iconst dX5_wrongPlace_21 ?_
    refine s_istore dX5_wrongPlace_22 (by decide) rfl ?_
    show S l MX5_wrongPlace (d + 1, 0, 0, 0, 0) 24 [some (vR a0), some (vR a1), none, some (vI a3), some (vI a4), some (vI 0), none, none] [] G h Q
    exact S_cut (by first | exact ⟨rfl, ⟨rfl, ⟨rfl, ⟨rfl, ⟨rfl, trivial⟩⟩⟩⟩⟩ | simp [lsub]) H
set_option maxHeartbeats 4000000 in
set_option maxRecDepth 100000 in
theorem vX5_wrongPlace_24 {l : Launch} {d : Nat} {G : GS} {h : HP} {Q : Int → GS → HP → Prop} (a0 a1 a3 a4 a5 : Int) (H : (ty G a1 = 4) ∧ (inA G 10 (h a1 1) 1) ∧ (inR a5) ∧ (inR (h (h a1 1) 1)) ∧ (((h (h a1 1) 1) ≤ a5 → S l MX5_wrongPlace (d + 1, 0, 0, 0, 0) 10 [some (vR a0), some (vR a1), none, some (vI a3), some (vI (a4 + 1)), none, none, none] [] G h Q) ∧ (a5 < (h (h a1 1) 1) → (ty G a0 = 5) ∧ (inA G 10 (h a0 1) ((9 * a4) + a5)) ∧ R l MX4_fiberAt d 0 0 [vR a1, vI a4, vI a5] G h (fun r8 G9 h10 => (ty G9 (h a0 0) = 1) ∧ R l MX1_minus d 0 0 [vR (h a0 0), vI (h (h a0 1) ((9 * a4) + a5)), vI 1, vI r8] G9 h10 (fun r11 G12 h13 => (ty G12 a0 = 5) ∧ (ty G12 (h13 a0 0) = 1) ∧ R l MX1_filled d 0 0 [vR (h13 a0 0), vI r11] G12 h13 (fun r16 G17 h18 => (inR r16) ∧ (inR a3) ∧ ((r16 ≤ a3 → S l MX5_wrongPlace (d + 1, 0, 0, 0, 0) 24 [some (vR a0), some (vR a1), none, some (vI (a3 - r16)), some (vI a4), some (vI (a5 + 1)), none, none] [] G17 h18 Q) ∧ (a3 < r16 → (ty G17 a0 = 5) ∧ R l MX5_filledIndex d 0 0 [vR a0, vI r11, vI a3] G17 h18 (fun r23 G24 h25 => Q (((100 * a4) + (10 * a5)) + r23) G24 h25))))))))) : S l MX5_wrongPlace (d + 1, 0, 0, 0, 0) 24 [some (vR a0), some (vR a1), none, some (vI a3), some (vI a4), some (vI a5), none, none] [] G h Q := by
  refine s_iload dX5_wrongPlace_24 rfl ?_
  refine s_aload_n dX5_wrongPlace_26 rfl rfl ?_
  have f1 := H.1
  replace H := H.2
  refine s_getf (c := 4) (k := 1) (t := 2) (j := 1) dX5_wrongPlace_27 fl_X5_19 (by decide) (by decide) rfl rfl f1 ?_
  refine s_iconst dX5_wrongPlace_30 ?_
  have f2 := H.1
  replace H := H.2
  refine s_iald dX5_wrongPlace_31 f2 ?_
  have f3 := H.1
  replace H := H.2
  have f4 := H.1
  replace H := H.2
  refine s_icmp_ge (tgt := 114) dX5_wrongPlace_32 (by decide) f3 f4 (fun c5 => ?_) (fun c5 => ?_)
  · replace H := H.1 c5
    refine s_iinc dX5_wrongPlace_114 rfl (by decide) rfl ?_
    show S l MX5_wrongPlace (d + 1, 0, 0, 0, 0) 117 [some (vR a0), some (vR a1), none, some (vI a3), some (vI (a4 + 1)), some (vI a5), none, none] [] G h Q
    refine s_goto (tgt := 10) dX5_wrongPlace_117 (by decide) ?_
    exact S_cut (by first | exact ⟨rfl, ⟨rfl, ⟨rfl, ⟨rfl, trivial⟩⟩⟩⟩ | simp [lsub]) H
  · replace H := H.2 c5
    refine s_aload_n dX5_wrongPlace_35 rfl rfl ?_
    have f6 := H.1
    replace H := H.2
    refine s_getf (c := 5) (k := 0) (t := 2) (j := 0) dX5_wrongPlace_36 fl_X5_15 (by decide) (by decide) rfl rfl f6 ?_
    refine s_aload_n dX5_wrongPlace_39 rfl rfl ?_
    refine s_getf (c := 5) (k := 1) (t := 2) (j := 1) dX5_wrongPlace_40 fl_X5_9 (by decide) (by decide) rfl rfl f6 ?_
    refine s_bipush dX5_wrongPlace_43 (by decide) ?_
    refine s_iload dX5_wrongPlace_45 rfl ?_
    refine s_imul dX5_wrongPlace_47 ?_
    refine s_iload dX5_wrongPlace_48 rfl ?_
    refine s_iadd dX5_wrongPlace_50 ?_
    have f7 := H.1
    replace H := H.2
    refine s_iald dX5_wrongPlace_51 f7 ?_
    refine s_iconst dX5_wrongPlace_52 ?_
    refine s_aload_n dX5_wrongPlace_53 rfl rfl ?_
    refine s_iload dX5_wrongPlace_54 rfl ?_
    refine s_iload dX5_wrongPlace_56 rfl ?_
    refine s_callV (M' := MX4_fiberAt) (As := [vI a4, vI a5]) (a := a1) (st := [vI 1, vI (h (h a0 1) ((9 * a4) + a5)), vR (h a0 0)]) dX5_wrongPlace_58 ml_X5_34 cv_X4_fiberAt rfl rfl (Nat.le_of_ble_eq_true rfl) ⟨Nat.le_refl _, Nat.le_refl _⟩ f1 (R_mono (fun r8 G9 h10 H => ?_) H)
    show S l MX5_wrongPlace (d + 1, 0, 0, 0, 0) 61 [some (vR a0), some (vR a1), none, some (vI a3), some (vI a4), some (vI a5), none, none] [vI r8, vI 1, vI (h (h a0 1) ((9 * a4) + a5)), vR (h a0 0)] G9 h10 Q
    have f14 := H.1
    replace H := H.2
    refine s_callV (M' := MX1_minus) (As := [vI (h (h a0 1) ((9 * a4) + a5)), vI 1, vI r8]) (a := h a0 0) (st := []) dX5_wrongPlace_61 ml_X5_54 cv_X1_minus rfl rfl (Nat.le_of_ble_eq_true rfl) ⟨Nat.le_refl _, Nat.le_refl _⟩ f14 (R_mono (fun r11 G12 h13 H => ?_) H)
    show S l MX5_wrongPlace (d + 1, 0, 0, 0, 0) 64 [some (vR a0), some (vR a1), none, some (vI a3), some (vI a4), some (vI a5), none, none] [vI r11] G12 h13 Q
    refine s_istore dX5_wrongPlace_64 (by decide) rfl ?_
    show S l MX5_wrongPlace (d + 1, 0, 0, 0, 0) 66 [some (vR a0), some (vR a1), none, some (vI a3), some (vI a4), some (vI a5), some (vI r11), none] [] G12 h13 Q
    refine s_aload_n dX5_wrongPlace_66 rfl rfl ?_
    have f15 := H.1
    replace H := H.2
    refine s_getf (c := 5) (k := 0) (t := 2) (j := 0) dX5_wrongPlace_67 fl_X5_15 (by decide) (by decide) rfl rfl f15 ?_
    refine s_iload dX5_wrongPlace_70 rfl ?_
    have f19 := H.1
    replace H := H.2
    refine s_callV (M' := MX1_filled) (As := [vI r11]) (a := h13 a0 0) (st := []) dX5_wrongPlace_72 ml_X5_57 cv_X1_filled rfl rfl (Nat.le_of_ble_eq_true rfl) ⟨Nat.le_refl _, Nat.le_refl _⟩ f19 (R_mono (fun r16 G17 h18 H => ?_) H)
    show S l MX5_wrongPlace (d + 1, 0, 0, 0, 0) 75 [some (vR a0), some (vR a1), none, some (vI a3), some (vI a4), some (vI a5), some (vI r11), none] [vI r16] G17 h18 Q
    refine s_istore dX5_wrongPlace_75 (by decide) rfl ?_
    show S l MX5_wrongPlace (d + 1, 0, 0, 0, 0) 77 [some (vR a0), some (vR a1), none, some (vI a3), some (vI a4), some (vI a5), some (vI r11), some (vI r16)] [] G17 h18 Q
    refine s_iload dX5_wrongPlace_77 rfl ?_
    refine s_iload_n dX5_wrongPlace_79 rfl rfl ?_
    have f20 := H.1
    replace H := H.2
    have f21 := H.1
    replace H := H.2
    refine s_icmp_le (tgt := 103) dX5_wrongPlace_80 (by decide) f20 f21 (fun c22 => ?_) (fun c22 => ?_)
    · replace H := H.1 c22
      refine s_iload_n dX5_wrongPlace_103 rfl rfl ?_
      refine s_iload dX5_wrongPlace_104 rfl ?_
      refine s_isub dX5_wrongPlace_106 ?_
      refine s_istore_n dX5_wrongPlace_107 rfl (by decide) rfl ?_
      show S l MX5_wrongPlace (d + 1, 0, 0, 0, 0) 108 [some (vR a0), some (vR a1), none, some (vI (a3 - r16)), some (vI a4), some (vI a5), some (vI r11), some (vI r16)] [] G17 h18 Q
      refine s_iinc dX5_wrongPlace_108 rfl (by decide) rfl ?_
      show S l MX5_wrongPlace (d + 1, 0, 0, 0, 0) 111 [some (vR a0), some (vR a1), none, some (vI (a3 - r16)), some (vI a4), some (vI (a5 + 1)), some (vI r11), some (vI r16)] [] G17 h18 Q
      refine s_goto (tgt := 24) dX5_wrongPlace_111 (by decide) ?_
      exact S_cut (by first | exact ⟨rfl, ⟨rfl, ⟨rfl, ⟨rfl, ⟨rfl, trivial⟩⟩⟩⟩⟩ | simp [lsub]) H
    · replace H := H.2 c22
      refine s_bipush dX5_wrongPlace_83 (by decide) ?_
      refine s_iload dX5_wrongPlace_85 rfl ?_
      refine s_imul dX5_wrongPlace_87 ?_
      refine s_bipush dX5_wrongPlace_88 (by decide) ?_
      refine s_iload dX5_wrongPlace_90 rfl ?_
      refine s_imul dX5_wrongPlace_92 ?_
      refine s_iadd dX5_wrongPlace_93 ?_
      refine s_aload_n dX5_wrongPlace_94 rfl rfl ?_
      refine s_iload dX5_wrongPlace_95 rfl ?_
      refine s_iload_n dX5_wrongPlace_97 rfl rfl ?_
      have f26 := H.1
      replace H := H.2
      refine s_callV (M' := MX5_filledIndex) (As := [vI r11, vI a3]) (a := a0) (st := [vI ((100 * a4) + (10 * a5))]) dX5_wrongPlace_98 ml_X5_61 cv_X5_filledIndex rfl rfl (Nat.le_of_ble_eq_true rfl) ⟨Nat.le_refl _, Nat.le_refl _⟩ f26 (R_mono (fun r23 G24 h25 H => ?_) H)
      show S l MX5_wrongPlace (d + 1, 0, 0, 0, 0) 101 [some (vR a0), some (vR a1), none, some (vI a3), some (vI a4), some (vI a5), some (vI r11), some (vI r16)] [vI r23, vI ((100 * a4) + (10 * a5))] G24 h25 Q
      refine s_iadd dX5_wrongPlace_101 ?_
      exact s_iret dX5_wrongPlace_102 rfl ⟨Nat.le_refl _, Nat.le_refl _⟩ H
set_option maxHeartbeats 4000000 in
set_option maxRecDepth 100000 in
theorem vX5_addAll_0 {l : Launch} {d : Nat} {G : GS} {h : HP} {Q : Int → GS → HP → Prop} (a0 a1 : Int) (H : (ty G a0 = 5) ∧ R l MJ7_fill_53178 d 0 0 [vR (h a0 1), vI 0] G h (fun r2 G3 h4 => S l MX5_addAll (d + 1, 0, 0, 0, 0) 10 [some (vR a0), some (vR a1), some (vI 0), none, none, none] [] G3 h4 Q)) : S l MX5_addAll (d + 1, 0, 0, 0, 0) 0 [some (vR a0), some (vR a1), none, none, none, none] [] G h Q := by
  refine s_aload_n dX5_addAll_0 rfl rfl ?_
  have f1 := H.1
  replace H := H.2
  refine s_getf (c := 5) (k := 1) (t := 2) (j := 1) dX5_addAll_1 fl_X5_9 (by decide) (by decide) rfl rfl f1 ?_
  refine s_iconst dX5_addAll_4 ?_
  refine s_callS (M' := MJ7_fill_53178) (As := [vR (h a0 1), vI 0]) (st := []) dX5_addAll_5 ml_X5_64 cs_J7_fill_53178 rfl rfl (Nat.le_of_ble_eq_true rfl) ⟨Nat.le_refl _, Nat.le_refl _⟩ (R_mono (fun r2 G3 h4 H => ?_) H)
  show S l MX5_addAll (d + 1, 0, 0, 0, 0) 8 [some (vR a0), some (vR a1), none, none, none, none] [] G3 h4 Q
  refine s_iconst dX5_addAll_8 ?_
  refine s_istore_n dX5_addAll_9 rfl (by decide) rfl ?_
  show S l MX5_addAll (d + 1, 0, 0, 0, 0) 10 [some (vR a0), some (vR a1), some (vI 0), none, none, none] [] G3 h4 Q
  exact S_cut (by first | exact ⟨rfl, ⟨rfl, ⟨rfl, trivial⟩⟩⟩ | simp [lsub]) H
set_option maxHeartbeats 4000000 in
set_option maxRecDepth 100000 in
theorem vX5_addAll_10 {l : Launch} {d : Nat} {G : GS} {h : HP} {Q : Int → GS → HP → Prop} (a0 a1 a2 : Int) (H : (ty G a1 = 4) ∧ (inR a2) ∧ (inR (h a1 6)) ∧ (((h a1 6) ≤ a2 → Q 0 G h) ∧ (a2 < (h a1 6) → R l MX4_rowOf d 0 0 [vR a1, vI 0, vI a2] G h (fun r5 G6 h7 => S l MX5_addAll (d + 1, 0, 0, 0, 0) 28 [some (vR a0), some (vR a1), some (vI a2), some (vI r5), some (vI 0), none] [] G6 h7 Q)))) : S l MX5_addAll (d + 1, 0, 0, 0, 0) 10 [some (vR a0), some (vR a1), some (vI a2), none, none, none] [] G h Q := by
  refine s_iload_n dX5_addAll_10 rfl rfl ?_
  refine s_aload_n dX5_addAll_11 rfl rfl ?_
  have f1 := H.1
  replace H := H.2
  refine s_getf (c := 4) (k := 6) (t := 0) (j := 6) dX5_addAll_12 fl_X5_41 (by decide) (by decide) rfl rfl f1 ?_
  have f2 := H.1
  replace H := H.2
  have f3 := H.1
  replace H := H.2
  refine s_icmp_ge (tgt := 78) dX5_addAll_15 (by decide) f2 f3 (fun c4 => ?_) (fun c4 => ?_)
  · replace H := H.1 c4
    exact s_vret dX5_addAll_78 rfl ⟨Nat.le_refl _, Nat.le_refl _⟩ H
  · replace H := H.2 c4
    refine s_aload_n dX5_addAll_18 rfl rfl ?_
    refine s_iconst dX5_addAll_19 ?_
    refine s_iload_n dX5_addAll_20 rfl rfl ?_
    refine s_callV (M' := MX4_rowOf) (As := [vI 0, vI a2]) (a := a1) (st := []) dX5_addAll_21 ml_X5_44 cv_X4_rowOf rfl rfl (Nat.le_of_ble_eq_true rfl) ⟨Nat.le_refl _, Nat.le_refl _⟩ f1 (R_mono (fun r5 G6 h7 H => ?_) H)
    show S l MX5_addAll (d + 1, 0, 0, 0, 0) 24 [some (vR a0), some (vR a1), some (vI a2), none, none, none] [vI r5] G6 h7 Q
    refine s_istore_n dX5_addAll_24 rfl (by decide) rfl ?_
    show S l MX5_addAll (d + 1, 0, 0, 0, 0) 25 [some (vR a0), some (vR a1), some (vI a2), some (vI r5), none, none] [] G6 h7 Q
    refine s_iconst dX5_addAll_25 ?_
    refine s_istore dX5_addAll_26 (by decide) rfl ?_
    show S l MX5_addAll (d + 1, 0, 0, 0, 0) 28 [some (vR a0), some (vR a1), some (vI a2), some (vI r5), some (vI 0), none] [] G6 h7 Q
    exact S_cut (by first | exact ⟨rfl, ⟨rfl, ⟨rfl, ⟨rfl, ⟨rfl, trivial⟩⟩⟩⟩⟩ | simp [lsub]) H
set_option maxHeartbeats 4000000 in
set_option maxRecDepth 100000 in
theorem vX5_addAll_28 {l : Launch} {d : Nat} {G : GS} {h : HP} {Q : Int → GS → HP → Prop} (a0 a1 a2 a3 a4 : Int) (H : (ty G a1 = 4) ∧ (inA G 10 (h a1 1) 0) ∧ (inR a4) ∧ (inR (h (h a1 1) 0)) ∧ (((h (h a1 1) 0) ≤ a4 → S l MX5_addAll (d + 1, 0, 0, 0, 0) 10 [some (vR a0), some (vR a1), some (vI (a2 + 1)), none, none, none] [] G h Q) ∧ (a4 < (h (h a1 1) 0) → (ty G a0 = 5) ∧ (ty G (h a0 0) = 1) ∧ R l MX1_number d 0 0 [vR (h a0 0), vI a3, vI a4] G h (fun r7 G8 h9 => (inR r7) ∧ ((r7 = 0 → S l MX5_addAll (d + 1, 0, 0, 0, 0) 28 [some (vR a0), some (vR a1), some (vI a2), some (vI a3), some (vI (a4 + 1)), none] [] G8 h9 Q) ∧ (r7 ≠ 0 → (ty G8 a0 = 5) ∧ R l MX5_addLine d 0 0 [vR a0, vR a1, vI a2, vI a4, vI r7] G8 h9 (fun r13 G14 h15 => S l MX5_addAll (d + 1, 0, 0, 0, 0) 28 [some (vR a0), some (vR a1), some (vI a2), some (vI a3), some (vI (a4 + 1)), none] [] G14 h15 Q))))))) : S l MX5_addAll (d + 1, 0, 0, 0, 0) 28 [some (vR a0), some (vR a1), some (vI a2), some (vI a3), some (vI a4), none] [] G h Q := by
  refine s_iload dX5_addAll_28 rfl ?_
  refine s_aload_n dX5_addAll_30 rfl rfl ?_
  have f1 := H.1
  replace H := H.2
  refine s_getf (c := 4) (k := 1) (t := 2) (j := 1) dX5_addAll_31 fl_X5_19 (by decide) (by decide) rfl rfl f1 ?_
  refine s_iconst dX5_addAll_34 ?_
  have f2 := H.1
  replace H := H.2
  refine s_iald dX5_addAll_35 f2 ?_
  have f3 := H.1
  replace H := H.2
  have f4 := H.1
  replace H := H.2
  refine s_icmp_ge (tgt := 72) dX5_addAll_36 (by decide) f3 f4 (fun c5 => ?_) (fun c5 => ?_)
  · replace H := H.1 c5
    refine s_iinc dX5_addAll_72 rfl (by decide) rfl ?_
    show S l MX5_addAll (d + 1, 0, 0, 0, 0) 75 [some (vR a0), some (vR a1), some (vI (a2 + 1)), some (vI a3), some (vI a4), none] [] G h Q
    refine s_goto (tgt := 10) dX5_addAll_75 (by decide) ?_
    exact S_cut (by first | exact ⟨rfl, ⟨rfl, ⟨rfl, trivial⟩⟩⟩ | simp [lsub]) H
  · replace H := H.2 c5
    refine s_aload_n dX5_addAll_39 rfl rfl ?_
    have f6 := H.1
    replace H := H.2
    refine s_getf (c := 5) (k := 0) (t := 2) (j := 0) dX5_addAll_40 fl_X5_15 (by decide) (by decide) rfl rfl f6 ?_
    refine s_iload_n dX5_addAll_43 rfl rfl ?_
    refine s_iload dX5_addAll_44 rfl ?_
    have f10 := H.1
    replace H := H.2
    refine s_callV (M' := MX1_number) (As := [vI a3, vI a4]) (a := h a0 0) (st := []) dX5_addAll_46 ml_X5_24 cv_X1_number rfl rfl (Nat.le_of_ble_eq_true rfl) ⟨Nat.le_refl _, Nat.le_refl _⟩ f10 (R_mono (fun r7 G8 h9 H => ?_) H)
    show S l MX5_addAll (d + 1, 0, 0, 0, 0) 49 [some (vR a0), some (vR a1), some (vI a2), some (vI a3), some (vI a4), none] [vI r7] G8 h9 Q
    refine s_istore dX5_addAll_49 (by decide) rfl ?_
    show S l MX5_addAll (d + 1, 0, 0, 0, 0) 51 [some (vR a0), some (vR a1), some (vI a2), some (vI a3), some (vI a4), some (vI r7)] [] G8 h9 Q
    refine s_iload dX5_addAll_51 rfl ?_
    have f11 := H.1
    replace H := H.2
    refine s_if_eq (tgt := 66) dX5_addAll_53 (by decide) f11 (fun c12 => ?_) (fun c12 => ?_)
    · replace H := H.1 c12
      refine s_iinc dX5_addAll_66 rfl (by decide) rfl ?_
      show S l MX5_addAll (d + 1, 0, 0, 0, 0) 69 [some (vR a0), some (vR a1), some (vI a2), some (vI a3), some (vI (a4 + 1)), some (vI r7)] [] G8 h9 Q
      refine s_goto (tgt := 28) dX5_addAll_69 (by decide) ?_
      exact S_cut (by first | exact ⟨rfl, ⟨rfl, ⟨rfl, ⟨rfl, ⟨rfl, trivial⟩⟩⟩⟩⟩ | simp [lsub]) H
    · replace H := H.2 c12
      refine s_aload_n dX5_addAll_56 rfl rfl ?_
      refine s_aload_n dX5_addAll_57 rfl rfl ?_
      refine s_iload_n dX5_addAll_58 rfl rfl ?_
      refine s_iload dX5_addAll_59 rfl ?_
      refine s_iload dX5_addAll_61 rfl ?_
      have f16 := H.1
      replace H := H.2
      refine s_callV (M' := MX5_addLine) (As := [vR a1, vI a2, vI a4, vI r7]) (a := a0) (st := []) dX5_addAll_63 ml_X5_70 cv_X5_addLine rfl rfl (Nat.le_of_ble_eq_true rfl) ⟨Nat.le_refl _, Nat.le_refl _⟩ f16 (R_mono (fun r13 G14 h15 H => ?_) H)
      show S l MX5_addAll (d + 1, 0, 0, 0, 0) 66 [some (vR a0), some (vR a1), some (vI a2), some (vI a3), some (vI a4), some (vI r7)] [] G14 h15 Q
      refine s_iinc dX5_addAll_66 rfl (by decide) rfl ?_
      show S l MX5_addAll (d + 1, 0, 0, 0, 0) 69 [some (vR a0), some (vR a1), some (vI a2), some (vI a3), some (vI (a4 + 1)), some (vI r7)] [] G14 h15 Q
      refine s_goto (tgt := 28) dX5_addAll_69 (by decide) ?_
      exact S_cut (by first | exact ⟨rfl, ⟨rfl, ⟨rfl, ⟨rfl, ⟨rfl, trivial⟩⟩⟩⟩⟩ | simp [lsub]) H
set_option maxHeartbeats 4000000 in
set_option maxRecDepth 100000 in
theorem vX5_addLine_0 {l : Launch} {d : Nat} {G : GS} {h : HP} {Q : Int → GS → HP → Prop} (a0 a1 a2 a3 a4 : Int) (H : (ty G a1 = 4) ∧ R l MX4_rowOf d 0 0 [vR a1, vI 1, vI a2] G h (fun r1 G2 h3 => (ty G2 a1 = 4) ∧ R l MX4_rowOf d 0 0 [vR a1, vI 2, vI a2] G2 h3 (fun r5 G6 h7 => S l MX5_addLine (d + 1, 0, 0, 0, 0) 19 [some (vR a0), some (vR a1), none, some (vI a3), some (vI a4), some (vI r1), some (vI r5), some (vI 0), none, none] [] G6 h7 Q))) : S l MX5_addLine (d + 1, 0, 0, 0, 0) 0 [some (vR a0), some (vR a1), some (vI a2), some (vI a3), some (vI a4), none, none, none, none, none] [] G h Q := by
  refine s_aload_n dX5_addLine_0 rfl rfl ?_
  refine s_iconst dX5_addLine_1 ?_
  refine s_iload_n dX5_addLine_2 rfl rfl ?_
  have f4 := H.1
  replace H := H.2
  refine s_callV (M' := MX4_rowOf) (As := [vI 1, vI a2]) (a := a1) (st := []) dX5_addLine_3 ml_X5_44 cv_X4_rowOf rfl rfl (Nat.le_of_ble_eq_true rfl) ⟨Nat.le_refl _, Nat.le_refl _⟩ f4 (R_mono (fun r1 G2 h3 H => ?_) H)
  show S l MX5_addLine (d + 1, 0, 0, 0, 0) 6 [some (vR a0), some (vR a1), some (vI a2), some (vI a3), some (vI a4), none, none, none, none, none] [vI r1] G2 h3 Q
  refine s_istore dX5_addLine_6 (by decide) rfl ?_
  show S l MX5_addLine (d + 1, 0, 0, 0, 0) 8 [some (vR a0), some (vR a1), some (vI a2), some (vI a3), some (vI a4), some (vI r1), none, none, none, none] [] G2 h3 Q
  refine s_aload_n dX5_addLine_8 rfl rfl ?_
  refine s_iconst dX5_addLine_9 ?_
  refine s_iload_n dX5_addLine_10 rfl rfl ?_
  have f8 := H.1
  replace H := H.2
  refine s_callV (M' := MX4_rowOf) (As := [vI 2, vI a2]) (a := a1) (st := []) dX5_addLine_11 ml_X5_44 cv_X4_rowOf rfl rfl (Nat.le_of_ble_eq_true rfl) ⟨Nat.le_refl _, Nat.le_refl _⟩ f8 (R_mono (fun r5 G6 h7 H => ?_) H)
  show S l MX5_addLine (d + 1, 0, 0, 0, 0) 14 [some (vR a0), some (vR a1), some (vI a2), some (vI a3), some (vI a4), some (vI r1), none, none, none, none] [vI r5] G6 h7 Q
  refine s_istore dX5_addLine_14 (by decide) rfl ?_
  show S l MX5_addLine (d + 1, 0, 0, 0, 0) 16 [some (vR a0), some (vR a1), some (vI a2), some (vI a3), some (vI a4), some (vI r1), some (vI r5), none, none, none] [] G6 h7 Q
  refine s_iconst dX5_addLine_16 ?_
  refine s_istore dX5_addLine_17 (by decide) rfl ?_
  show S l MX5_addLine (d + 1, 0, 0, 0, 0) 19 [some (vR a0), some (vR a1), some (vI a2), some (vI a3), some (vI a4), some (vI r1), some (vI r5), some (vI 0), none, none] [] G6 h7 Q
  exact S_cut (by first | exact ⟨rfl, ⟨rfl, ⟨rfl, ⟨rfl, ⟨rfl, ⟨rfl, ⟨rfl, trivial⟩⟩⟩⟩⟩⟩⟩ | simp [lsub]) H
set_option maxHeartbeats 4000000 in
set_option maxRecDepth 100000 in
theorem vX5_addLine_19 {l : Launch} {d : Nat} {G : GS} {h : HP} {Q : Int → GS → HP → Prop} (a0 a1 a3 a4 a5 a6 a7 : Int) (H : (ty G a1 = 4) ∧ (inA G 10 (h a1 1) 1) ∧ (inR a7) ∧ (inR (h (h a1 1) 1)) ∧ (((h (h a1 1) 1) ≤ a7 → Q 0 G h) ∧ (a7 < (h (h a1 1) 1) → (ty G a0 = 5) ∧ (ty G (h a0 0) = 1) ∧ R l MX1_number d 0 0 [vR (h a0 0), vI a5, vI a7] G h (fun r7 G8 h9 => (ty G8 a0 = 5) ∧ (ty G8 (h9 a0 0) = 1) ∧ (dvR (a4 * r7) (h9 (h9 a0 0) 0)) ∧ (inA G8 10 (h9 a0 1) ((9 * a3) + a7)) ∧ R l MX1_plus d 0 0 [vR (h9 a0 0), vI (h9 (h9 a0 1) ((9 * a3) + a7)), vI ((a4 * r7) % (h9 (h9 a0 0) 0)), vI a6] G8 h9 (fun r15 G16 h17 => (inA G16 10 (h9 a0 1) ((9 * a3) + a7)) ∧ ∀ h19 : HP, h19 = hset h17 (h9 a0 1) ((9 * a3) + a7) r15 → S l MX5_addLine (d + 1, 0, 0, 0, 0) 19 [some (vR a0), some (vR a1), none, some (vI a3), some (vI a4), some (vI a5), some (vI a6), some (vI (a7 + 1)), none, none] [] G16 h19 Q))))) : S l MX5_addLine (d + 1, 0, 0, 0, 0) 19 [some (vR a0), some (vR a1), none, some (vI a3), some (vI a4), some (vI a5), some (vI a6), some (vI a7), none, none] [] G h Q := by
  refine s_iload dX5_addLine_19 rfl ?_
  refine s_aload_n dX5_addLine_21 rfl rfl ?_
  have f1 := H.1
  replace H := H.2
  refine s_getf (c := 4) (k := 1) (t := 2) (j := 1) dX5_addLine_22 fl_X5_19 (by decide) (by decide) rfl rfl f1 ?_
  refine s_iconst dX5_addLine_25 ?_
  have f2 := H.1
  replace H := H.2
  refine s_iald dX5_addLine_26 f2 ?_
  have f3 := H.1
  replace H := H.2
  have f4 := H.1
  replace H := H.2
  refine s_icmp_ge (tgt := 94) dX5_addLine_27 (by decide) f3 f4 (fun c5 => ?_) (fun c5 => ?_)
  · replace H := H.1 c5
    exact s_vret dX5_addLine_94 rfl ⟨Nat.le_refl _, Nat.le_refl _⟩ H
  · replace H := H.2 c5
    refine s_iload dX5_addLine_30 rfl ?_
    refine s_aload_n dX5_addLine_32 rfl rfl ?_
    have f6 := H.1
    replace H := H.2
    refine s_getf (c := 5) (k := 0) (t := 2) (j := 0) dX5_addLine_33 fl_X5_15 (by decide) (by decide) rfl rfl f6 ?_
    refine s_iload dX5_addLine_36 rfl ?_
    refine s_iload dX5_addLine_38 rfl ?_
    have f10 := H.1
    replace H := H.2
    refine s_callV (M' := MX1_number) (As := [vI a5, vI a7]) (a := h a0 0) (st := [vI a4]) dX5_addLine_40 ml_X5_24 cv_X1_number rfl rfl (Nat.le_of_ble_eq_true rfl) ⟨Nat.le_refl _, Nat.le_refl _⟩ f10 (R_mono (fun r7 G8 h9 H => ?_) H)
    show S l MX5_addLine (d + 1, 0, 0, 0, 0) 43 [some (vR a0), some (vR a1), none, some (vI a3), some (vI a4), some (vI a5), some (vI a6), some (vI a7), none, none] [vI r7, vI a4] G8 h9 Q
    refine s_imul dX5_addLine_43 ?_
    refine s_aload_n dX5_addLine_44 rfl rfl ?_
    have f11 := H.1
    replace H := H.2
    refine s_getf (c := 5) (k := 0) (t := 2) (j := 0) dX5_addLine_45 fl_X5_15 (by decide) (by decide) rfl rfl f11 ?_
    have f12 := H.1
    replace H := H.2
    refine s_getf (c := 1) (k := 0) (t := 0) (j := 0) dX5_addLine_48 fl_X5_30 (by decide) (by decide) rfl rfl f12 ?_
    have f13 := H.1
    replace H := H.2
    refine s_irem dX5_addLine_51 f13 ?_
    refine s_istore dX5_addLine_52 (by decide) rfl ?_
    show S l MX5_addLine (d + 1, 0, 0, 0, 0) 54 [some (vR a0), some (vR a1), none, some (vI a3), some (vI a4), some (vI a5), some (vI a6), some (vI a7), some (vI ((a4 * r7) % (h9 (h9 a0 0) 0))), none] [] G8 h9 Q
    refine s_bipush dX5_addLine_54 (by decide) ?_
    refine s_iload_n dX5_addLine_56 rfl rfl ?_
    refine s_imul dX5_addLine_57 ?_
    refine s_iload dX5_addLine_58 rfl ?_
    refine s_iadd dX5_addLine_60 ?_
    refine s_istore dX5_addLine_61 (by decide) rfl ?_
    show S l MX5_addLine (d + 1, 0, 0, 0, 0) 63 [some (vR a0), some (vR a1), none, some (vI a3), some (vI a4), some (vI a5), some (vI a6), some (vI a7), some (vI ((a4 * r7) % (h9 (h9 a0 0) 0))), some (vI ((9 * a3) + a7))] [] G8 h9 Q
    refine s_aload_n dX5_addLine_63 rfl rfl ?_
    refine s_getf (c := 5) (k := 1) (t := 2) (j := 1) dX5_addLine_64 fl_X5_9 (by decide) (by decide) rfl rfl f11 ?_
    refine s_iload dX5_addLine_67 rfl ?_
    refine s_aload_n dX5_addLine_69 rfl rfl ?_
    refine s_getf (c := 5) (k := 0) (t := 2) (j := 0) dX5_addLine_70 fl_X5_15 (by decide) (by decide) rfl rfl f11 ?_
    refine s_aload_n dX5_addLine_73 rfl rfl ?_
    refine s_getf (c := 5) (k := 1) (t := 2) (j := 1) dX5_addLine_74 fl_X5_9 (by decide) (by decide) rfl rfl f11 ?_
    refine s_iload dX5_addLine_77 rfl ?_
    have f14 := H.1
    replace H := H.2
    refine s_iald dX5_addLine_79 f14 ?_
    refine s_iload dX5_addLine_80 rfl ?_
    refine s_iload dX5_addLine_82 rfl ?_
    refine s_callV (M' := MX1_plus) (As := [vI (h9 (h9 a0 1) ((9 * a3) + a7)), vI ((a4 * r7) % (h9 (h9 a0 0) 0)), vI a6]) (a := h9 a0 0) (st := [vI ((9 * a3) + a7), vR (h9 a0 1)]) dX5_addLine_84 ml_X5_37 cv_X1_plus rfl rfl (Nat.le_of_ble_eq_true rfl) ⟨Nat.le_refl _, Nat.le_refl _⟩ f12 (R_mono (fun r15 G16 h17 H => ?_) H)
    show S l MX5_addLine (d + 1, 0, 0, 0, 0) 87 [some (vR a0), some (vR a1), none, some (vI a3), some (vI a4), some (vI a5), some (vI a6), some (vI a7), some (vI ((a4 * r7) % (h9 (h9 a0 0) 0))), some (vI ((9 * a3) + a7))] [vI r15, vI ((9 * a3) + a7), vR (h9 a0 1)] G16 h17 Q
    have f18 := H.1
    replace H := H.2
    refine s_iastH dX5_addLine_87 f18 (fun h19 eh19 => ?_)
    replace H := H h19 eh19
    refine s_iinc dX5_addLine_88 rfl (by decide) rfl ?_
    show S l MX5_addLine (d + 1, 0, 0, 0, 0) 91 [some (vR a0), some (vR a1), none, some (vI a3), some (vI a4), some (vI a5), some (vI a6), some (vI (a7 + 1)), some (vI ((a4 * r7) % (h9 (h9 a0 0) 0))), some (vI ((9 * a3) + a7))] [] G16 h19 Q
    refine s_goto (tgt := 19) dX5_addLine_91 (by decide) ?_
    exact S_cut (by first | exact ⟨rfl, ⟨rfl, ⟨rfl, ⟨rfl, ⟨rfl, ⟨rfl, ⟨rfl, trivial⟩⟩⟩⟩⟩⟩⟩ | simp [lsub]) H
set_option maxHeartbeats 4000000 in
set_option maxRecDepth 100000 in
theorem vX5_filledIndex_0 {l : Launch} {d : Nat} {G : GS} {h : HP} {Q : Int → GS → HP → Prop} (a0 a1 a2 : Int) (H : S l MX5_filledIndex (d + 1, 0, 0, 0, 0) 5 [some (vR a0), some (vI a1), none, some (vI a2), some (vI 0)] [] G h Q) : S l MX5_filledIndex (d + 1, 0, 0, 0, 0) 0 [some (vR a0), some (vI a1), some (vI a2), none, none] [] G h Q := by
  refine s_iload_n dX5_filledIndex_0 rfl rfl ?_
  refine s_istore_n dX5_filledIndex_1 rfl (by decide) rfl ?_
  show S l MX5_filledIndex (d + 1, 0, 0, 0, 0) 2 [some (vR a0), some (vI a1), some (vI a2), some (vI a2), none] [] G h Q
  refine s_iconst dX5_filledIndex_2 ?_
  refine s_istore dX5_filledIndex_3 (by decide) rfl ?_
  show S l MX5_filledIndex (d + 1, 0, 0, 0, 0) 5 [some (vR a0), some (vI a1), some (vI a2), some (vI a2), some (vI 0)] [] G h Q
  exact S_cut (by first | exact ⟨rfl, ⟨rfl, ⟨rfl, ⟨rfl, trivial⟩⟩⟩⟩ | simp [lsub]) H
set_option maxHeartbeats 4000000 in
set_option maxRecDepth 100000 in
theorem vX5_filledIndex_5 {l : Launch} {d : Nat} {G : GS} {h : HP} {Q : Int → GS → HP → Prop} (a0 a1 a3 a4 : Int) (H : (inR a4) ∧ ((9 ≤ a4 → Q 0 G h) ∧ (a4 < 9 → (ty G a0 = 5) ∧ (ty G (h a0 0) = 1) ∧ R l MX1_number d 0 0 [vR (h a0 0), vI a1, vI a4] G h (fun r4 G5 h6 => (inR r4) ∧ ((r4 = 0 → S l MX5_filledIndex (d + 1, 0, 0, 0, 0) 5 [some (vR a0), some (vI a1), none, some (vI a3), some (vI (a4 + 1))] [] G5 h6 Q) ∧ (r4 ≠ 0 → (inR a3) ∧ ((a3 ≠ 0 → S l MX5_filledIndex (d + 1, 0, 0, 0, 0) 5 [some (vR a0), some (vI a1), none, some (vI (a3 + (-1))), some (vI (a4 + 1))] [] G5 h6 Q) ∧ (a3 = 0 → Q a4 G5 h6)))))))) : S l MX5_filledIndex (d + 1, 0, 0, 0, 0) 5 [some (vR a0), some (vI a1), none, some (vI a3), some (vI a4)] [] G h Q := by
  refine s_iload dX5_filledIndex_5 rfl ?_
  refine s_bipush dX5_filledIndex_7 (by decide) ?_
  have f1 := H.1
  replace H := H.2
  refine s_icmp_ge (tgt := 41) dX5_filledIndex_9 (by decide) f1 (by decide) (fun c2 => ?_) (fun c2 => ?_)
  · replace H := H.1 c2
    refine s_iconst dX5_filledIndex_41 ?_
    exact s_iret dX5_filledIndex_42 rfl ⟨Nat.le_refl _, Nat.le_refl _⟩ H
  · replace H := H.2 c2
    refine s_aload_n dX5_filledIndex_12 rfl rfl ?_
    have f3 := H.1
    replace H := H.2
    refine s_getf (c := 5) (k := 0) (t := 2) (j := 0) dX5_filledIndex_13 fl_X5_15 (by decide) (by decide) rfl rfl f3 ?_
    refine s_iload_n dX5_filledIndex_16 rfl rfl ?_
    refine s_iload dX5_filledIndex_17 rfl ?_
    have f7 := H.1
    replace H := H.2
    refine s_callV (M' := MX1_number) (As := [vI a1, vI a4]) (a := h a0 0) (st := []) dX5_filledIndex_19 ml_X5_24 cv_X1_number rfl rfl (Nat.le_of_ble_eq_true rfl) ⟨Nat.le_refl _, Nat.le_refl _⟩ f7 (R_mono (fun r4 G5 h6 H => ?_) H)
    show S l MX5_filledIndex (d + 1, 0, 0, 0, 0) 22 [some (vR a0), some (vI a1), none, some (vI a3), some (vI a4)] [vI r4] G5 h6 Q
    have f8 := H.1
    replace H := H.2
    refine s_if_eq (tgt := 35) dX5_filledIndex_22 (by decide) f8 (fun c9 => ?_) (fun c9 => ?_)
    · replace H := H.1 c9
      refine s_iinc dX5_filledIndex_35 rfl (by decide) rfl ?_
      show S l MX5_filledIndex (d + 1, 0, 0, 0, 0) 38 [some (vR a0), some (vI a1), none, some (vI a3), some (vI (a4 + 1))] [] G5 h6 Q
      refine s_goto (tgt := 5) dX5_filledIndex_38 (by decide) ?_
      exact S_cut (by first | exact ⟨rfl, ⟨rfl, ⟨rfl, ⟨rfl, trivial⟩⟩⟩⟩ | simp [lsub]) H
    · replace H := H.2 c9
      refine s_iload_n dX5_filledIndex_25 rfl rfl ?_
      have f10 := H.1
      replace H := H.2
      refine s_if_ne (tgt := 32) dX5_filledIndex_26 (by decide) f10 (fun c11 => ?_) (fun c11 => ?_)
      · replace H := H.1 c11
        refine s_iinc dX5_filledIndex_32 rfl (by decide) rfl ?_
        show S l MX5_filledIndex (d + 1, 0, 0, 0, 0) 35 [some (vR a0), some (vI a1), none, some (vI (a3 + (-1))), some (vI a4)] [] G5 h6 Q
        refine s_iinc dX5_filledIndex_35 rfl (by decide) rfl ?_
        show S l MX5_filledIndex (d + 1, 0, 0, 0, 0) 38 [some (vR a0), some (vI a1), none, some (vI (a3 + (-1))), some (vI (a4 + 1))] [] G5 h6 Q
        refine s_goto (tgt := 5) dX5_filledIndex_38 (by decide) ?_
        exact S_cut (by first | exact ⟨rfl, ⟨rfl, ⟨rfl, ⟨rfl, trivial⟩⟩⟩⟩ | simp [lsub]) H
      · replace H := H.2 c11
        refine s_iload dX5_filledIndex_29 rfl ?_
        exact s_iret dX5_filledIndex_31 rfl ⟨Nat.le_refl _, Nat.le_refl _⟩ H
set_option maxHeartbeats 4000000 in
set_option maxRecDepth 100000 in
theorem vX5_byBox_0 {l : Launch} {d : Nat} {G : GS} {h : HP} {Q : Int → GS → HP → Prop} (a0 a1 a2 a3 : Int) (H : S l MX5_byBox (d + 1, 0, 0, 0, 0) 6 [some (vR a0), some (vR a1), some (vI a2), some (vI a3), some (vI 0), some (vI 0), none, none] [] G h Q) : S l MX5_byBox (d + 1, 0, 0, 0, 0) 0 [some (vR a0), some (vR a1), some (vI a2), some (vI a3), none, none, none, none] [] G h Q := by
  refine s_iconst dX5_byBox_0 ?_
  refine s_istore dX5_byBox_1 (by decide) rfl ?_
  show S l MX5_byBox (d + 1, 0, 0, 0, 0) 3 [some (vR a0), some (vR a1), some (vI a2), some (vI a3), some (vI 0), none, none, none] [] G h Q
  refine s_iconst dX5_byBox_3 ?_
  refine s_istore dX5_byBox_4 (by decide) rfl ?_
  show S l MX5_byBox (d + 1, 0, 0, 0, 0) 6 [some (vR a0), some (vR a1), some (vI a2), some (vI a3), some (vI 0), some (vI 0), none, none] [] G h Q
  exact S_cut (by first | exact ⟨rfl, ⟨rfl, ⟨rfl, ⟨rfl, ⟨rfl, ⟨rfl, trivial⟩⟩⟩⟩⟩⟩ | simp [lsub]) H
set_option maxHeartbeats 4000000 in
set_option maxRecDepth 100000 in
theorem vX5_byBox_6 {l : Launch} {d : Nat} {G : GS} {h : HP} {Q : Int → GS → HP → Prop} (a0 a1 a2 a3 a4 a5 : Int) (H : (ty G a1 = 4) ∧ (inA G 10 (h a1 1) 0) ∧ (inR a5) ∧ (inR (h (h a1 1) 0)) ∧ (((h (h a1 1) 0) ≤ a5 → Q a4 G h) ∧ (a5 < (h (h a1 1) 0) → S l MX5_byBox (d + 1, 0, 0, 0, 0) 20 [some (vR a0), some (vR a1), some (vI a2), some (vI a3), some (vI a4), some (vI a5), some (vI 0), none] [] G h Q))) : S l MX5_byBox (d + 1, 0, 0, 0, 0) 6 [some (vR a0), some (vR a1), some (vI a2), some (vI a3), some (vI a4), some (vI a5), none, none] [] G h Q := by
  refine s_iload dX5_byBox_6 rfl ?_
  refine s_aload_n dX5_byBox_8 rfl rfl ?_
  have f1 := H.1
  replace H := H.2
  refine s_getf (c := 4) (k := 1) (t := 2) (j := 1) dX5_byBox_9 fl_X5_19 (by decide) (by decide) rfl rfl f1 ?_
  refine s_iconst dX5_byBox_12 ?_
  have f2 := H.1
  replace H := H.2
  refine s_iald dX5_byBox_13 f2 ?_
  have f3 := H.1
  replace H := H.2
  have f4 := H.1
  replace H := H.2
  refine s_icmp_ge (tgt := 95) dX5_byBox_14 (by decide) f3 f4 (fun c5 => ?_) (fun c5 => ?_)
  · replace H := H.1 c5
    refine s_iload dX5_byBox_95 rfl ?_
    exact s_iret dX5_byBox_97 rfl ⟨Nat.le_refl _, Nat.le_refl _⟩ H
  · replace H := H.2 c5
    refine s_iconst dX5_byBox_17 ?_
    refine s_istore dX5_byBox_18 (by decide) rfl ?_
    show S l MX5_byBox (d + 1, 0, 0, 0, 0) 20 [some (vR a0), some (vR a1), some (vI a2), some (vI a3), some (vI a4), some (vI a5), some (vI 0), none] [] G h Q
    exact S_cut (by first | exact ⟨rfl, ⟨rfl, ⟨rfl, ⟨rfl, ⟨rfl, ⟨rfl, ⟨rfl, trivial⟩⟩⟩⟩⟩⟩⟩ | simp [lsub]) H
set_option maxHeartbeats 4000000 in
set_option maxRecDepth 100000 in
theorem vX5_byBox_20 {l : Launch} {d : Nat} {G : GS} {h : HP} {Q : Int → GS → HP → Prop} (a0 a1 a2 a3 a4 a5 a6 : Int) (H : (ty G a1 = 4) ∧ (inA G 10 (h a1 1) 1) ∧ (inR a6) ∧ (inR (h (h a1 1) 1)) ∧ (((h (h a1 1) 1) ≤ a6 → S l MX5_byBox (d + 1, 0, 0, 0, 0) 6 [some (vR a0), some (vR a1), some (vI a2), some (vI a3), some (vI a4), some (vI (a5 + 1)), none, none] [] G h Q) ∧ (a6 < (h (h a1 1) 1) → (ty G a0 = 5) ∧ (ty G (h a0 0) = 1) ∧ R l MX1_number d 0 0 [vR (h a0 0), vI a2, vI a5] G h (fun r7 G8 h9 => (ty G8 a0 = 5) ∧ (ty G8 (h9 a0 0) = 1) ∧ R l MX1_number d 0 0 [vR (h9 a0 0), vI a3, vI a6] G8 h9 (fun r12 G13 h14 => (ty G13 a0 = 5) ∧ (ty G13 (h14 a0 0) = 1) ∧ (dvR (r7 * r12) (h14 (h14 a0 0) 0)) ∧ (ty G13 a1 = 4) ∧ R l MX4_fiberAt d 0 0 [vR a1, vI a5, vI a6] G13 h14 (fun r19 G20 h21 => (ty G20 (h14 a0 0) = 1) ∧ R l MX1_plus d 0 0 [vR (h14 a0 0), vI a4, vI ((r7 * r12) % (h14 (h14 a0 0) 0)), vI r19] G20 h21 (fun r23 G24 h25 => S l MX5_byBox (d + 1, 0, 0, 0, 0) 20 [some (vR a0), some (vR a1), some (vI a2), some (vI a3), some (vI r23), some (vI a5), some (vI (a6 + 1)), none] [] G24 h25 Q))))))) : S l MX5_byBox (d + 1, 0, 0, 0, 0) 20 [some (vR a0), some (vR a1), some (vI a2), some (vI a3), some (vI a4), some (vI a5), some (vI a6), none] [] G h Q := by
  refine s_iload dX5_byBox_20 rfl ?_
  refine s_aload_n dX5_byBox_22 rfl rfl ?_
  have f1 := H.1
  replace H := H.2
  refine s_getf (c := 4) (k := 1) (t := 2) (j := 1) dX5_byBox_23 fl_X5_19 (by decide) (by decide) rfl rfl f1 ?_
  refine s_iconst dX5_byBox_26 ?_
  have f2 := H.1
  replace H := H.2
  refine s_iald dX5_byBox_27 f2 ?_
  have f3 := H.1
  replace H := H.2
  have f4 := H.1
  replace H := H.2
  refine s_icmp_ge (tgt := 89) dX5_byBox_28 (by decide) f3 f4 (fun c5 => ?_) (fun c5 => ?_)
  · replace H := H.1 c5
    refine s_iinc dX5_byBox_89 rfl (by decide) rfl ?_
    show S l MX5_byBox (d + 1, 0, 0, 0, 0) 92 [some (vR a0), some (vR a1), some (vI a2), some (vI a3), some (vI a4), some (vI (a5 + 1)), some (vI a6), none] [] G h Q
    refine s_goto (tgt := 6) dX5_byBox_92 (by decide) ?_
    exact S_cut (by first | exact ⟨rfl, ⟨rfl, ⟨rfl, ⟨rfl, ⟨rfl, ⟨rfl, trivial⟩⟩⟩⟩⟩⟩ | simp [lsub]) H
  · replace H := H.2 c5
    refine s_aload_n dX5_byBox_31 rfl rfl ?_
    have f6 := H.1
    replace H := H.2
    refine s_getf (c := 5) (k := 0) (t := 2) (j := 0) dX5_byBox_32 fl_X5_15 (by decide) (by decide) rfl rfl f6 ?_
    refine s_iload_n dX5_byBox_35 rfl rfl ?_
    refine s_iload dX5_byBox_36 rfl ?_
    have f10 := H.1
    replace H := H.2
    refine s_callV (M' := MX1_number) (As := [vI a2, vI a5]) (a := h a0 0) (st := []) dX5_byBox_38 ml_X5_24 cv_X1_number rfl rfl (Nat.le_of_ble_eq_true rfl) ⟨Nat.le_refl _, Nat.le_refl _⟩ f10 (R_mono (fun r7 G8 h9 H => ?_) H)
    show S l MX5_byBox (d + 1, 0, 0, 0, 0) 41 [some (vR a0), some (vR a1), some (vI a2), some (vI a3), some (vI a4), some (vI a5), some (vI a6), none] [vI r7] G8 h9 Q
    refine s_aload_n dX5_byBox_41 rfl rfl ?_
    have f11 := H.1
    replace H := H.2
    refine s_getf (c := 5) (k := 0) (t := 2) (j := 0) dX5_byBox_42 fl_X5_15 (by decide) (by decide) rfl rfl f11 ?_
    refine s_iload_n dX5_byBox_45 rfl rfl ?_
    refine s_iload dX5_byBox_46 rfl ?_
    have f15 := H.1
    replace H := H.2
    refine s_callV (M' := MX1_number) (As := [vI a3, vI a6]) (a := h9 a0 0) (st := [vI r7]) dX5_byBox_48 ml_X5_24 cv_X1_number rfl rfl (Nat.le_of_ble_eq_true rfl) ⟨Nat.le_refl _, Nat.le_refl _⟩ f15 (R_mono (fun r12 G13 h14 H => ?_) H)
    show S l MX5_byBox (d + 1, 0, 0, 0, 0) 51 [some (vR a0), some (vR a1), some (vI a2), some (vI a3), some (vI a4), some (vI a5), some (vI a6), none] [vI r12, vI r7] G13 h14 Q
    refine s_imul dX5_byBox_51 ?_
    refine s_aload_n dX5_byBox_52 rfl rfl ?_
    have f16 := H.1
    replace H := H.2
    refine s_getf (c := 5) (k := 0) (t := 2) (j := 0) dX5_byBox_53 fl_X5_15 (by decide) (by decide) rfl rfl f16 ?_
    have f17 := H.1
    replace H := H.2
    refine s_getf (c := 1) (k := 0) (t := 0) (j := 0) dX5_byBox_56 fl_X5_30 (by decide) (by decide) rfl rfl f17 ?_
    have f18 := H.1
    replace H := H.2
    refine s_irem dX5_byBox_59 f18 ?_
    refine s_istore dX5_byBox_60 (by decide) rfl ?_
    show S l MX5_byBox (d + 1, 0, 0, 0, 0) 62 [some (vR a0), some (vR a1), some (vI a2), some (vI a3), some (vI a4), some (vI a5), some (vI a6), some (vI ((r7 * r12) % (h14 (h14 a0 0) 0)))] [] G13 h14 Q
    refine s_aload_n dX5_byBox_62 rfl rfl ?_
    refine s_getf (c := 5) (k := 0) (t := 2) (j := 0) dX5_byBox_63 fl_X5_15 (by decide) (by decide) rfl rfl f16 ?_
    refine s_iload dX5_byBox_66 rfl ?_
    refine s_iload dX5_byBox_68 rfl ?_
    refine s_aload_n dX5_byBox_70 rfl rfl ?_
    refine s_iload dX5_byBox_71 rfl ?_
    refine s_iload dX5_byBox_73 rfl ?_
    have f22 := H.1
    replace H := H.2
    refine s_callV (M' := MX4_fiberAt) (As := [vI a5, vI a6]) (a := a1) (st := [vI ((r7 * r12) % (h14 (h14 a0 0) 0)), vI a4, vR (h14 a0 0)]) dX5_byBox_75 ml_X5_34 cv_X4_fiberAt rfl rfl (Nat.le_of_ble_eq_true rfl) ⟨Nat.le_refl _, Nat.le_refl _⟩ f22 (R_mono (fun r19 G20 h21 H => ?_) H)
    show S l MX5_byBox (d + 1, 0, 0, 0, 0) 78 [some (vR a0), some (vR a1), some (vI a2), some (vI a3), some (vI a4), some (vI a5), some (vI a6), some (vI ((r7 * r12) % (h14 (h14 a0 0) 0)))] [vI r19, vI ((r7 * r12) % (h14 (h14 a0 0) 0)), vI a4, vR (h14 a0 0)] G20 h21 Q
    have f26 := H.1
    replace H := H.2
    refine s_callV (M' := MX1_plus) (As := [vI a4, vI ((r7 * r12) % (h14 (h14 a0 0) 0)), vI r19]) (a := h14 a0 0) (st := []) dX5_byBox_78 ml_X5_37 cv_X1_plus rfl rfl (Nat.le_of_ble_eq_true rfl) ⟨Nat.le_refl _, Nat.le_refl _⟩ f26 (R_mono (fun r23 G24 h25 H => ?_) H)
    show S l MX5_byBox (d + 1, 0, 0, 0, 0) 81 [some (vR a0), some (vR a1), some (vI a2), some (vI a3), some (vI a4), some (vI a5), some (vI a6), some (vI ((r7 * r12) % (h14 (h14 a0 0) 0)))] [vI r23] G24 h25 Q
    refine s_istore dX5_byBox_81 (by decide) rfl ?_
    show S l MX5_byBox (d + 1, 0, 0, 0, 0) 83 [some (vR a0), some (vR a1), some (vI a2), some (vI a3), some (vI r23), some (vI a5), some (vI a6), some (vI ((r7 * r12) % (h14 (h14 a0 0) 0)))] [] G24 h25 Q
    refine s_iinc dX5_byBox_83 rfl (by decide) rfl ?_
    show S l MX5_byBox (d + 1, 0, 0, 0, 0) 86 [some (vR a0), some (vR a1), some (vI a2), some (vI a3), some (vI r23), some (vI a5), some (vI (a6 + 1)), some (vI ((r7 * r12) % (h14 (h14 a0 0) 0)))] [] G24 h25 Q
    refine s_goto (tgt := 20) dX5_byBox_86 (by decide) ?_
    exact S_cut (by first | exact ⟨rfl, ⟨rfl, ⟨rfl, ⟨rfl, ⟨rfl, ⟨rfl, ⟨rfl, trivial⟩⟩⟩⟩⟩⟩⟩ | simp [lsub]) H
set_option maxHeartbeats 4000000 in
set_option maxRecDepth 100000 in
theorem vX5_byScheme_0 {l : Launch} {d : Nat} {G : GS} {h : HP} {Q : Int → GS → HP → Prop} (a0 a1 a2 a3 : Int) (H : S l MX5_byScheme (d + 1, 0, 0, 0, 0) 6 [some (vR a0), some (vR a1), some (vI a2), some (vI a3), some (vI 0), some (vI 0), none, none] [] G h Q) : S l MX5_byScheme (d + 1, 0, 0, 0, 0) 0 [some (vR a0), some (vR a1), some (vI a2), some (vI a3), none, none, none, none] [] G h Q := by
  refine s_iconst dX5_byScheme_0 ?_
  refine s_istore dX5_byScheme_1 (by decide) rfl ?_
  show S l MX5_byScheme (d + 1, 0, 0, 0, 0) 3 [some (vR a0), some (vR a1), some (vI a2), some (vI a3), some (vI 0), none, none, none] [] G h Q
  refine s_iconst dX5_byScheme_3 ?_
  refine s_istore dX5_byScheme_4 (by decide) rfl ?_
  show S l MX5_byScheme (d + 1, 0, 0, 0, 0) 6 [some (vR a0), some (vR a1), some (vI a2), some (vI a3), some (vI 0), some (vI 0), none, none] [] G h Q
  exact S_cut (by first | exact ⟨rfl, ⟨rfl, ⟨rfl, ⟨rfl, ⟨rfl, ⟨rfl, trivial⟩⟩⟩⟩⟩⟩ | simp [lsub]) H
set_option maxHeartbeats 4000000 in
set_option maxRecDepth 100000 in
theorem vX5_byScheme_6 {l : Launch} {d : Nat} {G : GS} {h : HP} {Q : Int → GS → HP → Prop} (a0 a1 a2 a3 a4 a5 : Int) (H : (ty G a1 = 4) ∧ (inR a5) ∧ (inR (h a1 6)) ∧ (((h a1 6) ≤ a5 → Q a4 G h) ∧ (a5 < (h a1 6) → (ty G a0 = 5) ∧ R l MX4_rowOf d 0 0 [vR a1, vI 0, vI a5] G h (fun r6 G7 h8 => (ty G7 (h a0 0) = 1) ∧ R l MX1_sumOfProducts d 0 0 [vR (h a0 0), vI r6, vI a2] G7 h8 (fun r9 G10 h11 => (ty G10 a0 = 5) ∧ (ty G10 a1 = 4) ∧ R l MX4_rowOf d 0 0 [vR a1, vI 1, vI a5] G10 h11 (fun r14 G15 h16 => (ty G15 (h11 a0 0) = 1) ∧ R l MX1_sumOfProducts d 0 0 [vR (h11 a0 0), vI r14, vI a3] G15 h16 (fun r18 G19 h20 => (ty G19 a0 = 5) ∧ (ty G19 (h20 a0 0) = 1) ∧ (dvR (r9 * r18) (h20 (h20 a0 0) 0)) ∧ (ty G19 a1 = 4) ∧ R l MX4_rowOf d 0 0 [vR a1, vI 2, vI a5] G19 h20 (fun r25 G26 h27 => (ty G26 (h20 a0 0) = 1) ∧ R l MX1_plus d 0 0 [vR (h20 a0 0), vI a4, vI ((r9 * r18) % (h20 (h20 a0 0) 0)), vI r25] G26 h27 (fun r29 G30 h31 => S l MX5_byScheme (d + 1, 0, 0, 0, 0) 6 [some (vR a0), some (vR a1), some (vI a2), some (vI a3), some (vI r29), some (vI (a5 + 1)), none, none] [] G30 h31 Q))))))))) : S l MX5_byScheme (d + 1, 0, 0, 0, 0) 6 [some (vR a0), some (vR a1), some (vI a2), some (vI a3), some (vI a4), some (vI a5), none, none] [] G h Q := by
  refine s_iload dX5_byScheme_6 rfl ?_
  refine s_aload_n dX5_byScheme_8 rfl rfl ?_
  have f1 := H.1
  replace H := H.2
  refine s_getf (c := 4) (k := 6) (t := 0) (j := 6) dX5_byScheme_9 fl_X5_41 (by decide) (by decide) rfl rfl f1 ?_
  have f2 := H.1
  replace H := H.2
  have f3 := H.1
  replace H := H.2
  refine s_icmp_ge (tgt := 86) dX5_byScheme_12 (by decide) f2 f3 (fun c4 => ?_) (fun c4 => ?_)
  · replace H := H.1 c4
    refine s_iload dX5_byScheme_86 rfl ?_
    exact s_iret dX5_byScheme_88 rfl ⟨Nat.le_refl _, Nat.le_refl _⟩ H
  · replace H := H.2 c4
    refine s_aload_n dX5_byScheme_15 rfl rfl ?_
    have f5 := H.1
    replace H := H.2
    refine s_getf (c := 5) (k := 0) (t := 2) (j := 0) dX5_byScheme_16 fl_X5_15 (by decide) (by decide) rfl rfl f5 ?_
    refine s_aload_n dX5_byScheme_19 rfl rfl ?_
    refine s_iconst dX5_byScheme_20 ?_
    refine s_iload dX5_byScheme_21 rfl ?_
    refine s_callV (M' := MX4_rowOf) (As := [vI 0, vI a5]) (a := a1) (st := [vR (h a0 0)]) dX5_byScheme_23 ml_X5_44 cv_X4_rowOf rfl rfl (Nat.le_of_ble_eq_true rfl) ⟨Nat.le_refl _, Nat.le_refl _⟩ f1 (R_mono (fun r6 G7 h8 H => ?_) H)
    show S l MX5_byScheme (d + 1, 0, 0, 0, 0) 26 [some (vR a0), some (vR a1), some (vI a2), some (vI a3), some (vI a4), some (vI a5), none, none] [vI r6, vR (h a0 0)] G7 h8 Q
    refine s_iload_n dX5_byScheme_26 rfl rfl ?_
    have f12 := H.1
    replace H := H.2
    refine s_callV (M' := MX1_sumOfProducts) (As := [vI r6, vI a2]) (a := h a0 0) (st := []) dX5_byScheme_27 ml_X5_47 cv_X1_sumOfProducts rfl rfl (Nat.le_of_ble_eq_true rfl) ⟨Nat.le_refl _, Nat.le_refl _⟩ f12 (R_mono (fun r9 G10 h11 H => ?_) H)
    show S l MX5_byScheme (d + 1, 0, 0, 0, 0) 30 [some (vR a0), some (vR a1), some (vI a2), some (vI a3), some (vI a4), some (vI a5), none, none] [vI r9] G10 h11 Q
    refine s_istore dX5_byScheme_30 (by decide) rfl ?_
    show S l MX5_byScheme (d + 1, 0, 0, 0, 0) 32 [some (vR a0), some (vR a1), some (vI a2), some (vI a3), some (vI a4), some (vI a5), some (vI r9), none] [] G10 h11 Q
    refine s_aload_n dX5_byScheme_32 rfl rfl ?_
    have f13 := H.1
    replace H := H.2
    refine s_getf (c := 5) (k := 0) (t := 2) (j := 0) dX5_byScheme_33 fl_X5_15 (by decide) (by decide) rfl rfl f13 ?_
    refine s_aload_n dX5_byScheme_36 rfl rfl ?_
    refine s_iconst dX5_byScheme_37 ?_
    refine s_iload dX5_byScheme_38 rfl ?_
    have f17 := H.1
    replace H := H.2
    refine s_callV (M' := MX4_rowOf) (As := [vI 1, vI a5]) (a := a1) (st := [vR (h11 a0 0)]) dX5_byScheme_40 ml_X5_44 cv_X4_rowOf rfl rfl (Nat.le_of_ble_eq_true rfl) ⟨Nat.le_refl _, Nat.le_refl _⟩ f17 (R_mono (fun r14 G15 h16 H => ?_) H)
    show S l MX5_byScheme (d + 1, 0, 0, 0, 0) 43 [some (vR a0), some (vR a1), some (vI a2), some (vI a3), some (vI a4), some (vI a5), some (vI r9), none] [vI r14, vR (h11 a0 0)] G15 h16 Q
    refine s_iload_n dX5_byScheme_43 rfl rfl ?_
    have f21 := H.1
    replace H := H.2
    refine s_callV (M' := MX1_sumOfProducts) (As := [vI r14, vI a3]) (a := h11 a0 0) (st := []) dX5_byScheme_44 ml_X5_47 cv_X1_sumOfProducts rfl rfl (Nat.le_of_ble_eq_true rfl) ⟨Nat.le_refl _, Nat.le_refl _⟩ f21 (R_mono (fun r18 G19 h20 H => ?_) H)
    show S l MX5_byScheme (d + 1, 0, 0, 0, 0) 47 [some (vR a0), some (vR a1), some (vI a2), some (vI a3), some (vI a4), some (vI a5), some (vI r9), none] [vI r18] G19 h20 Q
    refine s_istore dX5_byScheme_47 (by decide) rfl ?_
    show S l MX5_byScheme (d + 1, 0, 0, 0, 0) 49 [some (vR a0), some (vR a1), some (vI a2), some (vI a3), some (vI a4), some (vI a5), some (vI r9), some (vI r18)] [] G19 h20 Q
    refine s_aload_n dX5_byScheme_49 rfl rfl ?_
    have f22 := H.1
    replace H := H.2
    refine s_getf (c := 5) (k := 0) (t := 2) (j := 0) dX5_byScheme_50 fl_X5_15 (by decide) (by decide) rfl rfl f22 ?_
    refine s_iload dX5_byScheme_53 rfl ?_
    refine s_iload dX5_byScheme_55 rfl ?_
    refine s_iload dX5_byScheme_57 rfl ?_
    refine s_imul dX5_byScheme_59 ?_
    refine s_aload_n dX5_byScheme_60 rfl rfl ?_
    refine s_getf (c := 5) (k := 0) (t := 2) (j := 0) dX5_byScheme_61 fl_X5_15 (by decide) (by decide) rfl rfl f22 ?_
    have f23 := H.1
    replace H := H.2
    refine s_getf (c := 1) (k := 0) (t := 0) (j := 0) dX5_byScheme_64 fl_X5_30 (by decide) (by decide) rfl rfl f23 ?_
    have f24 := H.1
    replace H := H.2
    refine s_irem dX5_byScheme_67 f24 ?_
    refine s_aload_n dX5_byScheme_68 rfl rfl ?_
    refine s_iconst dX5_byScheme_69 ?_
    refine s_iload dX5_byScheme_70 rfl ?_
    have f28 := H.1
    replace H := H.2
    refine s_callV (M' := MX4_rowOf) (As := [vI 2, vI a5]) (a := a1) (st := [vI ((r9 * r18) % (h20 (h20 a0 0) 0)), vI a4, vR (h20 a0 0)]) dX5_byScheme_72 ml_X5_44 cv_X4_rowOf rfl rfl (Nat.le_of_ble_eq_true rfl) ⟨Nat.le_refl _, Nat.le_refl _⟩ f28 (R_mono (fun r25 G26 h27 H => ?_) H)
    show S l MX5_byScheme (d + 1, 0, 0, 0, 0) 75 [some (vR a0), some (vR a1), some (vI a2), some (vI a3), some (vI a4), some (vI a5), some (vI r9), some (vI r18)] [vI r25, vI ((r9 * r18) % (h20 (h20 a0 0) 0)), vI a4, vR (h20 a0 0)] G26 h27 Q
    have f32 := H.1
    replace H := H.2
    refine s_callV (M' := MX1_plus) (As := [vI a4, vI ((r9 * r18) % (h20 (h20 a0 0) 0)), vI r25]) (a := h20 a0 0) (st := []) dX5_byScheme_75 ml_X5_37 cv_X1_plus rfl rfl (Nat.le_of_ble_eq_true rfl) ⟨Nat.le_refl _, Nat.le_refl _⟩ f32 (R_mono (fun r29 G30 h31 H => ?_) H)
    show S l MX5_byScheme (d + 1, 0, 0, 0, 0) 78 [some (vR a0), some (vR a1), some (vI a2), some (vI a3), some (vI a4), some (vI a5), some (vI r9), some (vI r18)] [vI r29] G30 h31 Q
    refine s_istore dX5_byScheme_78 (by decide) rfl ?_
    show S l MX5_byScheme (d + 1, 0, 0, 0, 0) 80 [some (vR a0), some (vR a1), some (vI a2), some (vI a3), some (vI r29), some (vI a5), some (vI r9), some (vI r18)] [] G30 h31 Q
    refine s_iinc dX5_byScheme_80 rfl (by decide) rfl ?_
    show S l MX5_byScheme (d + 1, 0, 0, 0, 0) 83 [some (vR a0), some (vR a1), some (vI a2), some (vI a3), some (vI r29), some (vI (a5 + 1)), some (vI r9), some (vI r18)] [] G30 h31 Q
    refine s_goto (tgt := 6) dX5_byScheme_83 (by decide) ?_
    exact S_cut (by first | exact ⟨rfl, ⟨rfl, ⟨rfl, ⟨rfl, ⟨rfl, ⟨rfl, trivial⟩⟩⟩⟩⟩⟩ | simp [lsub]) H
