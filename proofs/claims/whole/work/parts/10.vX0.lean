set_option maxHeartbeats 4000000 in
set_option maxRecDepth 100000 in
theorem vX0_clear_0 {l : Launch} {d : Nat} {G : GS} {h : HP} {Q : Int → GS → HP → Prop} (a0 : Int) (H : (ty G a0 = 0) ∧ ∀ h2 : HP, h2 = hset h a0 4 0 → Q 0 G h2) : S l MX0_clear (d, 0, 0, 0, 0) 0 [some (vR a0)] [] G h Q := by
  refine s_aload_n dX0_clear_0 rfl rfl ?_
  refine s_iconst dX0_clear_1 ?_
  have f1 := H.1
  replace H := H.2
  refine s_putI (c := 0) (k := 4) (j := 4) dX0_clear_2 fl_X0_25 (by decide) (by decide) rfl rfl rfl f1 (fun h2 eh2 => ?_)
  replace H := H h2 eh2
  exact s_vret dX0_clear_5 rfl ⟨Nat.le_refl _, Nat.le_refl _⟩ H
set_option maxHeartbeats 4000000 in
set_option maxRecDepth 100000 in
theorem vX0_add_0 {l : Launch} {d : Nat} {G : GS} {h : HP} {Q : Int → GS → HP → Prop} (a0 a1 : Int) (H : (ty G a0 = 0) ∧ R l MX0_reduce d 0 0 [vR a0, vI a1] G h (fun r1 G2 h3 => (inR r1) ∧ ((r1 = 0 → Q 0 G2 h3) ∧ (r1 ≠ 0 → (ty G2 a0 = 0) ∧ (inR (h3 a0 4)) ∧ (((h3 a0 4) < 9 → (ty G2 (h3 a0 0) = 1) ∧ R l MX1_first d 0 0 [vR (h3 a0 0), vI r1] G2 h3 (fun r11 G12 h13 => (inA G12 10 (h3 (h3 a0 0) 2) r11) ∧ (ty G12 a0 = 0) ∧ (ty G12 (h13 a0 0) = 1) ∧ (inA G12 10 (h13 (h13 a0 0) 1) (h13 a0 4)) ∧ R l MX0_blendOf d 0 0 [vR a0, vI a1] G12 h13 (fun r18 G19 h20 => (ty G19 (h13 a0 0) = 1) ∧ R l MX1_minus d 0 0 [vR (h13 a0 0), vI (h13 (h13 (h13 a0 0) 1) (h13 a0 4)), vI 1, vI r18] G19 h20 (fun r21 G22 h23 => (ty G22 a0 = 0) ∧ (ty G22 (h23 a0 0) = 1) ∧ R l MX1_plus d 0 0 [vR (h23 a0 0), vI 0, vI (h13 (h3 (h3 a0 0) 2) r11), vI r1] G22 h23 (fun r26 G27 h28 => (inA G27 10 (h23 a0 1) (h23 a0 4)) ∧ ∀ h31 : HP, h31 = hset h28 (h23 a0 1) (h23 a0 4) r26 → (ty G27 a0 = 0) ∧ (ty G27 (h31 a0 0) = 1) ∧ R l MX1_firstIndex d 0 0 [vR (h31 a0 0), vI r1] G27 h31 (fun r33 G34 h35 => (inA G34 10 (h31 a0 2) (h31 a0 4)) ∧ ∀ h38 : HP, h38 = hset h35 (h31 a0 2) (h31 a0 4) r33 → (ty G34 a0 = 0) ∧ (ty G34 (h38 a0 0) = 1) ∧ R l MX1_plus d 0 0 [vR (h38 a0 0), vI 0, vI (h13 (h3 (h3 a0 0) 2) r11), vI r21] G34 h38 (fun r40 G41 h42 => (inA G41 10 (h38 a0 3) (h38 a0 4)) ∧ ∀ h45 : HP, h45 = hset h42 (h38 a0 3) (h38 a0 4) r40 → (ty G41 a0 = 0) ∧ ∀ h47 : HP, h47 = hset h45 a0 4 ((h45 a0 4) + 1) → Q 1 G41 h47))))))) ∧ (9 ≤ (h3 a0 4) → Q 0 G2 h3)))))) : S l MX0_add (d + 1, 0, 0, 0, 0) 0 [some (vR a0), some (vI a1), none, none, none] [] G h Q := by
  refine s_aload_n dX0_add_0 rfl rfl ?_
  refine s_iload_n dX0_add_1 rfl rfl ?_
  have f4 := H.1
  replace H := H.2
  refine s_callV (M' := MX0_reduce) (As := [vI a1]) (a := a0) (st := []) dX0_add_2 ml_X0_42 cv_X0_reduce rfl rfl (Nat.le_of_ble_eq_true rfl) ⟨Nat.le_refl _, Nat.le_refl _⟩ f4 (R_mono (fun r1 G2 h3 H => ?_) H)
  show S l MX0_add (d + 1, 0, 0, 0, 0) 5 [some (vR a0), some (vI a1), none, none, none] [vI r1] G2 h3 Q
  refine s_istore_n dX0_add_5 rfl (by decide) rfl ?_
  show S l MX0_add (d + 1, 0, 0, 0, 0) 6 [some (vR a0), some (vI a1), some (vI r1), none, none] [] G2 h3 Q
  refine s_iload_n dX0_add_6 rfl rfl ?_
  have f5 := H.1
  replace H := H.2
  refine s_if_eq (tgt := 19) dX0_add_7 (by decide) f5 (fun c6 => ?_) (fun c6 => ?_)
  · replace H := H.1 c6
    refine s_iconst dX0_add_19 ?_
    exact s_zret dX0_add_20 rfl ⟨Nat.le_refl _, Nat.le_refl _⟩ (by decide) H
  · replace H := H.2 c6
    refine s_aload_n dX0_add_10 rfl rfl ?_
    have f7 := H.1
    replace H := H.2
    refine s_getf (c := 0) (k := 4) (t := 0) (j := 4) dX0_add_11 fl_X0_25 (by decide) (by decide) rfl rfl f7 ?_
    refine s_bipush dX0_add_14 (by decide) ?_
    have f8 := H.1
    replace H := H.2
    refine s_icmp_lt (tgt := 21) dX0_add_16 (by decide) f8 (by decide) (fun c9 => ?_) (fun c9 => ?_)
    · replace H := H.1 c9
      refine s_aload_n dX0_add_21 rfl rfl ?_
      refine s_getf (c := 0) (k := 0) (t := 2) (j := 0) dX0_add_22 fl_X0_21 (by decide) (by decide) rfl rfl f7 ?_
      have f10 := H.1
      replace H := H.2
      refine s_getf (c := 1) (k := 2) (t := 2) (j := 2) dX0_add_25 fl_X0_46 (by decide) (by decide) rfl rfl f10 ?_
      refine s_aload_n dX0_add_28 rfl rfl ?_
      refine s_getf (c := 0) (k := 0) (t := 2) (j := 0) dX0_add_29 fl_X0_21 (by decide) (by decide) rfl rfl f7 ?_
      refine s_iload_n dX0_add_32 rfl rfl ?_
      refine s_callV (M' := MX1_first) (As := [vI r1]) (a := h3 a0 0) (st := [vR (h3 (h3 a0 0) 2)]) dX0_add_33 ml_X0_49 cv_X1_first rfl rfl (Nat.le_of_ble_eq_true rfl) ⟨Nat.le_refl _, Nat.le_refl _⟩ f10 (R_mono (fun r11 G12 h13 H => ?_) H)
      show S l MX0_add (d + 1, 0, 0, 0, 0) 36 [some (vR a0), some (vI a1), some (vI r1), none, none] [vI r11, vR (h3 (h3 a0 0) 2)] G12 h13 Q
      have f14 := H.1
      replace H := H.2
      refine s_iald dX0_add_36 f14 ?_
      refine s_istore_n dX0_add_37 rfl (by decide) rfl ?_
      show S l MX0_add (d + 1, 0, 0, 0, 0) 38 [some (vR a0), some (vI a1), some (vI r1), some (vI (h13 (h3 (h3 a0 0) 2) r11)), none] [] G12 h13 Q
      refine s_aload_n dX0_add_38 rfl rfl ?_
      have f15 := H.1
      replace H := H.2
      refine s_getf (c := 0) (k := 0) (t := 2) (j := 0) dX0_add_39 fl_X0_21 (by decide) (by decide) rfl rfl f15 ?_
      refine s_aload_n dX0_add_42 rfl rfl ?_
      refine s_getf (c := 0) (k := 0) (t := 2) (j := 0) dX0_add_43 fl_X0_21 (by decide) (by decide) rfl rfl f15 ?_
      have f16 := H.1
      replace H := H.2
      refine s_getf (c := 1) (k := 1) (t := 2) (j := 1) dX0_add_46 fl_X0_52 (by decide) (by decide) rfl rfl f16 ?_
      refine s_aload_n dX0_add_49 rfl rfl ?_
      refine s_getf (c := 0) (k := 4) (t := 0) (j := 4) dX0_add_50 fl_X0_25 (by decide) (by decide) rfl rfl f15 ?_
      have f17 := H.1
      replace H := H.2
      refine s_iald dX0_add_53 f17 ?_
      refine s_iconst dX0_add_54 ?_
      refine s_aload_n dX0_add_55 rfl rfl ?_
      refine s_iload_n dX0_add_56 rfl rfl ?_
      refine s_callV (M' := MX0_blendOf) (As := [vI a1]) (a := a0) (st := [vI 1, vI (h13 (h13 (h13 a0 0) 1) (h13 a0 4)), vR (h13 a0 0)]) dX0_add_57 ml_X0_55 cv_X0_blendOf rfl rfl (Nat.le_of_ble_eq_true rfl) ⟨Nat.le_refl _, Nat.le_refl _⟩ f15 (R_mono (fun r18 G19 h20 H => ?_) H)
      show S l MX0_add (d + 1, 0, 0, 0, 0) 60 [some (vR a0), some (vI a1), some (vI r1), some (vI (h13 (h3 (h3 a0 0) 2) r11)), none] [vI r18, vI 1, vI (h13 (h13 (h13 a0 0) 1) (h13 a0 4)), vR (h13 a0 0)] G19 h20 Q
      have f24 := H.1
      replace H := H.2
      refine s_callV (M' := MX1_minus) (As := [vI (h13 (h13 (h13 a0 0) 1) (h13 a0 4)), vI 1, vI r18]) (a := h13 a0 0) (st := []) dX0_add_60 ml_X0_35 cv_X1_minus rfl rfl (Nat.le_of_ble_eq_true rfl) ⟨Nat.le_refl _, Nat.le_refl _⟩ f24 (R_mono (fun r21 G22 h23 H => ?_) H)
      show S l MX0_add (d + 1, 0, 0, 0, 0) 63 [some (vR a0), some (vI a1), some (vI r1), some (vI (h13 (h3 (h3 a0 0) 2) r11)), none] [vI r21] G22 h23 Q
      refine s_istore dX0_add_63 (by decide) rfl ?_
      show S l MX0_add (d + 1, 0, 0, 0, 0) 65 [some (vR a0), some (vI a1), some (vI r1), some (vI (h13 (h3 (h3 a0 0) 2) r11)), some (vI r21)] [] G22 h23 Q
      refine s_aload_n dX0_add_65 rfl rfl ?_
      have f25 := H.1
      replace H := H.2
      refine s_getf (c := 0) (k := 1) (t := 2) (j := 1) dX0_add_66 fl_X0_9 (by decide) (by decide) rfl rfl f25 ?_
      refine s_aload_n dX0_add_69 rfl rfl ?_
      refine s_getf (c := 0) (k := 4) (t := 0) (j := 4) dX0_add_70 fl_X0_25 (by decide) (by decide) rfl rfl f25 ?_
      refine s_aload_n dX0_add_73 rfl rfl ?_
      refine s_getf (c := 0) (k := 0) (t := 2) (j := 0) dX0_add_74 fl_X0_21 (by decide) (by decide) rfl rfl f25 ?_
      refine s_iconst dX0_add_77 ?_
      refine s_iload_n dX0_add_78 rfl rfl ?_
      refine s_iload_n dX0_add_79 rfl rfl ?_
      have f29 := H.1
      replace H := H.2
      refine s_callV (M' := MX1_plus) (As := [vI 0, vI (h13 (h3 (h3 a0 0) 2) r11), vI r1]) (a := h23 a0 0) (st := [vI (h23 a0 4), vR (h23 a0 1)]) dX0_add_80 ml_X0_39 cv_X1_plus rfl rfl (Nat.le_of_ble_eq_true rfl) ⟨Nat.le_refl _, Nat.le_refl _⟩ f29 (R_mono (fun r26 G27 h28 H => ?_) H)
      show S l MX0_add (d + 1, 0, 0, 0, 0) 83 [some (vR a0), some (vI a1), some (vI r1), some (vI (h13 (h3 (h3 a0 0) 2) r11)), some (vI r21)] [vI r26, vI (h23 a0 4), vR (h23 a0 1)] G27 h28 Q
      have f30 := H.1
      replace H := H.2
      refine s_iastH dX0_add_83 f30 (fun h31 eh31 => ?_)
      replace H := H h31 eh31
      refine s_aload_n dX0_add_84 rfl rfl ?_
      have f32 := H.1
      replace H := H.2
      refine s_getf (c := 0) (k := 2) (t := 2) (j := 2) dX0_add_85 fl_X0_15 (by decide) (by decide) rfl rfl f32 ?_
      refine s_aload_n dX0_add_88 rfl rfl ?_
      refine s_getf (c := 0) (k := 4) (t := 0) (j := 4) dX0_add_89 fl_X0_25 (by decide) (by decide) rfl rfl f32 ?_
      refine s_aload_n dX0_add_92 rfl rfl ?_
      refine s_getf (c := 0) (k := 0) (t := 2) (j := 0) dX0_add_93 fl_X0_21 (by decide) (by decide) rfl rfl f32 ?_
      refine s_iload_n dX0_add_96 rfl rfl ?_
      have f36 := H.1
      replace H := H.2
      refine s_callV (M' := MX1_firstIndex) (As := [vI r1]) (a := h31 a0 0) (st := [vI (h31 a0 4), vR (h31 a0 2)]) dX0_add_97 ml_X0_58 cv_X1_firstIndex rfl rfl (Nat.le_of_ble_eq_true rfl) ⟨Nat.le_refl _, Nat.le_refl _⟩ f36 (R_mono (fun r33 G34 h35 H => ?_) H)
      show S l MX0_add (d + 1, 0, 0, 0, 0) 100 [some (vR a0), some (vI a1), some (vI r1), some (vI (h13 (h3 (h3 a0 0) 2) r11)), some (vI r21)] [vI r33, vI (h31 a0 4), vR (h31 a0 2)] G34 h35 Q
      have f37 := H.1
      replace H := H.2
      refine s_iastH dX0_add_100 f37 (fun h38 eh38 => ?_)
      replace H := H h38 eh38
      refine s_aload_n dX0_add_101 rfl rfl ?_
      have f39 := H.1
      replace H := H.2
      refine s_getf (c := 0) (k := 3) (t := 2) (j := 3) dX0_add_102 fl_X0_18 (by decide) (by decide) rfl rfl f39 ?_
      refine s_aload_n dX0_add_105 rfl rfl ?_
      refine s_getf (c := 0) (k := 4) (t := 0) (j := 4) dX0_add_106 fl_X0_25 (by decide) (by decide) rfl rfl f39 ?_
      refine s_aload_n dX0_add_109 rfl rfl ?_
      refine s_getf (c := 0) (k := 0) (t := 2) (j := 0) dX0_add_110 fl_X0_21 (by decide) (by decide) rfl rfl f39 ?_
      refine s_iconst dX0_add_113 ?_
      refine s_iload_n dX0_add_114 rfl rfl ?_
      refine s_iload dX0_add_115 rfl ?_
      have f43 := H.1
      replace H := H.2
      refine s_callV (M' := MX1_plus) (As := [vI 0, vI (h13 (h3 (h3 a0 0) 2) r11), vI r21]) (a := h38 a0 0) (st := [vI (h38 a0 4), vR (h38 a0 3)]) dX0_add_117 ml_X0_39 cv_X1_plus rfl rfl (Nat.le_of_ble_eq_true rfl) ⟨Nat.le_refl _, Nat.le_refl _⟩ f43 (R_mono (fun r40 G41 h42 H => ?_) H)
      show S l MX0_add (d + 1, 0, 0, 0, 0) 120 [some (vR a0), some (vI a1), some (vI r1), some (vI (h13 (h3 (h3 a0 0) 2) r11)), some (vI r21)] [vI r40, vI (h38 a0 4), vR (h38 a0 3)] G41 h42 Q
      have f44 := H.1
      replace H := H.2
      refine s_iastH dX0_add_120 f44 (fun h45 eh45 => ?_)
      replace H := H h45 eh45
      refine s_aload_n dX0_add_121 rfl rfl ?_
      refine s_dup dX0_add_122 rfl ?_
      have f46 := H.1
      replace H := H.2
      refine s_getf (c := 0) (k := 4) (t := 0) (j := 4) dX0_add_123 fl_X0_25 (by decide) (by decide) rfl rfl f46 ?_
      refine s_iconst dX0_add_126 ?_
      refine s_iadd dX0_add_127 ?_
      refine s_putI (c := 0) (k := 4) (j := 4) dX0_add_128 fl_X0_25 (by decide) (by decide) rfl rfl rfl f46 (fun h47 eh47 => ?_)
      replace H := H h47 eh47
      refine s_iconst dX0_add_131 ?_
      exact s_zret dX0_add_132 rfl ⟨Nat.le_refl _, Nat.le_refl _⟩ (by decide) H
    · replace H := H.2 c9
      refine s_iconst dX0_add_19 ?_
      exact s_zret dX0_add_20 rfl ⟨Nat.le_refl _, Nat.le_refl _⟩ (by decide) H
set_option maxHeartbeats 4000000 in
set_option maxRecDepth 100000 in
theorem vX0_reduce_0 {l : Launch} {d : Nat} {G : GS} {h : HP} {Q : Int → GS → HP → Prop} (a0 a1 : Int) (H : S l MX0_reduce (d + 1, 0, 0, 0, 0) 4 [some (vR a0), none, some (vI a1), some (vI 0)] [] G h Q) : S l MX0_reduce (d + 1, 0, 0, 0, 0) 0 [some (vR a0), some (vI a1), none, none] [] G h Q := by
  refine s_iload_n dX0_reduce_0 rfl rfl ?_
  refine s_istore_n dX0_reduce_1 rfl (by decide) rfl ?_
  show S l MX0_reduce (d + 1, 0, 0, 0, 0) 2 [some (vR a0), some (vI a1), some (vI a1), none] [] G h Q
  refine s_iconst dX0_reduce_2 ?_
  refine s_istore_n dX0_reduce_3 rfl (by decide) rfl ?_
  show S l MX0_reduce (d + 1, 0, 0, 0, 0) 4 [some (vR a0), some (vI a1), some (vI a1), some (vI 0)] [] G h Q
  exact S_cut (by first | exact ⟨rfl, ⟨rfl, ⟨rfl, trivial⟩⟩⟩ | simp [lsub]) H
set_option maxHeartbeats 4000000 in
set_option maxRecDepth 100000 in
theorem vX0_reduce_4 {l : Launch} {d : Nat} {G : GS} {h : HP} {Q : Int → GS → HP → Prop} (a0 a2 a3 : Int) (H : (ty G a0 = 0) ∧ (inR a3) ∧ (inR (h a0 4)) ∧ (((h a0 4) ≤ a3 → Q a2 G h) ∧ (a3 < (h a0 4) → (inA G 10 (h a0 2) a3) ∧ (ty G (h a0 0) = 1) ∧ R l MX1_number d 0 0 [vR (h a0 0), vI a2, vI (h (h a0 2) a3)] G h (fun r6 G7 h8 => (ty G7 a0 = 0) ∧ (inA G7 10 (h8 a0 1) a3) ∧ (ty G7 (h a0 0) = 1) ∧ R l MX1_minus d 0 0 [vR (h a0 0), vI a2, vI r6, vI (h8 (h8 a0 1) a3)] G7 h8 (fun r12 G13 h14 => S l MX0_reduce (d + 1, 0, 0, 0, 0) 4 [some (vR a0), none, some (vI r12), some (vI (a3 + 1))] [] G13 h14 Q))))) : S l MX0_reduce (d + 1, 0, 0, 0, 0) 4 [some (vR a0), none, some (vI a2), some (vI a3)] [] G h Q := by
  refine s_iload_n dX0_reduce_4 rfl rfl ?_
  refine s_aload_n dX0_reduce_5 rfl rfl ?_
  have f1 := H.1
  replace H := H.2
  refine s_getf (c := 0) (k := 4) (t := 0) (j := 4) dX0_reduce_6 fl_X0_25 (by decide) (by decide) rfl rfl f1 ?_
  have f2 := H.1
  replace H := H.2
  have f3 := H.1
  replace H := H.2
  refine s_icmp_ge (tgt := 47) dX0_reduce_9 (by decide) f2 f3 (fun c4 => ?_) (fun c4 => ?_)
  · replace H := H.1 c4
    refine s_iload_n dX0_reduce_47 rfl rfl ?_
    exact s_iret dX0_reduce_48 rfl ⟨Nat.le_refl _, Nat.le_refl _⟩ H
  · replace H := H.2 c4
    refine s_aload_n dX0_reduce_12 rfl rfl ?_
    refine s_getf (c := 0) (k := 0) (t := 2) (j := 0) dX0_reduce_13 fl_X0_21 (by decide) (by decide) rfl rfl f1 ?_
    refine s_iload_n dX0_reduce_16 rfl rfl ?_
    refine s_aload_n dX0_reduce_17 rfl rfl ?_
    refine s_getf (c := 0) (k := 0) (t := 2) (j := 0) dX0_reduce_18 fl_X0_21 (by decide) (by decide) rfl rfl f1 ?_
    refine s_iload_n dX0_reduce_21 rfl rfl ?_
    refine s_aload_n dX0_reduce_22 rfl rfl ?_
    refine s_getf (c := 0) (k := 2) (t := 2) (j := 2) dX0_reduce_23 fl_X0_15 (by decide) (by decide) rfl rfl f1 ?_
    refine s_iload_n dX0_reduce_26 rfl rfl ?_
    have f5 := H.1
    replace H := H.2
    refine s_iald dX0_reduce_27 f5 ?_
    have f9 := H.1
    replace H := H.2
    refine s_callV (M' := MX1_number) (As := [vI a2, vI (h (h a0 2) a3)]) (a := h a0 0) (st := [vI a2, vR (h a0 0)]) dX0_reduce_28 ml_X0_29 cv_X1_number rfl rfl (Nat.le_of_ble_eq_true rfl) ⟨Nat.le_refl _, Nat.le_refl _⟩ f9 (R_mono (fun r6 G7 h8 H => ?_) H)
    show S l MX0_reduce (d + 1, 0, 0, 0, 0) 31 [some (vR a0), none, some (vI a2), some (vI a3)] [vI r6, vI a2, vR (h a0 0)] G7 h8 Q
    refine s_aload_n dX0_reduce_31 rfl rfl ?_
    have f10 := H.1
    replace H := H.2
    refine s_getf (c := 0) (k := 1) (t := 2) (j := 1) dX0_reduce_32 fl_X0_9 (by decide) (by decide) rfl rfl f10 ?_
    refine s_iload_n dX0_reduce_35 rfl rfl ?_
    have f11 := H.1
    replace H := H.2
    refine s_iald dX0_reduce_36 f11 ?_
    have f15 := H.1
    replace H := H.2
    refine s_callV (M' := MX1_minus) (As := [vI a2, vI r6, vI (h8 (h8 a0 1) a3)]) (a := h a0 0) (st := []) dX0_reduce_37 ml_X0_35 cv_X1_minus rfl rfl (Nat.le_of_ble_eq_true rfl) ⟨Nat.le_refl _, Nat.le_refl _⟩ f15 (R_mono (fun r12 G13 h14 H => ?_) H)
    show S l MX0_reduce (d + 1, 0, 0, 0, 0) 40 [some (vR a0), none, some (vI a2), some (vI a3)] [vI r12] G13 h14 Q
    refine s_istore_n dX0_reduce_40 rfl (by decide) rfl ?_
    show S l MX0_reduce (d + 1, 0, 0, 0, 0) 41 [some (vR a0), none, some (vI r12), some (vI a3)] [] G13 h14 Q
    refine s_iinc dX0_reduce_41 rfl (by decide) rfl ?_
    show S l MX0_reduce (d + 1, 0, 0, 0, 0) 44 [some (vR a0), none, some (vI r12), some (vI (a3 + 1))] [] G13 h14 Q
    refine s_goto (tgt := 4) dX0_reduce_44 (by decide) ?_
    exact S_cut (by first | exact ⟨rfl, ⟨rfl, ⟨rfl, trivial⟩⟩⟩ | simp [lsub]) H
set_option maxHeartbeats 4000000 in
set_option maxRecDepth 100000 in
theorem vX0_blendOf_0 {l : Launch} {d : Nat} {G : GS} {h : HP} {Q : Int → GS → HP → Prop} (a0 a1 : Int) (H : S l MX0_blendOf (d + 1, 0, 0, 0, 0) 7 [some (vR a0), none, some (vI a1), some (vI 0), some (vI 0), none] [] G h Q) : S l MX0_blendOf (d + 1, 0, 0, 0, 0) 0 [some (vR a0), some (vI a1), none, none, none, none] [] G h Q := by
  refine s_iload_n dX0_blendOf_0 rfl rfl ?_
  refine s_istore_n dX0_blendOf_1 rfl (by decide) rfl ?_
  show S l MX0_blendOf (d + 1, 0, 0, 0, 0) 2 [some (vR a0), some (vI a1), some (vI a1), none, none, none] [] G h Q
  refine s_iconst dX0_blendOf_2 ?_
  refine s_istore_n dX0_blendOf_3 rfl (by decide) rfl ?_
  show S l MX0_blendOf (d + 1, 0, 0, 0, 0) 4 [some (vR a0), some (vI a1), some (vI a1), some (vI 0), none, none] [] G h Q
  refine s_iconst dX0_blendOf_4 ?_
  refine s_istore dX0_blendOf_5 (by decide) rfl ?_
  show S l MX0_blendOf (d + 1, 0, 0, 0, 0) 7 [some (vR a0), some (vI a1), some (vI a1), some (vI 0), some (vI 0), none] [] G h Q
  exact S_cut (by first | exact ⟨rfl, ⟨rfl, ⟨rfl, ⟨rfl, trivial⟩⟩⟩⟩ | simp [lsub]) H
set_option maxHeartbeats 4000000 in
set_option maxRecDepth 100000 in
theorem vX0_blendOf_7 {l : Launch} {d : Nat} {G : GS} {h : HP} {Q : Int → GS → HP → Prop} (a0 a2 a3 a4 : Int) (H : (ty G a0 = 0) ∧ (inR a4) ∧ (inR (h a0 4)) ∧ (((h a0 4) ≤ a4 → Q a3 G h) ∧ (a4 < (h a0 4) → (inA G 10 (h a0 2) a4) ∧ (ty G (h a0 0) = 1) ∧ R l MX1_number d 0 0 [vR (h a0 0), vI a2, vI (h (h a0 2) a4)] G h (fun r6 G7 h8 => (ty G7 a0 = 0) ∧ (inA G7 10 (h8 a0 1) a4) ∧ (ty G7 (h8 a0 0) = 1) ∧ R l MX1_minus d 0 0 [vR (h8 a0 0), vI a2, vI r6, vI (h8 (h8 a0 1) a4)] G7 h8 (fun r12 G13 h14 => (ty G13 a0 = 0) ∧ (inA G13 10 (h14 a0 3) a4) ∧ (ty G13 (h14 a0 0) = 1) ∧ R l MX1_plus d 0 0 [vR (h14 a0 0), vI a3, vI r6, vI (h14 (h14 a0 3) a4)] G13 h14 (fun r18 G19 h20 => S l MX0_blendOf (d + 1, 0, 0, 0, 0) 7 [some (vR a0), none, some (vI r12), some (vI r18), some (vI (a4 + 1)), none] [] G19 h20 Q)))))) : S l MX0_blendOf (d + 1, 0, 0, 0, 0) 7 [some (vR a0), none, some (vI a2), some (vI a3), some (vI a4), none] [] G h Q := by
  refine s_iload dX0_blendOf_7 rfl ?_
  refine s_aload_n dX0_blendOf_9 rfl rfl ?_
  have f1 := H.1
  replace H := H.2
  refine s_getf (c := 0) (k := 4) (t := 0) (j := 4) dX0_blendOf_10 fl_X0_25 (by decide) (by decide) rfl rfl f1 ?_
  have f2 := H.1
  replace H := H.2
  have f3 := H.1
  replace H := H.2
  refine s_icmp_ge (tgt := 75) dX0_blendOf_13 (by decide) f2 f3 (fun c4 => ?_) (fun c4 => ?_)
  · replace H := H.1 c4
    refine s_iload_n dX0_blendOf_75 rfl rfl ?_
    exact s_iret dX0_blendOf_76 rfl ⟨Nat.le_refl _, Nat.le_refl _⟩ H
  · replace H := H.2 c4
    refine s_aload_n dX0_blendOf_16 rfl rfl ?_
    refine s_getf (c := 0) (k := 0) (t := 2) (j := 0) dX0_blendOf_17 fl_X0_21 (by decide) (by decide) rfl rfl f1 ?_
    refine s_iload_n dX0_blendOf_20 rfl rfl ?_
    refine s_aload_n dX0_blendOf_21 rfl rfl ?_
    refine s_getf (c := 0) (k := 2) (t := 2) (j := 2) dX0_blendOf_22 fl_X0_15 (by decide) (by decide) rfl rfl f1 ?_
    refine s_iload dX0_blendOf_25 rfl ?_
    have f5 := H.1
    replace H := H.2
    refine s_iald dX0_blendOf_27 f5 ?_
    have f9 := H.1
    replace H := H.2
    refine s_callV (M' := MX1_number) (As := [vI a2, vI (h (h a0 2) a4)]) (a := h a0 0) (st := []) dX0_blendOf_28 ml_X0_29 cv_X1_number rfl rfl (Nat.le_of_ble_eq_true rfl) ⟨Nat.le_refl _, Nat.le_refl _⟩ f9 (R_mono (fun r6 G7 h8 H => ?_) H)
    show S l MX0_blendOf (d + 1, 0, 0, 0, 0) 31 [some (vR a0), none, some (vI a2), some (vI a3), some (vI a4), none] [vI r6] G7 h8 Q
    refine s_istore dX0_blendOf_31 (by decide) rfl ?_
    show S l MX0_blendOf (d + 1, 0, 0, 0, 0) 33 [some (vR a0), none, some (vI a2), some (vI a3), some (vI a4), some (vI r6)] [] G7 h8 Q
    refine s_aload_n dX0_blendOf_33 rfl rfl ?_
    have f10 := H.1
    replace H := H.2
    refine s_getf (c := 0) (k := 0) (t := 2) (j := 0) dX0_blendOf_34 fl_X0_21 (by decide) (by decide) rfl rfl f10 ?_
    refine s_iload_n dX0_blendOf_37 rfl rfl ?_
    refine s_iload dX0_blendOf_38 rfl ?_
    refine s_aload_n dX0_blendOf_40 rfl rfl ?_
    refine s_getf (c := 0) (k := 1) (t := 2) (j := 1) dX0_blendOf_41 fl_X0_9 (by decide) (by decide) rfl rfl f10 ?_
    refine s_iload dX0_blendOf_44 rfl ?_
    have f11 := H.1
    replace H := H.2
    refine s_iald dX0_blendOf_46 f11 ?_
    have f15 := H.1
    replace H := H.2
    refine s_callV (M' := MX1_minus) (As := [vI a2, vI r6, vI (h8 (h8 a0 1) a4)]) (a := h8 a0 0) (st := []) dX0_blendOf_47 ml_X0_35 cv_X1_minus rfl rfl (Nat.le_of_ble_eq_true rfl) ⟨Nat.le_refl _, Nat.le_refl _⟩ f15 (R_mono (fun r12 G13 h14 H => ?_) H)
    show S l MX0_blendOf (d + 1, 0, 0, 0, 0) 50 [some (vR a0), none, some (vI a2), some (vI a3), some (vI a4), some (vI r6)] [vI r12] G13 h14 Q
    refine s_istore_n dX0_blendOf_50 rfl (by decide) rfl ?_
    show S l MX0_blendOf (d + 1, 0, 0, 0, 0) 51 [some (vR a0), none, some (vI r12), some (vI a3), some (vI a4), some (vI r6)] [] G13 h14 Q
    refine s_aload_n dX0_blendOf_51 rfl rfl ?_
    have f16 := H.1
    replace H := H.2
    refine s_getf (c := 0) (k := 0) (t := 2) (j := 0) dX0_blendOf_52 fl_X0_21 (by decide) (by decide) rfl rfl f16 ?_
    refine s_iload_n dX0_blendOf_55 rfl rfl ?_
    refine s_iload dX0_blendOf_56 rfl ?_
    refine s_aload_n dX0_blendOf_58 rfl rfl ?_
    refine s_getf (c := 0) (k := 3) (t := 2) (j := 3) dX0_blendOf_59 fl_X0_18 (by decide) (by decide) rfl rfl f16 ?_
    refine s_iload dX0_blendOf_62 rfl ?_
    have f17 := H.1
    replace H := H.2
    refine s_iald dX0_blendOf_64 f17 ?_
    have f21 := H.1
    replace H := H.2
    refine s_callV (M' := MX1_plus) (As := [vI a3, vI r6, vI (h14 (h14 a0 3) a4)]) (a := h14 a0 0) (st := []) dX0_blendOf_65 ml_X0_39 cv_X1_plus rfl rfl (Nat.le_of_ble_eq_true rfl) ⟨Nat.le_refl _, Nat.le_refl _⟩ f21 (R_mono (fun r18 G19 h20 H => ?_) H)
    show S l MX0_blendOf (d + 1, 0, 0, 0, 0) 68 [some (vR a0), none, some (vI r12), some (vI a3), some (vI a4), some (vI r6)] [vI r18] G19 h20 Q
    refine s_istore_n dX0_blendOf_68 rfl (by decide) rfl ?_
    show S l MX0_blendOf (d + 1, 0, 0, 0, 0) 69 [some (vR a0), none, some (vI r12), some (vI r18), some (vI a4), some (vI r6)] [] G19 h20 Q
    refine s_iinc dX0_blendOf_69 rfl (by decide) rfl ?_
    show S l MX0_blendOf (d + 1, 0, 0, 0, 0) 72 [some (vR a0), none, some (vI r12), some (vI r18), some (vI (a4 + 1)), some (vI r6)] [] G19 h20 Q
    refine s_goto (tgt := 7) dX0_blendOf_72 (by decide) ?_
    exact S_cut (by first | exact ⟨rfl, ⟨rfl, ⟨rfl, ⟨rfl, trivial⟩⟩⟩⟩ | simp [lsub]) H
set_option maxHeartbeats 4000000 in
set_option maxRecDepth 100000 in
theorem vX0_removeLast_0 {l : Launch} {d : Nat} {G : GS} {h : HP} {Q : Int → GS → HP → Prop} (a0 : Int) (H : (ty G a0 = 0) ∧ (inR (h a0 4)) ∧ (((h a0 4) ≤ 0 → Q 0 G h) ∧ (0 < (h a0 4) → ∀ h4 : HP, h4 = hset h a0 4 ((h a0 4) - 1) → Q 0 G h4))) : S l MX0_removeLast (d, 0, 0, 0, 0) 0 [some (vR a0)] [] G h Q := by
  refine s_aload_n dX0_removeLast_0 rfl rfl ?_
  have f1 := H.1
  replace H := H.2
  refine s_getf (c := 0) (k := 4) (t := 0) (j := 4) dX0_removeLast_1 fl_X0_25 (by decide) (by decide) rfl rfl f1 ?_
  have f2 := H.1
  replace H := H.2
  refine s_if_le (tgt := 17) dX0_removeLast_4 (by decide) f2 (fun c3 => ?_) (fun c3 => ?_)
  · replace H := H.1 c3
    exact s_vret dX0_removeLast_17 rfl ⟨Nat.le_refl _, Nat.le_refl _⟩ H
  · replace H := H.2 c3
    refine s_aload_n dX0_removeLast_7 rfl rfl ?_
    refine s_dup dX0_removeLast_8 rfl ?_
    refine s_getf (c := 0) (k := 4) (t := 0) (j := 4) dX0_removeLast_9 fl_X0_25 (by decide) (by decide) rfl rfl f1 ?_
    refine s_iconst dX0_removeLast_12 ?_
    refine s_isub dX0_removeLast_13 ?_
    refine s_putI (c := 0) (k := 4) (j := 4) dX0_removeLast_14 fl_X0_25 (by decide) (by decide) rfl rfl rfl f1 (fun h4 eh4 => ?_)
    replace H := H h4 eh4
    exact s_vret dX0_removeLast_17 rfl ⟨Nat.le_refl _, Nat.le_refl _⟩ H
