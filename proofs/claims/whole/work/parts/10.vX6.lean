set_option maxHeartbeats 4000000 in
set_option maxRecDepth 100000 in
theorem vX6_seek_0 {l : Launch} {d : Nat} {G : GS} {h : HP} {Q : Int → GS → HP → Prop} (a0 a1 : Int) (H : (ty G a1 = 4) ∧ (inA G 10 (h a1 1) 0) ∧ (inA G 10 (h a1 1) 1) ∧ (ty G a0 = 6) ∧ (ty G (h a0 0) = 1) ∧ R l MX1_shapes d 0 0 [vR (h a0 0), vI (h (h a1 1) 0)] G h (fun r5 G6 h7 => (inR r5) ∧ (ty G6 a0 = 6) ∧ (ty G6 (h7 a0 0) = 1) ∧ R l MX1_shapes d 0 0 [vR (h7 a0 0), vI (h (h a1 1) 1)] G6 h7 (fun r11 G12 h13 => (inR r11) ∧ (inL (r5 * r11)) ∧ (inR (cmpI (r5 * r11) 60)) ∧ (((cmpI (r5 * r11) 60) ≤ 0 → (ty G12 a0 = 6) ∧ R l MX6_takeSlices d 0 0 [vR a0, vR a1] G12 h13 (fun r19 G20 h21 => (ty G20 a0 = 6) ∧ R l MX6_listPairs d 0 0 [vR a0, vI (h (h a1 1) 0), vI (h (h a1 1) 1)] G20 h21 (fun r23 G24 h25 => (ty G24 a0 = 6) ∧ (ty G24 (h25 a0 1) = 0) ∧ S l MX6_seek (d + 1, 0, 0, 0, 0) 63 [some (vR a0), none, none, none, some (vI (h25 (h25 a0 1) 4))] [] G24 h25 Q))) ∧ (0 < (cmpI (r5 * r11) 60) → Q ((-3)) G12 h13))))) : S l MX6_seek (d + 1, 0, 0, 0, 0) 0 [some (vR a0), some (vR a1), none, none, none] [] G h Q := by
  refine s_aload_n dX6_seek_0 rfl rfl ?_
  have f1 := H.1
  replace H := H.2
  refine s_getf (c := 4) (k := 1) (t := 2) (j := 1) dX6_seek_1 fl_X6_45 (by decide) (by decide) rfl rfl f1 ?_
  refine s_iconst dX6_seek_4 ?_
  have f2 := H.1
  replace H := H.2
  refine s_iald dX6_seek_5 f2 ?_
  refine s_istore_n dX6_seek_6 rfl (by decide) rfl ?_
  show S l MX6_seek (d + 1, 0, 0, 0, 0) 7 [some (vR a0), some (vR a1), some (vI (h (h a1 1) 0)), none, none] [] G h Q
  refine s_aload_n dX6_seek_7 rfl rfl ?_
  refine s_getf (c := 4) (k := 1) (t := 2) (j := 1) dX6_seek_8 fl_X6_45 (by decide) (by decide) rfl rfl f1 ?_
  refine s_iconst dX6_seek_11 ?_
  have f3 := H.1
  replace H := H.2
  refine s_iald dX6_seek_12 f3 ?_
  refine s_istore_n dX6_seek_13 rfl (by decide) rfl ?_
  show S l MX6_seek (d + 1, 0, 0, 0, 0) 14 [some (vR a0), some (vR a1), some (vI (h (h a1 1) 0)), some (vI (h (h a1 1) 1)), none] [] G h Q
  refine s_aload_n dX6_seek_14 rfl rfl ?_
  have f4 := H.1
  replace H := H.2
  refine s_getf (c := 6) (k := 0) (t := 2) (j := 0) dX6_seek_15 fl_X6_29 (by decide) (by decide) rfl rfl f4 ?_
  refine s_iload_n dX6_seek_18 rfl rfl ?_
  have f8 := H.1
  replace H := H.2
  refine s_callV (M' := MX1_shapes) (As := [vI (h (h a1 1) 0)]) (a := h a0 0) (st := []) dX6_seek_19 ml_X6_50 cv_X1_shapes rfl rfl (Nat.le_of_ble_eq_true rfl) ⟨Nat.le_refl _, Nat.le_refl _⟩ f8 (R_mono (fun r5 G6 h7 H => ?_) H)
  show S l MX6_seek (d + 1, 0, 0, 0, 0) 22 [some (vR a0), some (vR a1), some (vI (h (h a1 1) 0)), some (vI (h (h a1 1) 1)), none] [vI r5] G6 h7 Q
  have f9 := H.1
  replace H := H.2
  refine s_i2l dX6_seek_22 f9 ?_
  refine s_aload_n dX6_seek_23 rfl rfl ?_
  have f10 := H.1
  replace H := H.2
  refine s_getf (c := 6) (k := 0) (t := 2) (j := 0) dX6_seek_24 fl_X6_29 (by decide) (by decide) rfl rfl f10 ?_
  refine s_iload_n dX6_seek_27 rfl rfl ?_
  have f14 := H.1
  replace H := H.2
  refine s_callV (M' := MX1_shapes) (As := [vI (h (h a1 1) 1)]) (a := h7 a0 0) (st := [vL r5]) dX6_seek_28 ml_X6_50 cv_X1_shapes rfl rfl (Nat.le_of_ble_eq_true rfl) ⟨Nat.le_refl _, Nat.le_refl _⟩ f14 (R_mono (fun r11 G12 h13 H => ?_) H)
  show S l MX6_seek (d + 1, 0, 0, 0, 0) 31 [some (vR a0), some (vR a1), some (vI (h (h a1 1) 0)), some (vI (h (h a1 1) 1)), none] [vI r11, vL r5] G12 h13 Q
  have f15 := H.1
  replace H := H.2
  refine s_i2l dX6_seek_31 f15 ?_
  refine s_lmul dX6_seek_32 ?_
  refine s_ldc2 (v := 60) dX6_seek_33 kc_X6_56 ?_
  have f16 := H.1
  replace H := H.2
  refine s_lcmp dX6_seek_36 f16 (by decide) ?_
  have f17 := H.1
  replace H := H.2
  refine s_if_le (tgt := 43) dX6_seek_37 (by decide) f17 (fun c18 => ?_) (fun c18 => ?_)
  · replace H := H.1 c18
    refine s_aload_n dX6_seek_43 rfl rfl ?_
    refine s_aload_n dX6_seek_44 rfl rfl ?_
    have f22 := H.1
    replace H := H.2
    refine s_callV (M' := MX6_takeSlices) (As := [vR a1]) (a := a0) (st := []) dX6_seek_45 ml_X6_58 cv_X6_takeSlices rfl rfl (Nat.le_of_ble_eq_true rfl) ⟨Nat.le_refl _, Nat.le_refl _⟩ f22 (R_mono (fun r19 G20 h21 H => ?_) H)
    show S l MX6_seek (d + 1, 0, 0, 0, 0) 48 [some (vR a0), some (vR a1), some (vI (h (h a1 1) 0)), some (vI (h (h a1 1) 1)), none] [] G20 h21 Q
    refine s_aload_n dX6_seek_48 rfl rfl ?_
    refine s_iload_n dX6_seek_49 rfl rfl ?_
    refine s_iload_n dX6_seek_50 rfl rfl ?_
    have f26 := H.1
    replace H := H.2
    refine s_callV (M' := MX6_listPairs) (As := [vI (h (h a1 1) 0), vI (h (h a1 1) 1)]) (a := a0) (st := []) dX6_seek_51 ml_X6_62 cv_X6_listPairs rfl rfl (Nat.le_of_ble_eq_true rfl) ⟨Nat.le_refl _, Nat.le_refl _⟩ f26 (R_mono (fun r23 G24 h25 H => ?_) H)
    show S l MX6_seek (d + 1, 0, 0, 0, 0) 54 [some (vR a0), some (vR a1), some (vI (h (h a1 1) 0)), some (vI (h (h a1 1) 1)), none] [] G24 h25 Q
    refine s_aload_n dX6_seek_54 rfl rfl ?_
    have f27 := H.1
    replace H := H.2
    refine s_getf (c := 6) (k := 1) (t := 2) (j := 1) dX6_seek_55 fl_X6_38 (by decide) (by decide) rfl rfl f27 ?_
    have f28 := H.1
    replace H := H.2
    refine s_getf (c := 0) (k := 4) (t := 0) (j := 4) dX6_seek_58 fl_X6_66 (by decide) (by decide) rfl rfl f28 ?_
    refine s_istore dX6_seek_61 (by decide) rfl ?_
    show S l MX6_seek (d + 1, 0, 0, 0, 0) 63 [some (vR a0), some (vR a1), some (vI (h (h a1 1) 0)), some (vI (h (h a1 1) 1)), some (vI (h25 (h25 a0 1) 4))] [] G24 h25 Q
    exact S_cut (by first | exact ⟨rfl, ⟨rfl, trivial⟩⟩ | simp [lsub]) H
  · replace H := H.2 c18
    refine s_bipush dX6_seek_40 (by decide) ?_
    exact s_iret dX6_seek_42 rfl ⟨Nat.le_refl _, Nat.le_refl _⟩ H
set_option maxHeartbeats 4000000 in
set_option maxRecDepth 100000 in
theorem vX6_seek_63 {l : Launch} {d : Nat} {G : GS} {h : HP} {Q : Int → GS → HP → Prop} (a0 a4 : Int) (H : (inR a4) ∧ ((4 < a4 → Q ((-5)) G h) ∧ (a4 ≤ 4 → (ty G a0 = 6) ∧ ∀ h4 : HP, h4 = hset h a0 9 a4 → (ty G (h4 a0 1) = 0) ∧ ∀ h6 : HP, h6 = hset h4 a0 10 (a4 - (h4 (h4 a0 1) 4)) → (ty G (h6 a0 2) = 0) ∧ R l MX0_clear d 0 0 [vR (h6 a0 2)] G h6 (fun r7 G8 h9 => R l MX6_pickFrom d 0 0 [vR a0, vI 0, vI 0, vI 0] G8 h9 (fun r11 G12 h13 => (inR r11) ∧ ((r11 = 0 → S l MX6_seek (d + 1, 0, 0, 0, 0) 63 [some (vR a0), none, none, none, some (vI (a4 + 1))] [] G12 h13 Q) ∧ (r11 ≠ 0 → Q a4 G12 h13))))))) : S l MX6_seek (d + 1, 0, 0, 0, 0) 63 [some (vR a0), none, none, none, some (vI a4)] [] G h Q := by
  refine s_iload dX6_seek_63 rfl ?_
  refine s_iconst dX6_seek_65 ?_
  have f1 := H.1
  replace H := H.2
  refine s_icmp_gt (tgt := 115) dX6_seek_66 (by decide) f1 (by decide) (fun c2 => ?_) (fun c2 => ?_)
  · replace H := H.1 c2
    refine s_bipush dX6_seek_115 (by decide) ?_
    exact s_iret dX6_seek_117 rfl ⟨Nat.le_refl _, Nat.le_refl _⟩ H
  · replace H := H.2 c2
    refine s_aload_n dX6_seek_69 rfl rfl ?_
    refine s_iload dX6_seek_70 rfl ?_
    have f3 := H.1
    replace H := H.2
    refine s_putI (c := 6) (k := 9) (j := 9) dX6_seek_72 fl_X6_70 (by decide) (by decide) rfl rfl rfl f3 (fun h4 eh4 => ?_)
    replace H := H h4 eh4
    refine s_aload_n dX6_seek_75 rfl rfl ?_
    refine s_iload dX6_seek_76 rfl ?_
    refine s_aload_n dX6_seek_78 rfl rfl ?_
    refine s_getf (c := 6) (k := 1) (t := 2) (j := 1) dX6_seek_79 fl_X6_38 (by decide) (by decide) rfl rfl f3 ?_
    have f5 := H.1
    replace H := H.2
    refine s_getf (c := 0) (k := 4) (t := 0) (j := 4) dX6_seek_82 fl_X6_66 (by decide) (by decide) rfl rfl f5 ?_
    refine s_isub dX6_seek_85 ?_
    refine s_putI (c := 6) (k := 10) (j := 10) dX6_seek_86 fl_X6_73 (by decide) (by decide) rfl rfl rfl f3 (fun h6 eh6 => ?_)
    replace H := H h6 eh6
    refine s_aload_n dX6_seek_89 rfl rfl ?_
    refine s_getf (c := 6) (k := 2) (t := 2) (j := 2) dX6_seek_90 fl_X6_42 (by decide) (by decide) rfl rfl f3 ?_
    have f10 := H.1
    replace H := H.2
    refine s_callV (M' := MX0_clear) (As := []) (a := h6 a0 2) (st := []) dX6_seek_93 ml_X6_76 cv_X0_clear rfl rfl (Nat.le_of_ble_eq_true rfl) ⟨Nat.le_refl _, Nat.le_refl _⟩ f10 (R_mono (fun r7 G8 h9 H => ?_) H)
    show S l MX6_seek (d + 1, 0, 0, 0, 0) 96 [some (vR a0), none, none, none, some (vI a4)] [] G8 h9 Q
    refine s_aload_n dX6_seek_96 rfl rfl ?_
    refine s_iconst dX6_seek_97 ?_
    refine s_iconst dX6_seek_98 ?_
    refine s_iconst dX6_seek_99 ?_
    refine s_callS (M' := MX6_pickFrom) (As := [vR a0, vI 0, vI 0, vI 0]) (st := []) dX6_seek_100 ml_X6_79 cs_X6_pickFrom rfl rfl (Nat.le_of_ble_eq_true rfl) ⟨Nat.le_refl _, Nat.le_refl _⟩ (R_mono (fun r11 G12 h13 H => ?_) H)
    show S l MX6_seek (d + 1, 0, 0, 0, 0) 103 [some (vR a0), none, none, none, some (vI a4)] [vI r11] G12 h13 Q
    have f14 := H.1
    replace H := H.2
    refine s_if_eq (tgt := 109) dX6_seek_103 (by decide) f14 (fun c15 => ?_) (fun c15 => ?_)
    · replace H := H.1 c15
      refine s_iinc dX6_seek_109 rfl (by decide) rfl ?_
      show S l MX6_seek (d + 1, 0, 0, 0, 0) 112 [some (vR a0), none, none, none, some (vI (a4 + 1))] [] G12 h13 Q
      refine s_goto (tgt := 63) dX6_seek_112 (by decide) ?_
      exact S_cut (by first | exact ⟨rfl, ⟨rfl, trivial⟩⟩ | simp [lsub]) H
    · replace H := H.2 c15
      refine s_iload dX6_seek_106 rfl ?_
      exact s_iret dX6_seek_108 rfl ⟨Nat.le_refl _, Nat.le_refl _⟩ H
set_option maxHeartbeats 4000000 in
set_option maxRecDepth 100000 in
theorem vX6_takeSlices_0 {l : Launch} {d : Nat} {G : GS} {h : HP} {Q : Int → GS → HP → Prop} (a0 a1 : Int) (H : (ty G a0 = 6) ∧ (ty G (h a0 1) = 0) ∧ R l MX0_clear d 0 0 [vR (h a0 1)] G h (fun r2 G3 h4 => S l MX6_takeSlices (d + 1, 0, 0, 0, 0) 9 [some (vR a0), some (vR a1), some (vI 0)] [] G3 h4 Q)) : S l MX6_takeSlices (d + 1, 0, 0, 0, 0) 0 [some (vR a0), some (vR a1), none] [] G h Q := by
  refine s_aload_n dX6_takeSlices_0 rfl rfl ?_
  have f1 := H.1
  replace H := H.2
  refine s_getf (c := 6) (k := 1) (t := 2) (j := 1) dX6_takeSlices_1 fl_X6_38 (by decide) (by decide) rfl rfl f1 ?_
  have f5 := H.1
  replace H := H.2
  refine s_callV (M' := MX0_clear) (As := []) (a := h a0 1) (st := []) dX6_takeSlices_4 ml_X6_76 cv_X0_clear rfl rfl (Nat.le_of_ble_eq_true rfl) ⟨Nat.le_refl _, Nat.le_refl _⟩ f5 (R_mono (fun r2 G3 h4 H => ?_) H)
  show S l MX6_takeSlices (d + 1, 0, 0, 0, 0) 7 [some (vR a0), some (vR a1), none] [] G3 h4 Q
  refine s_iconst dX6_takeSlices_7 ?_
  refine s_istore_n dX6_takeSlices_8 rfl (by decide) rfl ?_
  show S l MX6_takeSlices (d + 1, 0, 0, 0, 0) 9 [some (vR a0), some (vR a1), some (vI 0)] [] G3 h4 Q
  exact S_cut (by first | exact ⟨rfl, ⟨rfl, ⟨rfl, trivial⟩⟩⟩ | simp [lsub]) H
set_option maxHeartbeats 4000000 in
set_option maxRecDepth 100000 in
theorem vX6_takeSlices_9 {l : Launch} {d : Nat} {G : GS} {h : HP} {Q : Int → GS → HP → Prop} (a0 a1 a2 : Int) (H : (ty G a1 = 4) ∧ (inA G 10 (h a1 1) 2) ∧ (inR a2) ∧ (inR (h (h a1 1) 2)) ∧ (((h (h a1 1) 2) ≤ a2 → Q 0 G h) ∧ (a2 < (h (h a1 1) 2) → (ty G a0 = 6) ∧ R l MX6_sliceOf d 0 0 [vR a0, vR a1, vI a2] G h (fun r7 G8 h9 => (ty G8 (h a0 1) = 0) ∧ R l MX0_add d 0 0 [vR (h a0 1), vI r7] G8 h9 (fun r10 G11 h12 => S l MX6_takeSlices (d + 1, 0, 0, 0, 0) 9 [some (vR a0), some (vR a1), some (vI (a2 + 1))] [] G11 h12 Q))))) : S l MX6_takeSlices (d + 1, 0, 0, 0, 0) 9 [some (vR a0), some (vR a1), some (vI a2)] [] G h Q := by
  refine s_iload_n dX6_takeSlices_9 rfl rfl ?_
  refine s_aload_n dX6_takeSlices_10 rfl rfl ?_
  have f1 := H.1
  replace H := H.2
  refine s_getf (c := 4) (k := 1) (t := 2) (j := 1) dX6_takeSlices_11 fl_X6_45 (by decide) (by decide) rfl rfl f1 ?_
  refine s_iconst dX6_takeSlices_14 ?_
  have f2 := H.1
  replace H := H.2
  refine s_iald dX6_takeSlices_15 f2 ?_
  have f3 := H.1
  replace H := H.2
  have f4 := H.1
  replace H := H.2
  refine s_icmp_ge (tgt := 39) dX6_takeSlices_16 (by decide) f3 f4 (fun c5 => ?_) (fun c5 => ?_)
  · replace H := H.1 c5
    exact s_vret dX6_takeSlices_39 rfl ⟨Nat.le_refl _, Nat.le_refl _⟩ H
  · replace H := H.2 c5
    refine s_aload_n dX6_takeSlices_19 rfl rfl ?_
    have f6 := H.1
    replace H := H.2
    refine s_getf (c := 6) (k := 1) (t := 2) (j := 1) dX6_takeSlices_20 fl_X6_38 (by decide) (by decide) rfl rfl f6 ?_
    refine s_aload_n dX6_takeSlices_23 rfl rfl ?_
    refine s_aload_n dX6_takeSlices_24 rfl rfl ?_
    refine s_iload_n dX6_takeSlices_25 rfl rfl ?_
    refine s_callV (M' := MX6_sliceOf) (As := [vR a1, vI a2]) (a := a0) (st := [vR (h a0 1)]) dX6_takeSlices_26 ml_X6_83 cv_X6_sliceOf rfl rfl (Nat.le_of_ble_eq_true rfl) ⟨Nat.le_refl _, Nat.le_refl _⟩ f6 (R_mono (fun r7 G8 h9 H => ?_) H)
    show S l MX6_takeSlices (d + 1, 0, 0, 0, 0) 29 [some (vR a0), some (vR a1), some (vI a2)] [vI r7, vR (h a0 1)] G8 h9 Q
    have f13 := H.1
    replace H := H.2
    refine s_callV (M' := MX0_add) (As := [vI r7]) (a := h a0 1) (st := []) dX6_takeSlices_29 ml_X6_87 cv_X0_add rfl rfl (Nat.le_of_ble_eq_true rfl) ⟨Nat.le_refl _, Nat.le_refl _⟩ f13 (R_mono (fun r10 G11 h12 H => ?_) H)
    show S l MX6_takeSlices (d + 1, 0, 0, 0, 0) 32 [some (vR a0), some (vR a1), some (vI a2)] [vI r10] G11 h12 Q
    refine s_pop dX6_takeSlices_32 rfl ?_
    refine s_iinc dX6_takeSlices_33 rfl (by decide) rfl ?_
    show S l MX6_takeSlices (d + 1, 0, 0, 0, 0) 36 [some (vR a0), some (vR a1), some (vI (a2 + 1))] [] G11 h12 Q
    refine s_goto (tgt := 9) dX6_takeSlices_36 (by decide) ?_
    exact S_cut (by first | exact ⟨rfl, ⟨rfl, ⟨rfl, trivial⟩⟩⟩ | simp [lsub]) H
set_option maxHeartbeats 4000000 in
set_option maxRecDepth 100000 in
theorem vX6_sliceOf_0 {l : Launch} {d : Nat} {G : GS} {h : HP} {Q : Int → GS → HP → Prop} (a0 a1 a2 : Int) (H : S l MX6_sliceOf (d + 1, 0, 0, 0, 0) 5 [some (vR a0), some (vR a1), some (vI a2), some (vI 0), some (vI 0), none] [] G h Q) : S l MX6_sliceOf (d + 1, 0, 0, 0, 0) 0 [some (vR a0), some (vR a1), some (vI a2), none, none, none] [] G h Q := by
  refine s_iconst dX6_sliceOf_0 ?_
  refine s_istore_n dX6_sliceOf_1 rfl (by decide) rfl ?_
  show S l MX6_sliceOf (d + 1, 0, 0, 0, 0) 2 [some (vR a0), some (vR a1), some (vI a2), some (vI 0), none, none] [] G h Q
  refine s_iconst dX6_sliceOf_2 ?_
  refine s_istore dX6_sliceOf_3 (by decide) rfl ?_
  show S l MX6_sliceOf (d + 1, 0, 0, 0, 0) 5 [some (vR a0), some (vR a1), some (vI a2), some (vI 0), some (vI 0), none] [] G h Q
  exact S_cut (by first | exact ⟨rfl, ⟨rfl, ⟨rfl, ⟨rfl, ⟨rfl, trivial⟩⟩⟩⟩⟩ | simp [lsub]) H
set_option maxHeartbeats 4000000 in
set_option maxRecDepth 100000 in
theorem vX6_sliceOf_5 {l : Launch} {d : Nat} {G : GS} {h : HP} {Q : Int → GS → HP → Prop} (a0 a1 a2 a3 a4 : Int) (H : (ty G a1 = 4) ∧ (inA G 10 (h a1 1) 0) ∧ (inR a4) ∧ (inR (h (h a1 1) 0)) ∧ (((h (h a1 1) 0) ≤ a4 → Q a3 G h) ∧ (a4 < (h (h a1 1) 0) → S l MX6_sliceOf (d + 1, 0, 0, 0, 0) 19 [some (vR a0), some (vR a1), some (vI a2), some (vI a3), some (vI a4), some (vI 0)] [] G h Q))) : S l MX6_sliceOf (d + 1, 0, 0, 0, 0) 5 [some (vR a0), some (vR a1), some (vI a2), some (vI a3), some (vI a4), none] [] G h Q := by
  refine s_iload dX6_sliceOf_5 rfl ?_
  refine s_aload_n dX6_sliceOf_7 rfl rfl ?_
  have f1 := H.1
  replace H := H.2
  refine s_getf (c := 4) (k := 1) (t := 2) (j := 1) dX6_sliceOf_8 fl_X6_45 (by decide) (by decide) rfl rfl f1 ?_
  refine s_iconst dX6_sliceOf_11 ?_
  have f2 := H.1
  replace H := H.2
  refine s_iald dX6_sliceOf_12 f2 ?_
  have f3 := H.1
  replace H := H.2
  have f4 := H.1
  replace H := H.2
  refine s_icmp_ge (tgt := 75) dX6_sliceOf_13 (by decide) f3 f4 (fun c5 => ?_) (fun c5 => ?_)
  · replace H := H.1 c5
    refine s_iload_n dX6_sliceOf_75 rfl rfl ?_
    exact s_iret dX6_sliceOf_76 rfl ⟨Nat.le_refl _, Nat.le_refl _⟩ H
  · replace H := H.2 c5
    refine s_iconst dX6_sliceOf_16 ?_
    refine s_istore dX6_sliceOf_17 (by decide) rfl ?_
    show S l MX6_sliceOf (d + 1, 0, 0, 0, 0) 19 [some (vR a0), some (vR a1), some (vI a2), some (vI a3), some (vI a4), some (vI 0)] [] G h Q
    exact S_cut (by first | exact ⟨rfl, ⟨rfl, ⟨rfl, ⟨rfl, ⟨rfl, ⟨rfl, trivial⟩⟩⟩⟩⟩⟩ | simp [lsub]) H
set_option maxHeartbeats 4000000 in
set_option maxRecDepth 100000 in
theorem vX6_sliceOf_19 {l : Launch} {d : Nat} {G : GS} {h : HP} {Q : Int → GS → HP → Prop} (a0 a1 a2 a3 a4 a5 : Int) (H : (ty G a1 = 4) ∧ (inA G 10 (h a1 1) 1) ∧ (inR a5) ∧ (inR (h (h a1 1) 1)) ∧ (((h (h a1 1) 1) ≤ a5 → S l MX6_sliceOf (d + 1, 0, 0, 0, 0) 5 [some (vR a0), some (vR a1), some (vI a2), some (vI a3), some (vI (a4 + 1)), none] [] G h Q) ∧ (a5 < (h (h a1 1) 1) → R l MX4_number d 0 0 [vR a1, vI a4, vI a5, vI a2] G h (fun r6 G7 h8 => (ty G7 a0 = 6) ∧ (ty G7 (h8 a0 0) = 1) ∧ (ty G7 a1 = 4) ∧ (inA G7 10 (h8 a1 1) 1) ∧ (inA G7 10 (h8 (h8 a0 0) 1) ((a4 * (h8 (h8 a1 1) 1)) + a5)) ∧ S l MX6_sliceOf (d + 1, 0, 0, 0, 0) 19 [some (vR a0), some (vR a1), some (vI a2), some (vI (a3 + (r6 * (h8 (h8 (h8 a0 0) 1) ((a4 * (h8 (h8 a1 1) 1)) + a5))))), some (vI a4), some (vI (a5 + 1))] [] G7 h8 Q)))) : S l MX6_sliceOf (d + 1, 0, 0, 0, 0) 19 [some (vR a0), some (vR a1), some (vI a2), some (vI a3), some (vI a4), some (vI a5)] [] G h Q := by
  refine s_iload dX6_sliceOf_19 rfl ?_
  refine s_aload_n dX6_sliceOf_21 rfl rfl ?_
  have f1 := H.1
  replace H := H.2
  refine s_getf (c := 4) (k := 1) (t := 2) (j := 1) dX6_sliceOf_22 fl_X6_45 (by decide) (by decide) rfl rfl f1 ?_
  refine s_iconst dX6_sliceOf_25 ?_
  have f2 := H.1
  replace H := H.2
  refine s_iald dX6_sliceOf_26 f2 ?_
  have f3 := H.1
  replace H := H.2
  have f4 := H.1
  replace H := H.2
  refine s_icmp_ge (tgt := 69) dX6_sliceOf_27 (by decide) f3 f4 (fun c5 => ?_) (fun c5 => ?_)
  · replace H := H.1 c5
    refine s_iinc dX6_sliceOf_69 rfl (by decide) rfl ?_
    show S l MX6_sliceOf (d + 1, 0, 0, 0, 0) 72 [some (vR a0), some (vR a1), some (vI a2), some (vI a3), some (vI (a4 + 1)), some (vI a5)] [] G h Q
    refine s_goto (tgt := 5) dX6_sliceOf_72 (by decide) ?_
    exact S_cut (by first | exact ⟨rfl, ⟨rfl, ⟨rfl, ⟨rfl, ⟨rfl, trivial⟩⟩⟩⟩⟩ | simp [lsub]) H
  · replace H := H.2 c5
    refine s_iload_n dX6_sliceOf_30 rfl rfl ?_
    refine s_aload_n dX6_sliceOf_31 rfl rfl ?_
    refine s_iload dX6_sliceOf_32 rfl ?_
    refine s_iload dX6_sliceOf_34 rfl ?_
    refine s_iload_n dX6_sliceOf_36 rfl rfl ?_
    refine s_callV (M' := MX4_number) (As := [vI a4, vI a5, vI a2]) (a := a1) (st := [vI a3]) dX6_sliceOf_37 ml_X6_91 cv_X4_number rfl rfl (Nat.le_of_ble_eq_true rfl) ⟨Nat.le_refl _, Nat.le_refl _⟩ f1 (R_mono (fun r6 G7 h8 H => ?_) H)
    show S l MX6_sliceOf (d + 1, 0, 0, 0, 0) 40 [some (vR a0), some (vR a1), some (vI a2), some (vI a3), some (vI a4), some (vI a5)] [vI r6, vI a3] G7 h8 Q
    refine s_aload_n dX6_sliceOf_40 rfl rfl ?_
    have f9 := H.1
    replace H := H.2
    refine s_getf (c := 6) (k := 0) (t := 2) (j := 0) dX6_sliceOf_41 fl_X6_29 (by decide) (by decide) rfl rfl f9 ?_
    have f10 := H.1
    replace H := H.2
    refine s_getf (c := 1) (k := 1) (t := 2) (j := 1) dX6_sliceOf_44 fl_X6_95 (by decide) (by decide) rfl rfl f10 ?_
    refine s_iload dX6_sliceOf_47 rfl ?_
    refine s_aload_n dX6_sliceOf_49 rfl rfl ?_
    have f11 := H.1
    replace H := H.2
    refine s_getf (c := 4) (k := 1) (t := 2) (j := 1) dX6_sliceOf_50 fl_X6_45 (by decide) (by decide) rfl rfl f11 ?_
    refine s_iconst dX6_sliceOf_53 ?_
    have f12 := H.1
    replace H := H.2
    refine s_iald dX6_sliceOf_54 f12 ?_
    refine s_imul dX6_sliceOf_55 ?_
    refine s_iload dX6_sliceOf_56 rfl ?_
    refine s_iadd dX6_sliceOf_58 ?_
    have f13 := H.1
    replace H := H.2
    refine s_iald dX6_sliceOf_59 f13 ?_
    refine s_imul dX6_sliceOf_60 ?_
    refine s_iadd dX6_sliceOf_61 ?_
    refine s_istore_n dX6_sliceOf_62 rfl (by decide) rfl ?_
    show S l MX6_sliceOf (d + 1, 0, 0, 0, 0) 63 [some (vR a0), some (vR a1), some (vI a2), some (vI (a3 + (r6 * (h8 (h8 (h8 a0 0) 1) ((a4 * (h8 (h8 a1 1) 1)) + a5))))), some (vI a4), some (vI a5)] [] G7 h8 Q
    refine s_iinc dX6_sliceOf_63 rfl (by decide) rfl ?_
    show S l MX6_sliceOf (d + 1, 0, 0, 0, 0) 66 [some (vR a0), some (vR a1), some (vI a2), some (vI (a3 + (r6 * (h8 (h8 (h8 a0 0) 1) ((a4 * (h8 (h8 a1 1) 1)) + a5))))), some (vI a4), some (vI (a5 + 1))] [] G7 h8 Q
    refine s_goto (tgt := 19) dX6_sliceOf_66 (by decide) ?_
    exact S_cut (by first | exact ⟨rfl, ⟨rfl, ⟨rfl, ⟨rfl, ⟨rfl, ⟨rfl, trivial⟩⟩⟩⟩⟩⟩ | simp [lsub]) H
set_option maxHeartbeats 4000000 in
set_option maxRecDepth 100000 in
theorem vX6_listPairs_0 {l : Launch} {d : Nat} {G : GS} {h : HP} {Q : Int → GS → HP → Prop} (a0 a1 a2 : Int) (H : (ty G a0 = 6) ∧ ∀ h2 : HP, h2 = hset h a0 8 0 → S l MX6_listPairs (d + 1, 0, 0, 0, 0) 7 [some (vR a0), some (vI a1), some (vI a2), some (vI 1)] [] G h2 Q) : S l MX6_listPairs (d + 1, 0, 0, 0, 0) 0 [some (vR a0), some (vI a1), some (vI a2), none] [] G h Q := by
  refine s_aload_n dX6_listPairs_0 rfl rfl ?_
  refine s_iconst dX6_listPairs_1 ?_
  have f1 := H.1
  replace H := H.2
  refine s_putI (c := 6) (k := 8) (j := 8) dX6_listPairs_2 fl_X6_98 (by decide) (by decide) rfl rfl rfl f1 (fun h2 eh2 => ?_)
  replace H := H h2 eh2
  refine s_iconst dX6_listPairs_5 ?_
  refine s_istore_n dX6_listPairs_6 rfl (by decide) rfl ?_
  show S l MX6_listPairs (d + 1, 0, 0, 0, 0) 7 [some (vR a0), some (vI a1), some (vI a2), some (vI 1)] [] G h2 Q
  exact S_cut (by first | exact ⟨rfl, ⟨rfl, ⟨rfl, ⟨rfl, trivial⟩⟩⟩⟩ | simp [lsub]) H
set_option maxHeartbeats 4000000 in
set_option maxRecDepth 100000 in
theorem vX6_listPairs_7 {l : Launch} {d : Nat} {G : GS} {h : HP} {Q : Int → GS → HP → Prop} (a0 a1 a2 a3 : Int) (H : (ty G a0 = 6) ∧ (ty G (h a0 0) = 1) ∧ (inA G 10 (h (h a0 0) 1) a1) ∧ (inR a3) ∧ (inR (h (h (h a0 0) 1) a1)) ∧ (((h (h (h a0 0) 1) a1) ≤ a3 → Q 0 G h) ∧ (a3 < (h (h (h a0 0) 1) a1) → R l MX1_first d 0 0 [vR (h a0 0), vI a3] G h (fun r7 G8 h9 => (inR r7) ∧ ((r7 ≠ 1 → S l MX6_listPairs (d + 1, 0, 0, 0, 0) 7 [some (vR a0), some (vI a1), some (vI a2), some (vI (a3 + 1))] [] G8 h9 Q) ∧ (r7 = 1 → (ty G8 a0 = 6) ∧ R l MX6_listPairsOf d 0 0 [vR a0, vI a3, vI a2] G8 h9 (fun r12 G13 h14 => S l MX6_listPairs (d + 1, 0, 0, 0, 0) 7 [some (vR a0), some (vI a1), some (vI a2), some (vI (a3 + 1))] [] G13 h14 Q))))))) : S l MX6_listPairs (d + 1, 0, 0, 0, 0) 7 [some (vR a0), some (vI a1), some (vI a2), some (vI a3)] [] G h Q := by
  refine s_iload_n dX6_listPairs_7 rfl rfl ?_
  refine s_aload_n dX6_listPairs_8 rfl rfl ?_
  have f1 := H.1
  replace H := H.2
  refine s_getf (c := 6) (k := 0) (t := 2) (j := 0) dX6_listPairs_9 fl_X6_29 (by decide) (by decide) rfl rfl f1 ?_
  have f2 := H.1
  replace H := H.2
  refine s_getf (c := 1) (k := 1) (t := 2) (j := 1) dX6_listPairs_12 fl_X6_95 (by decide) (by decide) rfl rfl f2 ?_
  refine s_iload_n dX6_listPairs_15 rfl rfl ?_
  have f3 := H.1
  replace H := H.2
  refine s_iald dX6_listPairs_16 f3 ?_
  have f4 := H.1
  replace H := H.2
  have f5 := H.1
  replace H := H.2
  refine s_icmp_ge (tgt := 44) dX6_listPairs_17 (by decide) f4 f5 (fun c6 => ?_) (fun c6 => ?_)
  · replace H := H.1 c6
    exact s_vret dX6_listPairs_44 rfl ⟨Nat.le_refl _, Nat.le_refl _⟩ H
  · replace H := H.2 c6
    refine s_aload_n dX6_listPairs_20 rfl rfl ?_
    refine s_getf (c := 6) (k := 0) (t := 2) (j := 0) dX6_listPairs_21 fl_X6_29 (by decide) (by decide) rfl rfl f1 ?_
    refine s_iload_n dX6_listPairs_24 rfl rfl ?_
    refine s_callV (M' := MX1_first) (As := [vI a3]) (a := h a0 0) (st := []) dX6_listPairs_25 ml_X6_101 cv_X1_first rfl rfl (Nat.le_of_ble_eq_true rfl) ⟨Nat.le_refl _, Nat.le_refl _⟩ f2 (R_mono (fun r7 G8 h9 H => ?_) H)
    show S l MX6_listPairs (d + 1, 0, 0, 0, 0) 28 [some (vR a0), some (vI a1), some (vI a2), some (vI a3)] [vI r7] G8 h9 Q
    refine s_iconst dX6_listPairs_28 ?_
    have f10 := H.1
    replace H := H.2
    refine s_icmp_ne (tgt := 38) dX6_listPairs_29 (by decide) f10 (by decide) (fun c11 => ?_) (fun c11 => ?_)
    · replace H := H.1 c11
      refine s_iinc dX6_listPairs_38 rfl (by decide) rfl ?_
      show S l MX6_listPairs (d + 1, 0, 0, 0, 0) 41 [some (vR a0), some (vI a1), some (vI a2), some (vI (a3 + 1))] [] G8 h9 Q
      refine s_goto (tgt := 7) dX6_listPairs_41 (by decide) ?_
      exact S_cut (by first | exact ⟨rfl, ⟨rfl, ⟨rfl, ⟨rfl, trivial⟩⟩⟩⟩ | simp [lsub]) H
    · replace H := H.2 c11
      refine s_aload_n dX6_listPairs_32 rfl rfl ?_
      refine s_iload_n dX6_listPairs_33 rfl rfl ?_
      refine s_iload_n dX6_listPairs_34 rfl rfl ?_
      have f15 := H.1
      replace H := H.2
      refine s_callV (M' := MX6_listPairsOf) (As := [vI a3, vI a2]) (a := a0) (st := []) dX6_listPairs_35 ml_X6_104 cv_X6_listPairsOf rfl rfl (Nat.le_of_ble_eq_true rfl) ⟨Nat.le_refl _, Nat.le_refl _⟩ f15 (R_mono (fun r12 G13 h14 H => ?_) H)
      show S l MX6_listPairs (d + 1, 0, 0, 0, 0) 38 [some (vR a0), some (vI a1), some (vI a2), some (vI a3)] [] G13 h14 Q
      refine s_iinc dX6_listPairs_38 rfl (by decide) rfl ?_
      show S l MX6_listPairs (d + 1, 0, 0, 0, 0) 41 [some (vR a0), some (vI a1), some (vI a2), some (vI (a3 + 1))] [] G13 h14 Q
      refine s_goto (tgt := 7) dX6_listPairs_41 (by decide) ?_
      exact S_cut (by first | exact ⟨rfl, ⟨rfl, ⟨rfl, ⟨rfl, trivial⟩⟩⟩⟩ | simp [lsub]) H
set_option maxHeartbeats 4000000 in
set_option maxRecDepth 100000 in
theorem vX6_listPairsOf_0 {l : Launch} {d : Nat} {G : GS} {h : HP} {Q : Int → GS → HP → Prop} (a0 a1 a2 : Int) (H : S l MX6_listPairsOf (d + 1, 0, 0, 0, 0) 2 [some (vR a0), some (vI a1), some (vI a2), some (vI 1)] [] G h Q) : S l MX6_listPairsOf (d + 1, 0, 0, 0, 0) 0 [some (vR a0), some (vI a1), some (vI a2), none] [] G h Q := by
  refine s_iconst dX6_listPairsOf_0 ?_
  refine s_istore_n dX6_listPairsOf_1 rfl (by decide) rfl ?_
  show S l MX6_listPairsOf (d + 1, 0, 0, 0, 0) 2 [some (vR a0), some (vI a1), some (vI a2), some (vI 1)] [] G h Q
  exact S_cut (by first | exact ⟨rfl, ⟨rfl, ⟨rfl, ⟨rfl, trivial⟩⟩⟩⟩ | simp [lsub]) H
set_option maxHeartbeats 4000000 in
set_option maxRecDepth 100000 in
theorem vX6_listPairsOf_2 {l : Launch} {d : Nat} {G : GS} {h : HP} {Q : Int → GS → HP → Prop} (a0 a1 a2 a3 : Int) (H : (ty G a0 = 6) ∧ (ty G (h a0 0) = 1) ∧ (inA G 10 (h (h a0 0) 1) a2) ∧ (inR a3) ∧ (inR (h (h (h a0 0) 1) a2)) ∧ (((h (h (h a0 0) 1) a2) ≤ a3 → Q 0 G h) ∧ (a3 < (h (h (h a0 0) 1) a2) → R l MX1_first d 0 0 [vR (h a0 0), vI a3] G h (fun r7 G8 h9 => (inR r7) ∧ ((r7 ≠ 1 → S l MX6_listPairsOf (d + 1, 0, 0, 0, 0) 2 [some (vR a0), some (vI a1), some (vI a2), some (vI (a3 + 1))] [] G8 h9 Q) ∧ (r7 = 1 → (ty G8 a0 = 6) ∧ (inR (h9 a0 8)) ∧ ((60 ≤ (h9 a0 8) → S l MX6_listPairsOf (d + 1, 0, 0, 0, 0) 2 [some (vR a0), some (vI a1), some (vI a2), some (vI (a3 + 1))] [] G8 h9 Q) ∧ ((h9 a0 8) < 60 → (inA G8 10 (h9 a0 3) (h9 a0 8)) ∧ ∀ h16 : HP, h16 = hset h9 (h9 a0 3) (h9 a0 8) a1 → (inA G8 10 (h16 a0 4) (h16 a0 8)) ∧ ∀ h18 : HP, h18 = hset h16 (h16 a0 4) (h16 a0 8) a3 → (ty G8 (h18 a0 0) = 1) ∧ R l MX1_product d 0 0 [vR (h18 a0 0), vI a1, vI a3, vI a2] G8 h18 (fun r19 G20 h21 => (inA G20 10 (h18 a0 5) (h18 a0 8)) ∧ ∀ h24 : HP, h24 = hset h21 (h18 a0 5) (h18 a0 8) r19 → (ty G20 a0 = 6) ∧ (inA G20 13 (h24 a0 6) 0) ∧ (inA G20 10 (h24 a0 5) (h24 a0 8)) ∧ (ty G20 (h24 a0 1) = 0) ∧ R l MX0_reduce d 0 0 [vR (h24 a0 1), vI (h24 (h24 a0 5) (h24 a0 8))] G20 h24 (fun r28 G29 h30 => (inA G29 10 (h24 (h24 a0 6) 0) (h24 a0 8)) ∧ ∀ h33 : HP, h33 = hset h30 (h24 (h24 a0 6) 0) (h24 a0 8) r28 → (ty G29 a0 = 6) ∧ ∀ h35 : HP, h35 = hset h33 a0 8 ((h33 a0 8) + 1) → S l MX6_listPairsOf (d + 1, 0, 0, 0, 0) 2 [some (vR a0), some (vI a1), some (vI a2), some (vI (a3 + 1))] [] G29 h35 Q)))))))))) : S l MX6_listPairsOf (d + 1, 0, 0, 0, 0) 2 [some (vR a0), some (vI a1), some (vI a2), some (vI a3)] [] G h Q := by
  refine s_iload_n dX6_listPairsOf_2 rfl rfl ?_
  refine s_aload_n dX6_listPairsOf_3 rfl rfl ?_
  have f1 := H.1
  replace H := H.2
  refine s_getf (c := 6) (k := 0) (t := 2) (j := 0) dX6_listPairsOf_4 fl_X6_29 (by decide) (by decide) rfl rfl f1 ?_
  have f2 := H.1
  replace H := H.2
  refine s_getf (c := 1) (k := 1) (t := 2) (j := 1) dX6_listPairsOf_7 fl_X6_95 (by decide) (by decide) rfl rfl f2 ?_
  refine s_iload_n dX6_listPairsOf_10 rfl rfl ?_
  have f3 := H.1
  replace H := H.2
  refine s_iald dX6_listPairsOf_11 f3 ?_
  have f4 := H.1
  replace H := H.2
  have f5 := H.1
  replace H := H.2
  refine s_icmp_ge (tgt := 118) dX6_listPairsOf_12 (by decide) f4 f5 (fun c6 => ?_) (fun c6 => ?_)
  · replace H := H.1 c6
    exact s_vret dX6_listPairsOf_118 rfl ⟨Nat.le_refl _, Nat.le_refl _⟩ H
  · replace H := H.2 c6
    refine s_aload_n dX6_listPairsOf_15 rfl rfl ?_
    refine s_getf (c := 6) (k := 0) (t := 2) (j := 0) dX6_listPairsOf_16 fl_X6_29 (by decide) (by decide) rfl rfl f1 ?_
    refine s_iload_n dX6_listPairsOf_19 rfl rfl ?_
    refine s_callV (M' := MX1_first) (As := [vI a3]) (a := h a0 0) (st := []) dX6_listPairsOf_20 ml_X6_101 cv_X1_first rfl rfl (Nat.le_of_ble_eq_true rfl) ⟨Nat.le_refl _, Nat.le_refl _⟩ f2 (R_mono (fun r7 G8 h9 H => ?_) H)
    show S l MX6_listPairsOf (d + 1, 0, 0, 0, 0) 23 [some (vR a0), some (vI a1), some (vI a2), some (vI a3)] [vI r7] G8 h9 Q
    refine s_iconst dX6_listPairsOf_23 ?_
    have f10 := H.1
    replace H := H.2
    refine s_icmp_ne (tgt := 112) dX6_listPairsOf_24 (by decide) f10 (by decide) (fun c11 => ?_) (fun c11 => ?_)
    · replace H := H.1 c11
      refine s_iinc dX6_listPairsOf_112 rfl (by decide) rfl ?_
      show S l MX6_listPairsOf (d + 1, 0, 0, 0, 0) 115 [some (vR a0), some (vI a1), some (vI a2), some (vI (a3 + 1))] [] G8 h9 Q
      refine s_goto (tgt := 2) dX6_listPairsOf_115 (by decide) ?_
      exact S_cut (by first | exact ⟨rfl, ⟨rfl, ⟨rfl, ⟨rfl, trivial⟩⟩⟩⟩ | simp [lsub]) H
    · replace H := H.2 c11
      refine s_aload_n dX6_listPairsOf_27 rfl rfl ?_
      have f12 := H.1
      replace H := H.2
      refine s_getf (c := 6) (k := 8) (t := 0) (j := 8) dX6_listPairsOf_28 fl_X6_98 (by decide) (by decide) rfl rfl f12 ?_
      refine s_bipush dX6_listPairsOf_31 (by decide) ?_
      have f13 := H.1
      replace H := H.2
      refine s_icmp_ge (tgt := 112) dX6_listPairsOf_33 (by decide) f13 (by decide) (fun c14 => ?_) (fun c14 => ?_)
      · replace H := H.1 c14
        refine s_iinc dX6_listPairsOf_112 rfl (by decide) rfl ?_
        show S l MX6_listPairsOf (d + 1, 0, 0, 0, 0) 115 [some (vR a0), some (vI a1), some (vI a2), some (vI (a3 + 1))] [] G8 h9 Q
        refine s_goto (tgt := 2) dX6_listPairsOf_115 (by decide) ?_
        exact S_cut (by first | exact ⟨rfl, ⟨rfl, ⟨rfl, ⟨rfl, trivial⟩⟩⟩⟩ | simp [lsub]) H
      · replace H := H.2 c14
        refine s_aload_n dX6_listPairsOf_36 rfl rfl ?_
        refine s_getf (c := 6) (k := 3) (t := 2) (j := 3) dX6_listPairsOf_37 fl_X6_9 (by decide) (by decide) rfl rfl f12 ?_
        refine s_aload_n dX6_listPairsOf_40 rfl rfl ?_
        refine s_getf (c := 6) (k := 8) (t := 0) (j := 8) dX6_listPairsOf_41 fl_X6_98 (by decide) (by decide) rfl rfl f12 ?_
        refine s_iload_n dX6_listPairsOf_44 rfl rfl ?_
        have f15 := H.1
        replace H := H.2
        refine s_iastH dX6_listPairsOf_45 f15 (fun h16 eh16 => ?_)
        replace H := H h16 eh16
        refine s_aload_n dX6_listPairsOf_46 rfl rfl ?_
        refine s_getf (c := 6) (k := 4) (t := 2) (j := 4) dX6_listPairsOf_47 fl_X6_15 (by decide) (by decide) rfl rfl f12 ?_
        refine s_aload_n dX6_listPairsOf_50 rfl rfl ?_
        refine s_getf (c := 6) (k := 8) (t := 0) (j := 8) dX6_listPairsOf_51 fl_X6_98 (by decide) (by decide) rfl rfl f12 ?_
        refine s_iload_n dX6_listPairsOf_54 rfl rfl ?_
        have f17 := H.1
        replace H := H.2
        refine s_iastH dX6_listPairsOf_55 f17 (fun h18 eh18 => ?_)
        replace H := H h18 eh18
        refine s_aload_n dX6_listPairsOf_56 rfl rfl ?_
        refine s_getf (c := 6) (k := 5) (t := 2) (j := 5) dX6_listPairsOf_57 fl_X6_18 (by decide) (by decide) rfl rfl f12 ?_
        refine s_aload_n dX6_listPairsOf_60 rfl rfl ?_
        refine s_getf (c := 6) (k := 8) (t := 0) (j := 8) dX6_listPairsOf_61 fl_X6_98 (by decide) (by decide) rfl rfl f12 ?_
        refine s_aload_n dX6_listPairsOf_64 rfl rfl ?_
        refine s_getf (c := 6) (k := 0) (t := 2) (j := 0) dX6_listPairsOf_65 fl_X6_29 (by decide) (by decide) rfl rfl f12 ?_
        refine s_iload_n dX6_listPairsOf_68 rfl rfl ?_
        refine s_iload_n dX6_listPairsOf_69 rfl rfl ?_
        refine s_iload_n dX6_listPairsOf_70 rfl rfl ?_
        have f22 := H.1
        replace H := H.2
        refine s_callV (M' := MX1_product) (As := [vI a1, vI a3, vI a2]) (a := h18 a0 0) (st := [vI (h18 a0 8), vR (h18 a0 5)]) dX6_listPairsOf_71 ml_X6_107 cv_X1_product rfl rfl (Nat.le_of_ble_eq_true rfl) ⟨Nat.le_refl _, Nat.le_refl _⟩ f22 (R_mono (fun r19 G20 h21 H => ?_) H)
        show S l MX6_listPairsOf (d + 1, 0, 0, 0, 0) 74 [some (vR a0), some (vI a1), some (vI a2), some (vI a3)] [vI r19, vI (h18 a0 8), vR (h18 a0 5)] G20 h21 Q
        have f23 := H.1
        replace H := H.2
        refine s_iastH dX6_listPairsOf_74 f23 (fun h24 eh24 => ?_)
        replace H := H h24 eh24
        refine s_aload_n dX6_listPairsOf_75 rfl rfl ?_
        have f25 := H.1
        replace H := H.2
        refine s_getf (c := 6) (k := 6) (t := 2) (j := 6) dX6_listPairsOf_76 fl_X6_23 (by decide) (by decide) rfl rfl f25 ?_
        refine s_iconst dX6_listPairsOf_79 ?_
        have f26 := H.1
        replace H := H.2
        refine s_aaldI dX6_listPairsOf_80 f26 ?_
        refine s_aload_n dX6_listPairsOf_81 rfl rfl ?_
        refine s_getf (c := 6) (k := 8) (t := 0) (j := 8) dX6_listPairsOf_82 fl_X6_98 (by decide) (by decide) rfl rfl f25 ?_
        refine s_aload_n dX6_listPairsOf_85 rfl rfl ?_
        refine s_getf (c := 6) (k := 1) (t := 2) (j := 1) dX6_listPairsOf_86 fl_X6_38 (by decide) (by decide) rfl rfl f25 ?_
        refine s_aload_n dX6_listPairsOf_89 rfl rfl ?_
        refine s_getf (c := 6) (k := 5) (t := 2) (j := 5) dX6_listPairsOf_90 fl_X6_18 (by decide) (by decide) rfl rfl f25 ?_
        refine s_aload_n dX6_listPairsOf_93 rfl rfl ?_
        refine s_getf (c := 6) (k := 8) (t := 0) (j := 8) dX6_listPairsOf_94 fl_X6_98 (by decide) (by decide) rfl rfl f25 ?_
        have f27 := H.1
        replace H := H.2
        refine s_iald dX6_listPairsOf_97 f27 ?_
        have f31 := H.1
        replace H := H.2
        refine s_callV (M' := MX0_reduce) (As := [vI (h24 (h24 a0 5) (h24 a0 8))]) (a := h24 a0 1) (st := [vI (h24 a0 8), vR (h24 (h24 a0 6) 0)]) dX6_listPairsOf_98 ml_X6_110 cv_X0_reduce rfl rfl (Nat.le_of_ble_eq_true rfl) ⟨Nat.le_refl _, Nat.le_refl _⟩ f31 (R_mono (fun r28 G29 h30 H => ?_) H)
        show S l MX6_listPairsOf (d + 1, 0, 0, 0, 0) 101 [some (vR a0), some (vI a1), some (vI a2), some (vI a3)] [vI r28, vI (h24 a0 8), vR (h24 (h24 a0 6) 0)] G29 h30 Q
        have f32 := H.1
        replace H := H.2
        refine s_iastH dX6_listPairsOf_101 f32 (fun h33 eh33 => ?_)
        replace H := H h33 eh33
        refine s_aload_n dX6_listPairsOf_102 rfl rfl ?_
        refine s_dup dX6_listPairsOf_103 rfl ?_
        have f34 := H.1
        replace H := H.2
        refine s_getf (c := 6) (k := 8) (t := 0) (j := 8) dX6_listPairsOf_104 fl_X6_98 (by decide) (by decide) rfl rfl f34 ?_
        refine s_iconst dX6_listPairsOf_107 ?_
        refine s_iadd dX6_listPairsOf_108 ?_
        refine s_putI (c := 6) (k := 8) (j := 8) dX6_listPairsOf_109 fl_X6_98 (by decide) (by decide) rfl rfl rfl f34 (fun h35 eh35 => ?_)
        replace H := H h35 eh35
        refine s_iinc dX6_listPairsOf_112 rfl (by decide) rfl ?_
        show S l MX6_listPairsOf (d + 1, 0, 0, 0, 0) 115 [some (vR a0), some (vI a1), some (vI a2), some (vI (a3 + 1))] [] G29 h35 Q
        refine s_goto (tgt := 2) dX6_listPairsOf_115 (by decide) ?_
        exact S_cut (by first | exact ⟨rfl, ⟨rfl, ⟨rfl, ⟨rfl, trivial⟩⟩⟩⟩ | simp [lsub]) H
set_option maxHeartbeats 4000000 in
set_option maxRecDepth 100000 in
theorem vX6_pickFrom_0 {l : Launch} {d : Nat} {G : GS} {h : HP} {Q : Int → GS → HP → Prop} (a0 a1 a2 a3 : Int) (H : (ty G a0 = 6) ∧ (inR a1) ∧ (inR (h a0 9)) ∧ (((h a0 9) ≤ a1 → Q 1 G h) ∧ (a1 < (h a0 9) → ((a1 < 4 → S l MX6_pickFrom (d + 1, 0, 0, 0, 0) 18 [some (vR a0), some (vI a1), none, some (vI a3), some (vI a2), none] [] G h Q) ∧ (4 ≤ a1 → Q 1 G h))))) : S l MX6_pickFrom (d + 1, 0, 0, 0, 0) 0 [some (vR a0), some (vI a1), some (vI a2), some (vI a3), none, none] [] G h Q := by
  refine s_iload_n dX6_pickFrom_0 rfl rfl ?_
  refine s_aload_n dX6_pickFrom_1 rfl rfl ?_
  have f1 := H.1
  replace H := H.2
  refine s_getf (c := 6) (k := 9) (t := 0) (j := 9) dX6_pickFrom_2 fl_X6_70 (by decide) (by decide) rfl rfl f1 ?_
  have f2 := H.1
  replace H := H.2
  have f3 := H.1
  replace H := H.2
  refine s_icmp_ge (tgt := 13) dX6_pickFrom_5 (by decide) f2 f3 (fun c4 => ?_) (fun c4 => ?_)
  · replace H := H.1 c4
    refine s_iconst dX6_pickFrom_13 ?_
    exact s_zret dX6_pickFrom_14 rfl ⟨Nat.le_refl _, Nat.le_refl _⟩ (by decide) H
  · replace H := H.2 c4
    refine s_iload_n dX6_pickFrom_8 rfl rfl ?_
    refine s_iconst dX6_pickFrom_9 ?_
    refine s_icmp_lt (tgt := 15) dX6_pickFrom_10 (by decide) f2 (by decide) (fun c5 => ?_) (fun c5 => ?_)
    · replace H := H.1 c5
      refine s_iload_n dX6_pickFrom_15 rfl rfl ?_
      refine s_istore dX6_pickFrom_16 (by decide) rfl ?_
      show S l MX6_pickFrom (d + 1, 0, 0, 0, 0) 18 [some (vR a0), some (vI a1), some (vI a2), some (vI a3), some (vI a2), none] [] G h Q
      exact S_cut (by first | exact ⟨rfl, ⟨rfl, ⟨rfl, ⟨rfl, trivial⟩⟩⟩⟩ | simp [lsub]) H
    · replace H := H.2 c5
      refine s_iconst dX6_pickFrom_13 ?_
      exact s_zret dX6_pickFrom_14 rfl ⟨Nat.le_refl _, Nat.le_refl _⟩ (by decide) H
set_option maxHeartbeats 4000000 in
set_option maxRecDepth 100000 in
theorem vX6_pickFrom_18 {l : Launch} {d : Nat} {G : GS} {h : HP} {Q : Int → GS → HP → Prop} (a0 a1 a3 a4 : Int) (H : (ty G a0 = 6) ∧ (inR a4) ∧ (inR (h a0 8)) ∧ (((h a0 8) ≤ a4 → Q 0 G h) ∧ (a4 < (h a0 8) → (inA G 13 (h a0 6) a3) ∧ (inA G 10 (h (h a0 6) a3) a4) ∧ (inR (h (h (h a0 6) a3) a4)) ∧ (((h (h (h a0 6) a3) a4) = 0 → (inA G 10 (h a0 5) a4) ∧ (ty G (h a0 2) = 0) ∧ R l MX0_add d 0 0 [vR (h a0 2), vI (h (h a0 5) a4)] G h (fun r11 G12 h13 => (inR r11) ∧ ((r11 ≠ 0 → (ty G12 a0 = 6) ∧ (inA G12 10 (h13 a0 7) a1) ∧ ∀ h19 : HP, h19 = hset h13 (h13 a0 7) a1 a4 → R l MX6_pickFrom d 0 0 [vR a0, vI (a1 + 1), vI (a4 + 1), vI a3] G12 h19 (fun r22 G23 h24 => (inR r22) ∧ ((r22 = 0 → (ty G23 a0 = 6) ∧ (ty G23 (h24 a0 2) = 0) ∧ R l MX0_removeLast d 0 0 [vR (h24 a0 2)] G23 h24 (fun r28 G29 h30 => S l MX6_pickFrom (d + 1, 0, 0, 0, 0) 18 [some (vR a0), some (vI a1), none, some (vI a3), some (vI (a4 + 1)), none] [] G29 h30 Q)) ∧ (r22 ≠ 0 → Q 1 G23 h24)))) ∧ (r11 = 0 → S l MX6_pickFrom (d + 1, 0, 0, 0, 0) 18 [some (vR a0), some (vI a1), none, some (vI a3), some (vI (a4 + 1)), none] [] G12 h13 Q)))) ∧ ((h (h (h a0 6) a3) a4) ≠ 0 → (inR a3) ∧ (inR (h a0 10)) ∧ (((h a0 10) ≤ a3 → S l MX6_pickFrom (d + 1, 0, 0, 0, 0) 18 [some (vR a0), some (vI a1), none, some (vI a3), some (vI (a4 + 1)), none] [] G h Q) ∧ (a3 < (h a0 10) → (inA G 10 (h a0 5) a4) ∧ (ty G (h a0 2) = 0) ∧ R l MX0_add d 0 0 [vR (h a0 2), vI (h (h a0 5) a4)] G h (fun r37 G38 h39 => (inR r37) ∧ ((r37 ≠ 0 → (ty G38 a0 = 6) ∧ (inA G38 10 (h39 a0 7) a1) ∧ ∀ h45 : HP, h45 = hset h39 (h39 a0 7) a1 a4 → R l MX6_meet d 0 0 [vR a0, vI a3, vI a4] G38 h45 (fun r47 G48 h49 => R l MX6_pickFrom d 0 0 [vR a0, vI (a1 + 1), vI (a4 + 1), vI (a3 + 1)] G48 h49 (fun r51 G52 h53 => (inR r51) ∧ ((r51 = 0 → (ty G52 a0 = 6) ∧ (ty G52 (h53 a0 2) = 0) ∧ R l MX0_removeLast d 0 0 [vR (h53 a0 2)] G52 h53 (fun r57 G58 h59 => S l MX6_pickFrom (d + 1, 0, 0, 0, 0) 18 [some (vR a0), some (vI a1), none, some (vI a3), some (vI (a4 + 1)), none] [] G58 h59 Q)) ∧ (r51 ≠ 0 → Q 1 G52 h53))))) ∧ (r37 = 0 → S l MX6_pickFrom (d + 1, 0, 0, 0, 0) 18 [some (vR a0), some (vI a1), none, some (vI a3), some (vI (a4 + 1)), none] [] G38 h39 Q)))))))))) : S l MX6_pickFrom (d + 1, 0, 0, 0, 0) 18 [some (vR a0), some (vI a1), none, some (vI a3), some (vI a4), none] [] G h Q := by
  refine s_iload dX6_pickFrom_18 rfl ?_
  refine s_aload_n dX6_pickFrom_20 rfl rfl ?_
  have f1 := H.1
  replace H := H.2
  refine s_getf (c := 6) (k := 8) (t := 0) (j := 8) dX6_pickFrom_21 fl_X6_98 (by decide) (by decide) rfl rfl f1 ?_
  have f2 := H.1
  replace H := H.2
  have f3 := H.1
  replace H := H.2
  refine s_icmp_ge (tgt := 140) dX6_pickFrom_24 (by decide) f2 f3 (fun c4 => ?_) (fun c4 => ?_)
  · replace H := H.1 c4
    refine s_iconst dX6_pickFrom_140 ?_
    exact s_zret dX6_pickFrom_141 rfl ⟨Nat.le_refl _, Nat.le_refl _⟩ (by decide) H
  · replace H := H.2 c4
    refine s_aload_n dX6_pickFrom_27 rfl rfl ?_
    refine s_getf (c := 6) (k := 6) (t := 2) (j := 6) dX6_pickFrom_28 fl_X6_23 (by decide) (by decide) rfl rfl f1 ?_
    refine s_iload_n dX6_pickFrom_31 rfl rfl ?_
    have f5 := H.1
    replace H := H.2
    refine s_aaldI dX6_pickFrom_32 f5 ?_
    refine s_iload dX6_pickFrom_33 rfl ?_
    have f6 := H.1
    replace H := H.2
    refine s_iald dX6_pickFrom_35 f6 ?_
    have f7 := H.1
    replace H := H.2
    refine s_if_eq (tgt := 43) dX6_pickFrom_36 (by decide) f7 (fun c8 => ?_) (fun c8 => ?_)
    · replace H := H.1 c8
      refine s_iconst dX6_pickFrom_43 ?_
      refine s_istore dX6_pickFrom_44 (by decide) rfl ?_
      show S l MX6_pickFrom (d + 1, 0, 0, 0, 0) 46 [some (vR a0), some (vI a1), none, some (vI a3), some (vI a4), some (vI 0)] [] G h Q
      refine s_iload dX6_pickFrom_46 rfl ?_
      refine s_if_eq (tgt := 59) dX6_pickFrom_48 (by decide) (by decide) (fun _ => ?_) (fun c9 => absurd c9 (by decide))
      refine s_aload_n dX6_pickFrom_59 rfl rfl ?_
      refine s_getf (c := 6) (k := 2) (t := 2) (j := 2) dX6_pickFrom_60 fl_X6_42 (by decide) (by decide) rfl rfl f1 ?_
      refine s_aload_n dX6_pickFrom_63 rfl rfl ?_
      refine s_getf (c := 6) (k := 5) (t := 2) (j := 5) dX6_pickFrom_64 fl_X6_18 (by decide) (by decide) rfl rfl f1 ?_
      refine s_iload dX6_pickFrom_67 rfl ?_
      have f10 := H.1
      replace H := H.2
      refine s_iald dX6_pickFrom_69 f10 ?_
      have f14 := H.1
      replace H := H.2
      refine s_callV (M' := MX0_add) (As := [vI (h (h a0 5) a4)]) (a := h a0 2) (st := []) dX6_pickFrom_70 ml_X6_87 cv_X0_add rfl rfl (Nat.le_of_ble_eq_true rfl) ⟨Nat.le_refl _, Nat.le_refl _⟩ f14 (R_mono (fun r11 G12 h13 H => ?_) H)
      show S l MX6_pickFrom (d + 1, 0, 0, 0, 0) 73 [some (vR a0), some (vI a1), none, some (vI a3), some (vI a4), some (vI 0)] [vI r11] G12 h13 Q
      have f15 := H.1
      replace H := H.2
      refine s_if_ne (tgt := 79) dX6_pickFrom_73 (by decide) f15 (fun c16 => ?_) (fun c16 => ?_)
      · replace H := H.1 c16
        refine s_aload_n dX6_pickFrom_79 rfl rfl ?_
        have f17 := H.1
        replace H := H.2
        refine s_getf (c := 6) (k := 7) (t := 2) (j := 7) dX6_pickFrom_80 fl_X6_26 (by decide) (by decide) rfl rfl f17 ?_
        refine s_iload_n dX6_pickFrom_83 rfl rfl ?_
        refine s_iload dX6_pickFrom_84 rfl ?_
        have f18 := H.1
        replace H := H.2
        refine s_iastH dX6_pickFrom_86 f18 (fun h19 eh19 => ?_)
        replace H := H h19 eh19
        refine s_iload dX6_pickFrom_87 rfl ?_
        refine s_if_eq (tgt := 99) dX6_pickFrom_89 (by decide) (by decide) (fun _ => ?_) (fun c20 => absurd c20 (by decide))
        refine s_aload_n dX6_pickFrom_99 rfl rfl ?_
        refine s_iload_n dX6_pickFrom_100 rfl rfl ?_
        refine s_iconst dX6_pickFrom_101 ?_
        refine s_iadd dX6_pickFrom_102 ?_
        refine s_iload dX6_pickFrom_103 rfl ?_
        refine s_iconst dX6_pickFrom_105 ?_
        refine s_iadd dX6_pickFrom_106 ?_
        refine s_iload dX6_pickFrom_107 rfl ?_
        refine s_if_eq (tgt := 118) dX6_pickFrom_109 (by decide) (by decide) (fun _ => ?_) (fun c21 => absurd c21 (by decide))
        refine s_iload_n dX6_pickFrom_118 rfl rfl ?_
        refine s_callS (M' := MX6_pickFrom) (As := [vR a0, vI (a1 + 1), vI (a4 + 1), vI a3]) (st := []) dX6_pickFrom_119 ml_X6_79 cs_X6_pickFrom rfl rfl (Nat.le_of_ble_eq_true rfl) ⟨Nat.le_refl _, Nat.le_refl _⟩ (R_mono (fun r22 G23 h24 H => ?_) H)
        show S l MX6_pickFrom (d + 1, 0, 0, 0, 0) 122 [some (vR a0), some (vI a1), none, some (vI a3), some (vI a4), some (vI 0)] [vI r22] G23 h24 Q
        have f25 := H.1
        replace H := H.2
        refine s_if_eq (tgt := 127) dX6_pickFrom_122 (by decide) f25 (fun c26 => ?_) (fun c26 => ?_)
        · replace H := H.1 c26
          refine s_aload_n dX6_pickFrom_127 rfl rfl ?_
          have f27 := H.1
          replace H := H.2
          refine s_getf (c := 6) (k := 2) (t := 2) (j := 2) dX6_pickFrom_128 fl_X6_42 (by decide) (by decide) rfl rfl f27 ?_
          have f31 := H.1
          replace H := H.2
          refine s_callV (M' := MX0_removeLast) (As := []) (a := h24 a0 2) (st := []) dX6_pickFrom_131 ml_X6_116 cv_X0_removeLast rfl rfl (Nat.le_of_ble_eq_true rfl) ⟨Nat.le_refl _, Nat.le_refl _⟩ f31 (R_mono (fun r28 G29 h30 H => ?_) H)
          show S l MX6_pickFrom (d + 1, 0, 0, 0, 0) 134 [some (vR a0), some (vI a1), none, some (vI a3), some (vI a4), some (vI 0)] [] G29 h30 Q
          refine s_iinc dX6_pickFrom_134 rfl (by decide) rfl ?_
          show S l MX6_pickFrom (d + 1, 0, 0, 0, 0) 137 [some (vR a0), some (vI a1), none, some (vI a3), some (vI (a4 + 1)), some (vI 0)] [] G29 h30 Q
          refine s_goto (tgt := 18) dX6_pickFrom_137 (by decide) ?_
          exact S_cut (by first | exact ⟨rfl, ⟨rfl, ⟨rfl, ⟨rfl, trivial⟩⟩⟩⟩ | simp [lsub]) H
        · replace H := H.2 c26
          refine s_iconst dX6_pickFrom_125 ?_
          exact s_zret dX6_pickFrom_126 rfl ⟨Nat.le_refl _, Nat.le_refl _⟩ (by decide) H
      · replace H := H.2 c16
        refine s_goto (tgt := 134) dX6_pickFrom_76 (by decide) ?_
        refine s_iinc dX6_pickFrom_134 rfl (by decide) rfl ?_
        show S l MX6_pickFrom (d + 1, 0, 0, 0, 0) 137 [some (vR a0), some (vI a1), none, some (vI a3), some (vI (a4 + 1)), some (vI 0)] [] G12 h13 Q
        refine s_goto (tgt := 18) dX6_pickFrom_137 (by decide) ?_
        exact S_cut (by first | exact ⟨rfl, ⟨rfl, ⟨rfl, ⟨rfl, trivial⟩⟩⟩⟩ | simp [lsub]) H
    · replace H := H.2 c8
      refine s_iconst dX6_pickFrom_39 ?_
      refine s_goto (tgt := 44) dX6_pickFrom_40 (by decide) ?_
      refine s_istore dX6_pickFrom_44 (by decide) rfl ?_
      show S l MX6_pickFrom (d + 1, 0, 0, 0, 0) 46 [some (vR a0), some (vI a1), none, some (vI a3), some (vI a4), some (vI 1)] [] G h Q
      refine s_iload dX6_pickFrom_46 rfl ?_
      refine s_if_eq (tgt := 59) dX6_pickFrom_48 (by decide) (by decide) (fun c32 => absurd c32 (by decide)) (fun _ => ?_)
      refine s_iload_n dX6_pickFrom_51 rfl rfl ?_
      refine s_aload_n dX6_pickFrom_52 rfl rfl ?_
      refine s_getf (c := 6) (k := 10) (t := 0) (j := 10) dX6_pickFrom_53 fl_X6_73 (by decide) (by decide) rfl rfl f1 ?_
      have f33 := H.1
      replace H := H.2
      have f34 := H.1
      replace H := H.2
      refine s_icmp_ge (tgt := 134) dX6_pickFrom_56 (by decide) f33 f34 (fun c35 => ?_) (fun c35 => ?_)
      · replace H := H.1 c35
        refine s_iinc dX6_pickFrom_134 rfl (by decide) rfl ?_
        show S l MX6_pickFrom (d + 1, 0, 0, 0, 0) 137 [some (vR a0), some (vI a1), none, some (vI a3), some (vI (a4 + 1)), some (vI 1)] [] G h Q
        refine s_goto (tgt := 18) dX6_pickFrom_137 (by decide) ?_
        exact S_cut (by first | exact ⟨rfl, ⟨rfl, ⟨rfl, ⟨rfl, trivial⟩⟩⟩⟩ | simp [lsub]) H
      · replace H := H.2 c35
        refine s_aload_n dX6_pickFrom_59 rfl rfl ?_
        refine s_getf (c := 6) (k := 2) (t := 2) (j := 2) dX6_pickFrom_60 fl_X6_42 (by decide) (by decide) rfl rfl f1 ?_
        refine s_aload_n dX6_pickFrom_63 rfl rfl ?_
        refine s_getf (c := 6) (k := 5) (t := 2) (j := 5) dX6_pickFrom_64 fl_X6_18 (by decide) (by decide) rfl rfl f1 ?_
        refine s_iload dX6_pickFrom_67 rfl ?_
        have f36 := H.1
        replace H := H.2
        refine s_iald dX6_pickFrom_69 f36 ?_
        have f40 := H.1
        replace H := H.2
        refine s_callV (M' := MX0_add) (As := [vI (h (h a0 5) a4)]) (a := h a0 2) (st := []) dX6_pickFrom_70 ml_X6_87 cv_X0_add rfl rfl (Nat.le_of_ble_eq_true rfl) ⟨Nat.le_refl _, Nat.le_refl _⟩ f40 (R_mono (fun r37 G38 h39 H => ?_) H)
        show S l MX6_pickFrom (d + 1, 0, 0, 0, 0) 73 [some (vR a0), some (vI a1), none, some (vI a3), some (vI a4), some (vI 1)] [vI r37] G38 h39 Q
        have f41 := H.1
        replace H := H.2
        refine s_if_ne (tgt := 79) dX6_pickFrom_73 (by decide) f41 (fun c42 => ?_) (fun c42 => ?_)
        · replace H := H.1 c42
          refine s_aload_n dX6_pickFrom_79 rfl rfl ?_
          have f43 := H.1
          replace H := H.2
          refine s_getf (c := 6) (k := 7) (t := 2) (j := 7) dX6_pickFrom_80 fl_X6_26 (by decide) (by decide) rfl rfl f43 ?_
          refine s_iload_n dX6_pickFrom_83 rfl rfl ?_
          refine s_iload dX6_pickFrom_84 rfl ?_
          have f44 := H.1
          replace H := H.2
          refine s_iastH dX6_pickFrom_86 f44 (fun h45 eh45 => ?_)
          replace H := H h45 eh45
          refine s_iload dX6_pickFrom_87 rfl ?_
          refine s_if_eq (tgt := 99) dX6_pickFrom_89 (by decide) (by decide) (fun c46 => absurd c46 (by decide)) (fun _ => ?_)
          refine s_aload_n dX6_pickFrom_92 rfl rfl ?_
          refine s_iload_n dX6_pickFrom_93 rfl rfl ?_
          refine s_iload dX6_pickFrom_94 rfl ?_
          refine s_callV (M' := MX6_meet) (As := [vI a3, vI a4]) (a := a0) (st := []) dX6_pickFrom_96 ml_X6_113 cv_X6_meet rfl rfl (Nat.le_of_ble_eq_true rfl) ⟨Nat.le_refl _, Nat.le_refl _⟩ f43 (R_mono (fun r47 G48 h49 H => ?_) H)
          show S l MX6_pickFrom (d + 1, 0, 0, 0, 0) 99 [some (vR a0), some (vI a1), none, some (vI a3), some (vI a4), some (vI 1)] [] G48 h49 Q
          refine s_aload_n dX6_pickFrom_99 rfl rfl ?_
          refine s_iload_n dX6_pickFrom_100 rfl rfl ?_
          refine s_iconst dX6_pickFrom_101 ?_
          refine s_iadd dX6_pickFrom_102 ?_
          refine s_iload dX6_pickFrom_103 rfl ?_
          refine s_iconst dX6_pickFrom_105 ?_
          refine s_iadd dX6_pickFrom_106 ?_
          refine s_iload dX6_pickFrom_107 rfl ?_
          refine s_if_eq (tgt := 118) dX6_pickFrom_109 (by decide) (by decide) (fun c50 => absurd c50 (by decide)) (fun _ => ?_)
          refine s_iload_n dX6_pickFrom_112 rfl rfl ?_
          refine s_iconst dX6_pickFrom_113 ?_
          refine s_iadd dX6_pickFrom_114 ?_
          refine s_goto (tgt := 119) dX6_pickFrom_115 (by decide) ?_
          refine s_callS (M' := MX6_pickFrom) (As := [vR a0, vI (a1 + 1), vI (a4 + 1), vI (a3 + 1)]) (st := []) dX6_pickFrom_119 ml_X6_79 cs_X6_pickFrom rfl rfl (Nat.le_of_ble_eq_true rfl) ⟨Nat.le_refl _, Nat.le_refl _⟩ (R_mono (fun r51 G52 h53 H => ?_) H)
          show S l MX6_pickFrom (d + 1, 0, 0, 0, 0) 122 [some (vR a0), some (vI a1), none, some (vI a3), some (vI a4), some (vI 1)] [vI r51] G52 h53 Q
          have f54 := H.1
          replace H := H.2
          refine s_if_eq (tgt := 127) dX6_pickFrom_122 (by decide) f54 (fun c55 => ?_) (fun c55 => ?_)
          · replace H := H.1 c55
            refine s_aload_n dX6_pickFrom_127 rfl rfl ?_
            have f56 := H.1
            replace H := H.2
            refine s_getf (c := 6) (k := 2) (t := 2) (j := 2) dX6_pickFrom_128 fl_X6_42 (by decide) (by decide) rfl rfl f56 ?_
            have f60 := H.1
            replace H := H.2
            refine s_callV (M' := MX0_removeLast) (As := []) (a := h53 a0 2) (st := []) dX6_pickFrom_131 ml_X6_116 cv_X0_removeLast rfl rfl (Nat.le_of_ble_eq_true rfl) ⟨Nat.le_refl _, Nat.le_refl _⟩ f60 (R_mono (fun r57 G58 h59 H => ?_) H)
            show S l MX6_pickFrom (d + 1, 0, 0, 0, 0) 134 [some (vR a0), some (vI a1), none, some (vI a3), some (vI a4), some (vI 1)] [] G58 h59 Q
            refine s_iinc dX6_pickFrom_134 rfl (by decide) rfl ?_
            show S l MX6_pickFrom (d + 1, 0, 0, 0, 0) 137 [some (vR a0), some (vI a1), none, some (vI a3), some (vI (a4 + 1)), some (vI 1)] [] G58 h59 Q
            refine s_goto (tgt := 18) dX6_pickFrom_137 (by decide) ?_
            exact S_cut (by first | exact ⟨rfl, ⟨rfl, ⟨rfl, ⟨rfl, trivial⟩⟩⟩⟩ | simp [lsub]) H
          · replace H := H.2 c55
            refine s_iconst dX6_pickFrom_125 ?_
            exact s_zret dX6_pickFrom_126 rfl ⟨Nat.le_refl _, Nat.le_refl _⟩ (by decide) H
        · replace H := H.2 c42
          refine s_goto (tgt := 134) dX6_pickFrom_76 (by decide) ?_
          refine s_iinc dX6_pickFrom_134 rfl (by decide) rfl ?_
          show S l MX6_pickFrom (d + 1, 0, 0, 0, 0) 137 [some (vR a0), some (vI a1), none, some (vI a3), some (vI (a4 + 1)), some (vI 1)] [] G38 h39 Q
          refine s_goto (tgt := 18) dX6_pickFrom_137 (by decide) ?_
          exact S_cut (by first | exact ⟨rfl, ⟨rfl, ⟨rfl, ⟨rfl, trivial⟩⟩⟩⟩ | simp [lsub]) H
set_option maxHeartbeats 4000000 in
set_option maxRecDepth 100000 in
theorem vX6_meet_0 {l : Launch} {d : Nat} {G : GS} {h : HP} {Q : Int → GS → HP → Prop} (a0 a1 a2 : Int) (H : (ty G a0 = 6) ∧ (inA G 13 (h a0 6) a1) ∧ (inA G 10 (h (h a0 6) a1) a2) ∧ (ty G (h a0 0) = 1) ∧ R l MX1_shape d 0 0 [vR (h a0 0), vI (h (h (h a0 6) a1) a2)] G h (fun r4 G5 h6 => (ty G5 a0 = 6) ∧ (ty G5 (h6 a0 0) = 1) ∧ R l MX1_firstIndex d 0 0 [vR (h6 a0 0), vI r4] G5 h6 (fun r9 G10 h11 => S l MX6_meet (d + 1, 0, 0, 0, 0) 31 [some (vR a0), some (vI a1), none, some (vI r4), some (vI r9), some (vI (a2 + 1)), none] [] G10 h11 Q))) : S l MX6_meet (d + 1, 0, 0, 0, 0) 0 [some (vR a0), some (vI a1), some (vI a2), none, none, none, none] [] G h Q := by
  refine s_aload_n dX6_meet_0 rfl rfl ?_
  have f1 := H.1
  replace H := H.2
  refine s_getf (c := 6) (k := 0) (t := 2) (j := 0) dX6_meet_1 fl_X6_29 (by decide) (by decide) rfl rfl f1 ?_
  refine s_aload_n dX6_meet_4 rfl rfl ?_
  refine s_getf (c := 6) (k := 6) (t := 2) (j := 6) dX6_meet_5 fl_X6_23 (by decide) (by decide) rfl rfl f1 ?_
  refine s_iload_n dX6_meet_8 rfl rfl ?_
  have f2 := H.1
  replace H := H.2
  refine s_aaldI dX6_meet_9 f2 ?_
  refine s_iload_n dX6_meet_10 rfl rfl ?_
  have f3 := H.1
  replace H := H.2
  refine s_iald dX6_meet_11 f3 ?_
  have f7 := H.1
  replace H := H.2
  refine s_callV (M' := MX1_shape) (As := [vI (h (h (h a0 6) a1) a2)]) (a := h a0 0) (st := []) dX6_meet_12 ml_X6_119 cv_X1_shape rfl rfl (Nat.le_of_ble_eq_true rfl) ⟨Nat.le_refl _, Nat.le_refl _⟩ f7 (R_mono (fun r4 G5 h6 H => ?_) H)
  show S l MX6_meet (d + 1, 0, 0, 0, 0) 15 [some (vR a0), some (vI a1), some (vI a2), none, none, none, none] [vI r4] G5 h6 Q
  refine s_istore_n dX6_meet_15 rfl (by decide) rfl ?_
  show S l MX6_meet (d + 1, 0, 0, 0, 0) 16 [some (vR a0), some (vI a1), some (vI a2), some (vI r4), none, none, none] [] G5 h6 Q
  refine s_aload_n dX6_meet_16 rfl rfl ?_
  have f8 := H.1
  replace H := H.2
  refine s_getf (c := 6) (k := 0) (t := 2) (j := 0) dX6_meet_17 fl_X6_29 (by decide) (by decide) rfl rfl f8 ?_
  refine s_iload_n dX6_meet_20 rfl rfl ?_
  have f12 := H.1
  replace H := H.2
  refine s_callV (M' := MX1_firstIndex) (As := [vI r4]) (a := h6 a0 0) (st := []) dX6_meet_21 ml_X6_122 cv_X1_firstIndex rfl rfl (Nat.le_of_ble_eq_true rfl) ⟨Nat.le_refl _, Nat.le_refl _⟩ f12 (R_mono (fun r9 G10 h11 H => ?_) H)
  show S l MX6_meet (d + 1, 0, 0, 0, 0) 24 [some (vR a0), some (vI a1), some (vI a2), some (vI r4), none, none, none] [vI r9] G10 h11 Q
  refine s_istore dX6_meet_24 (by decide) rfl ?_
  show S l MX6_meet (d + 1, 0, 0, 0, 0) 26 [some (vR a0), some (vI a1), some (vI a2), some (vI r4), some (vI r9), none, none] [] G10 h11 Q
  refine s_iload_n dX6_meet_26 rfl rfl ?_
  refine s_iconst dX6_meet_27 ?_
  refine s_iadd dX6_meet_28 ?_
  refine s_istore dX6_meet_29 (by decide) rfl ?_
  show S l MX6_meet (d + 1, 0, 0, 0, 0) 31 [some (vR a0), some (vI a1), some (vI a2), some (vI r4), some (vI r9), some (vI (a2 + 1)), none] [] G10 h11 Q
  exact S_cut (by first | exact ⟨rfl, ⟨rfl, ⟨rfl, ⟨rfl, ⟨rfl, trivial⟩⟩⟩⟩⟩ | simp [lsub]) H
set_option maxHeartbeats 4000000 in
set_option maxRecDepth 100000 in
theorem vX6_meet_31 {l : Launch} {d : Nat} {G : GS} {h : HP} {Q : Int → GS → HP → Prop} (a0 a1 a3 a4 a5 : Int) (H : (ty G a0 = 6) ∧ (inR a5) ∧ (inR (h a0 8)) ∧ (((h a0 8) ≤ a5 → Q 0 G h) ∧ (a5 < (h a0 8) → (inA G 13 (h a0 6) a1) ∧ (inA G 10 (h (h a0 6) a1) a5) ∧ (inA G 13 (h a0 6) (a1 + 1)) ∧ (ty G (h a0 0) = 1) ∧ R l MX1_number d 0 0 [vR (h a0 0), vI (h (h (h a0 6) a1) a5), vI a4] G h (fun r8 G9 h10 => (ty G9 (h a0 0) = 1) ∧ R l MX1_minus d 0 0 [vR (h a0 0), vI (h (h (h a0 6) a1) a5), vI r8, vI a3] G9 h10 (fun r12 G13 h14 => (inA G13 10 (h (h a0 6) (a1 + 1)) a5) ∧ ∀ h17 : HP, h17 = hset h14 (h (h a0 6) (a1 + 1)) a5 r12 → S l MX6_meet (d + 1, 0, 0, 0, 0) 31 [some (vR a0), some (vI a1), none, some (vI a3), some (vI a4), some (vI (a5 + 1)), none] [] G13 h17 Q))))) : S l MX6_meet (d + 1, 0, 0, 0, 0) 31 [some (vR a0), some (vI a1), none, some (vI a3), some (vI a4), some (vI a5), none] [] G h Q := by
  refine s_iload dX6_meet_31 rfl ?_
  refine s_aload_n dX6_meet_33 rfl rfl ?_
  have f1 := H.1
  replace H := H.2
  refine s_getf (c := 6) (k := 8) (t := 0) (j := 8) dX6_meet_34 fl_X6_98 (by decide) (by decide) rfl rfl f1 ?_
  have f2 := H.1
  replace H := H.2
  have f3 := H.1
  replace H := H.2
  refine s_icmp_ge (tgt := 89) dX6_meet_37 (by decide) f2 f3 (fun c4 => ?_) (fun c4 => ?_)
  · replace H := H.1 c4
    exact s_vret dX6_meet_89 rfl ⟨Nat.le_refl _, Nat.le_refl _⟩ H
  · replace H := H.2 c4
    refine s_aload_n dX6_meet_40 rfl rfl ?_
    refine s_getf (c := 6) (k := 6) (t := 2) (j := 6) dX6_meet_41 fl_X6_23 (by decide) (by decide) rfl rfl f1 ?_
    refine s_iload_n dX6_meet_44 rfl rfl ?_
    have f5 := H.1
    replace H := H.2
    refine s_aaldI dX6_meet_45 f5 ?_
    refine s_iload dX6_meet_46 rfl ?_
    have f6 := H.1
    replace H := H.2
    refine s_iald dX6_meet_48 f6 ?_
    refine s_istore dX6_meet_49 (by decide) rfl ?_
    show S l MX6_meet (d + 1, 0, 0, 0, 0) 51 [some (vR a0), some (vI a1), none, some (vI a3), some (vI a4), some (vI a5), some (vI (h (h (h a0 6) a1) a5))] [] G h Q
    refine s_aload_n dX6_meet_51 rfl rfl ?_
    refine s_getf (c := 6) (k := 6) (t := 2) (j := 6) dX6_meet_52 fl_X6_23 (by decide) (by decide) rfl rfl f1 ?_
    refine s_iload_n dX6_meet_55 rfl rfl ?_
    refine s_iconst dX6_meet_56 ?_
    refine s_iadd dX6_meet_57 ?_
    have f7 := H.1
    replace H := H.2
    refine s_aaldI dX6_meet_58 f7 ?_
    refine s_iload dX6_meet_59 rfl ?_
    refine s_aload_n dX6_meet_61 rfl rfl ?_
    refine s_getf (c := 6) (k := 0) (t := 2) (j := 0) dX6_meet_62 fl_X6_29 (by decide) (by decide) rfl rfl f1 ?_
    refine s_iload dX6_meet_65 rfl ?_
    refine s_aload_n dX6_meet_67 rfl rfl ?_
    refine s_getf (c := 6) (k := 0) (t := 2) (j := 0) dX6_meet_68 fl_X6_29 (by decide) (by decide) rfl rfl f1 ?_
    refine s_iload dX6_meet_71 rfl ?_
    refine s_iload dX6_meet_73 rfl ?_
    have f11 := H.1
    replace H := H.2
    refine s_callV (M' := MX1_number) (As := [vI (h (h (h a0 6) a1) a5), vI a4]) (a := h a0 0) (st := [vI (h (h (h a0 6) a1) a5), vR (h a0 0), vI a5, vR (h (h a0 6) (a1 + 1))]) dX6_meet_75 ml_X6_125 cv_X1_number rfl rfl (Nat.le_of_ble_eq_true rfl) ⟨Nat.le_refl _, Nat.le_refl _⟩ f11 (R_mono (fun r8 G9 h10 H => ?_) H)
    show S l MX6_meet (d + 1, 0, 0, 0, 0) 78 [some (vR a0), some (vI a1), none, some (vI a3), some (vI a4), some (vI a5), some (vI (h (h (h a0 6) a1) a5))] [vI r8, vI (h (h (h a0 6) a1) a5), vR (h a0 0), vI a5, vR (h (h a0 6) (a1 + 1))] G9 h10 Q
    refine s_iload_n dX6_meet_78 rfl rfl ?_
    have f15 := H.1
    replace H := H.2
    refine s_callV (M' := MX1_minus) (As := [vI (h (h (h a0 6) a1) a5), vI r8, vI a3]) (a := h a0 0) (st := [vI a5, vR (h (h a0 6) (a1 + 1))]) dX6_meet_79 ml_X6_128 cv_X1_minus rfl rfl (Nat.le_of_ble_eq_true rfl) ⟨Nat.le_refl _, Nat.le_refl _⟩ f15 (R_mono (fun r12 G13 h14 H => ?_) H)
    show S l MX6_meet (d + 1, 0, 0, 0, 0) 82 [some (vR a0), some (vI a1), none, some (vI a3), some (vI a4), some (vI a5), some (vI (h (h (h a0 6) a1) a5))] [vI r12, vI a5, vR (h (h a0 6) (a1 + 1))] G13 h14 Q
    have f16 := H.1
    replace H := H.2
    refine s_iastH dX6_meet_82 f16 (fun h17 eh17 => ?_)
    replace H := H h17 eh17
    refine s_iinc dX6_meet_83 rfl (by decide) rfl ?_
    show S l MX6_meet (d + 1, 0, 0, 0, 0) 86 [some (vR a0), some (vI a1), none, some (vI a3), some (vI a4), some (vI (a5 + 1)), some (vI (h (h (h a0 6) a1) a5))] [] G13 h17 Q
    refine s_goto (tgt := 31) dX6_meet_86 (by decide) ?_
    exact S_cut (by first | exact ⟨rfl, ⟨rfl, ⟨rfl, ⟨rfl, ⟨rfl, trivial⟩⟩⟩⟩⟩ | simp [lsub]) H
set_option maxHeartbeats 4000000 in
set_option maxRecDepth 100000 in
theorem vX6_writeScheme_0 {l : Launch} {d : Nat} {G : GS} {h : HP} {Q : Int → GS → HP → Prop} (a0 a1 a2 : Int) (H : (ty G a1 = 4) ∧ ∀ h2 : HP, h2 = hset h a1 6 0 → S l MX6_writeScheme (d + 1, 0, 0, 0, 0) 7 [some (vR a0), some (vR a1), some (vI a2), some (vI 0), none, none, none] [] G h2 Q) : S l MX6_writeScheme (d + 1, 0, 0, 0, 0) 0 [some (vR a0), some (vR a1), some (vI a2), none, none, none, none] [] G h Q := by
  refine s_aload_n dX6_writeScheme_0 rfl rfl ?_
  refine s_iconst dX6_writeScheme_1 ?_
  have f1 := H.1
  replace H := H.2
  refine s_putI (c := 4) (k := 6) (j := 6) dX6_writeScheme_2 fl_X6_131 (by decide) (by decide) rfl rfl rfl f1 (fun h2 eh2 => ?_)
  replace H := H h2 eh2
  refine s_iconst dX6_writeScheme_5 ?_
  refine s_istore_n dX6_writeScheme_6 rfl (by decide) rfl ?_
  show S l MX6_writeScheme (d + 1, 0, 0, 0, 0) 7 [some (vR a0), some (vR a1), some (vI a2), some (vI 0), none, none, none] [] G h2 Q
  exact S_cut (by first | exact ⟨rfl, ⟨rfl, ⟨rfl, ⟨rfl, trivial⟩⟩⟩⟩ | simp [lsub]) H
set_option maxHeartbeats 4000000 in
set_option maxRecDepth 100000 in
theorem vX6_writeScheme_7 {l : Launch} {d : Nat} {G : GS} {h : HP} {Q : Int → GS → HP → Prop} (a0 a1 a2 a3 : Int) (H : (inR a3) ∧ (inR a2) ∧ ((a2 ≤ a3 → S l MX6_writeScheme (d + 1, 0, 0, 0, 0) 47 [some (vR a0), some (vR a1), some (vI a2), some (vI 0), none, none, none] [] G h Q) ∧ (a3 < a2 → (ty G a0 = 6) ∧ (inA G 10 (h a0 7) a3) ∧ (inA G 10 (h a0 3) (h (h a0 7) a3)) ∧ (inA G 10 (h a0 4) (h (h a0 7) a3)) ∧ (ty G a1 = 4) ∧ R l MX4_append d 0 0 [vR a1, vI (h (h a0 3) (h (h a0 7) a3)), vI (h (h a0 4) (h (h a0 7) a3)), vI 0] G h (fun r8 G9 h10 => S l MX6_writeScheme (d + 1, 0, 0, 0, 0) 7 [some (vR a0), some (vR a1), some (vI a2), some (vI (a3 + 1)), none, none, none] [] G9 h10 Q)))) : S l MX6_writeScheme (d + 1, 0, 0, 0, 0) 7 [some (vR a0), some (vR a1), some (vI a2), some (vI a3), none, none, none] [] G h Q := by
  refine s_iload_n dX6_writeScheme_7 rfl rfl ?_
  refine s_iload_n dX6_writeScheme_8 rfl rfl ?_
  have f1 := H.1
  replace H := H.2
  have f2 := H.1
  replace H := H.2
  refine s_icmp_ge (tgt := 45) dX6_writeScheme_9 (by decide) f1 f2 (fun c3 => ?_) (fun c3 => ?_)
  · replace H := H.1 c3
    refine s_iconst dX6_writeScheme_45 ?_
    refine s_istore_n dX6_writeScheme_46 rfl (by decide) rfl ?_
    show S l MX6_writeScheme (d + 1, 0, 0, 0, 0) 47 [some (vR a0), some (vR a1), some (vI a2), some (vI 0), none, none, none] [] G h Q
    exact S_cut (by first | exact ⟨rfl, ⟨rfl, ⟨rfl, ⟨rfl, trivial⟩⟩⟩⟩ | simp [lsub]) H
  · replace H := H.2 c3
    refine s_aload_n dX6_writeScheme_12 rfl rfl ?_
    refine s_aload_n dX6_writeScheme_13 rfl rfl ?_
    have f4 := H.1
    replace H := H.2
    refine s_getf (c := 6) (k := 3) (t := 2) (j := 3) dX6_writeScheme_14 fl_X6_9 (by decide) (by decide) rfl rfl f4 ?_
    refine s_aload_n dX6_writeScheme_17 rfl rfl ?_
    refine s_getf (c := 6) (k := 7) (t := 2) (j := 7) dX6_writeScheme_18 fl_X6_26 (by decide) (by decide) rfl rfl f4 ?_
    refine s_iload_n dX6_writeScheme_21 rfl rfl ?_
    have f5 := H.1
    replace H := H.2
    refine s_iald dX6_writeScheme_22 f5 ?_
    have f6 := H.1
    replace H := H.2
    refine s_iald dX6_writeScheme_23 f6 ?_
    refine s_aload_n dX6_writeScheme_24 rfl rfl ?_
    refine s_getf (c := 6) (k := 4) (t := 2) (j := 4) dX6_writeScheme_25 fl_X6_15 (by decide) (by decide) rfl rfl f4 ?_
    refine s_aload_n dX6_writeScheme_28 rfl rfl ?_
    refine s_getf (c := 6) (k := 7) (t := 2) (j := 7) dX6_writeScheme_29 fl_X6_26 (by decide) (by decide) rfl rfl f4 ?_
    refine s_iload_n dX6_writeScheme_32 rfl rfl ?_
    refine s_iald dX6_writeScheme_33 f5 ?_
    have f7 := H.1
    replace H := H.2
    refine s_iald dX6_writeScheme_34 f7 ?_
    refine s_iconst dX6_writeScheme_35 ?_
    have f11 := H.1
    replace H := H.2
    refine s_callV (M' := MX4_append) (As := [vI (h (h a0 3) (h (h a0 7) a3)), vI (h (h a0 4) (h (h a0 7) a3)), vI 0]) (a := a1) (st := []) dX6_writeScheme_36 ml_X6_134 cv_X4_append rfl rfl (Nat.le_of_ble_eq_true rfl) ⟨Nat.le_refl _, Nat.le_refl _⟩ f11 (R_mono (fun r8 G9 h10 H => ?_) H)
    show S l MX6_writeScheme (d + 1, 0, 0, 0, 0) 39 [some (vR a0), some (vR a1), some (vI a2), some (vI a3), none, none, none] [] G9 h10 Q
    refine s_iinc dX6_writeScheme_39 rfl (by decide) rfl ?_
    show S l MX6_writeScheme (d + 1, 0, 0, 0, 0) 42 [some (vR a0), some (vR a1), some (vI a2), some (vI (a3 + 1)), none, none, none] [] G9 h10 Q
    refine s_goto (tgt := 7) dX6_writeScheme_42 (by decide) ?_
    exact S_cut (by first | exact ⟨rfl, ⟨rfl, ⟨rfl, ⟨rfl, trivial⟩⟩⟩⟩ | simp [lsub]) H
set_option maxHeartbeats 4000000 in
set_option maxRecDepth 100000 in
theorem vX6_writeScheme_47 {l : Launch} {d : Nat} {G : GS} {h : HP} {Q : Int → GS → HP → Prop} (a0 a1 a2 a3 : Int) (H : (ty G a1 = 4) ∧ (inA G 10 (h a1 1) 2) ∧ (inR a3) ∧ (inR (h (h a1 1) 2)) ∧ (((h (h a1 1) 2) ≤ a3 → Q 0 G h) ∧ (a3 < (h (h a1 1) 2) → (ty G a0 = 6) ∧ R l MX6_sliceOf d 0 0 [vR a0, vR a1, vI a3] G h (fun r7 G8 h9 => (ty G8 (h a0 2) = 0) ∧ R l MX0_blendOf d 0 0 [vR (h a0 2), vI r7] G8 h9 (fun r10 G11 h12 => S l MX6_writeScheme (d + 1, 0, 0, 0, 0) 75 [some (vR a0), some (vR a1), some (vI a2), some (vI a3), some (vI r10), some (vI 0), none] [] G11 h12 Q))))) : S l MX6_writeScheme (d + 1, 0, 0, 0, 0) 47 [some (vR a0), some (vR a1), some (vI a2), some (vI a3), none, none, none] [] G h Q := by
  refine s_iload_n dX6_writeScheme_47 rfl rfl ?_
  refine s_aload_n dX6_writeScheme_48 rfl rfl ?_
  have f1 := H.1
  replace H := H.2
  refine s_getf (c := 4) (k := 1) (t := 2) (j := 1) dX6_writeScheme_49 fl_X6_45 (by decide) (by decide) rfl rfl f1 ?_
  refine s_iconst dX6_writeScheme_52 ?_
  have f2 := H.1
  replace H := H.2
  refine s_iald dX6_writeScheme_53 f2 ?_
  have f3 := H.1
  replace H := H.2
  have f4 := H.1
  replace H := H.2
  refine s_icmp_ge (tgt := 130) dX6_writeScheme_54 (by decide) f3 f4 (fun c5 => ?_) (fun c5 => ?_)
  · replace H := H.1 c5
    exact s_vret dX6_writeScheme_130 rfl ⟨Nat.le_refl _, Nat.le_refl _⟩ H
  · replace H := H.2 c5
    refine s_aload_n dX6_writeScheme_57 rfl rfl ?_
    have f6 := H.1
    replace H := H.2
    refine s_getf (c := 6) (k := 2) (t := 2) (j := 2) dX6_writeScheme_58 fl_X6_42 (by decide) (by decide) rfl rfl f6 ?_
    refine s_aload_n dX6_writeScheme_61 rfl rfl ?_
    refine s_aload_n dX6_writeScheme_62 rfl rfl ?_
    refine s_iload_n dX6_writeScheme_63 rfl rfl ?_
    refine s_callV (M' := MX6_sliceOf) (As := [vR a1, vI a3]) (a := a0) (st := [vR (h a0 2)]) dX6_writeScheme_64 ml_X6_83 cv_X6_sliceOf rfl rfl (Nat.le_of_ble_eq_true rfl) ⟨Nat.le_refl _, Nat.le_refl _⟩ f6 (R_mono (fun r7 G8 h9 H => ?_) H)
    show S l MX6_writeScheme (d + 1, 0, 0, 0, 0) 67 [some (vR a0), some (vR a1), some (vI a2), some (vI a3), none, none, none] [vI r7, vR (h a0 2)] G8 h9 Q
    have f13 := H.1
    replace H := H.2
    refine s_callV (M' := MX0_blendOf) (As := [vI r7]) (a := h a0 2) (st := []) dX6_writeScheme_67 ml_X6_138 cv_X0_blendOf rfl rfl (Nat.le_of_ble_eq_true rfl) ⟨Nat.le_refl _, Nat.le_refl _⟩ f13 (R_mono (fun r10 G11 h12 H => ?_) H)
    show S l MX6_writeScheme (d + 1, 0, 0, 0, 0) 70 [some (vR a0), some (vR a1), some (vI a2), some (vI a3), none, none, none] [vI r10] G11 h12 Q
    refine s_istore dX6_writeScheme_70 (by decide) rfl ?_
    show S l MX6_writeScheme (d + 1, 0, 0, 0, 0) 72 [some (vR a0), some (vR a1), some (vI a2), some (vI a3), some (vI r10), none, none] [] G11 h12 Q
    refine s_iconst dX6_writeScheme_72 ?_
    refine s_istore dX6_writeScheme_73 (by decide) rfl ?_
    show S l MX6_writeScheme (d + 1, 0, 0, 0, 0) 75 [some (vR a0), some (vR a1), some (vI a2), some (vI a3), some (vI r10), some (vI 0), none] [] G11 h12 Q
    exact S_cut (by first | exact ⟨rfl, ⟨rfl, ⟨rfl, ⟨rfl, ⟨rfl, ⟨rfl, trivial⟩⟩⟩⟩⟩⟩ | simp [lsub]) H
set_option maxHeartbeats 4000000 in
set_option maxRecDepth 100000 in
theorem vX6_writeScheme_75 {l : Launch} {d : Nat} {G : GS} {h : HP} {Q : Int → GS → HP → Prop} (a0 a1 a2 a3 a4 a5 : Int) (H : (inR a5) ∧ (inR a2) ∧ ((a2 ≤ a5 → S l MX6_writeScheme (d + 1, 0, 0, 0, 0) 47 [some (vR a0), some (vR a1), some (vI a2), some (vI (a3 + 1)), none, none, none] [] G h Q) ∧ (a5 < a2 → (ty G a0 = 6) ∧ (ty G a1 = 4) ∧ R l MX4_rowOf d 0 0 [vR a1, vI 2, vI a5] G h (fun r5 G6 h7 => (ty G6 a0 = 6) ∧ (ty G6 (h7 a0 0) = 1) ∧ R l MX1_number d 0 0 [vR (h7 a0 0), vI a4, vI a5] G6 h7 (fun r10 G11 h12 => (ty G11 (h a0 0) = 1) ∧ R l MX1_withNumber d 0 0 [vR (h a0 0), vI r5, vI a3, vI r10] G11 h12 (fun r14 G15 h16 => (ty G15 a1 = 4) ∧ R l MX4_put d 0 0 [vR a1, vI 2, vI a5, vI r14] G15 h16 (fun r18 G19 h20 => S l MX6_writeScheme (d + 1, 0, 0, 0, 0) 75 [some (vR a0), some (vR a1), some (vI a2), some (vI a3), some (vI a4), some (vI (a5 + 1)), none] [] G19 h20 Q))))))) : S l MX6_writeScheme (d + 1, 0, 0, 0, 0) 75 [some (vR a0), some (vR a1), some (vI a2), some (vI a3), some (vI a4), some (vI a5), none] [] G h Q := by
  refine s_iload dX6_writeScheme_75 rfl ?_
  refine s_iload_n dX6_writeScheme_77 rfl rfl ?_
  have f1 := H.1
  replace H := H.2
  have f2 := H.1
  replace H := H.2
  refine s_icmp_ge (tgt := 124) dX6_writeScheme_78 (by decide) f1 f2 (fun c3 => ?_) (fun c3 => ?_)
  · replace H := H.1 c3
    refine s_iinc dX6_writeScheme_124 rfl (by decide) rfl ?_
    show S l MX6_writeScheme (d + 1, 0, 0, 0, 0) 127 [some (vR a0), some (vR a1), some (vI a2), some (vI (a3 + 1)), some (vI a4), some (vI a5), none] [] G h Q
    refine s_goto (tgt := 47) dX6_writeScheme_127 (by decide) ?_
    exact S_cut (by first | exact ⟨rfl, ⟨rfl, ⟨rfl, ⟨rfl, trivial⟩⟩⟩⟩ | simp [lsub]) H
  · replace H := H.2 c3
    refine s_aload_n dX6_writeScheme_81 rfl rfl ?_
    have f4 := H.1
    replace H := H.2
    refine s_getf (c := 6) (k := 0) (t := 2) (j := 0) dX6_writeScheme_82 fl_X6_29 (by decide) (by decide) rfl rfl f4 ?_
    refine s_aload_n dX6_writeScheme_85 rfl rfl ?_
    refine s_iconst dX6_writeScheme_86 ?_
    refine s_iload dX6_writeScheme_87 rfl ?_
    have f8 := H.1
    replace H := H.2
    refine s_callV (M' := MX4_rowOf) (As := [vI 2, vI a5]) (a := a1) (st := [vR (h a0 0)]) dX6_writeScheme_89 ml_X6_141 cv_X4_rowOf rfl rfl (Nat.le_of_ble_eq_true rfl) ⟨Nat.le_refl _, Nat.le_refl _⟩ f8 (R_mono (fun r5 G6 h7 H => ?_) H)
    show S l MX6_writeScheme (d + 1, 0, 0, 0, 0) 92 [some (vR a0), some (vR a1), some (vI a2), some (vI a3), some (vI a4), some (vI a5), none] [vI r5, vR (h a0 0)] G6 h7 Q
    refine s_iload_n dX6_writeScheme_92 rfl rfl ?_
    refine s_aload_n dX6_writeScheme_93 rfl rfl ?_
    have f9 := H.1
    replace H := H.2
    refine s_getf (c := 6) (k := 0) (t := 2) (j := 0) dX6_writeScheme_94 fl_X6_29 (by decide) (by decide) rfl rfl f9 ?_
    refine s_iload dX6_writeScheme_97 rfl ?_
    refine s_iload dX6_writeScheme_99 rfl ?_
    have f13 := H.1
    replace H := H.2
    refine s_callV (M' := MX1_number) (As := [vI a4, vI a5]) (a := h7 a0 0) (st := [vI a3, vI r5, vR (h a0 0)]) dX6_writeScheme_101 ml_X6_125 cv_X1_number rfl rfl (Nat.le_of_ble_eq_true rfl) ⟨Nat.le_refl _, Nat.le_refl _⟩ f13 (R_mono (fun r10 G11 h12 H => ?_) H)
    show S l MX6_writeScheme (d + 1, 0, 0, 0, 0) 104 [some (vR a0), some (vR a1), some (vI a2), some (vI a3), some (vI a4), some (vI a5), none] [vI r10, vI a3, vI r5, vR (h a0 0)] G11 h12 Q
    have f17 := H.1
    replace H := H.2
    refine s_callV (M' := MX1_withNumber) (As := [vI r5, vI a3, vI r10]) (a := h a0 0) (st := []) dX6_writeScheme_104 ml_X6_144 cv_X1_withNumber rfl rfl (Nat.le_of_ble_eq_true rfl) ⟨Nat.le_refl _, Nat.le_refl _⟩ f17 (R_mono (fun r14 G15 h16 H => ?_) H)
    show S l MX6_writeScheme (d + 1, 0, 0, 0, 0) 107 [some (vR a0), some (vR a1), some (vI a2), some (vI a3), some (vI a4), some (vI a5), none] [vI r14] G15 h16 Q
    refine s_istore dX6_writeScheme_107 (by decide) rfl ?_
    show S l MX6_writeScheme (d + 1, 0, 0, 0, 0) 109 [some (vR a0), some (vR a1), some (vI a2), some (vI a3), some (vI a4), some (vI a5), some (vI r14)] [] G15 h16 Q
    refine s_aload_n dX6_writeScheme_109 rfl rfl ?_
    refine s_iconst dX6_writeScheme_110 ?_
    refine s_iload dX6_writeScheme_111 rfl ?_
    refine s_iload dX6_writeScheme_113 rfl ?_
    have f21 := H.1
    replace H := H.2
    refine s_callV (M' := MX4_put) (As := [vI 2, vI a5, vI r14]) (a := a1) (st := []) dX6_writeScheme_115 ml_X6_147 cv_X4_put rfl rfl (Nat.le_of_ble_eq_true rfl) ⟨Nat.le_refl _, Nat.le_refl _⟩ f21 (R_mono (fun r18 G19 h20 H => ?_) H)
    show S l MX6_writeScheme (d + 1, 0, 0, 0, 0) 118 [some (vR a0), some (vR a1), some (vI a2), some (vI a3), some (vI a4), some (vI a5), some (vI r14)] [] G19 h20 Q
    refine s_iinc dX6_writeScheme_118 rfl (by decide) rfl ?_
    show S l MX6_writeScheme (d + 1, 0, 0, 0, 0) 121 [some (vR a0), some (vR a1), some (vI a2), some (vI a3), some (vI a4), some (vI (a5 + 1)), some (vI r14)] [] G19 h20 Q
    refine s_goto (tgt := 75) dX6_writeScheme_121 (by decide) ?_
    exact S_cut (by first | exact ⟨rfl, ⟨rfl, ⟨rfl, ⟨rfl, ⟨rfl, ⟨rfl, trivial⟩⟩⟩⟩⟩⟩ | simp [lsub]) H
