set_option maxHeartbeats 4000000 in
set_option maxRecDepth 100000 in
theorem vX7_plainSums_0 {l : Launch} {d : Nat} {G : GS} {h : HP} {Q : Int → GS → HP → Prop} (a0 a1 a2 : Int) (H : (ty G a0 = 7) ∧ R l MX7_load d 0 0 [vR a0, vR a1, vI a2] G h (fun r1 G2 h3 => (ty G2 a0 = 7) ∧ R l MX7_sumsOfLists d 0 0 [vR a0] G2 h3 (fun r5 G6 h7 => Q r5 G6 h7))) : S l MX7_plainSums (d + 1, 0, 0, 0, 0) 0 [some (vR a0), some (vR a1), some (vI a2)] [] G h Q := by
  refine s_aload_n dX7_plainSums_0 rfl rfl ?_
  refine s_aload_n dX7_plainSums_1 rfl rfl ?_
  refine s_iload_n dX7_plainSums_2 rfl rfl ?_
  have f4 := H.1
  replace H := H.2
  refine s_callV (M' := MX7_load) (As := [vR a1, vI a2]) (a := a0) (st := []) dX7_plainSums_3 ml_X7_28 cv_X7_load rfl rfl (Nat.le_of_ble_eq_true rfl) ⟨Nat.le_refl _, Nat.le_refl _⟩ f4 (R_mono (fun r1 G2 h3 H => ?_) H)
  show S l MX7_plainSums (d + 1, 0, 0, 0, 0) 6 [some (vR a0), some (vR a1), some (vI a2)] [] G2 h3 Q
  refine s_aload_n dX7_plainSums_6 rfl rfl ?_
  have f8 := H.1
  replace H := H.2
  refine s_callV (M' := MX7_sumsOfLists) (As := []) (a := a0) (st := []) dX7_plainSums_7 ml_X7_32 cv_X7_sumsOfLists rfl rfl (Nat.le_of_ble_eq_true rfl) ⟨Nat.le_refl _, Nat.le_refl _⟩ f8 (R_mono (fun r5 G6 h7 H => ?_) H)
  show S l MX7_plainSums (d + 1, 0, 0, 0, 0) 10 [some (vR a0), some (vR a1), some (vI a2)] [vI r5] G6 h7 Q
  exact s_iret dX7_plainSums_10 rfl ⟨Nat.le_refl _, Nat.le_refl _⟩ H
set_option maxHeartbeats 4000000 in
set_option maxRecDepth 100000 in
theorem vX7_load_0 {l : Launch} {d : Nat} {G : GS} {h : HP} {Q : Int → GS → HP → Prop} (a0 a1 a2 : Int) (H : (ty G a1 = 4) ∧ (ty G a0 = 7) ∧ ∀ h3 : HP, h3 = hset h a0 5 (h a1 6) → (inA G 10 (h3 a1 1) a2) ∧ ∀ h5 : HP, h5 = hset h3 a0 6 (h3 (h3 a1 1) a2) → S l MX7_load (d + 1, 0, 0, 0, 0) 20 [some (vR a0), some (vR a1), some (vI a2), some (vI 0), none, none] [] G h5 Q) : S l MX7_load (d + 1, 0, 0, 0, 0) 0 [some (vR a0), some (vR a1), some (vI a2), none, none, none] [] G h Q := by
  refine s_aload_n dX7_load_0 rfl rfl ?_
  refine s_aload_n dX7_load_1 rfl rfl ?_
  have f1 := H.1
  replace H := H.2
  refine s_getf (c := 4) (k := 6) (t := 0) (j := 6) dX7_load_2 fl_X7_43 (by decide) (by decide) rfl rfl f1 ?_
  have f2 := H.1
  replace H := H.2
  refine s_putI (c := 7) (k := 5) (j := 5) dX7_load_5 fl_X7_49 (by decide) (by decide) rfl rfl rfl f2 (fun h3 eh3 => ?_)
  replace H := H h3 eh3
  refine s_aload_n dX7_load_8 rfl rfl ?_
  refine s_aload_n dX7_load_9 rfl rfl ?_
  refine s_getf (c := 4) (k := 1) (t := 2) (j := 1) dX7_load_10 fl_X7_52 (by decide) (by decide) rfl rfl f1 ?_
  refine s_iload_n dX7_load_13 rfl rfl ?_
  have f4 := H.1
  replace H := H.2
  refine s_iald dX7_load_14 f4 ?_
  refine s_putI (c := 7) (k := 6) (j := 6) dX7_load_15 fl_X7_55 (by decide) (by decide) rfl rfl rfl f2 (fun h5 eh5 => ?_)
  replace H := H h5 eh5
  refine s_iconst dX7_load_18 ?_
  refine s_istore_n dX7_load_19 rfl (by decide) rfl ?_
  show S l MX7_load (d + 1, 0, 0, 0, 0) 20 [some (vR a0), some (vR a1), some (vI a2), some (vI 0), none, none] [] G h5 Q
  exact S_cut (by first | exact ⟨rfl, ⟨rfl, ⟨rfl, ⟨rfl, trivial⟩⟩⟩⟩ | simp [lsub]) H
set_option maxHeartbeats 4000000 in
set_option maxRecDepth 100000 in
theorem vX7_load_20 {l : Launch} {d : Nat} {G : GS} {h : HP} {Q : Int → GS → HP → Prop} (a0 a1 a2 a3 : Int) (H : (ty G a0 = 7) ∧ (inR a3) ∧ (inR (h a0 5)) ∧ (((h a0 5) ≤ a3 → Q 0 G h) ∧ (a3 < (h a0 5) → (inA G 10 (h a0 3) a3) ∧ ∀ h6 : HP, h6 = hset h (h a0 3) a3 0 → S l MX7_load (d + 1, 0, 0, 0, 0) 38 [some (vR a0), some (vR a1), some (vI a2), some (vI a3), some (vI 0), none] [] G h6 Q))) : S l MX7_load (d + 1, 0, 0, 0, 0) 20 [some (vR a0), some (vR a1), some (vI a2), some (vI a3), none, none] [] G h Q := by
  refine s_iload_n dX7_load_20 rfl rfl ?_
  refine s_aload_n dX7_load_21 rfl rfl ?_
  have f1 := H.1
  replace H := H.2
  refine s_getf (c := 7) (k := 5) (t := 0) (j := 5) dX7_load_22 fl_X7_49 (by decide) (by decide) rfl rfl f1 ?_
  have f2 := H.1
  replace H := H.2
  have f3 := H.1
  replace H := H.2
  refine s_icmp_ge (tgt := 90) dX7_load_25 (by decide) f2 f3 (fun c4 => ?_) (fun c4 => ?_)
  · replace H := H.1 c4
    exact s_vret dX7_load_90 rfl ⟨Nat.le_refl _, Nat.le_refl _⟩ H
  · replace H := H.2 c4
    refine s_aload_n dX7_load_28 rfl rfl ?_
    refine s_getf (c := 7) (k := 3) (t := 2) (j := 3) dX7_load_29 fl_X7_18 (by decide) (by decide) rfl rfl f1 ?_
    refine s_iload_n dX7_load_32 rfl rfl ?_
    refine s_iconst dX7_load_33 ?_
    have f5 := H.1
    replace H := H.2
    refine s_iastH dX7_load_34 f5 (fun h6 eh6 => ?_)
    replace H := H h6 eh6
    refine s_iconst dX7_load_35 ?_
    refine s_istore dX7_load_36 (by decide) rfl ?_
    show S l MX7_load (d + 1, 0, 0, 0, 0) 38 [some (vR a0), some (vR a1), some (vI a2), some (vI a3), some (vI 0), none] [] G h6 Q
    exact S_cut (by first | exact ⟨rfl, ⟨rfl, ⟨rfl, ⟨rfl, ⟨rfl, trivial⟩⟩⟩⟩⟩ | simp [lsub]) H
set_option maxHeartbeats 4000000 in
set_option maxRecDepth 100000 in
theorem vX7_load_38 {l : Launch} {d : Nat} {G : GS} {h : HP} {Q : Int → GS → HP → Prop} (a0 a1 a2 a3 a4 : Int) (H : (ty G a0 = 7) ∧ (inR a4) ∧ (inR (h a0 6)) ∧ (((h a0 6) ≤ a4 → S l MX7_load (d + 1, 0, 0, 0, 0) 20 [some (vR a0), some (vR a1), some (vI a2), some (vI (a3 + 1)), none, none] [] G h Q) ∧ (a4 < (h a0 6) → (ty G a1 = 4) ∧ R l MX4_rowOf d 0 0 [vR a1, vI a2, vI a3] G h (fun r5 G6 h7 => (ty G6 (h a0 0) = 1) ∧ R l MX1_number d 0 0 [vR (h a0 0), vI r5, vI a4] G6 h7 (fun r9 G10 h11 => (inR r9) ∧ ((r9 = 0 → S l MX7_load (d + 1, 0, 0, 0, 0) 38 [some (vR a0), some (vR a1), some (vI a2), some (vI a3), some (vI (a4 + 1)), none] [] G10 h11 Q) ∧ (r9 ≠ 0 → (ty G10 a0 = 7) ∧ R l MX7_append d 0 0 [vR a0, vI a3, vI a4, vI r9] G10 h11 (fun r15 G16 h17 => S l MX7_load (d + 1, 0, 0, 0, 0) 38 [some (vR a0), some (vR a1), some (vI a2), some (vI a3), some (vI (a4 + 1)), none] [] G16 h17 Q)))))))) : S l MX7_load (d + 1, 0, 0, 0, 0) 38 [some (vR a0), some (vR a1), some (vI a2), some (vI a3), some (vI a4), none] [] G h Q := by
  refine s_iload dX7_load_38 rfl ?_
  refine s_aload_n dX7_load_40 rfl rfl ?_
  have f1 := H.1
  replace H := H.2
  refine s_getf (c := 7) (k := 6) (t := 0) (j := 6) dX7_load_41 fl_X7_55 (by decide) (by decide) rfl rfl f1 ?_
  have f2 := H.1
  replace H := H.2
  have f3 := H.1
  replace H := H.2
  refine s_icmp_ge (tgt := 84) dX7_load_44 (by decide) f2 f3 (fun c4 => ?_) (fun c4 => ?_)
  · replace H := H.1 c4
    refine s_iinc dX7_load_84 rfl (by decide) rfl ?_
    show S l MX7_load (d + 1, 0, 0, 0, 0) 87 [some (vR a0), some (vR a1), some (vI a2), some (vI (a3 + 1)), some (vI a4), none] [] G h Q
    refine s_goto (tgt := 20) dX7_load_87 (by decide) ?_
    exact S_cut (by first | exact ⟨rfl, ⟨rfl, ⟨rfl, ⟨rfl, trivial⟩⟩⟩⟩ | simp [lsub]) H
  · replace H := H.2 c4
    refine s_aload_n dX7_load_47 rfl rfl ?_
    refine s_getf (c := 7) (k := 0) (t := 2) (j := 0) dX7_load_48 fl_X7_24 (by decide) (by decide) rfl rfl f1 ?_
    refine s_aload_n dX7_load_51 rfl rfl ?_
    refine s_iload_n dX7_load_52 rfl rfl ?_
    refine s_iload_n dX7_load_53 rfl rfl ?_
    have f8 := H.1
    replace H := H.2
    refine s_callV (M' := MX4_rowOf) (As := [vI a2, vI a3]) (a := a1) (st := [vR (h a0 0)]) dX7_load_54 ml_X7_58 cv_X4_rowOf rfl rfl (Nat.le_of_ble_eq_true rfl) ⟨Nat.le_refl _, Nat.le_refl _⟩ f8 (R_mono (fun r5 G6 h7 H => ?_) H)
    show S l MX7_load (d + 1, 0, 0, 0, 0) 57 [some (vR a0), some (vR a1), some (vI a2), some (vI a3), some (vI a4), none] [vI r5, vR (h a0 0)] G6 h7 Q
    refine s_iload dX7_load_57 rfl ?_
    have f12 := H.1
    replace H := H.2
    refine s_callV (M' := MX1_number) (As := [vI r5, vI a4]) (a := h a0 0) (st := []) dX7_load_59 ml_X7_62 cv_X1_number rfl rfl (Nat.le_of_ble_eq_true rfl) ⟨Nat.le_refl _, Nat.le_refl _⟩ f12 (R_mono (fun r9 G10 h11 H => ?_) H)
    show S l MX7_load (d + 1, 0, 0, 0, 0) 62 [some (vR a0), some (vR a1), some (vI a2), some (vI a3), some (vI a4), none] [vI r9] G10 h11 Q
    refine s_istore dX7_load_62 (by decide) rfl ?_
    show S l MX7_load (d + 1, 0, 0, 0, 0) 64 [some (vR a0), some (vR a1), some (vI a2), some (vI a3), some (vI a4), some (vI r9)] [] G10 h11 Q
    refine s_iload dX7_load_64 rfl ?_
    have f13 := H.1
    replace H := H.2
    refine s_if_eq (tgt := 78) dX7_load_66 (by decide) f13 (fun c14 => ?_) (fun c14 => ?_)
    · replace H := H.1 c14
      refine s_iinc dX7_load_78 rfl (by decide) rfl ?_
      show S l MX7_load (d + 1, 0, 0, 0, 0) 81 [some (vR a0), some (vR a1), some (vI a2), some (vI a3), some (vI (a4 + 1)), some (vI r9)] [] G10 h11 Q
      refine s_goto (tgt := 38) dX7_load_81 (by decide) ?_
      exact S_cut (by first | exact ⟨rfl, ⟨rfl, ⟨rfl, ⟨rfl, ⟨rfl, trivial⟩⟩⟩⟩⟩ | simp [lsub]) H
    · replace H := H.2 c14
      refine s_aload_n dX7_load_69 rfl rfl ?_
      refine s_iload_n dX7_load_70 rfl rfl ?_
      refine s_iload dX7_load_71 rfl ?_
      refine s_iload dX7_load_73 rfl ?_
      have f18 := H.1
      replace H := H.2
      refine s_callV (M' := MX7_append) (As := [vI a3, vI a4, vI r9]) (a := a0) (st := []) dX7_load_75 ml_X7_67 cv_X7_append rfl rfl (Nat.le_of_ble_eq_true rfl) ⟨Nat.le_refl _, Nat.le_refl _⟩ f18 (R_mono (fun r15 G16 h17 H => ?_) H)
      show S l MX7_load (d + 1, 0, 0, 0, 0) 78 [some (vR a0), some (vR a1), some (vI a2), some (vI a3), some (vI a4), some (vI r9)] [] G16 h17 Q
      refine s_iinc dX7_load_78 rfl (by decide) rfl ?_
      show S l MX7_load (d + 1, 0, 0, 0, 0) 81 [some (vR a0), some (vR a1), some (vI a2), some (vI a3), some (vI (a4 + 1)), some (vI r9)] [] G16 h17 Q
      refine s_goto (tgt := 38) dX7_load_81 (by decide) ?_
      exact S_cut (by first | exact ⟨rfl, ⟨rfl, ⟨rfl, ⟨rfl, ⟨rfl, trivial⟩⟩⟩⟩⟩ | simp [lsub]) H
set_option maxHeartbeats 4000000 in
set_option maxRecDepth 100000 in
theorem vX7_append_0 {l : Launch} {d : Nat} {G : GS} {h : HP} {Q : Int → GS → HP → Prop} (a0 a1 a2 a3 : Int) (H : (ty G a0 = 7) ∧ (inA G 10 (h a0 3) a1) ∧ (inA G 10 (h a0 1) ((9 * a1) + (h (h a0 3) a1))) ∧ ∀ h4 : HP, h4 = hset h (h a0 1) ((9 * a1) + (h (h a0 3) a1)) a2 → (inA G 10 (h4 a0 2) ((9 * a1) + (h (h a0 3) a1))) ∧ ∀ h6 : HP, h6 = hset h4 (h4 a0 2) ((9 * a1) + (h (h a0 3) a1)) a3 → (inA G 10 (h6 a0 3) a1) ∧ ∀ h8 : HP, h8 = hset h6 (h6 a0 3) a1 ((h6 (h6 a0 3) a1) + 1) → Q 0 G h8) : S l MX7_append (d, 0, 0, 0, 0) 0 [some (vR a0), some (vI a1), some (vI a2), some (vI a3), none] [] G h Q := by
  refine s_bipush dX7_append_0 (by decide) ?_
  refine s_iload_n dX7_append_2 rfl rfl ?_
  refine s_imul dX7_append_3 ?_
  refine s_aload_n dX7_append_4 rfl rfl ?_
  have f1 := H.1
  replace H := H.2
  refine s_getf (c := 7) (k := 3) (t := 2) (j := 3) dX7_append_5 fl_X7_18 (by decide) (by decide) rfl rfl f1 ?_
  refine s_iload_n dX7_append_8 rfl rfl ?_
  have f2 := H.1
  replace H := H.2
  refine s_iald dX7_append_9 f2 ?_
  refine s_iadd dX7_append_10 ?_
  refine s_istore dX7_append_11 (by decide) rfl ?_
  show S l MX7_append (d, 0, 0, 0, 0) 13 [some (vR a0), some (vI a1), some (vI a2), some (vI a3), some (vI ((9 * a1) + (h (h a0 3) a1)))] [] G h Q
  refine s_aload_n dX7_append_13 rfl rfl ?_
  refine s_getf (c := 7) (k := 1) (t := 2) (j := 1) dX7_append_14 fl_X7_9 (by decide) (by decide) rfl rfl f1 ?_
  refine s_iload dX7_append_17 rfl ?_
  refine s_iload_n dX7_append_19 rfl rfl ?_
  have f3 := H.1
  replace H := H.2
  refine s_iastH dX7_append_20 f3 (fun h4 eh4 => ?_)
  replace H := H h4 eh4
  refine s_aload_n dX7_append_21 rfl rfl ?_
  refine s_getf (c := 7) (k := 2) (t := 2) (j := 2) dX7_append_22 fl_X7_15 (by decide) (by decide) rfl rfl f1 ?_
  refine s_iload dX7_append_25 rfl ?_
  refine s_iload_n dX7_append_27 rfl rfl ?_
  have f5 := H.1
  replace H := H.2
  refine s_iastH dX7_append_28 f5 (fun h6 eh6 => ?_)
  replace H := H h6 eh6
  refine s_aload_n dX7_append_29 rfl rfl ?_
  refine s_getf (c := 7) (k := 3) (t := 2) (j := 3) dX7_append_30 fl_X7_18 (by decide) (by decide) rfl rfl f1 ?_
  refine s_iload_n dX7_append_33 rfl rfl ?_
  refine s_dup2 dX7_append_34 rfl rfl ?_
  have f7 := H.1
  replace H := H.2
  refine s_iald dX7_append_35 f7 ?_
  refine s_iconst dX7_append_36 ?_
  refine s_iadd dX7_append_37 ?_
  refine s_iastH dX7_append_38 f7 (fun h8 eh8 => ?_)
  replace H := H h8 eh8
  exact s_vret dX7_append_39 rfl ⟨Nat.le_refl _, Nat.le_refl _⟩ H
set_option maxHeartbeats 4000000 in
set_option maxRecDepth 100000 in
theorem vX7_sumsOfLists_0 {l : Launch} {d : Nat} {G : GS} {h : HP} {Q : Int → GS → HP → Prop} (a0 : Int) (H : S l MX7_sumsOfLists (d + 1, 0, 0, 0, 0) 4 [some (vR a0), some (vI 0), some (vI 0)] [] G h Q) : S l MX7_sumsOfLists (d + 1, 0, 0, 0, 0) 0 [some (vR a0), none, none] [] G h Q := by
  refine s_iconst dX7_sumsOfLists_0 ?_
  refine s_istore_n dX7_sumsOfLists_1 rfl (by decide) rfl ?_
  show S l MX7_sumsOfLists (d + 1, 0, 0, 0, 0) 2 [some (vR a0), some (vI 0), none] [] G h Q
  refine s_iconst dX7_sumsOfLists_2 ?_
  refine s_istore_n dX7_sumsOfLists_3 rfl (by decide) rfl ?_
  show S l MX7_sumsOfLists (d + 1, 0, 0, 0, 0) 4 [some (vR a0), some (vI 0), some (vI 0)] [] G h Q
  exact S_cut (by first | exact ⟨rfl, ⟨rfl, ⟨rfl, trivial⟩⟩⟩ | simp [lsub]) H
set_option maxHeartbeats 4000000 in
set_option maxRecDepth 100000 in
theorem vX7_sumsOfLists_4 {l : Launch} {d : Nat} {G : GS} {h : HP} {Q : Int → GS → HP → Prop} (a0 a1 a2 : Int) (H : (ty G a0 = 7) ∧ (inR a2) ∧ (inR (h a0 5)) ∧ (((h a0 5) ≤ a2 → Q a1 G h) ∧ (a2 < (h a0 5) → (inA G 10 (h a0 3) a2) ∧ (inR ((h (h a0 3) a2) - 1)) ∧ S l MX7_sumsOfLists (d + 1, 0, 0, 0, 0) 4 [some (vR a0), some (vI (a1 + (if 0 < ((h (h a0 3) a2) - 1) then ((h (h a0 3) a2) - 1) else 0))), some (vI (a2 + 1))] [] G h Q))) : S l MX7_sumsOfLists (d + 1, 0, 0, 0, 0) 4 [some (vR a0), some (vI a1), some (vI a2)] [] G h Q := by
  refine s_iload_n dX7_sumsOfLists_4 rfl rfl ?_
  refine s_aload_n dX7_sumsOfLists_5 rfl rfl ?_
  have f1 := H.1
  replace H := H.2
  refine s_getf (c := 7) (k := 5) (t := 0) (j := 5) dX7_sumsOfLists_6 fl_X7_49 (by decide) (by decide) rfl rfl f1 ?_
  have f2 := H.1
  replace H := H.2
  have f3 := H.1
  replace H := H.2
  refine s_icmp_ge (tgt := 33) dX7_sumsOfLists_9 (by decide) f2 f3 (fun c4 => ?_) (fun c4 => ?_)
  · replace H := H.1 c4
    refine s_iload_n dX7_sumsOfLists_33 rfl rfl ?_
    exact s_iret dX7_sumsOfLists_34 rfl ⟨Nat.le_refl _, Nat.le_refl _⟩ H
  · replace H := H.2 c4
    refine s_iload_n dX7_sumsOfLists_12 rfl rfl ?_
    refine s_iconst dX7_sumsOfLists_13 ?_
    refine s_aload_n dX7_sumsOfLists_14 rfl rfl ?_
    refine s_getf (c := 7) (k := 3) (t := 2) (j := 3) dX7_sumsOfLists_15 fl_X7_18 (by decide) (by decide) rfl rfl f1 ?_
    refine s_iload_n dX7_sumsOfLists_18 rfl rfl ?_
    have f5 := H.1
    replace H := H.2
    refine s_iald dX7_sumsOfLists_19 f5 ?_
    refine s_iconst dX7_sumsOfLists_20 ?_
    refine s_isub dX7_sumsOfLists_21 ?_
    have f6 := H.1
    replace H := H.2
    refine s_mmax dX7_sumsOfLists_22 ml_X7_71 ⟨Nat.le_refl _, Nat.le_refl _⟩ (Nat.le_of_ble_eq_true rfl) (by decide) f6 ?_
    refine s_iadd dX7_sumsOfLists_25 ?_
    refine s_istore_n dX7_sumsOfLists_26 rfl (by decide) rfl ?_
    show S l MX7_sumsOfLists (d + 1, 0, 0, 0, 0) 27 [some (vR a0), some (vI (a1 + (if 0 < ((h (h a0 3) a2) - 1) then ((h (h a0 3) a2) - 1) else 0))), some (vI a2)] [] G h Q
    refine s_iinc dX7_sumsOfLists_27 rfl (by decide) rfl ?_
    show S l MX7_sumsOfLists (d + 1, 0, 0, 0, 0) 30 [some (vR a0), some (vI (a1 + (if 0 < ((h (h a0 3) a2) - 1) then ((h (h a0 3) a2) - 1) else 0))), some (vI (a2 + 1))] [] G h Q
    refine s_goto (tgt := 4) dX7_sumsOfLists_30 (by decide) ?_
    exact S_cut (by first | exact ⟨rfl, ⟨rfl, ⟨rfl, trivial⟩⟩⟩ | simp [lsub]) H
set_option maxHeartbeats 4000000 in
set_option maxRecDepth 100000 in
theorem vX7_sharedSums_0 {l : Launch} {d : Nat} {G : GS} {h : HP} {Q : Int → GS → HP → Prop} (a0 a1 a2 : Int) (H : (ty G a0 = 7) ∧ R l MX7_load d 0 0 [vR a0, vR a1, vI a2] G h (fun r1 G2 h3 => S l MX7_sharedSums (d + 1, 0, 0, 0, 0) 8 [some (vR a0), none, none, some (vI 0)] [] G2 h3 Q)) : S l MX7_sharedSums (d + 1, 0, 0, 0, 0) 0 [some (vR a0), some (vR a1), some (vI a2), none] [] G h Q := by
  refine s_aload_n dX7_sharedSums_0 rfl rfl ?_
  refine s_aload_n dX7_sharedSums_1 rfl rfl ?_
  refine s_iload_n dX7_sharedSums_2 rfl rfl ?_
  have f4 := H.1
  replace H := H.2
  refine s_callV (M' := MX7_load) (As := [vR a1, vI a2]) (a := a0) (st := []) dX7_sharedSums_3 ml_X7_28 cv_X7_load rfl rfl (Nat.le_of_ble_eq_true rfl) ⟨Nat.le_refl _, Nat.le_refl _⟩ f4 (R_mono (fun r1 G2 h3 H => ?_) H)
  show S l MX7_sharedSums (d + 1, 0, 0, 0, 0) 6 [some (vR a0), some (vR a1), some (vI a2), none] [] G2 h3 Q
  refine s_iconst dX7_sharedSums_6 ?_
  refine s_istore_n dX7_sharedSums_7 rfl (by decide) rfl ?_
  show S l MX7_sharedSums (d + 1, 0, 0, 0, 0) 8 [some (vR a0), some (vR a1), some (vI a2), some (vI 0)] [] G2 h3 Q
  exact S_cut (by first | exact ⟨rfl, ⟨rfl, trivial⟩⟩ | simp [lsub]) H
set_option maxHeartbeats 4000000 in
set_option maxRecDepth 100000 in
theorem vX7_sharedSums_8 {l : Launch} {d : Nat} {G : GS} {h : HP} {Q : Int → GS → HP → Prop} (a0 a3 : Int) (H : (inR a3) ∧ ((40 ≤ a3 → (ty G a0 = 7) ∧ R l MX7_sumsOfLists d 0 0 [vR a0] G h (fun r3 G4 h5 => Q (a3 + r3) G4 h5)) ∧ (a3 < 40 → (ty G a0 = 7) ∧ R l MX7_seekBest d 0 0 [vR a0] G h (fun r7 G8 h9 => (inR r7) ∧ ((r7 = 0 → (ty G8 a0 = 7) ∧ R l MX7_sumsOfLists d 0 0 [vR a0] G8 h9 (fun r13 G14 h15 => Q (a3 + r13) G14 h15)) ∧ (r7 ≠ 0 → (ty G8 a0 = 7) ∧ R l MX7_takeBest d 0 0 [vR a0] G8 h9 (fun r17 G18 h19 => S l MX7_sharedSums (d + 1, 0, 0, 0, 0) 8 [some (vR a0), none, none, some (vI (a3 + 1))] [] G18 h19 Q))))))) : S l MX7_sharedSums (d + 1, 0, 0, 0, 0) 8 [some (vR a0), none, none, some (vI a3)] [] G h Q := by
  refine s_iload_n dX7_sharedSums_8 rfl rfl ?_
  refine s_bipush dX7_sharedSums_9 (by decide) ?_
  have f1 := H.1
  replace H := H.2
  refine s_icmp_ge (tgt := 31) dX7_sharedSums_11 (by decide) f1 (by decide) (fun c2 => ?_) (fun c2 => ?_)
  · replace H := H.1 c2
    refine s_iload_n dX7_sharedSums_31 rfl rfl ?_
    refine s_aload_n dX7_sharedSums_32 rfl rfl ?_
    have f6 := H.1
    replace H := H.2
    refine s_callV (M' := MX7_sumsOfLists) (As := []) (a := a0) (st := [vI a3]) dX7_sharedSums_33 ml_X7_32 cv_X7_sumsOfLists rfl rfl (Nat.le_of_ble_eq_true rfl) ⟨Nat.le_refl _, Nat.le_refl _⟩ f6 (R_mono (fun r3 G4 h5 H => ?_) H)
    show S l MX7_sharedSums (d + 1, 0, 0, 0, 0) 36 [some (vR a0), none, none, some (vI a3)] [vI r3, vI a3] G4 h5 Q
    refine s_iadd dX7_sharedSums_36 ?_
    exact s_iret dX7_sharedSums_37 rfl ⟨Nat.le_refl _, Nat.le_refl _⟩ H
  · replace H := H.2 c2
    refine s_aload_n dX7_sharedSums_14 rfl rfl ?_
    have f10 := H.1
    replace H := H.2
    refine s_callV (M' := MX7_seekBest) (As := []) (a := a0) (st := []) dX7_sharedSums_15 ml_X7_36 cv_X7_seekBest rfl rfl (Nat.le_of_ble_eq_true rfl) ⟨Nat.le_refl _, Nat.le_refl _⟩ f10 (R_mono (fun r7 G8 h9 H => ?_) H)
    show S l MX7_sharedSums (d + 1, 0, 0, 0, 0) 18 [some (vR a0), none, none, some (vI a3)] [vI r7] G8 h9 Q
    have f11 := H.1
    replace H := H.2
    refine s_if_eq (tgt := 31) dX7_sharedSums_18 (by decide) f11 (fun c12 => ?_) (fun c12 => ?_)
    · replace H := H.1 c12
      refine s_iload_n dX7_sharedSums_31 rfl rfl ?_
      refine s_aload_n dX7_sharedSums_32 rfl rfl ?_
      have f16 := H.1
      replace H := H.2
      refine s_callV (M' := MX7_sumsOfLists) (As := []) (a := a0) (st := [vI a3]) dX7_sharedSums_33 ml_X7_32 cv_X7_sumsOfLists rfl rfl (Nat.le_of_ble_eq_true rfl) ⟨Nat.le_refl _, Nat.le_refl _⟩ f16 (R_mono (fun r13 G14 h15 H => ?_) H)
      show S l MX7_sharedSums (d + 1, 0, 0, 0, 0) 36 [some (vR a0), none, none, some (vI a3)] [vI r13, vI a3] G14 h15 Q
      refine s_iadd dX7_sharedSums_36 ?_
      exact s_iret dX7_sharedSums_37 rfl ⟨Nat.le_refl _, Nat.le_refl _⟩ H
    · replace H := H.2 c12
      refine s_aload_n dX7_sharedSums_21 rfl rfl ?_
      have f20 := H.1
      replace H := H.2
      refine s_callV (M' := MX7_takeBest) (As := []) (a := a0) (st := []) dX7_sharedSums_22 ml_X7_40 cv_X7_takeBest rfl rfl (Nat.le_of_ble_eq_true rfl) ⟨Nat.le_refl _, Nat.le_refl _⟩ f20 (R_mono (fun r17 G18 h19 H => ?_) H)
      show S l MX7_sharedSums (d + 1, 0, 0, 0, 0) 25 [some (vR a0), none, none, some (vI a3)] [] G18 h19 Q
      refine s_iinc dX7_sharedSums_25 rfl (by decide) rfl ?_
      show S l MX7_sharedSums (d + 1, 0, 0, 0, 0) 28 [some (vR a0), none, none, some (vI (a3 + 1))] [] G18 h19 Q
      refine s_goto (tgt := 8) dX7_sharedSums_28 (by decide) ?_
      exact S_cut (by first | exact ⟨rfl, ⟨rfl, trivial⟩⟩ | simp [lsub]) H
set_option maxHeartbeats 4000000 in
set_option maxRecDepth 100000 in
theorem vX7_seekBest_0 {l : Launch} {d : Nat} {G : GS} {h : HP} {Q : Int → GS → HP → Prop} (a0 : Int) (H : (ty G a0 = 7) ∧ ∀ h2 : HP, h2 = hset h a0 7 1 → ∀ h3 : HP, h3 = hset h2 a0 8 ((-1)) → ∀ h4 : HP, h4 = hset h3 a0 9 ((-1)) → S l MX7_seekBest (d + 1, 0, 0, 0, 0) 17 [some (vR a0), some (vI 0), none, none] [] G h4 Q) : S l MX7_seekBest (d + 1, 0, 0, 0, 0) 0 [some (vR a0), none, none, none] [] G h Q := by
  refine s_aload_n dX7_seekBest_0 rfl rfl ?_
  refine s_iconst dX7_seekBest_1 ?_
  have f1 := H.1
  replace H := H.2
  refine s_putI (c := 7) (k := 7) (j := 7) dX7_seekBest_2 fl_X7_76 (by decide) (by decide) rfl rfl rfl f1 (fun h2 eh2 => ?_)
  replace H := H h2 eh2
  refine s_aload_n dX7_seekBest_5 rfl rfl ?_
  refine s_iconst dX7_seekBest_6 ?_
  refine s_putI (c := 7) (k := 8) (j := 8) dX7_seekBest_7 fl_X7_79 (by decide) (by decide) rfl rfl rfl f1 (fun h3 eh3 => ?_)
  replace H := H h3 eh3
  refine s_aload_n dX7_seekBest_10 rfl rfl ?_
  refine s_iconst dX7_seekBest_11 ?_
  refine s_putI (c := 7) (k := 9) (j := 9) dX7_seekBest_12 fl_X7_82 (by decide) (by decide) rfl rfl rfl f1 (fun h4 eh4 => ?_)
  replace H := H h4 eh4
  refine s_iconst dX7_seekBest_15 ?_
  refine s_istore_n dX7_seekBest_16 rfl (by decide) rfl ?_
  show S l MX7_seekBest (d + 1, 0, 0, 0, 0) 17 [some (vR a0), some (vI 0), none, none] [] G h4 Q
  exact S_cut (by first | exact ⟨rfl, ⟨rfl, trivial⟩⟩ | simp [lsub]) H
set_option maxHeartbeats 4000000 in
set_option maxRecDepth 100000 in
theorem vX7_seekBest_17 {l : Launch} {d : Nat} {G : GS} {h : HP} {Q : Int → GS → HP → Prop} (a0 a1 : Int) (H : (ty G a0 = 7) ∧ (inR a1) ∧ (inR (h a0 6)) ∧ (((h a0 6) ≤ a1 → (inR (h a0 7)) ∧ (((h a0 7) < 2 → Q 0 G h) ∧ (2 ≤ (h a0 7) → Q 1 G h))) ∧ (a1 < (h a0 6) → R l MJ7_fill_fda19 d 0 0 [vR (h a0 4), vI 0, vI ((h a0 6) * 7), vI 0] G h (fun r7 G8 h9 => S l MX7_seekBest (d + 1, 0, 0, 0, 0) 43 [some (vR a0), some (vI a1), some (vI 0), none] [] G8 h9 Q)))) : S l MX7_seekBest (d + 1, 0, 0, 0, 0) 17 [some (vR a0), some (vI a1), none, none] [] G h Q := by
  refine s_iload_n dX7_seekBest_17 rfl rfl ?_
  refine s_aload_n dX7_seekBest_18 rfl rfl ?_
  have f1 := H.1
  replace H := H.2
  refine s_getf (c := 7) (k := 6) (t := 0) (j := 6) dX7_seekBest_19 fl_X7_55 (by decide) (by decide) rfl rfl f1 ?_
  have f2 := H.1
  replace H := H.2
  have f3 := H.1
  replace H := H.2
  refine s_icmp_ge (tgt := 81) dX7_seekBest_22 (by decide) f2 f3 (fun c4 => ?_) (fun c4 => ?_)
  · replace H := H.1 c4
    refine s_aload_n dX7_seekBest_81 rfl rfl ?_
    refine s_getf (c := 7) (k := 7) (t := 0) (j := 7) dX7_seekBest_82 fl_X7_76 (by decide) (by decide) rfl rfl f1 ?_
    refine s_iconst dX7_seekBest_85 ?_
    have f5 := H.1
    replace H := H.2
    refine s_icmp_lt (tgt := 93) dX7_seekBest_86 (by decide) f5 (by decide) (fun c6 => ?_) (fun c6 => ?_)
    · replace H := H.1 c6
      refine s_iconst dX7_seekBest_93 ?_
      exact s_zret dX7_seekBest_94 rfl ⟨Nat.le_refl _, Nat.le_refl _⟩ (by decide) H
    · replace H := H.2 c6
      refine s_iconst dX7_seekBest_89 ?_
      refine s_goto (tgt := 94) dX7_seekBest_90 (by decide) ?_
      exact s_zret dX7_seekBest_94 rfl ⟨Nat.le_refl _, Nat.le_refl _⟩ (by decide) H
  · replace H := H.2 c4
    refine s_aload_n dX7_seekBest_25 rfl rfl ?_
    refine s_getf (c := 7) (k := 4) (t := 2) (j := 4) dX7_seekBest_26 fl_X7_21 (by decide) (by decide) rfl rfl f1 ?_
    refine s_iconst dX7_seekBest_29 ?_
    refine s_aload_n dX7_seekBest_30 rfl rfl ?_
    refine s_getf (c := 7) (k := 6) (t := 0) (j := 6) dX7_seekBest_31 fl_X7_55 (by decide) (by decide) rfl rfl f1 ?_
    refine s_bipush dX7_seekBest_34 (by decide) ?_
    refine s_imul dX7_seekBest_36 ?_
    refine s_iconst dX7_seekBest_37 ?_
    refine s_callS (M' := MJ7_fill_fda19) (As := [vR (h a0 4), vI 0, vI ((h a0 6) * 7), vI 0]) (st := []) dX7_seekBest_38 ml_X7_85 cs_J7_fill_fda19 rfl rfl (Nat.le_of_ble_eq_true rfl) ⟨Nat.le_refl _, Nat.le_refl _⟩ (R_mono (fun r7 G8 h9 H => ?_) H)
    show S l MX7_seekBest (d + 1, 0, 0, 0, 0) 41 [some (vR a0), some (vI a1), none, none] [] G8 h9 Q
    refine s_iconst dX7_seekBest_41 ?_
    refine s_istore_n dX7_seekBest_42 rfl (by decide) rfl ?_
    show S l MX7_seekBest (d + 1, 0, 0, 0, 0) 43 [some (vR a0), some (vI a1), some (vI 0), none] [] G8 h9 Q
    exact S_cut (by first | exact ⟨rfl, ⟨rfl, ⟨rfl, trivial⟩⟩⟩ | simp [lsub]) H
set_option maxHeartbeats 4000000 in
set_option maxRecDepth 100000 in
theorem vX7_seekBest_43 {l : Launch} {d : Nat} {G : GS} {h : HP} {Q : Int → GS → HP → Prop} (a0 a1 a2 : Int) (H : (ty G a0 = 7) ∧ (inR a2) ∧ (inR (h a0 5)) ∧ (((h a0 5) ≤ a2 → S l MX7_seekBest (d + 1, 0, 0, 0, 0) 17 [some (vR a0), some (vI (a1 + 1)), none, none] [] G h Q) ∧ (a2 < (h a0 5) → R l MX7_indexOf d 0 0 [vR a0, vI a2, vI a1] G h (fun r5 G6 h7 => (inR r5) ∧ ((r5 = ((-1)) → S l MX7_seekBest (d + 1, 0, 0, 0, 0) 43 [some (vR a0), some (vI a1), some (vI (a2 + 1)), none] [] G6 h7 Q) ∧ (r5 ≠ ((-1)) → (ty G6 a0 = 7) ∧ R l MX7_tallyBehind d 0 0 [vR a0, vI a2, vI r5] G6 h7 (fun r10 G11 h12 => S l MX7_seekBest (d + 1, 0, 0, 0, 0) 43 [some (vR a0), some (vI a1), some (vI (a2 + 1)), none] [] G11 h12 Q))))))) : S l MX7_seekBest (d + 1, 0, 0, 0, 0) 43 [some (vR a0), some (vI a1), some (vI a2), none] [] G h Q := by
  refine s_iload_n dX7_seekBest_43 rfl rfl ?_
  refine s_aload_n dX7_seekBest_44 rfl rfl ?_
  have f1 := H.1
  replace H := H.2
  refine s_getf (c := 7) (k := 5) (t := 0) (j := 5) dX7_seekBest_45 fl_X7_49 (by decide) (by decide) rfl rfl f1 ?_
  have f2 := H.1
  replace H := H.2
  have f3 := H.1
  replace H := H.2
  refine s_icmp_ge (tgt := 75) dX7_seekBest_48 (by decide) f2 f3 (fun c4 => ?_) (fun c4 => ?_)
  · replace H := H.1 c4
    refine s_iinc dX7_seekBest_75 rfl (by decide) rfl ?_
    show S l MX7_seekBest (d + 1, 0, 0, 0, 0) 78 [some (vR a0), some (vI (a1 + 1)), some (vI a2), none] [] G h Q
    refine s_goto (tgt := 17) dX7_seekBest_78 (by decide) ?_
    exact S_cut (by first | exact ⟨rfl, ⟨rfl, trivial⟩⟩ | simp [lsub]) H
  · replace H := H.2 c4
    refine s_aload_n dX7_seekBest_51 rfl rfl ?_
    refine s_iload_n dX7_seekBest_52 rfl rfl ?_
    refine s_iload_n dX7_seekBest_53 rfl rfl ?_
    refine s_callV (M' := MX7_indexOf) (As := [vI a2, vI a1]) (a := a0) (st := []) dX7_seekBest_54 ml_X7_91 cv_X7_indexOf rfl rfl (Nat.le_of_ble_eq_true rfl) ⟨Nat.le_refl _, Nat.le_refl _⟩ f1 (R_mono (fun r5 G6 h7 H => ?_) H)
    show S l MX7_seekBest (d + 1, 0, 0, 0, 0) 57 [some (vR a0), some (vI a1), some (vI a2), none] [vI r5] G6 h7 Q
    refine s_istore_n dX7_seekBest_57 rfl (by decide) rfl ?_
    show S l MX7_seekBest (d + 1, 0, 0, 0, 0) 58 [some (vR a0), some (vI a1), some (vI a2), some (vI r5)] [] G6 h7 Q
    refine s_iload_n dX7_seekBest_58 rfl rfl ?_
    refine s_iconst dX7_seekBest_59 ?_
    have f8 := H.1
    replace H := H.2
    refine s_icmp_eq (tgt := 69) dX7_seekBest_60 (by decide) f8 (by decide) (fun c9 => ?_) (fun c9 => ?_)
    · replace H := H.1 c9
      refine s_iinc dX7_seekBest_69 rfl (by decide) rfl ?_
      show S l MX7_seekBest (d + 1, 0, 0, 0, 0) 72 [some (vR a0), some (vI a1), some (vI (a2 + 1)), some (vI r5)] [] G6 h7 Q
      refine s_goto (tgt := 43) dX7_seekBest_72 (by decide) ?_
      exact S_cut (by first | exact ⟨rfl, ⟨rfl, ⟨rfl, trivial⟩⟩⟩ | simp [lsub]) H
    · replace H := H.2 c9
      refine s_aload_n dX7_seekBest_63 rfl rfl ?_
      refine s_iload_n dX7_seekBest_64 rfl rfl ?_
      refine s_iload_n dX7_seekBest_65 rfl rfl ?_
      have f13 := H.1
      replace H := H.2
      refine s_callV (M' := MX7_tallyBehind) (As := [vI a2, vI r5]) (a := a0) (st := []) dX7_seekBest_66 ml_X7_94 cv_X7_tallyBehind rfl rfl (Nat.le_of_ble_eq_true rfl) ⟨Nat.le_refl _, Nat.le_refl _⟩ f13 (R_mono (fun r10 G11 h12 H => ?_) H)
      show S l MX7_seekBest (d + 1, 0, 0, 0, 0) 69 [some (vR a0), some (vI a1), some (vI a2), some (vI r5)] [] G11 h12 Q
      refine s_iinc dX7_seekBest_69 rfl (by decide) rfl ?_
      show S l MX7_seekBest (d + 1, 0, 0, 0, 0) 72 [some (vR a0), some (vI a1), some (vI (a2 + 1)), some (vI r5)] [] G11 h12 Q
      refine s_goto (tgt := 43) dX7_seekBest_72 (by decide) ?_
      exact S_cut (by first | exact ⟨rfl, ⟨rfl, ⟨rfl, trivial⟩⟩⟩ | simp [lsub]) H
set_option maxHeartbeats 4000000 in
set_option maxRecDepth 100000 in
theorem vX7_indexOf_0 {l : Launch} {d : Nat} {G : GS} {h : HP} {Q : Int → GS → HP → Prop} (a0 a1 a2 : Int) (H : (ty G a0 = 7) ∧ (inA G 10 (h a0 3) a1) ∧ S l MX7_indexOf (d, 0, 0, 0, 0) 18 [some (vR a0), none, some (vI a2), some (vI ((9 * a1) + (h (h a0 3) a1))), some (vI (9 * a1))] [] G h Q) : S l MX7_indexOf (d, 0, 0, 0, 0) 0 [some (vR a0), some (vI a1), some (vI a2), none, none] [] G h Q := by
  refine s_bipush dX7_indexOf_0 (by decide) ?_
  refine s_iload_n dX7_indexOf_2 rfl rfl ?_
  refine s_imul dX7_indexOf_3 ?_
  refine s_aload_n dX7_indexOf_4 rfl rfl ?_
  have f1 := H.1
  replace H := H.2
  refine s_getf (c := 7) (k := 3) (t := 2) (j := 3) dX7_indexOf_5 fl_X7_18 (by decide) (by decide) rfl rfl f1 ?_
  refine s_iload_n dX7_indexOf_8 rfl rfl ?_
  have f2 := H.1
  replace H := H.2
  refine s_iald dX7_indexOf_9 f2 ?_
  refine s_iadd dX7_indexOf_10 ?_
  refine s_istore_n dX7_indexOf_11 rfl (by decide) rfl ?_
  show S l MX7_indexOf (d, 0, 0, 0, 0) 12 [some (vR a0), some (vI a1), some (vI a2), some (vI ((9 * a1) + (h (h a0 3) a1))), none] [] G h Q
  refine s_bipush dX7_indexOf_12 (by decide) ?_
  refine s_iload_n dX7_indexOf_14 rfl rfl ?_
  refine s_imul dX7_indexOf_15 ?_
  refine s_istore dX7_indexOf_16 (by decide) rfl ?_
  show S l MX7_indexOf (d, 0, 0, 0, 0) 18 [some (vR a0), some (vI a1), some (vI a2), some (vI ((9 * a1) + (h (h a0 3) a1))), some (vI (9 * a1))] [] G h Q
  exact S_cut (by first | exact ⟨rfl, ⟨rfl, ⟨rfl, ⟨rfl, trivial⟩⟩⟩⟩ | simp [lsub]) H
set_option maxHeartbeats 4000000 in
set_option maxRecDepth 100000 in
theorem vX7_indexOf_18 {l : Launch} {d : Nat} {G : GS} {h : HP} {Q : Int → GS → HP → Prop} (a0 a2 a3 a4 : Int) (H : (inR a4) ∧ (inR a3) ∧ ((a3 ≤ a4 → Q ((-1)) G h) ∧ (a4 < a3 → (ty G a0 = 7) ∧ (inA G 10 (h a0 1) a4) ∧ (inR (h (h a0 1) a4)) ∧ (inR a2) ∧ ((a2 < (h (h a0 1) a4) → Q ((-1)) G h) ∧ ((h (h a0 1) a4) ≤ a2 → (((h (h a0 1) a4) ≠ a2 → S l MX7_indexOf (d, 0, 0, 0, 0) 18 [some (vR a0), none, some (vI a2), some (vI a3), some (vI (a4 + 1))] [] G h Q) ∧ ((h (h a0 1) a4) = a2 → Q a4 G h))))))) : S l MX7_indexOf (d, 0, 0, 0, 0) 18 [some (vR a0), none, some (vI a2), some (vI a3), some (vI a4)] [] G h Q := by
  refine s_iload dX7_indexOf_18 rfl ?_
  refine s_iload_n dX7_indexOf_20 rfl rfl ?_
  have f1 := H.1
  replace H := H.2
  have f2 := H.1
  replace H := H.2
  refine s_icmp_ge (tgt := 55) dX7_indexOf_21 (by decide) f1 f2 (fun c3 => ?_) (fun c3 => ?_)
  · replace H := H.1 c3
    refine s_iconst dX7_indexOf_55 ?_
    exact s_iret dX7_indexOf_56 rfl ⟨Nat.le_refl _, Nat.le_refl _⟩ H
  · replace H := H.2 c3
    refine s_aload_n dX7_indexOf_24 rfl rfl ?_
    have f4 := H.1
    replace H := H.2
    refine s_getf (c := 7) (k := 1) (t := 2) (j := 1) dX7_indexOf_25 fl_X7_9 (by decide) (by decide) rfl rfl f4 ?_
    refine s_iload dX7_indexOf_28 rfl ?_
    have f5 := H.1
    replace H := H.2
    refine s_iald dX7_indexOf_30 f5 ?_
    refine s_iload_n dX7_indexOf_31 rfl rfl ?_
    have f6 := H.1
    replace H := H.2
    have f7 := H.1
    replace H := H.2
    refine s_icmp_gt (tgt := 55) dX7_indexOf_32 (by decide) f6 f7 (fun c8 => ?_) (fun c8 => ?_)
    · replace H := H.1 c8
      refine s_iconst dX7_indexOf_55 ?_
      exact s_iret dX7_indexOf_56 rfl ⟨Nat.le_refl _, Nat.le_refl _⟩ H
    · replace H := H.2 c8
      refine s_aload_n dX7_indexOf_35 rfl rfl ?_
      refine s_getf (c := 7) (k := 1) (t := 2) (j := 1) dX7_indexOf_36 fl_X7_9 (by decide) (by decide) rfl rfl f4 ?_
      refine s_iload dX7_indexOf_39 rfl ?_
      refine s_iald dX7_indexOf_41 f5 ?_
      refine s_iload_n dX7_indexOf_42 rfl rfl ?_
      refine s_icmp_ne (tgt := 49) dX7_indexOf_43 (by decide) f6 f7 (fun c9 => ?_) (fun c9 => ?_)
      · replace H := H.1 c9
        refine s_iinc dX7_indexOf_49 rfl (by decide) rfl ?_
        show S l MX7_indexOf (d, 0, 0, 0, 0) 52 [some (vR a0), none, some (vI a2), some (vI a3), some (vI (a4 + 1))] [] G h Q
        refine s_goto (tgt := 18) dX7_indexOf_52 (by decide) ?_
        exact S_cut (by first | exact ⟨rfl, ⟨rfl, ⟨rfl, ⟨rfl, trivial⟩⟩⟩⟩ | simp [lsub]) H
      · replace H := H.2 c9
        refine s_iload dX7_indexOf_46 rfl ?_
        exact s_iret dX7_indexOf_48 rfl ⟨Nat.le_refl _, Nat.le_refl _⟩ H
set_option maxHeartbeats 4000000 in
set_option maxRecDepth 100000 in
theorem vX7_tallyBehind_0 {l : Launch} {d : Nat} {G : GS} {h : HP} {Q : Int → GS → HP → Prop} (a0 a1 a2 : Int) (H : (ty G a0 = 7) ∧ (inA G 10 (h a0 3) a1) ∧ S l MX7_tallyBehind (d + 1, 0, 0, 0, 0) 17 [some (vR a0), none, some (vI a2), some (vI ((9 * a1) + (h (h a0 3) a1))), some (vI (a2 + 1)), none, none] [] G h Q) : S l MX7_tallyBehind (d + 1, 0, 0, 0, 0) 0 [some (vR a0), some (vI a1), some (vI a2), none, none, none, none] [] G h Q := by
  refine s_bipush dX7_tallyBehind_0 (by decide) ?_
  refine s_iload_n dX7_tallyBehind_2 rfl rfl ?_
  refine s_imul dX7_tallyBehind_3 ?_
  refine s_aload_n dX7_tallyBehind_4 rfl rfl ?_
  have f1 := H.1
  replace H := H.2
  refine s_getf (c := 7) (k := 3) (t := 2) (j := 3) dX7_tallyBehind_5 fl_X7_18 (by decide) (by decide) rfl rfl f1 ?_
  refine s_iload_n dX7_tallyBehind_8 rfl rfl ?_
  have f2 := H.1
  replace H := H.2
  refine s_iald dX7_tallyBehind_9 f2 ?_
  refine s_iadd dX7_tallyBehind_10 ?_
  refine s_istore_n dX7_tallyBehind_11 rfl (by decide) rfl ?_
  show S l MX7_tallyBehind (d + 1, 0, 0, 0, 0) 12 [some (vR a0), some (vI a1), some (vI a2), some (vI ((9 * a1) + (h (h a0 3) a1))), none, none, none] [] G h Q
  refine s_iload_n dX7_tallyBehind_12 rfl rfl ?_
  refine s_iconst dX7_tallyBehind_13 ?_
  refine s_iadd dX7_tallyBehind_14 ?_
  refine s_istore dX7_tallyBehind_15 (by decide) rfl ?_
  show S l MX7_tallyBehind (d + 1, 0, 0, 0, 0) 17 [some (vR a0), some (vI a1), some (vI a2), some (vI ((9 * a1) + (h (h a0 3) a1))), some (vI (a2 + 1)), none, none] [] G h Q
  exact S_cut (by first | exact ⟨rfl, ⟨rfl, ⟨rfl, ⟨rfl, trivial⟩⟩⟩⟩ | simp [lsub]) H
set_option maxHeartbeats 4000000 in
set_option maxRecDepth 100000 in
theorem vX7_tallyBehind_17 {l : Launch} {d : Nat} {G : GS} {h : HP} {Q : Int → GS → HP → Prop} (a0 a2 a3 a4 : Int) (H : (inR a4) ∧ (inR a3) ∧ ((a3 ≤ a4 → Q 0 G h) ∧ (a4 < a3 → (ty G a0 = 7) ∧ R l MX7_keyOf d 0 0 [vR a0, vI a2, vI a4] G h (fun r4 G5 h6 => (ty G5 a0 = 7) ∧ (inA G5 10 (h6 a0 4) r4) ∧ ∀ h10 : HP, h10 = hset h6 (h6 a0 4) r4 ((h6 (h6 a0 4) r4) + 1) → (inA G5 10 (h10 a0 1) a2) ∧ (inR (h10 a0 8)) ∧ (inR (h10 (h10 a0 1) a2)) ∧ (((h10 a0 8) ≠ (h10 (h10 a0 1) a2) → (inA G5 10 (h10 a0 4) r4) ∧ (inR (h10 (h10 a0 4) r4)) ∧ (inR (h10 a0 7)) ∧ (((h10 a0 7) < (h10 (h10 a0 4) r4) → ∀ h19 : HP, h19 = hset h10 a0 7 (h10 (h10 a0 4) r4) → (inA G5 10 (h19 a0 1) a2) ∧ ∀ h21 : HP, h21 = hset h19 a0 8 (h19 (h19 a0 1) a2) → ∀ h22 : HP, h22 = hset h21 a0 9 r4 → S l MX7_tallyBehind (d + 1, 0, 0, 0, 0) 17 [some (vR a0), none, some (vI a2), some (vI a3), some (vI (a4 + 1)), none, none] [] G5 h22 Q) ∧ ((h10 (h10 a0 4) r4) ≤ (h10 a0 7) → (((h10 (h10 a0 4) r4) ≠ (h10 a0 7) → S l MX7_tallyBehind (d + 1, 0, 0, 0, 0) 17 [some (vR a0), none, some (vI a2), some (vI a3), some (vI (a4 + 1)), none, none] [] G5 h10 Q) ∧ ((h10 (h10 a0 4) r4) = (h10 a0 7) → S l MX7_tallyBehind (d + 1, 0, 0, 0, 0) 17 [some (vR a0), none, some (vI a2), some (vI a3), some (vI (a4 + 1)), none, none] [] G5 h10 Q))))) ∧ ((h10 a0 8) = (h10 (h10 a0 1) a2) → (inR r4) ∧ (inR (h10 a0 9)) ∧ (((h10 a0 9) ≤ r4 → (inA G5 10 (h10 a0 4) r4) ∧ (inR (h10 (h10 a0 4) r4)) ∧ (inR (h10 a0 7)) ∧ (((h10 a0 7) < (h10 (h10 a0 4) r4) → ∀ h32 : HP, h32 = hset h10 a0 7 (h10 (h10 a0 4) r4) → (inA G5 10 (h32 a0 1) a2) ∧ ∀ h34 : HP, h34 = hset h32 a0 8 (h32 (h32 a0 1) a2) → ∀ h35 : HP, h35 = hset h34 a0 9 r4 → S l MX7_tallyBehind (d + 1, 0, 0, 0, 0) 17 [some (vR a0), none, some (vI a2), some (vI a3), some (vI (a4 + 1)), none, none] [] G5 h35 Q) ∧ ((h10 (h10 a0 4) r4) ≤ (h10 a0 7) → (((h10 (h10 a0 4) r4) ≠ (h10 a0 7) → S l MX7_tallyBehind (d + 1, 0, 0, 0, 0) 17 [some (vR a0), none, some (vI a2), some (vI a3), some (vI (a4 + 1)), none, none] [] G5 h10 Q) ∧ ((h10 (h10 a0 4) r4) = (h10 a0 7) → S l MX7_tallyBehind (d + 1, 0, 0, 0, 0) 17 [some (vR a0), none, some (vI a2), some (vI a3), some (vI (a4 + 1)), none, none] [] G5 h10 Q))))) ∧ (r4 < (h10 a0 9) → (inA G5 10 (h10 a0 4) r4) ∧ (inR (h10 (h10 a0 4) r4)) ∧ (inR (h10 a0 7)) ∧ (((h10 a0 7) < (h10 (h10 a0 4) r4) → ∀ h42 : HP, h42 = hset h10 a0 7 (h10 (h10 a0 4) r4) → (inA G5 10 (h42 a0 1) a2) ∧ ∀ h44 : HP, h44 = hset h42 a0 8 (h42 (h42 a0 1) a2) → ∀ h45 : HP, h45 = hset h44 a0 9 r4 → S l MX7_tallyBehind (d + 1, 0, 0, 0, 0) 17 [some (vR a0), none, some (vI a2), some (vI a3), some (vI (a4 + 1)), none, none] [] G5 h45 Q) ∧ ((h10 (h10 a0 4) r4) ≤ (h10 a0 7) → (((h10 (h10 a0 4) r4) ≠ (h10 a0 7) → S l MX7_tallyBehind (d + 1, 0, 0, 0, 0) 17 [some (vR a0), none, some (vI a2), some (vI a3), some (vI (a4 + 1)), none, none] [] G5 h10 Q) ∧ ((h10 (h10 a0 4) r4) = (h10 a0 7) → ∀ h48 : HP, h48 = hset h10 a0 7 (h10 (h10 a0 4) r4) → (inA G5 10 (h48 a0 1) a2) ∧ ∀ h50 : HP, h50 = hset h48 a0 8 (h48 (h48 a0 1) a2) → ∀ h51 : HP, h51 = hset h50 a0 9 r4 → S l MX7_tallyBehind (d + 1, 0, 0, 0, 0) 17 [some (vR a0), none, some (vI a2), some (vI a3), some (vI (a4 + 1)), none, none] [] G5 h51 Q)))))))))))) : S l MX7_tallyBehind (d + 1, 0, 0, 0, 0) 17 [some (vR a0), none, some (vI a2), some (vI a3), some (vI a4), none, none] [] G h Q := by
  refine s_iload dX7_tallyBehind_17 rfl ?_
  refine s_iload_n dX7_tallyBehind_19 rfl rfl ?_
  have f1 := H.1
  replace H := H.2
  have f2 := H.1
  replace H := H.2
  refine s_icmp_ge (tgt := 138) dX7_tallyBehind_20 (by decide) f1 f2 (fun c3 => ?_) (fun c3 => ?_)
  · replace H := H.1 c3
    exact s_vret dX7_tallyBehind_138 rfl ⟨Nat.le_refl _, Nat.le_refl _⟩ H
  · replace H := H.2 c3
    refine s_aload_n dX7_tallyBehind_23 rfl rfl ?_
    refine s_iload_n dX7_tallyBehind_24 rfl rfl ?_
    refine s_iload dX7_tallyBehind_25 rfl ?_
    have f7 := H.1
    replace H := H.2
    refine s_callV (M' := MX7_keyOf) (As := [vI a2, vI a4]) (a := a0) (st := []) dX7_tallyBehind_27 ml_X7_98 cv_X7_keyOf rfl rfl (Nat.le_of_ble_eq_true rfl) ⟨Nat.le_refl _, Nat.le_refl _⟩ f7 (R_mono (fun r4 G5 h6 H => ?_) H)
    show S l MX7_tallyBehind (d + 1, 0, 0, 0, 0) 30 [some (vR a0), none, some (vI a2), some (vI a3), some (vI a4), none, none] [vI r4] G5 h6 Q
    refine s_istore dX7_tallyBehind_30 (by decide) rfl ?_
    show S l MX7_tallyBehind (d + 1, 0, 0, 0, 0) 32 [some (vR a0), none, some (vI a2), some (vI a3), some (vI a4), some (vI r4), none] [] G5 h6 Q
    refine s_aload_n dX7_tallyBehind_32 rfl rfl ?_
    have f8 := H.1
    replace H := H.2
    refine s_getf (c := 7) (k := 4) (t := 2) (j := 4) dX7_tallyBehind_33 fl_X7_21 (by decide) (by decide) rfl rfl f8 ?_
    refine s_iload dX7_tallyBehind_36 rfl ?_
    refine s_dup2 dX7_tallyBehind_38 rfl rfl ?_
    have f9 := H.1
    replace H := H.2
    refine s_iald dX7_tallyBehind_39 f9 ?_
    refine s_iconst dX7_tallyBehind_40 ?_
    refine s_iadd dX7_tallyBehind_41 ?_
    refine s_iastH dX7_tallyBehind_42 f9 (fun h10 eh10 => ?_)
    replace H := H h10 eh10
    refine s_aload_n dX7_tallyBehind_43 rfl rfl ?_
    refine s_getf (c := 7) (k := 8) (t := 0) (j := 8) dX7_tallyBehind_44 fl_X7_79 (by decide) (by decide) rfl rfl f8 ?_
    refine s_aload_n dX7_tallyBehind_47 rfl rfl ?_
    refine s_getf (c := 7) (k := 1) (t := 2) (j := 1) dX7_tallyBehind_48 fl_X7_9 (by decide) (by decide) rfl rfl f8 ?_
    refine s_iload_n dX7_tallyBehind_51 rfl rfl ?_
    have f11 := H.1
    replace H := H.2
    refine s_iald dX7_tallyBehind_52 f11 ?_
    have f12 := H.1
    replace H := H.2
    have f13 := H.1
    replace H := H.2
    refine s_icmp_ne (tgt := 69) dX7_tallyBehind_53 (by decide) f12 f13 (fun c14 => ?_) (fun c14 => ?_)
    · replace H := H.1 c14
      refine s_iconst dX7_tallyBehind_69 ?_
      refine s_istore dX7_tallyBehind_70 (by decide) rfl ?_
      show S l MX7_tallyBehind (d + 1, 0, 0, 0, 0) 72 [some (vR a0), none, some (vI a2), some (vI a3), some (vI a4), some (vI r4), some (vI 0)] [] G5 h10 Q
      refine s_aload_n dX7_tallyBehind_72 rfl rfl ?_
      refine s_getf (c := 7) (k := 4) (t := 2) (j := 4) dX7_tallyBehind_73 fl_X7_21 (by decide) (by decide) rfl rfl f8 ?_
      refine s_iload dX7_tallyBehind_76 rfl ?_
      have f15 := H.1
      replace H := H.2
      refine s_iald dX7_tallyBehind_78 f15 ?_
      refine s_aload_n dX7_tallyBehind_79 rfl rfl ?_
      refine s_getf (c := 7) (k := 7) (t := 0) (j := 7) dX7_tallyBehind_80 fl_X7_76 (by decide) (by decide) rfl rfl f8 ?_
      have f16 := H.1
      replace H := H.2
      have f17 := H.1
      replace H := H.2
      refine s_icmp_gt (tgt := 105) dX7_tallyBehind_83 (by decide) f16 f17 (fun c18 => ?_) (fun c18 => ?_)
      · replace H := H.1 c18
        refine s_aload_n dX7_tallyBehind_105 rfl rfl ?_
        refine s_aload_n dX7_tallyBehind_106 rfl rfl ?_
        refine s_getf (c := 7) (k := 4) (t := 2) (j := 4) dX7_tallyBehind_107 fl_X7_21 (by decide) (by decide) rfl rfl f8 ?_
        refine s_iload dX7_tallyBehind_110 rfl ?_
        refine s_iald dX7_tallyBehind_112 f15 ?_
        refine s_putI (c := 7) (k := 7) (j := 7) dX7_tallyBehind_113 fl_X7_76 (by decide) (by decide) rfl rfl rfl f8 (fun h19 eh19 => ?_)
        replace H := H h19 eh19
        refine s_aload_n dX7_tallyBehind_116 rfl rfl ?_
        refine s_aload_n dX7_tallyBehind_117 rfl rfl ?_
        refine s_getf (c := 7) (k := 1) (t := 2) (j := 1) dX7_tallyBehind_118 fl_X7_9 (by decide) (by decide) rfl rfl f8 ?_
        refine s_iload_n dX7_tallyBehind_121 rfl rfl ?_
        have f20 := H.1
        replace H := H.2
        refine s_iald dX7_tallyBehind_122 f20 ?_
        refine s_putI (c := 7) (k := 8) (j := 8) dX7_tallyBehind_123 fl_X7_79 (by decide) (by decide) rfl rfl rfl f8 (fun h21 eh21 => ?_)
        replace H := H h21 eh21
        refine s_aload_n dX7_tallyBehind_126 rfl rfl ?_
        refine s_iload dX7_tallyBehind_127 rfl ?_
        refine s_putI (c := 7) (k := 9) (j := 9) dX7_tallyBehind_129 fl_X7_82 (by decide) (by decide) rfl rfl rfl f8 (fun h22 eh22 => ?_)
        replace H := H h22 eh22
        refine s_iinc dX7_tallyBehind_132 rfl (by decide) rfl ?_
        show S l MX7_tallyBehind (d + 1, 0, 0, 0, 0) 135 [some (vR a0), none, some (vI a2), some (vI a3), some (vI (a4 + 1)), some (vI r4), some (vI 0)] [] G5 h22 Q
        refine s_goto (tgt := 17) dX7_tallyBehind_135 (by decide) ?_
        exact S_cut (by first | exact ⟨rfl, ⟨rfl, ⟨rfl, ⟨rfl, trivial⟩⟩⟩⟩ | simp [lsub]) H
      · replace H := H.2 c18
        refine s_aload_n dX7_tallyBehind_86 rfl rfl ?_
        refine s_getf (c := 7) (k := 4) (t := 2) (j := 4) dX7_tallyBehind_87 fl_X7_21 (by decide) (by decide) rfl rfl f8 ?_
        refine s_iload dX7_tallyBehind_90 rfl ?_
        refine s_iald dX7_tallyBehind_92 f15 ?_
        refine s_aload_n dX7_tallyBehind_93 rfl rfl ?_
        refine s_getf (c := 7) (k := 7) (t := 0) (j := 7) dX7_tallyBehind_94 fl_X7_76 (by decide) (by decide) rfl rfl f8 ?_
        refine s_icmp_ne (tgt := 132) dX7_tallyBehind_97 (by decide) f16 f17 (fun c23 => ?_) (fun c23 => ?_)
        · replace H := H.1 c23
          refine s_iinc dX7_tallyBehind_132 rfl (by decide) rfl ?_
          show S l MX7_tallyBehind (d + 1, 0, 0, 0, 0) 135 [some (vR a0), none, some (vI a2), some (vI a3), some (vI (a4 + 1)), some (vI r4), some (vI 0)] [] G5 h10 Q
          refine s_goto (tgt := 17) dX7_tallyBehind_135 (by decide) ?_
          exact S_cut (by first | exact ⟨rfl, ⟨rfl, ⟨rfl, ⟨rfl, trivial⟩⟩⟩⟩ | simp [lsub]) H
        · replace H := H.2 c23
          refine s_iload dX7_tallyBehind_100 rfl ?_
          refine s_if_eq (tgt := 132) dX7_tallyBehind_102 (by decide) (by decide) (fun _ => ?_) (fun c24 => absurd c24 (by decide))
          refine s_iinc dX7_tallyBehind_132 rfl (by decide) rfl ?_
          show S l MX7_tallyBehind (d + 1, 0, 0, 0, 0) 135 [some (vR a0), none, some (vI a2), some (vI a3), some (vI (a4 + 1)), some (vI r4), some (vI 0)] [] G5 h10 Q
          refine s_goto (tgt := 17) dX7_tallyBehind_135 (by decide) ?_
          exact S_cut (by first | exact ⟨rfl, ⟨rfl, ⟨rfl, ⟨rfl, trivial⟩⟩⟩⟩ | simp [lsub]) H
    · replace H := H.2 c14
      refine s_iload dX7_tallyBehind_56 rfl ?_
      refine s_aload_n dX7_tallyBehind_58 rfl rfl ?_
      refine s_getf (c := 7) (k := 9) (t := 0) (j := 9) dX7_tallyBehind_59 fl_X7_82 (by decide) (by decide) rfl rfl f8 ?_
      have f25 := H.1
      replace H := H.2
      have f26 := H.1
      replace H := H.2
      refine s_icmp_ge (tgt := 69) dX7_tallyBehind_62 (by decide) f25 f26 (fun c27 => ?_) (fun c27 => ?_)
      · replace H := H.1 c27
        refine s_iconst dX7_tallyBehind_69 ?_
        refine s_istore dX7_tallyBehind_70 (by decide) rfl ?_
        show S l MX7_tallyBehind (d + 1, 0, 0, 0, 0) 72 [some (vR a0), none, some (vI a2), some (vI a3), some (vI a4), some (vI r4), some (vI 0)] [] G5 h10 Q
        refine s_aload_n dX7_tallyBehind_72 rfl rfl ?_
        refine s_getf (c := 7) (k := 4) (t := 2) (j := 4) dX7_tallyBehind_73 fl_X7_21 (by decide) (by decide) rfl rfl f8 ?_
        refine s_iload dX7_tallyBehind_76 rfl ?_
        have f28 := H.1
        replace H := H.2
        refine s_iald dX7_tallyBehind_78 f28 ?_
        refine s_aload_n dX7_tallyBehind_79 rfl rfl ?_
        refine s_getf (c := 7) (k := 7) (t := 0) (j := 7) dX7_tallyBehind_80 fl_X7_76 (by decide) (by decide) rfl rfl f8 ?_
        have f29 := H.1
        replace H := H.2
        have f30 := H.1
        replace H := H.2
        refine s_icmp_gt (tgt := 105) dX7_tallyBehind_83 (by decide) f29 f30 (fun c31 => ?_) (fun c31 => ?_)
        · replace H := H.1 c31
          refine s_aload_n dX7_tallyBehind_105 rfl rfl ?_
          refine s_aload_n dX7_tallyBehind_106 rfl rfl ?_
          refine s_getf (c := 7) (k := 4) (t := 2) (j := 4) dX7_tallyBehind_107 fl_X7_21 (by decide) (by decide) rfl rfl f8 ?_
          refine s_iload dX7_tallyBehind_110 rfl ?_
          refine s_iald dX7_tallyBehind_112 f28 ?_
          refine s_putI (c := 7) (k := 7) (j := 7) dX7_tallyBehind_113 fl_X7_76 (by decide) (by decide) rfl rfl rfl f8 (fun h32 eh32 => ?_)
          replace H := H h32 eh32
          refine s_aload_n dX7_tallyBehind_116 rfl rfl ?_
          refine s_aload_n dX7_tallyBehind_117 rfl rfl ?_
          refine s_getf (c := 7) (k := 1) (t := 2) (j := 1) dX7_tallyBehind_118 fl_X7_9 (by decide) (by decide) rfl rfl f8 ?_
          refine s_iload_n dX7_tallyBehind_121 rfl rfl ?_
          have f33 := H.1
          replace H := H.2
          refine s_iald dX7_tallyBehind_122 f33 ?_
          refine s_putI (c := 7) (k := 8) (j := 8) dX7_tallyBehind_123 fl_X7_79 (by decide) (by decide) rfl rfl rfl f8 (fun h34 eh34 => ?_)
          replace H := H h34 eh34
          refine s_aload_n dX7_tallyBehind_126 rfl rfl ?_
          refine s_iload dX7_tallyBehind_127 rfl ?_
          refine s_putI (c := 7) (k := 9) (j := 9) dX7_tallyBehind_129 fl_X7_82 (by decide) (by decide) rfl rfl rfl f8 (fun h35 eh35 => ?_)
          replace H := H h35 eh35
          refine s_iinc dX7_tallyBehind_132 rfl (by decide) rfl ?_
          show S l MX7_tallyBehind (d + 1, 0, 0, 0, 0) 135 [some (vR a0), none, some (vI a2), some (vI a3), some (vI (a4 + 1)), some (vI r4), some (vI 0)] [] G5 h35 Q
          refine s_goto (tgt := 17) dX7_tallyBehind_135 (by decide) ?_
          exact S_cut (by first | exact ⟨rfl, ⟨rfl, ⟨rfl, ⟨rfl, trivial⟩⟩⟩⟩ | simp [lsub]) H
        · replace H := H.2 c31
          refine s_aload_n dX7_tallyBehind_86 rfl rfl ?_
          refine s_getf (c := 7) (k := 4) (t := 2) (j := 4) dX7_tallyBehind_87 fl_X7_21 (by decide) (by decide) rfl rfl f8 ?_
          refine s_iload dX7_tallyBehind_90 rfl ?_
          refine s_iald dX7_tallyBehind_92 f28 ?_
          refine s_aload_n dX7_tallyBehind_93 rfl rfl ?_
          refine s_getf (c := 7) (k := 7) (t := 0) (j := 7) dX7_tallyBehind_94 fl_X7_76 (by decide) (by decide) rfl rfl f8 ?_
          refine s_icmp_ne (tgt := 132) dX7_tallyBehind_97 (by decide) f29 f30 (fun c36 => ?_) (fun c36 => ?_)
          · replace H := H.1 c36
            refine s_iinc dX7_tallyBehind_132 rfl (by decide) rfl ?_
            show S l MX7_tallyBehind (d + 1, 0, 0, 0, 0) 135 [some (vR a0), none, some (vI a2), some (vI a3), some (vI (a4 + 1)), some (vI r4), some (vI 0)] [] G5 h10 Q
            refine s_goto (tgt := 17) dX7_tallyBehind_135 (by decide) ?_
            exact S_cut (by first | exact ⟨rfl, ⟨rfl, ⟨rfl, ⟨rfl, trivial⟩⟩⟩⟩ | simp [lsub]) H
          · replace H := H.2 c36
            refine s_iload dX7_tallyBehind_100 rfl ?_
            refine s_if_eq (tgt := 132) dX7_tallyBehind_102 (by decide) (by decide) (fun _ => ?_) (fun c37 => absurd c37 (by decide))
            refine s_iinc dX7_tallyBehind_132 rfl (by decide) rfl ?_
            show S l MX7_tallyBehind (d + 1, 0, 0, 0, 0) 135 [some (vR a0), none, some (vI a2), some (vI a3), some (vI (a4 + 1)), some (vI r4), some (vI 0)] [] G5 h10 Q
            refine s_goto (tgt := 17) dX7_tallyBehind_135 (by decide) ?_
            exact S_cut (by first | exact ⟨rfl, ⟨rfl, ⟨rfl, ⟨rfl, trivial⟩⟩⟩⟩ | simp [lsub]) H
      · replace H := H.2 c27
        refine s_iconst dX7_tallyBehind_65 ?_
        refine s_goto (tgt := 70) dX7_tallyBehind_66 (by decide) ?_
        refine s_istore dX7_tallyBehind_70 (by decide) rfl ?_
        show S l MX7_tallyBehind (d + 1, 0, 0, 0, 0) 72 [some (vR a0), none, some (vI a2), some (vI a3), some (vI a4), some (vI r4), some (vI 1)] [] G5 h10 Q
        refine s_aload_n dX7_tallyBehind_72 rfl rfl ?_
        refine s_getf (c := 7) (k := 4) (t := 2) (j := 4) dX7_tallyBehind_73 fl_X7_21 (by decide) (by decide) rfl rfl f8 ?_
        refine s_iload dX7_tallyBehind_76 rfl ?_
        have f38 := H.1
        replace H := H.2
        refine s_iald dX7_tallyBehind_78 f38 ?_
        refine s_aload_n dX7_tallyBehind_79 rfl rfl ?_
        refine s_getf (c := 7) (k := 7) (t := 0) (j := 7) dX7_tallyBehind_80 fl_X7_76 (by decide) (by decide) rfl rfl f8 ?_
        have f39 := H.1
        replace H := H.2
        have f40 := H.1
        replace H := H.2
        refine s_icmp_gt (tgt := 105) dX7_tallyBehind_83 (by decide) f39 f40 (fun c41 => ?_) (fun c41 => ?_)
        · replace H := H.1 c41
          refine s_aload_n dX7_tallyBehind_105 rfl rfl ?_
          refine s_aload_n dX7_tallyBehind_106 rfl rfl ?_
          refine s_getf (c := 7) (k := 4) (t := 2) (j := 4) dX7_tallyBehind_107 fl_X7_21 (by decide) (by decide) rfl rfl f8 ?_
          refine s_iload dX7_tallyBehind_110 rfl ?_
          refine s_iald dX7_tallyBehind_112 f38 ?_
          refine s_putI (c := 7) (k := 7) (j := 7) dX7_tallyBehind_113 fl_X7_76 (by decide) (by decide) rfl rfl rfl f8 (fun h42 eh42 => ?_)
          replace H := H h42 eh42
          refine s_aload_n dX7_tallyBehind_116 rfl rfl ?_
          refine s_aload_n dX7_tallyBehind_117 rfl rfl ?_
          refine s_getf (c := 7) (k := 1) (t := 2) (j := 1) dX7_tallyBehind_118 fl_X7_9 (by decide) (by decide) rfl rfl f8 ?_
          refine s_iload_n dX7_tallyBehind_121 rfl rfl ?_
          have f43 := H.1
          replace H := H.2
          refine s_iald dX7_tallyBehind_122 f43 ?_
          refine s_putI (c := 7) (k := 8) (j := 8) dX7_tallyBehind_123 fl_X7_79 (by decide) (by decide) rfl rfl rfl f8 (fun h44 eh44 => ?_)
          replace H := H h44 eh44
          refine s_aload_n dX7_tallyBehind_126 rfl rfl ?_
          refine s_iload dX7_tallyBehind_127 rfl ?_
          refine s_putI (c := 7) (k := 9) (j := 9) dX7_tallyBehind_129 fl_X7_82 (by decide) (by decide) rfl rfl rfl f8 (fun h45 eh45 => ?_)
          replace H := H h45 eh45
          refine s_iinc dX7_tallyBehind_132 rfl (by decide) rfl ?_
          show S l MX7_tallyBehind (d + 1, 0, 0, 0, 0) 135 [some (vR a0), none, some (vI a2), some (vI a3), some (vI (a4 + 1)), some (vI r4), some (vI 1)] [] G5 h45 Q
          refine s_goto (tgt := 17) dX7_tallyBehind_135 (by decide) ?_
          exact S_cut (by first | exact ⟨rfl, ⟨rfl, ⟨rfl, ⟨rfl, trivial⟩⟩⟩⟩ | simp [lsub]) H
        · replace H := H.2 c41
          refine s_aload_n dX7_tallyBehind_86 rfl rfl ?_
          refine s_getf (c := 7) (k := 4) (t := 2) (j := 4) dX7_tallyBehind_87 fl_X7_21 (by decide) (by decide) rfl rfl f8 ?_
          refine s_iload dX7_tallyBehind_90 rfl ?_
          refine s_iald dX7_tallyBehind_92 f38 ?_
          refine s_aload_n dX7_tallyBehind_93 rfl rfl ?_
          refine s_getf (c := 7) (k := 7) (t := 0) (j := 7) dX7_tallyBehind_94 fl_X7_76 (by decide) (by decide) rfl rfl f8 ?_
          refine s_icmp_ne (tgt := 132) dX7_tallyBehind_97 (by decide) f39 f40 (fun c46 => ?_) (fun c46 => ?_)
          · replace H := H.1 c46
            refine s_iinc dX7_tallyBehind_132 rfl (by decide) rfl ?_
            show S l MX7_tallyBehind (d + 1, 0, 0, 0, 0) 135 [some (vR a0), none, some (vI a2), some (vI a3), some (vI (a4 + 1)), some (vI r4), some (vI 1)] [] G5 h10 Q
            refine s_goto (tgt := 17) dX7_tallyBehind_135 (by decide) ?_
            exact S_cut (by first | exact ⟨rfl, ⟨rfl, ⟨rfl, ⟨rfl, trivial⟩⟩⟩⟩ | simp [lsub]) H
          · replace H := H.2 c46
            refine s_iload dX7_tallyBehind_100 rfl ?_
            refine s_if_eq (tgt := 132) dX7_tallyBehind_102 (by decide) (by decide) (fun c47 => absurd c47 (by decide)) (fun _ => ?_)
            refine s_aload_n dX7_tallyBehind_105 rfl rfl ?_
            refine s_aload_n dX7_tallyBehind_106 rfl rfl ?_
            refine s_getf (c := 7) (k := 4) (t := 2) (j := 4) dX7_tallyBehind_107 fl_X7_21 (by decide) (by decide) rfl rfl f8 ?_
            refine s_iload dX7_tallyBehind_110 rfl ?_
            refine s_iald dX7_tallyBehind_112 f38 ?_
            refine s_putI (c := 7) (k := 7) (j := 7) dX7_tallyBehind_113 fl_X7_76 (by decide) (by decide) rfl rfl rfl f8 (fun h48 eh48 => ?_)
            replace H := H h48 eh48
            refine s_aload_n dX7_tallyBehind_116 rfl rfl ?_
            refine s_aload_n dX7_tallyBehind_117 rfl rfl ?_
            refine s_getf (c := 7) (k := 1) (t := 2) (j := 1) dX7_tallyBehind_118 fl_X7_9 (by decide) (by decide) rfl rfl f8 ?_
            refine s_iload_n dX7_tallyBehind_121 rfl rfl ?_
            have f49 := H.1
            replace H := H.2
            refine s_iald dX7_tallyBehind_122 f49 ?_
            refine s_putI (c := 7) (k := 8) (j := 8) dX7_tallyBehind_123 fl_X7_79 (by decide) (by decide) rfl rfl rfl f8 (fun h50 eh50 => ?_)
            replace H := H h50 eh50
            refine s_aload_n dX7_tallyBehind_126 rfl rfl ?_
            refine s_iload dX7_tallyBehind_127 rfl ?_
            refine s_putI (c := 7) (k := 9) (j := 9) dX7_tallyBehind_129 fl_X7_82 (by decide) (by decide) rfl rfl rfl f8 (fun h51 eh51 => ?_)
            replace H := H h51 eh51
            refine s_iinc dX7_tallyBehind_132 rfl (by decide) rfl ?_
            show S l MX7_tallyBehind (d + 1, 0, 0, 0, 0) 135 [some (vR a0), none, some (vI a2), some (vI a3), some (vI (a4 + 1)), some (vI r4), some (vI 1)] [] G5 h51 Q
            refine s_goto (tgt := 17) dX7_tallyBehind_135 (by decide) ?_
            exact S_cut (by first | exact ⟨rfl, ⟨rfl, ⟨rfl, ⟨rfl, trivial⟩⟩⟩⟩ | simp [lsub]) H
set_option maxHeartbeats 4000000 in
set_option maxRecDepth 100000 in
theorem vX7_keyOf_0 {l : Launch} {d : Nat} {G : GS} {h : HP} {Q : Int → GS → HP → Prop} (a0 a1 a2 : Int) (H : (ty G a0 = 7) ∧ (inA G 10 (h a0 2) a2) ∧ (ty G (h a0 0) = 1) ∧ (inA G 10 (h a0 2) a1) ∧ (inA G 10 (h (h a0 0) 2) (h (h a0 2) a1)) ∧ (dvR ((h (h a0 2) a2) * (h (h (h a0 0) 2) (h (h a0 2) a1))) (h (h a0 0) 0)) ∧ (inA G 10 (h a0 1) a2) ∧ Q (((h (h a0 1) a2) * 7) + (((h (h a0 2) a2) * (h (h (h a0 0) 2) (h (h a0 2) a1))) % (h (h a0 0) 0))) G h) : S l MX7_keyOf (d, 0, 0, 0, 0) 0 [some (vR a0), some (vI a1), some (vI a2), none] [] G h Q := by
  refine s_aload_n dX7_keyOf_0 rfl rfl ?_
  have f1 := H.1
  replace H := H.2
  refine s_getf (c := 7) (k := 2) (t := 2) (j := 2) dX7_keyOf_1 fl_X7_15 (by decide) (by decide) rfl rfl f1 ?_
  refine s_iload_n dX7_keyOf_4 rfl rfl ?_
  have f2 := H.1
  replace H := H.2
  refine s_iald dX7_keyOf_5 f2 ?_
  refine s_aload_n dX7_keyOf_6 rfl rfl ?_
  refine s_getf (c := 7) (k := 0) (t := 2) (j := 0) dX7_keyOf_7 fl_X7_24 (by decide) (by decide) rfl rfl f1 ?_
  have f3 := H.1
  replace H := H.2
  refine s_getf (c := 1) (k := 2) (t := 2) (j := 2) dX7_keyOf_10 fl_X7_101 (by decide) (by decide) rfl rfl f3 ?_
  refine s_aload_n dX7_keyOf_13 rfl rfl ?_
  refine s_getf (c := 7) (k := 2) (t := 2) (j := 2) dX7_keyOf_14 fl_X7_15 (by decide) (by decide) rfl rfl f1 ?_
  refine s_iload_n dX7_keyOf_17 rfl rfl ?_
  have f4 := H.1
  replace H := H.2
  refine s_iald dX7_keyOf_18 f4 ?_
  have f5 := H.1
  replace H := H.2
  refine s_iald dX7_keyOf_19 f5 ?_
  refine s_imul dX7_keyOf_20 ?_
  refine s_aload_n dX7_keyOf_21 rfl rfl ?_
  refine s_getf (c := 7) (k := 0) (t := 2) (j := 0) dX7_keyOf_22 fl_X7_24 (by decide) (by decide) rfl rfl f1 ?_
  refine s_getf (c := 1) (k := 0) (t := 0) (j := 0) dX7_keyOf_25 fl_X7_104 (by decide) (by decide) rfl rfl f3 ?_
  have f6 := H.1
  replace H := H.2
  refine s_irem dX7_keyOf_28 f6 ?_
  refine s_istore_n dX7_keyOf_29 rfl (by decide) rfl ?_
  show S l MX7_keyOf (d, 0, 0, 0, 0) 30 [some (vR a0), some (vI a1), some (vI a2), some (vI (((h (h a0 2) a2) * (h (h (h a0 0) 2) (h (h a0 2) a1))) % (h (h a0 0) 0)))] [] G h Q
  refine s_aload_n dX7_keyOf_30 rfl rfl ?_
  refine s_getf (c := 7) (k := 1) (t := 2) (j := 1) dX7_keyOf_31 fl_X7_9 (by decide) (by decide) rfl rfl f1 ?_
  refine s_iload_n dX7_keyOf_34 rfl rfl ?_
  have f7 := H.1
  replace H := H.2
  refine s_iald dX7_keyOf_35 f7 ?_
  refine s_bipush dX7_keyOf_36 (by decide) ?_
  refine s_imul dX7_keyOf_38 ?_
  refine s_iload_n dX7_keyOf_39 rfl rfl ?_
  refine s_iadd dX7_keyOf_40 ?_
  exact s_iret dX7_keyOf_41 rfl ⟨Nat.le_refl _, Nat.le_refl _⟩ H
set_option maxHeartbeats 4000000 in
set_option maxRecDepth 100000 in
theorem vX7_takeBest_0 {l : Launch} {d : Nat} {G : GS} {h : HP} {Q : Int → GS → HP → Prop} (a0 : Int) (H : S l MX7_takeBest (d + 1, 0, 0, 0, 0) 2 [some (vR a0), some (vI 0), none, none, none] [] G h Q) : S l MX7_takeBest (d + 1, 0, 0, 0, 0) 0 [some (vR a0), none, none, none, none] [] G h Q := by
  refine s_iconst dX7_takeBest_0 ?_
  refine s_istore_n dX7_takeBest_1 rfl (by decide) rfl ?_
  show S l MX7_takeBest (d + 1, 0, 0, 0, 0) 2 [some (vR a0), some (vI 0), none, none, none] [] G h Q
  exact S_cut (by first | exact ⟨rfl, ⟨rfl, trivial⟩⟩ | simp [lsub]) H
set_option maxHeartbeats 4000000 in
set_option maxRecDepth 100000 in
theorem vX7_takeBest_2 {l : Launch} {d : Nat} {G : GS} {h : HP} {Q : Int → GS → HP → Prop} (a0 a1 : Int) (H : (ty G a0 = 7) ∧ (inR a1) ∧ (inR (h a0 5)) ∧ (((h a0 5) ≤ a1 → ∀ h5 : HP, h5 = hset h a0 6 ((h a0 6) + 1) → Q 0 G h5) ∧ (a1 < (h a0 5) → R l MX7_indexOf d 0 0 [vR a0, vI a1, vI (h a0 8)] G h (fun r6 G7 h8 => (ty G7 a0 = 7) ∧ (dvR (h8 a0 9) 7) ∧ R l MX7_indexOf d 0 0 [vR a0, vI a1, vI ((h8 a0 9) / 7)] G7 h8 (fun r11 G12 h13 => (inR r6) ∧ ((r6 = ((-1)) → S l MX7_takeBest (d + 1, 0, 0, 0, 0) 2 [some (vR a0), some (vI (a1 + 1)), none, none, none] [] G12 h13 Q) ∧ (r6 ≠ ((-1)) → (inR r11) ∧ ((r11 = ((-1)) → S l MX7_takeBest (d + 1, 0, 0, 0, 0) 2 [some (vR a0), some (vI (a1 + 1)), none, none, none] [] G12 h13 Q) ∧ (r11 ≠ ((-1)) → (ty G12 a0 = 7) ∧ R l MX7_keyOf d 0 0 [vR a0, vI r6, vI r11] G12 h13 (fun r18 G19 h20 => (ty G19 a0 = 7) ∧ (inR r18) ∧ (inR (h20 a0 9)) ∧ ((r18 ≠ (h20 a0 9) → S l MX7_takeBest (d + 1, 0, 0, 0, 0) 2 [some (vR a0), some (vI (a1 + 1)), none, none, none] [] G19 h20 Q) ∧ (r18 = (h20 a0 9) → (inA G19 10 (h20 a0 2) r6) ∧ R l MX7_cut d 0 0 [vR a0, vI a1, vI r11] G19 h20 (fun r27 G28 h29 => (ty G28 a0 = 7) ∧ R l MX7_cut d 0 0 [vR a0, vI a1, vI r6] G28 h29 (fun r30 G31 h32 => (ty G31 a0 = 7) ∧ R l MX7_append d 0 0 [vR a0, vI a1, vI (h32 a0 6), vI (h20 (h20 a0 2) r6)] G31 h32 (fun r35 G36 h37 => S l MX7_takeBest (d + 1, 0, 0, 0, 0) 2 [some (vR a0), some (vI (a1 + 1)), none, none, none] [] G36 h37 Q))))))))))))))) : S l MX7_takeBest (d + 1, 0, 0, 0, 0) 2 [some (vR a0), some (vI a1), none, none, none] [] G h Q := by
  refine s_iload_n dX7_takeBest_2 rfl rfl ?_
  refine s_aload_n dX7_takeBest_3 rfl rfl ?_
  have f1 := H.1
  replace H := H.2
  refine s_getf (c := 7) (k := 5) (t := 0) (j := 5) dX7_takeBest_4 fl_X7_49 (by decide) (by decide) rfl rfl f1 ?_
  have f2 := H.1
  replace H := H.2
  have f3 := H.1
  replace H := H.2
  refine s_icmp_ge (tgt := 93) dX7_takeBest_7 (by decide) f2 f3 (fun c4 => ?_) (fun c4 => ?_)
  · replace H := H.1 c4
    refine s_aload_n dX7_takeBest_93 rfl rfl ?_
    refine s_dup dX7_takeBest_94 rfl ?_
    refine s_getf (c := 7) (k := 6) (t := 0) (j := 6) dX7_takeBest_95 fl_X7_55 (by decide) (by decide) rfl rfl f1 ?_
    refine s_iconst dX7_takeBest_98 ?_
    refine s_iadd dX7_takeBest_99 ?_
    refine s_putI (c := 7) (k := 6) (j := 6) dX7_takeBest_100 fl_X7_55 (by decide) (by decide) rfl rfl rfl f1 (fun h5 eh5 => ?_)
    replace H := H h5 eh5
    exact s_vret dX7_takeBest_103 rfl ⟨Nat.le_refl _, Nat.le_refl _⟩ H
  · replace H := H.2 c4
    refine s_aload_n dX7_takeBest_10 rfl rfl ?_
    refine s_iload_n dX7_takeBest_11 rfl rfl ?_
    refine s_aload_n dX7_takeBest_12 rfl rfl ?_
    refine s_getf (c := 7) (k := 8) (t := 0) (j := 8) dX7_takeBest_13 fl_X7_79 (by decide) (by decide) rfl rfl f1 ?_
    refine s_callV (M' := MX7_indexOf) (As := [vI a1, vI (h a0 8)]) (a := a0) (st := []) dX7_takeBest_16 ml_X7_91 cv_X7_indexOf rfl rfl (Nat.le_of_ble_eq_true rfl) ⟨Nat.le_refl _, Nat.le_refl _⟩ f1 (R_mono (fun r6 G7 h8 H => ?_) H)
    show S l MX7_takeBest (d + 1, 0, 0, 0, 0) 19 [some (vR a0), some (vI a1), none, none, none] [vI r6] G7 h8 Q
    refine s_istore_n dX7_takeBest_19 rfl (by decide) rfl ?_
    show S l MX7_takeBest (d + 1, 0, 0, 0, 0) 20 [some (vR a0), some (vI a1), some (vI r6), none, none] [] G7 h8 Q
    refine s_aload_n dX7_takeBest_20 rfl rfl ?_
    refine s_iload_n dX7_takeBest_21 rfl rfl ?_
    refine s_aload_n dX7_takeBest_22 rfl rfl ?_
    have f9 := H.1
    replace H := H.2
    refine s_getf (c := 7) (k := 9) (t := 0) (j := 9) dX7_takeBest_23 fl_X7_82 (by decide) (by decide) rfl rfl f9 ?_
    refine s_bipush dX7_takeBest_26 (by decide) ?_
    have f10 := H.1
    replace H := H.2
    refine s_idiv dX7_takeBest_28 f10 ?_
    refine s_callV (M' := MX7_indexOf) (As := [vI a1, vI ((h8 a0 9) / 7)]) (a := a0) (st := []) dX7_takeBest_29 ml_X7_91 cv_X7_indexOf rfl rfl (Nat.le_of_ble_eq_true rfl) ⟨Nat.le_refl _, Nat.le_refl _⟩ f9 (R_mono (fun r11 G12 h13 H => ?_) H)
    show S l MX7_takeBest (d + 1, 0, 0, 0, 0) 32 [some (vR a0), some (vI a1), some (vI r6), none, none] [vI r11] G12 h13 Q
    refine s_istore_n dX7_takeBest_32 rfl (by decide) rfl ?_
    show S l MX7_takeBest (d + 1, 0, 0, 0, 0) 33 [some (vR a0), some (vI a1), some (vI r6), some (vI r11), none] [] G12 h13 Q
    refine s_iload_n dX7_takeBest_33 rfl rfl ?_
    refine s_iconst dX7_takeBest_34 ?_
    have f14 := H.1
    replace H := H.2
    refine s_icmp_eq (tgt := 87) dX7_takeBest_35 (by decide) f14 (by decide) (fun c15 => ?_) (fun c15 => ?_)
    · replace H := H.1 c15
      refine s_iinc dX7_takeBest_87 rfl (by decide) rfl ?_
      show S l MX7_takeBest (d + 1, 0, 0, 0, 0) 90 [some (vR a0), some (vI (a1 + 1)), some (vI r6), some (vI r11), none] [] G12 h13 Q
      refine s_goto (tgt := 2) dX7_takeBest_90 (by decide) ?_
      exact S_cut (by first | exact ⟨rfl, ⟨rfl, trivial⟩⟩ | simp [lsub]) H
    · replace H := H.2 c15
      refine s_iload_n dX7_takeBest_38 rfl rfl ?_
      refine s_iconst dX7_takeBest_39 ?_
      have f16 := H.1
      replace H := H.2
      refine s_icmp_eq (tgt := 87) dX7_takeBest_40 (by decide) f16 (by decide) (fun c17 => ?_) (fun c17 => ?_)
      · replace H := H.1 c17
        refine s_iinc dX7_takeBest_87 rfl (by decide) rfl ?_
        show S l MX7_takeBest (d + 1, 0, 0, 0, 0) 90 [some (vR a0), some (vI (a1 + 1)), some (vI r6), some (vI r11), none] [] G12 h13 Q
        refine s_goto (tgt := 2) dX7_takeBest_90 (by decide) ?_
        exact S_cut (by first | exact ⟨rfl, ⟨rfl, trivial⟩⟩ | simp [lsub]) H
      · replace H := H.2 c17
        refine s_aload_n dX7_takeBest_43 rfl rfl ?_
        refine s_iload_n dX7_takeBest_44 rfl rfl ?_
        refine s_iload_n dX7_takeBest_45 rfl rfl ?_
        have f21 := H.1
        replace H := H.2
        refine s_callV (M' := MX7_keyOf) (As := [vI r6, vI r11]) (a := a0) (st := []) dX7_takeBest_46 ml_X7_98 cv_X7_keyOf rfl rfl (Nat.le_of_ble_eq_true rfl) ⟨Nat.le_refl _, Nat.le_refl _⟩ f21 (R_mono (fun r18 G19 h20 H => ?_) H)
        show S l MX7_takeBest (d + 1, 0, 0, 0, 0) 49 [some (vR a0), some (vI a1), some (vI r6), some (vI r11), none] [vI r18] G19 h20 Q
        refine s_aload_n dX7_takeBest_49 rfl rfl ?_
        have f22 := H.1
        replace H := H.2
        refine s_getf (c := 7) (k := 9) (t := 0) (j := 9) dX7_takeBest_50 fl_X7_82 (by decide) (by decide) rfl rfl f22 ?_
        have f23 := H.1
        replace H := H.2
        have f24 := H.1
        replace H := H.2
        refine s_icmp_ne (tgt := 87) dX7_takeBest_53 (by decide) f23 f24 (fun c25 => ?_) (fun c25 => ?_)
        · replace H := H.1 c25
          refine s_iinc dX7_takeBest_87 rfl (by decide) rfl ?_
          show S l MX7_takeBest (d + 1, 0, 0, 0, 0) 90 [some (vR a0), some (vI (a1 + 1)), some (vI r6), some (vI r11), none] [] G19 h20 Q
          refine s_goto (tgt := 2) dX7_takeBest_90 (by decide) ?_
          exact S_cut (by first | exact ⟨rfl, ⟨rfl, trivial⟩⟩ | simp [lsub]) H
        · replace H := H.2 c25
          refine s_aload_n dX7_takeBest_56 rfl rfl ?_
          refine s_getf (c := 7) (k := 2) (t := 2) (j := 2) dX7_takeBest_57 fl_X7_15 (by decide) (by decide) rfl rfl f22 ?_
          refine s_iload_n dX7_takeBest_60 rfl rfl ?_
          have f26 := H.1
          replace H := H.2
          refine s_iald dX7_takeBest_61 f26 ?_
          refine s_istore dX7_takeBest_62 (by decide) rfl ?_
          show S l MX7_takeBest (d + 1, 0, 0, 0, 0) 64 [some (vR a0), some (vI a1), some (vI r6), some (vI r11), some (vI (h20 (h20 a0 2) r6))] [] G19 h20 Q
          refine s_aload_n dX7_takeBest_64 rfl rfl ?_
          refine s_iload_n dX7_takeBest_65 rfl rfl ?_
          refine s_iload_n dX7_takeBest_66 rfl rfl ?_
          refine s_callV (M' := MX7_cut) (As := [vI a1, vI r11]) (a := a0) (st := []) dX7_takeBest_67 ml_X7_107 cv_X7_cut rfl rfl (Nat.le_of_ble_eq_true rfl) ⟨Nat.le_refl _, Nat.le_refl _⟩ f22 (R_mono (fun r27 G28 h29 H => ?_) H)
          show S l MX7_takeBest (d + 1, 0, 0, 0, 0) 70 [some (vR a0), some (vI a1), some (vI r6), some (vI r11), some (vI (h20 (h20 a0 2) r6))] [] G28 h29 Q
          refine s_aload_n dX7_takeBest_70 rfl rfl ?_
          refine s_iload_n dX7_takeBest_71 rfl rfl ?_
          refine s_iload_n dX7_takeBest_72 rfl rfl ?_
          have f33 := H.1
          replace H := H.2
          refine s_callV (M' := MX7_cut) (As := [vI a1, vI r6]) (a := a0) (st := []) dX7_takeBest_73 ml_X7_107 cv_X7_cut rfl rfl (Nat.le_of_ble_eq_true rfl) ⟨Nat.le_refl _, Nat.le_refl _⟩ f33 (R_mono (fun r30 G31 h32 H => ?_) H)
          show S l MX7_takeBest (d + 1, 0, 0, 0, 0) 76 [some (vR a0), some (vI a1), some (vI r6), some (vI r11), some (vI (h20 (h20 a0 2) r6))] [] G31 h32 Q
          refine s_aload_n dX7_takeBest_76 rfl rfl ?_
          refine s_iload_n dX7_takeBest_77 rfl rfl ?_
          refine s_aload_n dX7_takeBest_78 rfl rfl ?_
          have f34 := H.1
          replace H := H.2
          refine s_getf (c := 7) (k := 6) (t := 0) (j := 6) dX7_takeBest_79 fl_X7_55 (by decide) (by decide) rfl rfl f34 ?_
          refine s_iload dX7_takeBest_82 rfl ?_
          refine s_callV (M' := MX7_append) (As := [vI a1, vI (h32 a0 6), vI (h20 (h20 a0 2) r6)]) (a := a0) (st := []) dX7_takeBest_84 ml_X7_67 cv_X7_append rfl rfl (Nat.le_of_ble_eq_true rfl) ⟨Nat.le_refl _, Nat.le_refl _⟩ f34 (R_mono (fun r35 G36 h37 H => ?_) H)
          show S l MX7_takeBest (d + 1, 0, 0, 0, 0) 87 [some (vR a0), some (vI a1), some (vI r6), some (vI r11), some (vI (h20 (h20 a0 2) r6))] [] G36 h37 Q
          refine s_iinc dX7_takeBest_87 rfl (by decide) rfl ?_
          show S l MX7_takeBest (d + 1, 0, 0, 0, 0) 90 [some (vR a0), some (vI (a1 + 1)), some (vI r6), some (vI r11), some (vI (h20 (h20 a0 2) r6))] [] G36 h37 Q
          refine s_goto (tgt := 2) dX7_takeBest_90 (by decide) ?_
          exact S_cut (by first | exact ⟨rfl, ⟨rfl, trivial⟩⟩ | simp [lsub]) H
set_option maxHeartbeats 4000000 in
set_option maxRecDepth 100000 in
theorem vX7_cut_0 {l : Launch} {d : Nat} {G : GS} {h : HP} {Q : Int → GS → HP → Prop} (a0 a1 a2 : Int) (H : (ty G a0 = 7) ∧ (inA G 10 (h a0 3) a1) ∧ (cpA G (h a0 1) (a2 + 1) (h a0 1) a2 ((((9 * a1) + (h (h a0 3) a1)) - a2) - 1)) ∧ ∀ h4 : HP, h4 = hcopy h (h a0 1) (a2 + 1) (h a0 1) a2 ((((9 * a1) + (h (h a0 3) a1)) - a2) - 1) → (cpA G (h4 a0 2) (a2 + 1) (h4 a0 2) a2 ((((9 * a1) + (h (h a0 3) a1)) - a2) - 1)) ∧ ∀ h6 : HP, h6 = hcopy h4 (h4 a0 2) (a2 + 1) (h4 a0 2) a2 ((((9 * a1) + (h (h a0 3) a1)) - a2) - 1) → (inA G 10 (h6 a0 3) a1) ∧ ∀ h8 : HP, h8 = hset h6 (h6 a0 3) a1 ((h6 (h6 a0 3) a1) - 1) → Q 0 G h8) : S l MX7_cut (d + 1, 0, 0, 0, 0) 0 [some (vR a0), some (vI a1), some (vI a2), none] [] G h Q := by
  refine s_bipush dX7_cut_0 (by decide) ?_
  refine s_iload_n dX7_cut_2 rfl rfl ?_
  refine s_imul dX7_cut_3 ?_
  refine s_aload_n dX7_cut_4 rfl rfl ?_
  have f1 := H.1
  replace H := H.2
  refine s_getf (c := 7) (k := 3) (t := 2) (j := 3) dX7_cut_5 fl_X7_18 (by decide) (by decide) rfl rfl f1 ?_
  refine s_iload_n dX7_cut_8 rfl rfl ?_
  have f2 := H.1
  replace H := H.2
  refine s_iald dX7_cut_9 f2 ?_
  refine s_iadd dX7_cut_10 ?_
  refine s_iload_n dX7_cut_11 rfl rfl ?_
  refine s_isub dX7_cut_12 ?_
  refine s_iconst dX7_cut_13 ?_
  refine s_isub dX7_cut_14 ?_
  refine s_istore_n dX7_cut_15 rfl (by decide) rfl ?_
  show S l MX7_cut (d + 1, 0, 0, 0, 0) 16 [some (vR a0), some (vI a1), some (vI a2), some (vI ((((9 * a1) + (h (h a0 3) a1)) - a2) - 1))] [] G h Q
  refine s_aload_n dX7_cut_16 rfl rfl ?_
  refine s_getf (c := 7) (k := 1) (t := 2) (j := 1) dX7_cut_17 fl_X7_9 (by decide) (by decide) rfl rfl f1 ?_
  refine s_iload_n dX7_cut_20 rfl rfl ?_
  refine s_iconst dX7_cut_21 ?_
  refine s_iadd dX7_cut_22 ?_
  refine s_aload_n dX7_cut_23 rfl rfl ?_
  refine s_getf (c := 7) (k := 1) (t := 2) (j := 1) dX7_cut_24 fl_X7_9 (by decide) (by decide) rfl rfl f1 ?_
  refine s_iload_n dX7_cut_27 rfl rfl ?_
  refine s_iload_n dX7_cut_28 rfl rfl ?_
  have f3 := H.1
  replace H := H.2
  refine s_copy dX7_cut_29 ml_X7_110 ac_native ac_static ac_init (Nat.succ_le_succ (Nat.zero_le _)) (Nat.le_of_ble_eq_true rfl) f3 (fun h4 eh4 => ?_)
  replace H := H h4 eh4
  refine s_aload_n dX7_cut_32 rfl rfl ?_
  refine s_getf (c := 7) (k := 2) (t := 2) (j := 2) dX7_cut_33 fl_X7_15 (by decide) (by decide) rfl rfl f1 ?_
  refine s_iload_n dX7_cut_36 rfl rfl ?_
  refine s_iconst dX7_cut_37 ?_
  refine s_iadd dX7_cut_38 ?_
  refine s_aload_n dX7_cut_39 rfl rfl ?_
  refine s_getf (c := 7) (k := 2) (t := 2) (j := 2) dX7_cut_40 fl_X7_15 (by decide) (by decide) rfl rfl f1 ?_
  refine s_iload_n dX7_cut_43 rfl rfl ?_
  refine s_iload_n dX7_cut_44 rfl rfl ?_
  have f5 := H.1
  replace H := H.2
  refine s_copy dX7_cut_45 ml_X7_110 ac_native ac_static ac_init (Nat.succ_le_succ (Nat.zero_le _)) (Nat.le_of_ble_eq_true rfl) f5 (fun h6 eh6 => ?_)
  replace H := H h6 eh6
  refine s_aload_n dX7_cut_48 rfl rfl ?_
  refine s_getf (c := 7) (k := 3) (t := 2) (j := 3) dX7_cut_49 fl_X7_18 (by decide) (by decide) rfl rfl f1 ?_
  refine s_iload_n dX7_cut_52 rfl rfl ?_
  refine s_dup2 dX7_cut_53 rfl rfl ?_
  have f7 := H.1
  replace H := H.2
  refine s_iald dX7_cut_54 f7 ?_
  refine s_iconst dX7_cut_55 ?_
  refine s_isub dX7_cut_56 ?_
  refine s_iastH dX7_cut_57 f7 (fun h8 eh8 => ?_)
  replace H := H h8 eh8
  exact s_vret dX7_cut_58 rfl ⟨Nat.le_refl _, Nat.le_refl _⟩ H
