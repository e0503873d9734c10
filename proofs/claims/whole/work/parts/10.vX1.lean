set_option maxHeartbeats 4000000 in
set_option maxRecDepth 100000 in
theorem vX1_become_0 {l : Launch} {d : Nat} {G : GS} {h : HP} {Q : Int → GS → HP → Prop} (a0 a1 : Int) (H : (ty G a0 = 1) ∧ ∀ h2 : HP, h2 = hset h a0 0 a1 → (inA G 10 (h2 a0 1) 0) ∧ ∀ h4 : HP, h4 = hset h2 (h2 a0 1) 0 1 → S l MX1_become (d, 0, 0, 0, 0) 14 [some (vR a0), none, some (vI 1), none] [] G h4 Q) : S l MX1_become (d, 0, 0, 0, 0) 0 [some (vR a0), some (vI a1), none, none] [] G h Q := by
  refine s_aload_n dX1_become_0 rfl rfl ?_
  refine s_iload_n dX1_become_1 rfl rfl ?_
  have f1 := H.1
  replace H := H.2
  refine s_putI (c := 1) (k := 0) (j := 0) dX1_become_2 fl_X1_22 (by decide) (by decide) rfl rfl rfl f1 (fun h2 eh2 => ?_)
  replace H := H h2 eh2
  refine s_aload_n dX1_become_5 rfl rfl ?_
  refine s_getf (c := 1) (k := 1) (t := 2) (j := 1) dX1_become_6 fl_X1_9 (by decide) (by decide) rfl rfl f1 ?_
  refine s_iconst dX1_become_9 ?_
  refine s_iconst dX1_become_10 ?_
  have f3 := H.1
  replace H := H.2
  refine s_iastH dX1_become_11 f3 (fun h4 eh4 => ?_)
  replace H := H h4 eh4
  refine s_iconst dX1_become_12 ?_
  refine s_istore_n dX1_become_13 rfl (by decide) rfl ?_
  show S l MX1_become (d, 0, 0, 0, 0) 14 [some (vR a0), some (vI a1), some (vI 1), none] [] G h4 Q
  exact S_cut (by first | exact ⟨rfl, ⟨rfl, trivial⟩⟩ | simp [lsub]) H
set_option maxHeartbeats 4000000 in
set_option maxRecDepth 100000 in
theorem vX1_become_14 {l : Launch} {d : Nat} {G : GS} {h : HP} {Q : Int → GS → HP → Prop} (a0 a2 : Int) (H : (inR a2) ∧ ((9 < a2 → S l MX1_become (d, 0, 0, 0, 0) 47 [some (vR a0), none, some (vI 1), none] [] G h Q) ∧ (a2 ≤ 9 → (ty G a0 = 1) ∧ (inA G 10 (h a0 1) (a2 - 1)) ∧ (inA G 10 (h a0 1) a2) ∧ ∀ h6 : HP, h6 = hset h (h a0 1) a2 ((h (h a0 1) (a2 - 1)) * (h a0 0)) → S l MX1_become (d, 0, 0, 0, 0) 14 [some (vR a0), none, some (vI (a2 + 1)), none] [] G h6 Q))) : S l MX1_become (d, 0, 0, 0, 0) 14 [some (vR a0), none, some (vI a2), none] [] G h Q := by
  refine s_iload_n dX1_become_14 rfl rfl ?_
  refine s_bipush dX1_become_15 (by decide) ?_
  have f1 := H.1
  replace H := H.2
  refine s_icmp_gt (tgt := 45) dX1_become_17 (by decide) f1 (by decide) (fun c2 => ?_) (fun c2 => ?_)
  · replace H := H.1 c2
    refine s_iconst dX1_become_45 ?_
    refine s_istore_n dX1_become_46 rfl (by decide) rfl ?_
    show S l MX1_become (d, 0, 0, 0, 0) 47 [some (vR a0), none, some (vI 1), none] [] G h Q
    exact S_cut (by first | exact ⟨rfl, ⟨rfl, trivial⟩⟩ | simp [lsub]) H
  · replace H := H.2 c2
    refine s_aload_n dX1_become_20 rfl rfl ?_
    have f3 := H.1
    replace H := H.2
    refine s_getf (c := 1) (k := 1) (t := 2) (j := 1) dX1_become_21 fl_X1_9 (by decide) (by decide) rfl rfl f3 ?_
    refine s_iload_n dX1_become_24 rfl rfl ?_
    refine s_aload_n dX1_become_25 rfl rfl ?_
    refine s_getf (c := 1) (k := 1) (t := 2) (j := 1) dX1_become_26 fl_X1_9 (by decide) (by decide) rfl rfl f3 ?_
    refine s_iload_n dX1_become_29 rfl rfl ?_
    refine s_iconst dX1_become_30 ?_
    refine s_isub dX1_become_31 ?_
    have f4 := H.1
    replace H := H.2
    refine s_iald dX1_become_32 f4 ?_
    refine s_aload_n dX1_become_33 rfl rfl ?_
    refine s_getf (c := 1) (k := 0) (t := 0) (j := 0) dX1_become_34 fl_X1_22 (by decide) (by decide) rfl rfl f3 ?_
    refine s_imul dX1_become_37 ?_
    have f5 := H.1
    replace H := H.2
    refine s_iastH dX1_become_38 f5 (fun h6 eh6 => ?_)
    replace H := H h6 eh6
    refine s_iinc dX1_become_39 rfl (by decide) rfl ?_
    show S l MX1_become (d, 0, 0, 0, 0) 42 [some (vR a0), none, some (vI (a2 + 1)), none] [] G h6 Q
    refine s_goto (tgt := 14) dX1_become_42 (by decide) ?_
    exact S_cut (by first | exact ⟨rfl, ⟨rfl, trivial⟩⟩ | simp [lsub]) H
set_option maxHeartbeats 4000000 in
set_option maxRecDepth 100000 in
theorem vX1_become_47 {l : Launch} {d : Nat} {G : GS} {h : HP} {Q : Int → GS → HP → Prop} (a0 a2 : Int) (H : (ty G a0 = 1) ∧ (inR a2) ∧ (inR (h a0 0)) ∧ (((h a0 0) ≤ a2 → Q 0 G h) ∧ (a2 < (h a0 0) → S l MX1_become (d, 0, 0, 0, 0) 57 [some (vR a0), none, some (vI a2), some (vI 1)] [] G h Q))) : S l MX1_become (d, 0, 0, 0, 0) 47 [some (vR a0), none, some (vI a2), none] [] G h Q := by
  refine s_iload_n dX1_become_47 rfl rfl ?_
  refine s_aload_n dX1_become_48 rfl rfl ?_
  have f1 := H.1
  replace H := H.2
  refine s_getf (c := 1) (k := 0) (t := 0) (j := 0) dX1_become_49 fl_X1_22 (by decide) (by decide) rfl rfl f1 ?_
  have f2 := H.1
  replace H := H.2
  have f3 := H.1
  replace H := H.2
  refine s_icmp_ge (tgt := 96) dX1_become_52 (by decide) f2 f3 (fun c4 => ?_) (fun c4 => ?_)
  · replace H := H.1 c4
    exact s_vret dX1_become_96 rfl ⟨Nat.le_refl _, Nat.le_refl _⟩ H
  · replace H := H.2 c4
    refine s_iconst dX1_become_55 ?_
    refine s_istore_n dX1_become_56 rfl (by decide) rfl ?_
    show S l MX1_become (d, 0, 0, 0, 0) 57 [some (vR a0), none, some (vI a2), some (vI 1)] [] G h Q
    exact S_cut (by first | exact ⟨rfl, ⟨rfl, ⟨rfl, trivial⟩⟩⟩ | simp [lsub]) H
set_option maxHeartbeats 4000000 in
set_option maxRecDepth 100000 in
theorem vX1_become_57 {l : Launch} {d : Nat} {G : GS} {h : HP} {Q : Int → GS → HP → Prop} (a0 a2 a3 : Int) (H : (ty G a0 = 1) ∧ (inR a3) ∧ (inR (h a0 0)) ∧ (((h a0 0) ≤ a3 → S l MX1_become (d, 0, 0, 0, 0) 47 [some (vR a0), none, some (vI (a2 + 1)), none] [] G h Q) ∧ (a3 < (h a0 0) → (dvR (a2 * a3) (h a0 0)) ∧ (inR ((a2 * a3) % (h a0 0))) ∧ ((((a2 * a3) % (h a0 0)) ≠ 1 → S l MX1_become (d, 0, 0, 0, 0) 57 [some (vR a0), none, some (vI a2), some (vI (a3 + 1))] [] G h Q) ∧ (((a2 * a3) % (h a0 0)) = 1 → (inA G 10 (h a0 2) a2) ∧ ∀ h9 : HP, h9 = hset h (h a0 2) a2 a3 → S l MX1_become (d, 0, 0, 0, 0) 57 [some (vR a0), none, some (vI a2), some (vI (a3 + 1))] [] G h9 Q))))) : S l MX1_become (d, 0, 0, 0, 0) 57 [some (vR a0), none, some (vI a2), some (vI a3)] [] G h Q := by
  refine s_iload_n dX1_become_57 rfl rfl ?_
  refine s_aload_n dX1_become_58 rfl rfl ?_
  have f1 := H.1
  replace H := H.2
  refine s_getf (c := 1) (k := 0) (t := 0) (j := 0) dX1_become_59 fl_X1_22 (by decide) (by decide) rfl rfl f1 ?_
  have f2 := H.1
  replace H := H.2
  have f3 := H.1
  replace H := H.2
  refine s_icmp_ge (tgt := 90) dX1_become_62 (by decide) f2 f3 (fun c4 => ?_) (fun c4 => ?_)
  · replace H := H.1 c4
    refine s_iinc dX1_become_90 rfl (by decide) rfl ?_
    show S l MX1_become (d, 0, 0, 0, 0) 93 [some (vR a0), none, some (vI (a2 + 1)), some (vI a3)] [] G h Q
    refine s_goto (tgt := 47) dX1_become_93 (by decide) ?_
    exact S_cut (by first | exact ⟨rfl, ⟨rfl, trivial⟩⟩ | simp [lsub]) H
  · replace H := H.2 c4
    refine s_iload_n dX1_become_65 rfl rfl ?_
    refine s_iload_n dX1_become_66 rfl rfl ?_
    refine s_imul dX1_become_67 ?_
    refine s_aload_n dX1_become_68 rfl rfl ?_
    refine s_getf (c := 1) (k := 0) (t := 0) (j := 0) dX1_become_69 fl_X1_22 (by decide) (by decide) rfl rfl f1 ?_
    have f5 := H.1
    replace H := H.2
    refine s_irem dX1_become_72 f5 ?_
    refine s_iconst dX1_become_73 ?_
    have f6 := H.1
    replace H := H.2
    refine s_icmp_ne (tgt := 84) dX1_become_74 (by decide) f6 (by decide) (fun c7 => ?_) (fun c7 => ?_)
    · replace H := H.1 c7
      refine s_iinc dX1_become_84 rfl (by decide) rfl ?_
      show S l MX1_become (d, 0, 0, 0, 0) 87 [some (vR a0), none, some (vI a2), some (vI (a3 + 1))] [] G h Q
      refine s_goto (tgt := 57) dX1_become_87 (by decide) ?_
      exact S_cut (by first | exact ⟨rfl, ⟨rfl, ⟨rfl, trivial⟩⟩⟩ | simp [lsub]) H
    · replace H := H.2 c7
      refine s_aload_n dX1_become_77 rfl rfl ?_
      refine s_getf (c := 1) (k := 2) (t := 2) (j := 2) dX1_become_78 fl_X1_15 (by decide) (by decide) rfl rfl f1 ?_
      refine s_iload_n dX1_become_81 rfl rfl ?_
      refine s_iload_n dX1_become_82 rfl rfl ?_
      have f8 := H.1
      replace H := H.2
      refine s_iastH dX1_become_83 f8 (fun h9 eh9 => ?_)
      replace H := H h9 eh9
      refine s_iinc dX1_become_84 rfl (by decide) rfl ?_
      show S l MX1_become (d, 0, 0, 0, 0) 87 [some (vR a0), none, some (vI a2), some (vI (a3 + 1))] [] G h9 Q
      refine s_goto (tgt := 57) dX1_become_87 (by decide) ?_
      exact S_cut (by first | exact ⟨rfl, ⟨rfl, ⟨rfl, trivial⟩⟩⟩ | simp [lsub]) H
set_option maxHeartbeats 4000000 in
set_option maxRecDepth 100000 in
theorem vX1_canBe_0 {l : Launch} {d : Nat} {G : GS} {h : HP} {Q : Int → GS → HP → Prop} (a0 : Int) (H : (inR a0) ∧ ((a0 = 2 → Q 1 G h) ∧ (a0 ≠ 2 → ((a0 = 3 → Q 1 G h) ∧ (a0 ≠ 3 → ((a0 = 5 → Q 1 G h) ∧ (a0 ≠ 5 → ((a0 ≠ 7 → Q 0 G h) ∧ (a0 = 7 → Q 1 G h))))))))) : S l MX1_canBe (d, 0, 0, 0, 0) 0 [some (vI a0)] [] G h Q := by
  refine s_iload_n dX1_canBe_0 rfl rfl ?_
  refine s_iconst dX1_canBe_1 ?_
  have f1 := H.1
  replace H := H.2
  refine s_icmp_eq (tgt := 21) dX1_canBe_2 (by decide) f1 (by decide) (fun c2 => ?_) (fun c2 => ?_)
  · replace H := H.1 c2
    refine s_iconst dX1_canBe_21 ?_
    refine s_goto (tgt := 26) dX1_canBe_22 (by decide) ?_
    exact s_zret dX1_canBe_26 rfl ⟨Nat.le_refl _, Nat.le_refl _⟩ (by decide) H
  · replace H := H.2 c2
    refine s_iload_n dX1_canBe_5 rfl rfl ?_
    refine s_iconst dX1_canBe_6 ?_
    refine s_icmp_eq (tgt := 21) dX1_canBe_7 (by decide) f1 (by decide) (fun c3 => ?_) (fun c3 => ?_)
    · replace H := H.1 c3
      refine s_iconst dX1_canBe_21 ?_
      refine s_goto (tgt := 26) dX1_canBe_22 (by decide) ?_
      exact s_zret dX1_canBe_26 rfl ⟨Nat.le_refl _, Nat.le_refl _⟩ (by decide) H
    · replace H := H.2 c3
      refine s_iload_n dX1_canBe_10 rfl rfl ?_
      refine s_iconst dX1_canBe_11 ?_
      refine s_icmp_eq (tgt := 21) dX1_canBe_12 (by decide) f1 (by decide) (fun c4 => ?_) (fun c4 => ?_)
      · replace H := H.1 c4
        refine s_iconst dX1_canBe_21 ?_
        refine s_goto (tgt := 26) dX1_canBe_22 (by decide) ?_
        exact s_zret dX1_canBe_26 rfl ⟨Nat.le_refl _, Nat.le_refl _⟩ (by decide) H
      · replace H := H.2 c4
        refine s_iload_n dX1_canBe_15 rfl rfl ?_
        refine s_bipush dX1_canBe_16 (by decide) ?_
        refine s_icmp_ne (tgt := 25) dX1_canBe_18 (by decide) f1 (by decide) (fun c5 => ?_) (fun c5 => ?_)
        · replace H := H.1 c5
          refine s_iconst dX1_canBe_25 ?_
          exact s_zret dX1_canBe_26 rfl ⟨Nat.le_refl _, Nat.le_refl _⟩ (by decide) H
        · replace H := H.2 c5
          refine s_iconst dX1_canBe_21 ?_
          refine s_goto (tgt := 26) dX1_canBe_22 (by decide) ?_
          exact s_zret dX1_canBe_26 rfl ⟨Nat.le_refl _, Nat.le_refl _⟩ (by decide) H
set_option maxHeartbeats 4000000 in
set_option maxRecDepth 100000 in
theorem vX1_withNumber_0 {l : Launch} {d : Nat} {G : GS} {h : HP} {Q : Int → GS → HP → Prop} (a0 a1 a2 a3 : Int) (H : (ty G a0 = 1) ∧ R l MX1_number d 0 0 [vR a0, vI a1, vI a2] G h (fun r1 G2 h3 => (ty G2 a0 = 1) ∧ (inA G2 10 (h3 a0 1) a2) ∧ Q (a1 + ((a3 - r1) * (h3 (h3 a0 1) a2))) G2 h3)) : S l MX1_withNumber (d + 1, 0, 0, 0, 0) 0 [some (vR a0), some (vI a1), some (vI a2), some (vI a3)] [] G h Q := by
  refine s_iload_n dX1_withNumber_0 rfl rfl ?_
  refine s_iload_n dX1_withNumber_1 rfl rfl ?_
  refine s_aload_n dX1_withNumber_2 rfl rfl ?_
  refine s_iload_n dX1_withNumber_3 rfl rfl ?_
  refine s_iload_n dX1_withNumber_4 rfl rfl ?_
  have f4 := H.1
  replace H := H.2
  refine s_callV (M' := MX1_number) (As := [vI a1, vI a2]) (a := a0) (st := [vI a3, vI a1]) dX1_withNumber_5 ml_X1_26 cv_X1_number rfl rfl (Nat.le_of_ble_eq_true rfl) ⟨Nat.le_refl _, Nat.le_refl _⟩ f4 (R_mono (fun r1 G2 h3 H => ?_) H)
  show S l MX1_withNumber (d + 1, 0, 0, 0, 0) 8 [some (vR a0), some (vI a1), some (vI a2), some (vI a3)] [vI r1, vI a3, vI a1] G2 h3 Q
  refine s_isub dX1_withNumber_8 ?_
  refine s_aload_n dX1_withNumber_9 rfl rfl ?_
  have f5 := H.1
  replace H := H.2
  refine s_getf (c := 1) (k := 1) (t := 2) (j := 1) dX1_withNumber_10 fl_X1_9 (by decide) (by decide) rfl rfl f5 ?_
  refine s_iload_n dX1_withNumber_13 rfl rfl ?_
  have f6 := H.1
  replace H := H.2
  refine s_iald dX1_withNumber_14 f6 ?_
  refine s_imul dX1_withNumber_15 ?_
  refine s_iadd dX1_withNumber_16 ?_
  exact s_iret dX1_withNumber_17 rfl ⟨Nat.le_refl _, Nat.le_refl _⟩ H
set_option maxHeartbeats 4000000 in
set_option maxRecDepth 100000 in
theorem vX1_number_0 {l : Launch} {d : Nat} {G : GS} {h : HP} {Q : Int → GS → HP → Prop} (a0 a1 a2 : Int) (H : (ty G a0 = 1) ∧ (inA G 10 (h a0 1) a2) ∧ (dvR a1 (h (h a0 1) a2)) ∧ (dvR (a1 / (h (h a0 1) a2)) (h a0 0)) ∧ Q ((a1 / (h (h a0 1) a2)) % (h a0 0)) G h) : S l MX1_number (d, 0, 0, 0, 0) 0 [some (vR a0), some (vI a1), some (vI a2)] [] G h Q := by
  refine s_iload_n dX1_number_0 rfl rfl ?_
  refine s_aload_n dX1_number_1 rfl rfl ?_
  have f1 := H.1
  replace H := H.2
  refine s_getf (c := 1) (k := 1) (t := 2) (j := 1) dX1_number_2 fl_X1_9 (by decide) (by decide) rfl rfl f1 ?_
  refine s_iload_n dX1_number_5 rfl rfl ?_
  have f2 := H.1
  replace H := H.2
  refine s_iald dX1_number_6 f2 ?_
  have f3 := H.1
  replace H := H.2
  refine s_idiv dX1_number_7 f3 ?_
  refine s_aload_n dX1_number_8 rfl rfl ?_
  refine s_getf (c := 1) (k := 0) (t := 0) (j := 0) dX1_number_9 fl_X1_22 (by decide) (by decide) rfl rfl f1 ?_
  have f4 := H.1
  replace H := H.2
  refine s_irem dX1_number_12 f4 ?_
  exact s_iret dX1_number_13 rfl ⟨Nat.le_refl _, Nat.le_refl _⟩ H
set_option maxHeartbeats 4000000 in
set_option maxRecDepth 100000 in
theorem vX1_isNumber_0 {l : Launch} {d : Nat} {G : GS} {h : HP} {Q : Int → GS → HP → Prop} (a0 a1 : Int) (H : (inR a1) ∧ ((a1 < 0 → Q 0 G h) ∧ (0 ≤ a1 → (ty G a0 = 1) ∧ (inR (h a0 0)) ∧ (((h a0 0) ≤ a1 → Q 0 G h) ∧ (a1 < (h a0 0) → Q 1 G h))))) : S l MX1_isNumber (d, 0, 0, 0, 0) 0 [some (vR a0), some (vI a1)] [] G h Q := by
  refine s_iload_n dX1_isNumber_0 rfl rfl ?_
  have f1 := H.1
  replace H := H.2
  refine s_if_lt (tgt := 16) dX1_isNumber_1 (by decide) f1 (fun c2 => ?_) (fun c2 => ?_)
  · replace H := H.1 c2
    refine s_iconst dX1_isNumber_16 ?_
    exact s_zret dX1_isNumber_17 rfl ⟨Nat.le_refl _, Nat.le_refl _⟩ (by decide) H
  · replace H := H.2 c2
    refine s_iload_n dX1_isNumber_4 rfl rfl ?_
    refine s_aload_n dX1_isNumber_5 rfl rfl ?_
    have f3 := H.1
    replace H := H.2
    refine s_getf (c := 1) (k := 0) (t := 0) (j := 0) dX1_isNumber_6 fl_X1_22 (by decide) (by decide) rfl rfl f3 ?_
    have f4 := H.1
    replace H := H.2
    refine s_icmp_ge (tgt := 16) dX1_isNumber_9 (by decide) f1 f4 (fun c5 => ?_) (fun c5 => ?_)
    · replace H := H.1 c5
      refine s_iconst dX1_isNumber_16 ?_
      exact s_zret dX1_isNumber_17 rfl ⟨Nat.le_refl _, Nat.le_refl _⟩ (by decide) H
    · replace H := H.2 c5
      refine s_iconst dX1_isNumber_12 ?_
      refine s_goto (tgt := 17) dX1_isNumber_13 (by decide) ?_
      exact s_zret dX1_isNumber_17 rfl ⟨Nat.le_refl _, Nat.le_refl _⟩ (by decide) H
set_option maxHeartbeats 4000000 in
set_option maxRecDepth 100000 in
theorem vX1_filled_0 {l : Launch} {d : Nat} {G : GS} {h : HP} {Q : Int → GS → HP → Prop} (a0 a1 : Int) (H : S l MX1_filled (d, 0, 0, 0, 0) 7 [some (vR a0), none, some (vI 0), some (vI a1), some (vI 0)] [] G h Q) : S l MX1_filled (d, 0, 0, 0, 0) 0 [some (vR a0), some (vI a1), none, none, none] [] G h Q := by
  refine s_iconst dX1_filled_0 ?_
  refine s_istore_n dX1_filled_1 rfl (by decide) rfl ?_
  show S l MX1_filled (d, 0, 0, 0, 0) 2 [some (vR a0), some (vI a1), some (vI 0), none, none] [] G h Q
  refine s_iload_n dX1_filled_2 rfl rfl ?_
  refine s_istore_n dX1_filled_3 rfl (by decide) rfl ?_
  show S l MX1_filled (d, 0, 0, 0, 0) 4 [some (vR a0), some (vI a1), some (vI 0), some (vI a1), none] [] G h Q
  refine s_iconst dX1_filled_4 ?_
  refine s_istore dX1_filled_5 (by decide) rfl ?_
  show S l MX1_filled (d, 0, 0, 0, 0) 7 [some (vR a0), some (vI a1), some (vI 0), some (vI a1), some (vI 0)] [] G h Q
  exact S_cut (by first | exact ⟨rfl, ⟨rfl, ⟨rfl, ⟨rfl, trivial⟩⟩⟩⟩ | simp [lsub]) H
set_option maxHeartbeats 4000000 in
set_option maxRecDepth 100000 in
theorem vX1_filled_7 {l : Launch} {d : Nat} {G : GS} {h : HP} {Q : Int → GS → HP → Prop} (a0 a2 a3 a4 : Int) (H : (inR a4) ∧ ((9 ≤ a4 → Q a2 G h) ∧ (a4 < 9 → (inR a3) ∧ ((a3 = 0 → Q a2 G h) ∧ (a3 ≠ 0 → (ty G a0 = 1) ∧ (dvR a3 (h a0 0)) ∧ (inR (a3 % (h a0 0))) ∧ (((a3 % (h a0 0)) = 0 → S l MX1_filled (d, 0, 0, 0, 0) 7 [some (vR a0), none, some (vI a2), some (vI (a3 / (h a0 0))), some (vI (a4 + 1))] [] G h Q) ∧ ((a3 % (h a0 0)) ≠ 0 → S l MX1_filled (d, 0, 0, 0, 0) 7 [some (vR a0), none, some (vI (a2 + 1)), some (vI (a3 / (h a0 0))), some (vI (a4 + 1))] [] G h Q))))))) : S l MX1_filled (d, 0, 0, 0, 0) 7 [some (vR a0), none, some (vI a2), some (vI a3), some (vI a4)] [] G h Q := by
  refine s_iload dX1_filled_7 rfl ?_
  refine s_bipush dX1_filled_9 (by decide) ?_
  have f1 := H.1
  replace H := H.2
  refine s_icmp_ge (tgt := 43) dX1_filled_11 (by decide) f1 (by decide) (fun c2 => ?_) (fun c2 => ?_)
  · replace H := H.1 c2
    refine s_iload_n dX1_filled_43 rfl rfl ?_
    exact s_iret dX1_filled_44 rfl ⟨Nat.le_refl _, Nat.le_refl _⟩ H
  · replace H := H.2 c2
    refine s_iload_n dX1_filled_14 rfl rfl ?_
    have f3 := H.1
    replace H := H.2
    refine s_if_eq (tgt := 43) dX1_filled_15 (by decide) f3 (fun c4 => ?_) (fun c4 => ?_)
    · replace H := H.1 c4
      refine s_iload_n dX1_filled_43 rfl rfl ?_
      exact s_iret dX1_filled_44 rfl ⟨Nat.le_refl _, Nat.le_refl _⟩ H
    · replace H := H.2 c4
      refine s_iload_n dX1_filled_18 rfl rfl ?_
      refine s_aload_n dX1_filled_19 rfl rfl ?_
      have f5 := H.1
      replace H := H.2
      refine s_getf (c := 1) (k := 0) (t := 0) (j := 0) dX1_filled_20 fl_X1_22 (by decide) (by decide) rfl rfl f5 ?_
      have f6 := H.1
      replace H := H.2
      refine s_irem dX1_filled_23 f6 ?_
      have f7 := H.1
      replace H := H.2
      refine s_if_eq (tgt := 30) dX1_filled_24 (by decide) f7 (fun c8 => ?_) (fun c8 => ?_)
      · replace H := H.1 c8
        refine s_iload_n dX1_filled_30 rfl rfl ?_
        refine s_aload_n dX1_filled_31 rfl rfl ?_
        refine s_getf (c := 1) (k := 0) (t := 0) (j := 0) dX1_filled_32 fl_X1_22 (by decide) (by decide) rfl rfl f5 ?_
        refine s_idiv dX1_filled_35 f6 ?_
        refine s_istore_n dX1_filled_36 rfl (by decide) rfl ?_
        show S l MX1_filled (d, 0, 0, 0, 0) 37 [some (vR a0), none, some (vI a2), some (vI (a3 / (h a0 0))), some (vI a4)] [] G h Q
        refine s_iinc dX1_filled_37 rfl (by decide) rfl ?_
        show S l MX1_filled (d, 0, 0, 0, 0) 40 [some (vR a0), none, some (vI a2), some (vI (a3 / (h a0 0))), some (vI (a4 + 1))] [] G h Q
        refine s_goto (tgt := 7) dX1_filled_40 (by decide) ?_
        exact S_cut (by first | exact ⟨rfl, ⟨rfl, ⟨rfl, ⟨rfl, trivial⟩⟩⟩⟩ | simp [lsub]) H
      · replace H := H.2 c8
        refine s_iinc dX1_filled_27 rfl (by decide) rfl ?_
        show S l MX1_filled (d, 0, 0, 0, 0) 30 [some (vR a0), none, some (vI (a2 + 1)), some (vI a3), some (vI a4)] [] G h Q
        refine s_iload_n dX1_filled_30 rfl rfl ?_
        refine s_aload_n dX1_filled_31 rfl rfl ?_
        refine s_getf (c := 1) (k := 0) (t := 0) (j := 0) dX1_filled_32 fl_X1_22 (by decide) (by decide) rfl rfl f5 ?_
        refine s_idiv dX1_filled_35 f6 ?_
        refine s_istore_n dX1_filled_36 rfl (by decide) rfl ?_
        show S l MX1_filled (d, 0, 0, 0, 0) 37 [some (vR a0), none, some (vI (a2 + 1)), some (vI (a3 / (h a0 0))), some (vI a4)] [] G h Q
        refine s_iinc dX1_filled_37 rfl (by decide) rfl ?_
        show S l MX1_filled (d, 0, 0, 0, 0) 40 [some (vR a0), none, some (vI (a2 + 1)), some (vI (a3 / (h a0 0))), some (vI (a4 + 1))] [] G h Q
        refine s_goto (tgt := 7) dX1_filled_40 (by decide) ?_
        exact S_cut (by first | exact ⟨rfl, ⟨rfl, ⟨rfl, ⟨rfl, trivial⟩⟩⟩⟩ | simp [lsub]) H
set_option maxHeartbeats 4000000 in
set_option maxRecDepth 100000 in
theorem vX1_shape_0 {l : Launch} {d : Nat} {G : GS} {h : HP} {Q : Int → GS → HP → Prop} (a0 a1 : Int) (H : (ty G a0 = 1) ∧ (inR (h a0 0)) ∧ (((h a0 0) = 2 → Q a1 G h) ∧ ((h a0 0) ≠ 2 → (inR a1) ∧ ((a1 ≠ 0 → R l MX1_firstIndex d 0 0 [vR a0, vI a1] G h (fun r6 G7 h8 => (ty G7 a0 = 1) ∧ R l MX1_number d 0 0 [vR a0, vI a1, vI r6] G7 h8 (fun r9 G10 h11 => (inA G10 10 (h a0 2) r9) ∧ (ty G10 a0 = 1) ∧ R l MX1_plus d 0 0 [vR a0, vI 0, vI (h11 (h a0 2) r9), vI a1] G10 h11 (fun r14 G15 h16 => Q r14 G15 h16)))) ∧ (a1 = 0 → Q a1 G h))))) : S l MX1_shape (d + 1, 0, 0, 0, 0) 0 [some (vR a0), some (vI a1)] [] G h Q := by
  refine s_aload_n dX1_shape_0 rfl rfl ?_
  have f1 := H.1
  replace H := H.2
  refine s_getf (c := 1) (k := 0) (t := 0) (j := 0) dX1_shape_1 fl_X1_22 (by decide) (by decide) rfl rfl f1 ?_
  refine s_iconst dX1_shape_4 ?_
  have f2 := H.1
  replace H := H.2
  refine s_icmp_eq (tgt := 12) dX1_shape_5 (by decide) f2 (by decide) (fun c3 => ?_) (fun c3 => ?_)
  · replace H := H.1 c3
    refine s_iload_n dX1_shape_12 rfl rfl ?_
    exact s_iret dX1_shape_13 rfl ⟨Nat.le_refl _, Nat.le_refl _⟩ H
  · replace H := H.2 c3
    refine s_iload_n dX1_shape_8 rfl rfl ?_
    have f4 := H.1
    replace H := H.2
    refine s_if_ne (tgt := 14) dX1_shape_9 (by decide) f4 (fun c5 => ?_) (fun c5 => ?_)
    · replace H := H.1 c5
      refine s_aload_n dX1_shape_14 rfl rfl ?_
      refine s_iconst dX1_shape_15 ?_
      refine s_aload_n dX1_shape_16 rfl rfl ?_
      refine s_getf (c := 1) (k := 2) (t := 2) (j := 2) dX1_shape_17 fl_X1_15 (by decide) (by decide) rfl rfl f1 ?_
      refine s_aload_n dX1_shape_20 rfl rfl ?_
      refine s_iload_n dX1_shape_21 rfl rfl ?_
      refine s_aload_n dX1_shape_22 rfl rfl ?_
      refine s_iload_n dX1_shape_23 rfl rfl ?_
      refine s_callV (M' := MX1_firstIndex) (As := [vI a1]) (a := a0) (st := [vI a1, vR a0, vR (h a0 2), vI 0, vR a0]) dX1_shape_24 ml_X1_34 cv_X1_firstIndex rfl rfl (Nat.le_of_ble_eq_true rfl) ⟨Nat.le_refl _, Nat.le_refl _⟩ f1 (R_mono (fun r6 G7 h8 H => ?_) H)
      show S l MX1_shape (d + 1, 0, 0, 0, 0) 27 [some (vR a0), some (vI a1)] [vI r6, vI a1, vR a0, vR (h a0 2), vI 0, vR a0] G7 h8 Q
      have f12 := H.1
      replace H := H.2
      refine s_callV (M' := MX1_number) (As := [vI a1, vI r6]) (a := a0) (st := [vR (h a0 2), vI 0, vR a0]) dX1_shape_27 ml_X1_26 cv_X1_number rfl rfl (Nat.le_of_ble_eq_true rfl) ⟨Nat.le_refl _, Nat.le_refl _⟩ f12 (R_mono (fun r9 G10 h11 H => ?_) H)
      show S l MX1_shape (d + 1, 0, 0, 0, 0) 30 [some (vR a0), some (vI a1)] [vI r9, vR (h a0 2), vI 0, vR a0] G10 h11 Q
      have f13 := H.1
      replace H := H.2
      refine s_iald dX1_shape_30 f13 ?_
      refine s_iload_n dX1_shape_31 rfl rfl ?_
      have f17 := H.1
      replace H := H.2
      refine s_callV (M' := MX1_plus) (As := [vI 0, vI (h11 (h a0 2) r9), vI a1]) (a := a0) (st := []) dX1_shape_32 ml_X1_30 cv_X1_plus rfl rfl (Nat.le_of_ble_eq_true rfl) ⟨Nat.le_refl _, Nat.le_refl _⟩ f17 (R_mono (fun r14 G15 h16 H => ?_) H)
      show S l MX1_shape (d + 1, 0, 0, 0, 0) 35 [some (vR a0), some (vI a1)] [vI r14] G15 h16 Q
      exact s_iret dX1_shape_35 rfl ⟨Nat.le_refl _, Nat.le_refl _⟩ H
    · replace H := H.2 c5
      refine s_iload_n dX1_shape_12 rfl rfl ?_
      exact s_iret dX1_shape_13 rfl ⟨Nat.le_refl _, Nat.le_refl _⟩ H
set_option maxHeartbeats 4000000 in
set_option maxRecDepth 100000 in
theorem vX1_firstIndex_0 {l : Launch} {d : Nat} {G : GS} {h : HP} {Q : Int → GS → HP → Prop} (a0 a1 : Int) (H : S l MX1_firstIndex (d, 0, 0, 0, 0) 4 [some (vR a0), none, some (vI a1), some (vI 0)] [] G h Q) : S l MX1_firstIndex (d, 0, 0, 0, 0) 0 [some (vR a0), some (vI a1), none, none] [] G h Q := by
  refine s_iload_n dX1_firstIndex_0 rfl rfl ?_
  refine s_istore_n dX1_firstIndex_1 rfl (by decide) rfl ?_
  show S l MX1_firstIndex (d, 0, 0, 0, 0) 2 [some (vR a0), some (vI a1), some (vI a1), none] [] G h Q
  refine s_iconst dX1_firstIndex_2 ?_
  refine s_istore_n dX1_firstIndex_3 rfl (by decide) rfl ?_
  show S l MX1_firstIndex (d, 0, 0, 0, 0) 4 [some (vR a0), some (vI a1), some (vI a1), some (vI 0)] [] G h Q
  exact S_cut (by first | exact ⟨rfl, ⟨rfl, ⟨rfl, trivial⟩⟩⟩ | simp [lsub]) H
set_option maxHeartbeats 4000000 in
set_option maxRecDepth 100000 in
theorem vX1_firstIndex_4 {l : Launch} {d : Nat} {G : GS} {h : HP} {Q : Int → GS → HP → Prop} (a0 a2 a3 : Int) (H : (inR a3) ∧ ((9 ≤ a3 → Q 0 G h) ∧ (a3 < 9 → (ty G a0 = 1) ∧ (dvR a2 (h a0 0)) ∧ (inR (a2 % (h a0 0))) ∧ (((a2 % (h a0 0)) = 0 → S l MX1_firstIndex (d, 0, 0, 0, 0) 4 [some (vR a0), none, some (vI (a2 / (h a0 0))), some (vI (a3 + 1))] [] G h Q) ∧ ((a2 % (h a0 0)) ≠ 0 → Q a3 G h))))) : S l MX1_firstIndex (d, 0, 0, 0, 0) 4 [some (vR a0), none, some (vI a2), some (vI a3)] [] G h Q := by
  refine s_iload_n dX1_firstIndex_4 rfl rfl ?_
  refine s_bipush dX1_firstIndex_5 (by decide) ?_
  have f1 := H.1
  replace H := H.2
  refine s_icmp_ge (tgt := 34) dX1_firstIndex_7 (by decide) f1 (by decide) (fun c2 => ?_) (fun c2 => ?_)
  · replace H := H.1 c2
    refine s_iconst dX1_firstIndex_34 ?_
    exact s_iret dX1_firstIndex_35 rfl ⟨Nat.le_refl _, Nat.le_refl _⟩ H
  · replace H := H.2 c2
    refine s_iload_n dX1_firstIndex_10 rfl rfl ?_
    refine s_aload_n dX1_firstIndex_11 rfl rfl ?_
    have f3 := H.1
    replace H := H.2
    refine s_getf (c := 1) (k := 0) (t := 0) (j := 0) dX1_firstIndex_12 fl_X1_22 (by decide) (by decide) rfl rfl f3 ?_
    have f4 := H.1
    replace H := H.2
    refine s_irem dX1_firstIndex_15 f4 ?_
    have f5 := H.1
    replace H := H.2
    refine s_if_eq (tgt := 21) dX1_firstIndex_16 (by decide) f5 (fun c6 => ?_) (fun c6 => ?_)
    · replace H := H.1 c6
      refine s_iload_n dX1_firstIndex_21 rfl rfl ?_
      refine s_aload_n dX1_firstIndex_22 rfl rfl ?_
      refine s_getf (c := 1) (k := 0) (t := 0) (j := 0) dX1_firstIndex_23 fl_X1_22 (by decide) (by decide) rfl rfl f3 ?_
      refine s_idiv dX1_firstIndex_26 f4 ?_
      refine s_istore_n dX1_firstIndex_27 rfl (by decide) rfl ?_
      show S l MX1_firstIndex (d, 0, 0, 0, 0) 28 [some (vR a0), none, some (vI (a2 / (h a0 0))), some (vI a3)] [] G h Q
      refine s_iinc dX1_firstIndex_28 rfl (by decide) rfl ?_
      show S l MX1_firstIndex (d, 0, 0, 0, 0) 31 [some (vR a0), none, some (vI (a2 / (h a0 0))), some (vI (a3 + 1))] [] G h Q
      refine s_goto (tgt := 4) dX1_firstIndex_31 (by decide) ?_
      exact S_cut (by first | exact ⟨rfl, ⟨rfl, ⟨rfl, trivial⟩⟩⟩ | simp [lsub]) H
    · replace H := H.2 c6
      refine s_iload_n dX1_firstIndex_19 rfl rfl ?_
      exact s_iret dX1_firstIndex_20 rfl ⟨Nat.le_refl _, Nat.le_refl _⟩ H
set_option maxHeartbeats 4000000 in
set_option maxRecDepth 100000 in
theorem vX1_plus_0 {l : Launch} {d : Nat} {G : GS} {h : HP} {Q : Int → GS → HP → Prop} (a0 a1 a2 a3 : Int) (H : (inR a2) ∧ ((a2 ≠ 0 → (ty G a0 = 1) ∧ (inR (h a0 0)) ∧ (((h a0 0) ≠ 2 → S l MX1_plus (d, 0, 0, 0, 0) 30 [some (vR a0), none, some (vI a2), none, some (vI 0), some (vI a1), some (vI a3), some (vI 0)] [] G h Q) ∧ ((h a0 0) = 2 → (0 ≤ a1) ∧ (0 ≤ a3) ∧ Q (((a1.toNat ^^^ a3.toNat : Nat) : Int)) G h))) ∧ (a2 = 0 → Q a1 G h))) : S l MX1_plus (d, 0, 0, 0, 0) 0 [some (vR a0), some (vI a1), some (vI a2), some (vI a3), none, none, none, none] [] G h Q := by
  refine s_iload_n dX1_plus_0 rfl rfl ?_
  have f1 := H.1
  replace H := H.2
  refine s_if_ne (tgt := 6) dX1_plus_1 (by decide) f1 (fun c2 => ?_) (fun c2 => ?_)
  · replace H := H.1 c2
    refine s_aload_n dX1_plus_6 rfl rfl ?_
    have f3 := H.1
    replace H := H.2
    refine s_getf (c := 1) (k := 0) (t := 0) (j := 0) dX1_plus_7 fl_X1_22 (by decide) (by decide) rfl rfl f3 ?_
    refine s_iconst dX1_plus_10 ?_
    have f4 := H.1
    replace H := H.2
    refine s_icmp_ne (tgt := 18) dX1_plus_11 (by decide) f4 (by decide) (fun c5 => ?_) (fun c5 => ?_)
    · replace H := H.1 c5
      refine s_iconst dX1_plus_18 ?_
      refine s_istore dX1_plus_19 (by decide) rfl ?_
      show S l MX1_plus (d, 0, 0, 0, 0) 21 [some (vR a0), some (vI a1), some (vI a2), some (vI a3), some (vI 0), none, none, none] [] G h Q
      refine s_iload_n dX1_plus_21 rfl rfl ?_
      refine s_istore dX1_plus_22 (by decide) rfl ?_
      show S l MX1_plus (d, 0, 0, 0, 0) 24 [some (vR a0), some (vI a1), some (vI a2), some (vI a3), some (vI 0), some (vI a1), none, none] [] G h Q
      refine s_iload_n dX1_plus_24 rfl rfl ?_
      refine s_istore dX1_plus_25 (by decide) rfl ?_
      show S l MX1_plus (d, 0, 0, 0, 0) 27 [some (vR a0), some (vI a1), some (vI a2), some (vI a3), some (vI 0), some (vI a1), some (vI a3), none] [] G h Q
      refine s_iconst dX1_plus_27 ?_
      refine s_istore dX1_plus_28 (by decide) rfl ?_
      show S l MX1_plus (d, 0, 0, 0, 0) 30 [some (vR a0), some (vI a1), some (vI a2), some (vI a3), some (vI 0), some (vI a1), some (vI a3), some (vI 0)] [] G h Q
      exact S_cut (by first | exact ⟨rfl, ⟨rfl, ⟨rfl, ⟨rfl, ⟨rfl, ⟨rfl, trivial⟩⟩⟩⟩⟩⟩ | simp [lsub]) H
    · replace H := H.2 c5
      refine s_iload_n dX1_plus_14 rfl rfl ?_
      refine s_iload_n dX1_plus_15 rfl rfl ?_
      have f6 := H.1
      replace H := H.2
      have f7 := H.1
      replace H := H.2
      refine s_ixor dX1_plus_16 f6 f7 ?_
      exact s_iret dX1_plus_17 rfl ⟨Nat.le_refl _, Nat.le_refl _⟩ H
  · replace H := H.2 c2
    refine s_iload_n dX1_plus_4 rfl rfl ?_
    exact s_iret dX1_plus_5 rfl ⟨Nat.le_refl _, Nat.le_refl _⟩ H
set_option maxHeartbeats 4000000 in
set_option maxRecDepth 100000 in
theorem vX1_plus_30 {l : Launch} {d : Nat} {G : GS} {h : HP} {Q : Int → GS → HP → Prop} (a0 a2 a4 a5 a6 a7 : Int) (H : (inR a7) ∧ ((9 ≤ a7 → Q a4 G h) ∧ (a7 < 9 → (0 ≤ a5) ∧ (0 ≤ a6) ∧ (inR (((a5.toNat ||| a6.toNat : Nat) : Int))) ∧ (((((a5.toNat ||| a6.toNat : Nat) : Int)) = 0 → Q a4 G h) ∧ ((((a5.toNat ||| a6.toNat : Nat) : Int)) ≠ 0 → (ty G a0 = 1) ∧ (dvR a5 (h a0 0)) ∧ (dvR a6 (h a0 0)) ∧ (dvR ((a5 % (h a0 0)) + (a2 * (a6 % (h a0 0)))) (h a0 0)) ∧ (inA G 10 (h a0 1) a7) ∧ S l MX1_plus (d, 0, 0, 0, 0) 30 [some (vR a0), none, some (vI a2), none, some (vI (a4 + ((((a5 % (h a0 0)) + (a2 * (a6 % (h a0 0)))) % (h a0 0)) * (h (h a0 1) a7)))), some (vI (a5 / (h a0 0))), some (vI (a6 / (h a0 0))), some (vI (a7 + 1))] [] G h Q))))) : S l MX1_plus (d, 0, 0, 0, 0) 30 [some (vR a0), none, some (vI a2), none, some (vI a4), some (vI a5), some (vI a6), some (vI a7)] [] G h Q := by
  refine s_iload dX1_plus_30 rfl ?_
  refine s_bipush dX1_plus_32 (by decide) ?_
  have f1 := H.1
  replace H := H.2
  refine s_icmp_ge (tgt := 104) dX1_plus_34 (by decide) f1 (by decide) (fun c2 => ?_) (fun c2 => ?_)
  · replace H := H.1 c2
    refine s_iload dX1_plus_104 rfl ?_
    exact s_iret dX1_plus_106 rfl ⟨Nat.le_refl _, Nat.le_refl _⟩ H
  · replace H := H.2 c2
    refine s_iload dX1_plus_37 rfl ?_
    refine s_iload dX1_plus_39 rfl ?_
    have f3 := H.1
    replace H := H.2
    have f4 := H.1
    replace H := H.2
    refine s_ior dX1_plus_41 f3 f4 ?_
    have f5 := H.1
    replace H := H.2
    refine s_if_eq (tgt := 104) dX1_plus_42 (by decide) f5 (fun c6 => ?_) (fun c6 => ?_)
    · replace H := H.1 c6
      refine s_iload dX1_plus_104 rfl ?_
      exact s_iret dX1_plus_106 rfl ⟨Nat.le_refl _, Nat.le_refl _⟩ H
    · replace H := H.2 c6
      refine s_iload dX1_plus_45 rfl ?_
      refine s_iload dX1_plus_47 rfl ?_
      refine s_aload_n dX1_plus_49 rfl rfl ?_
      have f7 := H.1
      replace H := H.2
      refine s_getf (c := 1) (k := 0) (t := 0) (j := 0) dX1_plus_50 fl_X1_22 (by decide) (by decide) rfl rfl f7 ?_
      have f8 := H.1
      replace H := H.2
      refine s_irem dX1_plus_53 f8 ?_
      refine s_iload_n dX1_plus_54 rfl rfl ?_
      refine s_iload dX1_plus_55 rfl ?_
      refine s_aload_n dX1_plus_57 rfl rfl ?_
      refine s_getf (c := 1) (k := 0) (t := 0) (j := 0) dX1_plus_58 fl_X1_22 (by decide) (by decide) rfl rfl f7 ?_
      have f9 := H.1
      replace H := H.2
      refine s_irem dX1_plus_61 f9 ?_
      refine s_imul dX1_plus_62 ?_
      refine s_iadd dX1_plus_63 ?_
      refine s_aload_n dX1_plus_64 rfl rfl ?_
      refine s_getf (c := 1) (k := 0) (t := 0) (j := 0) dX1_plus_65 fl_X1_22 (by decide) (by decide) rfl rfl f7 ?_
      have f10 := H.1
      replace H := H.2
      refine s_irem dX1_plus_68 f10 ?_
      refine s_aload_n dX1_plus_69 rfl rfl ?_
      refine s_getf (c := 1) (k := 1) (t := 2) (j := 1) dX1_plus_70 fl_X1_9 (by decide) (by decide) rfl rfl f7 ?_
      refine s_iload dX1_plus_73 rfl ?_
      have f11 := H.1
      replace H := H.2
      refine s_iald dX1_plus_75 f11 ?_
      refine s_imul dX1_plus_76 ?_
      refine s_iadd dX1_plus_77 ?_
      refine s_istore dX1_plus_78 (by decide) rfl ?_
      show S l MX1_plus (d, 0, 0, 0, 0) 80 [some (vR a0), none, some (vI a2), none, some (vI (a4 + ((((a5 % (h a0 0)) + (a2 * (a6 % (h a0 0)))) % (h a0 0)) * (h (h a0 1) a7)))), some (vI a5), some (vI a6), some (vI a7)] [] G h Q
      refine s_iload dX1_plus_80 rfl ?_
      refine s_aload_n dX1_plus_82 rfl rfl ?_
      refine s_getf (c := 1) (k := 0) (t := 0) (j := 0) dX1_plus_83 fl_X1_22 (by decide) (by decide) rfl rfl f7 ?_
      refine s_idiv dX1_plus_86 f8 ?_
      refine s_istore dX1_plus_87 (by decide) rfl ?_
      show S l MX1_plus (d, 0, 0, 0, 0) 89 [some (vR a0), none, some (vI a2), none, some (vI (a4 + ((((a5 % (h a0 0)) + (a2 * (a6 % (h a0 0)))) % (h a0 0)) * (h (h a0 1) a7)))), some (vI (a5 / (h a0 0))), some (vI a6), some (vI a7)] [] G h Q
      refine s_iload dX1_plus_89 rfl ?_
      refine s_aload_n dX1_plus_91 rfl rfl ?_
      refine s_getf (c := 1) (k := 0) (t := 0) (j := 0) dX1_plus_92 fl_X1_22 (by decide) (by decide) rfl rfl f7 ?_
      refine s_idiv dX1_plus_95 f9 ?_
      refine s_istore dX1_plus_96 (by decide) rfl ?_
      show S l MX1_plus (d, 0, 0, 0, 0) 98 [some (vR a0), none, some (vI a2), none, some (vI (a4 + ((((a5 % (h a0 0)) + (a2 * (a6 % (h a0 0)))) % (h a0 0)) * (h (h a0 1) a7)))), some (vI (a5 / (h a0 0))), some (vI (a6 / (h a0 0))), some (vI a7)] [] G h Q
      refine s_iinc dX1_plus_98 rfl (by decide) rfl ?_
      show S l MX1_plus (d, 0, 0, 0, 0) 101 [some (vR a0), none, some (vI a2), none, some (vI (a4 + ((((a5 % (h a0 0)) + (a2 * (a6 % (h a0 0)))) % (h a0 0)) * (h (h a0 1) a7)))), some (vI (a5 / (h a0 0))), some (vI (a6 / (h a0 0))), some (vI (a7 + 1))] [] G h Q
      refine s_goto (tgt := 30) dX1_plus_101 (by decide) ?_
      exact S_cut (by first | exact ⟨rfl, ⟨rfl, ⟨rfl, ⟨rfl, ⟨rfl, ⟨rfl, trivial⟩⟩⟩⟩⟩⟩ | simp [lsub]) H
set_option maxHeartbeats 4000000 in
set_option maxRecDepth 100000 in
theorem vX1_minus_0 {l : Launch} {d : Nat} {G : GS} {h : HP} {Q : Int → GS → HP → Prop} (a0 a1 a2 a3 : Int) (H : (ty G a0 = 1) ∧ (dvR ((h a0 0) - a2) (h a0 0)) ∧ R l MX1_plus d 0 0 [vR a0, vI a1, vI (((h a0 0) - a2) % (h a0 0)), vI a3] G h (fun r3 G4 h5 => Q r3 G4 h5)) : S l MX1_minus (d + 1, 0, 0, 0, 0) 0 [some (vR a0), some (vI a1), some (vI a2), some (vI a3)] [] G h Q := by
  refine s_aload_n dX1_minus_0 rfl rfl ?_
  refine s_iload_n dX1_minus_1 rfl rfl ?_
  refine s_aload_n dX1_minus_2 rfl rfl ?_
  have f1 := H.1
  replace H := H.2
  refine s_getf (c := 1) (k := 0) (t := 0) (j := 0) dX1_minus_3 fl_X1_22 (by decide) (by decide) rfl rfl f1 ?_
  refine s_iload_n dX1_minus_6 rfl rfl ?_
  refine s_isub dX1_minus_7 ?_
  refine s_aload_n dX1_minus_8 rfl rfl ?_
  refine s_getf (c := 1) (k := 0) (t := 0) (j := 0) dX1_minus_9 fl_X1_22 (by decide) (by decide) rfl rfl f1 ?_
  have f2 := H.1
  replace H := H.2
  refine s_irem dX1_minus_12 f2 ?_
  refine s_iload_n dX1_minus_13 rfl rfl ?_
  refine s_callV (M' := MX1_plus) (As := [vI a1, vI (((h a0 0) - a2) % (h a0 0)), vI a3]) (a := a0) (st := []) dX1_minus_14 ml_X1_30 cv_X1_plus rfl rfl (Nat.le_of_ble_eq_true rfl) ⟨Nat.le_refl _, Nat.le_refl _⟩ f1 (R_mono (fun r3 G4 h5 H => ?_) H)
  show S l MX1_minus (d + 1, 0, 0, 0, 0) 17 [some (vR a0), some (vI a1), some (vI a2), some (vI a3)] [vI r3] G4 h5 Q
  exact s_iret dX1_minus_17 rfl ⟨Nat.le_refl _, Nat.le_refl _⟩ H
set_option maxHeartbeats 4000000 in
set_option maxRecDepth 100000 in
theorem vX1_first_0 {l : Launch} {d : Nat} {G : GS} {h : HP} {Q : Int → GS → HP → Prop} (a0 a1 : Int) (H : (inR a1) ∧ ((a1 ≠ 0 → (ty G a0 = 1) ∧ R l MX1_firstIndex d 0 0 [vR a0, vI a1] G h (fun r3 G4 h5 => (ty G4 a0 = 1) ∧ R l MX1_number d 0 0 [vR a0, vI a1, vI r3] G4 h5 (fun r7 G8 h9 => Q r7 G8 h9))) ∧ (a1 = 0 → Q 0 G h))) : S l MX1_first (d + 1, 0, 0, 0, 0) 0 [some (vR a0), some (vI a1)] [] G h Q := by
  refine s_iload_n dX1_first_0 rfl rfl ?_
  have f1 := H.1
  replace H := H.2
  refine s_if_ne (tgt := 8) dX1_first_1 (by decide) f1 (fun c2 => ?_) (fun c2 => ?_)
  · replace H := H.1 c2
    refine s_aload_n dX1_first_8 rfl rfl ?_
    refine s_iload_n dX1_first_9 rfl rfl ?_
    refine s_aload_n dX1_first_10 rfl rfl ?_
    refine s_iload_n dX1_first_11 rfl rfl ?_
    have f6 := H.1
    replace H := H.2
    refine s_callV (M' := MX1_firstIndex) (As := [vI a1]) (a := a0) (st := [vI a1, vR a0]) dX1_first_12 ml_X1_34 cv_X1_firstIndex rfl rfl (Nat.le_of_ble_eq_true rfl) ⟨Nat.le_refl _, Nat.le_refl _⟩ f6 (R_mono (fun r3 G4 h5 H => ?_) H)
    show S l MX1_first (d + 1, 0, 0, 0, 0) 15 [some (vR a0), some (vI a1)] [vI r3, vI a1, vR a0] G4 h5 Q
    have f10 := H.1
    replace H := H.2
    refine s_callV (M' := MX1_number) (As := [vI a1, vI r3]) (a := a0) (st := []) dX1_first_15 ml_X1_26 cv_X1_number rfl rfl (Nat.le_of_ble_eq_true rfl) ⟨Nat.le_refl _, Nat.le_refl _⟩ f10 (R_mono (fun r7 G8 h9 H => ?_) H)
    show S l MX1_first (d + 1, 0, 0, 0, 0) 18 [some (vR a0), some (vI a1)] [vI r7] G8 h9 Q
    exact s_iret dX1_first_18 rfl ⟨Nat.le_refl _, Nat.le_refl _⟩ H
  · replace H := H.2 c2
    refine s_iconst dX1_first_4 ?_
    refine s_goto (tgt := 18) dX1_first_5 (by decide) ?_
    exact s_iret dX1_first_18 rfl ⟨Nat.le_refl _, Nat.le_refl _⟩ H
set_option maxHeartbeats 4000000 in
set_option maxRecDepth 100000 in
theorem vX1_shapes_0 {l : Launch} {d : Nat} {G : GS} {h : HP} {Q : Int → GS → HP → Prop} (a0 a1 : Int) (H : (ty G a0 = 1) ∧ (inA G 10 (h a0 1) a1) ∧ (dvR ((h (h a0 1) a1) - 1) ((h a0 0) - 1)) ∧ Q (((h (h a0 1) a1) - 1) / ((h a0 0) - 1)) G h) : S l MX1_shapes (d, 0, 0, 0, 0) 0 [some (vR a0), some (vI a1)] [] G h Q := by
  refine s_aload_n dX1_shapes_0 rfl rfl ?_
  have f1 := H.1
  replace H := H.2
  refine s_getf (c := 1) (k := 1) (t := 2) (j := 1) dX1_shapes_1 fl_X1_9 (by decide) (by decide) rfl rfl f1 ?_
  refine s_iload_n dX1_shapes_4 rfl rfl ?_
  have f2 := H.1
  replace H := H.2
  refine s_iald dX1_shapes_5 f2 ?_
  refine s_iconst dX1_shapes_6 ?_
  refine s_isub dX1_shapes_7 ?_
  refine s_aload_n dX1_shapes_8 rfl rfl ?_
  refine s_getf (c := 1) (k := 0) (t := 0) (j := 0) dX1_shapes_9 fl_X1_22 (by decide) (by decide) rfl rfl f1 ?_
  refine s_iconst dX1_shapes_12 ?_
  refine s_isub dX1_shapes_13 ?_
  have f3 := H.1
  replace H := H.2
  refine s_idiv dX1_shapes_14 f3 ?_
  exact s_iret dX1_shapes_15 rfl ⟨Nat.le_refl _, Nat.le_refl _⟩ H
set_option maxHeartbeats 4000000 in
set_option maxRecDepth 100000 in
theorem vX1_product_0 {l : Launch} {d : Nat} {G : GS} {h : HP} {Q : Int → GS → HP → Prop} (a0 a1 a2 a3 : Int) (H : S l MX1_product (d + 1, 0, 0, 0, 0) 9 [some (vR a0), none, some (vI a2), some (vI a3), some (vI 0), some (vI a1), some (vI 0)] [] G h Q) : S l MX1_product (d + 1, 0, 0, 0, 0) 0 [some (vR a0), some (vI a1), some (vI a2), some (vI a3), none, none, none] [] G h Q := by
  refine s_iconst dX1_product_0 ?_
  refine s_istore dX1_product_1 (by decide) rfl ?_
  show S l MX1_product (d + 1, 0, 0, 0, 0) 3 [some (vR a0), some (vI a1), some (vI a2), some (vI a3), some (vI 0), none, none] [] G h Q
  refine s_iload_n dX1_product_3 rfl rfl ?_
  refine s_istore dX1_product_4 (by decide) rfl ?_
  show S l MX1_product (d + 1, 0, 0, 0, 0) 6 [some (vR a0), some (vI a1), some (vI a2), some (vI a3), some (vI 0), some (vI a1), none] [] G h Q
  refine s_iconst dX1_product_6 ?_
  refine s_istore dX1_product_7 (by decide) rfl ?_
  show S l MX1_product (d + 1, 0, 0, 0, 0) 9 [some (vR a0), some (vI a1), some (vI a2), some (vI a3), some (vI 0), some (vI a1), some (vI 0)] [] G h Q
  exact S_cut (by first | exact ⟨rfl, ⟨rfl, ⟨rfl, ⟨rfl, ⟨rfl, ⟨rfl, trivial⟩⟩⟩⟩⟩⟩ | simp [lsub]) H
set_option maxHeartbeats 4000000 in
set_option maxRecDepth 100000 in
theorem vX1_product_9 {l : Launch} {d : Nat} {G : GS} {h : HP} {Q : Int → GS → HP → Prop} (a0 a2 a3 a4 a5 a6 : Int) (H : (inR a6) ∧ ((9 ≤ a6 → Q a4 G h) ∧ (a6 < 9 → (inR (a6 * a3)) ∧ ((9 ≤ (a6 * a3) → Q a4 G h) ∧ ((a6 * a3) < 9 → (ty G a0 = 1) ∧ (dvR a5 (h a0 0)) ∧ R l MX1_plus d 0 0 [vR a0, vI 0, vI (a5 % (h a0 0)), vI a2] G h (fun r7 G8 h9 => (ty G8 a0 = 1) ∧ (inA G8 10 (h9 a0 1) (a6 * a3)) ∧ (dvR a5 (h9 a0 0)) ∧ S l MX1_product (d + 1, 0, 0, 0, 0) 9 [some (vR a0), none, some (vI a2), some (vI a3), some (vI (a4 + (r7 * (h9 (h9 a0 1) (a6 * a3))))), some (vI (a5 / (h9 a0 0))), some (vI (a6 + 1))] [] G8 h9 Q)))))) : S l MX1_product (d + 1, 0, 0, 0, 0) 9 [some (vR a0), none, some (vI a2), some (vI a3), some (vI a4), some (vI a5), some (vI a6)] [] G h Q := by
  refine s_iload dX1_product_9 rfl ?_
  refine s_bipush dX1_product_11 (by decide) ?_
  have f1 := H.1
  replace H := H.2
  refine s_icmp_ge (tgt := 68) dX1_product_13 (by decide) f1 (by decide) (fun c2 => ?_) (fun c2 => ?_)
  · replace H := H.1 c2
    refine s_iload dX1_product_68 rfl ?_
    exact s_iret dX1_product_70 rfl ⟨Nat.le_refl _, Nat.le_refl _⟩ H
  · replace H := H.2 c2
    refine s_iload dX1_product_16 rfl ?_
    refine s_iload_n dX1_product_18 rfl rfl ?_
    refine s_imul dX1_product_19 ?_
    refine s_bipush dX1_product_20 (by decide) ?_
    have f3 := H.1
    replace H := H.2
    refine s_icmp_ge (tgt := 68) dX1_product_22 (by decide) f3 (by decide) (fun c4 => ?_) (fun c4 => ?_)
    · replace H := H.1 c4
      refine s_iload dX1_product_68 rfl ?_
      exact s_iret dX1_product_70 rfl ⟨Nat.le_refl _, Nat.le_refl _⟩ H
    · replace H := H.2 c4
      refine s_iload dX1_product_25 rfl ?_
      refine s_aload_n dX1_product_27 rfl rfl ?_
      refine s_iconst dX1_product_28 ?_
      refine s_iload dX1_product_29 rfl ?_
      refine s_aload_n dX1_product_31 rfl rfl ?_
      have f5 := H.1
      replace H := H.2
      refine s_getf (c := 1) (k := 0) (t := 0) (j := 0) dX1_product_32 fl_X1_22 (by decide) (by decide) rfl rfl f5 ?_
      have f6 := H.1
      replace H := H.2
      refine s_irem dX1_product_35 f6 ?_
      refine s_iload_n dX1_product_36 rfl rfl ?_
      refine s_callV (M' := MX1_plus) (As := [vI 0, vI (a5 % (h a0 0)), vI a2]) (a := a0) (st := [vI a4]) dX1_product_37 ml_X1_30 cv_X1_plus rfl rfl (Nat.le_of_ble_eq_true rfl) ⟨Nat.le_refl _, Nat.le_refl _⟩ f5 (R_mono (fun r7 G8 h9 H => ?_) H)
      show S l MX1_product (d + 1, 0, 0, 0, 0) 40 [some (vR a0), none, some (vI a2), some (vI a3), some (vI a4), some (vI a5), some (vI a6)] [vI r7, vI a4] G8 h9 Q
      refine s_aload_n dX1_product_40 rfl rfl ?_
      have f10 := H.1
      replace H := H.2
      refine s_getf (c := 1) (k := 1) (t := 2) (j := 1) dX1_product_41 fl_X1_9 (by decide) (by decide) rfl rfl f10 ?_
      refine s_iload dX1_product_44 rfl ?_
      refine s_iload_n dX1_product_46 rfl rfl ?_
      refine s_imul dX1_product_47 ?_
      have f11 := H.1
      replace H := H.2
      refine s_iald dX1_product_48 f11 ?_
      refine s_imul dX1_product_49 ?_
      refine s_iadd dX1_product_50 ?_
      refine s_istore dX1_product_51 (by decide) rfl ?_
      show S l MX1_product (d + 1, 0, 0, 0, 0) 53 [some (vR a0), none, some (vI a2), some (vI a3), some (vI (a4 + (r7 * (h9 (h9 a0 1) (a6 * a3))))), some (vI a5), some (vI a6)] [] G8 h9 Q
      refine s_iload dX1_product_53 rfl ?_
      refine s_aload_n dX1_product_55 rfl rfl ?_
      refine s_getf (c := 1) (k := 0) (t := 0) (j := 0) dX1_product_56 fl_X1_22 (by decide) (by decide) rfl rfl f10 ?_
      have f12 := H.1
      replace H := H.2
      refine s_idiv dX1_product_59 f12 ?_
      refine s_istore dX1_product_60 (by decide) rfl ?_
      show S l MX1_product (d + 1, 0, 0, 0, 0) 62 [some (vR a0), none, some (vI a2), some (vI a3), some (vI (a4 + (r7 * (h9 (h9 a0 1) (a6 * a3))))), some (vI (a5 / (h9 a0 0))), some (vI a6)] [] G8 h9 Q
      refine s_iinc dX1_product_62 rfl (by decide) rfl ?_
      show S l MX1_product (d + 1, 0, 0, 0, 0) 65 [some (vR a0), none, some (vI a2), some (vI a3), some (vI (a4 + (r7 * (h9 (h9 a0 1) (a6 * a3))))), some (vI (a5 / (h9 a0 0))), some (vI (a6 + 1))] [] G8 h9 Q
      refine s_goto (tgt := 9) dX1_product_65 (by decide) ?_
      exact S_cut (by first | exact ⟨rfl, ⟨rfl, ⟨rfl, ⟨rfl, ⟨rfl, ⟨rfl, trivial⟩⟩⟩⟩⟩⟩ | simp [lsub]) H
set_option maxHeartbeats 4000000 in
set_option maxRecDepth 100000 in
theorem vX1_sumOfProducts_0 {l : Launch} {d : Nat} {G : GS} {h : HP} {Q : Int → GS → HP → Prop} (a0 a1 a2 : Int) (H : S l MX1_sumOfProducts (d, 0, 0, 0, 0) 11 [some (vR a0), none, none, some (vI 0), some (vI a1), some (vI a2), some (vI 0)] [] G h Q) : S l MX1_sumOfProducts (d, 0, 0, 0, 0) 0 [some (vR a0), some (vI a1), some (vI a2), none, none, none, none] [] G h Q := by
  refine s_iconst dX1_sumOfProducts_0 ?_
  refine s_istore_n dX1_sumOfProducts_1 rfl (by decide) rfl ?_
  show S l MX1_sumOfProducts (d, 0, 0, 0, 0) 2 [some (vR a0), some (vI a1), some (vI a2), some (vI 0), none, none, none] [] G h Q
  refine s_iload_n dX1_sumOfProducts_2 rfl rfl ?_
  refine s_istore dX1_sumOfProducts_3 (by decide) rfl ?_
  show S l MX1_sumOfProducts (d, 0, 0, 0, 0) 5 [some (vR a0), some (vI a1), some (vI a2), some (vI 0), some (vI a1), none, none] [] G h Q
  refine s_iload_n dX1_sumOfProducts_5 rfl rfl ?_
  refine s_istore dX1_sumOfProducts_6 (by decide) rfl ?_
  show S l MX1_sumOfProducts (d, 0, 0, 0, 0) 8 [some (vR a0), some (vI a1), some (vI a2), some (vI 0), some (vI a1), some (vI a2), none] [] G h Q
  refine s_iconst dX1_sumOfProducts_8 ?_
  refine s_istore dX1_sumOfProducts_9 (by decide) rfl ?_
  show S l MX1_sumOfProducts (d, 0, 0, 0, 0) 11 [some (vR a0), some (vI a1), some (vI a2), some (vI 0), some (vI a1), some (vI a2), some (vI 0)] [] G h Q
  exact S_cut (by first | exact ⟨rfl, ⟨rfl, ⟨rfl, ⟨rfl, ⟨rfl, trivial⟩⟩⟩⟩⟩ | simp [lsub]) H
set_option maxHeartbeats 4000000 in
set_option maxRecDepth 100000 in
theorem vX1_sumOfProducts_11 {l : Launch} {d : Nat} {G : GS} {h : HP} {Q : Int → GS → HP → Prop} (a0 a3 a4 a5 a6 : Int) (H : (inR a6) ∧ ((9 ≤ a6 → (ty G a0 = 1) ∧ (dvR a3 (h a0 0)) ∧ Q (a3 % (h a0 0)) G h) ∧ (a6 < 9 → (inR a4) ∧ ((a4 = 0 → (ty G a0 = 1) ∧ (dvR a3 (h a0 0)) ∧ Q (a3 % (h a0 0)) G h) ∧ (a4 ≠ 0 → (inR a5) ∧ ((a5 = 0 → (ty G a0 = 1) ∧ (dvR a3 (h a0 0)) ∧ Q (a3 % (h a0 0)) G h) ∧ (a5 ≠ 0 → (ty G a0 = 1) ∧ (dvR a4 (h a0 0)) ∧ (dvR a5 (h a0 0)) ∧ S l MX1_sumOfProducts (d, 0, 0, 0, 0) 11 [some (vR a0), none, none, some (vI (a3 + ((a4 % (h a0 0)) * (a5 % (h a0 0))))), some (vI (a4 / (h a0 0))), some (vI (a5 / (h a0 0))), some (vI (a6 + 1))] [] G h Q))))))) : S l MX1_sumOfProducts (d, 0, 0, 0, 0) 11 [some (vR a0), none, none, some (vI a3), some (vI a4), some (vI a5), some (vI a6)] [] G h Q := by
  refine s_iload dX1_sumOfProducts_11 rfl ?_
  refine s_bipush dX1_sumOfProducts_13 (by decide) ?_
  have f1 := H.1
  replace H := H.2
  refine s_icmp_ge (tgt := 70) dX1_sumOfProducts_15 (by decide) f1 (by decide) (fun c2 => ?_) (fun c2 => ?_)
  · replace H := H.1 c2
    refine s_iload_n dX1_sumOfProducts_70 rfl rfl ?_
    refine s_aload_n dX1_sumOfProducts_71 rfl rfl ?_
    have f3 := H.1
    replace H := H.2
    refine s_getf (c := 1) (k := 0) (t := 0) (j := 0) dX1_sumOfProducts_72 fl_X1_22 (by decide) (by decide) rfl rfl f3 ?_
    have f4 := H.1
    replace H := H.2
    refine s_irem dX1_sumOfProducts_75 f4 ?_
    exact s_iret dX1_sumOfProducts_76 rfl ⟨Nat.le_refl _, Nat.le_refl _⟩ H
  · replace H := H.2 c2
    refine s_iload dX1_sumOfProducts_18 rfl ?_
    have f5 := H.1
    replace H := H.2
    refine s_if_eq (tgt := 70) dX1_sumOfProducts_20 (by decide) f5 (fun c6 => ?_) (fun c6 => ?_)
    · replace H := H.1 c6
      refine s_iload_n dX1_sumOfProducts_70 rfl rfl ?_
      refine s_aload_n dX1_sumOfProducts_71 rfl rfl ?_
      have f7 := H.1
      replace H := H.2
      refine s_getf (c := 1) (k := 0) (t := 0) (j := 0) dX1_sumOfProducts_72 fl_X1_22 (by decide) (by decide) rfl rfl f7 ?_
      have f8 := H.1
      replace H := H.2
      refine s_irem dX1_sumOfProducts_75 f8 ?_
      exact s_iret dX1_sumOfProducts_76 rfl ⟨Nat.le_refl _, Nat.le_refl _⟩ H
    · replace H := H.2 c6
      refine s_iload dX1_sumOfProducts_23 rfl ?_
      have f9 := H.1
      replace H := H.2
      refine s_if_eq (tgt := 70) dX1_sumOfProducts_25 (by decide) f9 (fun c10 => ?_) (fun c10 => ?_)
      · replace H := H.1 c10
        refine s_iload_n dX1_sumOfProducts_70 rfl rfl ?_
        refine s_aload_n dX1_sumOfProducts_71 rfl rfl ?_
        have f11 := H.1
        replace H := H.2
        refine s_getf (c := 1) (k := 0) (t := 0) (j := 0) dX1_sumOfProducts_72 fl_X1_22 (by decide) (by decide) rfl rfl f11 ?_
        have f12 := H.1
        replace H := H.2
        refine s_irem dX1_sumOfProducts_75 f12 ?_
        exact s_iret dX1_sumOfProducts_76 rfl ⟨Nat.le_refl _, Nat.le_refl _⟩ H
      · replace H := H.2 c10
        refine s_iload_n dX1_sumOfProducts_28 rfl rfl ?_
        refine s_iload dX1_sumOfProducts_29 rfl ?_
        refine s_aload_n dX1_sumOfProducts_31 rfl rfl ?_
        have f13 := H.1
        replace H := H.2
        refine s_getf (c := 1) (k := 0) (t := 0) (j := 0) dX1_sumOfProducts_32 fl_X1_22 (by decide) (by decide) rfl rfl f13 ?_
        have f14 := H.1
        replace H := H.2
        refine s_irem dX1_sumOfProducts_35 f14 ?_
        refine s_iload dX1_sumOfProducts_36 rfl ?_
        refine s_aload_n dX1_sumOfProducts_38 rfl rfl ?_
        refine s_getf (c := 1) (k := 0) (t := 0) (j := 0) dX1_sumOfProducts_39 fl_X1_22 (by decide) (by decide) rfl rfl f13 ?_
        have f15 := H.1
        replace H := H.2
        refine s_irem dX1_sumOfProducts_42 f15 ?_
        refine s_imul dX1_sumOfProducts_43 ?_
        refine s_iadd dX1_sumOfProducts_44 ?_
        refine s_istore_n dX1_sumOfProducts_45 rfl (by decide) rfl ?_
        show S l MX1_sumOfProducts (d, 0, 0, 0, 0) 46 [some (vR a0), none, none, some (vI (a3 + ((a4 % (h a0 0)) * (a5 % (h a0 0))))), some (vI a4), some (vI a5), some (vI a6)] [] G h Q
        refine s_iload dX1_sumOfProducts_46 rfl ?_
        refine s_aload_n dX1_sumOfProducts_48 rfl rfl ?_
        refine s_getf (c := 1) (k := 0) (t := 0) (j := 0) dX1_sumOfProducts_49 fl_X1_22 (by decide) (by decide) rfl rfl f13 ?_
        refine s_idiv dX1_sumOfProducts_52 f14 ?_
        refine s_istore dX1_sumOfProducts_53 (by decide) rfl ?_
        show S l MX1_sumOfProducts (d, 0, 0, 0, 0) 55 [some (vR a0), none, none, some (vI (a3 + ((a4 % (h a0 0)) * (a5 % (h a0 0))))), some (vI (a4 / (h a0 0))), some (vI a5), some (vI a6)] [] G h Q
        refine s_iload dX1_sumOfProducts_55 rfl ?_
        refine s_aload_n dX1_sumOfProducts_57 rfl rfl ?_
        refine s_getf (c := 1) (k := 0) (t := 0) (j := 0) dX1_sumOfProducts_58 fl_X1_22 (by decide) (by decide) rfl rfl f13 ?_
        refine s_idiv dX1_sumOfProducts_61 f15 ?_
        refine s_istore dX1_sumOfProducts_62 (by decide) rfl ?_
        show S l MX1_sumOfProducts (d, 0, 0, 0, 0) 64 [some (vR a0), none, none, some (vI (a3 + ((a4 % (h a0 0)) * (a5 % (h a0 0))))), some (vI (a4 / (h a0 0))), some (vI (a5 / (h a0 0))), some (vI a6)] [] G h Q
        refine s_iinc dX1_sumOfProducts_64 rfl (by decide) rfl ?_
        show S l MX1_sumOfProducts (d, 0, 0, 0, 0) 67 [some (vR a0), none, none, some (vI (a3 + ((a4 % (h a0 0)) * (a5 % (h a0 0))))), some (vI (a4 / (h a0 0))), some (vI (a5 / (h a0 0))), some (vI (a6 + 1))] [] G h Q
        refine s_goto (tgt := 11) dX1_sumOfProducts_67 (by decide) ?_
        exact S_cut (by first | exact ⟨rfl, ⟨rfl, ⟨rfl, ⟨rfl, ⟨rfl, trivial⟩⟩⟩⟩⟩ | simp [lsub]) H
