set_option maxHeartbeats 4000000 in
set_option maxRecDepth 100000 in
theorem vX9_fresh_0 {l : Launch} {d : Nat} {G : GS} {h : HP} {Q : Int → GS → HP → Prop} (a0 a1 a2 a3 : Int) (H : (ty G a0 = 9) ∧ (inA G 10 (h a0 1) 0) ∧ ∀ h3 : HP, h3 = hset h (h a0 1) 0 a1 → (inA G 10 (h3 a0 1) 1) ∧ ∀ h5 : HP, h5 = hset h3 (h3 a0 1) 1 a2 → (inA G 10 (h5 a0 1) 2) ∧ ∀ h7 : HP, h7 = hset h5 (h5 a0 1) 2 a3 → S l MX9_fresh (d + 1, 0, 0, 0, 0) 24 [some (vR a0), none, none, none, some (vI 0)] [] G h7 Q) : S l MX9_fresh (d + 1, 0, 0, 0, 0) 0 [some (vR a0), some (vI a1), some (vI a2), some (vI a3), none] [] G h Q := by
  refine s_aload_n dX9_fresh_0 rfl rfl ?_
  have f1 := H.1
  replace H := H.2
  refine s_getf (c := 9) (k := 1) (t := 2) (j := 1) dX9_fresh_1 fl_X9_13 (by decide) (by decide) rfl rfl f1 ?_
  refine s_iconst dX9_fresh_4 ?_
  refine s_iload_n dX9_fresh_5 rfl rfl ?_
  have f2 := H.1
  replace H := H.2
  refine s_iastH dX9_fresh_6 f2 (fun h3 eh3 => ?_)
  replace H := H h3 eh3
  refine s_aload_n dX9_fresh_7 rfl rfl ?_
  refine s_getf (c := 9) (k := 1) (t := 2) (j := 1) dX9_fresh_8 fl_X9_13 (by decide) (by decide) rfl rfl f1 ?_
  refine s_iconst dX9_fresh_11 ?_
  refine s_iload_n dX9_fresh_12 rfl rfl ?_
  have f4 := H.1
  replace H := H.2
  refine s_iastH dX9_fresh_13 f4 (fun h5 eh5 => ?_)
  replace H := H h5 eh5
  refine s_aload_n dX9_fresh_14 rfl rfl ?_
  refine s_getf (c := 9) (k := 1) (t := 2) (j := 1) dX9_fresh_15 fl_X9_13 (by decide) (by decide) rfl rfl f1 ?_
  refine s_iconst dX9_fresh_18 ?_
  refine s_iload_n dX9_fresh_19 rfl rfl ?_
  have f6 := H.1
  replace H := H.2
  refine s_iastH dX9_fresh_20 f6 (fun h7 eh7 => ?_)
  replace H := H h7 eh7
  refine s_iconst dX9_fresh_21 ?_
  refine s_istore dX9_fresh_22 (by decide) rfl ?_
  show S l MX9_fresh (d + 1, 0, 0, 0, 0) 24 [some (vR a0), some (vI a1), some (vI a2), some (vI a3), some (vI 0)] [] G h7 Q
  exact S_cut (by first | exact ⟨rfl, ⟨rfl, trivial⟩⟩ | simp [lsub]) H
set_option maxHeartbeats 4000000 in
set_option maxRecDepth 100000 in
theorem vX9_fresh_24 {l : Launch} {d : Nat} {G : GS} {h : HP} {Q : Int → GS → HP → Prop} (a0 a4 : Int) (H : (inR a4) ∧ ((729 ≤ a4 → (ty G a0 = 9) ∧ ∀ h4 : HP, h4 = hset h a0 4 0 → R l MX9_emptyHand d 0 0 [vR a0] G h4 (fun r5 G6 h7 => (ty G6 a0 = 9) ∧ ∀ h9 : HP, h9 = hset h7 a0 15 0 → Q 0 G6 h9)) ∧ (a4 < 729 → (ty G a0 = 9) ∧ (inA G 10 (h a0 2) a4) ∧ ∀ h12 : HP, h12 = hset h (h a0 2) a4 0 → S l MX9_fresh (d + 1, 0, 0, 0, 0) 24 [some (vR a0), none, none, none, some (vI (a4 + 1))] [] G h12 Q))) : S l MX9_fresh (d + 1, 0, 0, 0, 0) 24 [some (vR a0), none, none, none, some (vI a4)] [] G h Q := by
  refine s_iload dX9_fresh_24 rfl ?_
  refine s_sipush dX9_fresh_26 (by decide) ?_
  have f1 := H.1
  replace H := H.2
  refine s_icmp_ge (tgt := 46) dX9_fresh_29 (by decide) f1 (by decide) (fun c2 => ?_) (fun c2 => ?_)
  · replace H := H.1 c2
    refine s_aload_n dX9_fresh_46 rfl rfl ?_
    refine s_iconst dX9_fresh_47 ?_
    have f3 := H.1
    replace H := H.2
    refine s_putI (c := 9) (k := 4) (j := 4) dX9_fresh_48 fl_X9_85 (by decide) (by decide) rfl rfl rfl f3 (fun h4 eh4 => ?_)
    replace H := H h4 eh4
    refine s_aload_n dX9_fresh_51 rfl rfl ?_
    refine s_callV (M' := MX9_emptyHand) (As := []) (a := a0) (st := []) dX9_fresh_52 ml_X9_88 cv_X9_emptyHand rfl rfl (Nat.le_of_ble_eq_true rfl) ⟨Nat.le_refl _, Nat.le_refl _⟩ f3 (R_mono (fun r5 G6 h7 H => ?_) H)
    show S l MX9_fresh (d + 1, 0, 0, 0, 0) 55 [some (vR a0), none, none, none, some (vI a4)] [] G6 h7 Q
    refine s_aload_n dX9_fresh_55 rfl rfl ?_
    refine s_iconst dX9_fresh_56 ?_
    have f8 := H.1
    replace H := H.2
    refine s_putZ (c := 9) (k := 15) (j := 15) dX9_fresh_57 fl_X9_91 (by decide) (by decide) rfl rfl rfl (by decide) f8 (fun h9 eh9 => ?_)
    replace H := H h9 eh9
    exact s_vret dX9_fresh_60 rfl ⟨Nat.le_refl _, Nat.le_refl _⟩ H
  · replace H := H.2 c2
    refine s_aload_n dX9_fresh_32 rfl rfl ?_
    have f10 := H.1
    replace H := H.2
    refine s_getf (c := 9) (k := 2) (t := 2) (j := 2) dX9_fresh_33 fl_X9_17 (by decide) (by decide) rfl rfl f10 ?_
    refine s_iload dX9_fresh_36 rfl ?_
    refine s_iconst dX9_fresh_38 ?_
    have f11 := H.1
    replace H := H.2
    refine s_iastH dX9_fresh_39 f11 (fun h12 eh12 => ?_)
    replace H := H h12 eh12
    refine s_iinc dX9_fresh_40 rfl (by decide) rfl ?_
    show S l MX9_fresh (d + 1, 0, 0, 0, 0) 43 [some (vR a0), none, none, none, some (vI (a4 + 1))] [] G h12 Q
    refine s_goto (tgt := 24) dX9_fresh_43 (by decide) ?_
    exact S_cut (by first | exact ⟨rfl, ⟨rfl, trivial⟩⟩ | simp [lsub]) H
set_option maxHeartbeats 4000000 in
set_option maxRecDepth 100000 in
theorem vX9_emptyHand_0 {l : Launch} {d : Nat} {G : GS} {h : HP} {Q : Int → GS → HP → Prop} (a0 : Int) (H : S l MX9_emptyHand (d, 0, 0, 0, 0) 2 [some (vR a0), some (vI 0)] [] G h Q) : S l MX9_emptyHand (d, 0, 0, 0, 0) 0 [some (vR a0), none] [] G h Q := by
  refine s_iconst dX9_emptyHand_0 ?_
  refine s_istore_n dX9_emptyHand_1 rfl (by decide) rfl ?_
  show S l MX9_emptyHand (d, 0, 0, 0, 0) 2 [some (vR a0), some (vI 0)] [] G h Q
  exact S_cut (by first | exact ⟨rfl, ⟨rfl, trivial⟩⟩ | simp [lsub]) H
set_option maxHeartbeats 4000000 in
set_option maxRecDepth 100000 in
theorem vX9_emptyHand_2 {l : Launch} {d : Nat} {G : GS} {h : HP} {Q : Int → GS → HP → Prop} (a0 a1 : Int) (H : (inR a1) ∧ ((18 ≤ a1 → Q 0 G h) ∧ (a1 < 18 → (ty G a0 = 9) ∧ (inA G 10 (h a0 5) a1) ∧ ∀ h5 : HP, h5 = hset h (h a0 5) a1 0 → S l MX9_emptyHand (d, 0, 0, 0, 0) 2 [some (vR a0), some (vI (a1 + 1))] [] G h5 Q))) : S l MX9_emptyHand (d, 0, 0, 0, 0) 2 [some (vR a0), some (vI a1)] [] G h Q := by
  refine s_iload_n dX9_emptyHand_2 rfl rfl ?_
  refine s_bipush dX9_emptyHand_3 (by decide) ?_
  have f1 := H.1
  replace H := H.2
  refine s_icmp_ge (tgt := 21) dX9_emptyHand_5 (by decide) f1 (by decide) (fun c2 => ?_) (fun c2 => ?_)
  · replace H := H.1 c2
    exact s_vret dX9_emptyHand_21 rfl ⟨Nat.le_refl _, Nat.le_refl _⟩ H
  · replace H := H.2 c2
    refine s_aload_n dX9_emptyHand_8 rfl rfl ?_
    have f3 := H.1
    replace H := H.2
    refine s_getf (c := 9) (k := 5) (t := 2) (j := 5) dX9_emptyHand_9 fl_X9_23 (by decide) (by decide) rfl rfl f3 ?_
    refine s_iload_n dX9_emptyHand_12 rfl rfl ?_
    refine s_iconst dX9_emptyHand_13 ?_
    have f4 := H.1
    replace H := H.2
    refine s_iastH dX9_emptyHand_14 f4 (fun h5 eh5 => ?_)
    replace H := H h5 eh5
    refine s_iinc dX9_emptyHand_15 rfl (by decide) rfl ?_
    show S l MX9_emptyHand (d, 0, 0, 0, 0) 18 [some (vR a0), some (vI (a1 + 1))] [] G h5 Q
    refine s_goto (tgt := 2) dX9_emptyHand_18 (by decide) ?_
    exact S_cut (by first | exact ⟨rfl, ⟨rfl, trivial⟩⟩ | simp [lsub]) H
set_option maxHeartbeats 4000000 in
set_option maxRecDepth 100000 in
theorem vX9_ground_0 {l : Launch} {d : Nat} {G : GS} {h : HP} {Q : Int → GS → HP → Prop} (a0 a1 : Int) (H : (inR a1) ∧ ((a1 = 2 → (ty G a0 = 9) ∧ ∀ h4 : HP, h4 = hset h a0 0 a1 → R l MX9_fresh d 0 0 [vR a0, vI 1, vI 1, vI 1] G h4 (fun r5 G6 h7 => S l MX9_ground (d + 1, 0, 0, 0, 0) 37 [some (vR a0), none, some (vI 0)] [] G6 h7 Q)) ∧ (a1 ≠ 2 → ((a1 = 3 → (ty G a0 = 9) ∧ ∀ h10 : HP, h10 = hset h a0 0 a1 → R l MX9_fresh d 0 0 [vR a0, vI 1, vI 1, vI 1] G h10 (fun r11 G12 h13 => S l MX9_ground (d + 1, 0, 0, 0, 0) 37 [some (vR a0), none, some (vI 0)] [] G12 h13 Q)) ∧ (a1 ≠ 3 → ((a1 = 5 → (ty G a0 = 9) ∧ ∀ h16 : HP, h16 = hset h a0 0 a1 → R l MX9_fresh d 0 0 [vR a0, vI 1, vI 1, vI 1] G h16 (fun r17 G18 h19 => S l MX9_ground (d + 1, 0, 0, 0, 0) 37 [some (vR a0), none, some (vI 0)] [] G18 h19 Q)) ∧ (a1 ≠ 5 → ((a1 = 7 → (ty G a0 = 9) ∧ ∀ h22 : HP, h22 = hset h a0 0 a1 → R l MX9_fresh d 0 0 [vR a0, vI 1, vI 1, vI 1] G h22 (fun r23 G24 h25 => S l MX9_ground (d + 1, 0, 0, 0, 0) 37 [some (vR a0), none, some (vI 0)] [] G24 h25 Q)) ∧ (a1 ≠ 7 → Q ((-1)) G h))))))))) : S l MX9_ground (d + 1, 0, 0, 0, 0) 0 [some (vR a0), some (vI a1), none] [] G h Q := by
  refine s_iload_n dX9_ground_0 rfl rfl ?_
  refine s_iconst dX9_ground_1 ?_
  have f1 := H.1
  replace H := H.2
  refine s_icmp_eq (tgt := 23) dX9_ground_2 (by decide) f1 (by decide) (fun c2 => ?_) (fun c2 => ?_)
  · replace H := H.1 c2
    refine s_aload_n dX9_ground_23 rfl rfl ?_
    refine s_iload_n dX9_ground_24 rfl rfl ?_
    have f3 := H.1
    replace H := H.2
    refine s_putI (c := 9) (k := 0) (j := 0) dX9_ground_25 fl_X9_7 (by decide) (by decide) rfl rfl rfl f3 (fun h4 eh4 => ?_)
    replace H := H h4 eh4
    refine s_aload_n dX9_ground_28 rfl rfl ?_
    refine s_iconst dX9_ground_29 ?_
    refine s_iconst dX9_ground_30 ?_
    refine s_iconst dX9_ground_31 ?_
    refine s_callV (M' := MX9_fresh) (As := [vI 1, vI 1, vI 1]) (a := a0) (st := []) dX9_ground_32 ml_X9_81 cv_X9_fresh rfl rfl (Nat.le_of_ble_eq_true rfl) ⟨Nat.le_refl _, Nat.le_refl _⟩ f3 (R_mono (fun r5 G6 h7 H => ?_) H)
    show S l MX9_ground (d + 1, 0, 0, 0, 0) 35 [some (vR a0), some (vI a1), none] [] G6 h7 Q
    refine s_iconst dX9_ground_35 ?_
    refine s_istore_n dX9_ground_36 rfl (by decide) rfl ?_
    show S l MX9_ground (d + 1, 0, 0, 0, 0) 37 [some (vR a0), some (vI a1), some (vI 0)] [] G6 h7 Q
    exact S_cut (by first | exact ⟨rfl, ⟨rfl, trivial⟩⟩ | simp [lsub]) H
  · replace H := H.2 c2
    refine s_iload_n dX9_ground_5 rfl rfl ?_
    refine s_iconst dX9_ground_6 ?_
    refine s_icmp_eq (tgt := 23) dX9_ground_7 (by decide) f1 (by decide) (fun c8 => ?_) (fun c8 => ?_)
    · replace H := H.1 c8
      refine s_aload_n dX9_ground_23 rfl rfl ?_
      refine s_iload_n dX9_ground_24 rfl rfl ?_
      have f9 := H.1
      replace H := H.2
      refine s_putI (c := 9) (k := 0) (j := 0) dX9_ground_25 fl_X9_7 (by decide) (by decide) rfl rfl rfl f9 (fun h10 eh10 => ?_)
      replace H := H h10 eh10
      refine s_aload_n dX9_ground_28 rfl rfl ?_
      refine s_iconst dX9_ground_29 ?_
      refine s_iconst dX9_ground_30 ?_
      refine s_iconst dX9_ground_31 ?_
      refine s_callV (M' := MX9_fresh) (As := [vI 1, vI 1, vI 1]) (a := a0) (st := []) dX9_ground_32 ml_X9_81 cv_X9_fresh rfl rfl (Nat.le_of_ble_eq_true rfl) ⟨Nat.le_refl _, Nat.le_refl _⟩ f9 (R_mono (fun r11 G12 h13 H => ?_) H)
      show S l MX9_ground (d + 1, 0, 0, 0, 0) 35 [some (vR a0), some (vI a1), none] [] G12 h13 Q
      refine s_iconst dX9_ground_35 ?_
      refine s_istore_n dX9_ground_36 rfl (by decide) rfl ?_
      show S l MX9_ground (d + 1, 0, 0, 0, 0) 37 [some (vR a0), some (vI a1), some (vI 0)] [] G12 h13 Q
      exact S_cut (by first | exact ⟨rfl, ⟨rfl, trivial⟩⟩ | simp [lsub]) H
    · replace H := H.2 c8
      refine s_iload_n dX9_ground_10 rfl rfl ?_
      refine s_iconst dX9_ground_11 ?_
      refine s_icmp_eq (tgt := 23) dX9_ground_12 (by decide) f1 (by decide) (fun c14 => ?_) (fun c14 => ?_)
      · replace H := H.1 c14
        refine s_aload_n dX9_ground_23 rfl rfl ?_
        refine s_iload_n dX9_ground_24 rfl rfl ?_
        have f15 := H.1
        replace H := H.2
        refine s_putI (c := 9) (k := 0) (j := 0) dX9_ground_25 fl_X9_7 (by decide) (by decide) rfl rfl rfl f15 (fun h16 eh16 => ?_)
        replace H := H h16 eh16
        refine s_aload_n dX9_ground_28 rfl rfl ?_
        refine s_iconst dX9_ground_29 ?_
        refine s_iconst dX9_ground_30 ?_
        refine s_iconst dX9_ground_31 ?_
        refine s_callV (M' := MX9_fresh) (As := [vI 1, vI 1, vI 1]) (a := a0) (st := []) dX9_ground_32 ml_X9_81 cv_X9_fresh rfl rfl (Nat.le_of_ble_eq_true rfl) ⟨Nat.le_refl _, Nat.le_refl _⟩ f15 (R_mono (fun r17 G18 h19 H => ?_) H)
        show S l MX9_ground (d + 1, 0, 0, 0, 0) 35 [some (vR a0), some (vI a1), none] [] G18 h19 Q
        refine s_iconst dX9_ground_35 ?_
        refine s_istore_n dX9_ground_36 rfl (by decide) rfl ?_
        show S l MX9_ground (d + 1, 0, 0, 0, 0) 37 [some (vR a0), some (vI a1), some (vI 0)] [] G18 h19 Q
        exact S_cut (by first | exact ⟨rfl, ⟨rfl, trivial⟩⟩ | simp [lsub]) H
      · replace H := H.2 c14
        refine s_iload_n dX9_ground_15 rfl rfl ?_
        refine s_bipush dX9_ground_16 (by decide) ?_
        refine s_icmp_eq (tgt := 23) dX9_ground_18 (by decide) f1 (by decide) (fun c20 => ?_) (fun c20 => ?_)
        · replace H := H.1 c20
          refine s_aload_n dX9_ground_23 rfl rfl ?_
          refine s_iload_n dX9_ground_24 rfl rfl ?_
          have f21 := H.1
          replace H := H.2
          refine s_putI (c := 9) (k := 0) (j := 0) dX9_ground_25 fl_X9_7 (by decide) (by decide) rfl rfl rfl f21 (fun h22 eh22 => ?_)
          replace H := H h22 eh22
          refine s_aload_n dX9_ground_28 rfl rfl ?_
          refine s_iconst dX9_ground_29 ?_
          refine s_iconst dX9_ground_30 ?_
          refine s_iconst dX9_ground_31 ?_
          refine s_callV (M' := MX9_fresh) (As := [vI 1, vI 1, vI 1]) (a := a0) (st := []) dX9_ground_32 ml_X9_81 cv_X9_fresh rfl rfl (Nat.le_of_ble_eq_true rfl) ⟨Nat.le_refl _, Nat.le_refl _⟩ f21 (R_mono (fun r23 G24 h25 H => ?_) H)
          show S l MX9_ground (d + 1, 0, 0, 0, 0) 35 [some (vR a0), some (vI a1), none] [] G24 h25 Q
          refine s_iconst dX9_ground_35 ?_
          refine s_istore_n dX9_ground_36 rfl (by decide) rfl ?_
          show S l MX9_ground (d + 1, 0, 0, 0, 0) 37 [some (vR a0), some (vI a1), some (vI 0)] [] G24 h25 Q
          exact S_cut (by first | exact ⟨rfl, ⟨rfl, trivial⟩⟩ | simp [lsub]) H
        · replace H := H.2 c20
          refine s_iconst dX9_ground_21 ?_
          exact s_iret dX9_ground_22 rfl ⟨Nat.le_refl _, Nat.le_refl _⟩ H
set_option maxHeartbeats 4000000 in
set_option maxRecDepth 100000 in
theorem vX9_ground_37 {l : Launch} {d : Nat} {G : GS} {h : HP} {Q : Int → GS → HP → Prop} (a0 a2 : Int) (H : (inR a2) ∧ ((4 ≤ a2 → Q 1 G h) ∧ (a2 < 4 → (ty G a0 = 9) ∧ (inA G 11 (h a0 6) a2) ∧ ∀ h5 : HP, h5 = hset h (h a0 6) a2 0 → S l MX9_ground (d + 1, 0, 0, 0, 0) 37 [some (vR a0), none, some (vI (a2 + 1))] [] G h5 Q))) : S l MX9_ground (d + 1, 0, 0, 0, 0) 37 [some (vR a0), none, some (vI a2)] [] G h Q := by
  refine s_iload_n dX9_ground_37 rfl rfl ?_
  refine s_iconst dX9_ground_38 ?_
  have f1 := H.1
  replace H := H.2
  refine s_icmp_ge (tgt := 55) dX9_ground_39 (by decide) f1 (by decide) (fun c2 => ?_) (fun c2 => ?_)
  · replace H := H.1 c2
    refine s_iconst dX9_ground_55 ?_
    exact s_iret dX9_ground_56 rfl ⟨Nat.le_refl _, Nat.le_refl _⟩ H
  · replace H := H.2 c2
    refine s_aload_n dX9_ground_42 rfl rfl ?_
    have f3 := H.1
    replace H := H.2
    refine s_getf (c := 9) (k := 6) (t := 2) (j := 6) dX9_ground_43 fl_X9_26 (by decide) (by decide) rfl rfl f3 ?_
    refine s_iload_n dX9_ground_46 rfl rfl ?_
    refine s_iconst dX9_ground_47 ?_
    have f4 := H.1
    replace H := H.2
    refine s_zastH dX9_ground_48 (by decide) f4 (fun h5 eh5 => ?_)
    replace H := H h5 eh5
    refine s_iinc dX9_ground_49 rfl (by decide) rfl ?_
    show S l MX9_ground (d + 1, 0, 0, 0, 0) 52 [some (vR a0), none, some (vI (a2 + 1))] [] G h5 Q
    refine s_goto (tgt := 37) dX9_ground_52 (by decide) ?_
    exact S_cut (by first | exact ⟨rfl, ⟨rfl, trivial⟩⟩ | simp [lsub]) H
set_option maxHeartbeats 4000000 in
set_option maxRecDepth 100000 in
theorem vX9_box_0 {l : Launch} {d : Nat} {G : GS} {h : HP} {Q : Int → GS → HP → Prop} (a0 a1 a2 a3 : Int) (H : R l MX9_areSizes d 0 0 [vI a1, vI a2, vI a3] G h (fun r1 G2 h3 => (inR r1) ∧ ((r1 ≠ 0 → (ty G2 a0 = 9) ∧ R l MX9_fresh d 0 0 [vR a0, vI a1, vI a2, vI a3] G2 h3 (fun r6 G7 h8 => Q 1 G7 h8)) ∧ (r1 = 0 → Q ((-1)) G2 h3)))) : S l MX9_box (d + 1, 0, 0, 0, 0) 0 [some (vR a0), some (vI a1), some (vI a2), some (vI a3)] [] G h Q := by
  refine s_iload_n dX9_box_0 rfl rfl ?_
  refine s_iload_n dX9_box_1 rfl rfl ?_
  refine s_iload_n dX9_box_2 rfl rfl ?_
  refine s_callS (M' := MX9_areSizes) (As := [vI a1, vI a2, vI a3]) (st := []) dX9_box_3 ml_X9_101 cs_X9_areSizes rfl rfl (Nat.le_of_ble_eq_true rfl) ⟨Nat.le_refl _, Nat.le_refl _⟩ (R_mono (fun r1 G2 h3 H => ?_) H)
  show S l MX9_box (d + 1, 0, 0, 0, 0) 6 [some (vR a0), some (vI a1), some (vI a2), some (vI a3)] [vI r1] G2 h3 Q
  have f4 := H.1
  replace H := H.2
  refine s_if_ne (tgt := 11) dX9_box_6 (by decide) f4 (fun c5 => ?_) (fun c5 => ?_)
  · replace H := H.1 c5
    refine s_aload_n dX9_box_11 rfl rfl ?_
    refine s_iload_n dX9_box_12 rfl rfl ?_
    refine s_iload_n dX9_box_13 rfl rfl ?_
    refine s_iload_n dX9_box_14 rfl rfl ?_
    have f9 := H.1
    replace H := H.2
    refine s_callV (M' := MX9_fresh) (As := [vI a1, vI a2, vI a3]) (a := a0) (st := []) dX9_box_15 ml_X9_81 cv_X9_fresh rfl rfl (Nat.le_of_ble_eq_true rfl) ⟨Nat.le_refl _, Nat.le_refl _⟩ f9 (R_mono (fun r6 G7 h8 H => ?_) H)
    show S l MX9_box (d + 1, 0, 0, 0, 0) 18 [some (vR a0), some (vI a1), some (vI a2), some (vI a3)] [] G7 h8 Q
    refine s_iconst dX9_box_18 ?_
    exact s_iret dX9_box_19 rfl ⟨Nat.le_refl _, Nat.le_refl _⟩ H
  · replace H := H.2 c5
    refine s_iconst dX9_box_9 ?_
    exact s_iret dX9_box_10 rfl ⟨Nat.le_refl _, Nat.le_refl _⟩ H
set_option maxHeartbeats 4000000 in
set_option maxRecDepth 100000 in
theorem vX9_areSizes_0 {l : Launch} {d : Nat} {G : GS} {h : HP} {Q : Int → GS → HP → Prop} (a0 a1 a2 : Int) (H : (inR a0) ∧ R l MX9_in d 0 0 [vL a0, vL 1, vL 9] G h (fun r2 G3 h4 => (inR r2) ∧ ((r2 = 0 → Q 0 G3 h4) ∧ (r2 ≠ 0 → (inR a1) ∧ R l MX9_in d 0 0 [vL a1, vL 1, vL 9] G3 h4 (fun r8 G9 h10 => (inR r8) ∧ ((r8 = 0 → Q 0 G9 h10) ∧ (r8 ≠ 0 → (inR a2) ∧ R l MX9_in d 0 0 [vL a2, vL 1, vL 9] G9 h10 (fun r14 G15 h16 => (inR r14) ∧ ((r14 = 0 → Q 0 G15 h16) ∧ (r14 ≠ 0 → Q 1 G15 h16)))))))))) : S l MX9_areSizes (d + 1, 0, 0, 0, 0) 0 [some (vI a0), some (vI a1), some (vI a2)] [] G h Q := by
  refine s_iload_n dX9_areSizes_0 rfl rfl ?_
  have f1 := H.1
  replace H := H.2
  refine s_i2l dX9_areSizes_1 f1 ?_
  refine s_lconst (v := 1) dX9_areSizes_2 rfl ?_
  refine s_ldc2 (v := 9) dX9_areSizes_3 kc_X9_95 ?_
  refine s_callS (M' := MX9_in) (As := [vL a0, vL 1, vL 9]) (st := []) dX9_areSizes_6 ml_X9_97 cs_X9_in rfl rfl (Nat.le_of_ble_eq_true rfl) ⟨Nat.le_refl _, Nat.le_refl _⟩ (R_mono (fun r2 G3 h4 H => ?_) H)
  show S l MX9_areSizes (d + 1, 0, 0, 0, 0) 9 [some (vI a0), some (vI a1), some (vI a2)] [vI r2] G3 h4 Q
  have f5 := H.1
  replace H := H.2
  refine s_if_eq (tgt := 40) dX9_areSizes_9 (by decide) f5 (fun c6 => ?_) (fun c6 => ?_)
  · replace H := H.1 c6
    refine s_iconst dX9_areSizes_40 ?_
    exact s_zret dX9_areSizes_41 rfl ⟨Nat.le_refl _, Nat.le_refl _⟩ (by decide) H
  · replace H := H.2 c6
    refine s_iload_n dX9_areSizes_12 rfl rfl ?_
    have f7 := H.1
    replace H := H.2
    refine s_i2l dX9_areSizes_13 f7 ?_
    refine s_lconst (v := 1) dX9_areSizes_14 rfl ?_
    refine s_ldc2 (v := 9) dX9_areSizes_15 kc_X9_95 ?_
    refine s_callS (M' := MX9_in) (As := [vL a1, vL 1, vL 9]) (st := []) dX9_areSizes_18 ml_X9_97 cs_X9_in rfl rfl (Nat.le_of_ble_eq_true rfl) ⟨Nat.le_refl _, Nat.le_refl _⟩ (R_mono (fun r8 G9 h10 H => ?_) H)
    show S l MX9_areSizes (d + 1, 0, 0, 0, 0) 21 [some (vI a0), some (vI a1), some (vI a2)] [vI r8] G9 h10 Q
    have f11 := H.1
    replace H := H.2
    refine s_if_eq (tgt := 40) dX9_areSizes_21 (by decide) f11 (fun c12 => ?_) (fun c12 => ?_)
    · replace H := H.1 c12
      refine s_iconst dX9_areSizes_40 ?_
      exact s_zret dX9_areSizes_41 rfl ⟨Nat.le_refl _, Nat.le_refl _⟩ (by decide) H
    · replace H := H.2 c12
      refine s_iload_n dX9_areSizes_24 rfl rfl ?_
      have f13 := H.1
      replace H := H.2
      refine s_i2l dX9_areSizes_25 f13 ?_
      refine s_lconst (v := 1) dX9_areSizes_26 rfl ?_
      refine s_ldc2 (v := 9) dX9_areSizes_27 kc_X9_95 ?_
      refine s_callS (M' := MX9_in) (As := [vL a2, vL 1, vL 9]) (st := []) dX9_areSizes_30 ml_X9_97 cs_X9_in rfl rfl (Nat.le_of_ble_eq_true rfl) ⟨Nat.le_refl _, Nat.le_refl _⟩ (R_mono (fun r14 G15 h16 H => ?_) H)
      show S l MX9_areSizes (d + 1, 0, 0, 0, 0) 33 [some (vI a0), some (vI a1), some (vI a2)] [vI r14] G15 h16 Q
      have f17 := H.1
      replace H := H.2
      refine s_if_eq (tgt := 40) dX9_areSizes_33 (by decide) f17 (fun c18 => ?_) (fun c18 => ?_)
      · replace H := H.1 c18
        refine s_iconst dX9_areSizes_40 ?_
        exact s_zret dX9_areSizes_41 rfl ⟨Nat.le_refl _, Nat.le_refl _⟩ (by decide) H
      · replace H := H.2 c18
        refine s_iconst dX9_areSizes_36 ?_
        refine s_goto (tgt := 41) dX9_areSizes_37 (by decide) ?_
        exact s_zret dX9_areSizes_41 rfl ⟨Nat.le_refl _, Nat.le_refl _⟩ (by decide) H
set_option maxHeartbeats 4000000 in
set_option maxRecDepth 100000 in
theorem vX9_in_0 {l : Launch} {d : Nat} {G : GS} {h : HP} {Q : Int → GS → HP → Prop} (a0 a2 a4 : Int) (H : (inL a0) ∧ (inL a2) ∧ (inR (cmpI a0 a2)) ∧ (((cmpI a0 a2) < 0 → Q 0 G h) ∧ (0 ≤ (cmpI a0 a2) → (inL a4) ∧ (inR (cmpI a0 a4)) ∧ ((0 < (cmpI a0 a4) → Q 0 G h) ∧ ((cmpI a0 a4) ≤ 0 → Q 1 G h))))) : S l MX9_in (d, 0, 0, 0, 0) 0 [some (vL a0), none, some (vL a2), none, some (vL a4), none] [] G h Q := by
  refine s_lload_n dX9_in_0 rfl rfl ?_
  refine s_lload_n dX9_in_1 rfl rfl ?_
  have f1 := H.1
  replace H := H.2
  have f2 := H.1
  replace H := H.2
  refine s_lcmp dX9_in_2 f1 f2 ?_
  have f3 := H.1
  replace H := H.2
  refine s_if_lt (tgt := 17) dX9_in_3 (by decide) f3 (fun c4 => ?_) (fun c4 => ?_)
  · replace H := H.1 c4
    refine s_iconst dX9_in_17 ?_
    exact s_zret dX9_in_18 rfl ⟨Nat.le_refl _, Nat.le_refl _⟩ (by decide) H
  · replace H := H.2 c4
    refine s_lload_n dX9_in_6 rfl rfl ?_
    refine s_lload dX9_in_7 rfl ?_
    have f5 := H.1
    replace H := H.2
    refine s_lcmp dX9_in_9 f1 f5 ?_
    have f6 := H.1
    replace H := H.2
    refine s_if_gt (tgt := 17) dX9_in_10 (by decide) f6 (fun c7 => ?_) (fun c7 => ?_)
    · replace H := H.1 c7
      refine s_iconst dX9_in_17 ?_
      exact s_zret dX9_in_18 rfl ⟨Nat.le_refl _, Nat.le_refl _⟩ (by decide) H
    · replace H := H.2 c7
      refine s_iconst dX9_in_13 ?_
      refine s_goto (tgt := 18) dX9_in_14 (by decide) ?_
      exact s_zret dX9_in_18 rfl ⟨Nat.le_refl _, Nat.le_refl _⟩ (by decide) H
set_option maxHeartbeats 4000000 in
set_option maxRecDepth 100000 in
theorem vX9_tables_0 {l : Launch} {d : Nat} {G : GS} {h : HP} {Q : Int → GS → HP → Prop} (a0 a1 a2 a3 : Int) (H : R l MX9_areSizes d 0 0 [vI a1, vI a2, vI a3] G h (fun r1 G2 h3 => (inR r1) ∧ ((r1 ≠ 0 → R l MX9_areSizes d 0 0 [vI (a1 * a2), vI (a2 * a3), vI (a1 * a3)] G2 h3 (fun r6 G7 h8 => (inR r6) ∧ ((r6 ≠ 0 → (ty G7 a0 = 9) ∧ R l MX9_fresh d 0 0 [vR a0, vI (a1 * a2), vI (a2 * a3), vI (a1 * a3)] G7 h8 (fun r11 G12 h13 => S l MX9_tables (d + 1, 0, 0, 0, 0) 45 [some (vR a0), some (vI a1), some (vI a2), some (vI a3), some (vI 0), none, none] [] G12 h13 Q)) ∧ (r6 = 0 → Q ((-3)) G7 h8)))) ∧ (r1 = 0 → Q ((-1)) G2 h3)))) : S l MX9_tables (d + 1, 0, 0, 0, 0) 0 [some (vR a0), some (vI a1), some (vI a2), some (vI a3), none, none, none] [] G h Q := by
  refine s_iload_n dX9_tables_0 rfl rfl ?_
  refine s_iload_n dX9_tables_1 rfl rfl ?_
  refine s_iload_n dX9_tables_2 rfl rfl ?_
  refine s_callS (M' := MX9_areSizes) (As := [vI a1, vI a2, vI a3]) (st := []) dX9_tables_3 ml_X9_101 cs_X9_areSizes rfl rfl (Nat.le_of_ble_eq_true rfl) ⟨Nat.le_refl _, Nat.le_refl _⟩ (R_mono (fun r1 G2 h3 H => ?_) H)
  show S l MX9_tables (d + 1, 0, 0, 0, 0) 6 [some (vR a0), some (vI a1), some (vI a2), some (vI a3), none, none, none] [vI r1] G2 h3 Q
  have f4 := H.1
  replace H := H.2
  refine s_if_ne (tgt := 11) dX9_tables_6 (by decide) f4 (fun c5 => ?_) (fun c5 => ?_)
  · replace H := H.1 c5
    refine s_iload_n dX9_tables_11 rfl rfl ?_
    refine s_iload_n dX9_tables_12 rfl rfl ?_
    refine s_imul dX9_tables_13 ?_
    refine s_iload_n dX9_tables_14 rfl rfl ?_
    refine s_iload_n dX9_tables_15 rfl rfl ?_
    refine s_imul dX9_tables_16 ?_
    refine s_iload_n dX9_tables_17 rfl rfl ?_
    refine s_iload_n dX9_tables_18 rfl rfl ?_
    refine s_imul dX9_tables_19 ?_
    refine s_callS (M' := MX9_areSizes) (As := [vI (a1 * a2), vI (a2 * a3), vI (a1 * a3)]) (st := []) dX9_tables_20 ml_X9_101 cs_X9_areSizes rfl rfl (Nat.le_of_ble_eq_true rfl) ⟨Nat.le_refl _, Nat.le_refl _⟩ (R_mono (fun r6 G7 h8 H => ?_) H)
    show S l MX9_tables (d + 1, 0, 0, 0, 0) 23 [some (vR a0), some (vI a1), some (vI a2), some (vI a3), none, none, none] [vI r6] G7 h8 Q
    have f9 := H.1
    replace H := H.2
    refine s_if_ne (tgt := 29) dX9_tables_23 (by decide) f9 (fun c10 => ?_) (fun c10 => ?_)
    · replace H := H.1 c10
      refine s_aload_n dX9_tables_29 rfl rfl ?_
      refine s_iload_n dX9_tables_30 rfl rfl ?_
      refine s_iload_n dX9_tables_31 rfl rfl ?_
      refine s_imul dX9_tables_32 ?_
      refine s_iload_n dX9_tables_33 rfl rfl ?_
      refine s_iload_n dX9_tables_34 rfl rfl ?_
      refine s_imul dX9_tables_35 ?_
      refine s_iload_n dX9_tables_36 rfl rfl ?_
      refine s_iload_n dX9_tables_37 rfl rfl ?_
      refine s_imul dX9_tables_38 ?_
      have f14 := H.1
      replace H := H.2
      refine s_callV (M' := MX9_fresh) (As := [vI (a1 * a2), vI (a2 * a3), vI (a1 * a3)]) (a := a0) (st := []) dX9_tables_39 ml_X9_81 cv_X9_fresh rfl rfl (Nat.le_of_ble_eq_true rfl) ⟨Nat.le_refl _, Nat.le_refl _⟩ f14 (R_mono (fun r11 G12 h13 H => ?_) H)
      show S l MX9_tables (d + 1, 0, 0, 0, 0) 42 [some (vR a0), some (vI a1), some (vI a2), some (vI a3), none, none, none] [] G12 h13 Q
      refine s_iconst dX9_tables_42 ?_
      refine s_istore dX9_tables_43 (by decide) rfl ?_
      show S l MX9_tables (d + 1, 0, 0, 0, 0) 45 [some (vR a0), some (vI a1), some (vI a2), some (vI a3), some (vI 0), none, none] [] G12 h13 Q
      exact S_cut (by first | exact ⟨rfl, ⟨rfl, ⟨rfl, ⟨rfl, ⟨rfl, trivial⟩⟩⟩⟩⟩ | simp [lsub]) H
    · replace H := H.2 c10
      refine s_bipush dX9_tables_26 (by decide) ?_
      exact s_iret dX9_tables_28 rfl ⟨Nat.le_refl _, Nat.le_refl _⟩ H
  · replace H := H.2 c5
    refine s_iconst dX9_tables_9 ?_
    exact s_iret dX9_tables_10 rfl ⟨Nat.le_refl _, Nat.le_refl _⟩ H
set_option maxHeartbeats 4000000 in
set_option maxRecDepth 100000 in
theorem vX9_tables_45 {l : Launch} {d : Nat} {G : GS} {h : HP} {Q : Int → GS → HP → Prop} (a0 a1 a2 a3 a4 : Int) (H : (inR a4) ∧ (inR a1) ∧ ((a1 ≤ a4 → Q 1 G h) ∧ (a4 < a1 → S l MX9_tables (d + 1, 0, 0, 0, 0) 54 [some (vR a0), some (vI a1), some (vI a2), some (vI a3), some (vI a4), some (vI 0), none] [] G h Q))) : S l MX9_tables (d + 1, 0, 0, 0, 0) 45 [some (vR a0), some (vI a1), some (vI a2), some (vI a3), some (vI a4), none, none] [] G h Q := by
  refine s_iload dX9_tables_45 rfl ?_
  refine s_iload_n dX9_tables_47 rfl rfl ?_
  have f1 := H.1
  replace H := H.2
  have f2 := H.1
  replace H := H.2
  refine s_icmp_ge (tgt := 122) dX9_tables_48 (by decide) f1 f2 (fun c3 => ?_) (fun c3 => ?_)
  · replace H := H.1 c3
    refine s_iconst dX9_tables_122 ?_
    exact s_iret dX9_tables_123 rfl ⟨Nat.le_refl _, Nat.le_refl _⟩ H
  · replace H := H.2 c3
    refine s_iconst dX9_tables_51 ?_
    refine s_istore dX9_tables_52 (by decide) rfl ?_
    show S l MX9_tables (d + 1, 0, 0, 0, 0) 54 [some (vR a0), some (vI a1), some (vI a2), some (vI a3), some (vI a4), some (vI 0), none] [] G h Q
    exact S_cut (by first | exact ⟨rfl, ⟨rfl, ⟨rfl, ⟨rfl, ⟨rfl, ⟨rfl, trivial⟩⟩⟩⟩⟩⟩ | simp [lsub]) H
set_option maxHeartbeats 4000000 in
set_option maxRecDepth 100000 in
theorem vX9_tables_54 {l : Launch} {d : Nat} {G : GS} {h : HP} {Q : Int → GS → HP → Prop} (a0 a1 a2 a3 a4 a5 : Int) (H : (inR a5) ∧ (inR a2) ∧ ((a2 ≤ a5 → S l MX9_tables (d + 1, 0, 0, 0, 0) 45 [some (vR a0), some (vI a1), some (vI a2), some (vI a3), some (vI (a4 + 1)), none, none] [] G h Q) ∧ (a5 < a2 → S l MX9_tables (d + 1, 0, 0, 0, 0) 63 [some (vR a0), some (vI a1), some (vI a2), some (vI a3), some (vI a4), some (vI a5), some (vI 0)] [] G h Q))) : S l MX9_tables (d + 1, 0, 0, 0, 0) 54 [some (vR a0), some (vI a1), some (vI a2), some (vI a3), some (vI a4), some (vI a5), none] [] G h Q := by
  refine s_iload dX9_tables_54 rfl ?_
  refine s_iload_n dX9_tables_56 rfl rfl ?_
  have f1 := H.1
  replace H := H.2
  have f2 := H.1
  replace H := H.2
  refine s_icmp_ge (tgt := 116) dX9_tables_57 (by decide) f1 f2 (fun c3 => ?_) (fun c3 => ?_)
  · replace H := H.1 c3
    refine s_iinc dX9_tables_116 rfl (by decide) rfl ?_
    show S l MX9_tables (d + 1, 0, 0, 0, 0) 119 [some (vR a0), some (vI a1), some (vI a2), some (vI a3), some (vI (a4 + 1)), some (vI a5), none] [] G h Q
    refine s_goto (tgt := 45) dX9_tables_119 (by decide) ?_
    exact S_cut (by first | exact ⟨rfl, ⟨rfl, ⟨rfl, ⟨rfl, ⟨rfl, trivial⟩⟩⟩⟩⟩ | simp [lsub]) H
  · replace H := H.2 c3
    refine s_iconst dX9_tables_60 ?_
    refine s_istore dX9_tables_61 (by decide) rfl ?_
    show S l MX9_tables (d + 1, 0, 0, 0, 0) 63 [some (vR a0), some (vI a1), some (vI a2), some (vI a3), some (vI a4), some (vI a5), some (vI 0)] [] G h Q
    exact S_cut (by first | exact ⟨rfl, ⟨rfl, ⟨rfl, ⟨rfl, ⟨rfl, ⟨rfl, ⟨rfl, trivial⟩⟩⟩⟩⟩⟩⟩ | simp [lsub]) H
set_option maxHeartbeats 4000000 in
set_option maxRecDepth 100000 in
theorem vX9_tables_63 {l : Launch} {d : Nat} {G : GS} {h : HP} {Q : Int → GS → HP → Prop} (a0 a1 a2 a3 a4 a5 a6 : Int) (H : (inR a6) ∧ (inR a3) ∧ ((a3 ≤ a6 → S l MX9_tables (d + 1, 0, 0, 0, 0) 54 [some (vR a0), some (vI a1), some (vI a2), some (vI a3), some (vI a4), some (vI (a5 + 1)), none] [] G h Q) ∧ (a6 < a3 → (ty G a0 = 9) ∧ (inA G 10 (h a0 2) ((((81 * ((a2 * a4) + a5)) + (9 * ((a3 * a5) + a6))) + (a3 * a4)) + a6)) ∧ ∀ h6 : HP, h6 = hset h (h a0 2) ((((81 * ((a2 * a4) + a5)) + (9 * ((a3 * a5) + a6))) + (a3 * a4)) + a6) 1 → S l MX9_tables (d + 1, 0, 0, 0, 0) 63 [some (vR a0), some (vI a1), some (vI a2), some (vI a3), some (vI a4), some (vI a5), some (vI (a6 + 1))] [] G h6 Q))) : S l MX9_tables (d + 1, 0, 0, 0, 0) 63 [some (vR a0), some (vI a1), some (vI a2), some (vI a3), some (vI a4), some (vI a5), some (vI a6)] [] G h Q := by
  refine s_iload dX9_tables_63 rfl ?_
  refine s_iload_n dX9_tables_65 rfl rfl ?_
  have f1 := H.1
  replace H := H.2
  have f2 := H.1
  replace H := H.2
  refine s_icmp_ge (tgt := 110) dX9_tables_66 (by decide) f1 f2 (fun c3 => ?_) (fun c3 => ?_)
  · replace H := H.1 c3
    refine s_iinc dX9_tables_110 rfl (by decide) rfl ?_
    show S l MX9_tables (d + 1, 0, 0, 0, 0) 113 [some (vR a0), some (vI a1), some (vI a2), some (vI a3), some (vI a4), some (vI (a5 + 1)), some (vI a6)] [] G h Q
    refine s_goto (tgt := 54) dX9_tables_113 (by decide) ?_
    exact S_cut (by first | exact ⟨rfl, ⟨rfl, ⟨rfl, ⟨rfl, ⟨rfl, ⟨rfl, trivial⟩⟩⟩⟩⟩⟩ | simp [lsub]) H
  · replace H := H.2 c3
    refine s_aload_n dX9_tables_69 rfl rfl ?_
    have f4 := H.1
    replace H := H.2
    refine s_getf (c := 9) (k := 2) (t := 2) (j := 2) dX9_tables_70 fl_X9_17 (by decide) (by decide) rfl rfl f4 ?_
    refine s_bipush dX9_tables_73 (by decide) ?_
    refine s_iload_n dX9_tables_75 rfl rfl ?_
    refine s_iload dX9_tables_76 rfl ?_
    refine s_imul dX9_tables_78 ?_
    refine s_iload dX9_tables_79 rfl ?_
    refine s_iadd dX9_tables_81 ?_
    refine s_imul dX9_tables_82 ?_
    refine s_bipush dX9_tables_83 (by decide) ?_
    refine s_iload_n dX9_tables_85 rfl rfl ?_
    refine s_iload dX9_tables_86 rfl ?_
    refine s_imul dX9_tables_88 ?_
    refine s_iload dX9_tables_89 rfl ?_
    refine s_iadd dX9_tables_91 ?_
    refine s_imul dX9_tables_92 ?_
    refine s_iadd dX9_tables_93 ?_
    refine s_iload_n dX9_tables_94 rfl rfl ?_
    refine s_iload dX9_tables_95 rfl ?_
    refine s_imul dX9_tables_97 ?_
    refine s_iadd dX9_tables_98 ?_
    refine s_iload dX9_tables_99 rfl ?_
    refine s_iadd dX9_tables_101 ?_
    refine s_iconst dX9_tables_102 ?_
    have f5 := H.1
    replace H := H.2
    refine s_iastH dX9_tables_103 f5 (fun h6 eh6 => ?_)
    replace H := H h6 eh6
    refine s_iinc dX9_tables_104 rfl (by decide) rfl ?_
    show S l MX9_tables (d + 1, 0, 0, 0, 0) 107 [some (vR a0), some (vI a1), some (vI a2), some (vI a3), some (vI a4), some (vI a5), some (vI (a6 + 1))] [] G h6 Q
    refine s_goto (tgt := 63) dX9_tables_107 (by decide) ?_
    exact S_cut (by first | exact ⟨rfl, ⟨rfl, ⟨rfl, ⟨rfl, ⟨rfl, ⟨rfl, ⟨rfl, trivial⟩⟩⟩⟩⟩⟩⟩ | simp [lsub]) H
set_option maxHeartbeats 4000000 in
set_option maxRecDepth 100000 in
theorem vX9_rows_0 {l : Launch} {d : Nat} {G : GS} {h : HP} {Q : Int → GS → HP → Prop} (a0 a1 a2 a3 : Int) (H : (inR a1) ∧ R l MX9_in d 0 0 [vL a1, vL 1, vL 9] G h (fun r2 G3 h4 => (inR r2) ∧ ((r2 = 0 → Q ((-1)) G3 h4) ∧ (r2 ≠ 0 → (inR a2) ∧ R l MX9_in d 0 0 [vL a2, vL 1, vL 9] G3 h4 (fun r8 G9 h10 => (inR r8) ∧ ((r8 = 0 → Q ((-1)) G9 h10) ∧ (r8 ≠ 0 → (inR a3) ∧ R l MX9_in d 0 0 [vL a3, vL 0, vL 9] G9 h10 (fun r14 G15 h16 => (inR r14) ∧ ((r14 ≠ 0 → (inR a3) ∧ ((a3 ≠ 0 → ((a3 ≤ 9 → (ty G15 a0 = 9) ∧ R l MX9_fresh d 0 0 [vR a0, vI a1, vI a2, vI a3] G15 h16 (fun r22 G23 h24 => S l MX9_rows (d + 1, 0, 0, 0, 0) 74 [some (vR a0), some (vI a1), some (vI a2), none, some (vI a3), some (vI 0), none] [] G23 h24 Q)) ∧ (9 < a3 → Q ((-3)) G15 h16))) ∧ (a3 = 0 → (inR ((a1 + a2) - 1)) ∧ ((((a1 + a2) - 1) ≤ 9 → (ty G15 a0 = 9) ∧ R l MX9_fresh d 0 0 [vR a0, vI a1, vI a2, vI ((a1 + a2) - 1)] G15 h16 (fun r28 G29 h30 => S l MX9_rows (d + 1, 0, 0, 0, 0) 74 [some (vR a0), some (vI a1), some (vI a2), none, some (vI ((a1 + a2) - 1)), some (vI 0), none] [] G29 h30 Q)) ∧ (9 < ((a1 + a2) - 1) → Q ((-3)) G15 h16))))) ∧ (r14 = 0 → Q ((-1)) G15 h16)))))))))) : S l MX9_rows (d + 1, 0, 0, 0, 0) 0 [some (vR a0), some (vI a1), some (vI a2), some (vI a3), none, none, none] [] G h Q := by
  refine s_iload_n dX9_rows_0 rfl rfl ?_
  have f1 := H.1
  replace H := H.2
  refine s_i2l dX9_rows_1 f1 ?_
  refine s_lconst (v := 1) dX9_rows_2 rfl ?_
  refine s_ldc2 (v := 9) dX9_rows_3 kc_X9_95 ?_
  refine s_callS (M' := MX9_in) (As := [vL a1, vL 1, vL 9]) (st := []) dX9_rows_6 ml_X9_97 cs_X9_in rfl rfl (Nat.le_of_ble_eq_true rfl) ⟨Nat.le_refl _, Nat.le_refl _⟩ (R_mono (fun r2 G3 h4 H => ?_) H)
  show S l MX9_rows (d + 1, 0, 0, 0, 0) 9 [some (vR a0), some (vI a1), some (vI a2), some (vI a3), none, none, none] [vI r2] G3 h4 Q
  have f5 := H.1
  replace H := H.2
  refine s_if_eq (tgt := 36) dX9_rows_9 (by decide) f5 (fun c6 => ?_) (fun c6 => ?_)
  · replace H := H.1 c6
    refine s_iconst dX9_rows_36 ?_
    exact s_iret dX9_rows_37 rfl ⟨Nat.le_refl _, Nat.le_refl _⟩ H
  · replace H := H.2 c6
    refine s_iload_n dX9_rows_12 rfl rfl ?_
    have f7 := H.1
    replace H := H.2
    refine s_i2l dX9_rows_13 f7 ?_
    refine s_lconst (v := 1) dX9_rows_14 rfl ?_
    refine s_ldc2 (v := 9) dX9_rows_15 kc_X9_95 ?_
    refine s_callS (M' := MX9_in) (As := [vL a2, vL 1, vL 9]) (st := []) dX9_rows_18 ml_X9_97 cs_X9_in rfl rfl (Nat.le_of_ble_eq_true rfl) ⟨Nat.le_refl _, Nat.le_refl _⟩ (R_mono (fun r8 G9 h10 H => ?_) H)
    show S l MX9_rows (d + 1, 0, 0, 0, 0) 21 [some (vR a0), some (vI a1), some (vI a2), some (vI a3), none, none, none] [vI r8] G9 h10 Q
    have f11 := H.1
    replace H := H.2
    refine s_if_eq (tgt := 36) dX9_rows_21 (by decide) f11 (fun c12 => ?_) (fun c12 => ?_)
    · replace H := H.1 c12
      refine s_iconst dX9_rows_36 ?_
      exact s_iret dX9_rows_37 rfl ⟨Nat.le_refl _, Nat.le_refl _⟩ H
    · replace H := H.2 c12
      refine s_iload_n dX9_rows_24 rfl rfl ?_
      have f13 := H.1
      replace H := H.2
      refine s_i2l dX9_rows_25 f13 ?_
      refine s_lconst (v := 0) dX9_rows_26 rfl ?_
      refine s_ldc2 (v := 9) dX9_rows_27 kc_X9_95 ?_
      refine s_callS (M' := MX9_in) (As := [vL a3, vL 0, vL 9]) (st := []) dX9_rows_30 ml_X9_97 cs_X9_in rfl rfl (Nat.le_of_ble_eq_true rfl) ⟨Nat.le_refl _, Nat.le_refl _⟩ (R_mono (fun r14 G15 h16 H => ?_) H)
      show S l MX9_rows (d + 1, 0, 0, 0, 0) 33 [some (vR a0), some (vI a1), some (vI a2), some (vI a3), none, none, none] [vI r14] G15 h16 Q
      have f17 := H.1
      replace H := H.2
      refine s_if_ne (tgt := 38) dX9_rows_33 (by decide) f17 (fun c18 => ?_) (fun c18 => ?_)
      · replace H := H.1 c18
        refine s_iload_n dX9_rows_38 rfl rfl ?_
        have f19 := H.1
        replace H := H.2
        refine s_if_ne (tgt := 50) dX9_rows_39 (by decide) f19 (fun c20 => ?_) (fun c20 => ?_)
        · replace H := H.1 c20
          refine s_iload_n dX9_rows_50 rfl rfl ?_
          refine s_istore dX9_rows_51 (by decide) rfl ?_
          show S l MX9_rows (d + 1, 0, 0, 0, 0) 53 [some (vR a0), some (vI a1), some (vI a2), some (vI a3), some (vI a3), none, none] [] G15 h16 Q
          refine s_iload dX9_rows_53 rfl ?_
          refine s_bipush dX9_rows_55 (by decide) ?_
          refine s_icmp_le (tgt := 63) dX9_rows_57 (by decide) f19 (by decide) (fun c21 => ?_) (fun c21 => ?_)
          · replace H := H.1 c21
            refine s_aload_n dX9_rows_63 rfl rfl ?_
            refine s_iload_n dX9_rows_64 rfl rfl ?_
            refine s_iload_n dX9_rows_65 rfl rfl ?_
            refine s_iload dX9_rows_66 rfl ?_
            have f25 := H.1
            replace H := H.2
            refine s_callV (M' := MX9_fresh) (As := [vI a1, vI a2, vI a3]) (a := a0) (st := []) dX9_rows_68 ml_X9_81 cv_X9_fresh rfl rfl (Nat.le_of_ble_eq_true rfl) ⟨Nat.le_refl _, Nat.le_refl _⟩ f25 (R_mono (fun r22 G23 h24 H => ?_) H)
            show S l MX9_rows (d + 1, 0, 0, 0, 0) 71 [some (vR a0), some (vI a1), some (vI a2), some (vI a3), some (vI a3), none, none] [] G23 h24 Q
            refine s_iconst dX9_rows_71 ?_
            refine s_istore dX9_rows_72 (by decide) rfl ?_
            show S l MX9_rows (d + 1, 0, 0, 0, 0) 74 [some (vR a0), some (vI a1), some (vI a2), some (vI a3), some (vI a3), some (vI 0), none] [] G23 h24 Q
            exact S_cut (by first | exact ⟨rfl, ⟨rfl, ⟨rfl, ⟨rfl, ⟨rfl, trivial⟩⟩⟩⟩⟩ | simp [lsub]) H
          · replace H := H.2 c21
            refine s_bipush dX9_rows_60 (by decide) ?_
            exact s_iret dX9_rows_62 rfl ⟨Nat.le_refl _, Nat.le_refl _⟩ H
        · replace H := H.2 c20
          refine s_iload_n dX9_rows_42 rfl rfl ?_
          refine s_iload_n dX9_rows_43 rfl rfl ?_
          refine s_iadd dX9_rows_44 ?_
          refine s_iconst dX9_rows_45 ?_
          refine s_isub dX9_rows_46 ?_
          refine s_goto (tgt := 51) dX9_rows_47 (by decide) ?_
          refine s_istore dX9_rows_51 (by decide) rfl ?_
          show S l MX9_rows (d + 1, 0, 0, 0, 0) 53 [some (vR a0), some (vI a1), some (vI a2), some (vI a3), some (vI ((a1 + a2) - 1)), none, none] [] G15 h16 Q
          refine s_iload dX9_rows_53 rfl ?_
          refine s_bipush dX9_rows_55 (by decide) ?_
          have f26 := H.1
          replace H := H.2
          refine s_icmp_le (tgt := 63) dX9_rows_57 (by decide) f26 (by decide) (fun c27 => ?_) (fun c27 => ?_)
          · replace H := H.1 c27
            refine s_aload_n dX9_rows_63 rfl rfl ?_
            refine s_iload_n dX9_rows_64 rfl rfl ?_
            refine s_iload_n dX9_rows_65 rfl rfl ?_
            refine s_iload dX9_rows_66 rfl ?_
            have f31 := H.1
            replace H := H.2
            refine s_callV (M' := MX9_fresh) (As := [vI a1, vI a2, vI ((a1 + a2) - 1)]) (a := a0) (st := []) dX9_rows_68 ml_X9_81 cv_X9_fresh rfl rfl (Nat.le_of_ble_eq_true rfl) ⟨Nat.le_refl _, Nat.le_refl _⟩ f31 (R_mono (fun r28 G29 h30 H => ?_) H)
            show S l MX9_rows (d + 1, 0, 0, 0, 0) 71 [some (vR a0), some (vI a1), some (vI a2), some (vI a3), some (vI ((a1 + a2) - 1)), none, none] [] G29 h30 Q
            refine s_iconst dX9_rows_71 ?_
            refine s_istore dX9_rows_72 (by decide) rfl ?_
            show S l MX9_rows (d + 1, 0, 0, 0, 0) 74 [some (vR a0), some (vI a1), some (vI a2), some (vI a3), some (vI ((a1 + a2) - 1)), some (vI 0), none] [] G29 h30 Q
            exact S_cut (by first | exact ⟨rfl, ⟨rfl, ⟨rfl, ⟨rfl, ⟨rfl, trivial⟩⟩⟩⟩⟩ | simp [lsub]) H
          · replace H := H.2 c27
            refine s_bipush dX9_rows_60 (by decide) ?_
            exact s_iret dX9_rows_62 rfl ⟨Nat.le_refl _, Nat.le_refl _⟩ H
      · replace H := H.2 c18
        refine s_iconst dX9_rows_36 ?_
        exact s_iret dX9_rows_37 rfl ⟨Nat.le_refl _, Nat.le_refl _⟩ H
set_option maxHeartbeats 4000000 in
set_option maxRecDepth 100000 in
theorem vX9_rows_74 {l : Launch} {d : Nat} {G : GS} {h : HP} {Q : Int → GS → HP → Prop} (a0 a1 a2 a4 a5 : Int) (H : (inR a5) ∧ (inR a1) ∧ ((a1 ≤ a5 → Q 1 G h) ∧ (a5 < a1 → S l MX9_rows (d + 1, 0, 0, 0, 0) 83 [some (vR a0), some (vI a1), some (vI a2), none, some (vI a4), some (vI a5), some (vI 0)] [] G h Q))) : S l MX9_rows (d + 1, 0, 0, 0, 0) 74 [some (vR a0), some (vI a1), some (vI a2), none, some (vI a4), some (vI a5), none] [] G h Q := by
  refine s_iload dX9_rows_74 rfl ?_
  refine s_iload_n dX9_rows_76 rfl rfl ?_
  have f1 := H.1
  replace H := H.2
  have f2 := H.1
  replace H := H.2
  refine s_icmp_ge (tgt := 127) dX9_rows_77 (by decide) f1 f2 (fun c3 => ?_) (fun c3 => ?_)
  · replace H := H.1 c3
    refine s_iconst dX9_rows_127 ?_
    exact s_iret dX9_rows_128 rfl ⟨Nat.le_refl _, Nat.le_refl _⟩ H
  · replace H := H.2 c3
    refine s_iconst dX9_rows_80 ?_
    refine s_istore dX9_rows_81 (by decide) rfl ?_
    show S l MX9_rows (d + 1, 0, 0, 0, 0) 83 [some (vR a0), some (vI a1), some (vI a2), none, some (vI a4), some (vI a5), some (vI 0)] [] G h Q
    exact S_cut (by first | exact ⟨rfl, ⟨rfl, ⟨rfl, ⟨rfl, ⟨rfl, ⟨rfl, trivial⟩⟩⟩⟩⟩⟩ | simp [lsub]) H
set_option maxHeartbeats 4000000 in
set_option maxRecDepth 100000 in
theorem vX9_rows_83 {l : Launch} {d : Nat} {G : GS} {h : HP} {Q : Int → GS → HP → Prop} (a0 a1 a2 a4 a5 a6 : Int) (H : (inR a6) ∧ (inR a2) ∧ ((a2 ≤ a6 → S l MX9_rows (d + 1, 0, 0, 0, 0) 74 [some (vR a0), some (vI a1), some (vI a2), none, some (vI a4), some (vI (a5 + 1)), none] [] G h Q) ∧ (a6 < a2 → (ty G a0 = 9) ∧ (dvR (a5 + a6) a4) ∧ (inA G 10 (h a0 2) (((81 * a5) + (9 * a6)) + ((a5 + a6) % a4))) ∧ ∀ h7 : HP, h7 = hset h (h a0 2) (((81 * a5) + (9 * a6)) + ((a5 + a6) % a4)) 1 → S l MX9_rows (d + 1, 0, 0, 0, 0) 83 [some (vR a0), some (vI a1), some (vI a2), none, some (vI a4), some (vI a5), some (vI (a6 + 1))] [] G h7 Q))) : S l MX9_rows (d + 1, 0, 0, 0, 0) 83 [some (vR a0), some (vI a1), some (vI a2), none, some (vI a4), some (vI a5), some (vI a6)] [] G h Q := by
  refine s_iload dX9_rows_83 rfl ?_
  refine s_iload_n dX9_rows_85 rfl rfl ?_
  have f1 := H.1
  replace H := H.2
  have f2 := H.1
  replace H := H.2
  refine s_icmp_ge (tgt := 121) dX9_rows_86 (by decide) f1 f2 (fun c3 => ?_) (fun c3 => ?_)
  · replace H := H.1 c3
    refine s_iinc dX9_rows_121 rfl (by decide) rfl ?_
    show S l MX9_rows (d + 1, 0, 0, 0, 0) 124 [some (vR a0), some (vI a1), some (vI a2), none, some (vI a4), some (vI (a5 + 1)), some (vI a6)] [] G h Q
    refine s_goto (tgt := 74) dX9_rows_124 (by decide) ?_
    exact S_cut (by first | exact ⟨rfl, ⟨rfl, ⟨rfl, ⟨rfl, ⟨rfl, trivial⟩⟩⟩⟩⟩ | simp [lsub]) H
  · replace H := H.2 c3
    refine s_aload_n dX9_rows_89 rfl rfl ?_
    have f4 := H.1
    replace H := H.2
    refine s_getf (c := 9) (k := 2) (t := 2) (j := 2) dX9_rows_90 fl_X9_17 (by decide) (by decide) rfl rfl f4 ?_
    refine s_bipush dX9_rows_93 (by decide) ?_
    refine s_iload dX9_rows_95 rfl ?_
    refine s_imul dX9_rows_97 ?_
    refine s_bipush dX9_rows_98 (by decide) ?_
    refine s_iload dX9_rows_100 rfl ?_
    refine s_imul dX9_rows_102 ?_
    refine s_iadd dX9_rows_103 ?_
    refine s_iload dX9_rows_104 rfl ?_
    refine s_iload dX9_rows_106 rfl ?_
    refine s_iadd dX9_rows_108 ?_
    refine s_iload dX9_rows_109 rfl ?_
    have f5 := H.1
    replace H := H.2
    refine s_irem dX9_rows_111 f5 ?_
    refine s_iadd dX9_rows_112 ?_
    refine s_iconst dX9_rows_113 ?_
    have f6 := H.1
    replace H := H.2
    refine s_iastH dX9_rows_114 f6 (fun h7 eh7 => ?_)
    replace H := H h7 eh7
    refine s_iinc dX9_rows_115 rfl (by decide) rfl ?_
    show S l MX9_rows (d + 1, 0, 0, 0, 0) 118 [some (vR a0), some (vI a1), some (vI a2), none, some (vI a4), some (vI a5), some (vI (a6 + 1))] [] G h7 Q
    refine s_goto (tgt := 83) dX9_rows_118 (by decide) ?_
    exact S_cut (by first | exact ⟨rfl, ⟨rfl, ⟨rfl, ⟨rfl, ⟨rfl, ⟨rfl, trivial⟩⟩⟩⟩⟩⟩ | simp [lsub]) H
set_option maxHeartbeats 4000000 in
set_option maxRecDepth 100000 in
theorem vX9_set_0 {l : Launch} {d : Nat} {G : GS} {h : HP} {Q : Int → GS → HP → Prop} (a0 a1 a2 a3 a4 : Int) (H : (ty G a0 = 9) ∧ R l MX9_isPlace d 0 0 [vR a0, vI a1, vI a2, vI a3] G h (fun r1 G2 h3 => (inR r1) ∧ ((r1 = 0 → Q ((-1)) G2 h3) ∧ (r1 ≠ 0 → (inR a4) ∧ (ty G2 a0 = 9) ∧ (inR ((h3 a0 0) - 1)) ∧ R l MX9_in d 0 0 [vL a4, vL 0, vL ((h3 a0 0) - 1)] G2 h3 (fun r10 G11 h12 => (inR r10) ∧ ((r10 ≠ 0 → (ty G11 a0 = 9) ∧ (inA G11 10 (h12 a0 2) (((81 * a1) + (9 * a2)) + a3)) ∧ ∀ h17 : HP, h17 = hset h12 (h12 a0 2) (((81 * a1) + (9 * a2)) + a3) a4 → ∀ h18 : HP, h18 = hset h17 a0 15 0 → Q (h12 (h12 a0 2) (((81 * a1) + (9 * a2)) + a3)) G11 h18) ∧ (r10 = 0 → Q ((-1)) G11 h12))))))) : S l MX9_set (d + 1, 0, 0, 0, 0) 0 [some (vR a0), some (vI a1), some (vI a2), some (vI a3), some (vI a4), none] [] G h Q := by
  refine s_aload_n dX9_set_0 rfl rfl ?_
  refine s_iload_n dX9_set_1 rfl rfl ?_
  refine s_iload_n dX9_set_2 rfl rfl ?_
  refine s_iload_n dX9_set_3 rfl rfl ?_
  have f4 := H.1
  replace H := H.2
  refine s_callV (M' := MX9_isPlace) (As := [vI a1, vI a2, vI a3]) (a := a0) (st := []) dX9_set_4 ml_X9_105 cv_X9_isPlace rfl rfl (Nat.le_of_ble_eq_true rfl) ⟨Nat.le_refl _, Nat.le_refl _⟩ f4 (R_mono (fun r1 G2 h3 H => ?_) H)
  show S l MX9_set (d + 1, 0, 0, 0, 0) 7 [some (vR a0), some (vI a1), some (vI a2), some (vI a3), some (vI a4), none] [vI r1] G2 h3 Q
  have f5 := H.1
  replace H := H.2
  refine s_if_eq (tgt := 27) dX9_set_7 (by decide) f5 (fun c6 => ?_) (fun c6 => ?_)
  · replace H := H.1 c6
    refine s_iconst dX9_set_27 ?_
    exact s_iret dX9_set_28 rfl ⟨Nat.le_refl _, Nat.le_refl _⟩ H
  · replace H := H.2 c6
    refine s_iload dX9_set_10 rfl ?_
    have f7 := H.1
    replace H := H.2
    refine s_i2l dX9_set_12 f7 ?_
    refine s_lconst (v := 0) dX9_set_13 rfl ?_
    refine s_aload_n dX9_set_14 rfl rfl ?_
    have f8 := H.1
    replace H := H.2
    refine s_getf (c := 9) (k := 0) (t := 0) (j := 0) dX9_set_15 fl_X9_7 (by decide) (by decide) rfl rfl f8 ?_
    refine s_iconst dX9_set_18 ?_
    refine s_isub dX9_set_19 ?_
    have f9 := H.1
    replace H := H.2
    refine s_i2l dX9_set_20 f9 ?_
    refine s_callS (M' := MX9_in) (As := [vL a4, vL 0, vL ((h3 a0 0) - 1)]) (st := []) dX9_set_21 ml_X9_97 cs_X9_in rfl rfl (Nat.le_of_ble_eq_true rfl) ⟨Nat.le_refl _, Nat.le_refl _⟩ (R_mono (fun r10 G11 h12 H => ?_) H)
    show S l MX9_set (d + 1, 0, 0, 0, 0) 24 [some (vR a0), some (vI a1), some (vI a2), some (vI a3), some (vI a4), none] [vI r10] G11 h12 Q
    have f13 := H.1
    replace H := H.2
    refine s_if_ne (tgt := 29) dX9_set_24 (by decide) f13 (fun c14 => ?_) (fun c14 => ?_)
    · replace H := H.1 c14
      refine s_aload_n dX9_set_29 rfl rfl ?_
      have f15 := H.1
      replace H := H.2
      refine s_getf (c := 9) (k := 2) (t := 2) (j := 2) dX9_set_30 fl_X9_17 (by decide) (by decide) rfl rfl f15 ?_
      refine s_bipush dX9_set_33 (by decide) ?_
      refine s_iload_n dX9_set_35 rfl rfl ?_
      refine s_imul dX9_set_36 ?_
      refine s_bipush dX9_set_37 (by decide) ?_
      refine s_iload_n dX9_set_39 rfl rfl ?_
      refine s_imul dX9_set_40 ?_
      refine s_iadd dX9_set_41 ?_
      refine s_iload_n dX9_set_42 rfl rfl ?_
      refine s_iadd dX9_set_43 ?_
      have f16 := H.1
      replace H := H.2
      refine s_iald dX9_set_44 f16 ?_
      refine s_istore dX9_set_45 (by decide) rfl ?_
      show S l MX9_set (d + 1, 0, 0, 0, 0) 47 [some (vR a0), some (vI a1), some (vI a2), some (vI a3), some (vI a4), some (vI (h12 (h12 a0 2) (((81 * a1) + (9 * a2)) + a3)))] [] G11 h12 Q
      refine s_aload_n dX9_set_47 rfl rfl ?_
      refine s_getf (c := 9) (k := 2) (t := 2) (j := 2) dX9_set_48 fl_X9_17 (by decide) (by decide) rfl rfl f15 ?_
      refine s_bipush dX9_set_51 (by decide) ?_
      refine s_iload_n dX9_set_53 rfl rfl ?_
      refine s_imul dX9_set_54 ?_
      refine s_bipush dX9_set_55 (by decide) ?_
      refine s_iload_n dX9_set_57 rfl rfl ?_
      refine s_imul dX9_set_58 ?_
      refine s_iadd dX9_set_59 ?_
      refine s_iload_n dX9_set_60 rfl rfl ?_
      refine s_iadd dX9_set_61 ?_
      refine s_iload dX9_set_62 rfl ?_
      refine s_iastH dX9_set_64 f16 (fun h17 eh17 => ?_)
      replace H := H h17 eh17
      refine s_aload_n dX9_set_65 rfl rfl ?_
      refine s_iconst dX9_set_66 ?_
      refine s_putZ (c := 9) (k := 15) (j := 15) dX9_set_67 fl_X9_91 (by decide) (by decide) rfl rfl rfl (by decide) f15 (fun h18 eh18 => ?_)
      replace H := H h18 eh18
      refine s_iload dX9_set_70 rfl ?_
      exact s_iret dX9_set_72 rfl ⟨Nat.le_refl _, Nat.le_refl _⟩ H
    · replace H := H.2 c14
      refine s_iconst dX9_set_27 ?_
      exact s_iret dX9_set_28 rfl ⟨Nat.le_refl _, Nat.le_refl _⟩ H
set_option maxHeartbeats 4000000 in
set_option maxRecDepth 100000 in
theorem vX9_isPlace_0 {l : Launch} {d : Nat} {G : GS} {h : HP} {Q : Int → GS → HP → Prop} (a0 a1 a2 a3 : Int) (H : (inR a1) ∧ (ty G a0 = 9) ∧ (inA G 10 (h a0 1) 0) ∧ (inR ((h (h a0 1) 0) - 1)) ∧ R l MX9_in d 0 0 [vL a1, vL 0, vL ((h (h a0 1) 0) - 1)] G h (fun r5 G6 h7 => (inR r5) ∧ ((r5 = 0 → Q 0 G6 h7) ∧ (r5 ≠ 0 → (inR a2) ∧ (ty G6 a0 = 9) ∧ (inA G6 10 (h7 a0 1) 1) ∧ (inR ((h7 (h7 a0 1) 1) - 1)) ∧ R l MX9_in d 0 0 [vL a2, vL 0, vL ((h7 (h7 a0 1) 1) - 1)] G6 h7 (fun r14 G15 h16 => (inR r14) ∧ ((r14 = 0 → Q 0 G15 h16) ∧ (r14 ≠ 0 → (inR a3) ∧ (ty G15 a0 = 9) ∧ (inA G15 10 (h16 a0 1) 2) ∧ (inR ((h16 (h16 a0 1) 2) - 1)) ∧ R l MX9_in d 0 0 [vL a3, vL 0, vL ((h16 (h16 a0 1) 2) - 1)] G15 h16 (fun r23 G24 h25 => (inR r23) ∧ ((r23 = 0 → Q 0 G24 h25) ∧ (r23 ≠ 0 → Q 1 G24 h25)))))))))) : S l MX9_isPlace (d + 1, 0, 0, 0, 0) 0 [some (vR a0), some (vI a1), some (vI a2), some (vI a3)] [] G h Q := by
  refine s_iload_n dX9_isPlace_0 rfl rfl ?_
  have f1 := H.1
  replace H := H.2
  refine s_i2l dX9_isPlace_1 f1 ?_
  refine s_lconst (v := 0) dX9_isPlace_2 rfl ?_
  refine s_aload_n dX9_isPlace_3 rfl rfl ?_
  have f2 := H.1
  replace H := H.2
  refine s_getf (c := 9) (k := 1) (t := 2) (j := 1) dX9_isPlace_4 fl_X9_13 (by decide) (by decide) rfl rfl f2 ?_
  refine s_iconst dX9_isPlace_7 ?_
  have f3 := H.1
  replace H := H.2
  refine s_iald dX9_isPlace_8 f3 ?_
  refine s_iconst dX9_isPlace_9 ?_
  refine s_isub dX9_isPlace_10 ?_
  have f4 := H.1
  replace H := H.2
  refine s_i2l dX9_isPlace_11 f4 ?_
  refine s_callS (M' := MX9_in) (As := [vL a1, vL 0, vL ((h (h a0 1) 0) - 1)]) (st := []) dX9_isPlace_12 ml_X9_97 cs_X9_in rfl rfl (Nat.le_of_ble_eq_true rfl) ⟨Nat.le_refl _, Nat.le_refl _⟩ (R_mono (fun r5 G6 h7 H => ?_) H)
  show S l MX9_isPlace (d + 1, 0, 0, 0, 0) 15 [some (vR a0), some (vI a1), some (vI a2), some (vI a3)] [vI r5] G6 h7 Q
  have f8 := H.1
  replace H := H.2
  refine s_if_eq (tgt := 58) dX9_isPlace_15 (by decide) f8 (fun c9 => ?_) (fun c9 => ?_)
  · replace H := H.1 c9
    refine s_iconst dX9_isPlace_58 ?_
    exact s_zret dX9_isPlace_59 rfl ⟨Nat.le_refl _, Nat.le_refl _⟩ (by decide) H
  · replace H := H.2 c9
    refine s_iload_n dX9_isPlace_18 rfl rfl ?_
    have f10 := H.1
    replace H := H.2
    refine s_i2l dX9_isPlace_19 f10 ?_
    refine s_lconst (v := 0) dX9_isPlace_20 rfl ?_
    refine s_aload_n dX9_isPlace_21 rfl rfl ?_
    have f11 := H.1
    replace H := H.2
    refine s_getf (c := 9) (k := 1) (t := 2) (j := 1) dX9_isPlace_22 fl_X9_13 (by decide) (by decide) rfl rfl f11 ?_
    refine s_iconst dX9_isPlace_25 ?_
    have f12 := H.1
    replace H := H.2
    refine s_iald dX9_isPlace_26 f12 ?_
    refine s_iconst dX9_isPlace_27 ?_
    refine s_isub dX9_isPlace_28 ?_
    have f13 := H.1
    replace H := H.2
    refine s_i2l dX9_isPlace_29 f13 ?_
    refine s_callS (M' := MX9_in) (As := [vL a2, vL 0, vL ((h7 (h7 a0 1) 1) - 1)]) (st := []) dX9_isPlace_30 ml_X9_97 cs_X9_in rfl rfl (Nat.le_of_ble_eq_true rfl) ⟨Nat.le_refl _, Nat.le_refl _⟩ (R_mono (fun r14 G15 h16 H => ?_) H)
    show S l MX9_isPlace (d + 1, 0, 0, 0, 0) 33 [some (vR a0), some (vI a1), some (vI a2), some (vI a3)] [vI r14] G15 h16 Q
    have f17 := H.1
    replace H := H.2
    refine s_if_eq (tgt := 58) dX9_isPlace_33 (by decide) f17 (fun c18 => ?_) (fun c18 => ?_)
    · replace H := H.1 c18
      refine s_iconst dX9_isPlace_58 ?_
      exact s_zret dX9_isPlace_59 rfl ⟨Nat.le_refl _, Nat.le_refl _⟩ (by decide) H
    · replace H := H.2 c18
      refine s_iload_n dX9_isPlace_36 rfl rfl ?_
      have f19 := H.1
      replace H := H.2
      refine s_i2l dX9_isPlace_37 f19 ?_
      refine s_lconst (v := 0) dX9_isPlace_38 rfl ?_
      refine s_aload_n dX9_isPlace_39 rfl rfl ?_
      have f20 := H.1
      replace H := H.2
      refine s_getf (c := 9) (k := 1) (t := 2) (j := 1) dX9_isPlace_40 fl_X9_13 (by decide) (by decide) rfl rfl f20 ?_
      refine s_iconst dX9_isPlace_43 ?_
      have f21 := H.1
      replace H := H.2
      refine s_iald dX9_isPlace_44 f21 ?_
      refine s_iconst dX9_isPlace_45 ?_
      refine s_isub dX9_isPlace_46 ?_
      have f22 := H.1
      replace H := H.2
      refine s_i2l dX9_isPlace_47 f22 ?_
      refine s_callS (M' := MX9_in) (As := [vL a3, vL 0, vL ((h16 (h16 a0 1) 2) - 1)]) (st := []) dX9_isPlace_48 ml_X9_97 cs_X9_in rfl rfl (Nat.le_of_ble_eq_true rfl) ⟨Nat.le_refl _, Nat.le_refl _⟩ (R_mono (fun r23 G24 h25 H => ?_) H)
      show S l MX9_isPlace (d + 1, 0, 0, 0, 0) 51 [some (vR a0), some (vI a1), some (vI a2), some (vI a3)] [vI r23] G24 h25 Q
      have f26 := H.1
      replace H := H.2
      refine s_if_eq (tgt := 58) dX9_isPlace_51 (by decide) f26 (fun c27 => ?_) (fun c27 => ?_)
      · replace H := H.1 c27
        refine s_iconst dX9_isPlace_58 ?_
        exact s_zret dX9_isPlace_59 rfl ⟨Nat.le_refl _, Nat.le_refl _⟩ (by decide) H
      · replace H := H.2 c27
        refine s_iconst dX9_isPlace_54 ?_
        refine s_goto (tgt := 59) dX9_isPlace_55 (by decide) ?_
        exact s_zret dX9_isPlace_59 rfl ⟨Nat.le_refl _, Nat.le_refl _⟩ (by decide) H
set_option maxHeartbeats 4000000 in
set_option maxRecDepth 100000 in
theorem vX9_at_0 {l : Launch} {d : Nat} {G : GS} {h : HP} {Q : Int → GS → HP → Prop} (a0 a1 a2 a3 : Int) (H : (ty G a0 = 9) ∧ R l MX9_isPlace d 0 0 [vR a0, vI a1, vI a2, vI a3] G h (fun r1 G2 h3 => (inR r1) ∧ ((r1 = 0 → Q ((-1)) G2 h3) ∧ (r1 ≠ 0 → (ty G2 a0 = 9) ∧ (inA G2 10 (h3 a0 2) (((81 * a1) + (9 * a2)) + a3)) ∧ Q (h3 (h3 a0 2) (((81 * a1) + (9 * a2)) + a3)) G2 h3)))) : S l MX9_at (d + 1, 0, 0, 0, 0) 0 [some (vR a0), some (vI a1), some (vI a2), some (vI a3)] [] G h Q := by
  refine s_aload_n dX9_at_0 rfl rfl ?_
  refine s_iload_n dX9_at_1 rfl rfl ?_
  refine s_iload_n dX9_at_2 rfl rfl ?_
  refine s_iload_n dX9_at_3 rfl rfl ?_
  have f4 := H.1
  replace H := H.2
  refine s_callV (M' := MX9_isPlace) (As := [vI a1, vI a2, vI a3]) (a := a0) (st := []) dX9_at_4 ml_X9_105 cv_X9_isPlace rfl rfl (Nat.le_of_ble_eq_true rfl) ⟨Nat.le_refl _, Nat.le_refl _⟩ f4 (R_mono (fun r1 G2 h3 H => ?_) H)
  show S l MX9_at (d + 1, 0, 0, 0, 0) 7 [some (vR a0), some (vI a1), some (vI a2), some (vI a3)] [vI r1] G2 h3 Q
  have f5 := H.1
  replace H := H.2
  refine s_if_eq (tgt := 29) dX9_at_7 (by decide) f5 (fun c6 => ?_) (fun c6 => ?_)
  · replace H := H.1 c6
    refine s_iconst dX9_at_29 ?_
    exact s_iret dX9_at_30 rfl ⟨Nat.le_refl _, Nat.le_refl _⟩ H
  · replace H := H.2 c6
    refine s_aload_n dX9_at_10 rfl rfl ?_
    have f7 := H.1
    replace H := H.2
    refine s_getf (c := 9) (k := 2) (t := 2) (j := 2) dX9_at_11 fl_X9_17 (by decide) (by decide) rfl rfl f7 ?_
    refine s_bipush dX9_at_14 (by decide) ?_
    refine s_iload_n dX9_at_16 rfl rfl ?_
    refine s_imul dX9_at_17 ?_
    refine s_bipush dX9_at_18 (by decide) ?_
    refine s_iload_n dX9_at_20 rfl rfl ?_
    refine s_imul dX9_at_21 ?_
    refine s_iadd dX9_at_22 ?_
    refine s_iload_n dX9_at_23 rfl rfl ?_
    refine s_iadd dX9_at_24 ?_
    have f8 := H.1
    replace H := H.2
    refine s_iald dX9_at_25 f8 ?_
    refine s_goto (tgt := 30) dX9_at_26 (by decide) ?_
    exact s_iret dX9_at_30 rfl ⟨Nat.le_refl _, Nat.le_refl _⟩ H
set_option maxHeartbeats 4000000 in
set_option maxRecDepth 100000 in
theorem vX9_many_0 {l : Launch} {d : Nat} {G : GS} {h : HP} {Q : Int → GS → HP → Prop} (a0 a1 : Int) (H : (inR a1) ∧ ((a1 = 0 → (ty G a0 = 9) ∧ Q (h a0 0) G h) ∧ (a1 = 1 → (ty G a0 = 9) ∧ (inA G 10 (h a0 1) (a1 - 1)) ∧ Q (h (h a0 1) (a1 - 1)) G h) ∧ (a1 = 2 → (ty G a0 = 9) ∧ (inA G 10 (h a0 1) (a1 - 1)) ∧ Q (h (h a0 1) (a1 - 1)) G h) ∧ (a1 = 3 → (ty G a0 = 9) ∧ (inA G 10 (h a0 1) (a1 - 1)) ∧ Q (h (h a0 1) (a1 - 1)) G h) ∧ (a1 = 4 → (ty G a0 = 9) ∧ Q (h a0 4) G h) ∧ (a1 = 5 → (ty G a0 = 9) ∧ R l MX9_filled d 0 0 [vR a0] G h (fun r11 G12 h13 => Q r11 G12 h13)) ∧ (a1 = 6 → (ty G a0 = 9) ∧ R l MX9_moves d 0 0 [vR a0] G h (fun r15 G16 h17 => Q r15 G16 h17)) ∧ (a1 ≠ 0 ∧ a1 ≠ 1 ∧ a1 ≠ 2 ∧ a1 ≠ 3 ∧ a1 ≠ 4 ∧ a1 ≠ 5 ∧ a1 ≠ 6 → Q ((-1)) G h))) : S l MX9_many (d + 1, 0, 0, 0, 0) 0 [some (vR a0), some (vI a1)] [] G h Q := by
  refine s_iload_n dX9_many_0 rfl rfl ?_
  have f1 := H.1
  replace H := H.2
  have hsw : (a1 = 0 ∨ a1 = 1 ∨ a1 = 2 ∨ a1 = 3 ∨ a1 = 4 ∨ a1 = 5 ∨ a1 = 6) ∨ (a1 ≠ 0 ∧ a1 ≠ 1 ∧ a1 ≠ 2 ∧ a1 ≠ 3 ∧ a1 ≠ 4 ∧ a1 ≠ 5 ∧ a1 ≠ 6) := by omega
  rcases hsw with (c2 | c2 | c2 | c2 | c2 | c2 | c2) | c2
  · replace H := H.1 c2
    refine s_tabIn (v := 0) (off := 43) (tgt := 44) dX9_many_1 f1 c2 (by decide) (by decide) rfl (by decide) ?_
    refine s_aload_n dX9_many_44 rfl rfl ?_
    have f3 := H.1
    replace H := H.2
    refine s_getf (c := 9) (k := 0) (t := 0) (j := 0) dX9_many_45 fl_X9_7 (by decide) (by decide) rfl rfl f3 ?_
    exact s_iret dX9_many_48 rfl ⟨Nat.le_refl _, Nat.le_refl _⟩ H
  · replace H := H.2.1 c2
    refine s_tabIn (v := 1) (off := 48) (tgt := 49) dX9_many_1 f1 c2 (by decide) (by decide) rfl (by decide) ?_
    refine s_aload_n dX9_many_49 rfl rfl ?_
    have f4 := H.1
    replace H := H.2
    refine s_getf (c := 9) (k := 1) (t := 2) (j := 1) dX9_many_50 fl_X9_13 (by decide) (by decide) rfl rfl f4 ?_
    refine s_iload_n dX9_many_53 rfl rfl ?_
    refine s_iconst dX9_many_54 ?_
    refine s_isub dX9_many_55 ?_
    have f5 := H.1
    replace H := H.2
    refine s_iald dX9_many_56 f5 ?_
    exact s_iret dX9_many_57 rfl ⟨Nat.le_refl _, Nat.le_refl _⟩ H
  · replace H := H.2.2.1 c2
    refine s_tabIn (v := 2) (off := 48) (tgt := 49) dX9_many_1 f1 c2 (by decide) (by decide) rfl (by decide) ?_
    refine s_aload_n dX9_many_49 rfl rfl ?_
    have f6 := H.1
    replace H := H.2
    refine s_getf (c := 9) (k := 1) (t := 2) (j := 1) dX9_many_50 fl_X9_13 (by decide) (by decide) rfl rfl f6 ?_
    refine s_iload_n dX9_many_53 rfl rfl ?_
    refine s_iconst dX9_many_54 ?_
    refine s_isub dX9_many_55 ?_
    have f7 := H.1
    replace H := H.2
    refine s_iald dX9_many_56 f7 ?_
    exact s_iret dX9_many_57 rfl ⟨Nat.le_refl _, Nat.le_refl _⟩ H
  · replace H := H.2.2.2.1 c2
    refine s_tabIn (v := 3) (off := 48) (tgt := 49) dX9_many_1 f1 c2 (by decide) (by decide) rfl (by decide) ?_
    refine s_aload_n dX9_many_49 rfl rfl ?_
    have f8 := H.1
    replace H := H.2
    refine s_getf (c := 9) (k := 1) (t := 2) (j := 1) dX9_many_50 fl_X9_13 (by decide) (by decide) rfl rfl f8 ?_
    refine s_iload_n dX9_many_53 rfl rfl ?_
    refine s_iconst dX9_many_54 ?_
    refine s_isub dX9_many_55 ?_
    have f9 := H.1
    replace H := H.2
    refine s_iald dX9_many_56 f9 ?_
    exact s_iret dX9_many_57 rfl ⟨Nat.le_refl _, Nat.le_refl _⟩ H
  · replace H := H.2.2.2.2.1 c2
    refine s_tabIn (v := 4) (off := 57) (tgt := 58) dX9_many_1 f1 c2 (by decide) (by decide) rfl (by decide) ?_
    refine s_aload_n dX9_many_58 rfl rfl ?_
    have f10 := H.1
    replace H := H.2
    refine s_getf (c := 9) (k := 4) (t := 0) (j := 4) dX9_many_59 fl_X9_85 (by decide) (by decide) rfl rfl f10 ?_
    exact s_iret dX9_many_62 rfl ⟨Nat.le_refl _, Nat.le_refl _⟩ H
  · replace H := H.2.2.2.2.2.1 c2
    refine s_tabIn (v := 5) (off := 62) (tgt := 63) dX9_many_1 f1 c2 (by decide) (by decide) rfl (by decide) ?_
    refine s_aload_n dX9_many_63 rfl rfl ?_
    have f14 := H.1
    replace H := H.2
    refine s_callV (M' := MX9_filled) (As := []) (a := a0) (st := []) dX9_many_64 ml_X9_108 cv_X9_filled rfl rfl (Nat.le_of_ble_eq_true rfl) ⟨Nat.le_refl _, Nat.le_refl _⟩ f14 (R_mono (fun r11 G12 h13 H => ?_) H)
    show S l MX9_many (d + 1, 0, 0, 0, 0) 67 [some (vR a0), some (vI a1)] [vI r11] G12 h13 Q
    exact s_iret dX9_many_67 rfl ⟨Nat.le_refl _, Nat.le_refl _⟩ H
  · replace H := H.2.2.2.2.2.2.1 c2
    refine s_tabIn (v := 6) (off := 67) (tgt := 68) dX9_many_1 f1 c2 (by decide) (by decide) rfl (by decide) ?_
    refine s_aload_n dX9_many_68 rfl rfl ?_
    have f18 := H.1
    replace H := H.2
    refine s_callV (M' := MX9_moves) (As := []) (a := a0) (st := []) dX9_many_69 ml_X9_112 cv_X9_moves rfl rfl (Nat.le_of_ble_eq_true rfl) ⟨Nat.le_refl _, Nat.le_refl _⟩ f18 (R_mono (fun r15 G16 h17 H => ?_) H)
    show S l MX9_many (d + 1, 0, 0, 0, 0) 72 [some (vR a0), some (vI a1)] [vI r15] G16 h17 Q
    exact s_iret dX9_many_72 rfl ⟨Nat.le_refl _, Nat.le_refl _⟩ H
  · replace H := H.2.2.2.2.2.2.2 c2
    refine s_tabOut (tgt := 73) dX9_many_1 f1 (by omega) (by decide) ?_
    refine s_iconst dX9_many_73 ?_
    exact s_iret dX9_many_74 rfl ⟨Nat.le_refl _, Nat.le_refl _⟩ H
set_option maxHeartbeats 4000000 in
set_option maxRecDepth 100000 in
theorem vX9_filled_0 {l : Launch} {d : Nat} {G : GS} {h : HP} {Q : Int → GS → HP → Prop} (a0 : Int) (H : S l MX9_filled (d, 0, 0, 0, 0) 4 [some (vR a0), some (vI 0), some (vI 0)] [] G h Q) : S l MX9_filled (d, 0, 0, 0, 0) 0 [some (vR a0), none, none] [] G h Q := by
  refine s_iconst dX9_filled_0 ?_
  refine s_istore_n dX9_filled_1 rfl (by decide) rfl ?_
  show S l MX9_filled (d, 0, 0, 0, 0) 2 [some (vR a0), some (vI 0), none] [] G h Q
  refine s_iconst dX9_filled_2 ?_
  refine s_istore_n dX9_filled_3 rfl (by decide) rfl ?_
  show S l MX9_filled (d, 0, 0, 0, 0) 4 [some (vR a0), some (vI 0), some (vI 0)] [] G h Q
  exact S_cut (by first | exact ⟨rfl, ⟨rfl, ⟨rfl, trivial⟩⟩⟩ | simp [lsub]) H
set_option maxHeartbeats 4000000 in
set_option maxRecDepth 100000 in
theorem vX9_filled_4 {l : Launch} {d : Nat} {G : GS} {h : HP} {Q : Int → GS → HP → Prop} (a0 a1 a2 : Int) (H : (inR a2) ∧ ((729 ≤ a2 → Q a1 G h) ∧ (a2 < 729 → (ty G a0 = 9) ∧ (inA G 10 (h a0 2) a2) ∧ (inR (h (h a0 2) a2)) ∧ (((h (h a0 2) a2) = 0 → S l MX9_filled (d, 0, 0, 0, 0) 4 [some (vR a0), some (vI (a1 + 0)), some (vI (a2 + 1))] [] G h Q) ∧ ((h (h a0 2) a2) ≠ 0 → S l MX9_filled (d, 0, 0, 0, 0) 4 [some (vR a0), some (vI (a1 + 1)), some (vI (a2 + 1))] [] G h Q))))) : S l MX9_filled (d, 0, 0, 0, 0) 4 [some (vR a0), some (vI a1), some (vI a2)] [] G h Q := by
  refine s_iload_n dX9_filled_4 rfl rfl ?_
  refine s_sipush dX9_filled_5 (by decide) ?_
  have f1 := H.1
  replace H := H.2
  refine s_icmp_ge (tgt := 34) dX9_filled_8 (by decide) f1 (by decide) (fun c2 => ?_) (fun c2 => ?_)
  · replace H := H.1 c2
    refine s_iload_n dX9_filled_34 rfl rfl ?_
    exact s_iret dX9_filled_35 rfl ⟨Nat.le_refl _, Nat.le_refl _⟩ H
  · replace H := H.2 c2
    refine s_iload_n dX9_filled_11 rfl rfl ?_
    refine s_aload_n dX9_filled_12 rfl rfl ?_
    have f3 := H.1
    replace H := H.2
    refine s_getf (c := 9) (k := 2) (t := 2) (j := 2) dX9_filled_13 fl_X9_17 (by decide) (by decide) rfl rfl f3 ?_
    refine s_iload_n dX9_filled_16 rfl rfl ?_
    have f4 := H.1
    replace H := H.2
    refine s_iald dX9_filled_17 f4 ?_
    have f5 := H.1
    replace H := H.2
    refine s_if_eq (tgt := 25) dX9_filled_18 (by decide) f5 (fun c6 => ?_) (fun c6 => ?_)
    · replace H := H.1 c6
      refine s_iconst dX9_filled_25 ?_
      refine s_iadd dX9_filled_26 ?_
      refine s_istore_n dX9_filled_27 rfl (by decide) rfl ?_
      show S l MX9_filled (d, 0, 0, 0, 0) 28 [some (vR a0), some (vI (a1 + 0)), some (vI a2)] [] G h Q
      refine s_iinc dX9_filled_28 rfl (by decide) rfl ?_
      show S l MX9_filled (d, 0, 0, 0, 0) 31 [some (vR a0), some (vI (a1 + 0)), some (vI (a2 + 1))] [] G h Q
      refine s_goto (tgt := 4) dX9_filled_31 (by decide) ?_
      exact S_cut (by first | exact ⟨rfl, ⟨rfl, ⟨rfl, trivial⟩⟩⟩ | simp [lsub]) H
    · replace H := H.2 c6
      refine s_iconst dX9_filled_21 ?_
      refine s_goto (tgt := 26) dX9_filled_22 (by decide) ?_
      refine s_iadd dX9_filled_26 ?_
      refine s_istore_n dX9_filled_27 rfl (by decide) rfl ?_
      show S l MX9_filled (d, 0, 0, 0, 0) 28 [some (vR a0), some (vI (a1 + 1)), some (vI a2)] [] G h Q
      refine s_iinc dX9_filled_28 rfl (by decide) rfl ?_
      show S l MX9_filled (d, 0, 0, 0, 0) 31 [some (vR a0), some (vI (a1 + 1)), some (vI (a2 + 1))] [] G h Q
      refine s_goto (tgt := 4) dX9_filled_31 (by decide) ?_
      exact S_cut (by first | exact ⟨rfl, ⟨rfl, ⟨rfl, trivial⟩⟩⟩ | simp [lsub]) H
set_option maxHeartbeats 4000000 in
set_option maxRecDepth 100000 in
theorem vX9_moves_0 {l : Launch} {d : Nat} {G : GS} {h : HP} {Q : Int → GS → HP → Prop} (a0 : Int) (H : S l MX9_moves (d + 1, 0, 0, 0, 0) 4 [some (vR a0), some (vI 0), some (vI 0), none, none] [] G h Q) : S l MX9_moves (d + 1, 0, 0, 0, 0) 0 [some (vR a0), none, none, none, none] [] G h Q := by
  refine s_iconst dX9_moves_0 ?_
  refine s_istore_n dX9_moves_1 rfl (by decide) rfl ?_
  show S l MX9_moves (d + 1, 0, 0, 0, 0) 2 [some (vR a0), some (vI 0), none, none, none] [] G h Q
  refine s_iconst dX9_moves_2 ?_
  refine s_istore_n dX9_moves_3 rfl (by decide) rfl ?_
  show S l MX9_moves (d + 1, 0, 0, 0, 0) 4 [some (vR a0), some (vI 0), some (vI 0), none, none] [] G h Q
  exact S_cut (by first | exact ⟨rfl, ⟨rfl, ⟨rfl, trivial⟩⟩⟩ | simp [lsub]) H
set_option maxHeartbeats 4000000 in
set_option maxRecDepth 100000 in
theorem vX9_moves_4 {l : Launch} {d : Nat} {G : GS} {h : HP} {Q : Int → GS → HP → Prop} (a0 a1 a2 : Int) (H : (inR a2) ∧ ((3 ≤ a2 → Q a1 G h) ∧ (a2 < 3 → S l MX9_moves (d + 1, 0, 0, 0, 0) 11 [some (vR a0), some (vI a1), some (vI a2), some (vI 0), none] [] G h Q))) : S l MX9_moves (d + 1, 0, 0, 0, 0) 4 [some (vR a0), some (vI a1), some (vI a2), none, none] [] G h Q := by
  refine s_iload_n dX9_moves_4 rfl rfl ?_
  refine s_iconst dX9_moves_5 ?_
  have f1 := H.1
  replace H := H.2
  refine s_icmp_ge (tgt := 74) dX9_moves_6 (by decide) f1 (by decide) (fun c2 => ?_) (fun c2 => ?_)
  · replace H := H.1 c2
    refine s_iload_n dX9_moves_74 rfl rfl ?_
    exact s_iret dX9_moves_75 rfl ⟨Nat.le_refl _, Nat.le_refl _⟩ H
  · replace H := H.2 c2
    refine s_iconst dX9_moves_9 ?_
    refine s_istore_n dX9_moves_10 rfl (by decide) rfl ?_
    show S l MX9_moves (d + 1, 0, 0, 0, 0) 11 [some (vR a0), some (vI a1), some (vI a2), some (vI 0), none] [] G h Q
    exact S_cut (by first | exact ⟨rfl, ⟨rfl, ⟨rfl, ⟨rfl, trivial⟩⟩⟩⟩ | simp [lsub]) H
set_option maxHeartbeats 4000000 in
set_option maxRecDepth 100000 in
theorem vX9_moves_11 {l : Launch} {d : Nat} {G : GS} {h : HP} {Q : Int → GS → HP → Prop} (a0 a1 a2 a3 : Int) (H : (ty G a0 = 9) ∧ (inR a3) ∧ (inR (h a0 4)) ∧ (((h a0 4) ≤ a3 → S l MX9_moves (d + 1, 0, 0, 0, 0) 4 [some (vR a0), some (vI a1), some (vI (a2 + 1)), none, none] [] G h Q) ∧ (a3 < (h a0 4) → S l MX9_moves (d + 1, 0, 0, 0, 0) 22 [some (vR a0), some (vI a1), some (vI a2), some (vI a3), some (vI 0)] [] G h Q))) : S l MX9_moves (d + 1, 0, 0, 0, 0) 11 [some (vR a0), some (vI a1), some (vI a2), some (vI a3), none] [] G h Q := by
  refine s_iload_n dX9_moves_11 rfl rfl ?_
  refine s_aload_n dX9_moves_12 rfl rfl ?_
  have f1 := H.1
  replace H := H.2
  refine s_getf (c := 9) (k := 4) (t := 0) (j := 4) dX9_moves_13 fl_X9_85 (by decide) (by decide) rfl rfl f1 ?_
  have f2 := H.1
  replace H := H.2
  have f3 := H.1
  replace H := H.2
  refine s_icmp_ge (tgt := 68) dX9_moves_16 (by decide) f2 f3 (fun c4 => ?_) (fun c4 => ?_)
  · replace H := H.1 c4
    refine s_iinc dX9_moves_68 rfl (by decide) rfl ?_
    show S l MX9_moves (d + 1, 0, 0, 0, 0) 71 [some (vR a0), some (vI a1), some (vI (a2 + 1)), some (vI a3), none] [] G h Q
    refine s_goto (tgt := 4) dX9_moves_71 (by decide) ?_
    exact S_cut (by first | exact ⟨rfl, ⟨rfl, ⟨rfl, trivial⟩⟩⟩ | simp [lsub]) H
  · replace H := H.2 c4
    refine s_iconst dX9_moves_19 ?_
    refine s_istore dX9_moves_20 (by decide) rfl ?_
    show S l MX9_moves (d + 1, 0, 0, 0, 0) 22 [some (vR a0), some (vI a1), some (vI a2), some (vI a3), some (vI 0)] [] G h Q
    exact S_cut (by first | exact ⟨rfl, ⟨rfl, ⟨rfl, ⟨rfl, ⟨rfl, trivial⟩⟩⟩⟩⟩ | simp [lsub]) H
set_option maxHeartbeats 4000000 in
set_option maxRecDepth 100000 in
theorem vX9_moves_22 {l : Launch} {d : Nat} {G : GS} {h : HP} {Q : Int → GS → HP → Prop} (a0 a1 a2 a3 a4 : Int) (H : (ty G a0 = 9) ∧ (inR a4) ∧ (inR (h a0 4)) ∧ (((h a0 4) ≤ a4 → S l MX9_moves (d + 1, 0, 0, 0, 0) 11 [some (vR a0), some (vI a1), some (vI a2), some (vI (a3 + 1)), none] [] G h Q) ∧ (a4 < (h a0 4) → (inR a3) ∧ ((a3 = a4 → S l MX9_moves (d + 1, 0, 0, 0, 0) 22 [some (vR a0), some (vI (a1 + 0)), some (vI a2), some (vI a3), some (vI (a4 + 1))] [] G h Q) ∧ (a3 ≠ a4 → R l MX9_factor d 0 0 [vR a0, vI a3, vI a4, vI a2] G h (fun r7 G8 h9 => (inR r7) ∧ ((r7 ≤ 0 → S l MX9_moves (d + 1, 0, 0, 0, 0) 22 [some (vR a0), some (vI (a1 + 0)), some (vI a2), some (vI a3), some (vI (a4 + 1))] [] G8 h9 Q) ∧ (0 < r7 → S l MX9_moves (d + 1, 0, 0, 0, 0) 22 [some (vR a0), some (vI (a1 + 1)), some (vI a2), some (vI a3), some (vI (a4 + 1))] [] G8 h9 Q)))))))) : S l MX9_moves (d + 1, 0, 0, 0, 0) 22 [some (vR a0), some (vI a1), some (vI a2), some (vI a3), some (vI a4)] [] G h Q := by
  refine s_iload dX9_moves_22 rfl ?_
  refine s_aload_n dX9_moves_24 rfl rfl ?_
  have f1 := H.1
  replace H := H.2
  refine s_getf (c := 9) (k := 4) (t := 0) (j := 4) dX9_moves_25 fl_X9_85 (by decide) (by decide) rfl rfl f1 ?_
  have f2 := H.1
  replace H := H.2
  have f3 := H.1
  replace H := H.2
  refine s_icmp_ge (tgt := 62) dX9_moves_28 (by decide) f2 f3 (fun c4 => ?_) (fun c4 => ?_)
  · replace H := H.1 c4
    refine s_iinc dX9_moves_62 rfl (by decide) rfl ?_
    show S l MX9_moves (d + 1, 0, 0, 0, 0) 65 [some (vR a0), some (vI a1), some (vI a2), some (vI (a3 + 1)), some (vI a4)] [] G h Q
    refine s_goto (tgt := 11) dX9_moves_65 (by decide) ?_
    exact S_cut (by first | exact ⟨rfl, ⟨rfl, ⟨rfl, ⟨rfl, trivial⟩⟩⟩⟩ | simp [lsub]) H
  · replace H := H.2 c4
    refine s_iload_n dX9_moves_31 rfl rfl ?_
    refine s_iload_n dX9_moves_32 rfl rfl ?_
    refine s_iload dX9_moves_33 rfl ?_
    have f5 := H.1
    replace H := H.2
    refine s_icmp_eq (tgt := 53) dX9_moves_35 (by decide) f5 f2 (fun c6 => ?_) (fun c6 => ?_)
    · replace H := H.1 c6
      refine s_iconst dX9_moves_53 ?_
      refine s_iadd dX9_moves_54 ?_
      refine s_istore_n dX9_moves_55 rfl (by decide) rfl ?_
      show S l MX9_moves (d + 1, 0, 0, 0, 0) 56 [some (vR a0), some (vI (a1 + 0)), some (vI a2), some (vI a3), some (vI a4)] [] G h Q
      refine s_iinc dX9_moves_56 rfl (by decide) rfl ?_
      show S l MX9_moves (d + 1, 0, 0, 0, 0) 59 [some (vR a0), some (vI (a1 + 0)), some (vI a2), some (vI a3), some (vI (a4 + 1))] [] G h Q
      refine s_goto (tgt := 22) dX9_moves_59 (by decide) ?_
      exact S_cut (by first | exact ⟨rfl, ⟨rfl, ⟨rfl, ⟨rfl, ⟨rfl, trivial⟩⟩⟩⟩⟩ | simp [lsub]) H
    · replace H := H.2 c6
      refine s_aload_n dX9_moves_38 rfl rfl ?_
      refine s_iload_n dX9_moves_39 rfl rfl ?_
      refine s_iload dX9_moves_40 rfl ?_
      refine s_iload_n dX9_moves_42 rfl rfl ?_
      refine s_callV (M' := MX9_factor) (As := [vI a3, vI a4, vI a2]) (a := a0) (st := [vI a1]) dX9_moves_43 ml_X9_153 cv_X9_factor rfl rfl (Nat.le_of_ble_eq_true rfl) ⟨Nat.le_refl _, Nat.le_refl _⟩ f1 (R_mono (fun r7 G8 h9 H => ?_) H)
      show S l MX9_moves (d + 1, 0, 0, 0, 0) 46 [some (vR a0), some (vI a1), some (vI a2), some (vI a3), some (vI a4)] [vI r7, vI a1] G8 h9 Q
      have f10 := H.1
      replace H := H.2
      refine s_if_le (tgt := 53) dX9_moves_46 (by decide) f10 (fun c11 => ?_) (fun c11 => ?_)
      · replace H := H.1 c11
        refine s_iconst dX9_moves_53 ?_
        refine s_iadd dX9_moves_54 ?_
        refine s_istore_n dX9_moves_55 rfl (by decide) rfl ?_
        show S l MX9_moves (d + 1, 0, 0, 0, 0) 56 [some (vR a0), some (vI (a1 + 0)), some (vI a2), some (vI a3), some (vI a4)] [] G8 h9 Q
        refine s_iinc dX9_moves_56 rfl (by decide) rfl ?_
        show S l MX9_moves (d + 1, 0, 0, 0, 0) 59 [some (vR a0), some (vI (a1 + 0)), some (vI a2), some (vI a3), some (vI (a4 + 1))] [] G8 h9 Q
        refine s_goto (tgt := 22) dX9_moves_59 (by decide) ?_
        exact S_cut (by first | exact ⟨rfl, ⟨rfl, ⟨rfl, ⟨rfl, ⟨rfl, trivial⟩⟩⟩⟩⟩ | simp [lsub]) H
      · replace H := H.2 c11
        refine s_iconst dX9_moves_49 ?_
        refine s_goto (tgt := 54) dX9_moves_50 (by decide) ?_
        refine s_iadd dX9_moves_54 ?_
        refine s_istore_n dX9_moves_55 rfl (by decide) rfl ?_
        show S l MX9_moves (d + 1, 0, 0, 0, 0) 56 [some (vR a0), some (vI (a1 + 1)), some (vI a2), some (vI a3), some (vI a4)] [] G8 h9 Q
        refine s_iinc dX9_moves_56 rfl (by decide) rfl ?_
        show S l MX9_moves (d + 1, 0, 0, 0, 0) 59 [some (vR a0), some (vI (a1 + 1)), some (vI a2), some (vI a3), some (vI (a4 + 1))] [] G8 h9 Q
        refine s_goto (tgt := 22) dX9_moves_59 (by decide) ?_
        exact S_cut (by first | exact ⟨rfl, ⟨rfl, ⟨rfl, ⟨rfl, ⟨rfl, trivial⟩⟩⟩⟩⟩ | simp [lsub]) H
set_option maxHeartbeats 4000000 in
set_option maxRecDepth 100000 in
theorem vX9_factor_0 {l : Launch} {d : Nat} {G : GS} {h : HP} {Q : Int → GS → HP → Prop} (a0 a1 a2 a3 : Int) (H : S l MX9_factor (d + 1, 0, 0, 0, 0) 25 [some (vR a0), none, none, none, some (vI ((27 * a1) + (9 * a3))), some (vI ((27 * a2) + (9 * a3))), some (vI 0), none, none, none] [] G h Q) : S l MX9_factor (d + 1, 0, 0, 0, 0) 0 [some (vR a0), some (vI a1), some (vI a2), some (vI a3), none, none, none, none, none, none] [] G h Q := by
  refine s_bipush dX9_factor_0 (by decide) ?_
  refine s_iload_n dX9_factor_2 rfl rfl ?_
  refine s_imul dX9_factor_3 ?_
  refine s_bipush dX9_factor_4 (by decide) ?_
  refine s_iload_n dX9_factor_6 rfl rfl ?_
  refine s_imul dX9_factor_7 ?_
  refine s_iadd dX9_factor_8 ?_
  refine s_istore dX9_factor_9 (by decide) rfl ?_
  show S l MX9_factor (d + 1, 0, 0, 0, 0) 11 [some (vR a0), some (vI a1), some (vI a2), some (vI a3), some (vI ((27 * a1) + (9 * a3))), none, none, none, none, none] [] G h Q
  refine s_bipush dX9_factor_11 (by decide) ?_
  refine s_iload_n dX9_factor_13 rfl rfl ?_
  refine s_imul dX9_factor_14 ?_
  refine s_bipush dX9_factor_15 (by decide) ?_
  refine s_iload_n dX9_factor_17 rfl rfl ?_
  refine s_imul dX9_factor_18 ?_
  refine s_iadd dX9_factor_19 ?_
  refine s_istore dX9_factor_20 (by decide) rfl ?_
  show S l MX9_factor (d + 1, 0, 0, 0, 0) 22 [some (vR a0), some (vI a1), some (vI a2), some (vI a3), some (vI ((27 * a1) + (9 * a3))), some (vI ((27 * a2) + (9 * a3))), none, none, none, none] [] G h Q
  refine s_iconst dX9_factor_22 ?_
  refine s_istore dX9_factor_23 (by decide) rfl ?_
  show S l MX9_factor (d + 1, 0, 0, 0, 0) 25 [some (vR a0), some (vI a1), some (vI a2), some (vI a3), some (vI ((27 * a1) + (9 * a3))), some (vI ((27 * a2) + (9 * a3))), some (vI 0), none, none, none] [] G h Q
  exact S_cut (by first | exact ⟨rfl, ⟨rfl, ⟨rfl, ⟨rfl, trivial⟩⟩⟩⟩ | simp [lsub]) H
set_option maxHeartbeats 4000000 in
set_option maxRecDepth 100000 in
theorem vX9_factor_25 {l : Launch} {d : Nat} {G : GS} {h : HP} {Q : Int → GS → HP → Prop} (a0 a4 a5 a6 : Int) (H : (inR a6) ∧ ((9 ≤ a6 → ((a6 ≠ 9 → (ty G a0 = 9) ∧ (inA G 10 (h a0 3) (a5 + a6)) ∧ (inA G 10 (h a0 3) (a4 + a6)) ∧ R l MX9_inverse d 0 0 [vR a0, vI (h (h a0 3) (a4 + a6))] G h (fun r7 G8 h9 => (ty G8 a0 = 9) ∧ (dvR ((h (h a0 3) (a5 + a6)) * r7) (h9 a0 0)) ∧ (inR (((h (h a0 3) (a5 + a6)) * r7) % (h9 a0 0))) ∧ (((((h (h a0 3) (a5 + a6)) * r7) % (h9 a0 0)) ≤ 0 → S l MX9_factor (d + 1, 0, 0, 0, 0) 109 [some (vR a0), none, none, none, some (vI a4), some (vI a5), none, some (vI (((h (h a0 3) (a5 + a6)) * r7) % (h9 a0 0))), some (vI 0), some (vI 0)] [] G8 h9 Q) ∧ (0 < (((h (h a0 3) (a5 + a6)) * r7) % (h9 a0 0)) → S l MX9_factor (d + 1, 0, 0, 0, 0) 109 [some (vR a0), none, none, none, some (vI a4), some (vI a5), none, some (vI (((h (h a0 3) (a5 + a6)) * r7) % (h9 a0 0))), some (vI 1), some (vI 0)] [] G8 h9 Q)))) ∧ (a6 = 9 → S l MX9_factor (d + 1, 0, 0, 0, 0) 109 [some (vR a0), none, none, none, some (vI a4), some (vI a5), none, some (vI 0), some (vI 0), some (vI 0)] [] G h Q))) ∧ (a6 < 9 → (ty G a0 = 9) ∧ (inA G 10 (h a0 3) (a4 + a6)) ∧ (inR (h (h a0 3) (a4 + a6))) ∧ (((h (h a0 3) (a4 + a6)) ≠ 0 → ((a6 ≠ 9 → (inA G 10 (h a0 3) (a5 + a6)) ∧ R l MX9_inverse d 0 0 [vR a0, vI (h (h a0 3) (a4 + a6))] G h (fun r21 G22 h23 => (ty G22 a0 = 9) ∧ (dvR ((h (h a0 3) (a5 + a6)) * r21) (h23 a0 0)) ∧ (inR (((h (h a0 3) (a5 + a6)) * r21) % (h23 a0 0))) ∧ (((((h (h a0 3) (a5 + a6)) * r21) % (h23 a0 0)) ≤ 0 → S l MX9_factor (d + 1, 0, 0, 0, 0) 109 [some (vR a0), none, none, none, some (vI a4), some (vI a5), none, some (vI (((h (h a0 3) (a5 + a6)) * r21) % (h23 a0 0))), some (vI 0), some (vI 0)] [] G22 h23 Q) ∧ (0 < (((h (h a0 3) (a5 + a6)) * r21) % (h23 a0 0)) → S l MX9_factor (d + 1, 0, 0, 0, 0) 109 [some (vR a0), none, none, none, some (vI a4), some (vI a5), none, some (vI (((h (h a0 3) (a5 + a6)) * r21) % (h23 a0 0))), some (vI 1), some (vI 0)] [] G22 h23 Q)))) ∧ (a6 = 9 → S l MX9_factor (d + 1, 0, 0, 0, 0) 109 [some (vR a0), none, none, none, some (vI a4), some (vI a5), none, some (vI 0), some (vI 0), some (vI 0)] [] G h Q))) ∧ ((h (h a0 3) (a4 + a6)) = 0 → S l MX9_factor (d + 1, 0, 0, 0, 0) 25 [some (vR a0), none, none, none, some (vI a4), some (vI a5), some (vI (a6 + 1)), none, none, none] [] G h Q))))) : S l MX9_factor (d + 1, 0, 0, 0, 0) 25 [some (vR a0), none, none, none, some (vI a4), some (vI a5), some (vI a6), none, none, none] [] G h Q := by
  refine s_iload dX9_factor_25 rfl ?_
  refine s_bipush dX9_factor_27 (by decide) ?_
  have f1 := H.1
  replace H := H.2
  refine s_icmp_ge (tgt := 51) dX9_factor_29 (by decide) f1 (by decide) (fun c2 => ?_) (fun c2 => ?_)
  · replace H := H.1 c2
    refine s_iload dX9_factor_51 rfl ?_
    refine s_bipush dX9_factor_53 (by decide) ?_
    refine s_icmp_ne (tgt := 62) dX9_factor_55 (by decide) f1 (by decide) (fun c3 => ?_) (fun c3 => ?_)
    · replace H := H.1 c3
      refine s_aload_n dX9_factor_62 rfl rfl ?_
      have f4 := H.1
      replace H := H.2
      refine s_getf (c := 9) (k := 3) (t := 2) (j := 3) dX9_factor_63 fl_X9_20 (by decide) (by decide) rfl rfl f4 ?_
      refine s_iload dX9_factor_66 rfl ?_
      refine s_iload dX9_factor_68 rfl ?_
      refine s_iadd dX9_factor_70 ?_
      have f5 := H.1
      replace H := H.2
      refine s_iald dX9_factor_71 f5 ?_
      refine s_aload_n dX9_factor_72 rfl rfl ?_
      refine s_aload_n dX9_factor_73 rfl rfl ?_
      refine s_getf (c := 9) (k := 3) (t := 2) (j := 3) dX9_factor_74 fl_X9_20 (by decide) (by decide) rfl rfl f4 ?_
      refine s_iload dX9_factor_77 rfl ?_
      refine s_iload dX9_factor_79 rfl ?_
      refine s_iadd dX9_factor_81 ?_
      have f6 := H.1
      replace H := H.2
      refine s_iald dX9_factor_82 f6 ?_
      refine s_callV (M' := MX9_inverse) (As := [vI (h (h a0 3) (a4 + a6))]) (a := a0) (st := [vI (h (h a0 3) (a5 + a6))]) dX9_factor_83 ml_X9_147 cv_X9_inverse rfl rfl (Nat.le_of_ble_eq_true rfl) ⟨Nat.le_refl _, Nat.le_refl _⟩ f4 (R_mono (fun r7 G8 h9 H => ?_) H)
      show S l MX9_factor (d + 1, 0, 0, 0, 0) 86 [some (vR a0), none, none, none, some (vI a4), some (vI a5), some (vI a6), none, none, none] [vI r7, vI (h (h a0 3) (a5 + a6))] G8 h9 Q
      refine s_imul dX9_factor_86 ?_
      refine s_aload_n dX9_factor_87 rfl rfl ?_
      have f10 := H.1
      replace H := H.2
      refine s_getf (c := 9) (k := 0) (t := 0) (j := 0) dX9_factor_88 fl_X9_7 (by decide) (by decide) rfl rfl f10 ?_
      have f11 := H.1
      replace H := H.2
      refine s_irem dX9_factor_91 f11 ?_
      refine s_istore dX9_factor_92 (by decide) rfl ?_
      show S l MX9_factor (d + 1, 0, 0, 0, 0) 94 [some (vR a0), none, none, none, some (vI a4), some (vI a5), some (vI a6), some (vI (((h (h a0 3) (a5 + a6)) * r7) % (h9 a0 0))), none, none] [] G8 h9 Q
      refine s_iload dX9_factor_94 rfl ?_
      have f12 := H.1
      replace H := H.2
      refine s_if_le (tgt := 103) dX9_factor_96 (by decide) f12 (fun c13 => ?_) (fun c13 => ?_)
      · replace H := H.1 c13
        refine s_iconst dX9_factor_103 ?_
        refine s_istore dX9_factor_104 (by decide) rfl ?_
        show S l MX9_factor (d + 1, 0, 0, 0, 0) 106 [some (vR a0), none, none, none, some (vI a4), some (vI a5), some (vI a6), some (vI (((h (h a0 3) (a5 + a6)) * r7) % (h9 a0 0))), some (vI 0), none] [] G8 h9 Q
        refine s_iconst dX9_factor_106 ?_
        refine s_istore dX9_factor_107 (by decide) rfl ?_
        show S l MX9_factor (d + 1, 0, 0, 0, 0) 109 [some (vR a0), none, none, none, some (vI a4), some (vI a5), some (vI a6), some (vI (((h (h a0 3) (a5 + a6)) * r7) % (h9 a0 0))), some (vI 0), some (vI 0)] [] G8 h9 Q
        exact S_cut (by first | exact ⟨rfl, ⟨rfl, ⟨rfl, ⟨rfl, ⟨rfl, ⟨rfl, trivial⟩⟩⟩⟩⟩⟩ | simp [lsub]) H
      · replace H := H.2 c13
        refine s_iconst dX9_factor_99 ?_
        refine s_goto (tgt := 104) dX9_factor_100 (by decide) ?_
        refine s_istore dX9_factor_104 (by decide) rfl ?_
        show S l MX9_factor (d + 1, 0, 0, 0, 0) 106 [some (vR a0), none, none, none, some (vI a4), some (vI a5), some (vI a6), some (vI (((h (h a0 3) (a5 + a6)) * r7) % (h9 a0 0))), some (vI 1), none] [] G8 h9 Q
        refine s_iconst dX9_factor_106 ?_
        refine s_istore dX9_factor_107 (by decide) rfl ?_
        show S l MX9_factor (d + 1, 0, 0, 0, 0) 109 [some (vR a0), none, none, none, some (vI a4), some (vI a5), some (vI a6), some (vI (((h (h a0 3) (a5 + a6)) * r7) % (h9 a0 0))), some (vI 1), some (vI 0)] [] G8 h9 Q
        exact S_cut (by first | exact ⟨rfl, ⟨rfl, ⟨rfl, ⟨rfl, ⟨rfl, ⟨rfl, trivial⟩⟩⟩⟩⟩⟩ | simp [lsub]) H
    · replace H := H.2 c3
      refine s_iconst dX9_factor_58 ?_
      refine s_goto (tgt := 92) dX9_factor_59 (by decide) ?_
      refine s_istore dX9_factor_92 (by decide) rfl ?_
      show S l MX9_factor (d + 1, 0, 0, 0, 0) 94 [some (vR a0), none, none, none, some (vI a4), some (vI a5), some (vI a6), some (vI 0), none, none] [] G h Q
      refine s_iload dX9_factor_94 rfl ?_
      refine s_if_le (tgt := 103) dX9_factor_96 (by decide) (by decide) (fun _ => ?_) (fun c14 => absurd c14 (by decide))
      refine s_iconst dX9_factor_103 ?_
      refine s_istore dX9_factor_104 (by decide) rfl ?_
      show S l MX9_factor (d + 1, 0, 0, 0, 0) 106 [some (vR a0), none, none, none, some (vI a4), some (vI a5), some (vI a6), some (vI 0), some (vI 0), none] [] G h Q
      refine s_iconst dX9_factor_106 ?_
      refine s_istore dX9_factor_107 (by decide) rfl ?_
      show S l MX9_factor (d + 1, 0, 0, 0, 0) 109 [some (vR a0), none, none, none, some (vI a4), some (vI a5), some (vI a6), some (vI 0), some (vI 0), some (vI 0)] [] G h Q
      exact S_cut (by first | exact ⟨rfl, ⟨rfl, ⟨rfl, ⟨rfl, ⟨rfl, ⟨rfl, trivial⟩⟩⟩⟩⟩⟩ | simp [lsub]) H
  · replace H := H.2 c2
    refine s_aload_n dX9_factor_32 rfl rfl ?_
    have f15 := H.1
    replace H := H.2
    refine s_getf (c := 9) (k := 3) (t := 2) (j := 3) dX9_factor_33 fl_X9_20 (by decide) (by decide) rfl rfl f15 ?_
    refine s_iload dX9_factor_36 rfl ?_
    refine s_iload dX9_factor_38 rfl ?_
    refine s_iadd dX9_factor_40 ?_
    have f16 := H.1
    replace H := H.2
    refine s_iald dX9_factor_41 f16 ?_
    have f17 := H.1
    replace H := H.2
    refine s_if_ne (tgt := 51) dX9_factor_42 (by decide) f17 (fun c18 => ?_) (fun c18 => ?_)
    · replace H := H.1 c18
      refine s_iload dX9_factor_51 rfl ?_
      refine s_bipush dX9_factor_53 (by decide) ?_
      refine s_icmp_ne (tgt := 62) dX9_factor_55 (by decide) f1 (by decide) (fun c19 => ?_) (fun c19 => ?_)
      · replace H := H.1 c19
        refine s_aload_n dX9_factor_62 rfl rfl ?_
        refine s_getf (c := 9) (k := 3) (t := 2) (j := 3) dX9_factor_63 fl_X9_20 (by decide) (by decide) rfl rfl f15 ?_
        refine s_iload dX9_factor_66 rfl ?_
        refine s_iload dX9_factor_68 rfl ?_
        refine s_iadd dX9_factor_70 ?_
        have f20 := H.1
        replace H := H.2
        refine s_iald dX9_factor_71 f20 ?_
        refine s_aload_n dX9_factor_72 rfl rfl ?_
        refine s_aload_n dX9_factor_73 rfl rfl ?_
        refine s_getf (c := 9) (k := 3) (t := 2) (j := 3) dX9_factor_74 fl_X9_20 (by decide) (by decide) rfl rfl f15 ?_
        refine s_iload dX9_factor_77 rfl ?_
        refine s_iload dX9_factor_79 rfl ?_
        refine s_iadd dX9_factor_81 ?_
        refine s_iald dX9_factor_82 f16 ?_
        refine s_callV (M' := MX9_inverse) (As := [vI (h (h a0 3) (a4 + a6))]) (a := a0) (st := [vI (h (h a0 3) (a5 + a6))]) dX9_factor_83 ml_X9_147 cv_X9_inverse rfl rfl (Nat.le_of_ble_eq_true rfl) ⟨Nat.le_refl _, Nat.le_refl _⟩ f15 (R_mono (fun r21 G22 h23 H => ?_) H)
        show S l MX9_factor (d + 1, 0, 0, 0, 0) 86 [some (vR a0), none, none, none, some (vI a4), some (vI a5), some (vI a6), none, none, none] [vI r21, vI (h (h a0 3) (a5 + a6))] G22 h23 Q
        refine s_imul dX9_factor_86 ?_
        refine s_aload_n dX9_factor_87 rfl rfl ?_
        have f24 := H.1
        replace H := H.2
        refine s_getf (c := 9) (k := 0) (t := 0) (j := 0) dX9_factor_88 fl_X9_7 (by decide) (by decide) rfl rfl f24 ?_
        have f25 := H.1
        replace H := H.2
        refine s_irem dX9_factor_91 f25 ?_
        refine s_istore dX9_factor_92 (by decide) rfl ?_
        show S l MX9_factor (d + 1, 0, 0, 0, 0) 94 [some (vR a0), none, none, none, some (vI a4), some (vI a5), some (vI a6), some (vI (((h (h a0 3) (a5 + a6)) * r21) % (h23 a0 0))), none, none] [] G22 h23 Q
        refine s_iload dX9_factor_94 rfl ?_
        have f26 := H.1
        replace H := H.2
        refine s_if_le (tgt := 103) dX9_factor_96 (by decide) f26 (fun c27 => ?_) (fun c27 => ?_)
        · replace H := H.1 c27
          refine s_iconst dX9_factor_103 ?_
          refine s_istore dX9_factor_104 (by decide) rfl ?_
          show S l MX9_factor (d + 1, 0, 0, 0, 0) 106 [some (vR a0), none, none, none, some (vI a4), some (vI a5), some (vI a6), some (vI (((h (h a0 3) (a5 + a6)) * r21) % (h23 a0 0))), some (vI 0), none] [] G22 h23 Q
          refine s_iconst dX9_factor_106 ?_
          refine s_istore dX9_factor_107 (by decide) rfl ?_
          show S l MX9_factor (d + 1, 0, 0, 0, 0) 109 [some (vR a0), none, none, none, some (vI a4), some (vI a5), some (vI a6), some (vI (((h (h a0 3) (a5 + a6)) * r21) % (h23 a0 0))), some (vI 0), some (vI 0)] [] G22 h23 Q
          exact S_cut (by first | exact ⟨rfl, ⟨rfl, ⟨rfl, ⟨rfl, ⟨rfl, ⟨rfl, trivial⟩⟩⟩⟩⟩⟩ | simp [lsub]) H
        · replace H := H.2 c27
          refine s_iconst dX9_factor_99 ?_
          refine s_goto (tgt := 104) dX9_factor_100 (by decide) ?_
          refine s_istore dX9_factor_104 (by decide) rfl ?_
          show S l MX9_factor (d + 1, 0, 0, 0, 0) 106 [some (vR a0), none, none, none, some (vI a4), some (vI a5), some (vI a6), some (vI (((h (h a0 3) (a5 + a6)) * r21) % (h23 a0 0))), some (vI 1), none] [] G22 h23 Q
          refine s_iconst dX9_factor_106 ?_
          refine s_istore dX9_factor_107 (by decide) rfl ?_
          show S l MX9_factor (d + 1, 0, 0, 0, 0) 109 [some (vR a0), none, none, none, some (vI a4), some (vI a5), some (vI a6), some (vI (((h (h a0 3) (a5 + a6)) * r21) % (h23 a0 0))), some (vI 1), some (vI 0)] [] G22 h23 Q
          exact S_cut (by first | exact ⟨rfl, ⟨rfl, ⟨rfl, ⟨rfl, ⟨rfl, ⟨rfl, trivial⟩⟩⟩⟩⟩⟩ | simp [lsub]) H
      · replace H := H.2 c19
        refine s_iconst dX9_factor_58 ?_
        refine s_goto (tgt := 92) dX9_factor_59 (by decide) ?_
        refine s_istore dX9_factor_92 (by decide) rfl ?_
        show S l MX9_factor (d + 1, 0, 0, 0, 0) 94 [some (vR a0), none, none, none, some (vI a4), some (vI a5), some (vI a6), some (vI 0), none, none] [] G h Q
        refine s_iload dX9_factor_94 rfl ?_
        refine s_if_le (tgt := 103) dX9_factor_96 (by decide) (by decide) (fun _ => ?_) (fun c28 => absurd c28 (by decide))
        refine s_iconst dX9_factor_103 ?_
        refine s_istore dX9_factor_104 (by decide) rfl ?_
        show S l MX9_factor (d + 1, 0, 0, 0, 0) 106 [some (vR a0), none, none, none, some (vI a4), some (vI a5), some (vI a6), some (vI 0), some (vI 0), none] [] G h Q
        refine s_iconst dX9_factor_106 ?_
        refine s_istore dX9_factor_107 (by decide) rfl ?_
        show S l MX9_factor (d + 1, 0, 0, 0, 0) 109 [some (vR a0), none, none, none, some (vI a4), some (vI a5), some (vI a6), some (vI 0), some (vI 0), some (vI 0)] [] G h Q
        exact S_cut (by first | exact ⟨rfl, ⟨rfl, ⟨rfl, ⟨rfl, ⟨rfl, ⟨rfl, trivial⟩⟩⟩⟩⟩⟩ | simp [lsub]) H
    · replace H := H.2 c18
      refine s_iinc dX9_factor_45 rfl (by decide) rfl ?_
      show S l MX9_factor (d + 1, 0, 0, 0, 0) 48 [some (vR a0), none, none, none, some (vI a4), some (vI a5), some (vI (a6 + 1)), none, none, none] [] G h Q
      refine s_goto (tgt := 25) dX9_factor_48 (by decide) ?_
      exact S_cut (by first | exact ⟨rfl, ⟨rfl, ⟨rfl, ⟨rfl, trivial⟩⟩⟩⟩ | simp [lsub]) H
set_option maxHeartbeats 4000000 in
set_option maxRecDepth 100000 in
theorem vX9_factor_109 {l : Launch} {d : Nat} {G : GS} {h : HP} {Q : Int → GS → HP → Prop} (a0 a4 a5 a7 a8 a9 : Int) (H : (inR a9) ∧ ((9 ≤ a9 → (inR a8) ∧ ((a8 = 0 → Q 0 G h) ∧ (a8 ≠ 0 → Q a7 G h))) ∧ (a9 < 9 → (inR a8) ∧ ((a8 = 0 → ((a8 = 0 → Q 0 G h) ∧ (a8 ≠ 0 → Q a7 G h))) ∧ (a8 ≠ 0 → (ty G a0 = 9) ∧ (inA G 10 (h a0 3) (a4 + a9)) ∧ (dvR ((h (h a0 3) (a4 + a9)) * a7) (h a0 0)) ∧ (inA G 10 (h a0 3) (a5 + a9)) ∧ (inR (((h (h a0 3) (a4 + a9)) * a7) % (h a0 0))) ∧ (inR (h (h a0 3) (a5 + a9))) ∧ (((((h (h a0 3) (a4 + a9)) * a7) % (h a0 0)) ≠ (h (h a0 3) (a5 + a9)) → S l MX9_factor (d + 1, 0, 0, 0, 0) 109 [some (vR a0), none, none, none, some (vI a4), some (vI a5), none, some (vI a7), some (vI 0), some (vI (a9 + 1))] [] G h Q) ∧ ((((h (h a0 3) (a4 + a9)) * a7) % (h a0 0)) = (h (h a0 3) (a5 + a9)) → S l MX9_factor (d + 1, 0, 0, 0, 0) 109 [some (vR a0), none, none, none, some (vI a4), some (vI a5), none, some (vI a7), some (vI 1), some (vI (a9 + 1))] [] G h Q))))))) : S l MX9_factor (d + 1, 0, 0, 0, 0) 109 [some (vR a0), none, none, none, some (vI a4), some (vI a5), none, some (vI a7), some (vI a8), some (vI a9)] [] G h Q := by
  refine s_iload dX9_factor_109 rfl ?_
  refine s_bipush dX9_factor_111 (by decide) ?_
  have f1 := H.1
  replace H := H.2
  refine s_icmp_ge (tgt := 165) dX9_factor_113 (by decide) f1 (by decide) (fun c2 => ?_) (fun c2 => ?_)
  · replace H := H.1 c2
    refine s_iload dX9_factor_165 rfl ?_
    have f3 := H.1
    replace H := H.2
    refine s_if_eq (tgt := 175) dX9_factor_167 (by decide) f3 (fun c4 => ?_) (fun c4 => ?_)
    · replace H := H.1 c4
      refine s_iconst dX9_factor_175 ?_
      exact s_iret dX9_factor_176 rfl ⟨Nat.le_refl _, Nat.le_refl _⟩ H
    · replace H := H.2 c4
      refine s_iload dX9_factor_170 rfl ?_
      refine s_goto (tgt := 176) dX9_factor_172 (by decide) ?_
      exact s_iret dX9_factor_176 rfl ⟨Nat.le_refl _, Nat.le_refl _⟩ H
  · replace H := H.2 c2
    refine s_iload dX9_factor_116 rfl ?_
    have f5 := H.1
    replace H := H.2
    refine s_if_eq (tgt := 165) dX9_factor_118 (by decide) f5 (fun c6 => ?_) (fun c6 => ?_)
    · replace H := H.1 c6
      refine s_iload dX9_factor_165 rfl ?_
      refine s_if_eq (tgt := 175) dX9_factor_167 (by decide) f5 (fun c7 => ?_) (fun c7 => ?_)
      · replace H := H.1 c7
        refine s_iconst dX9_factor_175 ?_
        exact s_iret dX9_factor_176 rfl ⟨Nat.le_refl _, Nat.le_refl _⟩ H
      · replace H := H.2 c7
        refine s_iload dX9_factor_170 rfl ?_
        refine s_goto (tgt := 176) dX9_factor_172 (by decide) ?_
        exact s_iret dX9_factor_176 rfl ⟨Nat.le_refl _, Nat.le_refl _⟩ H
    · replace H := H.2 c6
      refine s_aload_n dX9_factor_121 rfl rfl ?_
      have f8 := H.1
      replace H := H.2
      refine s_getf (c := 9) (k := 3) (t := 2) (j := 3) dX9_factor_122 fl_X9_20 (by decide) (by decide) rfl rfl f8 ?_
      refine s_iload dX9_factor_125 rfl ?_
      refine s_iload dX9_factor_127 rfl ?_
      refine s_iadd dX9_factor_129 ?_
      have f9 := H.1
      replace H := H.2
      refine s_iald dX9_factor_130 f9 ?_
      refine s_iload dX9_factor_131 rfl ?_
      refine s_imul dX9_factor_133 ?_
      refine s_aload_n dX9_factor_134 rfl rfl ?_
      refine s_getf (c := 9) (k := 0) (t := 0) (j := 0) dX9_factor_135 fl_X9_7 (by decide) (by decide) rfl rfl f8 ?_
      have f10 := H.1
      replace H := H.2
      refine s_irem dX9_factor_138 f10 ?_
      refine s_aload_n dX9_factor_139 rfl rfl ?_
      refine s_getf (c := 9) (k := 3) (t := 2) (j := 3) dX9_factor_140 fl_X9_20 (by decide) (by decide) rfl rfl f8 ?_
      refine s_iload dX9_factor_143 rfl ?_
      refine s_iload dX9_factor_145 rfl ?_
      refine s_iadd dX9_factor_147 ?_
      have f11 := H.1
      replace H := H.2
      refine s_iald dX9_factor_148 f11 ?_
      have f12 := H.1
      replace H := H.2
      have f13 := H.1
      replace H := H.2
      refine s_icmp_ne (tgt := 156) dX9_factor_149 (by decide) f12 f13 (fun c14 => ?_) (fun c14 => ?_)
      · replace H := H.1 c14
        refine s_iconst dX9_factor_156 ?_
        refine s_istore dX9_factor_157 (by decide) rfl ?_
        show S l MX9_factor (d + 1, 0, 0, 0, 0) 159 [some (vR a0), none, none, none, some (vI a4), some (vI a5), none, some (vI a7), some (vI 0), some (vI a9)] [] G h Q
        refine s_iinc dX9_factor_159 rfl (by decide) rfl ?_
        show S l MX9_factor (d + 1, 0, 0, 0, 0) 162 [some (vR a0), none, none, none, some (vI a4), some (vI a5), none, some (vI a7), some (vI 0), some (vI (a9 + 1))] [] G h Q
        refine s_goto (tgt := 109) dX9_factor_162 (by decide) ?_
        exact S_cut (by first | exact ⟨rfl, ⟨rfl, ⟨rfl, ⟨rfl, ⟨rfl, ⟨rfl, trivial⟩⟩⟩⟩⟩⟩ | simp [lsub]) H
      · replace H := H.2 c14
        refine s_iconst dX9_factor_152 ?_
        refine s_goto (tgt := 157) dX9_factor_153 (by decide) ?_
        refine s_istore dX9_factor_157 (by decide) rfl ?_
        show S l MX9_factor (d + 1, 0, 0, 0, 0) 159 [some (vR a0), none, none, none, some (vI a4), some (vI a5), none, some (vI a7), some (vI 1), some (vI a9)] [] G h Q
        refine s_iinc dX9_factor_159 rfl (by decide) rfl ?_
        show S l MX9_factor (d + 1, 0, 0, 0, 0) 162 [some (vR a0), none, none, none, some (vI a4), some (vI a5), none, some (vI a7), some (vI 1), some (vI (a9 + 1))] [] G h Q
        refine s_goto (tgt := 109) dX9_factor_162 (by decide) ?_
        exact S_cut (by first | exact ⟨rfl, ⟨rfl, ⟨rfl, ⟨rfl, ⟨rfl, ⟨rfl, trivial⟩⟩⟩⟩⟩⟩ | simp [lsub]) H
set_option maxHeartbeats 4000000 in
set_option maxRecDepth 100000 in
theorem vX9_inverse_0 {l : Launch} {d : Nat} {G : GS} {h : HP} {Q : Int → GS → HP → Prop} (a0 a1 : Int) (H : S l MX9_inverse (d, 0, 0, 0, 0) 2 [some (vR a0), some (vI a1), some (vI 1)] [] G h Q) : S l MX9_inverse (d, 0, 0, 0, 0) 0 [some (vR a0), some (vI a1), none] [] G h Q := by
  refine s_iconst dX9_inverse_0 ?_
  refine s_istore_n dX9_inverse_1 rfl (by decide) rfl ?_
  show S l MX9_inverse (d, 0, 0, 0, 0) 2 [some (vR a0), some (vI a1), some (vI 1)] [] G h Q
  exact S_cut (by first | exact ⟨rfl, ⟨rfl, ⟨rfl, trivial⟩⟩⟩ | simp [lsub]) H
set_option maxHeartbeats 4000000 in
set_option maxRecDepth 100000 in
theorem vX9_inverse_2 {l : Launch} {d : Nat} {G : GS} {h : HP} {Q : Int → GS → HP → Prop} (a0 a1 a2 : Int) (H : (ty G a0 = 9) ∧ (dvR (a1 * a2) (h a0 0)) ∧ (inR ((a1 * a2) % (h a0 0))) ∧ ((((a1 * a2) % (h a0 0)) = 1 → Q a2 G h) ∧ (((a1 * a2) % (h a0 0)) ≠ 1 → S l MX9_inverse (d, 0, 0, 0, 0) 2 [some (vR a0), some (vI a1), some (vI (a2 + 1))] [] G h Q))) : S l MX9_inverse (d, 0, 0, 0, 0) 2 [some (vR a0), some (vI a1), some (vI a2)] [] G h Q := by
  refine s_iload_n dX9_inverse_2 rfl rfl ?_
  refine s_iload_n dX9_inverse_3 rfl rfl ?_
  refine s_imul dX9_inverse_4 ?_
  refine s_aload_n dX9_inverse_5 rfl rfl ?_
  have f1 := H.1
  replace H := H.2
  refine s_getf (c := 9) (k := 0) (t := 0) (j := 0) dX9_inverse_6 fl_X9_7 (by decide) (by decide) rfl rfl f1 ?_
  have f2 := H.1
  replace H := H.2
  refine s_irem dX9_inverse_9 f2 ?_
  refine s_iconst dX9_inverse_10 ?_
  have f3 := H.1
  replace H := H.2
  refine s_icmp_eq (tgt := 20) dX9_inverse_11 (by decide) f3 (by decide) (fun c4 => ?_) (fun c4 => ?_)
  · replace H := H.1 c4
    refine s_iload_n dX9_inverse_20 rfl rfl ?_
    exact s_iret dX9_inverse_21 rfl ⟨Nat.le_refl _, Nat.le_refl _⟩ H
  · replace H := H.2 c4
    refine s_iinc dX9_inverse_14 rfl (by decide) rfl ?_
    show S l MX9_inverse (d, 0, 0, 0, 0) 17 [some (vR a0), some (vI a1), some (vI (a2 + 1))] [] G h Q
    refine s_goto (tgt := 2) dX9_inverse_17 (by decide) ?_
    exact S_cut (by first | exact ⟨rfl, ⟨rfl, ⟨rfl, trivial⟩⟩⟩ | simp [lsub]) H
set_option maxHeartbeats 4000000 in
set_option maxRecDepth 100000 in
theorem vX9_time_0 {l : Launch} {d : Nat} {G : GS} {h : HP} {Q : Int → GS → HP → Prop} (a0 a1 a2 a3 : Int) (H : (ty G a0 = 9) ∧ R l MX9_isRow d 0 0 [vR a0, vI a1, vI 0] G h (fun r1 G2 h3 => (inR r1) ∧ ((r1 = 0 → Q ((-1)) G2 h3) ∧ (r1 ≠ 0 → (ty G2 a0 = 9) ∧ R l MX9_isRow d 0 0 [vR a0, vI a2, vI 1] G2 h3 (fun r7 G8 h9 => (inR r7) ∧ ((r7 = 0 → Q ((-1)) G8 h9) ∧ (r7 ≠ 0 → (ty G8 a0 = 9) ∧ R l MX9_isRow d 0 0 [vR a0, vI a3, vI 2] G8 h9 (fun r13 G14 h15 => (inR r13) ∧ ((r13 ≠ 0 → (ty G14 a0 = 9) ∧ (inR (h15 a0 4)) ∧ (((h15 a0 4) ≠ 40 → R l MX9_putRow d 0 0 [vR a0, vI (h15 a0 4), vI 0, vI a1] G14 h15 (fun r22 G23 h24 => (ty G23 a0 = 9) ∧ R l MX9_putRow d 0 0 [vR a0, vI (h24 a0 4), vI 1, vI a2] G23 h24 (fun r26 G27 h28 => (ty G27 a0 = 9) ∧ R l MX9_putRow d 0 0 [vR a0, vI (h28 a0 4), vI 2, vI a3] G27 h28 (fun r30 G31 h32 => (ty G31 a0 = 9) ∧ ∀ h34 : HP, h34 = hset h32 a0 4 ((h32 a0 4) + 1) → Q ((h34 a0 4) - 1) G31 h34)))) ∧ ((h15 a0 4) = 40 → Q ((-2)) G14 h15))) ∧ (r13 = 0 → Q ((-1)) G14 h15)))))))))) : S l MX9_time (d + 1, 0, 0, 0, 0) 0 [some (vR a0), some (vI a1), some (vI a2), some (vI a3)] [] G h Q := by
  refine s_aload_n dX9_time_0 rfl rfl ?_
  refine s_iload_n dX9_time_1 rfl rfl ?_
  refine s_iconst dX9_time_2 ?_
  have f4 := H.1
  replace H := H.2
  refine s_callV (M' := MX9_isRow) (As := [vI a1, vI 0]) (a := a0) (st := []) dX9_time_3 ml_X9_119 cv_X9_isRow rfl rfl (Nat.le_of_ble_eq_true rfl) ⟨Nat.le_refl _, Nat.le_refl _⟩ f4 (R_mono (fun r1 G2 h3 H => ?_) H)
  show S l MX9_time (d + 1, 0, 0, 0, 0) 6 [some (vR a0), some (vI a1), some (vI a2), some (vI a3)] [vI r1] G2 h3 Q
  have f5 := H.1
  replace H := H.2
  refine s_if_eq (tgt := 27) dX9_time_6 (by decide) f5 (fun c6 => ?_) (fun c6 => ?_)
  · replace H := H.1 c6
    refine s_iconst dX9_time_27 ?_
    exact s_iret dX9_time_28 rfl ⟨Nat.le_refl _, Nat.le_refl _⟩ H
  · replace H := H.2 c6
    refine s_aload_n dX9_time_9 rfl rfl ?_
    refine s_iload_n dX9_time_10 rfl rfl ?_
    refine s_iconst dX9_time_11 ?_
    have f10 := H.1
    replace H := H.2
    refine s_callV (M' := MX9_isRow) (As := [vI a2, vI 1]) (a := a0) (st := []) dX9_time_12 ml_X9_119 cv_X9_isRow rfl rfl (Nat.le_of_ble_eq_true rfl) ⟨Nat.le_refl _, Nat.le_refl _⟩ f10 (R_mono (fun r7 G8 h9 H => ?_) H)
    show S l MX9_time (d + 1, 0, 0, 0, 0) 15 [some (vR a0), some (vI a1), some (vI a2), some (vI a3)] [vI r7] G8 h9 Q
    have f11 := H.1
    replace H := H.2
    refine s_if_eq (tgt := 27) dX9_time_15 (by decide) f11 (fun c12 => ?_) (fun c12 => ?_)
    · replace H := H.1 c12
      refine s_iconst dX9_time_27 ?_
      exact s_iret dX9_time_28 rfl ⟨Nat.le_refl _, Nat.le_refl _⟩ H
    · replace H := H.2 c12
      refine s_aload_n dX9_time_18 rfl rfl ?_
      refine s_iload_n dX9_time_19 rfl rfl ?_
      refine s_iconst dX9_time_20 ?_
      have f16 := H.1
      replace H := H.2
      refine s_callV (M' := MX9_isRow) (As := [vI a3, vI 2]) (a := a0) (st := []) dX9_time_21 ml_X9_119 cv_X9_isRow rfl rfl (Nat.le_of_ble_eq_true rfl) ⟨Nat.le_refl _, Nat.le_refl _⟩ f16 (R_mono (fun r13 G14 h15 H => ?_) H)
      show S l MX9_time (d + 1, 0, 0, 0, 0) 24 [some (vR a0), some (vI a1), some (vI a2), some (vI a3)] [vI r13] G14 h15 Q
      have f17 := H.1
      replace H := H.2
      refine s_if_ne (tgt := 29) dX9_time_24 (by decide) f17 (fun c18 => ?_) (fun c18 => ?_)
      · replace H := H.1 c18
        refine s_aload_n dX9_time_29 rfl rfl ?_
        have f19 := H.1
        replace H := H.2
        refine s_getf (c := 9) (k := 4) (t := 0) (j := 4) dX9_time_30 fl_X9_85 (by decide) (by decide) rfl rfl f19 ?_
        refine s_bipush dX9_time_33 (by decide) ?_
        have f20 := H.1
        replace H := H.2
        refine s_icmp_ne (tgt := 41) dX9_time_35 (by decide) f20 (by decide) (fun c21 => ?_) (fun c21 => ?_)
        · replace H := H.1 c21
          refine s_aload_n dX9_time_41 rfl rfl ?_
          refine s_aload_n dX9_time_42 rfl rfl ?_
          refine s_getf (c := 9) (k := 4) (t := 0) (j := 4) dX9_time_43 fl_X9_85 (by decide) (by decide) rfl rfl f19 ?_
          refine s_iconst dX9_time_46 ?_
          refine s_iload_n dX9_time_47 rfl rfl ?_
          refine s_callV (M' := MX9_putRow) (As := [vI (h15 a0 4), vI 0, vI a1]) (a := a0) (st := []) dX9_time_48 ml_X9_123 cv_X9_putRow rfl rfl (Nat.le_of_ble_eq_true rfl) ⟨Nat.le_refl _, Nat.le_refl _⟩ f19 (R_mono (fun r22 G23 h24 H => ?_) H)
          show S l MX9_time (d + 1, 0, 0, 0, 0) 51 [some (vR a0), some (vI a1), some (vI a2), some (vI a3)] [] G23 h24 Q
          refine s_aload_n dX9_time_51 rfl rfl ?_
          refine s_aload_n dX9_time_52 rfl rfl ?_
          have f25 := H.1
          replace H := H.2
          refine s_getf (c := 9) (k := 4) (t := 0) (j := 4) dX9_time_53 fl_X9_85 (by decide) (by decide) rfl rfl f25 ?_
          refine s_iconst dX9_time_56 ?_
          refine s_iload_n dX9_time_57 rfl rfl ?_
          refine s_callV (M' := MX9_putRow) (As := [vI (h24 a0 4), vI 1, vI a2]) (a := a0) (st := []) dX9_time_58 ml_X9_123 cv_X9_putRow rfl rfl (Nat.le_of_ble_eq_true rfl) ⟨Nat.le_refl _, Nat.le_refl _⟩ f25 (R_mono (fun r26 G27 h28 H => ?_) H)
          show S l MX9_time (d + 1, 0, 0, 0, 0) 61 [some (vR a0), some (vI a1), some (vI a2), some (vI a3)] [] G27 h28 Q
          refine s_aload_n dX9_time_61 rfl rfl ?_
          refine s_aload_n dX9_time_62 rfl rfl ?_
          have f29 := H.1
          replace H := H.2
          refine s_getf (c := 9) (k := 4) (t := 0) (j := 4) dX9_time_63 fl_X9_85 (by decide) (by decide) rfl rfl f29 ?_
          refine s_iconst dX9_time_66 ?_
          refine s_iload_n dX9_time_67 rfl rfl ?_
          refine s_callV (M' := MX9_putRow) (As := [vI (h28 a0 4), vI 2, vI a3]) (a := a0) (st := []) dX9_time_68 ml_X9_123 cv_X9_putRow rfl rfl (Nat.le_of_ble_eq_true rfl) ⟨Nat.le_refl _, Nat.le_refl _⟩ f29 (R_mono (fun r30 G31 h32 H => ?_) H)
          show S l MX9_time (d + 1, 0, 0, 0, 0) 71 [some (vR a0), some (vI a1), some (vI a2), some (vI a3)] [] G31 h32 Q
          refine s_aload_n dX9_time_71 rfl rfl ?_
          refine s_dup dX9_time_72 rfl ?_
          have f33 := H.1
          replace H := H.2
          refine s_getf (c := 9) (k := 4) (t := 0) (j := 4) dX9_time_73 fl_X9_85 (by decide) (by decide) rfl rfl f33 ?_
          refine s_iconst dX9_time_76 ?_
          refine s_iadd dX9_time_77 ?_
          refine s_putI (c := 9) (k := 4) (j := 4) dX9_time_78 fl_X9_85 (by decide) (by decide) rfl rfl rfl f33 (fun h34 eh34 => ?_)
          replace H := H h34 eh34
          refine s_aload_n dX9_time_81 rfl rfl ?_
          refine s_getf (c := 9) (k := 4) (t := 0) (j := 4) dX9_time_82 fl_X9_85 (by decide) (by decide) rfl rfl f33 ?_
          refine s_iconst dX9_time_85 ?_
          refine s_isub dX9_time_86 ?_
          exact s_iret dX9_time_87 rfl ⟨Nat.le_refl _, Nat.le_refl _⟩ H
        · replace H := H.2 c21
          refine s_bipush dX9_time_38 (by decide) ?_
          exact s_iret dX9_time_40 rfl ⟨Nat.le_refl _, Nat.le_refl _⟩ H
      · replace H := H.2 c18
        refine s_iconst dX9_time_27 ?_
        exact s_iret dX9_time_28 rfl ⟨Nat.le_refl _, Nat.le_refl _⟩ H
set_option maxHeartbeats 4000000 in
set_option maxRecDepth 100000 in
theorem vX9_isRow_0 {l : Launch} {d : Nat} {G : GS} {h : HP} {Q : Int → GS → HP → Prop} (a0 a1 a2 : Int) (H : (inR a1) ∧ (ty G a0 = 9) ∧ R l MX9_rowsOf d 0 0 [vR a0, vI a2] G h (fun r2 G3 h4 => (inR (r2 - 1)) ∧ R l MX9_in d 0 0 [vL a1, vL 0, vL (r2 - 1)] G3 h4 (fun r7 G8 h9 => (r7 = 0 ∨ r7 = 1) ∧ Q r7 G8 h9))) : S l MX9_isRow (d + 1, 0, 0, 0, 0) 0 [some (vR a0), some (vI a1), some (vI a2)] [] G h Q := by
  refine s_iload_n dX9_isRow_0 rfl rfl ?_
  have f1 := H.1
  replace H := H.2
  refine s_i2l dX9_isRow_1 f1 ?_
  refine s_lconst (v := 0) dX9_isRow_2 rfl ?_
  refine s_aload_n dX9_isRow_3 rfl rfl ?_
  refine s_iload_n dX9_isRow_4 rfl rfl ?_
  have f5 := H.1
  replace H := H.2
  refine s_callV (M' := MX9_rowsOf) (As := [vI a2]) (a := a0) (st := [vL 0, vL a1]) dX9_isRow_5 ml_X9_115 cv_X9_rowsOf rfl rfl (Nat.le_of_ble_eq_true rfl) ⟨Nat.le_refl _, Nat.le_refl _⟩ f5 (R_mono (fun r2 G3 h4 H => ?_) H)
  show S l MX9_isRow (d + 1, 0, 0, 0, 0) 8 [some (vR a0), some (vI a1), some (vI a2)] [vI r2, vL 0, vL a1] G3 h4 Q
  refine s_iconst dX9_isRow_8 ?_
  refine s_isub dX9_isRow_9 ?_
  have f6 := H.1
  replace H := H.2
  refine s_i2l dX9_isRow_10 f6 ?_
  refine s_callS (M' := MX9_in) (As := [vL a1, vL 0, vL (r2 - 1)]) (st := []) dX9_isRow_11 ml_X9_97 cs_X9_in rfl rfl (Nat.le_of_ble_eq_true rfl) ⟨Nat.le_refl _, Nat.le_refl _⟩ (R_mono (fun r7 G8 h9 H => ?_) H)
  show S l MX9_isRow (d + 1, 0, 0, 0, 0) 14 [some (vR a0), some (vI a1), some (vI a2)] [vI r7] G8 h9 Q
  have f10 := H.1
  replace H := H.2
  exact s_zret dX9_isRow_14 rfl ⟨Nat.le_refl _, Nat.le_refl _⟩ f10 H
set_option maxHeartbeats 4000000 in
set_option maxRecDepth 100000 in
theorem vX9_rowsOf_0 {l : Launch} {d : Nat} {G : GS} {h : HP} {Q : Int → GS → HP → Prop} (a0 a1 : Int) (H : S l MX9_rowsOf (d, 0, 0, 0, 0) 4 [some (vR a0), some (vI a1), some (vI 1), some (vI 0)] [] G h Q) : S l MX9_rowsOf (d, 0, 0, 0, 0) 0 [some (vR a0), some (vI a1), none, none] [] G h Q := by
  refine s_iconst dX9_rowsOf_0 ?_
  refine s_istore_n dX9_rowsOf_1 rfl (by decide) rfl ?_
  show S l MX9_rowsOf (d, 0, 0, 0, 0) 2 [some (vR a0), some (vI a1), some (vI 1), none] [] G h Q
  refine s_iconst dX9_rowsOf_2 ?_
  refine s_istore_n dX9_rowsOf_3 rfl (by decide) rfl ?_
  show S l MX9_rowsOf (d, 0, 0, 0, 0) 4 [some (vR a0), some (vI a1), some (vI 1), some (vI 0)] [] G h Q
  exact S_cut (by first | exact ⟨rfl, ⟨rfl, ⟨rfl, ⟨rfl, trivial⟩⟩⟩⟩ | simp [lsub]) H
set_option maxHeartbeats 4000000 in
set_option maxRecDepth 100000 in
theorem vX9_rowsOf_4 {l : Launch} {d : Nat} {G : GS} {h : HP} {Q : Int → GS → HP → Prop} (a0 a1 a2 a3 : Int) (H : (ty G a0 = 9) ∧ (inA G 10 (h a0 1) a1) ∧ (inR a3) ∧ (inR (h (h a0 1) a1)) ∧ (((h (h a0 1) a1) ≤ a3 → Q a2 G h) ∧ (a3 < (h (h a0 1) a1) → S l MX9_rowsOf (d, 0, 0, 0, 0) 4 [some (vR a0), some (vI a1), some (vI (a2 * (h a0 0))), some (vI (a3 + 1))] [] G h Q))) : S l MX9_rowsOf (d, 0, 0, 0, 0) 4 [some (vR a0), some (vI a1), some (vI a2), some (vI a3)] [] G h Q := by
  refine s_iload_n dX9_rowsOf_4 rfl rfl ?_
  refine s_aload_n dX9_rowsOf_5 rfl rfl ?_
  have f1 := H.1
  replace H := H.2
  refine s_getf (c := 9) (k := 1) (t := 2) (j := 1) dX9_rowsOf_6 fl_X9_13 (by decide) (by decide) rfl rfl f1 ?_
  refine s_iload_n dX9_rowsOf_9 rfl rfl ?_
  have f2 := H.1
  replace H := H.2
  refine s_iald dX9_rowsOf_10 f2 ?_
  have f3 := H.1
  replace H := H.2
  have f4 := H.1
  replace H := H.2
  refine s_icmp_ge (tgt := 27) dX9_rowsOf_11 (by decide) f3 f4 (fun c5 => ?_) (fun c5 => ?_)
  · replace H := H.1 c5
    refine s_iload_n dX9_rowsOf_27 rfl rfl ?_
    exact s_iret dX9_rowsOf_28 rfl ⟨Nat.le_refl _, Nat.le_refl _⟩ H
  · replace H := H.2 c5
    refine s_iload_n dX9_rowsOf_14 rfl rfl ?_
    refine s_aload_n dX9_rowsOf_15 rfl rfl ?_
    refine s_getf (c := 9) (k := 0) (t := 0) (j := 0) dX9_rowsOf_16 fl_X9_7 (by decide) (by decide) rfl rfl f1 ?_
    refine s_imul dX9_rowsOf_19 ?_
    refine s_istore_n dX9_rowsOf_20 rfl (by decide) rfl ?_
    show S l MX9_rowsOf (d, 0, 0, 0, 0) 21 [some (vR a0), some (vI a1), some (vI (a2 * (h a0 0))), some (vI a3)] [] G h Q
    refine s_iinc dX9_rowsOf_21 rfl (by decide) rfl ?_
    show S l MX9_rowsOf (d, 0, 0, 0, 0) 24 [some (vR a0), some (vI a1), some (vI (a2 * (h a0 0))), some (vI (a3 + 1))] [] G h Q
    refine s_goto (tgt := 4) dX9_rowsOf_24 (by decide) ?_
    exact S_cut (by first | exact ⟨rfl, ⟨rfl, ⟨rfl, ⟨rfl, trivial⟩⟩⟩⟩ | simp [lsub]) H
set_option maxHeartbeats 4000000 in
set_option maxRecDepth 100000 in
theorem vX9_putRow_0 {l : Launch} {d : Nat} {G : GS} {h : HP} {Q : Int → GS → HP → Prop} (a0 a1 a2 a3 : Int) (H : S l MX9_putRow (d, 0, 0, 0, 0) 6 [some (vR a0), some (vI a1), some (vI a2), none, some (vI a3), some (vI 0)] [] G h Q) : S l MX9_putRow (d, 0, 0, 0, 0) 0 [some (vR a0), some (vI a1), some (vI a2), some (vI a3), none, none] [] G h Q := by
  refine s_iload_n dX9_putRow_0 rfl rfl ?_
  refine s_istore dX9_putRow_1 (by decide) rfl ?_
  show S l MX9_putRow (d, 0, 0, 0, 0) 3 [some (vR a0), some (vI a1), some (vI a2), some (vI a3), some (vI a3), none] [] G h Q
  refine s_iconst dX9_putRow_3 ?_
  refine s_istore dX9_putRow_4 (by decide) rfl ?_
  show S l MX9_putRow (d, 0, 0, 0, 0) 6 [some (vR a0), some (vI a1), some (vI a2), some (vI a3), some (vI a3), some (vI 0)] [] G h Q
  exact S_cut (by first | exact ⟨rfl, ⟨rfl, ⟨rfl, ⟨rfl, ⟨rfl, trivial⟩⟩⟩⟩⟩ | simp [lsub]) H
set_option maxHeartbeats 4000000 in
set_option maxRecDepth 100000 in
theorem vX9_putRow_6 {l : Launch} {d : Nat} {G : GS} {h : HP} {Q : Int → GS → HP → Prop} (a0 a1 a2 a4 a5 : Int) (H : (inR a5) ∧ ((9 ≤ a5 → Q 0 G h) ∧ (a5 < 9 → (ty G a0 = 9) ∧ (dvR a4 (h a0 0)) ∧ (inA G 10 (h a0 3) (((27 * a1) + (9 * a2)) + a5)) ∧ ∀ h6 : HP, h6 = hset h (h a0 3) (((27 * a1) + (9 * a2)) + a5) (a4 % (h a0 0)) → (dvR a4 (h6 a0 0)) ∧ S l MX9_putRow (d, 0, 0, 0, 0) 6 [some (vR a0), some (vI a1), some (vI a2), none, some (vI (a4 / (h6 a0 0))), some (vI (a5 + 1))] [] G h6 Q))) : S l MX9_putRow (d, 0, 0, 0, 0) 6 [some (vR a0), some (vI a1), some (vI a2), none, some (vI a4), some (vI a5)] [] G h Q := by
  refine s_iload dX9_putRow_6 rfl ?_
  refine s_bipush dX9_putRow_8 (by decide) ?_
  have f1 := H.1
  replace H := H.2
  refine s_icmp_ge (tgt := 52) dX9_putRow_10 (by decide) f1 (by decide) (fun c2 => ?_) (fun c2 => ?_)
  · replace H := H.1 c2
    exact s_vret dX9_putRow_52 rfl ⟨Nat.le_refl _, Nat.le_refl _⟩ H
  · replace H := H.2 c2
    refine s_aload_n dX9_putRow_13 rfl rfl ?_
    have f3 := H.1
    replace H := H.2
    refine s_getf (c := 9) (k := 3) (t := 2) (j := 3) dX9_putRow_14 fl_X9_20 (by decide) (by decide) rfl rfl f3 ?_
    refine s_bipush dX9_putRow_17 (by decide) ?_
    refine s_iload_n dX9_putRow_19 rfl rfl ?_
    refine s_imul dX9_putRow_20 ?_
    refine s_bipush dX9_putRow_21 (by decide) ?_
    refine s_iload_n dX9_putRow_23 rfl rfl ?_
    refine s_imul dX9_putRow_24 ?_
    refine s_iadd dX9_putRow_25 ?_
    refine s_iload dX9_putRow_26 rfl ?_
    refine s_iadd dX9_putRow_28 ?_
    refine s_iload dX9_putRow_29 rfl ?_
    refine s_aload_n dX9_putRow_31 rfl rfl ?_
    refine s_getf (c := 9) (k := 0) (t := 0) (j := 0) dX9_putRow_32 fl_X9_7 (by decide) (by decide) rfl rfl f3 ?_
    have f4 := H.1
    replace H := H.2
    refine s_irem dX9_putRow_35 f4 ?_
    have f5 := H.1
    replace H := H.2
    refine s_iastH dX9_putRow_36 f5 (fun h6 eh6 => ?_)
    replace H := H h6 eh6
    refine s_iload dX9_putRow_37 rfl ?_
    refine s_aload_n dX9_putRow_39 rfl rfl ?_
    refine s_getf (c := 9) (k := 0) (t := 0) (j := 0) dX9_putRow_40 fl_X9_7 (by decide) (by decide) rfl rfl f3 ?_
    have f7 := H.1
    replace H := H.2
    refine s_idiv dX9_putRow_43 f7 ?_
    refine s_istore dX9_putRow_44 (by decide) rfl ?_
    show S l MX9_putRow (d, 0, 0, 0, 0) 46 [some (vR a0), some (vI a1), some (vI a2), none, some (vI (a4 / (h6 a0 0))), some (vI a5)] [] G h6 Q
    refine s_iinc dX9_putRow_46 rfl (by decide) rfl ?_
    show S l MX9_putRow (d, 0, 0, 0, 0) 49 [some (vR a0), some (vI a1), some (vI a2), none, some (vI (a4 / (h6 a0 0))), some (vI (a5 + 1))] [] G h6 Q
    refine s_goto (tgt := 6) dX9_putRow_49 (by decide) ?_
    exact S_cut (by first | exact ⟨rfl, ⟨rfl, ⟨rfl, ⟨rfl, ⟨rfl, trivial⟩⟩⟩⟩⟩ | simp [lsub]) H
set_option maxHeartbeats 4000000 in
set_option maxRecDepth 100000 in
theorem vX9_row_0 {l : Launch} {d : Nat} {G : GS} {h : HP} {Q : Int → GS → HP → Prop} (a0 a1 a2 : Int) (H : (ty G a0 = 9) ∧ R l MX9_isTime d 0 0 [vR a0, vI a1] G h (fun r1 G2 h3 => (inR r1) ∧ ((r1 = 0 → Q ((-1)) G2 h3) ∧ (r1 ≠ 0 → (inR a2) ∧ R l MX9_in d 0 0 [vL a2, vL 0, vL 2] G2 h3 (fun r8 G9 h10 => (inR r8) ∧ ((r8 = 0 → Q ((-1)) G9 h10) ∧ (r8 ≠ 0 → (ty G9 a0 = 9) ∧ R l MX9_getRow d 0 0 [vR a0, vI a1, vI a2] G9 h10 (fun r13 G14 h15 => Q r13 G14 h15)))))))) : S l MX9_row (d + 1, 0, 0, 0, 0) 0 [some (vR a0), some (vI a1), some (vI a2)] [] G h Q := by
  refine s_aload_n dX9_row_0 rfl rfl ?_
  refine s_iload_n dX9_row_1 rfl rfl ?_
  have f4 := H.1
  replace H := H.2
  refine s_callV (M' := MX9_isTime) (As := [vI a1]) (a := a0) (st := []) dX9_row_2 ml_X9_126 cv_X9_isTime rfl rfl (Nat.le_of_ble_eq_true rfl) ⟨Nat.le_refl _, Nat.le_refl _⟩ f4 (R_mono (fun r1 G2 h3 H => ?_) H)
  show S l MX9_row (d + 1, 0, 0, 0, 0) 5 [some (vR a0), some (vI a1), some (vI a2)] [vI r1] G2 h3 Q
  have f5 := H.1
  replace H := H.2
  refine s_if_eq (tgt := 29) dX9_row_5 (by decide) f5 (fun c6 => ?_) (fun c6 => ?_)
  · replace H := H.1 c6
    refine s_iconst dX9_row_29 ?_
    exact s_iret dX9_row_30 rfl ⟨Nat.le_refl _, Nat.le_refl _⟩ H
  · replace H := H.2 c6
    refine s_iload_n dX9_row_8 rfl rfl ?_
    have f7 := H.1
    replace H := H.2
    refine s_i2l dX9_row_9 f7 ?_
    refine s_lconst (v := 0) dX9_row_10 rfl ?_
    refine s_ldc2 (v := 2) dX9_row_11 kc_X9_130 ?_
    refine s_callS (M' := MX9_in) (As := [vL a2, vL 0, vL 2]) (st := []) dX9_row_14 ml_X9_97 cs_X9_in rfl rfl (Nat.le_of_ble_eq_true rfl) ⟨Nat.le_refl _, Nat.le_refl _⟩ (R_mono (fun r8 G9 h10 H => ?_) H)
    show S l MX9_row (d + 1, 0, 0, 0, 0) 17 [some (vR a0), some (vI a1), some (vI a2)] [vI r8] G9 h10 Q
    have f11 := H.1
    replace H := H.2
    refine s_if_eq (tgt := 29) dX9_row_17 (by decide) f11 (fun c12 => ?_) (fun c12 => ?_)
    · replace H := H.1 c12
      refine s_iconst dX9_row_29 ?_
      exact s_iret dX9_row_30 rfl ⟨Nat.le_refl _, Nat.le_refl _⟩ H
    · replace H := H.2 c12
      refine s_aload_n dX9_row_20 rfl rfl ?_
      refine s_iload_n dX9_row_21 rfl rfl ?_
      refine s_iload_n dX9_row_22 rfl rfl ?_
      have f16 := H.1
      replace H := H.2
      refine s_callV (M' := MX9_getRow) (As := [vI a1, vI a2]) (a := a0) (st := []) dX9_row_23 ml_X9_132 cv_X9_getRow rfl rfl (Nat.le_of_ble_eq_true rfl) ⟨Nat.le_refl _, Nat.le_refl _⟩ f16 (R_mono (fun r13 G14 h15 H => ?_) H)
      show S l MX9_row (d + 1, 0, 0, 0, 0) 26 [some (vR a0), some (vI a1), some (vI a2)] [vI r13] G14 h15 Q
      refine s_goto (tgt := 30) dX9_row_26 (by decide) ?_
      exact s_iret dX9_row_30 rfl ⟨Nat.le_refl _, Nat.le_refl _⟩ H
set_option maxHeartbeats 4000000 in
set_option maxRecDepth 100000 in
theorem vX9_isTime_0 {l : Launch} {d : Nat} {G : GS} {h : HP} {Q : Int → GS → HP → Prop} (a0 a1 : Int) (H : (inR a1) ∧ (ty G a0 = 9) ∧ (inR ((h a0 4) - 1)) ∧ R l MX9_in d 0 0 [vL a1, vL 0, vL ((h a0 4) - 1)] G h (fun r4 G5 h6 => (r4 = 0 ∨ r4 = 1) ∧ Q r4 G5 h6)) : S l MX9_isTime (d + 1, 0, 0, 0, 0) 0 [some (vR a0), some (vI a1)] [] G h Q := by
  refine s_iload_n dX9_isTime_0 rfl rfl ?_
  have f1 := H.1
  replace H := H.2
  refine s_i2l dX9_isTime_1 f1 ?_
  refine s_lconst (v := 0) dX9_isTime_2 rfl ?_
  refine s_aload_n dX9_isTime_3 rfl rfl ?_
  have f2 := H.1
  replace H := H.2
  refine s_getf (c := 9) (k := 4) (t := 0) (j := 4) dX9_isTime_4 fl_X9_85 (by decide) (by decide) rfl rfl f2 ?_
  refine s_iconst dX9_isTime_7 ?_
  refine s_isub dX9_isTime_8 ?_
  have f3 := H.1
  replace H := H.2
  refine s_i2l dX9_isTime_9 f3 ?_
  refine s_callS (M' := MX9_in) (As := [vL a1, vL 0, vL ((h a0 4) - 1)]) (st := []) dX9_isTime_10 ml_X9_97 cs_X9_in rfl rfl (Nat.le_of_ble_eq_true rfl) ⟨Nat.le_refl _, Nat.le_refl _⟩ (R_mono (fun r4 G5 h6 H => ?_) H)
  show S l MX9_isTime (d + 1, 0, 0, 0, 0) 13 [some (vR a0), some (vI a1)] [vI r4] G5 h6 Q
  have f7 := H.1
  replace H := H.2
  exact s_zret dX9_isTime_13 rfl ⟨Nat.le_refl _, Nat.le_refl _⟩ f7 H
set_option maxHeartbeats 4000000 in
set_option maxRecDepth 100000 in
theorem vX9_getRow_0 {l : Launch} {d : Nat} {G : GS} {h : HP} {Q : Int → GS → HP → Prop} (a0 a1 a2 : Int) (H : (ty G a0 = 9) ∧ (inA G 10 (h a0 1) a2) ∧ S l MX9_getRow (d, 0, 0, 0, 0) 12 [some (vR a0), some (vI a1), some (vI a2), some (vI 0), some (vI ((h (h a0 1) a2) - 1))] [] G h Q) : S l MX9_getRow (d, 0, 0, 0, 0) 0 [some (vR a0), some (vI a1), some (vI a2), none, none] [] G h Q := by
  refine s_iconst dX9_getRow_0 ?_
  refine s_istore_n dX9_getRow_1 rfl (by decide) rfl ?_
  show S l MX9_getRow (d, 0, 0, 0, 0) 2 [some (vR a0), some (vI a1), some (vI a2), some (vI 0), none] [] G h Q
  refine s_aload_n dX9_getRow_2 rfl rfl ?_
  have f1 := H.1
  replace H := H.2
  refine s_getf (c := 9) (k := 1) (t := 2) (j := 1) dX9_getRow_3 fl_X9_13 (by decide) (by decide) rfl rfl f1 ?_
  refine s_iload_n dX9_getRow_6 rfl rfl ?_
  have f2 := H.1
  replace H := H.2
  refine s_iald dX9_getRow_7 f2 ?_
  refine s_iconst dX9_getRow_8 ?_
  refine s_isub dX9_getRow_9 ?_
  refine s_istore dX9_getRow_10 (by decide) rfl ?_
  show S l MX9_getRow (d, 0, 0, 0, 0) 12 [some (vR a0), some (vI a1), some (vI a2), some (vI 0), some (vI ((h (h a0 1) a2) - 1))] [] G h Q
  exact S_cut (by first | exact ⟨rfl, ⟨rfl, ⟨rfl, ⟨rfl, ⟨rfl, trivial⟩⟩⟩⟩⟩ | simp [lsub]) H
set_option maxHeartbeats 4000000 in
set_option maxRecDepth 100000 in
theorem vX9_getRow_12 {l : Launch} {d : Nat} {G : GS} {h : HP} {Q : Int → GS → HP → Prop} (a0 a1 a2 a3 a4 : Int) (H : (inR a4) ∧ ((a4 < 0 → Q a3 G h) ∧ (0 ≤ a4 → (ty G a0 = 9) ∧ (inA G 10 (h a0 3) (((27 * a1) + (9 * a2)) + a4)) ∧ S l MX9_getRow (d, 0, 0, 0, 0) 12 [some (vR a0), some (vI a1), some (vI a2), some (vI ((a3 * (h a0 0)) + (h (h a0 3) (((27 * a1) + (9 * a2)) + a4)))), some (vI (a4 + (-1)))] [] G h Q))) : S l MX9_getRow (d, 0, 0, 0, 0) 12 [some (vR a0), some (vI a1), some (vI a2), some (vI a3), some (vI a4)] [] G h Q := by
  refine s_iload dX9_getRow_12 rfl ?_
  have f1 := H.1
  replace H := H.2
  refine s_if_lt (tgt := 48) dX9_getRow_14 (by decide) f1 (fun c2 => ?_) (fun c2 => ?_)
  · replace H := H.1 c2
    refine s_iload_n dX9_getRow_48 rfl rfl ?_
    exact s_iret dX9_getRow_49 rfl ⟨Nat.le_refl _, Nat.le_refl _⟩ H
  · replace H := H.2 c2
    refine s_iload_n dX9_getRow_17 rfl rfl ?_
    refine s_aload_n dX9_getRow_18 rfl rfl ?_
    have f3 := H.1
    replace H := H.2
    refine s_getf (c := 9) (k := 0) (t := 0) (j := 0) dX9_getRow_19 fl_X9_7 (by decide) (by decide) rfl rfl f3 ?_
    refine s_imul dX9_getRow_22 ?_
    refine s_aload_n dX9_getRow_23 rfl rfl ?_
    refine s_getf (c := 9) (k := 3) (t := 2) (j := 3) dX9_getRow_24 fl_X9_20 (by decide) (by decide) rfl rfl f3 ?_
    refine s_bipush dX9_getRow_27 (by decide) ?_
    refine s_iload_n dX9_getRow_29 rfl rfl ?_
    refine s_imul dX9_getRow_30 ?_
    refine s_bipush dX9_getRow_31 (by decide) ?_
    refine s_iload_n dX9_getRow_33 rfl rfl ?_
    refine s_imul dX9_getRow_34 ?_
    refine s_iadd dX9_getRow_35 ?_
    refine s_iload dX9_getRow_36 rfl ?_
    refine s_iadd dX9_getRow_38 ?_
    have f4 := H.1
    replace H := H.2
    refine s_iald dX9_getRow_39 f4 ?_
    refine s_iadd dX9_getRow_40 ?_
    refine s_istore_n dX9_getRow_41 rfl (by decide) rfl ?_
    show S l MX9_getRow (d, 0, 0, 0, 0) 42 [some (vR a0), some (vI a1), some (vI a2), some (vI ((a3 * (h a0 0)) + (h (h a0 3) (((27 * a1) + (9 * a2)) + a4)))), some (vI a4)] [] G h Q
    refine s_iinc dX9_getRow_42 rfl (by decide) rfl ?_
    show S l MX9_getRow (d, 0, 0, 0, 0) 45 [some (vR a0), some (vI a1), some (vI a2), some (vI ((a3 * (h a0 0)) + (h (h a0 3) (((27 * a1) + (9 * a2)) + a4)))), some (vI (a4 + (-1)))] [] G h Q
    refine s_goto (tgt := 12) dX9_getRow_45 (by decide) ?_
    exact S_cut (by first | exact ⟨rfl, ⟨rfl, ⟨rfl, ⟨rfl, ⟨rfl, trivial⟩⟩⟩⟩⟩ | simp [lsub]) H
set_option maxHeartbeats 4000000 in
set_option maxRecDepth 100000 in
theorem vX9_change_0 {l : Launch} {d : Nat} {G : GS} {h : HP} {Q : Int → GS → HP → Prop} (a0 a1 a2 a3 : Int) (H : (ty G a0 = 9) ∧ R l MX9_isTime d 0 0 [vR a0, vI a1] G h (fun r1 G2 h3 => (inR r1) ∧ ((r1 = 0 → Q ((-1)) G2 h3) ∧ (r1 ≠ 0 → (inR a2) ∧ R l MX9_in d 0 0 [vL a2, vL 0, vL 2] G2 h3 (fun r8 G9 h10 => (inR r8) ∧ ((r8 = 0 → Q ((-1)) G9 h10) ∧ (r8 ≠ 0 → (ty G9 a0 = 9) ∧ R l MX9_isRow d 0 0 [vR a0, vI a3, vI a2] G9 h10 (fun r13 G14 h15 => (inR r13) ∧ ((r13 ≠ 0 → (ty G14 a0 = 9) ∧ R l MX9_putRow d 0 0 [vR a0, vI a1, vI a2, vI a3] G14 h15 (fun r19 G20 h21 => Q 1 G20 h21)) ∧ (r13 = 0 → Q ((-1)) G14 h15)))))))))) : S l MX9_change (d + 1, 0, 0, 0, 0) 0 [some (vR a0), some (vI a1), some (vI a2), some (vI a3)] [] G h Q := by
  refine s_aload_n dX9_change_0 rfl rfl ?_
  refine s_iload_n dX9_change_1 rfl rfl ?_
  have f4 := H.1
  replace H := H.2
  refine s_callV (M' := MX9_isTime) (As := [vI a1]) (a := a0) (st := []) dX9_change_2 ml_X9_126 cv_X9_isTime rfl rfl (Nat.le_of_ble_eq_true rfl) ⟨Nat.le_refl _, Nat.le_refl _⟩ f4 (R_mono (fun r1 G2 h3 H => ?_) H)
  show S l MX9_change (d + 1, 0, 0, 0, 0) 5 [some (vR a0), some (vI a1), some (vI a2), some (vI a3)] [vI r1] G2 h3 Q
  have f5 := H.1
  replace H := H.2
  refine s_if_eq (tgt := 29) dX9_change_5 (by decide) f5 (fun c6 => ?_) (fun c6 => ?_)
  · replace H := H.1 c6
    refine s_iconst dX9_change_29 ?_
    exact s_iret dX9_change_30 rfl ⟨Nat.le_refl _, Nat.le_refl _⟩ H
  · replace H := H.2 c6
    refine s_iload_n dX9_change_8 rfl rfl ?_
    have f7 := H.1
    replace H := H.2
    refine s_i2l dX9_change_9 f7 ?_
    refine s_lconst (v := 0) dX9_change_10 rfl ?_
    refine s_ldc2 (v := 2) dX9_change_11 kc_X9_130 ?_
    refine s_callS (M' := MX9_in) (As := [vL a2, vL 0, vL 2]) (st := []) dX9_change_14 ml_X9_97 cs_X9_in rfl rfl (Nat.le_of_ble_eq_true rfl) ⟨Nat.le_refl _, Nat.le_refl _⟩ (R_mono (fun r8 G9 h10 H => ?_) H)
    show S l MX9_change (d + 1, 0, 0, 0, 0) 17 [some (vR a0), some (vI a1), some (vI a2), some (vI a3)] [vI r8] G9 h10 Q
    have f11 := H.1
    replace H := H.2
    refine s_if_eq (tgt := 29) dX9_change_17 (by decide) f11 (fun c12 => ?_) (fun c12 => ?_)
    · replace H := H.1 c12
      refine s_iconst dX9_change_29 ?_
      exact s_iret dX9_change_30 rfl ⟨Nat.le_refl _, Nat.le_refl _⟩ H
    · replace H := H.2 c12
      refine s_aload_n dX9_change_20 rfl rfl ?_
      refine s_iload_n dX9_change_21 rfl rfl ?_
      refine s_iload_n dX9_change_22 rfl rfl ?_
      have f16 := H.1
      replace H := H.2
      refine s_callV (M' := MX9_isRow) (As := [vI a3, vI a2]) (a := a0) (st := []) dX9_change_23 ml_X9_119 cv_X9_isRow rfl rfl (Nat.le_of_ble_eq_true rfl) ⟨Nat.le_refl _, Nat.le_refl _⟩ f16 (R_mono (fun r13 G14 h15 H => ?_) H)
      show S l MX9_change (d + 1, 0, 0, 0, 0) 26 [some (vR a0), some (vI a1), some (vI a2), some (vI a3)] [vI r13] G14 h15 Q
      have f17 := H.1
      replace H := H.2
      refine s_if_ne (tgt := 31) dX9_change_26 (by decide) f17 (fun c18 => ?_) (fun c18 => ?_)
      · replace H := H.1 c18
        refine s_aload_n dX9_change_31 rfl rfl ?_
        refine s_iload_n dX9_change_32 rfl rfl ?_
        refine s_iload_n dX9_change_33 rfl rfl ?_
        refine s_iload_n dX9_change_34 rfl rfl ?_
        have f22 := H.1
        replace H := H.2
        refine s_callV (M' := MX9_putRow) (As := [vI a1, vI a2, vI a3]) (a := a0) (st := []) dX9_change_35 ml_X9_123 cv_X9_putRow rfl rfl (Nat.le_of_ble_eq_true rfl) ⟨Nat.le_refl _, Nat.le_refl _⟩ f22 (R_mono (fun r19 G20 h21 H => ?_) H)
        show S l MX9_change (d + 1, 0, 0, 0, 0) 38 [some (vR a0), some (vI a1), some (vI a2), some (vI a3)] [] G20 h21 Q
        refine s_iconst dX9_change_38 ?_
        exact s_iret dX9_change_39 rfl ⟨Nat.le_refl _, Nat.le_refl _⟩ H
      · replace H := H.2 c18
        refine s_iconst dX9_change_29 ?_
        exact s_iret dX9_change_30 rfl ⟨Nat.le_refl _, Nat.le_refl _⟩ H
set_option maxHeartbeats 4000000 in
set_option maxRecDepth 100000 in
theorem vX9_drop_0 {l : Launch} {d : Nat} {G : GS} {h : HP} {Q : Int → GS → HP → Prop} (a0 a1 : Int) (H : (ty G a0 = 9) ∧ R l MX9_isTime d 0 0 [vR a0, vI a1] G h (fun r1 G2 h3 => (inR r1) ∧ ((r1 ≠ 0 → (ty G2 a0 = 9) ∧ R l MX9_remove d 0 0 [vR a0, vI a1] G2 h3 (fun r7 G8 h9 => (ty G8 a0 = 9) ∧ Q (h9 a0 4) G8 h9)) ∧ (r1 = 0 → Q ((-1)) G2 h3)))) : S l MX9_drop (d + 1, 0, 0, 0, 0) 0 [some (vR a0), some (vI a1)] [] G h Q := by
  refine s_aload_n dX9_drop_0 rfl rfl ?_
  refine s_iload_n dX9_drop_1 rfl rfl ?_
  have f4 := H.1
  replace H := H.2
  refine s_callV (M' := MX9_isTime) (As := [vI a1]) (a := a0) (st := []) dX9_drop_2 ml_X9_126 cv_X9_isTime rfl rfl (Nat.le_of_ble_eq_true rfl) ⟨Nat.le_refl _, Nat.le_refl _⟩ f4 (R_mono (fun r1 G2 h3 H => ?_) H)
  show S l MX9_drop (d + 1, 0, 0, 0, 0) 5 [some (vR a0), some (vI a1)] [vI r1] G2 h3 Q
  have f5 := H.1
  replace H := H.2
  refine s_if_ne (tgt := 10) dX9_drop_5 (by decide) f5 (fun c6 => ?_) (fun c6 => ?_)
  · replace H := H.1 c6
    refine s_aload_n dX9_drop_10 rfl rfl ?_
    refine s_iload_n dX9_drop_11 rfl rfl ?_
    have f10 := H.1
    replace H := H.2
    refine s_callV (M' := MX9_remove) (As := [vI a1]) (a := a0) (st := []) dX9_drop_12 ml_X9_136 cv_X9_remove rfl rfl (Nat.le_of_ble_eq_true rfl) ⟨Nat.le_refl _, Nat.le_refl _⟩ f10 (R_mono (fun r7 G8 h9 H => ?_) H)
    show S l MX9_drop (d + 1, 0, 0, 0, 0) 15 [some (vR a0), some (vI a1)] [] G8 h9 Q
    refine s_aload_n dX9_drop_15 rfl rfl ?_
    have f11 := H.1
    replace H := H.2
    refine s_getf (c := 9) (k := 4) (t := 0) (j := 4) dX9_drop_16 fl_X9_85 (by decide) (by decide) rfl rfl f11 ?_
    exact s_iret dX9_drop_19 rfl ⟨Nat.le_refl _, Nat.le_refl _⟩ H
  · replace H := H.2 c6
    refine s_iconst dX9_drop_8 ?_
    exact s_iret dX9_drop_9 rfl ⟨Nat.le_refl _, Nat.le_refl _⟩ H
set_option maxHeartbeats 4000000 in
set_option maxRecDepth 100000 in
theorem vX9_remove_0 {l : Launch} {d : Nat} {G : GS} {h : HP} {Q : Int → GS → HP → Prop} (a0 a1 : Int) (H : S l MX9_remove (d, 0, 0, 0, 0) 5 [some (vR a0), none, some (vI (27 * a1))] [] G h Q) : S l MX9_remove (d, 0, 0, 0, 0) 0 [some (vR a0), some (vI a1), none] [] G h Q := by
  refine s_bipush dX9_remove_0 (by decide) ?_
  refine s_iload_n dX9_remove_2 rfl rfl ?_
  refine s_imul dX9_remove_3 ?_
  refine s_istore_n dX9_remove_4 rfl (by decide) rfl ?_
  show S l MX9_remove (d, 0, 0, 0, 0) 5 [some (vR a0), some (vI a1), some (vI (27 * a1))] [] G h Q
  exact S_cut (by first | exact ⟨rfl, ⟨rfl, trivial⟩⟩ | simp [lsub]) H
set_option maxHeartbeats 4000000 in
set_option maxRecDepth 100000 in
theorem vX9_remove_5 {l : Launch} {d : Nat} {G : GS} {h : HP} {Q : Int → GS → HP → Prop} (a0 a2 : Int) (H : (ty G a0 = 9) ∧ (inR a2) ∧ (inR (27 * ((h a0 4) - 1))) ∧ (((27 * ((h a0 4) - 1)) ≤ a2 → ∀ h5 : HP, h5 = hset h a0 4 ((h a0 4) - 1) → Q 0 G h5) ∧ (a2 < (27 * ((h a0 4) - 1)) → (inA G 10 (h a0 3) (a2 + 27)) ∧ (inA G 10 (h a0 3) a2) ∧ ∀ h8 : HP, h8 = hset h (h a0 3) a2 (h (h a0 3) (a2 + 27)) → S l MX9_remove (d, 0, 0, 0, 0) 5 [some (vR a0), none, some (vI (a2 + 1))] [] G h8 Q))) : S l MX9_remove (d, 0, 0, 0, 0) 5 [some (vR a0), none, some (vI a2)] [] G h Q := by
  refine s_iload_n dX9_remove_5 rfl rfl ?_
  refine s_bipush dX9_remove_6 (by decide) ?_
  refine s_aload_n dX9_remove_8 rfl rfl ?_
  have f1 := H.1
  replace H := H.2
  refine s_getf (c := 9) (k := 4) (t := 0) (j := 4) dX9_remove_9 fl_X9_85 (by decide) (by decide) rfl rfl f1 ?_
  refine s_iconst dX9_remove_12 ?_
  refine s_isub dX9_remove_13 ?_
  refine s_imul dX9_remove_14 ?_
  have f2 := H.1
  replace H := H.2
  have f3 := H.1
  replace H := H.2
  refine s_icmp_ge (tgt := 39) dX9_remove_15 (by decide) f2 f3 (fun c4 => ?_) (fun c4 => ?_)
  · replace H := H.1 c4
    refine s_aload_n dX9_remove_39 rfl rfl ?_
    refine s_dup dX9_remove_40 rfl ?_
    refine s_getf (c := 9) (k := 4) (t := 0) (j := 4) dX9_remove_41 fl_X9_85 (by decide) (by decide) rfl rfl f1 ?_
    refine s_iconst dX9_remove_44 ?_
    refine s_isub dX9_remove_45 ?_
    refine s_putI (c := 9) (k := 4) (j := 4) dX9_remove_46 fl_X9_85 (by decide) (by decide) rfl rfl rfl f1 (fun h5 eh5 => ?_)
    replace H := H h5 eh5
    exact s_vret dX9_remove_49 rfl ⟨Nat.le_refl _, Nat.le_refl _⟩ H
  · replace H := H.2 c4
    refine s_aload_n dX9_remove_18 rfl rfl ?_
    refine s_getf (c := 9) (k := 3) (t := 2) (j := 3) dX9_remove_19 fl_X9_20 (by decide) (by decide) rfl rfl f1 ?_
    refine s_iload_n dX9_remove_22 rfl rfl ?_
    refine s_aload_n dX9_remove_23 rfl rfl ?_
    refine s_getf (c := 9) (k := 3) (t := 2) (j := 3) dX9_remove_24 fl_X9_20 (by decide) (by decide) rfl rfl f1 ?_
    refine s_iload_n dX9_remove_27 rfl rfl ?_
    refine s_bipush dX9_remove_28 (by decide) ?_
    refine s_iadd dX9_remove_30 ?_
    have f6 := H.1
    replace H := H.2
    refine s_iald dX9_remove_31 f6 ?_
    have f7 := H.1
    replace H := H.2
    refine s_iastH dX9_remove_32 f7 (fun h8 eh8 => ?_)
    replace H := H h8 eh8
    refine s_iinc dX9_remove_33 rfl (by decide) rfl ?_
    show S l MX9_remove (d, 0, 0, 0, 0) 36 [some (vR a0), none, some (vI (a2 + 1))] [] G h8 Q
    refine s_goto (tgt := 5) dX9_remove_36 (by decide) ?_
    exact S_cut (by first | exact ⟨rfl, ⟨rfl, trivial⟩⟩ | simp [lsub]) H
set_option maxHeartbeats 4000000 in
set_option maxRecDepth 100000 in
theorem vX9_plain_0 {l : Launch} {d : Nat} {G : GS} {h : HP} {Q : Int → GS → HP → Prop} (a0 : Int) (H : (ty G a0 = 9) ∧ R l MX9_filled d 0 0 [vR a0] G h (fun r1 G2 h3 => (inR r1) ∧ ((r1 ≤ 40 → (ty G2 a0 = 9) ∧ ∀ h8 : HP, h8 = hset h3 a0 4 0 → S l MX9_plain (d + 1, 0, 0, 0, 0) 19 [some (vR a0), some (vI 0), none] [] G2 h8 Q) ∧ (40 < r1 → Q ((-2)) G2 h3)))) : S l MX9_plain (d + 1, 0, 0, 0, 0) 0 [some (vR a0), none, none] [] G h Q := by
  refine s_aload_n dX9_plain_0 rfl rfl ?_
  have f4 := H.1
  replace H := H.2
  refine s_callV (M' := MX9_filled) (As := []) (a := a0) (st := []) dX9_plain_1 ml_X9_108 cv_X9_filled rfl rfl (Nat.le_of_ble_eq_true rfl) ⟨Nat.le_refl _, Nat.le_refl _⟩ f4 (R_mono (fun r1 G2 h3 H => ?_) H)
  show S l MX9_plain (d + 1, 0, 0, 0, 0) 4 [some (vR a0), none, none] [vI r1] G2 h3 Q
  refine s_bipush dX9_plain_4 (by decide) ?_
  have f5 := H.1
  replace H := H.2
  refine s_icmp_le (tgt := 12) dX9_plain_6 (by decide) f5 (by decide) (fun c6 => ?_) (fun c6 => ?_)
  · replace H := H.1 c6
    refine s_aload_n dX9_plain_12 rfl rfl ?_
    refine s_iconst dX9_plain_13 ?_
    have f7 := H.1
    replace H := H.2
    refine s_putI (c := 9) (k := 4) (j := 4) dX9_plain_14 fl_X9_85 (by decide) (by decide) rfl rfl rfl f7 (fun h8 eh8 => ?_)
    replace H := H h8 eh8
    refine s_iconst dX9_plain_17 ?_
    refine s_istore_n dX9_plain_18 rfl (by decide) rfl ?_
    show S l MX9_plain (d + 1, 0, 0, 0, 0) 19 [some (vR a0), some (vI 0), none] [] G2 h8 Q
    exact S_cut (by first | exact ⟨rfl, ⟨rfl, trivial⟩⟩ | simp [lsub]) H
  · replace H := H.2 c6
    refine s_bipush dX9_plain_9 (by decide) ?_
    exact s_iret dX9_plain_11 rfl ⟨Nat.le_refl _, Nat.le_refl _⟩ H
set_option maxHeartbeats 4000000 in
set_option maxRecDepth 100000 in
theorem vX9_plain_19 {l : Launch} {d : Nat} {G : GS} {h : HP} {Q : Int → GS → HP → Prop} (a0 a1 : Int) (H : (inR a1) ∧ ((729 ≤ a1 → (ty G a0 = 9) ∧ Q (h a0 4) G h) ∧ (a1 < 729 → (ty G a0 = 9) ∧ (inA G 10 (h a0 2) a1) ∧ (inR (h (h a0 2) a1)) ∧ (((h (h a0 2) a1) = 0 → S l MX9_plain (d + 1, 0, 0, 0, 0) 19 [some (vR a0), some (vI (a1 + 1)), none] [] G h Q) ∧ ((h (h a0 2) a1) ≠ 0 → S l MX9_plain (d + 1, 0, 0, 0, 0) 37 [some (vR a0), some (vI a1), some (vI 0)] [] G h Q))))) : S l MX9_plain (d + 1, 0, 0, 0, 0) 19 [some (vR a0), some (vI a1), none] [] G h Q := by
  refine s_iload_n dX9_plain_19 rfl rfl ?_
  refine s_sipush dX9_plain_20 (by decide) ?_
  have f1 := H.1
  replace H := H.2
  refine s_icmp_ge (tgt := 148) dX9_plain_23 (by decide) f1 (by decide) (fun c2 => ?_) (fun c2 => ?_)
  · replace H := H.1 c2
    refine s_aload_n dX9_plain_148 rfl rfl ?_
    have f3 := H.1
    replace H := H.2
    refine s_getf (c := 9) (k := 4) (t := 0) (j := 4) dX9_plain_149 fl_X9_85 (by decide) (by decide) rfl rfl f3 ?_
    exact s_iret dX9_plain_152 rfl ⟨Nat.le_refl _, Nat.le_refl _⟩ H
  · replace H := H.2 c2
    refine s_aload_n dX9_plain_26 rfl rfl ?_
    have f4 := H.1
    replace H := H.2
    refine s_getf (c := 9) (k := 2) (t := 2) (j := 2) dX9_plain_27 fl_X9_17 (by decide) (by decide) rfl rfl f4 ?_
    refine s_iload_n dX9_plain_30 rfl rfl ?_
    have f5 := H.1
    replace H := H.2
    refine s_iald dX9_plain_31 f5 ?_
    have f6 := H.1
    replace H := H.2
    refine s_if_eq (tgt := 142) dX9_plain_32 (by decide) f6 (fun c7 => ?_) (fun c7 => ?_)
    · replace H := H.1 c7
      refine s_iinc dX9_plain_142 rfl (by decide) rfl ?_
      show S l MX9_plain (d + 1, 0, 0, 0, 0) 145 [some (vR a0), some (vI (a1 + 1)), none] [] G h Q
      refine s_goto (tgt := 19) dX9_plain_145 (by decide) ?_
      exact S_cut (by first | exact ⟨rfl, ⟨rfl, trivial⟩⟩ | simp [lsub]) H
    · replace H := H.2 c7
      refine s_iconst dX9_plain_35 ?_
      refine s_istore_n dX9_plain_36 rfl (by decide) rfl ?_
      show S l MX9_plain (d + 1, 0, 0, 0, 0) 37 [some (vR a0), some (vI a1), some (vI 0)] [] G h Q
      exact S_cut (by first | exact ⟨rfl, ⟨rfl, ⟨rfl, trivial⟩⟩⟩ | simp [lsub]) H
set_option maxHeartbeats 4000000 in
set_option maxRecDepth 100000 in
theorem vX9_plain_37 {l : Launch} {d : Nat} {G : GS} {h : HP} {Q : Int → GS → HP → Prop} (a0 a1 a2 : Int) (H : (inR a2) ∧ ((27 ≤ a2 → (ty G a0 = 9) ∧ (dvR a1 81) ∧ (inA G 10 (h a0 3) ((27 * (h a0 4)) + (a1 / 81))) ∧ ∀ h6 : HP, h6 = hset h (h a0 3) ((27 * (h a0 4)) + (a1 / 81)) 1 → (dvR a1 9) ∧ (dvR (a1 / 9) 9) ∧ (inA G 10 (h6 a0 3) (((27 * (h6 a0 4)) + 9) + ((a1 / 9) % 9))) ∧ ∀ h10 : HP, h10 = hset h6 (h6 a0 3) (((27 * (h6 a0 4)) + 9) + ((a1 / 9) % 9)) 1 → (inA G 10 (h10 a0 2) a1) ∧ (inA G 10 (h10 a0 3) (((27 * (h10 a0 4)) + 18) + (a1 % 9))) ∧ ∀ h13 : HP, h13 = hset h10 (h10 a0 3) (((27 * (h10 a0 4)) + 18) + (a1 % 9)) (h10 (h10 a0 2) a1) → ∀ h14 : HP, h14 = hset h13 a0 4 ((h13 a0 4) + 1) → S l MX9_plain (d + 1, 0, 0, 0, 0) 19 [some (vR a0), some (vI (a1 + 1)), none] [] G h14 Q) ∧ (a2 < 27 → (ty G a0 = 9) ∧ (inA G 10 (h a0 3) ((27 * (h a0 4)) + a2)) ∧ ∀ h17 : HP, h17 = hset h (h a0 3) ((27 * (h a0 4)) + a2) 0 → S l MX9_plain (d + 1, 0, 0, 0, 0) 37 [some (vR a0), some (vI a1), some (vI (a2 + 1))] [] G h17 Q))) : S l MX9_plain (d + 1, 0, 0, 0, 0) 37 [some (vR a0), some (vI a1), some (vI a2)] [] G h Q := by
  refine s_iload_n dX9_plain_37 rfl rfl ?_
  refine s_bipush dX9_plain_38 (by decide) ?_
  have f1 := H.1
  replace H := H.2
  refine s_icmp_ge (tgt := 64) dX9_plain_40 (by decide) f1 (by decide) (fun c2 => ?_) (fun c2 => ?_)
  · replace H := H.1 c2
    refine s_aload_n dX9_plain_64 rfl rfl ?_
    have f3 := H.1
    replace H := H.2
    refine s_getf (c := 9) (k := 3) (t := 2) (j := 3) dX9_plain_65 fl_X9_20 (by decide) (by decide) rfl rfl f3 ?_
    refine s_bipush dX9_plain_68 (by decide) ?_
    refine s_aload_n dX9_plain_70 rfl rfl ?_
    refine s_getf (c := 9) (k := 4) (t := 0) (j := 4) dX9_plain_71 fl_X9_85 (by decide) (by decide) rfl rfl f3 ?_
    refine s_imul dX9_plain_74 ?_
    refine s_iload_n dX9_plain_75 rfl rfl ?_
    refine s_bipush dX9_plain_76 (by decide) ?_
    have f4 := H.1
    replace H := H.2
    refine s_idiv dX9_plain_78 f4 ?_
    refine s_iadd dX9_plain_79 ?_
    refine s_iconst dX9_plain_80 ?_
    have f5 := H.1
    replace H := H.2
    refine s_iastH dX9_plain_81 f5 (fun h6 eh6 => ?_)
    replace H := H h6 eh6
    refine s_aload_n dX9_plain_82 rfl rfl ?_
    refine s_getf (c := 9) (k := 3) (t := 2) (j := 3) dX9_plain_83 fl_X9_20 (by decide) (by decide) rfl rfl f3 ?_
    refine s_bipush dX9_plain_86 (by decide) ?_
    refine s_aload_n dX9_plain_88 rfl rfl ?_
    refine s_getf (c := 9) (k := 4) (t := 0) (j := 4) dX9_plain_89 fl_X9_85 (by decide) (by decide) rfl rfl f3 ?_
    refine s_imul dX9_plain_92 ?_
    refine s_bipush dX9_plain_93 (by decide) ?_
    refine s_iadd dX9_plain_95 ?_
    refine s_iload_n dX9_plain_96 rfl rfl ?_
    refine s_bipush dX9_plain_97 (by decide) ?_
    have f7 := H.1
    replace H := H.2
    refine s_idiv dX9_plain_99 f7 ?_
    refine s_bipush dX9_plain_100 (by decide) ?_
    have f8 := H.1
    replace H := H.2
    refine s_irem dX9_plain_102 f8 ?_
    refine s_iadd dX9_plain_103 ?_
    refine s_iconst dX9_plain_104 ?_
    have f9 := H.1
    replace H := H.2
    refine s_iastH dX9_plain_105 f9 (fun h10 eh10 => ?_)
    replace H := H h10 eh10
    refine s_aload_n dX9_plain_106 rfl rfl ?_
    refine s_getf (c := 9) (k := 3) (t := 2) (j := 3) dX9_plain_107 fl_X9_20 (by decide) (by decide) rfl rfl f3 ?_
    refine s_bipush dX9_plain_110 (by decide) ?_
    refine s_aload_n dX9_plain_112 rfl rfl ?_
    refine s_getf (c := 9) (k := 4) (t := 0) (j := 4) dX9_plain_113 fl_X9_85 (by decide) (by decide) rfl rfl f3 ?_
    refine s_imul dX9_plain_116 ?_
    refine s_bipush dX9_plain_117 (by decide) ?_
    refine s_iadd dX9_plain_119 ?_
    refine s_iload_n dX9_plain_120 rfl rfl ?_
    refine s_bipush dX9_plain_121 (by decide) ?_
    refine s_irem dX9_plain_123 f7 ?_
    refine s_iadd dX9_plain_124 ?_
    refine s_aload_n dX9_plain_125 rfl rfl ?_
    refine s_getf (c := 9) (k := 2) (t := 2) (j := 2) dX9_plain_126 fl_X9_17 (by decide) (by decide) rfl rfl f3 ?_
    refine s_iload_n dX9_plain_129 rfl rfl ?_
    have f11 := H.1
    replace H := H.2
    refine s_iald dX9_plain_130 f11 ?_
    have f12 := H.1
    replace H := H.2
    refine s_iastH dX9_plain_131 f12 (fun h13 eh13 => ?_)
    replace H := H h13 eh13
    refine s_aload_n dX9_plain_132 rfl rfl ?_
    refine s_dup dX9_plain_133 rfl ?_
    refine s_getf (c := 9) (k := 4) (t := 0) (j := 4) dX9_plain_134 fl_X9_85 (by decide) (by decide) rfl rfl f3 ?_
    refine s_iconst dX9_plain_137 ?_
    refine s_iadd dX9_plain_138 ?_
    refine s_putI (c := 9) (k := 4) (j := 4) dX9_plain_139 fl_X9_85 (by decide) (by decide) rfl rfl rfl f3 (fun h14 eh14 => ?_)
    replace H := H h14 eh14
    refine s_iinc dX9_plain_142 rfl (by decide) rfl ?_
    show S l MX9_plain (d + 1, 0, 0, 0, 0) 145 [some (vR a0), some (vI (a1 + 1)), some (vI a2)] [] G h14 Q
    refine s_goto (tgt := 19) dX9_plain_145 (by decide) ?_
    exact S_cut (by first | exact ⟨rfl, ⟨rfl, trivial⟩⟩ | simp [lsub]) H
  · replace H := H.2 c2
    refine s_aload_n dX9_plain_43 rfl rfl ?_
    have f15 := H.1
    replace H := H.2
    refine s_getf (c := 9) (k := 3) (t := 2) (j := 3) dX9_plain_44 fl_X9_20 (by decide) (by decide) rfl rfl f15 ?_
    refine s_bipush dX9_plain_47 (by decide) ?_
    refine s_aload_n dX9_plain_49 rfl rfl ?_
    refine s_getf (c := 9) (k := 4) (t := 0) (j := 4) dX9_plain_50 fl_X9_85 (by decide) (by decide) rfl rfl f15 ?_
    refine s_imul dX9_plain_53 ?_
    refine s_iload_n dX9_plain_54 rfl rfl ?_
    refine s_iadd dX9_plain_55 ?_
    refine s_iconst dX9_plain_56 ?_
    have f16 := H.1
    replace H := H.2
    refine s_iastH dX9_plain_57 f16 (fun h17 eh17 => ?_)
    replace H := H h17 eh17
    refine s_iinc dX9_plain_58 rfl (by decide) rfl ?_
    show S l MX9_plain (d + 1, 0, 0, 0, 0) 61 [some (vR a0), some (vI a1), some (vI (a2 + 1))] [] G h17 Q
    refine s_goto (tgt := 37) dX9_plain_61 (by decide) ?_
    exact S_cut (by first | exact ⟨rfl, ⟨rfl, ⟨rfl, trivial⟩⟩⟩ | simp [lsub]) H
set_option maxHeartbeats 4000000 in
set_option maxRecDepth 100000 in
theorem vX9_off_0 {l : Launch} {d : Nat} {G : GS} {h : HP} {Q : Int → GS → HP → Prop} (a0 a1 : Int) (H : S l MX9_off (d + 1, 0, 0, 0, 0) 4 [some (vR a0), none, some (vI a1), some (vI 0), none, none] [] G h Q) : S l MX9_off (d + 1, 0, 0, 0, 0) 0 [some (vR a0), some (vI a1), none, none, none, none] [] G h Q := by
  refine s_iload_n dX9_off_0 rfl rfl ?_
  refine s_istore_n dX9_off_1 rfl (by decide) rfl ?_
  show S l MX9_off (d + 1, 0, 0, 0, 0) 2 [some (vR a0), some (vI a1), some (vI a1), none, none, none] [] G h Q
  refine s_iconst dX9_off_2 ?_
  refine s_istore_n dX9_off_3 rfl (by decide) rfl ?_
  show S l MX9_off (d + 1, 0, 0, 0, 0) 4 [some (vR a0), some (vI a1), some (vI a1), some (vI 0), none, none] [] G h Q
  exact S_cut (by first | exact ⟨rfl, ⟨rfl, ⟨rfl, trivial⟩⟩⟩ | simp [lsub]) H
set_option maxHeartbeats 4000000 in
set_option maxRecDepth 100000 in
theorem vX9_off_4 {l : Launch} {d : Nat} {G : GS} {h : HP} {Q : Int → GS → HP → Prop} (a0 a2 a3 : Int) (H : (ty G a0 = 9) ∧ (inA G 10 (h a0 1) 0) ∧ (inR a3) ∧ (inR (h (h a0 1) 0)) ∧ (((h (h a0 1) 0) ≤ a3 → Q ((-1)) G h) ∧ (a3 < (h (h a0 1) 0) → S l MX9_off (d + 1, 0, 0, 0, 0) 17 [some (vR a0), none, some (vI a2), some (vI a3), some (vI 0), none] [] G h Q))) : S l MX9_off (d + 1, 0, 0, 0, 0) 4 [some (vR a0), none, some (vI a2), some (vI a3), none, none] [] G h Q := by
  refine s_iload_n dX9_off_4 rfl rfl ?_
  refine s_aload_n dX9_off_5 rfl rfl ?_
  have f1 := H.1
  replace H := H.2
  refine s_getf (c := 9) (k := 1) (t := 2) (j := 1) dX9_off_6 fl_X9_13 (by decide) (by decide) rfl rfl f1 ?_
  refine s_iconst dX9_off_9 ?_
  have f2 := H.1
  replace H := H.2
  refine s_iald dX9_off_10 f2 ?_
  have f3 := H.1
  replace H := H.2
  have f4 := H.1
  replace H := H.2
  refine s_icmp_ge (tgt := 111) dX9_off_11 (by decide) f3 f4 (fun c5 => ?_) (fun c5 => ?_)
  · replace H := H.1 c5
    refine s_iconst dX9_off_111 ?_
    exact s_iret dX9_off_112 rfl ⟨Nat.le_refl _, Nat.le_refl _⟩ H
  · replace H := H.2 c5
    refine s_iconst dX9_off_14 ?_
    refine s_istore dX9_off_15 (by decide) rfl ?_
    show S l MX9_off (d + 1, 0, 0, 0, 0) 17 [some (vR a0), none, some (vI a2), some (vI a3), some (vI 0), none] [] G h Q
    exact S_cut (by first | exact ⟨rfl, ⟨rfl, ⟨rfl, ⟨rfl, trivial⟩⟩⟩⟩ | simp [lsub]) H
set_option maxHeartbeats 4000000 in
set_option maxRecDepth 100000 in
theorem vX9_off_17 {l : Launch} {d : Nat} {G : GS} {h : HP} {Q : Int → GS → HP → Prop} (a0 a2 a3 a4 : Int) (H : (ty G a0 = 9) ∧ (inA G 10 (h a0 1) 1) ∧ (inR a4) ∧ (inR (h (h a0 1) 1)) ∧ (((h (h a0 1) 1) ≤ a4 → S l MX9_off (d + 1, 0, 0, 0, 0) 4 [some (vR a0), none, some (vI a2), some (vI (a3 + 1)), none, none] [] G h Q) ∧ (a4 < (h (h a0 1) 1) → S l MX9_off (d + 1, 0, 0, 0, 0) 31 [some (vR a0), none, some (vI a2), some (vI a3), some (vI a4), some (vI 0)] [] G h Q))) : S l MX9_off (d + 1, 0, 0, 0, 0) 17 [some (vR a0), none, some (vI a2), some (vI a3), some (vI a4), none] [] G h Q := by
  refine s_iload dX9_off_17 rfl ?_
  refine s_aload_n dX9_off_19 rfl rfl ?_
  have f1 := H.1
  replace H := H.2
  refine s_getf (c := 9) (k := 1) (t := 2) (j := 1) dX9_off_20 fl_X9_13 (by decide) (by decide) rfl rfl f1 ?_
  refine s_iconst dX9_off_23 ?_
  have f2 := H.1
  replace H := H.2
  refine s_iald dX9_off_24 f2 ?_
  have f3 := H.1
  replace H := H.2
  have f4 := H.1
  replace H := H.2
  refine s_icmp_ge (tgt := 105) dX9_off_25 (by decide) f3 f4 (fun c5 => ?_) (fun c5 => ?_)
  · replace H := H.1 c5
    refine s_iinc dX9_off_105 rfl (by decide) rfl ?_
    show S l MX9_off (d + 1, 0, 0, 0, 0) 108 [some (vR a0), none, some (vI a2), some (vI (a3 + 1)), some (vI a4), none] [] G h Q
    refine s_goto (tgt := 4) dX9_off_108 (by decide) ?_
    exact S_cut (by first | exact ⟨rfl, ⟨rfl, ⟨rfl, trivial⟩⟩⟩ | simp [lsub]) H
  · replace H := H.2 c5
    refine s_iconst dX9_off_28 ?_
    refine s_istore dX9_off_29 (by decide) rfl ?_
    show S l MX9_off (d + 1, 0, 0, 0, 0) 31 [some (vR a0), none, some (vI a2), some (vI a3), some (vI a4), some (vI 0)] [] G h Q
    exact S_cut (by first | exact ⟨rfl, ⟨rfl, ⟨rfl, ⟨rfl, ⟨rfl, trivial⟩⟩⟩⟩⟩ | simp [lsub]) H
set_option maxHeartbeats 4000000 in
set_option maxRecDepth 100000 in
theorem vX9_off_31 {l : Launch} {d : Nat} {G : GS} {h : HP} {Q : Int → GS → HP → Prop} (a0 a2 a3 a4 a5 : Int) (H : (ty G a0 = 9) ∧ (inA G 10 (h a0 1) 2) ∧ (inR a5) ∧ (inR (h (h a0 1) 2)) ∧ (((h (h a0 1) 2) ≤ a5 → S l MX9_off (d + 1, 0, 0, 0, 0) 17 [some (vR a0), none, some (vI a2), some (vI a3), some (vI (a4 + 1)), none] [] G h Q) ∧ (a5 < (h (h a0 1) 2) → R l MX9_added d 0 0 [vR a0, vI a3, vI a4, vI a5] G h (fun r6 G7 h8 => (ty G7 a0 = 9) ∧ (inA G7 10 (h8 a0 2) (((81 * a3) + (9 * a4)) + a5)) ∧ (inR r6) ∧ (inR (h8 (h8 a0 2) (((81 * a3) + (9 * a4)) + a5))) ∧ ((r6 = (h8 (h8 a0 2) (((81 * a3) + (9 * a4)) + a5)) → S l MX9_off (d + 1, 0, 0, 0, 0) 31 [some (vR a0), none, some (vI a2), some (vI a3), some (vI a4), some (vI (a5 + 1))] [] G7 h8 Q) ∧ (r6 ≠ (h8 (h8 a0 2) (((81 * a3) + (9 * a4)) + a5)) → (inR a2) ∧ ((a2 ≠ 0 → S l MX9_off (d + 1, 0, 0, 0, 0) 31 [some (vR a0), none, some (vI (a2 + (-1))), some (vI a3), some (vI a4), some (vI (a5 + 1))] [] G7 h8 Q) ∧ (a2 = 0 → Q (((100 * a3) + (10 * a4)) + a5) G7 h8)))))))) : S l MX9_off (d + 1, 0, 0, 0, 0) 31 [some (vR a0), none, some (vI a2), some (vI a3), some (vI a4), some (vI a5)] [] G h Q := by
  refine s_iload dX9_off_31 rfl ?_
  refine s_aload_n dX9_off_33 rfl rfl ?_
  have f1 := H.1
  replace H := H.2
  refine s_getf (c := 9) (k := 1) (t := 2) (j := 1) dX9_off_34 fl_X9_13 (by decide) (by decide) rfl rfl f1 ?_
  refine s_iconst dX9_off_37 ?_
  have f2 := H.1
  replace H := H.2
  refine s_iald dX9_off_38 f2 ?_
  have f3 := H.1
  replace H := H.2
  have f4 := H.1
  replace H := H.2
  refine s_icmp_ge (tgt := 99) dX9_off_39 (by decide) f3 f4 (fun c5 => ?_) (fun c5 => ?_)
  · replace H := H.1 c5
    refine s_iinc dX9_off_99 rfl (by decide) rfl ?_
    show S l MX9_off (d + 1, 0, 0, 0, 0) 102 [some (vR a0), none, some (vI a2), some (vI a3), some (vI (a4 + 1)), some (vI a5)] [] G h Q
    refine s_goto (tgt := 17) dX9_off_102 (by decide) ?_
    exact S_cut (by first | exact ⟨rfl, ⟨rfl, ⟨rfl, ⟨rfl, trivial⟩⟩⟩⟩ | simp [lsub]) H
  · replace H := H.2 c5
    refine s_aload_n dX9_off_42 rfl rfl ?_
    refine s_iload_n dX9_off_43 rfl rfl ?_
    refine s_iload dX9_off_44 rfl ?_
    refine s_iload dX9_off_46 rfl ?_
    refine s_callV (M' := MX9_added) (As := [vI a3, vI a4, vI a5]) (a := a0) (st := []) dX9_off_48 ml_X9_140 cv_X9_added rfl rfl (Nat.le_of_ble_eq_true rfl) ⟨Nat.le_refl _, Nat.le_refl _⟩ f1 (R_mono (fun r6 G7 h8 H => ?_) H)
    show S l MX9_off (d + 1, 0, 0, 0, 0) 51 [some (vR a0), none, some (vI a2), some (vI a3), some (vI a4), some (vI a5)] [vI r6] G7 h8 Q
    refine s_aload_n dX9_off_51 rfl rfl ?_
    have f9 := H.1
    replace H := H.2
    refine s_getf (c := 9) (k := 2) (t := 2) (j := 2) dX9_off_52 fl_X9_17 (by decide) (by decide) rfl rfl f9 ?_
    refine s_bipush dX9_off_55 (by decide) ?_
    refine s_iload_n dX9_off_57 rfl rfl ?_
    refine s_imul dX9_off_58 ?_
    refine s_bipush dX9_off_59 (by decide) ?_
    refine s_iload dX9_off_61 rfl ?_
    refine s_imul dX9_off_63 ?_
    refine s_iadd dX9_off_64 ?_
    refine s_iload dX9_off_65 rfl ?_
    refine s_iadd dX9_off_67 ?_
    have f10 := H.1
    replace H := H.2
    refine s_iald dX9_off_68 f10 ?_
    have f11 := H.1
    replace H := H.2
    have f12 := H.1
    replace H := H.2
    refine s_icmp_eq (tgt := 93) dX9_off_69 (by decide) f11 f12 (fun c13 => ?_) (fun c13 => ?_)
    · replace H := H.1 c13
      refine s_iinc dX9_off_93 rfl (by decide) rfl ?_
      show S l MX9_off (d + 1, 0, 0, 0, 0) 96 [some (vR a0), none, some (vI a2), some (vI a3), some (vI a4), some (vI (a5 + 1))] [] G7 h8 Q
      refine s_goto (tgt := 31) dX9_off_96 (by decide) ?_
      exact S_cut (by first | exact ⟨rfl, ⟨rfl, ⟨rfl, ⟨rfl, ⟨rfl, trivial⟩⟩⟩⟩⟩ | simp [lsub]) H
    · replace H := H.2 c13
      refine s_iload_n dX9_off_72 rfl rfl ?_
      have f14 := H.1
      replace H := H.2
      refine s_if_ne (tgt := 90) dX9_off_73 (by decide) f14 (fun c15 => ?_) (fun c15 => ?_)
      · replace H := H.1 c15
        refine s_iinc dX9_off_90 rfl (by decide) rfl ?_
        show S l MX9_off (d + 1, 0, 0, 0, 0) 93 [some (vR a0), none, some (vI (a2 + (-1))), some (vI a3), some (vI a4), some (vI a5)] [] G7 h8 Q
        refine s_iinc dX9_off_93 rfl (by decide) rfl ?_
        show S l MX9_off (d + 1, 0, 0, 0, 0) 96 [some (vR a0), none, some (vI (a2 + (-1))), some (vI a3), some (vI a4), some (vI (a5 + 1))] [] G7 h8 Q
        refine s_goto (tgt := 31) dX9_off_96 (by decide) ?_
        exact S_cut (by first | exact ⟨rfl, ⟨rfl, ⟨rfl, ⟨rfl, ⟨rfl, trivial⟩⟩⟩⟩⟩ | simp [lsub]) H
      · replace H := H.2 c15
        refine s_bipush dX9_off_76 (by decide) ?_
        refine s_iload_n dX9_off_78 rfl rfl ?_
        refine s_imul dX9_off_79 ?_
        refine s_bipush dX9_off_80 (by decide) ?_
        refine s_iload dX9_off_82 rfl ?_
        refine s_imul dX9_off_84 ?_
        refine s_iadd dX9_off_85 ?_
        refine s_iload dX9_off_86 rfl ?_
        refine s_iadd dX9_off_88 ?_
        exact s_iret dX9_off_89 rfl ⟨Nat.le_refl _, Nat.le_refl _⟩ H
set_option maxHeartbeats 4000000 in
set_option maxRecDepth 100000 in
theorem vX9_added_0 {l : Launch} {d : Nat} {G : GS} {h : HP} {Q : Int → GS → HP → Prop} (a0 a1 a2 a3 : Int) (H : S l MX9_added (d, 0, 0, 0, 0) 6 [some (vR a0), some (vI a1), some (vI a2), some (vI a3), some (vI 0), some (vI 0)] [] G h Q) : S l MX9_added (d, 0, 0, 0, 0) 0 [some (vR a0), some (vI a1), some (vI a2), some (vI a3), none, none] [] G h Q := by
  refine s_iconst dX9_added_0 ?_
  refine s_istore dX9_added_1 (by decide) rfl ?_
  show S l MX9_added (d, 0, 0, 0, 0) 3 [some (vR a0), some (vI a1), some (vI a2), some (vI a3), some (vI 0), none] [] G h Q
  refine s_iconst dX9_added_3 ?_
  refine s_istore dX9_added_4 (by decide) rfl ?_
  show S l MX9_added (d, 0, 0, 0, 0) 6 [some (vR a0), some (vI a1), some (vI a2), some (vI a3), some (vI 0), some (vI 0)] [] G h Q
  exact S_cut (by first | exact ⟨rfl, ⟨rfl, ⟨rfl, ⟨rfl, ⟨rfl, ⟨rfl, trivial⟩⟩⟩⟩⟩⟩ | simp [lsub]) H
set_option maxHeartbeats 4000000 in
set_option maxRecDepth 100000 in
theorem vX9_added_6 {l : Launch} {d : Nat} {G : GS} {h : HP} {Q : Int → GS → HP → Prop} (a0 a1 a2 a3 a4 a5 : Int) (H : (ty G a0 = 9) ∧ (inR a5) ∧ (inR (h a0 4)) ∧ (((h a0 4) ≤ a5 → (dvR a4 (h a0 0)) ∧ Q (a4 % (h a0 0)) G h) ∧ (a5 < (h a0 4) → (inA G 10 (h a0 3) ((27 * a5) + a1)) ∧ (inA G 10 (h a0 3) (((27 * a5) + 9) + a2)) ∧ (inA G 10 (h a0 3) (((27 * a5) + 18) + a3)) ∧ S l MX9_added (d, 0, 0, 0, 0) 6 [some (vR a0), some (vI a1), some (vI a2), some (vI a3), some (vI (a4 + (((h (h a0 3) ((27 * a5) + a1)) * (h (h a0 3) (((27 * a5) + 9) + a2))) * (h (h a0 3) (((27 * a5) + 18) + a3))))), some (vI (a5 + 1))] [] G h Q))) : S l MX9_added (d, 0, 0, 0, 0) 6 [some (vR a0), some (vI a1), some (vI a2), some (vI a3), some (vI a4), some (vI a5)] [] G h Q := by
  refine s_iload dX9_added_6 rfl ?_
  refine s_aload_n dX9_added_8 rfl rfl ?_
  have f1 := H.1
  replace H := H.2
  refine s_getf (c := 9) (k := 4) (t := 0) (j := 4) dX9_added_9 fl_X9_85 (by decide) (by decide) rfl rfl f1 ?_
  have f2 := H.1
  replace H := H.2
  have f3 := H.1
  replace H := H.2
  refine s_icmp_ge (tgt := 70) dX9_added_12 (by decide) f2 f3 (fun c4 => ?_) (fun c4 => ?_)
  · replace H := H.1 c4
    refine s_iload dX9_added_70 rfl ?_
    refine s_aload_n dX9_added_72 rfl rfl ?_
    refine s_getf (c := 9) (k := 0) (t := 0) (j := 0) dX9_added_73 fl_X9_7 (by decide) (by decide) rfl rfl f1 ?_
    have f5 := H.1
    replace H := H.2
    refine s_irem dX9_added_76 f5 ?_
    exact s_iret dX9_added_77 rfl ⟨Nat.le_refl _, Nat.le_refl _⟩ H
  · replace H := H.2 c4
    refine s_iload dX9_added_15 rfl ?_
    refine s_aload_n dX9_added_17 rfl rfl ?_
    refine s_getf (c := 9) (k := 3) (t := 2) (j := 3) dX9_added_18 fl_X9_20 (by decide) (by decide) rfl rfl f1 ?_
    refine s_bipush dX9_added_21 (by decide) ?_
    refine s_iload dX9_added_23 rfl ?_
    refine s_imul dX9_added_25 ?_
    refine s_iload_n dX9_added_26 rfl rfl ?_
    refine s_iadd dX9_added_27 ?_
    have f6 := H.1
    replace H := H.2
    refine s_iald dX9_added_28 f6 ?_
    refine s_aload_n dX9_added_29 rfl rfl ?_
    refine s_getf (c := 9) (k := 3) (t := 2) (j := 3) dX9_added_30 fl_X9_20 (by decide) (by decide) rfl rfl f1 ?_
    refine s_bipush dX9_added_33 (by decide) ?_
    refine s_iload dX9_added_35 rfl ?_
    refine s_imul dX9_added_37 ?_
    refine s_bipush dX9_added_38 (by decide) ?_
    refine s_iadd dX9_added_40 ?_
    refine s_iload_n dX9_added_41 rfl rfl ?_
    refine s_iadd dX9_added_42 ?_
    have f7 := H.1
    replace H := H.2
    refine s_iald dX9_added_43 f7 ?_
    refine s_imul dX9_added_44 ?_
    refine s_aload_n dX9_added_45 rfl rfl ?_
    refine s_getf (c := 9) (k := 3) (t := 2) (j := 3) dX9_added_46 fl_X9_20 (by decide) (by decide) rfl rfl f1 ?_
    refine s_bipush dX9_added_49 (by decide) ?_
    refine s_iload dX9_added_51 rfl ?_
    refine s_imul dX9_added_53 ?_
    refine s_bipush dX9_added_54 (by decide) ?_
    refine s_iadd dX9_added_56 ?_
    refine s_iload_n dX9_added_57 rfl rfl ?_
    refine s_iadd dX9_added_58 ?_
    have f8 := H.1
    replace H := H.2
    refine s_iald dX9_added_59 f8 ?_
    refine s_imul dX9_added_60 ?_
    refine s_iadd dX9_added_61 ?_
    refine s_istore dX9_added_62 (by decide) rfl ?_
    show S l MX9_added (d, 0, 0, 0, 0) 64 [some (vR a0), some (vI a1), some (vI a2), some (vI a3), some (vI (a4 + (((h (h a0 3) ((27 * a5) + a1)) * (h (h a0 3) (((27 * a5) + 9) + a2))) * (h (h a0 3) (((27 * a5) + 18) + a3))))), some (vI a5)] [] G h Q
    refine s_iinc dX9_added_64 rfl (by decide) rfl ?_
    show S l MX9_added (d, 0, 0, 0, 0) 67 [some (vR a0), some (vI a1), some (vI a2), some (vI a3), some (vI (a4 + (((h (h a0 3) ((27 * a5) + a1)) * (h (h a0 3) (((27 * a5) + 9) + a2))) * (h (h a0 3) (((27 * a5) + 18) + a3))))), some (vI (a5 + 1))] [] G h Q
    refine s_goto (tgt := 6) dX9_added_67 (by decide) ?_
    exact S_cut (by first | exact ⟨rfl, ⟨rfl, ⟨rfl, ⟨rfl, ⟨rfl, ⟨rfl, trivial⟩⟩⟩⟩⟩⟩ | simp [lsub]) H
set_option maxHeartbeats 4000000 in
set_option maxRecDepth 100000 in
theorem vX9_makes_0 {l : Launch} {d : Nat} {G : GS} {h : HP} {Q : Int → GS → HP → Prop} (a0 : Int) (H : (ty G a0 = 9) ∧ R l MX9_off d 0 0 [vR a0, vI 0] G h (fun r1 G2 h3 => (inR r1) ∧ ((0 ≤ r1 → Q 0 G2 h3) ∧ (r1 < 0 → Q 1 G2 h3)))) : S l MX9_makes (d + 1, 0, 0, 0, 0) 0 [some (vR a0)] [] G h Q := by
  refine s_aload_n dX9_makes_0 rfl rfl ?_
  refine s_iconst dX9_makes_1 ?_
  have f4 := H.1
  replace H := H.2
  refine s_callV (M' := MX9_off) (As := [vI 0]) (a := a0) (st := []) dX9_makes_2 ml_X9_144 cv_X9_off rfl rfl (Nat.le_of_ble_eq_true rfl) ⟨Nat.le_refl _, Nat.le_refl _⟩ f4 (R_mono (fun r1 G2 h3 H => ?_) H)
  show S l MX9_makes (d + 1, 0, 0, 0, 0) 5 [some (vR a0)] [vI r1] G2 h3 Q
  have f5 := H.1
  replace H := H.2
  refine s_if_ge (tgt := 12) dX9_makes_5 (by decide) f5 (fun c6 => ?_) (fun c6 => ?_)
  · replace H := H.1 c6
    refine s_iconst dX9_makes_12 ?_
    exact s_zret dX9_makes_13 rfl ⟨Nat.le_refl _, Nat.le_refl _⟩ (by decide) H
  · replace H := H.2 c6
    refine s_iconst dX9_makes_8 ?_
    refine s_goto (tgt := 13) dX9_makes_9 (by decide) ?_
    exact s_zret dX9_makes_13 rfl ⟨Nat.le_refl _, Nat.le_refl _⟩ (by decide) H
set_option maxHeartbeats 4000000 in
set_option maxRecDepth 100000 in
theorem vX9_less_0 {l : Launch} {d : Nat} {G : GS} {h : HP} {Q : Int → GS → HP → Prop} (a0 : Int) (H : (ty G a0 = 9) ∧ S l MX9_less (d + 1, 0, 0, 0, 0) 7 [some (vR a0), some (vI (h a0 4)), some (vI 1)] [] G h Q) : S l MX9_less (d + 1, 0, 0, 0, 0) 0 [some (vR a0), none, none] [] G h Q := by
  refine s_aload_n dX9_less_0 rfl rfl ?_
  have f1 := H.1
  replace H := H.2
  refine s_getf (c := 9) (k := 4) (t := 0) (j := 4) dX9_less_1 fl_X9_85 (by decide) (by decide) rfl rfl f1 ?_
  refine s_istore_n dX9_less_4 rfl (by decide) rfl ?_
  show S l MX9_less (d + 1, 0, 0, 0, 0) 5 [some (vR a0), some (vI (h a0 4)), none] [] G h Q
  refine s_iconst dX9_less_5 ?_
  refine s_istore_n dX9_less_6 rfl (by decide) rfl ?_
  show S l MX9_less (d + 1, 0, 0, 0, 0) 7 [some (vR a0), some (vI (h a0 4)), some (vI 1)] [] G h Q
  exact S_cut (by first | exact ⟨rfl, ⟨rfl, ⟨rfl, trivial⟩⟩⟩ | simp [lsub]) H
set_option maxHeartbeats 4000000 in
set_option maxRecDepth 100000 in
theorem vX9_less_7 {l : Launch} {d : Nat} {G : GS} {h : HP} {Q : Int → GS → HP → Prop} (a0 a1 a2 : Int) (H : (inR a2) ∧ ((a2 = 0 → (ty G a0 = 9) ∧ Q (a1 - (h a0 4)) G h) ∧ (a2 ≠ 0 → (ty G a0 = 9) ∧ R l MX9_lessenOnce d 0 0 [vR a0] G h (fun r4 G5 h6 => S l MX9_less (d + 1, 0, 0, 0, 0) 7 [some (vR a0), some (vI a1), some (vI r4)] [] G5 h6 Q)))) : S l MX9_less (d + 1, 0, 0, 0, 0) 7 [some (vR a0), some (vI a1), some (vI a2)] [] G h Q := by
  refine s_iload_n dX9_less_7 rfl rfl ?_
  have f1 := H.1
  replace H := H.2
  refine s_if_eq (tgt := 19) dX9_less_8 (by decide) f1 (fun c2 => ?_) (fun c2 => ?_)
  · replace H := H.1 c2
    refine s_iload_n dX9_less_19 rfl rfl ?_
    refine s_aload_n dX9_less_20 rfl rfl ?_
    have f3 := H.1
    replace H := H.2
    refine s_getf (c := 9) (k := 4) (t := 0) (j := 4) dX9_less_21 fl_X9_85 (by decide) (by decide) rfl rfl f3 ?_
    refine s_isub dX9_less_24 ?_
    exact s_iret dX9_less_25 rfl ⟨Nat.le_refl _, Nat.le_refl _⟩ H
  · replace H := H.2 c2
    refine s_aload_n dX9_less_11 rfl rfl ?_
    have f7 := H.1
    replace H := H.2
    refine s_callV (M' := MX9_lessenOnce) (As := []) (a := a0) (st := []) dX9_less_12 ml_X9_167 cv_X9_lessenOnce rfl rfl (Nat.le_of_ble_eq_true rfl) ⟨Nat.le_refl _, Nat.le_refl _⟩ f7 (R_mono (fun r4 G5 h6 H => ?_) H)
    show S l MX9_less (d + 1, 0, 0, 0, 0) 15 [some (vR a0), some (vI a1), some (vI a2)] [vI r4] G5 h6 Q
    refine s_istore_n dX9_less_15 rfl (by decide) rfl ?_
    show S l MX9_less (d + 1, 0, 0, 0, 0) 16 [some (vR a0), some (vI a1), some (vI r4)] [] G5 h6 Q
    refine s_goto (tgt := 7) dX9_less_16 (by decide) ?_
    exact S_cut (by first | exact ⟨rfl, ⟨rfl, ⟨rfl, trivial⟩⟩⟩ | simp [lsub]) H
set_option maxHeartbeats 4000000 in
set_option maxRecDepth 100000 in
theorem vX9_lessenOnce_0 {l : Launch} {d : Nat} {G : GS} {h : HP} {Q : Int → GS → HP → Prop} (a0 : Int) (H : (ty G a0 = 9) ∧ R l MX9_dropNought d 0 0 [vR a0] G h (fun r1 G2 h3 => (inR r1) ∧ ((r1 = 0 → S l MX9_lessenOnce (d + 1, 0, 0, 0, 0) 11 [some (vR a0), some (vI 0), none] [] G2 h3 Q) ∧ (r1 ≠ 0 → Q 1 G2 h3)))) : S l MX9_lessenOnce (d + 1, 0, 0, 0, 0) 0 [some (vR a0), none, none] [] G h Q := by
  refine s_aload_n dX9_lessenOnce_0 rfl rfl ?_
  have f4 := H.1
  replace H := H.2
  refine s_callV (M' := MX9_dropNought) (As := []) (a := a0) (st := []) dX9_lessenOnce_1 ml_X9_160 cv_X9_dropNought rfl rfl (Nat.le_of_ble_eq_true rfl) ⟨Nat.le_refl _, Nat.le_refl _⟩ f4 (R_mono (fun r1 G2 h3 H => ?_) H)
  show S l MX9_lessenOnce (d + 1, 0, 0, 0, 0) 4 [some (vR a0), none, none] [vI r1] G2 h3 Q
  have f5 := H.1
  replace H := H.2
  refine s_if_eq (tgt := 9) dX9_lessenOnce_4 (by decide) f5 (fun c6 => ?_) (fun c6 => ?_)
  · replace H := H.1 c6
    refine s_iconst dX9_lessenOnce_9 ?_
    refine s_istore_n dX9_lessenOnce_10 rfl (by decide) rfl ?_
    show S l MX9_lessenOnce (d + 1, 0, 0, 0, 0) 11 [some (vR a0), some (vI 0), none] [] G2 h3 Q
    exact S_cut (by first | exact ⟨rfl, ⟨rfl, trivial⟩⟩ | simp [lsub]) H
  · replace H := H.2 c6
    refine s_iconst dX9_lessenOnce_7 ?_
    exact s_zret dX9_lessenOnce_8 rfl ⟨Nat.le_refl _, Nat.le_refl _⟩ (by decide) H
set_option maxHeartbeats 4000000 in
set_option maxRecDepth 100000 in
theorem vX9_lessenOnce_11 {l : Launch} {d : Nat} {G : GS} {h : HP} {Q : Int → GS → HP → Prop} (a0 a1 : Int) (H : (ty G a0 = 9) ∧ (inR a1) ∧ (inR (h a0 4)) ∧ (((h a0 4) ≤ a1 → Q 0 G h) ∧ (a1 < (h a0 4) → S l MX9_lessenOnce (d + 1, 0, 0, 0, 0) 23 [some (vR a0), some (vI a1), some (vI (a1 + 1))] [] G h Q))) : S l MX9_lessenOnce (d + 1, 0, 0, 0, 0) 11 [some (vR a0), some (vI a1), none] [] G h Q := by
  refine s_iload_n dX9_lessenOnce_11 rfl rfl ?_
  refine s_aload_n dX9_lessenOnce_12 rfl rfl ?_
  have f1 := H.1
  replace H := H.2
  refine s_getf (c := 9) (k := 4) (t := 0) (j := 4) dX9_lessenOnce_13 fl_X9_85 (by decide) (by decide) rfl rfl f1 ?_
  have f2 := H.1
  replace H := H.2
  have f3 := H.1
  replace H := H.2
  refine s_icmp_ge (tgt := 54) dX9_lessenOnce_16 (by decide) f2 f3 (fun c4 => ?_) (fun c4 => ?_)
  · replace H := H.1 c4
    refine s_iconst dX9_lessenOnce_54 ?_
    exact s_zret dX9_lessenOnce_55 rfl ⟨Nat.le_refl _, Nat.le_refl _⟩ (by decide) H
  · replace H := H.2 c4
    refine s_iload_n dX9_lessenOnce_19 rfl rfl ?_
    refine s_iconst dX9_lessenOnce_20 ?_
    refine s_iadd dX9_lessenOnce_21 ?_
    refine s_istore_n dX9_lessenOnce_22 rfl (by decide) rfl ?_
    show S l MX9_lessenOnce (d + 1, 0, 0, 0, 0) 23 [some (vR a0), some (vI a1), some (vI (a1 + 1))] [] G h Q
    exact S_cut (by first | exact ⟨rfl, ⟨rfl, ⟨rfl, trivial⟩⟩⟩ | simp [lsub]) H
set_option maxHeartbeats 4000000 in
set_option maxRecDepth 100000 in
theorem vX9_lessenOnce_23 {l : Launch} {d : Nat} {G : GS} {h : HP} {Q : Int → GS → HP → Prop} (a0 a1 a2 : Int) (H : (ty G a0 = 9) ∧ (inR a2) ∧ (inR (h a0 4)) ∧ (((h a0 4) ≤ a2 → S l MX9_lessenOnce (d + 1, 0, 0, 0, 0) 11 [some (vR a0), some (vI (a1 + 1)), none] [] G h Q) ∧ (a2 < (h a0 4) → R l MX9_bringTogether d 0 0 [vR a0, vI a1, vI a2] G h (fun r5 G6 h7 => (inR r5) ∧ ((r5 = 0 → S l MX9_lessenOnce (d + 1, 0, 0, 0, 0) 23 [some (vR a0), some (vI a1), some (vI (a2 + 1))] [] G6 h7 Q) ∧ (r5 ≠ 0 → Q 1 G6 h7)))))) : S l MX9_lessenOnce (d + 1, 0, 0, 0, 0) 23 [some (vR a0), some (vI a1), some (vI a2)] [] G h Q := by
  refine s_iload_n dX9_lessenOnce_23 rfl rfl ?_
  refine s_aload_n dX9_lessenOnce_24 rfl rfl ?_
  have f1 := H.1
  replace H := H.2
  refine s_getf (c := 9) (k := 4) (t := 0) (j := 4) dX9_lessenOnce_25 fl_X9_85 (by decide) (by decide) rfl rfl f1 ?_
  have f2 := H.1
  replace H := H.2
  have f3 := H.1
  replace H := H.2
  refine s_icmp_ge (tgt := 48) dX9_lessenOnce_28 (by decide) f2 f3 (fun c4 => ?_) (fun c4 => ?_)
  · replace H := H.1 c4
    refine s_iinc dX9_lessenOnce_48 rfl (by decide) rfl ?_
    show S l MX9_lessenOnce (d + 1, 0, 0, 0, 0) 51 [some (vR a0), some (vI (a1 + 1)), some (vI a2)] [] G h Q
    refine s_goto (tgt := 11) dX9_lessenOnce_51 (by decide) ?_
    exact S_cut (by first | exact ⟨rfl, ⟨rfl, trivial⟩⟩ | simp [lsub]) H
  · replace H := H.2 c4
    refine s_aload_n dX9_lessenOnce_31 rfl rfl ?_
    refine s_iload_n dX9_lessenOnce_32 rfl rfl ?_
    refine s_iload_n dX9_lessenOnce_33 rfl rfl ?_
    refine s_callV (M' := MX9_bringTogether) (As := [vI a1, vI a2]) (a := a0) (st := []) dX9_lessenOnce_34 ml_X9_164 cv_X9_bringTogether rfl rfl (Nat.le_of_ble_eq_true rfl) ⟨Nat.le_refl _, Nat.le_refl _⟩ f1 (R_mono (fun r5 G6 h7 H => ?_) H)
    show S l MX9_lessenOnce (d + 1, 0, 0, 0, 0) 37 [some (vR a0), some (vI a1), some (vI a2)] [vI r5] G6 h7 Q
    have f8 := H.1
    replace H := H.2
    refine s_if_eq (tgt := 42) dX9_lessenOnce_37 (by decide) f8 (fun c9 => ?_) (fun c9 => ?_)
    · replace H := H.1 c9
      refine s_iinc dX9_lessenOnce_42 rfl (by decide) rfl ?_
      show S l MX9_lessenOnce (d + 1, 0, 0, 0, 0) 45 [some (vR a0), some (vI a1), some (vI (a2 + 1))] [] G6 h7 Q
      refine s_goto (tgt := 23) dX9_lessenOnce_45 (by decide) ?_
      exact S_cut (by first | exact ⟨rfl, ⟨rfl, ⟨rfl, trivial⟩⟩⟩ | simp [lsub]) H
    · replace H := H.2 c9
      refine s_iconst dX9_lessenOnce_40 ?_
      exact s_zret dX9_lessenOnce_41 rfl ⟨Nat.le_refl _, Nat.le_refl _⟩ (by decide) H
