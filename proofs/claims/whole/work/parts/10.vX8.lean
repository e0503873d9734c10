set_option maxHeartbeats 4000000 in
set_option maxRecDepth 100000 in
theorem vX8_ground_0 {l : Launch} {d : Nat} {G : GS} {h : HP} {Q : Int → GS → HP → Prop} (a0 a1 : Int) (H : R l MX1_canBe d 0 0 [vI a1] G h (fun r1 G2 h3 => (inR r1) ∧ ((r1 ≠ 0 → (ty G2 a0 = 8) ∧ (ty G2 (h3 a0 0) = 1) ∧ R l MX1_become d 0 0 [vR (h3 a0 0), vI a1] G2 h3 (fun r7 G8 h9 => S l MX8_ground (d + 1, 0, 0, 0, 0) 19 [some (vR a0), none, some (vI 0)] [] G8 h9 Q)) ∧ (r1 = 0 → Q ((-1)) G2 h3)))) : S l MX8_ground (d + 1, 0, 0, 0, 0) 0 [some (vR a0), some (vI a1), none] [] G h Q := by
  refine s_iload_n dX8_ground_0 rfl rfl ?_
  refine s_callS (M' := MX1_canBe) (As := [vI a1]) (st := []) dX8_ground_1 ml_X8_82 cs_X1_canBe rfl rfl (Nat.le_of_ble_eq_true rfl) ⟨Nat.le_refl _, Nat.le_refl _⟩ (R_mono (fun r1 G2 h3 H => ?_) H)
  show S l MX8_ground (d + 1, 0, 0, 0, 0) 4 [some (vR a0), some (vI a1), none] [vI r1] G2 h3 Q
  have f4 := H.1
  replace H := H.2
  refine s_if_ne (tgt := 9) dX8_ground_4 (by decide) f4 (fun c5 => ?_) (fun c5 => ?_)
  · replace H := H.1 c5
    refine s_aload_n dX8_ground_9 rfl rfl ?_
    have f6 := H.1
    replace H := H.2
    refine s_getf (c := 8) (k := 0) (t := 2) (j := 0) dX8_ground_10 fl_X8_12 (by decide) (by decide) rfl rfl f6 ?_
    refine s_iload_n dX8_ground_13 rfl rfl ?_
    have f10 := H.1
    replace H := H.2
    refine s_callV (M' := MX1_become) (As := [vI a1]) (a := h3 a0 0) (st := []) dX8_ground_14 ml_X8_86 cv_X1_become rfl rfl (Nat.le_of_ble_eq_true rfl) ⟨Nat.le_refl _, Nat.le_refl _⟩ f10 (R_mono (fun r7 G8 h9 H => ?_) H)
    show S l MX8_ground (d + 1, 0, 0, 0, 0) 17 [some (vR a0), some (vI a1), none] [] G8 h9 Q
    refine s_iconst dX8_ground_17 ?_
    refine s_istore_n dX8_ground_18 rfl (by decide) rfl ?_
    show S l MX8_ground (d + 1, 0, 0, 0, 0) 19 [some (vR a0), some (vI a1), some (vI 0)] [] G8 h9 Q
    exact S_cut (by first | exact ⟨rfl, ⟨rfl, trivial⟩⟩ | simp [lsub]) H
  · replace H := H.2 c5
    refine s_iconst dX8_ground_7 ?_
    exact s_iret dX8_ground_8 rfl ⟨Nat.le_refl _, Nat.le_refl _⟩ H
set_option maxHeartbeats 4000000 in
set_option maxRecDepth 100000 in
theorem vX8_ground_19 {l : Launch} {d : Nat} {G : GS} {h : HP} {Q : Int → GS → HP → Prop} (a0 a2 : Int) (H : (inR a2) ∧ ((4 ≤ a2 → (ty G a0 = 8) ∧ R l MX8_startBox d 0 0 [vR a0, vI 1, vI 1, vI 1] G h (fun r3 G4 h5 => Q 1 G4 h5)) ∧ (a2 < 4 → (ty G a0 = 8) ∧ (inA G 11 (h a0 2) a2) ∧ ∀ h9 : HP, h9 = hset h (h a0 2) a2 0 → S l MX8_ground (d + 1, 0, 0, 0, 0) 19 [some (vR a0), none, some (vI (a2 + 1))] [] G h9 Q))) : S l MX8_ground (d + 1, 0, 0, 0, 0) 19 [some (vR a0), none, some (vI a2)] [] G h Q := by
  refine s_iload_n dX8_ground_19 rfl rfl ?_
  refine s_iconst dX8_ground_20 ?_
  have f1 := H.1
  replace H := H.2
  refine s_icmp_ge (tgt := 37) dX8_ground_21 (by decide) f1 (by decide) (fun c2 => ?_) (fun c2 => ?_)
  · replace H := H.1 c2
    refine s_aload_n dX8_ground_37 rfl rfl ?_
    refine s_iconst dX8_ground_38 ?_
    refine s_iconst dX8_ground_39 ?_
    refine s_iconst dX8_ground_40 ?_
    have f6 := H.1
    replace H := H.2
    refine s_callV (M' := MX8_startBox) (As := [vI 1, vI 1, vI 1]) (a := a0) (st := []) dX8_ground_41 ml_X8_90 cv_X8_startBox rfl rfl (Nat.le_of_ble_eq_true rfl) ⟨Nat.le_refl _, Nat.le_refl _⟩ f6 (R_mono (fun r3 G4 h5 H => ?_) H)
    show S l MX8_ground (d + 1, 0, 0, 0, 0) 44 [some (vR a0), none, some (vI a2)] [] G4 h5 Q
    refine s_iconst dX8_ground_44 ?_
    exact s_iret dX8_ground_45 rfl ⟨Nat.le_refl _, Nat.le_refl _⟩ H
  · replace H := H.2 c2
    refine s_aload_n dX8_ground_24 rfl rfl ?_
    have f7 := H.1
    replace H := H.2
    refine s_getf (c := 8) (k := 2) (t := 2) (j := 2) dX8_ground_25 fl_X8_32 (by decide) (by decide) rfl rfl f7 ?_
    refine s_iload_n dX8_ground_28 rfl rfl ?_
    refine s_iconst dX8_ground_29 ?_
    have f8 := H.1
    replace H := H.2
    refine s_zastH dX8_ground_30 (by decide) f8 (fun h9 eh9 => ?_)
    replace H := H h9 eh9
    refine s_iinc dX8_ground_31 rfl (by decide) rfl ?_
    show S l MX8_ground (d + 1, 0, 0, 0, 0) 34 [some (vR a0), none, some (vI (a2 + 1))] [] G h9 Q
    refine s_goto (tgt := 19) dX8_ground_34 (by decide) ?_
    exact S_cut (by first | exact ⟨rfl, ⟨rfl, trivial⟩⟩ | simp [lsub]) H
set_option maxHeartbeats 4000000 in
set_option maxRecDepth 100000 in
theorem vX8_startBox_0 {l : Launch} {d : Nat} {G : GS} {h : HP} {Q : Int → GS → HP → Prop} (a0 a1 a2 a3 : Int) (H : (ty G a0 = 8) ∧ (ty G (h a0 10) = 4) ∧ R l MX4_start d 0 0 [vR (h a0 10), vI a1, vI a2, vI a3] G h (fun r2 G3 h4 => (ty G3 a0 = 8) ∧ R l MX8_emptyHands d 0 0 [vR a0] G3 h4 (fun r6 G7 h8 => Q 0 G7 h8))) : S l MX8_startBox (d + 1, 0, 0, 0, 0) 0 [some (vR a0), some (vI a1), some (vI a2), some (vI a3)] [] G h Q := by
  refine s_aload_n dX8_startBox_0 rfl rfl ?_
  have f1 := H.1
  replace H := H.2
  refine s_getf (c := 8) (k := 10) (t := 2) (j := 10) dX8_startBox_1 fl_X8_21 (by decide) (by decide) rfl rfl f1 ?_
  refine s_iload_n dX8_startBox_4 rfl rfl ?_
  refine s_iload_n dX8_startBox_5 rfl rfl ?_
  refine s_iload_n dX8_startBox_6 rfl rfl ?_
  have f5 := H.1
  replace H := H.2
  refine s_callV (M' := MX4_start) (As := [vI a1, vI a2, vI a3]) (a := h a0 10) (st := []) dX8_startBox_7 ml_X8_239 cv_X4_start rfl rfl (Nat.le_of_ble_eq_true rfl) ⟨Nat.le_refl _, Nat.le_refl _⟩ f5 (R_mono (fun r2 G3 h4 H => ?_) H)
  show S l MX8_startBox (d + 1, 0, 0, 0, 0) 10 [some (vR a0), some (vI a1), some (vI a2), some (vI a3)] [] G3 h4 Q
  refine s_aload_n dX8_startBox_10 rfl rfl ?_
  have f9 := H.1
  replace H := H.2
  refine s_callV (M' := MX8_emptyHands) (As := []) (a := a0) (st := []) dX8_startBox_11 ml_X8_229 cv_X8_emptyHands rfl rfl (Nat.le_of_ble_eq_true rfl) ⟨Nat.le_refl _, Nat.le_refl _⟩ f9 (R_mono (fun r6 G7 h8 H => ?_) H)
  show S l MX8_startBox (d + 1, 0, 0, 0, 0) 14 [some (vR a0), some (vI a1), some (vI a2), some (vI a3)] [] G7 h8 Q
  exact s_vret dX8_startBox_14 rfl ⟨Nat.le_refl _, Nat.le_refl _⟩ H
set_option maxHeartbeats 4000000 in
set_option maxRecDepth 100000 in
theorem vX8_emptyHands_0 {l : Launch} {d : Nat} {G : GS} {h : HP} {Q : Int → GS → HP → Prop} (a0 : Int) (H : (ty G a0 = 8) ∧ (inA G 10 (h a0 3) 0) ∧ ∀ h3 : HP, h3 = hset h (h a0 3) 0 0 → (inA G 10 (h3 a0 3) 1) ∧ ∀ h5 : HP, h5 = hset h3 (h3 a0 3) 1 0 → Q 0 G h5) : S l MX8_emptyHands (d, 0, 0, 0, 0) 0 [some (vR a0)] [] G h Q := by
  refine s_aload_n dX8_emptyHands_0 rfl rfl ?_
  have f1 := H.1
  replace H := H.2
  refine s_getf (c := 8) (k := 3) (t := 2) (j := 3) dX8_emptyHands_1 fl_X8_36 (by decide) (by decide) rfl rfl f1 ?_
  refine s_iconst dX8_emptyHands_4 ?_
  refine s_iconst dX8_emptyHands_5 ?_
  have f2 := H.1
  replace H := H.2
  refine s_iastH dX8_emptyHands_6 f2 (fun h3 eh3 => ?_)
  replace H := H h3 eh3
  refine s_aload_n dX8_emptyHands_7 rfl rfl ?_
  refine s_getf (c := 8) (k := 3) (t := 2) (j := 3) dX8_emptyHands_8 fl_X8_36 (by decide) (by decide) rfl rfl f1 ?_
  refine s_iconst dX8_emptyHands_11 ?_
  refine s_iconst dX8_emptyHands_12 ?_
  have f4 := H.1
  replace H := H.2
  refine s_iastH dX8_emptyHands_13 f4 (fun h5 eh5 => ?_)
  replace H := H h5 eh5
  exact s_vret dX8_emptyHands_14 rfl ⟨Nat.le_refl _, Nat.le_refl _⟩ H
set_option maxHeartbeats 4000000 in
set_option maxRecDepth 100000 in
theorem vX8_box_0 {l : Launch} {d : Nat} {G : GS} {h : HP} {Q : Int → GS → HP → Prop} (a0 a1 a2 a3 : Int) (H : R l MX8_isSize d 0 0 [vI a1] G h (fun r1 G2 h3 => (inR r1) ∧ ((r1 = 0 → Q ((-1)) G2 h3) ∧ (r1 ≠ 0 → R l MX8_isSize d 0 0 [vI a2] G2 h3 (fun r6 G7 h8 => (inR r6) ∧ ((r6 = 0 → Q ((-1)) G7 h8) ∧ (r6 ≠ 0 → R l MX8_isSize d 0 0 [vI a3] G7 h8 (fun r11 G12 h13 => (inR r11) ∧ ((r11 ≠ 0 → (ty G12 a0 = 8) ∧ R l MX8_startBox d 0 0 [vR a0, vI a1, vI a2, vI a3] G12 h13 (fun r16 G17 h18 => Q 1 G17 h18)) ∧ (r11 = 0 → Q ((-1)) G12 h13)))))))))) : S l MX8_box (d + 1, 0, 0, 0, 0) 0 [some (vR a0), some (vI a1), some (vI a2), some (vI a3)] [] G h Q := by
  refine s_iload_n dX8_box_0 rfl rfl ?_
  refine s_callS (M' := MX8_isSize) (As := [vI a1]) (st := []) dX8_box_1 ml_X8_94 cs_X8_isSize rfl rfl (Nat.le_of_ble_eq_true rfl) ⟨Nat.le_refl _, Nat.le_refl _⟩ (R_mono (fun r1 G2 h3 H => ?_) H)
  show S l MX8_box (d + 1, 0, 0, 0, 0) 4 [some (vR a0), some (vI a1), some (vI a2), some (vI a3)] [vI r1] G2 h3 Q
  have f4 := H.1
  replace H := H.2
  refine s_if_eq (tgt := 21) dX8_box_4 (by decide) f4 (fun c5 => ?_) (fun c5 => ?_)
  · replace H := H.1 c5
    refine s_iconst dX8_box_21 ?_
    exact s_iret dX8_box_22 rfl ⟨Nat.le_refl _, Nat.le_refl _⟩ H
  · replace H := H.2 c5
    refine s_iload_n dX8_box_7 rfl rfl ?_
    refine s_callS (M' := MX8_isSize) (As := [vI a2]) (st := []) dX8_box_8 ml_X8_94 cs_X8_isSize rfl rfl (Nat.le_of_ble_eq_true rfl) ⟨Nat.le_refl _, Nat.le_refl _⟩ (R_mono (fun r6 G7 h8 H => ?_) H)
    show S l MX8_box (d + 1, 0, 0, 0, 0) 11 [some (vR a0), some (vI a1), some (vI a2), some (vI a3)] [vI r6] G7 h8 Q
    have f9 := H.1
    replace H := H.2
    refine s_if_eq (tgt := 21) dX8_box_11 (by decide) f9 (fun c10 => ?_) (fun c10 => ?_)
    · replace H := H.1 c10
      refine s_iconst dX8_box_21 ?_
      exact s_iret dX8_box_22 rfl ⟨Nat.le_refl _, Nat.le_refl _⟩ H
    · replace H := H.2 c10
      refine s_iload_n dX8_box_14 rfl rfl ?_
      refine s_callS (M' := MX8_isSize) (As := [vI a3]) (st := []) dX8_box_15 ml_X8_94 cs_X8_isSize rfl rfl (Nat.le_of_ble_eq_true rfl) ⟨Nat.le_refl _, Nat.le_refl _⟩ (R_mono (fun r11 G12 h13 H => ?_) H)
      show S l MX8_box (d + 1, 0, 0, 0, 0) 18 [some (vR a0), some (vI a1), some (vI a2), some (vI a3)] [vI r11] G12 h13 Q
      have f14 := H.1
      replace H := H.2
      refine s_if_ne (tgt := 23) dX8_box_18 (by decide) f14 (fun c15 => ?_) (fun c15 => ?_)
      · replace H := H.1 c15
        refine s_aload_n dX8_box_23 rfl rfl ?_
        refine s_iload_n dX8_box_24 rfl rfl ?_
        refine s_iload_n dX8_box_25 rfl rfl ?_
        refine s_iload_n dX8_box_26 rfl rfl ?_
        have f19 := H.1
        replace H := H.2
        refine s_callV (M' := MX8_startBox) (As := [vI a1, vI a2, vI a3]) (a := a0) (st := []) dX8_box_27 ml_X8_90 cv_X8_startBox rfl rfl (Nat.le_of_ble_eq_true rfl) ⟨Nat.le_refl _, Nat.le_refl _⟩ f19 (R_mono (fun r16 G17 h18 H => ?_) H)
        show S l MX8_box (d + 1, 0, 0, 0, 0) 30 [some (vR a0), some (vI a1), some (vI a2), some (vI a3)] [] G17 h18 Q
        refine s_iconst dX8_box_30 ?_
        exact s_iret dX8_box_31 rfl ⟨Nat.le_refl _, Nat.le_refl _⟩ H
      · replace H := H.2 c15
        refine s_iconst dX8_box_21 ?_
        exact s_iret dX8_box_22 rfl ⟨Nat.le_refl _, Nat.le_refl _⟩ H
set_option maxHeartbeats 4000000 in
set_option maxRecDepth 100000 in
theorem vX8_isSize_0 {l : Launch} {d : Nat} {G : GS} {h : HP} {Q : Int → GS → HP → Prop} (a0 : Int) (H : (inR a0) ∧ ((a0 < 1 → Q 0 G h) ∧ (1 ≤ a0 → ((9 < a0 → Q 0 G h) ∧ (a0 ≤ 9 → Q 1 G h))))) : S l MX8_isSize (d, 0, 0, 0, 0) 0 [some (vI a0)] [] G h Q := by
  refine s_iload_n dX8_isSize_0 rfl rfl ?_
  refine s_iconst dX8_isSize_1 ?_
  have f1 := H.1
  replace H := H.2
  refine s_icmp_lt (tgt := 15) dX8_isSize_2 (by decide) f1 (by decide) (fun c2 => ?_) (fun c2 => ?_)
  · replace H := H.1 c2
    refine s_iconst dX8_isSize_15 ?_
    exact s_zret dX8_isSize_16 rfl ⟨Nat.le_refl _, Nat.le_refl _⟩ (by decide) H
  · replace H := H.2 c2
    refine s_iload_n dX8_isSize_5 rfl rfl ?_
    refine s_bipush dX8_isSize_6 (by decide) ?_
    refine s_icmp_gt (tgt := 15) dX8_isSize_8 (by decide) f1 (by decide) (fun c3 => ?_) (fun c3 => ?_)
    · replace H := H.1 c3
      refine s_iconst dX8_isSize_15 ?_
      exact s_zret dX8_isSize_16 rfl ⟨Nat.le_refl _, Nat.le_refl _⟩ (by decide) H
    · replace H := H.2 c3
      refine s_iconst dX8_isSize_11 ?_
      refine s_goto (tgt := 16) dX8_isSize_12 (by decide) ?_
      exact s_zret dX8_isSize_16 rfl ⟨Nat.le_refl _, Nat.le_refl _⟩ (by decide) H
set_option maxHeartbeats 4000000 in
set_option maxRecDepth 100000 in
theorem vX8_tables_0 {l : Launch} {d : Nat} {G : GS} {h : HP} {Q : Int → GS → HP → Prop} (a0 a1 a2 a3 : Int) (H : R l MX8_isSize d 0 0 [vI a1] G h (fun r1 G2 h3 => (inR r1) ∧ ((r1 = 0 → Q ((-1)) G2 h3) ∧ (r1 ≠ 0 → R l MX8_isSize d 0 0 [vI a2] G2 h3 (fun r6 G7 h8 => (inR r6) ∧ ((r6 = 0 → Q ((-1)) G7 h8) ∧ (r6 ≠ 0 → R l MX8_isSize d 0 0 [vI a3] G7 h8 (fun r11 G12 h13 => (inR r11) ∧ ((r11 ≠ 0 → (inR (a1 * a2)) ∧ ((9 < (a1 * a2) → Q ((-3)) G12 h13) ∧ ((a1 * a2) ≤ 9 → (inR (a2 * a3)) ∧ ((9 < (a2 * a3) → Q ((-3)) G12 h13) ∧ ((a2 * a3) ≤ 9 → (inR (a1 * a3)) ∧ (((a1 * a3) ≤ 9 → (ty G12 a0 = 8) ∧ R l MX8_startBox d 0 0 [vR a0, vI (a1 * a2), vI (a2 * a3), vI (a1 * a3)] G12 h13 (fun r22 G23 h24 => S l MX8_tables (d + 1, 0, 0, 0, 0) 66 [some (vR a0), some (vI a1), some (vI a2), some (vI a3), some (vI 0), none, none] [] G23 h24 Q)) ∧ (9 < (a1 * a3) → Q ((-3)) G12 h13))))))) ∧ (r11 = 0 → Q ((-1)) G12 h13)))))))))) : S l MX8_tables (d + 1, 0, 0, 0, 0) 0 [some (vR a0), some (vI a1), some (vI a2), some (vI a3), none, none, none] [] G h Q := by
  refine s_iload_n dX8_tables_0 rfl rfl ?_
  refine s_callS (M' := MX8_isSize) (As := [vI a1]) (st := []) dX8_tables_1 ml_X8_94 cs_X8_isSize rfl rfl (Nat.le_of_ble_eq_true rfl) ⟨Nat.le_refl _, Nat.le_refl _⟩ (R_mono (fun r1 G2 h3 H => ?_) H)
  show S l MX8_tables (d + 1, 0, 0, 0, 0) 4 [some (vR a0), some (vI a1), some (vI a2), some (vI a3), none, none, none] [vI r1] G2 h3 Q
  have f4 := H.1
  replace H := H.2
  refine s_if_eq (tgt := 21) dX8_tables_4 (by decide) f4 (fun c5 => ?_) (fun c5 => ?_)
  · replace H := H.1 c5
    refine s_iconst dX8_tables_21 ?_
    exact s_iret dX8_tables_22 rfl ⟨Nat.le_refl _, Nat.le_refl _⟩ H
  · replace H := H.2 c5
    refine s_iload_n dX8_tables_7 rfl rfl ?_
    refine s_callS (M' := MX8_isSize) (As := [vI a2]) (st := []) dX8_tables_8 ml_X8_94 cs_X8_isSize rfl rfl (Nat.le_of_ble_eq_true rfl) ⟨Nat.le_refl _, Nat.le_refl _⟩ (R_mono (fun r6 G7 h8 H => ?_) H)
    show S l MX8_tables (d + 1, 0, 0, 0, 0) 11 [some (vR a0), some (vI a1), some (vI a2), some (vI a3), none, none, none] [vI r6] G7 h8 Q
    have f9 := H.1
    replace H := H.2
    refine s_if_eq (tgt := 21) dX8_tables_11 (by decide) f9 (fun c10 => ?_) (fun c10 => ?_)
    · replace H := H.1 c10
      refine s_iconst dX8_tables_21 ?_
      exact s_iret dX8_tables_22 rfl ⟨Nat.le_refl _, Nat.le_refl _⟩ H
    · replace H := H.2 c10
      refine s_iload_n dX8_tables_14 rfl rfl ?_
      refine s_callS (M' := MX8_isSize) (As := [vI a3]) (st := []) dX8_tables_15 ml_X8_94 cs_X8_isSize rfl rfl (Nat.le_of_ble_eq_true rfl) ⟨Nat.le_refl _, Nat.le_refl _⟩ (R_mono (fun r11 G12 h13 H => ?_) H)
      show S l MX8_tables (d + 1, 0, 0, 0, 0) 18 [some (vR a0), some (vI a1), some (vI a2), some (vI a3), none, none, none] [vI r11] G12 h13 Q
      have f14 := H.1
      replace H := H.2
      refine s_if_ne (tgt := 23) dX8_tables_18 (by decide) f14 (fun c15 => ?_) (fun c15 => ?_)
      · replace H := H.1 c15
        refine s_iload_n dX8_tables_23 rfl rfl ?_
        refine s_iload_n dX8_tables_24 rfl rfl ?_
        refine s_imul dX8_tables_25 ?_
        refine s_bipush dX8_tables_26 (by decide) ?_
        have f16 := H.1
        replace H := H.2
        refine s_icmp_gt (tgt := 47) dX8_tables_28 (by decide) f16 (by decide) (fun c17 => ?_) (fun c17 => ?_)
        · replace H := H.1 c17
          refine s_bipush dX8_tables_47 (by decide) ?_
          exact s_iret dX8_tables_49 rfl ⟨Nat.le_refl _, Nat.le_refl _⟩ H
        · replace H := H.2 c17
          refine s_iload_n dX8_tables_31 rfl rfl ?_
          refine s_iload_n dX8_tables_32 rfl rfl ?_
          refine s_imul dX8_tables_33 ?_
          refine s_bipush dX8_tables_34 (by decide) ?_
          have f18 := H.1
          replace H := H.2
          refine s_icmp_gt (tgt := 47) dX8_tables_36 (by decide) f18 (by decide) (fun c19 => ?_) (fun c19 => ?_)
          · replace H := H.1 c19
            refine s_bipush dX8_tables_47 (by decide) ?_
            exact s_iret dX8_tables_49 rfl ⟨Nat.le_refl _, Nat.le_refl _⟩ H
          · replace H := H.2 c19
            refine s_iload_n dX8_tables_39 rfl rfl ?_
            refine s_iload_n dX8_tables_40 rfl rfl ?_
            refine s_imul dX8_tables_41 ?_
            refine s_bipush dX8_tables_42 (by decide) ?_
            have f20 := H.1
            replace H := H.2
            refine s_icmp_le (tgt := 50) dX8_tables_44 (by decide) f20 (by decide) (fun c21 => ?_) (fun c21 => ?_)
            · replace H := H.1 c21
              refine s_aload_n dX8_tables_50 rfl rfl ?_
              refine s_iload_n dX8_tables_51 rfl rfl ?_
              refine s_iload_n dX8_tables_52 rfl rfl ?_
              refine s_imul dX8_tables_53 ?_
              refine s_iload_n dX8_tables_54 rfl rfl ?_
              refine s_iload_n dX8_tables_55 rfl rfl ?_
              refine s_imul dX8_tables_56 ?_
              refine s_iload_n dX8_tables_57 rfl rfl ?_
              refine s_iload_n dX8_tables_58 rfl rfl ?_
              refine s_imul dX8_tables_59 ?_
              have f25 := H.1
              replace H := H.2
              refine s_callV (M' := MX8_startBox) (As := [vI (a1 * a2), vI (a2 * a3), vI (a1 * a3)]) (a := a0) (st := []) dX8_tables_60 ml_X8_90 cv_X8_startBox rfl rfl (Nat.le_of_ble_eq_true rfl) ⟨Nat.le_refl _, Nat.le_refl _⟩ f25 (R_mono (fun r22 G23 h24 H => ?_) H)
              show S l MX8_tables (d + 1, 0, 0, 0, 0) 63 [some (vR a0), some (vI a1), some (vI a2), some (vI a3), none, none, none] [] G23 h24 Q
              refine s_iconst dX8_tables_63 ?_
              refine s_istore dX8_tables_64 (by decide) rfl ?_
              show S l MX8_tables (d + 1, 0, 0, 0, 0) 66 [some (vR a0), some (vI a1), some (vI a2), some (vI a3), some (vI 0), none, none] [] G23 h24 Q
              exact S_cut (by first | exact ⟨rfl, ⟨rfl, ⟨rfl, ⟨rfl, ⟨rfl, trivial⟩⟩⟩⟩⟩ | simp [lsub]) H
            · replace H := H.2 c21
              refine s_bipush dX8_tables_47 (by decide) ?_
              exact s_iret dX8_tables_49 rfl ⟨Nat.le_refl _, Nat.le_refl _⟩ H
      · replace H := H.2 c15
        refine s_iconst dX8_tables_21 ?_
        exact s_iret dX8_tables_22 rfl ⟨Nat.le_refl _, Nat.le_refl _⟩ H
set_option maxHeartbeats 4000000 in
set_option maxRecDepth 100000 in
theorem vX8_tables_66 {l : Launch} {d : Nat} {G : GS} {h : HP} {Q : Int → GS → HP → Prop} (a0 a1 a2 a3 a4 : Int) (H : (inR a4) ∧ (inR a1) ∧ ((a1 ≤ a4 → Q 1 G h) ∧ (a4 < a1 → S l MX8_tables (d + 1, 0, 0, 0, 0) 75 [some (vR a0), some (vI a1), some (vI a2), some (vI a3), some (vI a4), some (vI 0), none] [] G h Q))) : S l MX8_tables (d + 1, 0, 0, 0, 0) 66 [some (vR a0), some (vI a1), some (vI a2), some (vI a3), some (vI a4), none, none] [] G h Q := by
  refine s_iload dX8_tables_66 rfl ?_
  refine s_iload_n dX8_tables_68 rfl rfl ?_
  have f1 := H.1
  replace H := H.2
  have f2 := H.1
  replace H := H.2
  refine s_icmp_ge (tgt := 137) dX8_tables_69 (by decide) f1 f2 (fun c3 => ?_) (fun c3 => ?_)
  · replace H := H.1 c3
    refine s_iconst dX8_tables_137 ?_
    exact s_iret dX8_tables_138 rfl ⟨Nat.le_refl _, Nat.le_refl _⟩ H
  · replace H := H.2 c3
    refine s_iconst dX8_tables_72 ?_
    refine s_istore dX8_tables_73 (by decide) rfl ?_
    show S l MX8_tables (d + 1, 0, 0, 0, 0) 75 [some (vR a0), some (vI a1), some (vI a2), some (vI a3), some (vI a4), some (vI 0), none] [] G h Q
    exact S_cut (by first | exact ⟨rfl, ⟨rfl, ⟨rfl, ⟨rfl, ⟨rfl, ⟨rfl, trivial⟩⟩⟩⟩⟩⟩ | simp [lsub]) H
set_option maxHeartbeats 4000000 in
set_option maxRecDepth 100000 in
theorem vX8_tables_75 {l : Launch} {d : Nat} {G : GS} {h : HP} {Q : Int → GS → HP → Prop} (a0 a1 a2 a3 a4 a5 : Int) (H : (inR a5) ∧ (inR a2) ∧ ((a2 ≤ a5 → S l MX8_tables (d + 1, 0, 0, 0, 0) 66 [some (vR a0), some (vI a1), some (vI a2), some (vI a3), some (vI (a4 + 1)), none, none] [] G h Q) ∧ (a5 < a2 → S l MX8_tables (d + 1, 0, 0, 0, 0) 84 [some (vR a0), some (vI a1), some (vI a2), some (vI a3), some (vI a4), some (vI a5), some (vI 0)] [] G h Q))) : S l MX8_tables (d + 1, 0, 0, 0, 0) 75 [some (vR a0), some (vI a1), some (vI a2), some (vI a3), some (vI a4), some (vI a5), none] [] G h Q := by
  refine s_iload dX8_tables_75 rfl ?_
  refine s_iload_n dX8_tables_77 rfl rfl ?_
  have f1 := H.1
  replace H := H.2
  have f2 := H.1
  replace H := H.2
  refine s_icmp_ge (tgt := 131) dX8_tables_78 (by decide) f1 f2 (fun c3 => ?_) (fun c3 => ?_)
  · replace H := H.1 c3
    refine s_iinc dX8_tables_131 rfl (by decide) rfl ?_
    show S l MX8_tables (d + 1, 0, 0, 0, 0) 134 [some (vR a0), some (vI a1), some (vI a2), some (vI a3), some (vI (a4 + 1)), some (vI a5), none] [] G h Q
    refine s_goto (tgt := 66) dX8_tables_134 (by decide) ?_
    exact S_cut (by first | exact ⟨rfl, ⟨rfl, ⟨rfl, ⟨rfl, ⟨rfl, trivial⟩⟩⟩⟩⟩ | simp [lsub]) H
  · replace H := H.2 c3
    refine s_iconst dX8_tables_81 ?_
    refine s_istore dX8_tables_82 (by decide) rfl ?_
    show S l MX8_tables (d + 1, 0, 0, 0, 0) 84 [some (vR a0), some (vI a1), some (vI a2), some (vI a3), some (vI a4), some (vI a5), some (vI 0)] [] G h Q
    exact S_cut (by first | exact ⟨rfl, ⟨rfl, ⟨rfl, ⟨rfl, ⟨rfl, ⟨rfl, ⟨rfl, trivial⟩⟩⟩⟩⟩⟩⟩ | simp [lsub]) H
set_option maxHeartbeats 4000000 in
set_option maxRecDepth 100000 in
theorem vX8_tables_84 {l : Launch} {d : Nat} {G : GS} {h : HP} {Q : Int → GS → HP → Prop} (a0 a1 a2 a3 a4 a5 a6 : Int) (H : (inR a6) ∧ (inR a3) ∧ ((a3 ≤ a6 → S l MX8_tables (d + 1, 0, 0, 0, 0) 75 [some (vR a0), some (vI a1), some (vI a2), some (vI a3), some (vI a4), some (vI (a5 + 1)), none] [] G h Q) ∧ (a6 < a3 → (ty G a0 = 8) ∧ (ty G (h a0 10) = 4) ∧ R l MX4_setNumber d 0 0 [vR (h a0 10), vI ((a2 * a4) + a5), vI ((a3 * a5) + a6), vI ((a3 * a4) + a6), vI 1] G h (fun r5 G6 h7 => S l MX8_tables (d + 1, 0, 0, 0, 0) 84 [some (vR a0), some (vI a1), some (vI a2), some (vI a3), some (vI a4), some (vI a5), some (vI (a6 + 1))] [] G6 h7 Q)))) : S l MX8_tables (d + 1, 0, 0, 0, 0) 84 [some (vR a0), some (vI a1), some (vI a2), some (vI a3), some (vI a4), some (vI a5), some (vI a6)] [] G h Q := by
  refine s_iload dX8_tables_84 rfl ?_
  refine s_iload_n dX8_tables_86 rfl rfl ?_
  have f1 := H.1
  replace H := H.2
  have f2 := H.1
  replace H := H.2
  refine s_icmp_ge (tgt := 125) dX8_tables_87 (by decide) f1 f2 (fun c3 => ?_) (fun c3 => ?_)
  · replace H := H.1 c3
    refine s_iinc dX8_tables_125 rfl (by decide) rfl ?_
    show S l MX8_tables (d + 1, 0, 0, 0, 0) 128 [some (vR a0), some (vI a1), some (vI a2), some (vI a3), some (vI a4), some (vI (a5 + 1)), some (vI a6)] [] G h Q
    refine s_goto (tgt := 75) dX8_tables_128 (by decide) ?_
    exact S_cut (by first | exact ⟨rfl, ⟨rfl, ⟨rfl, ⟨rfl, ⟨rfl, ⟨rfl, trivial⟩⟩⟩⟩⟩⟩ | simp [lsub]) H
  · replace H := H.2 c3
    refine s_aload_n dX8_tables_90 rfl rfl ?_
    have f4 := H.1
    replace H := H.2
    refine s_getf (c := 8) (k := 10) (t := 2) (j := 10) dX8_tables_91 fl_X8_21 (by decide) (by decide) rfl rfl f4 ?_
    refine s_iload_n dX8_tables_94 rfl rfl ?_
    refine s_iload dX8_tables_95 rfl ?_
    refine s_imul dX8_tables_97 ?_
    refine s_iload dX8_tables_98 rfl ?_
    refine s_iadd dX8_tables_100 ?_
    refine s_iload_n dX8_tables_101 rfl rfl ?_
    refine s_iload dX8_tables_102 rfl ?_
    refine s_imul dX8_tables_104 ?_
    refine s_iload dX8_tables_105 rfl ?_
    refine s_iadd dX8_tables_107 ?_
    refine s_iload_n dX8_tables_108 rfl rfl ?_
    refine s_iload dX8_tables_109 rfl ?_
    refine s_imul dX8_tables_111 ?_
    refine s_iload dX8_tables_112 rfl ?_
    refine s_iadd dX8_tables_114 ?_
    refine s_iconst dX8_tables_115 ?_
    have f8 := H.1
    replace H := H.2
    refine s_callV (M' := MX4_setNumber) (As := [vI ((a2 * a4) + a5), vI ((a3 * a5) + a6), vI ((a3 * a4) + a6), vI 1]) (a := h a0 10) (st := []) dX8_tables_116 ml_X8_97 cv_X4_setNumber rfl rfl (Nat.le_of_ble_eq_true rfl) ⟨Nat.le_refl _, Nat.le_refl _⟩ f8 (R_mono (fun r5 G6 h7 H => ?_) H)
    show S l MX8_tables (d + 1, 0, 0, 0, 0) 119 [some (vR a0), some (vI a1), some (vI a2), some (vI a3), some (vI a4), some (vI a5), some (vI a6)] [] G6 h7 Q
    refine s_iinc dX8_tables_119 rfl (by decide) rfl ?_
    show S l MX8_tables (d + 1, 0, 0, 0, 0) 122 [some (vR a0), some (vI a1), some (vI a2), some (vI a3), some (vI a4), some (vI a5), some (vI (a6 + 1))] [] G6 h7 Q
    refine s_goto (tgt := 84) dX8_tables_122 (by decide) ?_
    exact S_cut (by first | exact ⟨rfl, ⟨rfl, ⟨rfl, ⟨rfl, ⟨rfl, ⟨rfl, ⟨rfl, trivial⟩⟩⟩⟩⟩⟩⟩ | simp [lsub]) H
set_option maxHeartbeats 4000000 in
set_option maxRecDepth 100000 in
theorem vX8_rows_0 {l : Launch} {d : Nat} {G : GS} {h : HP} {Q : Int → GS → HP → Prop} (a0 a1 a2 a3 : Int) (H : R l MX8_isSize d 0 0 [vI a1] G h (fun r1 G2 h3 => (inR r1) ∧ ((r1 = 0 → Q ((-1)) G2 h3) ∧ (r1 ≠ 0 → R l MX8_isSize d 0 0 [vI a2] G2 h3 (fun r6 G7 h8 => (inR r6) ∧ ((r6 = 0 → Q ((-1)) G7 h8) ∧ (r6 ≠ 0 → (inR a3) ∧ ((a3 < 0 → Q ((-1)) G7 h8) ∧ (0 ≤ a3 → ((a3 ≤ 9 → ((a3 ≠ 0 → ((a3 ≤ 9 → (ty G7 a0 = 8) ∧ R l MX8_startBox d 0 0 [vR a0, vI a1, vI a2, vI a3] G7 h8 (fun r16 G17 h18 => S l MX8_rows (d + 1, 0, 0, 0, 0) 62 [some (vR a0), some (vI a1), some (vI a2), none, some (vI a3), some (vI 0), none] [] G17 h18 Q)) ∧ (9 < a3 → Q ((-3)) G7 h8))) ∧ (a3 = 0 → (inR ((a1 + a2) - 1)) ∧ ((((a1 + a2) - 1) ≤ 9 → (ty G7 a0 = 8) ∧ R l MX8_startBox d 0 0 [vR a0, vI a1, vI a2, vI ((a1 + a2) - 1)] G7 h8 (fun r22 G23 h24 => S l MX8_rows (d + 1, 0, 0, 0, 0) 62 [some (vR a0), some (vI a1), some (vI a2), none, some (vI ((a1 + a2) - 1)), some (vI 0), none] [] G23 h24 Q)) ∧ (9 < ((a1 + a2) - 1) → Q ((-3)) G7 h8))))) ∧ (9 < a3 → Q ((-1)) G7 h8))))))))))) : S l MX8_rows (d + 1, 0, 0, 0, 0) 0 [some (vR a0), some (vI a1), some (vI a2), some (vI a3), none, none, none] [] G h Q := by
  refine s_iload_n dX8_rows_0 rfl rfl ?_
  refine s_callS (M' := MX8_isSize) (As := [vI a1]) (st := []) dX8_rows_1 ml_X8_94 cs_X8_isSize rfl rfl (Nat.le_of_ble_eq_true rfl) ⟨Nat.le_refl _, Nat.le_refl _⟩ (R_mono (fun r1 G2 h3 H => ?_) H)
  show S l MX8_rows (d + 1, 0, 0, 0, 0) 4 [some (vR a0), some (vI a1), some (vI a2), some (vI a3), none, none, none] [vI r1] G2 h3 Q
  have f4 := H.1
  replace H := H.2
  refine s_if_eq (tgt := 24) dX8_rows_4 (by decide) f4 (fun c5 => ?_) (fun c5 => ?_)
  · replace H := H.1 c5
    refine s_iconst dX8_rows_24 ?_
    exact s_iret dX8_rows_25 rfl ⟨Nat.le_refl _, Nat.le_refl _⟩ H
  · replace H := H.2 c5
    refine s_iload_n dX8_rows_7 rfl rfl ?_
    refine s_callS (M' := MX8_isSize) (As := [vI a2]) (st := []) dX8_rows_8 ml_X8_94 cs_X8_isSize rfl rfl (Nat.le_of_ble_eq_true rfl) ⟨Nat.le_refl _, Nat.le_refl _⟩ (R_mono (fun r6 G7 h8 H => ?_) H)
    show S l MX8_rows (d + 1, 0, 0, 0, 0) 11 [some (vR a0), some (vI a1), some (vI a2), some (vI a3), none, none, none] [vI r6] G7 h8 Q
    have f9 := H.1
    replace H := H.2
    refine s_if_eq (tgt := 24) dX8_rows_11 (by decide) f9 (fun c10 => ?_) (fun c10 => ?_)
    · replace H := H.1 c10
      refine s_iconst dX8_rows_24 ?_
      exact s_iret dX8_rows_25 rfl ⟨Nat.le_refl _, Nat.le_refl _⟩ H
    · replace H := H.2 c10
      refine s_iload_n dX8_rows_14 rfl rfl ?_
      have f11 := H.1
      replace H := H.2
      refine s_if_lt (tgt := 24) dX8_rows_15 (by decide) f11 (fun c12 => ?_) (fun c12 => ?_)
      · replace H := H.1 c12
        refine s_iconst dX8_rows_24 ?_
        exact s_iret dX8_rows_25 rfl ⟨Nat.le_refl _, Nat.le_refl _⟩ H
      · replace H := H.2 c12
        refine s_iload_n dX8_rows_18 rfl rfl ?_
        refine s_bipush dX8_rows_19 (by decide) ?_
        refine s_icmp_le (tgt := 26) dX8_rows_21 (by decide) f11 (by decide) (fun c13 => ?_) (fun c13 => ?_)
        · replace H := H.1 c13
          refine s_iload_n dX8_rows_26 rfl rfl ?_
          refine s_if_ne (tgt := 38) dX8_rows_27 (by decide) f11 (fun c14 => ?_) (fun c14 => ?_)
          · replace H := H.1 c14
            refine s_iload_n dX8_rows_38 rfl rfl ?_
            refine s_istore dX8_rows_39 (by decide) rfl ?_
            show S l MX8_rows (d + 1, 0, 0, 0, 0) 41 [some (vR a0), some (vI a1), some (vI a2), some (vI a3), some (vI a3), none, none] [] G7 h8 Q
            refine s_iload dX8_rows_41 rfl ?_
            refine s_bipush dX8_rows_43 (by decide) ?_
            refine s_icmp_le (tgt := 51) dX8_rows_45 (by decide) f11 (by decide) (fun c15 => ?_) (fun c15 => ?_)
            · replace H := H.1 c15
              refine s_aload_n dX8_rows_51 rfl rfl ?_
              refine s_iload_n dX8_rows_52 rfl rfl ?_
              refine s_iload_n dX8_rows_53 rfl rfl ?_
              refine s_iload dX8_rows_54 rfl ?_
              have f19 := H.1
              replace H := H.2
              refine s_callV (M' := MX8_startBox) (As := [vI a1, vI a2, vI a3]) (a := a0) (st := []) dX8_rows_56 ml_X8_90 cv_X8_startBox rfl rfl (Nat.le_of_ble_eq_true rfl) ⟨Nat.le_refl _, Nat.le_refl _⟩ f19 (R_mono (fun r16 G17 h18 H => ?_) H)
              show S l MX8_rows (d + 1, 0, 0, 0, 0) 59 [some (vR a0), some (vI a1), some (vI a2), some (vI a3), some (vI a3), none, none] [] G17 h18 Q
              refine s_iconst dX8_rows_59 ?_
              refine s_istore dX8_rows_60 (by decide) rfl ?_
              show S l MX8_rows (d + 1, 0, 0, 0, 0) 62 [some (vR a0), some (vI a1), some (vI a2), some (vI a3), some (vI a3), some (vI 0), none] [] G17 h18 Q
              exact S_cut (by first | exact ⟨rfl, ⟨rfl, ⟨rfl, ⟨rfl, ⟨rfl, trivial⟩⟩⟩⟩⟩ | simp [lsub]) H
            · replace H := H.2 c15
              refine s_bipush dX8_rows_48 (by decide) ?_
              exact s_iret dX8_rows_50 rfl ⟨Nat.le_refl _, Nat.le_refl _⟩ H
          · replace H := H.2 c14
            refine s_iload_n dX8_rows_30 rfl rfl ?_
            refine s_iload_n dX8_rows_31 rfl rfl ?_
            refine s_iadd dX8_rows_32 ?_
            refine s_iconst dX8_rows_33 ?_
            refine s_isub dX8_rows_34 ?_
            refine s_goto (tgt := 39) dX8_rows_35 (by decide) ?_
            refine s_istore dX8_rows_39 (by decide) rfl ?_
            show S l MX8_rows (d + 1, 0, 0, 0, 0) 41 [some (vR a0), some (vI a1), some (vI a2), some (vI a3), some (vI ((a1 + a2) - 1)), none, none] [] G7 h8 Q
            refine s_iload dX8_rows_41 rfl ?_
            refine s_bipush dX8_rows_43 (by decide) ?_
            have f20 := H.1
            replace H := H.2
            refine s_icmp_le (tgt := 51) dX8_rows_45 (by decide) f20 (by decide) (fun c21 => ?_) (fun c21 => ?_)
            · replace H := H.1 c21
              refine s_aload_n dX8_rows_51 rfl rfl ?_
              refine s_iload_n dX8_rows_52 rfl rfl ?_
              refine s_iload_n dX8_rows_53 rfl rfl ?_
              refine s_iload dX8_rows_54 rfl ?_
              have f25 := H.1
              replace H := H.2
              refine s_callV (M' := MX8_startBox) (As := [vI a1, vI a2, vI ((a1 + a2) - 1)]) (a := a0) (st := []) dX8_rows_56 ml_X8_90 cv_X8_startBox rfl rfl (Nat.le_of_ble_eq_true rfl) ⟨Nat.le_refl _, Nat.le_refl _⟩ f25 (R_mono (fun r22 G23 h24 H => ?_) H)
              show S l MX8_rows (d + 1, 0, 0, 0, 0) 59 [some (vR a0), some (vI a1), some (vI a2), some (vI a3), some (vI ((a1 + a2) - 1)), none, none] [] G23 h24 Q
              refine s_iconst dX8_rows_59 ?_
              refine s_istore dX8_rows_60 (by decide) rfl ?_
              show S l MX8_rows (d + 1, 0, 0, 0, 0) 62 [some (vR a0), some (vI a1), some (vI a2), some (vI a3), some (vI ((a1 + a2) - 1)), some (vI 0), none] [] G23 h24 Q
              exact S_cut (by first | exact ⟨rfl, ⟨rfl, ⟨rfl, ⟨rfl, ⟨rfl, trivial⟩⟩⟩⟩⟩ | simp [lsub]) H
            · replace H := H.2 c21
              refine s_bipush dX8_rows_48 (by decide) ?_
              exact s_iret dX8_rows_50 rfl ⟨Nat.le_refl _, Nat.le_refl _⟩ H
        · replace H := H.2 c13
          refine s_iconst dX8_rows_24 ?_
          exact s_iret dX8_rows_25 rfl ⟨Nat.le_refl _, Nat.le_refl _⟩ H
set_option maxHeartbeats 4000000 in
set_option maxRecDepth 100000 in
theorem vX8_rows_62 {l : Launch} {d : Nat} {G : GS} {h : HP} {Q : Int → GS → HP → Prop} (a0 a1 a2 a4 a5 : Int) (H : (inR a5) ∧ (inR a1) ∧ ((a1 ≤ a5 → Q 1 G h) ∧ (a5 < a1 → S l MX8_rows (d + 1, 0, 0, 0, 0) 71 [some (vR a0), some (vI a1), some (vI a2), none, some (vI a4), some (vI a5), some (vI 0)] [] G h Q))) : S l MX8_rows (d + 1, 0, 0, 0, 0) 62 [some (vR a0), some (vI a1), some (vI a2), none, some (vI a4), some (vI a5), none] [] G h Q := by
  refine s_iload dX8_rows_62 rfl ?_
  refine s_iload_n dX8_rows_64 rfl rfl ?_
  have f1 := H.1
  replace H := H.2
  have f2 := H.1
  replace H := H.2
  refine s_icmp_ge (tgt := 109) dX8_rows_65 (by decide) f1 f2 (fun c3 => ?_) (fun c3 => ?_)
  · replace H := H.1 c3
    refine s_iconst dX8_rows_109 ?_
    exact s_iret dX8_rows_110 rfl ⟨Nat.le_refl _, Nat.le_refl _⟩ H
  · replace H := H.2 c3
    refine s_iconst dX8_rows_68 ?_
    refine s_istore dX8_rows_69 (by decide) rfl ?_
    show S l MX8_rows (d + 1, 0, 0, 0, 0) 71 [some (vR a0), some (vI a1), some (vI a2), none, some (vI a4), some (vI a5), some (vI 0)] [] G h Q
    exact S_cut (by first | exact ⟨rfl, ⟨rfl, ⟨rfl, ⟨rfl, ⟨rfl, ⟨rfl, trivial⟩⟩⟩⟩⟩⟩ | simp [lsub]) H
set_option maxHeartbeats 4000000 in
set_option maxRecDepth 100000 in
theorem vX8_rows_71 {l : Launch} {d : Nat} {G : GS} {h : HP} {Q : Int → GS → HP → Prop} (a0 a1 a2 a4 a5 a6 : Int) (H : (inR a6) ∧ (inR a2) ∧ ((a2 ≤ a6 → S l MX8_rows (d + 1, 0, 0, 0, 0) 62 [some (vR a0), some (vI a1), some (vI a2), none, some (vI a4), some (vI (a5 + 1)), none] [] G h Q) ∧ (a6 < a2 → (ty G a0 = 8) ∧ (dvR (a5 + a6) a4) ∧ (ty G (h a0 10) = 4) ∧ R l MX4_setNumber d 0 0 [vR (h a0 10), vI a5, vI a6, vI ((a5 + a6) % a4), vI 1] G h (fun r6 G7 h8 => S l MX8_rows (d + 1, 0, 0, 0, 0) 71 [some (vR a0), some (vI a1), some (vI a2), none, some (vI a4), some (vI a5), some (vI (a6 + 1))] [] G7 h8 Q)))) : S l MX8_rows (d + 1, 0, 0, 0, 0) 71 [some (vR a0), some (vI a1), some (vI a2), none, some (vI a4), some (vI a5), some (vI a6)] [] G h Q := by
  refine s_iload dX8_rows_71 rfl ?_
  refine s_iload_n dX8_rows_73 rfl rfl ?_
  have f1 := H.1
  replace H := H.2
  have f2 := H.1
  replace H := H.2
  refine s_icmp_ge (tgt := 103) dX8_rows_74 (by decide) f1 f2 (fun c3 => ?_) (fun c3 => ?_)
  · replace H := H.1 c3
    refine s_iinc dX8_rows_103 rfl (by decide) rfl ?_
    show S l MX8_rows (d + 1, 0, 0, 0, 0) 106 [some (vR a0), some (vI a1), some (vI a2), none, some (vI a4), some (vI (a5 + 1)), some (vI a6)] [] G h Q
    refine s_goto (tgt := 62) dX8_rows_106 (by decide) ?_
    exact S_cut (by first | exact ⟨rfl, ⟨rfl, ⟨rfl, ⟨rfl, ⟨rfl, trivial⟩⟩⟩⟩⟩ | simp [lsub]) H
  · replace H := H.2 c3
    refine s_aload_n dX8_rows_77 rfl rfl ?_
    have f4 := H.1
    replace H := H.2
    refine s_getf (c := 8) (k := 10) (t := 2) (j := 10) dX8_rows_78 fl_X8_21 (by decide) (by decide) rfl rfl f4 ?_
    refine s_iload dX8_rows_81 rfl ?_
    refine s_iload dX8_rows_83 rfl ?_
    refine s_iload dX8_rows_85 rfl ?_
    refine s_iload dX8_rows_87 rfl ?_
    refine s_iadd dX8_rows_89 ?_
    refine s_iload dX8_rows_90 rfl ?_
    have f5 := H.1
    replace H := H.2
    refine s_irem dX8_rows_92 f5 ?_
    refine s_iconst dX8_rows_93 ?_
    have f9 := H.1
    replace H := H.2
    refine s_callV (M' := MX4_setNumber) (As := [vI a5, vI a6, vI ((a5 + a6) % a4), vI 1]) (a := h a0 10) (st := []) dX8_rows_94 ml_X8_97 cv_X4_setNumber rfl rfl (Nat.le_of_ble_eq_true rfl) ⟨Nat.le_refl _, Nat.le_refl _⟩ f9 (R_mono (fun r6 G7 h8 H => ?_) H)
    show S l MX8_rows (d + 1, 0, 0, 0, 0) 97 [some (vR a0), some (vI a1), some (vI a2), none, some (vI a4), some (vI a5), some (vI a6)] [] G7 h8 Q
    refine s_iinc dX8_rows_97 rfl (by decide) rfl ?_
    show S l MX8_rows (d + 1, 0, 0, 0, 0) 100 [some (vR a0), some (vI a1), some (vI a2), none, some (vI a4), some (vI a5), some (vI (a6 + 1))] [] G7 h8 Q
    refine s_goto (tgt := 71) dX8_rows_100 (by decide) ?_
    exact S_cut (by first | exact ⟨rfl, ⟨rfl, ⟨rfl, ⟨rfl, ⟨rfl, ⟨rfl, trivial⟩⟩⟩⟩⟩⟩ | simp [lsub]) H
set_option maxHeartbeats 4000000 in
set_option maxRecDepth 100000 in
theorem vX8_set_0 {l : Launch} {d : Nat} {G : GS} {h : HP} {Q : Int → GS → HP → Prop} (a0 a1 a2 a3 a4 : Int) (H : (ty G a0 = 8) ∧ (ty G (h a0 10) = 4) ∧ R l MX4_hasPlace d 0 0 [vR (h a0 10), vI a1, vI a2, vI a3] G h (fun r2 G3 h4 => (inR r2) ∧ ((r2 = 0 → Q ((-1)) G3 h4) ∧ (r2 ≠ 0 → (ty G3 a0 = 8) ∧ (ty G3 (h4 a0 0) = 1) ∧ R l MX1_isNumber d 0 0 [vR (h4 a0 0), vI a4] G3 h4 (fun r9 G10 h11 => (inR r9) ∧ ((r9 ≠ 0 → (ty G10 a0 = 8) ∧ (ty G10 (h11 a0 10) = 4) ∧ R l MX4_number d 0 0 [vR (h11 a0 10), vI a1, vI a2, vI a3] G10 h11 (fun r16 G17 h18 => (ty G17 a0 = 8) ∧ (ty G17 (h18 a0 10) = 4) ∧ R l MX4_setNumber d 0 0 [vR (h18 a0 10), vI a1, vI a2, vI a3, vI a4] G17 h18 (fun r21 G22 h23 => Q r16 G22 h23))) ∧ (r9 = 0 → Q ((-1)) G10 h11))))))) : S l MX8_set (d + 1, 0, 0, 0, 0) 0 [some (vR a0), some (vI a1), some (vI a2), some (vI a3), some (vI a4), none] [] G h Q := by
  refine s_aload_n dX8_set_0 rfl rfl ?_
  have f1 := H.1
  replace H := H.2
  refine s_getf (c := 8) (k := 10) (t := 2) (j := 10) dX8_set_1 fl_X8_21 (by decide) (by decide) rfl rfl f1 ?_
  refine s_iload_n dX8_set_4 rfl rfl ?_
  refine s_iload_n dX8_set_5 rfl rfl ?_
  refine s_iload_n dX8_set_6 rfl rfl ?_
  have f5 := H.1
  replace H := H.2
  refine s_callV (M' := MX4_hasPlace) (As := [vI a1, vI a2, vI a3]) (a := h a0 10) (st := []) dX8_set_7 ml_X8_101 cv_X4_hasPlace rfl rfl (Nat.le_of_ble_eq_true rfl) ⟨Nat.le_refl _, Nat.le_refl _⟩ f5 (R_mono (fun r2 G3 h4 H => ?_) H)
  show S l MX8_set (d + 1, 0, 0, 0, 0) 10 [some (vR a0), some (vI a1), some (vI a2), some (vI a3), some (vI a4), none] [vI r2] G3 h4 Q
  have f6 := H.1
  replace H := H.2
  refine s_if_eq (tgt := 25) dX8_set_10 (by decide) f6 (fun c7 => ?_) (fun c7 => ?_)
  · replace H := H.1 c7
    refine s_iconst dX8_set_25 ?_
    exact s_iret dX8_set_26 rfl ⟨Nat.le_refl _, Nat.le_refl _⟩ H
  · replace H := H.2 c7
    refine s_aload_n dX8_set_13 rfl rfl ?_
    have f8 := H.1
    replace H := H.2
    refine s_getf (c := 8) (k := 0) (t := 2) (j := 0) dX8_set_14 fl_X8_12 (by decide) (by decide) rfl rfl f8 ?_
    refine s_iload dX8_set_17 rfl ?_
    have f12 := H.1
    replace H := H.2
    refine s_callV (M' := MX1_isNumber) (As := [vI a4]) (a := h4 a0 0) (st := []) dX8_set_19 ml_X8_105 cv_X1_isNumber rfl rfl (Nat.le_of_ble_eq_true rfl) ⟨Nat.le_refl _, Nat.le_refl _⟩ f12 (R_mono (fun r9 G10 h11 H => ?_) H)
    show S l MX8_set (d + 1, 0, 0, 0, 0) 22 [some (vR a0), some (vI a1), some (vI a2), some (vI a3), some (vI a4), none] [vI r9] G10 h11 Q
    have f13 := H.1
    replace H := H.2
    refine s_if_ne (tgt := 27) dX8_set_22 (by decide) f13 (fun c14 => ?_) (fun c14 => ?_)
    · replace H := H.1 c14
      refine s_aload_n dX8_set_27 rfl rfl ?_
      have f15 := H.1
      replace H := H.2
      refine s_getf (c := 8) (k := 10) (t := 2) (j := 10) dX8_set_28 fl_X8_21 (by decide) (by decide) rfl rfl f15 ?_
      refine s_iload_n dX8_set_31 rfl rfl ?_
      refine s_iload_n dX8_set_32 rfl rfl ?_
      refine s_iload_n dX8_set_33 rfl rfl ?_
      have f19 := H.1
      replace H := H.2
      refine s_callV (M' := MX4_number) (As := [vI a1, vI a2, vI a3]) (a := h11 a0 10) (st := []) dX8_set_34 ml_X8_108 cv_X4_number rfl rfl (Nat.le_of_ble_eq_true rfl) ⟨Nat.le_refl _, Nat.le_refl _⟩ f19 (R_mono (fun r16 G17 h18 H => ?_) H)
      show S l MX8_set (d + 1, 0, 0, 0, 0) 37 [some (vR a0), some (vI a1), some (vI a2), some (vI a3), some (vI a4), none] [vI r16] G17 h18 Q
      refine s_istore dX8_set_37 (by decide) rfl ?_
      show S l MX8_set (d + 1, 0, 0, 0, 0) 39 [some (vR a0), some (vI a1), some (vI a2), some (vI a3), some (vI a4), some (vI r16)] [] G17 h18 Q
      refine s_aload_n dX8_set_39 rfl rfl ?_
      have f20 := H.1
      replace H := H.2
      refine s_getf (c := 8) (k := 10) (t := 2) (j := 10) dX8_set_40 fl_X8_21 (by decide) (by decide) rfl rfl f20 ?_
      refine s_iload_n dX8_set_43 rfl rfl ?_
      refine s_iload_n dX8_set_44 rfl rfl ?_
      refine s_iload_n dX8_set_45 rfl rfl ?_
      refine s_iload dX8_set_46 rfl ?_
      have f24 := H.1
      replace H := H.2
      refine s_callV (M' := MX4_setNumber) (As := [vI a1, vI a2, vI a3, vI a4]) (a := h18 a0 10) (st := []) dX8_set_48 ml_X8_97 cv_X4_setNumber rfl rfl (Nat.le_of_ble_eq_true rfl) ⟨Nat.le_refl _, Nat.le_refl _⟩ f24 (R_mono (fun r21 G22 h23 H => ?_) H)
      show S l MX8_set (d + 1, 0, 0, 0, 0) 51 [some (vR a0), some (vI a1), some (vI a2), some (vI a3), some (vI a4), some (vI r16)] [] G22 h23 Q
      refine s_iload dX8_set_51 rfl ?_
      exact s_iret dX8_set_53 rfl ⟨Nat.le_refl _, Nat.le_refl _⟩ H
    · replace H := H.2 c14
      refine s_iconst dX8_set_25 ?_
      exact s_iret dX8_set_26 rfl ⟨Nat.le_refl _, Nat.le_refl _⟩ H
set_option maxHeartbeats 4000000 in
set_option maxRecDepth 100000 in
theorem vX8_at_0 {l : Launch} {d : Nat} {G : GS} {h : HP} {Q : Int → GS → HP → Prop} (a0 a1 a2 a3 : Int) (H : (ty G a0 = 8) ∧ (ty G (h a0 10) = 4) ∧ R l MX4_hasPlace d 0 0 [vR (h a0 10), vI a1, vI a2, vI a3] G h (fun r2 G3 h4 => (inR r2) ∧ ((r2 = 0 → Q ((-1)) G3 h4) ∧ (r2 ≠ 0 → (ty G3 a0 = 8) ∧ (ty G3 (h4 a0 10) = 4) ∧ R l MX4_number d 0 0 [vR (h4 a0 10), vI a1, vI a2, vI a3] G3 h4 (fun r9 G10 h11 => Q r9 G10 h11))))) : S l MX8_at (d + 1, 0, 0, 0, 0) 0 [some (vR a0), some (vI a1), some (vI a2), some (vI a3)] [] G h Q := by
  refine s_aload_n dX8_at_0 rfl rfl ?_
  have f1 := H.1
  replace H := H.2
  refine s_getf (c := 8) (k := 10) (t := 2) (j := 10) dX8_at_1 fl_X8_21 (by decide) (by decide) rfl rfl f1 ?_
  refine s_iload_n dX8_at_4 rfl rfl ?_
  refine s_iload_n dX8_at_5 rfl rfl ?_
  refine s_iload_n dX8_at_6 rfl rfl ?_
  have f5 := H.1
  replace H := H.2
  refine s_callV (M' := MX4_hasPlace) (As := [vI a1, vI a2, vI a3]) (a := h a0 10) (st := []) dX8_at_7 ml_X8_101 cv_X4_hasPlace rfl rfl (Nat.le_of_ble_eq_true rfl) ⟨Nat.le_refl _, Nat.le_refl _⟩ f5 (R_mono (fun r2 G3 h4 H => ?_) H)
  show S l MX8_at (d + 1, 0, 0, 0, 0) 10 [some (vR a0), some (vI a1), some (vI a2), some (vI a3)] [vI r2] G3 h4 Q
  have f6 := H.1
  replace H := H.2
  refine s_if_eq (tgt := 26) dX8_at_10 (by decide) f6 (fun c7 => ?_) (fun c7 => ?_)
  · replace H := H.1 c7
    refine s_iconst dX8_at_26 ?_
    exact s_iret dX8_at_27 rfl ⟨Nat.le_refl _, Nat.le_refl _⟩ H
  · replace H := H.2 c7
    refine s_aload_n dX8_at_13 rfl rfl ?_
    have f8 := H.1
    replace H := H.2
    refine s_getf (c := 8) (k := 10) (t := 2) (j := 10) dX8_at_14 fl_X8_21 (by decide) (by decide) rfl rfl f8 ?_
    refine s_iload_n dX8_at_17 rfl rfl ?_
    refine s_iload_n dX8_at_18 rfl rfl ?_
    refine s_iload_n dX8_at_19 rfl rfl ?_
    have f12 := H.1
    replace H := H.2
    refine s_callV (M' := MX4_number) (As := [vI a1, vI a2, vI a3]) (a := h4 a0 10) (st := []) dX8_at_20 ml_X8_108 cv_X4_number rfl rfl (Nat.le_of_ble_eq_true rfl) ⟨Nat.le_refl _, Nat.le_refl _⟩ f12 (R_mono (fun r9 G10 h11 H => ?_) H)
    show S l MX8_at (d + 1, 0, 0, 0, 0) 23 [some (vR a0), some (vI a1), some (vI a2), some (vI a3)] [vI r9] G10 h11 Q
    refine s_goto (tgt := 27) dX8_at_23 (by decide) ?_
    exact s_iret dX8_at_27 rfl ⟨Nat.le_refl _, Nat.le_refl _⟩ H
set_option maxHeartbeats 4000000 in
set_option maxRecDepth 100000 in
theorem vX8_many_0 {l : Launch} {d : Nat} {G : GS} {h : HP} {Q : Int → GS → HP → Prop} (a0 a1 : Int) (H : (inR a1) ∧ ((a1 = 0 → (ty G a0 = 8) ∧ (ty G (h a0 0) = 1) ∧ Q (h (h a0 0) 0) G h) ∧ (a1 = 1 → (ty G a0 = 8) ∧ (ty G (h a0 10) = 4) ∧ (inA G 10 (h (h a0 10) 1) (a1 - 1)) ∧ Q (h (h (h a0 10) 1) (a1 - 1)) G h) ∧ (a1 = 2 → (ty G a0 = 8) ∧ (ty G (h a0 10) = 4) ∧ (inA G 10 (h (h a0 10) 1) (a1 - 1)) ∧ Q (h (h (h a0 10) 1) (a1 - 1)) G h) ∧ (a1 = 3 → (ty G a0 = 8) ∧ (ty G (h a0 10) = 4) ∧ (inA G 10 (h (h a0 10) 1) (a1 - 1)) ∧ Q (h (h (h a0 10) 1) (a1 - 1)) G h) ∧ (a1 = 4 → (ty G a0 = 8) ∧ (ty G (h a0 10) = 4) ∧ Q (h (h a0 10) 6) G h) ∧ (a1 = 5 → (ty G a0 = 8) ∧ (ty G (h a0 10) = 4) ∧ R l MX4_filledPlaces d 0 0 [vR (h a0 10)] G h (fun r17 G18 h19 => Q r17 G18 h19)) ∧ (a1 = 6 → (ty G a0 = 8) ∧ (ty G (h a0 4) = 3) ∧ R l MX3_countMoves d 0 0 [vR (h a0 4), vR (h a0 10)] G h (fun r22 G23 h24 => Q r22 G23 h24)) ∧ (a1 ≠ 0 ∧ a1 ≠ 1 ∧ a1 ≠ 2 ∧ a1 ≠ 3 ∧ a1 ≠ 4 ∧ a1 ≠ 5 ∧ a1 ≠ 6 → Q ((-1)) G h))) : S l MX8_many (d + 1, 0, 0, 0, 0) 0 [some (vR a0), some (vI a1)] [] G h Q := by
  refine s_iload_n dX8_many_0 rfl rfl ?_
  have f1 := H.1
  replace H := H.2
  have hsw : (a1 = 0 ∨ a1 = 1 ∨ a1 = 2 ∨ a1 = 3 ∨ a1 = 4 ∨ a1 = 5 ∨ a1 = 6) ∨ (a1 ≠ 0 ∧ a1 ≠ 1 ∧ a1 ≠ 2 ∧ a1 ≠ 3 ∧ a1 ≠ 4 ∧ a1 ≠ 5 ∧ a1 ≠ 6) := by omega
  rcases hsw with (c2 | c2 | c2 | c2 | c2 | c2 | c2) | c2
  · replace H := H.1 c2
    refine s_tabIn (v := 0) (off := 43) (tgt := 44) dX8_many_1 f1 c2 (by decide) (by decide) rfl (by decide) ?_
    refine s_aload_n dX8_many_44 rfl rfl ?_
    have f3 := H.1
    replace H := H.2
    refine s_getf (c := 8) (k := 0) (t := 2) (j := 0) dX8_many_45 fl_X8_12 (by decide) (by decide) rfl rfl f3 ?_
    have f4 := H.1
    replace H := H.2
    refine s_getf (c := 1) (k := 0) (t := 0) (j := 0) dX8_many_48 fl_X8_112 (by decide) (by decide) rfl rfl f4 ?_
    exact s_iret dX8_many_51 rfl ⟨Nat.le_refl _, Nat.le_refl _⟩ H
  · replace H := H.2.1 c2
    refine s_tabIn (v := 1) (off := 51) (tgt := 52) dX8_many_1 f1 c2 (by decide) (by decide) rfl (by decide) ?_
    refine s_aload_n dX8_many_52 rfl rfl ?_
    have f5 := H.1
    replace H := H.2
    refine s_getf (c := 8) (k := 10) (t := 2) (j := 10) dX8_many_53 fl_X8_21 (by decide) (by decide) rfl rfl f5 ?_
    have f6 := H.1
    replace H := H.2
    refine s_getf (c := 4) (k := 1) (t := 2) (j := 1) dX8_many_56 fl_X8_116 (by decide) (by decide) rfl rfl f6 ?_
    refine s_iload_n dX8_many_59 rfl rfl ?_
    refine s_iconst dX8_many_60 ?_
    refine s_isub dX8_many_61 ?_
    have f7 := H.1
    replace H := H.2
    refine s_iald dX8_many_62 f7 ?_
    exact s_iret dX8_many_63 rfl ⟨Nat.le_refl _, Nat.le_refl _⟩ H
  · replace H := H.2.2.1 c2
    refine s_tabIn (v := 2) (off := 51) (tgt := 52) dX8_many_1 f1 c2 (by decide) (by decide) rfl (by decide) ?_
    refine s_aload_n dX8_many_52 rfl rfl ?_
    have f8 := H.1
    replace H := H.2
    refine s_getf (c := 8) (k := 10) (t := 2) (j := 10) dX8_many_53 fl_X8_21 (by decide) (by decide) rfl rfl f8 ?_
    have f9 := H.1
    replace H := H.2
    refine s_getf (c := 4) (k := 1) (t := 2) (j := 1) dX8_many_56 fl_X8_116 (by decide) (by decide) rfl rfl f9 ?_
    refine s_iload_n dX8_many_59 rfl rfl ?_
    refine s_iconst dX8_many_60 ?_
    refine s_isub dX8_many_61 ?_
    have f10 := H.1
    replace H := H.2
    refine s_iald dX8_many_62 f10 ?_
    exact s_iret dX8_many_63 rfl ⟨Nat.le_refl _, Nat.le_refl _⟩ H
  · replace H := H.2.2.2.1 c2
    refine s_tabIn (v := 3) (off := 51) (tgt := 52) dX8_many_1 f1 c2 (by decide) (by decide) rfl (by decide) ?_
    refine s_aload_n dX8_many_52 rfl rfl ?_
    have f11 := H.1
    replace H := H.2
    refine s_getf (c := 8) (k := 10) (t := 2) (j := 10) dX8_many_53 fl_X8_21 (by decide) (by decide) rfl rfl f11 ?_
    have f12 := H.1
    replace H := H.2
    refine s_getf (c := 4) (k := 1) (t := 2) (j := 1) dX8_many_56 fl_X8_116 (by decide) (by decide) rfl rfl f12 ?_
    refine s_iload_n dX8_many_59 rfl rfl ?_
    refine s_iconst dX8_many_60 ?_
    refine s_isub dX8_many_61 ?_
    have f13 := H.1
    replace H := H.2
    refine s_iald dX8_many_62 f13 ?_
    exact s_iret dX8_many_63 rfl ⟨Nat.le_refl _, Nat.le_refl _⟩ H
  · replace H := H.2.2.2.2.1 c2
    refine s_tabIn (v := 4) (off := 63) (tgt := 64) dX8_many_1 f1 c2 (by decide) (by decide) rfl (by decide) ?_
    refine s_aload_n dX8_many_64 rfl rfl ?_
    have f14 := H.1
    replace H := H.2
    refine s_getf (c := 8) (k := 10) (t := 2) (j := 10) dX8_many_65 fl_X8_21 (by decide) (by decide) rfl rfl f14 ?_
    have f15 := H.1
    replace H := H.2
    refine s_getf (c := 4) (k := 6) (t := 0) (j := 6) dX8_many_68 fl_X8_119 (by decide) (by decide) rfl rfl f15 ?_
    exact s_iret dX8_many_71 rfl ⟨Nat.le_refl _, Nat.le_refl _⟩ H
  · replace H := H.2.2.2.2.2.1 c2
    refine s_tabIn (v := 5) (off := 71) (tgt := 72) dX8_many_1 f1 c2 (by decide) (by decide) rfl (by decide) ?_
    refine s_aload_n dX8_many_72 rfl rfl ?_
    have f16 := H.1
    replace H := H.2
    refine s_getf (c := 8) (k := 10) (t := 2) (j := 10) dX8_many_73 fl_X8_21 (by decide) (by decide) rfl rfl f16 ?_
    have f20 := H.1
    replace H := H.2
    refine s_callV (M' := MX4_filledPlaces) (As := []) (a := h a0 10) (st := []) dX8_many_76 ml_X8_122 cv_X4_filledPlaces rfl rfl (Nat.le_of_ble_eq_true rfl) ⟨Nat.le_refl _, Nat.le_refl _⟩ f20 (R_mono (fun r17 G18 h19 H => ?_) H)
    show S l MX8_many (d + 1, 0, 0, 0, 0) 79 [some (vR a0), some (vI a1)] [vI r17] G18 h19 Q
    exact s_iret dX8_many_79 rfl ⟨Nat.le_refl _, Nat.le_refl _⟩ H
  · replace H := H.2.2.2.2.2.2.1 c2
    refine s_tabIn (v := 6) (off := 79) (tgt := 80) dX8_many_1 f1 c2 (by decide) (by decide) rfl (by decide) ?_
    refine s_aload_n dX8_many_80 rfl rfl ?_
    have f21 := H.1
    replace H := H.2
    refine s_getf (c := 8) (k := 4) (t := 2) (j := 4) dX8_many_81 fl_X8_43 (by decide) (by decide) rfl rfl f21 ?_
    refine s_aload_n dX8_many_84 rfl rfl ?_
    refine s_getf (c := 8) (k := 10) (t := 2) (j := 10) dX8_many_85 fl_X8_21 (by decide) (by decide) rfl rfl f21 ?_
    have f25 := H.1
    replace H := H.2
    refine s_callV (M' := MX3_countMoves) (As := [vR (h a0 10)]) (a := h a0 4) (st := []) dX8_many_88 ml_X8_126 cv_X3_countMoves rfl rfl (Nat.le_of_ble_eq_true rfl) ⟨Nat.le_refl _, Nat.le_refl _⟩ f25 (R_mono (fun r22 G23 h24 H => ?_) H)
    show S l MX8_many (d + 1, 0, 0, 0, 0) 91 [some (vR a0), some (vI a1)] [vI r22] G23 h24 Q
    exact s_iret dX8_many_91 rfl ⟨Nat.le_refl _, Nat.le_refl _⟩ H
  · replace H := H.2.2.2.2.2.2.2 c2
    refine s_tabOut (tgt := 92) dX8_many_1 f1 (by omega) (by decide) ?_
    refine s_iconst dX8_many_92 ?_
    exact s_iret dX8_many_93 rfl ⟨Nat.le_refl _, Nat.le_refl _⟩ H
set_option maxHeartbeats 4000000 in
set_option maxRecDepth 100000 in
theorem vX8_time_0 {l : Launch} {d : Nat} {G : GS} {h : HP} {Q : Int → GS → HP → Prop} (a0 a1 a2 a3 : Int) (H : (ty G a0 = 8) ∧ (ty G (h a0 10) = 4) ∧ R l MX4_fits d 0 0 [vR (h a0 10), vI 0, vI a1] G h (fun r2 G3 h4 => (inR r2) ∧ ((r2 = 0 → Q ((-1)) G3 h4) ∧ (r2 ≠ 0 → (ty G3 a0 = 8) ∧ (ty G3 (h4 a0 10) = 4) ∧ R l MX4_fits d 0 0 [vR (h4 a0 10), vI 1, vI a2] G3 h4 (fun r9 G10 h11 => (inR r9) ∧ ((r9 = 0 → Q ((-1)) G10 h11) ∧ (r9 ≠ 0 → (ty G10 a0 = 8) ∧ (ty G10 (h11 a0 10) = 4) ∧ R l MX4_fits d 0 0 [vR (h11 a0 10), vI 2, vI a3] G10 h11 (fun r16 G17 h18 => (inR r16) ∧ ((r16 ≠ 0 → (ty G17 a0 = 8) ∧ (ty G17 (h18 a0 10) = 4) ∧ (inR (h18 (h18 a0 10) 6)) ∧ (((h18 (h18 a0 10) 6) < 40 → R l MX4_append d 0 0 [vR (h18 a0 10), vI a1, vI a2, vI a3] G17 h18 (fun r26 G27 h28 => (ty G27 a0 = 8) ∧ (ty G27 (h28 a0 10) = 4) ∧ Q ((h28 (h28 a0 10) 6) - 1) G27 h28)) ∧ (40 ≤ (h18 (h18 a0 10) 6) → Q ((-2)) G17 h18))) ∧ (r16 = 0 → Q ((-1)) G17 h18)))))))))) : S l MX8_time (d + 1, 0, 0, 0, 0) 0 [some (vR a0), some (vI a1), some (vI a2), some (vI a3)] [] G h Q := by
  refine s_aload_n dX8_time_0 rfl rfl ?_
  have f1 := H.1
  replace H := H.2
  refine s_getf (c := 8) (k := 10) (t := 2) (j := 10) dX8_time_1 fl_X8_21 (by decide) (by decide) rfl rfl f1 ?_
  refine s_iconst dX8_time_4 ?_
  refine s_iload_n dX8_time_5 rfl rfl ?_
  have f5 := H.1
  replace H := H.2
  refine s_callV (M' := MX4_fits) (As := [vI 0, vI a1]) (a := h a0 10) (st := []) dX8_time_6 ml_X8_130 cv_X4_fits rfl rfl (Nat.le_of_ble_eq_true rfl) ⟨Nat.le_refl _, Nat.le_refl _⟩ f5 (R_mono (fun r2 G3 h4 H => ?_) H)
  show S l MX8_time (d + 1, 0, 0, 0, 0) 9 [some (vR a0), some (vI a1), some (vI a2), some (vI a3)] [vI r2] G3 h4 Q
  have f6 := H.1
  replace H := H.2
  refine s_if_eq (tgt := 36) dX8_time_9 (by decide) f6 (fun c7 => ?_) (fun c7 => ?_)
  · replace H := H.1 c7
    refine s_iconst dX8_time_36 ?_
    exact s_iret dX8_time_37 rfl ⟨Nat.le_refl _, Nat.le_refl _⟩ H
  · replace H := H.2 c7
    refine s_aload_n dX8_time_12 rfl rfl ?_
    have f8 := H.1
    replace H := H.2
    refine s_getf (c := 8) (k := 10) (t := 2) (j := 10) dX8_time_13 fl_X8_21 (by decide) (by decide) rfl rfl f8 ?_
    refine s_iconst dX8_time_16 ?_
    refine s_iload_n dX8_time_17 rfl rfl ?_
    have f12 := H.1
    replace H := H.2
    refine s_callV (M' := MX4_fits) (As := [vI 1, vI a2]) (a := h4 a0 10) (st := []) dX8_time_18 ml_X8_130 cv_X4_fits rfl rfl (Nat.le_of_ble_eq_true rfl) ⟨Nat.le_refl _, Nat.le_refl _⟩ f12 (R_mono (fun r9 G10 h11 H => ?_) H)
    show S l MX8_time (d + 1, 0, 0, 0, 0) 21 [some (vR a0), some (vI a1), some (vI a2), some (vI a3)] [vI r9] G10 h11 Q
    have f13 := H.1
    replace H := H.2
    refine s_if_eq (tgt := 36) dX8_time_21 (by decide) f13 (fun c14 => ?_) (fun c14 => ?_)
    · replace H := H.1 c14
      refine s_iconst dX8_time_36 ?_
      exact s_iret dX8_time_37 rfl ⟨Nat.le_refl _, Nat.le_refl _⟩ H
    · replace H := H.2 c14
      refine s_aload_n dX8_time_24 rfl rfl ?_
      have f15 := H.1
      replace H := H.2
      refine s_getf (c := 8) (k := 10) (t := 2) (j := 10) dX8_time_25 fl_X8_21 (by decide) (by decide) rfl rfl f15 ?_
      refine s_iconst dX8_time_28 ?_
      refine s_iload_n dX8_time_29 rfl rfl ?_
      have f19 := H.1
      replace H := H.2
      refine s_callV (M' := MX4_fits) (As := [vI 2, vI a3]) (a := h11 a0 10) (st := []) dX8_time_30 ml_X8_130 cv_X4_fits rfl rfl (Nat.le_of_ble_eq_true rfl) ⟨Nat.le_refl _, Nat.le_refl _⟩ f19 (R_mono (fun r16 G17 h18 H => ?_) H)
      show S l MX8_time (d + 1, 0, 0, 0, 0) 33 [some (vR a0), some (vI a1), some (vI a2), some (vI a3)] [vI r16] G17 h18 Q
      have f20 := H.1
      replace H := H.2
      refine s_if_ne (tgt := 38) dX8_time_33 (by decide) f20 (fun c21 => ?_) (fun c21 => ?_)
      · replace H := H.1 c21
        refine s_aload_n dX8_time_38 rfl rfl ?_
        have f22 := H.1
        replace H := H.2
        refine s_getf (c := 8) (k := 10) (t := 2) (j := 10) dX8_time_39 fl_X8_21 (by decide) (by decide) rfl rfl f22 ?_
        have f23 := H.1
        replace H := H.2
        refine s_getf (c := 4) (k := 6) (t := 0) (j := 6) dX8_time_42 fl_X8_119 (by decide) (by decide) rfl rfl f23 ?_
        refine s_bipush dX8_time_45 (by decide) ?_
        have f24 := H.1
        replace H := H.2
        refine s_icmp_lt (tgt := 53) dX8_time_47 (by decide) f24 (by decide) (fun c25 => ?_) (fun c25 => ?_)
        · replace H := H.1 c25
          refine s_aload_n dX8_time_53 rfl rfl ?_
          refine s_getf (c := 8) (k := 10) (t := 2) (j := 10) dX8_time_54 fl_X8_21 (by decide) (by decide) rfl rfl f22 ?_
          refine s_iload_n dX8_time_57 rfl rfl ?_
          refine s_iload_n dX8_time_58 rfl rfl ?_
          refine s_iload_n dX8_time_59 rfl rfl ?_
          refine s_callV (M' := MX4_append) (As := [vI a1, vI a2, vI a3]) (a := h18 a0 10) (st := []) dX8_time_60 ml_X8_134 cv_X4_append rfl rfl (Nat.le_of_ble_eq_true rfl) ⟨Nat.le_refl _, Nat.le_refl _⟩ f23 (R_mono (fun r26 G27 h28 H => ?_) H)
          show S l MX8_time (d + 1, 0, 0, 0, 0) 63 [some (vR a0), some (vI a1), some (vI a2), some (vI a3)] [] G27 h28 Q
          refine s_aload_n dX8_time_63 rfl rfl ?_
          have f29 := H.1
          replace H := H.2
          refine s_getf (c := 8) (k := 10) (t := 2) (j := 10) dX8_time_64 fl_X8_21 (by decide) (by decide) rfl rfl f29 ?_
          have f30 := H.1
          replace H := H.2
          refine s_getf (c := 4) (k := 6) (t := 0) (j := 6) dX8_time_67 fl_X8_119 (by decide) (by decide) rfl rfl f30 ?_
          refine s_iconst dX8_time_70 ?_
          refine s_isub dX8_time_71 ?_
          exact s_iret dX8_time_72 rfl ⟨Nat.le_refl _, Nat.le_refl _⟩ H
        · replace H := H.2 c25
          refine s_bipush dX8_time_50 (by decide) ?_
          exact s_iret dX8_time_52 rfl ⟨Nat.le_refl _, Nat.le_refl _⟩ H
      · replace H := H.2 c21
        refine s_iconst dX8_time_36 ?_
        exact s_iret dX8_time_37 rfl ⟨Nat.le_refl _, Nat.le_refl _⟩ H
set_option maxHeartbeats 4000000 in
set_option maxRecDepth 100000 in
theorem vX8_row_0 {l : Launch} {d : Nat} {G : GS} {h : HP} {Q : Int → GS → HP → Prop} (a0 a1 a2 : Int) (H : (ty G a0 = 8) ∧ (ty G (h a0 10) = 4) ∧ R l MX4_hasTime d 0 0 [vR (h a0 10), vI a1] G h (fun r2 G3 h4 => (inR r2) ∧ ((r2 = 0 → Q ((-1)) G3 h4) ∧ (r2 ≠ 0 → R l MX8_isWay d 0 0 [vI a2] G3 h4 (fun r8 G9 h10 => (inR r8) ∧ ((r8 = 0 → Q ((-1)) G9 h10) ∧ (r8 ≠ 0 → (ty G9 a0 = 8) ∧ (ty G9 (h10 a0 10) = 4) ∧ R l MX4_rowOf d 0 0 [vR (h10 a0 10), vI a2, vI a1] G9 h10 (fun r14 G15 h16 => Q r14 G15 h16)))))))) : S l MX8_row (d + 1, 0, 0, 0, 0) 0 [some (vR a0), some (vI a1), some (vI a2)] [] G h Q := by
  refine s_aload_n dX8_row_0 rfl rfl ?_
  have f1 := H.1
  replace H := H.2
  refine s_getf (c := 8) (k := 10) (t := 2) (j := 10) dX8_row_1 fl_X8_21 (by decide) (by decide) rfl rfl f1 ?_
  refine s_iload_n dX8_row_4 rfl rfl ?_
  have f5 := H.1
  replace H := H.2
  refine s_callV (M' := MX4_hasTime) (As := [vI a1]) (a := h a0 10) (st := []) dX8_row_5 ml_X8_137 cv_X4_hasTime rfl rfl (Nat.le_of_ble_eq_true rfl) ⟨Nat.le_refl _, Nat.le_refl _⟩ f5 (R_mono (fun r2 G3 h4 H => ?_) H)
  show S l MX8_row (d + 1, 0, 0, 0, 0) 8 [some (vR a0), some (vI a1), some (vI a2)] [vI r2] G3 h4 Q
  have f6 := H.1
  replace H := H.2
  refine s_if_eq (tgt := 30) dX8_row_8 (by decide) f6 (fun c7 => ?_) (fun c7 => ?_)
  · replace H := H.1 c7
    refine s_iconst dX8_row_30 ?_
    exact s_iret dX8_row_31 rfl ⟨Nat.le_refl _, Nat.le_refl _⟩ H
  · replace H := H.2 c7
    refine s_iload_n dX8_row_11 rfl rfl ?_
    refine s_callS (M' := MX8_isWay) (As := [vI a2]) (st := []) dX8_row_12 ml_X8_140 cs_X8_isWay rfl rfl (Nat.le_of_ble_eq_true rfl) ⟨Nat.le_refl _, Nat.le_refl _⟩ (R_mono (fun r8 G9 h10 H => ?_) H)
    show S l MX8_row (d + 1, 0, 0, 0, 0) 15 [some (vR a0), some (vI a1), some (vI a2)] [vI r8] G9 h10 Q
    have f11 := H.1
    replace H := H.2
    refine s_if_eq (tgt := 30) dX8_row_15 (by decide) f11 (fun c12 => ?_) (fun c12 => ?_)
    · replace H := H.1 c12
      refine s_iconst dX8_row_30 ?_
      exact s_iret dX8_row_31 rfl ⟨Nat.le_refl _, Nat.le_refl _⟩ H
    · replace H := H.2 c12
      refine s_aload_n dX8_row_18 rfl rfl ?_
      have f13 := H.1
      replace H := H.2
      refine s_getf (c := 8) (k := 10) (t := 2) (j := 10) dX8_row_19 fl_X8_21 (by decide) (by decide) rfl rfl f13 ?_
      refine s_iload_n dX8_row_22 rfl rfl ?_
      refine s_iload_n dX8_row_23 rfl rfl ?_
      have f17 := H.1
      replace H := H.2
      refine s_callV (M' := MX4_rowOf) (As := [vI a2, vI a1]) (a := h10 a0 10) (st := []) dX8_row_24 ml_X8_143 cv_X4_rowOf rfl rfl (Nat.le_of_ble_eq_true rfl) ⟨Nat.le_refl _, Nat.le_refl _⟩ f17 (R_mono (fun r14 G15 h16 H => ?_) H)
      show S l MX8_row (d + 1, 0, 0, 0, 0) 27 [some (vR a0), some (vI a1), some (vI a2)] [vI r14] G15 h16 Q
      refine s_goto (tgt := 31) dX8_row_27 (by decide) ?_
      exact s_iret dX8_row_31 rfl ⟨Nat.le_refl _, Nat.le_refl _⟩ H
set_option maxHeartbeats 4000000 in
set_option maxRecDepth 100000 in
theorem vX8_isWay_0 {l : Launch} {d : Nat} {G : GS} {h : HP} {Q : Int → GS → HP → Prop} (a0 : Int) (H : (inR a0) ∧ ((a0 < 0 → Q 0 G h) ∧ (0 ≤ a0 → ((3 ≤ a0 → Q 0 G h) ∧ (a0 < 3 → Q 1 G h))))) : S l MX8_isWay (d, 0, 0, 0, 0) 0 [some (vI a0)] [] G h Q := by
  refine s_iload_n dX8_isWay_0 rfl rfl ?_
  have f1 := H.1
  replace H := H.2
  refine s_if_lt (tgt := 13) dX8_isWay_1 (by decide) f1 (fun c2 => ?_) (fun c2 => ?_)
  · replace H := H.1 c2
    refine s_iconst dX8_isWay_13 ?_
    exact s_zret dX8_isWay_14 rfl ⟨Nat.le_refl _, Nat.le_refl _⟩ (by decide) H
  · replace H := H.2 c2
    refine s_iload_n dX8_isWay_4 rfl rfl ?_
    refine s_iconst dX8_isWay_5 ?_
    refine s_icmp_ge (tgt := 13) dX8_isWay_6 (by decide) f1 (by decide) (fun c3 => ?_) (fun c3 => ?_)
    · replace H := H.1 c3
      refine s_iconst dX8_isWay_13 ?_
      exact s_zret dX8_isWay_14 rfl ⟨Nat.le_refl _, Nat.le_refl _⟩ (by decide) H
    · replace H := H.2 c3
      refine s_iconst dX8_isWay_9 ?_
      refine s_goto (tgt := 14) dX8_isWay_10 (by decide) ?_
      exact s_zret dX8_isWay_14 rfl ⟨Nat.le_refl _, Nat.le_refl _⟩ (by decide) H
set_option maxHeartbeats 4000000 in
set_option maxRecDepth 100000 in
theorem vX8_change_0 {l : Launch} {d : Nat} {G : GS} {h : HP} {Q : Int → GS → HP → Prop} (a0 a1 a2 a3 : Int) (H : (ty G a0 = 8) ∧ (ty G (h a0 10) = 4) ∧ R l MX4_hasTime d 0 0 [vR (h a0 10), vI a1] G h (fun r2 G3 h4 => (inR r2) ∧ ((r2 = 0 → Q ((-1)) G3 h4) ∧ (r2 ≠ 0 → R l MX8_isWay d 0 0 [vI a2] G3 h4 (fun r8 G9 h10 => (inR r8) ∧ ((r8 = 0 → Q ((-1)) G9 h10) ∧ (r8 ≠ 0 → (ty G9 a0 = 8) ∧ (ty G9 (h10 a0 10) = 4) ∧ R l MX4_fits d 0 0 [vR (h10 a0 10), vI a2, vI a3] G9 h10 (fun r14 G15 h16 => (inR r14) ∧ ((r14 ≠ 0 → (ty G15 a0 = 8) ∧ (ty G15 (h16 a0 10) = 4) ∧ R l MX4_put d 0 0 [vR (h16 a0 10), vI a2, vI a1, vI a3] G15 h16 (fun r21 G22 h23 => Q 1 G22 h23)) ∧ (r14 = 0 → Q ((-1)) G15 h16)))))))))) : S l MX8_change (d + 1, 0, 0, 0, 0) 0 [some (vR a0), some (vI a1), some (vI a2), some (vI a3)] [] G h Q := by
  refine s_aload_n dX8_change_0 rfl rfl ?_
  have f1 := H.1
  replace H := H.2
  refine s_getf (c := 8) (k := 10) (t := 2) (j := 10) dX8_change_1 fl_X8_21 (by decide) (by decide) rfl rfl f1 ?_
  refine s_iload_n dX8_change_4 rfl rfl ?_
  have f5 := H.1
  replace H := H.2
  refine s_callV (M' := MX4_hasTime) (As := [vI a1]) (a := h a0 10) (st := []) dX8_change_5 ml_X8_137 cv_X4_hasTime rfl rfl (Nat.le_of_ble_eq_true rfl) ⟨Nat.le_refl _, Nat.le_refl _⟩ f5 (R_mono (fun r2 G3 h4 H => ?_) H)
  show S l MX8_change (d + 1, 0, 0, 0, 0) 8 [some (vR a0), some (vI a1), some (vI a2), some (vI a3)] [vI r2] G3 h4 Q
  have f6 := H.1
  replace H := H.2
  refine s_if_eq (tgt := 30) dX8_change_8 (by decide) f6 (fun c7 => ?_) (fun c7 => ?_)
  · replace H := H.1 c7
    refine s_iconst dX8_change_30 ?_
    exact s_iret dX8_change_31 rfl ⟨Nat.le_refl _, Nat.le_refl _⟩ H
  · replace H := H.2 c7
    refine s_iload_n dX8_change_11 rfl rfl ?_
    refine s_callS (M' := MX8_isWay) (As := [vI a2]) (st := []) dX8_change_12 ml_X8_140 cs_X8_isWay rfl rfl (Nat.le_of_ble_eq_true rfl) ⟨Nat.le_refl _, Nat.le_refl _⟩ (R_mono (fun r8 G9 h10 H => ?_) H)
    show S l MX8_change (d + 1, 0, 0, 0, 0) 15 [some (vR a0), some (vI a1), some (vI a2), some (vI a3)] [vI r8] G9 h10 Q
    have f11 := H.1
    replace H := H.2
    refine s_if_eq (tgt := 30) dX8_change_15 (by decide) f11 (fun c12 => ?_) (fun c12 => ?_)
    · replace H := H.1 c12
      refine s_iconst dX8_change_30 ?_
      exact s_iret dX8_change_31 rfl ⟨Nat.le_refl _, Nat.le_refl _⟩ H
    · replace H := H.2 c12
      refine s_aload_n dX8_change_18 rfl rfl ?_
      have f13 := H.1
      replace H := H.2
      refine s_getf (c := 8) (k := 10) (t := 2) (j := 10) dX8_change_19 fl_X8_21 (by decide) (by decide) rfl rfl f13 ?_
      refine s_iload_n dX8_change_22 rfl rfl ?_
      refine s_iload_n dX8_change_23 rfl rfl ?_
      have f17 := H.1
      replace H := H.2
      refine s_callV (M' := MX4_fits) (As := [vI a2, vI a3]) (a := h10 a0 10) (st := []) dX8_change_24 ml_X8_130 cv_X4_fits rfl rfl (Nat.le_of_ble_eq_true rfl) ⟨Nat.le_refl _, Nat.le_refl _⟩ f17 (R_mono (fun r14 G15 h16 H => ?_) H)
      show S l MX8_change (d + 1, 0, 0, 0, 0) 27 [some (vR a0), some (vI a1), some (vI a2), some (vI a3)] [vI r14] G15 h16 Q
      have f18 := H.1
      replace H := H.2
      refine s_if_ne (tgt := 32) dX8_change_27 (by decide) f18 (fun c19 => ?_) (fun c19 => ?_)
      · replace H := H.1 c19
        refine s_aload_n dX8_change_32 rfl rfl ?_
        have f20 := H.1
        replace H := H.2
        refine s_getf (c := 8) (k := 10) (t := 2) (j := 10) dX8_change_33 fl_X8_21 (by decide) (by decide) rfl rfl f20 ?_
        refine s_iload_n dX8_change_36 rfl rfl ?_
        refine s_iload_n dX8_change_37 rfl rfl ?_
        refine s_iload_n dX8_change_38 rfl rfl ?_
        have f24 := H.1
        replace H := H.2
        refine s_callV (M' := MX4_put) (As := [vI a2, vI a1, vI a3]) (a := h16 a0 10) (st := []) dX8_change_39 ml_X8_147 cv_X4_put rfl rfl (Nat.le_of_ble_eq_true rfl) ⟨Nat.le_refl _, Nat.le_refl _⟩ f24 (R_mono (fun r21 G22 h23 H => ?_) H)
        show S l MX8_change (d + 1, 0, 0, 0, 0) 42 [some (vR a0), some (vI a1), some (vI a2), some (vI a3)] [] G22 h23 Q
        refine s_iconst dX8_change_42 ?_
        exact s_iret dX8_change_43 rfl ⟨Nat.le_refl _, Nat.le_refl _⟩ H
      · replace H := H.2 c19
        refine s_iconst dX8_change_30 ?_
        exact s_iret dX8_change_31 rfl ⟨Nat.le_refl _, Nat.le_refl _⟩ H
set_option maxHeartbeats 4000000 in
set_option maxRecDepth 100000 in
theorem vX8_drop_0 {l : Launch} {d : Nat} {G : GS} {h : HP} {Q : Int → GS → HP → Prop} (a0 a1 : Int) (H : (ty G a0 = 8) ∧ (ty G (h a0 10) = 4) ∧ R l MX4_hasTime d 0 0 [vR (h a0 10), vI a1] G h (fun r2 G3 h4 => (inR r2) ∧ ((r2 ≠ 0 → (ty G3 a0 = 8) ∧ (ty G3 (h4 a0 10) = 4) ∧ R l MX4_remove d 0 0 [vR (h4 a0 10), vI a1] G3 h4 (fun r9 G10 h11 => (ty G10 a0 = 8) ∧ (ty G10 (h11 a0 10) = 4) ∧ Q (h11 (h11 a0 10) 6) G10 h11)) ∧ (r2 = 0 → Q ((-1)) G3 h4)))) : S l MX8_drop (d + 1, 0, 0, 0, 0) 0 [some (vR a0), some (vI a1)] [] G h Q := by
  refine s_aload_n dX8_drop_0 rfl rfl ?_
  have f1 := H.1
  replace H := H.2
  refine s_getf (c := 8) (k := 10) (t := 2) (j := 10) dX8_drop_1 fl_X8_21 (by decide) (by decide) rfl rfl f1 ?_
  refine s_iload_n dX8_drop_4 rfl rfl ?_
  have f5 := H.1
  replace H := H.2
  refine s_callV (M' := MX4_hasTime) (As := [vI a1]) (a := h a0 10) (st := []) dX8_drop_5 ml_X8_137 cv_X4_hasTime rfl rfl (Nat.le_of_ble_eq_true rfl) ⟨Nat.le_refl _, Nat.le_refl _⟩ f5 (R_mono (fun r2 G3 h4 H => ?_) H)
  show S l MX8_drop (d + 1, 0, 0, 0, 0) 8 [some (vR a0), some (vI a1)] [vI r2] G3 h4 Q
  have f6 := H.1
  replace H := H.2
  refine s_if_ne (tgt := 13) dX8_drop_8 (by decide) f6 (fun c7 => ?_) (fun c7 => ?_)
  · replace H := H.1 c7
    refine s_aload_n dX8_drop_13 rfl rfl ?_
    have f8 := H.1
    replace H := H.2
    refine s_getf (c := 8) (k := 10) (t := 2) (j := 10) dX8_drop_14 fl_X8_21 (by decide) (by decide) rfl rfl f8 ?_
    refine s_iload_n dX8_drop_17 rfl rfl ?_
    have f12 := H.1
    replace H := H.2
    refine s_callV (M' := MX4_remove) (As := [vI a1]) (a := h4 a0 10) (st := []) dX8_drop_18 ml_X8_150 cv_X4_remove rfl rfl (Nat.le_of_ble_eq_true rfl) ⟨Nat.le_refl _, Nat.le_refl _⟩ f12 (R_mono (fun r9 G10 h11 H => ?_) H)
    show S l MX8_drop (d + 1, 0, 0, 0, 0) 21 [some (vR a0), some (vI a1)] [] G10 h11 Q
    refine s_aload_n dX8_drop_21 rfl rfl ?_
    have f13 := H.1
    replace H := H.2
    refine s_getf (c := 8) (k := 10) (t := 2) (j := 10) dX8_drop_22 fl_X8_21 (by decide) (by decide) rfl rfl f13 ?_
    have f14 := H.1
    replace H := H.2
    refine s_getf (c := 4) (k := 6) (t := 0) (j := 6) dX8_drop_25 fl_X8_119 (by decide) (by decide) rfl rfl f14 ?_
    exact s_iret dX8_drop_28 rfl ⟨Nat.le_refl _, Nat.le_refl _⟩ H
  · replace H := H.2 c7
    refine s_iconst dX8_drop_11 ?_
    exact s_iret dX8_drop_12 rfl ⟨Nat.le_refl _, Nat.le_refl _⟩ H
set_option maxHeartbeats 4000000 in
set_option maxRecDepth 100000 in
theorem vX8_plain_0 {l : Launch} {d : Nat} {G : GS} {h : HP} {Q : Int → GS → HP → Prop} (a0 : Int) (H : (ty G a0 = 8) ∧ (ty G (h a0 10) = 4) ∧ R l MX4_filledPlaces d 0 0 [vR (h a0 10)] G h (fun r2 G3 h4 => (inR r2) ∧ ((r2 ≤ 40 → (ty G3 a0 = 8) ∧ (ty G3 (h4 a0 10) = 4) ∧ R l MX4_becomePlain d 0 0 [vR (h4 a0 10)] G3 h4 (fun r9 G10 h11 => (ty G10 a0 = 8) ∧ (ty G10 (h11 a0 10) = 4) ∧ Q (h11 (h11 a0 10) 6) G10 h11)) ∧ (40 < r2 → Q ((-2)) G3 h4)))) : S l MX8_plain (d + 1, 0, 0, 0, 0) 0 [some (vR a0)] [] G h Q := by
  refine s_aload_n dX8_plain_0 rfl rfl ?_
  have f1 := H.1
  replace H := H.2
  refine s_getf (c := 8) (k := 10) (t := 2) (j := 10) dX8_plain_1 fl_X8_21 (by decide) (by decide) rfl rfl f1 ?_
  have f5 := H.1
  replace H := H.2
  refine s_callV (M' := MX4_filledPlaces) (As := []) (a := h a0 10) (st := []) dX8_plain_4 ml_X8_122 cv_X4_filledPlaces rfl rfl (Nat.le_of_ble_eq_true rfl) ⟨Nat.le_refl _, Nat.le_refl _⟩ f5 (R_mono (fun r2 G3 h4 H => ?_) H)
  show S l MX8_plain (d + 1, 0, 0, 0, 0) 7 [some (vR a0)] [vI r2] G3 h4 Q
  refine s_bipush dX8_plain_7 (by decide) ?_
  have f6 := H.1
  replace H := H.2
  refine s_icmp_le (tgt := 15) dX8_plain_9 (by decide) f6 (by decide) (fun c7 => ?_) (fun c7 => ?_)
  · replace H := H.1 c7
    refine s_aload_n dX8_plain_15 rfl rfl ?_
    have f8 := H.1
    replace H := H.2
    refine s_getf (c := 8) (k := 10) (t := 2) (j := 10) dX8_plain_16 fl_X8_21 (by decide) (by decide) rfl rfl f8 ?_
    have f12 := H.1
    replace H := H.2
    refine s_callV (M' := MX4_becomePlain) (As := []) (a := h4 a0 10) (st := []) dX8_plain_19 ml_X8_153 cv_X4_becomePlain rfl rfl (Nat.le_of_ble_eq_true rfl) ⟨Nat.le_refl _, Nat.le_refl _⟩ f12 (R_mono (fun r9 G10 h11 H => ?_) H)
    show S l MX8_plain (d + 1, 0, 0, 0, 0) 22 [some (vR a0)] [] G10 h11 Q
    refine s_aload_n dX8_plain_22 rfl rfl ?_
    have f13 := H.1
    replace H := H.2
    refine s_getf (c := 8) (k := 10) (t := 2) (j := 10) dX8_plain_23 fl_X8_21 (by decide) (by decide) rfl rfl f13 ?_
    have f14 := H.1
    replace H := H.2
    refine s_getf (c := 4) (k := 6) (t := 0) (j := 6) dX8_plain_26 fl_X8_119 (by decide) (by decide) rfl rfl f14 ?_
    exact s_iret dX8_plain_29 rfl ⟨Nat.le_refl _, Nat.le_refl _⟩ H
  · replace H := H.2 c7
    refine s_bipush dX8_plain_12 (by decide) ?_
    exact s_iret dX8_plain_14 rfl ⟨Nat.le_refl _, Nat.le_refl _⟩ H
set_option maxHeartbeats 4000000 in
set_option maxRecDepth 100000 in
theorem vX8_makes_0 {l : Launch} {d : Nat} {G : GS} {h : HP} {Q : Int → GS → HP → Prop} (a0 : Int) (H : (ty G a0 = 8) ∧ (ty G (h a0 6) = 5) ∧ R l MX5_wrongPlace d 0 0 [vR (h a0 6), vR (h a0 10), vI 0] G h (fun r2 G3 h4 => (inR r2) ∧ ((r2 ≠ ((-1)) → Q 0 G3 h4) ∧ (r2 = ((-1)) → Q 1 G3 h4)))) : S l MX8_makes (d + 1, 0, 0, 0, 0) 0 [some (vR a0)] [] G h Q := by
  refine s_aload_n dX8_makes_0 rfl rfl ?_
  have f1 := H.1
  replace H := H.2
  refine s_getf (c := 8) (k := 6) (t := 2) (j := 6) dX8_makes_1 fl_X8_57 (by decide) (by decide) rfl rfl f1 ?_
  refine s_aload_n dX8_makes_4 rfl rfl ?_
  refine s_getf (c := 8) (k := 10) (t := 2) (j := 10) dX8_makes_5 fl_X8_21 (by decide) (by decide) rfl rfl f1 ?_
  refine s_iconst dX8_makes_8 ?_
  have f5 := H.1
  replace H := H.2
  refine s_callV (M' := MX5_wrongPlace) (As := [vR (h a0 10), vI 0]) (a := h a0 6) (st := []) dX8_makes_9 ml_X8_156 cv_X5_wrongPlace rfl rfl (Nat.le_of_ble_eq_true rfl) ⟨Nat.le_refl _, Nat.le_refl _⟩ f5 (R_mono (fun r2 G3 h4 H => ?_) H)
  show S l MX8_makes (d + 1, 0, 0, 0, 0) 12 [some (vR a0)] [vI r2] G3 h4 Q
  refine s_iconst dX8_makes_12 ?_
  have f6 := H.1
  replace H := H.2
  refine s_icmp_ne (tgt := 20) dX8_makes_13 (by decide) f6 (by decide) (fun c7 => ?_) (fun c7 => ?_)
  · replace H := H.1 c7
    refine s_iconst dX8_makes_20 ?_
    exact s_zret dX8_makes_21 rfl ⟨Nat.le_refl _, Nat.le_refl _⟩ (by decide) H
  · replace H := H.2 c7
    refine s_iconst dX8_makes_16 ?_
    refine s_goto (tgt := 21) dX8_makes_17 (by decide) ?_
    exact s_zret dX8_makes_21 rfl ⟨Nat.le_refl _, Nat.le_refl _⟩ (by decide) H
set_option maxHeartbeats 4000000 in
set_option maxRecDepth 100000 in
theorem vX8_off_0 {l : Launch} {d : Nat} {G : GS} {h : HP} {Q : Int → GS → HP → Prop} (a0 a1 : Int) (H : (inR a1) ∧ ((0 ≤ a1 → (ty G a0 = 8) ∧ (ty G (h a0 6) = 5) ∧ R l MX5_wrongPlace d 0 0 [vR (h a0 6), vR (h a0 10), vI a1] G h (fun r4 G5 h6 => Q r4 G5 h6)) ∧ (a1 < 0 → Q ((-1)) G h))) : S l MX8_off (d + 1, 0, 0, 0, 0) 0 [some (vR a0), some (vI a1)] [] G h Q := by
  refine s_iload_n dX8_off_0 rfl rfl ?_
  have f1 := H.1
  replace H := H.2
  refine s_if_ge (tgt := 8) dX8_off_1 (by decide) f1 (fun c2 => ?_) (fun c2 => ?_)
  · replace H := H.1 c2
    refine s_aload_n dX8_off_8 rfl rfl ?_
    have f3 := H.1
    replace H := H.2
    refine s_getf (c := 8) (k := 6) (t := 2) (j := 6) dX8_off_9 fl_X8_57 (by decide) (by decide) rfl rfl f3 ?_
    refine s_aload_n dX8_off_12 rfl rfl ?_
    refine s_getf (c := 8) (k := 10) (t := 2) (j := 10) dX8_off_13 fl_X8_21 (by decide) (by decide) rfl rfl f3 ?_
    refine s_iload_n dX8_off_16 rfl rfl ?_
    have f7 := H.1
    replace H := H.2
    refine s_callV (M' := MX5_wrongPlace) (As := [vR (h a0 10), vI a1]) (a := h a0 6) (st := []) dX8_off_17 ml_X8_156 cv_X5_wrongPlace rfl rfl (Nat.le_of_ble_eq_true rfl) ⟨Nat.le_refl _, Nat.le_refl _⟩ f7 (R_mono (fun r4 G5 h6 H => ?_) H)
    show S l MX8_off (d + 1, 0, 0, 0, 0) 20 [some (vR a0), some (vI a1)] [vI r4] G5 h6 Q
    exact s_iret dX8_off_20 rfl ⟨Nat.le_refl _, Nat.le_refl _⟩ H
  · replace H := H.2 c2
    refine s_iconst dX8_off_4 ?_
    refine s_goto (tgt := 20) dX8_off_5 (by decide) ?_
    exact s_iret dX8_off_20 rfl ⟨Nat.le_refl _, Nat.le_refl _⟩ H
set_option maxHeartbeats 4000000 in
set_option maxRecDepth 100000 in
theorem vX8_less_0 {l : Launch} {d : Nat} {G : GS} {h : HP} {Q : Int → GS → HP → Prop} (a0 : Int) (H : (ty G a0 = 8) ∧ (ty G (h a0 4) = 3) ∧ R l MX3_lessen d 0 0 [vR (h a0 4), vR (h a0 10)] G h (fun r2 G3 h4 => Q r2 G3 h4)) : S l MX8_less (d + 1, 0, 0, 0, 0) 0 [some (vR a0)] [] G h Q := by
  refine s_aload_n dX8_less_0 rfl rfl ?_
  have f1 := H.1
  replace H := H.2
  refine s_getf (c := 8) (k := 4) (t := 2) (j := 4) dX8_less_1 fl_X8_43 (by decide) (by decide) rfl rfl f1 ?_
  refine s_aload_n dX8_less_4 rfl rfl ?_
  refine s_getf (c := 8) (k := 10) (t := 2) (j := 10) dX8_less_5 fl_X8_21 (by decide) (by decide) rfl rfl f1 ?_
  have f5 := H.1
  replace H := H.2
  refine s_callV (M' := MX3_lessen) (As := [vR (h a0 10)]) (a := h a0 4) (st := []) dX8_less_8 ml_X8_160 cv_X3_lessen rfl rfl (Nat.le_of_ble_eq_true rfl) ⟨Nat.le_refl _, Nat.le_refl _⟩ f5 (R_mono (fun r2 G3 h4 H => ?_) H)
  show S l MX8_less (d + 1, 0, 0, 0, 0) 11 [some (vR a0)] [vI r2] G3 h4 Q
  exact s_iret dX8_less_11 rfl ⟨Nat.le_refl _, Nat.le_refl _⟩ H
set_option maxHeartbeats 4000000 in
set_option maxRecDepth 100000 in
theorem vX8_move_0 {l : Launch} {d : Nat} {G : GS} {h : HP} {Q : Int → GS → HP → Prop} (a0 a1 a2 a3 : Int) (H : R l MX8_isWay d 0 0 [vI a1] G h (fun r1 G2 h3 => (inR r1) ∧ ((r1 = 0 → Q ((-1)) G2 h3) ∧ (r1 ≠ 0 → (ty G2 a0 = 8) ∧ (ty G2 (h3 a0 10) = 4) ∧ R l MX4_hasTime d 0 0 [vR (h3 a0 10), vI a2] G2 h3 (fun r7 G8 h9 => (inR r7) ∧ ((r7 = 0 → Q ((-1)) G8 h9) ∧ (r7 ≠ 0 → (ty G8 a0 = 8) ∧ (ty G8 (h9 a0 10) = 4) ∧ R l MX4_hasTime d 0 0 [vR (h9 a0 10), vI a3] G8 h9 (fun r14 G15 h16 => (inR r14) ∧ ((r14 = 0 → Q ((-1)) G15 h16) ∧ (r14 ≠ 0 → (inR a2) ∧ (inR a3) ∧ ((a2 ≠ a3 → (ty G15 a0 = 8) ∧ (ty G15 (h16 a0 10) = 4) ∧ R l MX4_alike d 0 0 [vR (h16 a0 10), vI a1, vI a2, vI a3] G15 h16 (fun r24 G25 h26 => (inR r24) ∧ ((r24 ≠ 0 → (ty G25 a0 = 8) ∧ (ty G25 (h26 a0 4) = 3) ∧ R l MX3_doMove d 0 0 [vR (h26 a0 4), vR (h26 a0 10), vI a1, vI a2, vI a3] G25 h26 (fun r31 G32 h33 => Q 1 G32 h33)) ∧ (r24 = 0 → Q ((-4)) G25 h26)))) ∧ (a2 = a3 → Q ((-1)) G15 h16)))))))))))) : S l MX8_move (d + 1, 0, 0, 0, 0) 0 [some (vR a0), some (vI a1), some (vI a2), some (vI a3)] [] G h Q := by
  refine s_iload_n dX8_move_0 rfl rfl ?_
  refine s_callS (M' := MX8_isWay) (As := [vI a1]) (st := []) dX8_move_1 ml_X8_140 cs_X8_isWay rfl rfl (Nat.le_of_ble_eq_true rfl) ⟨Nat.le_refl _, Nat.le_refl _⟩ (R_mono (fun r1 G2 h3 H => ?_) H)
  show S l MX8_move (d + 1, 0, 0, 0, 0) 4 [some (vR a0), some (vI a1), some (vI a2), some (vI a3)] [vI r1] G2 h3 Q
  have f4 := H.1
  replace H := H.2
  refine s_if_eq (tgt := 34) dX8_move_4 (by decide) f4 (fun c5 => ?_) (fun c5 => ?_)
  · replace H := H.1 c5
    refine s_iconst dX8_move_34 ?_
    exact s_iret dX8_move_35 rfl ⟨Nat.le_refl _, Nat.le_refl _⟩ H
  · replace H := H.2 c5
    refine s_aload_n dX8_move_7 rfl rfl ?_
    have f6 := H.1
    replace H := H.2
    refine s_getf (c := 8) (k := 10) (t := 2) (j := 10) dX8_move_8 fl_X8_21 (by decide) (by decide) rfl rfl f6 ?_
    refine s_iload_n dX8_move_11 rfl rfl ?_
    have f10 := H.1
    replace H := H.2
    refine s_callV (M' := MX4_hasTime) (As := [vI a2]) (a := h3 a0 10) (st := []) dX8_move_12 ml_X8_137 cv_X4_hasTime rfl rfl (Nat.le_of_ble_eq_true rfl) ⟨Nat.le_refl _, Nat.le_refl _⟩ f10 (R_mono (fun r7 G8 h9 H => ?_) H)
    show S l MX8_move (d + 1, 0, 0, 0, 0) 15 [some (vR a0), some (vI a1), some (vI a2), some (vI a3)] [vI r7] G8 h9 Q
    have f11 := H.1
    replace H := H.2
    refine s_if_eq (tgt := 34) dX8_move_15 (by decide) f11 (fun c12 => ?_) (fun c12 => ?_)
    · replace H := H.1 c12
      refine s_iconst dX8_move_34 ?_
      exact s_iret dX8_move_35 rfl ⟨Nat.le_refl _, Nat.le_refl _⟩ H
    · replace H := H.2 c12
      refine s_aload_n dX8_move_18 rfl rfl ?_
      have f13 := H.1
      replace H := H.2
      refine s_getf (c := 8) (k := 10) (t := 2) (j := 10) dX8_move_19 fl_X8_21 (by decide) (by decide) rfl rfl f13 ?_
      refine s_iload_n dX8_move_22 rfl rfl ?_
      have f17 := H.1
      replace H := H.2
      refine s_callV (M' := MX4_hasTime) (As := [vI a3]) (a := h9 a0 10) (st := []) dX8_move_23 ml_X8_137 cv_X4_hasTime rfl rfl (Nat.le_of_ble_eq_true rfl) ⟨Nat.le_refl _, Nat.le_refl _⟩ f17 (R_mono (fun r14 G15 h16 H => ?_) H)
      show S l MX8_move (d + 1, 0, 0, 0, 0) 26 [some (vR a0), some (vI a1), some (vI a2), some (vI a3)] [vI r14] G15 h16 Q
      have f18 := H.1
      replace H := H.2
      refine s_if_eq (tgt := 34) dX8_move_26 (by decide) f18 (fun c19 => ?_) (fun c19 => ?_)
      · replace H := H.1 c19
        refine s_iconst dX8_move_34 ?_
        exact s_iret dX8_move_35 rfl ⟨Nat.le_refl _, Nat.le_refl _⟩ H
      · replace H := H.2 c19
        refine s_iload_n dX8_move_29 rfl rfl ?_
        refine s_iload_n dX8_move_30 rfl rfl ?_
        have f20 := H.1
        replace H := H.2
        have f21 := H.1
        replace H := H.2
        refine s_icmp_ne (tgt := 36) dX8_move_31 (by decide) f20 f21 (fun c22 => ?_) (fun c22 => ?_)
        · replace H := H.1 c22
          refine s_aload_n dX8_move_36 rfl rfl ?_
          have f23 := H.1
          replace H := H.2
          refine s_getf (c := 8) (k := 10) (t := 2) (j := 10) dX8_move_37 fl_X8_21 (by decide) (by decide) rfl rfl f23 ?_
          refine s_iload_n dX8_move_40 rfl rfl ?_
          refine s_iload_n dX8_move_41 rfl rfl ?_
          refine s_iload_n dX8_move_42 rfl rfl ?_
          have f27 := H.1
          replace H := H.2
          refine s_callV (M' := MX4_alike) (As := [vI a1, vI a2, vI a3]) (a := h16 a0 10) (st := []) dX8_move_43 ml_X8_163 cv_X4_alike rfl rfl (Nat.le_of_ble_eq_true rfl) ⟨Nat.le_refl _, Nat.le_refl _⟩ f27 (R_mono (fun r24 G25 h26 H => ?_) H)
          show S l MX8_move (d + 1, 0, 0, 0, 0) 46 [some (vR a0), some (vI a1), some (vI a2), some (vI a3)] [vI r24] G25 h26 Q
          have f28 := H.1
          replace H := H.2
          refine s_if_ne (tgt := 52) dX8_move_46 (by decide) f28 (fun c29 => ?_) (fun c29 => ?_)
          · replace H := H.1 c29
            refine s_aload_n dX8_move_52 rfl rfl ?_
            have f30 := H.1
            replace H := H.2
            refine s_getf (c := 8) (k := 4) (t := 2) (j := 4) dX8_move_53 fl_X8_43 (by decide) (by decide) rfl rfl f30 ?_
            refine s_aload_n dX8_move_56 rfl rfl ?_
            refine s_getf (c := 8) (k := 10) (t := 2) (j := 10) dX8_move_57 fl_X8_21 (by decide) (by decide) rfl rfl f30 ?_
            refine s_iload_n dX8_move_60 rfl rfl ?_
            refine s_iload_n dX8_move_61 rfl rfl ?_
            refine s_iload_n dX8_move_62 rfl rfl ?_
            have f34 := H.1
            replace H := H.2
            refine s_callV (M' := MX3_doMove) (As := [vR (h26 a0 10), vI a1, vI a2, vI a3]) (a := h26 a0 4) (st := []) dX8_move_63 ml_X8_166 cv_X3_doMove rfl rfl (Nat.le_of_ble_eq_true rfl) ⟨Nat.le_refl _, Nat.le_refl _⟩ f34 (R_mono (fun r31 G32 h33 H => ?_) H)
            show S l MX8_move (d + 1, 0, 0, 0, 0) 66 [some (vR a0), some (vI a1), some (vI a2), some (vI a3)] [] G32 h33 Q
            refine s_iconst dX8_move_66 ?_
            exact s_iret dX8_move_67 rfl ⟨Nat.le_refl _, Nat.le_refl _⟩ H
          · replace H := H.2 c29
            refine s_bipush dX8_move_49 (by decide) ?_
            exact s_iret dX8_move_51 rfl ⟨Nat.le_refl _, Nat.le_refl _⟩ H
        · replace H := H.2 c22
          refine s_iconst dX8_move_34 ?_
          exact s_iret dX8_move_35 rfl ⟨Nat.le_refl _, Nat.le_refl _⟩ H
set_option maxHeartbeats 4000000 in
set_option maxRecDepth 100000 in
theorem vX8_walk_0 {l : Launch} {d : Nat} {G : GS} {h : HP} {Q : Int → GS → HP → Prop} (a0 a1 a2 : Int) (H : (inR a2) ∧ ((a2 < 0 → Q ((-1)) G h) ∧ (0 ≤ a2 → ((a2 ≤ 200 → S l MX8_walk (d + 1, 0, 0, 0, 0) 18 [some (vR a0), none, some (vI a2), some (vI a1), some (vI 0), none] [] G h Q) ∧ (200 < a2 → Q ((-1)) G h))))) : S l MX8_walk (d + 1, 0, 0, 0, 0) 0 [some (vR a0), some (vI a1), some (vI a2), none, none, none] [] G h Q := by
  refine s_iload_n dX8_walk_0 rfl rfl ?_
  have f1 := H.1
  replace H := H.2
  refine s_if_lt (tgt := 11) dX8_walk_1 (by decide) f1 (fun c2 => ?_) (fun c2 => ?_)
  · replace H := H.1 c2
    refine s_iconst dX8_walk_11 ?_
    exact s_iret dX8_walk_12 rfl ⟨Nat.le_refl _, Nat.le_refl _⟩ H
  · replace H := H.2 c2
    refine s_iload_n dX8_walk_4 rfl rfl ?_
    refine s_sipush dX8_walk_5 (by decide) ?_
    refine s_icmp_le (tgt := 13) dX8_walk_8 (by decide) f1 (by decide) (fun c3 => ?_) (fun c3 => ?_)
    · replace H := H.1 c3
      refine s_iload_n dX8_walk_13 rfl rfl ?_
      refine s_istore_n dX8_walk_14 rfl (by decide) rfl ?_
      show S l MX8_walk (d + 1, 0, 0, 0, 0) 15 [some (vR a0), some (vI a1), some (vI a2), some (vI a1), none, none] [] G h Q
      refine s_iconst dX8_walk_15 ?_
      refine s_istore dX8_walk_16 (by decide) rfl ?_
      show S l MX8_walk (d + 1, 0, 0, 0, 0) 18 [some (vR a0), some (vI a1), some (vI a2), some (vI a1), some (vI 0), none] [] G h Q
      exact S_cut (by first | exact ⟨rfl, ⟨rfl, ⟨rfl, ⟨rfl, trivial⟩⟩⟩⟩ | simp [lsub]) H
    · replace H := H.2 c3
      refine s_iconst dX8_walk_11 ?_
      exact s_iret dX8_walk_12 rfl ⟨Nat.le_refl _, Nat.le_refl _⟩ H
set_option maxHeartbeats 4000000 in
set_option maxRecDepth 100000 in
theorem vX8_walk_18 {l : Launch} {d : Nat} {G : GS} {h : HP} {Q : Int → GS → HP → Prop} (a0 a2 a3 a4 : Int) (H : (inR a4) ∧ (inR a2) ∧ ((a2 ≤ a4 → (ty G a0 = 8) ∧ (ty G (h a0 10) = 4) ∧ Q (h (h a0 10) 6) G h) ∧ (a4 < a2 → (ty G a0 = 8) ∧ (ty G (h a0 4) = 3) ∧ R l MX3_countMoves d 0 0 [vR (h a0 4), vR (h a0 10)] G h (fun r7 G8 h9 => (inR r7) ∧ ((r7 ≠ 0 → (ty G8 a0 = 8) ∧ (dvR (((1103515245 * a3) + 12345) % 4294967296 / 65536) r7) ∧ (ty G8 (h9 a0 4) = 3) ∧ R l MX3_doNumbered d 0 0 [vR (h9 a0 4), vR (h9 a0 10), vI ((((1103515245 * a3) + 12345) % 4294967296 / 65536) % r7)] G8 h9 (fun r15 G16 h17 => (ty G16 a0 = 8) ∧ (ty G16 (h17 a0 4) = 3) ∧ R l MX3_lessen d 0 0 [vR (h17 a0 4), vR (h17 a0 10)] G16 h17 (fun r20 G21 h22 => S l MX8_walk (d + 1, 0, 0, 0, 0) 18 [some (vR a0), none, some (vI a2), some (vI ((1103515245 * a3) + 12345)), some (vI (a4 + 1)), none] [] G21 h22 Q))) ∧ (r7 = 0 → (ty G8 a0 = 8) ∧ (ty G8 (h9 a0 10) = 4) ∧ Q (h9 (h9 a0 10) 6) G8 h9)))))) : S l MX8_walk (d + 1, 0, 0, 0, 0) 18 [some (vR a0), none, some (vI a2), some (vI a3), some (vI a4), none] [] G h Q := by
  refine s_iload dX8_walk_18 rfl ?_
  refine s_iload_n dX8_walk_20 rfl rfl ?_
  have f1 := H.1
  replace H := H.2
  have f2 := H.1
  replace H := H.2
  refine s_icmp_ge (tgt := 90) dX8_walk_21 (by decide) f1 f2 (fun c3 => ?_) (fun c3 => ?_)
  · replace H := H.1 c3
    refine s_aload_n dX8_walk_90 rfl rfl ?_
    have f4 := H.1
    replace H := H.2
    refine s_getf (c := 8) (k := 10) (t := 2) (j := 10) dX8_walk_91 fl_X8_21 (by decide) (by decide) rfl rfl f4 ?_
    have f5 := H.1
    replace H := H.2
    refine s_getf (c := 4) (k := 6) (t := 0) (j := 6) dX8_walk_94 fl_X8_119 (by decide) (by decide) rfl rfl f5 ?_
    exact s_iret dX8_walk_97 rfl ⟨Nat.le_refl _, Nat.le_refl _⟩ H
  · replace H := H.2 c3
    refine s_aload_n dX8_walk_24 rfl rfl ?_
    have f6 := H.1
    replace H := H.2
    refine s_getf (c := 8) (k := 4) (t := 2) (j := 4) dX8_walk_25 fl_X8_43 (by decide) (by decide) rfl rfl f6 ?_
    refine s_aload_n dX8_walk_28 rfl rfl ?_
    refine s_getf (c := 8) (k := 10) (t := 2) (j := 10) dX8_walk_29 fl_X8_21 (by decide) (by decide) rfl rfl f6 ?_
    have f10 := H.1
    replace H := H.2
    refine s_callV (M' := MX3_countMoves) (As := [vR (h a0 10)]) (a := h a0 4) (st := []) dX8_walk_32 ml_X8_126 cv_X3_countMoves rfl rfl (Nat.le_of_ble_eq_true rfl) ⟨Nat.le_refl _, Nat.le_refl _⟩ f10 (R_mono (fun r7 G8 h9 H => ?_) H)
    show S l MX8_walk (d + 1, 0, 0, 0, 0) 35 [some (vR a0), none, some (vI a2), some (vI a3), some (vI a4), none] [vI r7] G8 h9 Q
    refine s_istore dX8_walk_35 (by decide) rfl ?_
    show S l MX8_walk (d + 1, 0, 0, 0, 0) 37 [some (vR a0), none, some (vI a2), some (vI a3), some (vI a4), some (vI r7)] [] G8 h9 Q
    refine s_iload dX8_walk_37 rfl ?_
    have f11 := H.1
    replace H := H.2
    refine s_if_ne (tgt := 45) dX8_walk_39 (by decide) f11 (fun c12 => ?_) (fun c12 => ?_)
    · replace H := H.1 c12
      refine s_ldc (v := 1103515245) dX8_walk_45 kc_X8_170 ?_
      refine s_iload_n dX8_walk_47 rfl rfl ?_
      refine s_imul dX8_walk_48 ?_
      refine s_sipush dX8_walk_49 (by decide) ?_
      refine s_iadd dX8_walk_52 ?_
      refine s_istore_n dX8_walk_53 rfl (by decide) rfl ?_
      show S l MX8_walk (d + 1, 0, 0, 0, 0) 54 [some (vR a0), none, some (vI a2), some (vI ((1103515245 * a3) + 12345)), some (vI a4), some (vI r7)] [] G8 h9 Q
      refine s_aload_n dX8_walk_54 rfl rfl ?_
      have f13 := H.1
      replace H := H.2
      refine s_getf (c := 8) (k := 4) (t := 2) (j := 4) dX8_walk_55 fl_X8_43 (by decide) (by decide) rfl rfl f13 ?_
      refine s_aload_n dX8_walk_58 rfl rfl ?_
      refine s_getf (c := 8) (k := 10) (t := 2) (j := 10) dX8_walk_59 fl_X8_21 (by decide) (by decide) rfl rfl f13 ?_
      refine s_iload_n dX8_walk_62 rfl rfl ?_
      refine s_bipush dX8_walk_63 (by decide) ?_
      refine s_iushr16 dX8_walk_65 ?_
      refine s_iload dX8_walk_66 rfl ?_
      have f14 := H.1
      replace H := H.2
      refine s_irem dX8_walk_68 f14 ?_
      have f18 := H.1
      replace H := H.2
      refine s_callV (M' := MX3_doNumbered) (As := [vR (h9 a0 10), vI ((((1103515245 * a3) + 12345) % 4294967296 / 65536) % r7)]) (a := h9 a0 4) (st := []) dX8_walk_69 ml_X8_171 cv_X3_doNumbered rfl rfl (Nat.le_of_ble_eq_true rfl) ⟨Nat.le_refl _, Nat.le_refl _⟩ f18 (R_mono (fun r15 G16 h17 H => ?_) H)
      show S l MX8_walk (d + 1, 0, 0, 0, 0) 72 [some (vR a0), none, some (vI a2), some (vI ((1103515245 * a3) + 12345)), some (vI a4), some (vI r7)] [] G16 h17 Q
      refine s_aload_n dX8_walk_72 rfl rfl ?_
      have f19 := H.1
      replace H := H.2
      refine s_getf (c := 8) (k := 4) (t := 2) (j := 4) dX8_walk_73 fl_X8_43 (by decide) (by decide) rfl rfl f19 ?_
      refine s_aload_n dX8_walk_76 rfl rfl ?_
      refine s_getf (c := 8) (k := 10) (t := 2) (j := 10) dX8_walk_77 fl_X8_21 (by decide) (by decide) rfl rfl f19 ?_
      have f23 := H.1
      replace H := H.2
      refine s_callV (M' := MX3_lessen) (As := [vR (h17 a0 10)]) (a := h17 a0 4) (st := []) dX8_walk_80 ml_X8_160 cv_X3_lessen rfl rfl (Nat.le_of_ble_eq_true rfl) ⟨Nat.le_refl _, Nat.le_refl _⟩ f23 (R_mono (fun r20 G21 h22 H => ?_) H)
      show S l MX8_walk (d + 1, 0, 0, 0, 0) 83 [some (vR a0), none, some (vI a2), some (vI ((1103515245 * a3) + 12345)), some (vI a4), some (vI r7)] [vI r20] G21 h22 Q
      refine s_pop dX8_walk_83 rfl ?_
      refine s_iinc dX8_walk_84 rfl (by decide) rfl ?_
      show S l MX8_walk (d + 1, 0, 0, 0, 0) 87 [some (vR a0), none, some (vI a2), some (vI ((1103515245 * a3) + 12345)), some (vI (a4 + 1)), some (vI r7)] [] G21 h22 Q
      refine s_goto (tgt := 18) dX8_walk_87 (by decide) ?_
      exact S_cut (by first | exact ⟨rfl, ⟨rfl, ⟨rfl, ⟨rfl, trivial⟩⟩⟩⟩ | simp [lsub]) H
    · replace H := H.2 c12
      refine s_goto (tgt := 90) dX8_walk_42 (by decide) ?_
      refine s_aload_n dX8_walk_90 rfl rfl ?_
      have f24 := H.1
      replace H := H.2
      refine s_getf (c := 8) (k := 10) (t := 2) (j := 10) dX8_walk_91 fl_X8_21 (by decide) (by decide) rfl rfl f24 ?_
      have f25 := H.1
      replace H := H.2
      refine s_getf (c := 4) (k := 6) (t := 0) (j := 6) dX8_walk_94 fl_X8_119 (by decide) (by decide) rfl rfl f25 ?_
      exact s_iret dX8_walk_97 rfl ⟨Nat.le_refl _, Nat.le_refl _⟩ H
set_option maxHeartbeats 4000000 in
set_option maxRecDepth 100000 in
theorem vX8_around_0 {l : Launch} {d : Nat} {G : GS} {h : HP} {Q : Int → GS → HP → Prop} (a0 : Int) (H : (ty G a0 = 8) ∧ (ty G (h a0 5) = 2) ∧ R l MX2_turnRound d 0 0 [vR (h a0 5), vR (h a0 10), vR (h a0 11)] G h (fun r2 G3 h4 => (ty G3 a0 = 8) ∧ R l MX8_takeSpare d 0 0 [vR a0] G3 h4 (fun r6 G7 h8 => Q 1 G7 h8))) : S l MX8_around (d + 1, 0, 0, 0, 0) 0 [some (vR a0)] [] G h Q := by
  refine s_aload_n dX8_around_0 rfl rfl ?_
  have f1 := H.1
  replace H := H.2
  refine s_getf (c := 8) (k := 5) (t := 2) (j := 5) dX8_around_1 fl_X8_50 (by decide) (by decide) rfl rfl f1 ?_
  refine s_aload_n dX8_around_4 rfl rfl ?_
  refine s_getf (c := 8) (k := 10) (t := 2) (j := 10) dX8_around_5 fl_X8_21 (by decide) (by decide) rfl rfl f1 ?_
  refine s_aload_n dX8_around_8 rfl rfl ?_
  refine s_getf (c := 8) (k := 11) (t := 2) (j := 11) dX8_around_9 fl_X8_25 (by decide) (by decide) rfl rfl f1 ?_
  have f5 := H.1
  replace H := H.2
  refine s_callV (M' := MX2_turnRound) (As := [vR (h a0 10), vR (h a0 11)]) (a := h a0 5) (st := []) dX8_around_12 ml_X8_175 cv_X2_turnRound rfl rfl (Nat.le_of_ble_eq_true rfl) ⟨Nat.le_refl _, Nat.le_refl _⟩ f5 (R_mono (fun r2 G3 h4 H => ?_) H)
  show S l MX8_around (d + 1, 0, 0, 0, 0) 15 [some (vR a0)] [] G3 h4 Q
  refine s_aload_n dX8_around_15 rfl rfl ?_
  have f9 := H.1
  replace H := H.2
  refine s_callV (M' := MX8_takeSpare) (As := []) (a := a0) (st := []) dX8_around_16 ml_X8_179 cv_X8_takeSpare rfl rfl (Nat.le_of_ble_eq_true rfl) ⟨Nat.le_refl _, Nat.le_refl _⟩ f9 (R_mono (fun r6 G7 h8 H => ?_) H)
  show S l MX8_around (d + 1, 0, 0, 0, 0) 19 [some (vR a0)] [] G7 h8 Q
  refine s_iconst dX8_around_19 ?_
  exact s_iret dX8_around_20 rfl ⟨Nat.le_refl _, Nat.le_refl _⟩ H
set_option maxHeartbeats 4000000 in
set_option maxRecDepth 100000 in
theorem vX8_takeSpare_0 {l : Launch} {d : Nat} {G : GS} {h : HP} {Q : Int → GS → HP → Prop} (a0 : Int) (H : (ty G a0 = 8) ∧ (0 ≤ (h a0 10)) ∧ ∀ h3 : HP, h3 = hset h a0 10 (h a0 11) → ∀ h4 : HP, h4 = hset h3 a0 11 (h a0 10) → R l MX8_emptyHands d 0 0 [vR a0] G h4 (fun r5 G6 h7 => Q 0 G6 h7)) : S l MX8_takeSpare (d + 1, 0, 0, 0, 0) 0 [some (vR a0), none] [] G h Q := by
  refine s_aload_n dX8_takeSpare_0 rfl rfl ?_
  have f1 := H.1
  replace H := H.2
  refine s_getf (c := 8) (k := 10) (t := 2) (j := 10) dX8_takeSpare_1 fl_X8_21 (by decide) (by decide) rfl rfl f1 ?_
  have f2 := H.1
  replace H := H.2
  refine s_astore_n f2 dX8_takeSpare_4 rfl (by decide) rfl ?_
  show S l MX8_takeSpare (d + 1, 0, 0, 0, 0) 5 [some (vR a0), some (vR (h a0 10))] [] G h Q
  refine s_aload_n dX8_takeSpare_5 rfl rfl ?_
  refine s_aload_n dX8_takeSpare_6 rfl rfl ?_
  refine s_getf (c := 8) (k := 11) (t := 2) (j := 11) dX8_takeSpare_7 fl_X8_25 (by decide) (by decide) rfl rfl f1 ?_
  refine s_putR (c := 8) (k := 10) (j := 10) dX8_takeSpare_10 fl_X8_21 (by decide) (by decide) rfl (Or.inl ⟨_, rfl⟩) rfl rfl f1 (fun h3 eh3 => ?_)
  replace H := H h3 eh3
  refine s_aload_n dX8_takeSpare_13 rfl rfl ?_
  refine s_aload_n dX8_takeSpare_14 rfl rfl ?_
  refine s_putR (c := 8) (k := 11) (j := 11) dX8_takeSpare_15 fl_X8_25 (by decide) (by decide) rfl (Or.inl ⟨_, rfl⟩) rfl rfl f1 (fun h4 eh4 => ?_)
  replace H := H h4 eh4
  refine s_aload_n dX8_takeSpare_18 rfl rfl ?_
  refine s_callV (M' := MX8_emptyHands) (As := []) (a := a0) (st := []) dX8_takeSpare_19 ml_X8_229 cv_X8_emptyHands rfl rfl (Nat.le_of_ble_eq_true rfl) ⟨Nat.le_refl _, Nat.le_refl _⟩ f1 (R_mono (fun r5 G6 h7 H => ?_) H)
  show S l MX8_takeSpare (d + 1, 0, 0, 0, 0) 22 [some (vR a0), some (vR (h a0 10))] [] G6 h7 Q
  exact s_vret dX8_takeSpare_22 rfl ⟨Nat.le_refl _, Nat.le_refl _⟩ H
set_option maxHeartbeats 4000000 in
set_option maxRecDepth 100000 in
theorem vX8_turn_0 {l : Launch} {d : Nat} {G : GS} {h : HP} {Q : Int → GS → HP → Prop} (a0 a1 a2 a3 a4 : Int) (H : R l MX8_isWay d 0 0 [vI a1] G h (fun r1 G2 h3 => (inR r1) ∧ ((r1 = 0 → Q ((-1)) G2 h3) ∧ (r1 ≠ 0 → (ty G2 a0 = 8) ∧ (ty G2 (h3 a0 10) = 4) ∧ R l MX4_hasIndex d 0 0 [vR (h3 a0 10), vI a1, vI a2] G2 h3 (fun r7 G8 h9 => (inR r7) ∧ ((r7 = 0 → Q ((-1)) G8 h9) ∧ (r7 ≠ 0 → (ty G8 a0 = 8) ∧ (ty G8 (h9 a0 10) = 4) ∧ R l MX4_hasIndex d 0 0 [vR (h9 a0 10), vI a1, vI a3] G8 h9 (fun r14 G15 h16 => (inR r14) ∧ ((r14 ≠ 0 → (inR a2) ∧ (inR a3) ∧ ((a2 = a3 → Q ((-1)) G15 h16) ∧ (a2 ≠ a3 → (ty G15 a0 = 8) ∧ (ty G15 (h16 a0 0) = 1) ∧ R l MX1_isNumber d 0 0 [vR (h16 a0 0), vI a4] G15 h16 (fun r24 G25 h26 => (inR r24) ∧ ((r24 ≠ 0 → (ty G25 a0 = 8) ∧ (ty G25 (h26 a0 10) = 4) ∧ R l MX4_addIndex d 0 0 [vR (h26 a0 10), vI a1, vI a2, vI a3, vI a4] G25 h26 (fun r31 G32 h33 => Q 1 G32 h33)) ∧ (r24 = 0 → Q ((-1)) G25 h26)))))) ∧ (r14 = 0 → Q ((-1)) G15 h16)))))))))) : S l MX8_turn (d + 1, 0, 0, 0, 0) 0 [some (vR a0), some (vI a1), some (vI a2), some (vI a3), some (vI a4)] [] G h Q := by
  refine s_iload_n dX8_turn_0 rfl rfl ?_
  refine s_callS (M' := MX8_isWay) (As := [vI a1]) (st := []) dX8_turn_1 ml_X8_140 cs_X8_isWay rfl rfl (Nat.le_of_ble_eq_true rfl) ⟨Nat.le_refl _, Nat.le_refl _⟩ (R_mono (fun r1 G2 h3 H => ?_) H)
  show S l MX8_turn (d + 1, 0, 0, 0, 0) 4 [some (vR a0), some (vI a1), some (vI a2), some (vI a3), some (vI a4)] [vI r1] G2 h3 Q
  have f4 := H.1
  replace H := H.2
  refine s_if_eq (tgt := 31) dX8_turn_4 (by decide) f4 (fun c5 => ?_) (fun c5 => ?_)
  · replace H := H.1 c5
    refine s_iconst dX8_turn_31 ?_
    exact s_iret dX8_turn_32 rfl ⟨Nat.le_refl _, Nat.le_refl _⟩ H
  · replace H := H.2 c5
    refine s_aload_n dX8_turn_7 rfl rfl ?_
    have f6 := H.1
    replace H := H.2
    refine s_getf (c := 8) (k := 10) (t := 2) (j := 10) dX8_turn_8 fl_X8_21 (by decide) (by decide) rfl rfl f6 ?_
    refine s_iload_n dX8_turn_11 rfl rfl ?_
    refine s_iload_n dX8_turn_12 rfl rfl ?_
    have f10 := H.1
    replace H := H.2
    refine s_callV (M' := MX4_hasIndex) (As := [vI a1, vI a2]) (a := h3 a0 10) (st := []) dX8_turn_13 ml_X8_182 cv_X4_hasIndex rfl rfl (Nat.le_of_ble_eq_true rfl) ⟨Nat.le_refl _, Nat.le_refl _⟩ f10 (R_mono (fun r7 G8 h9 H => ?_) H)
    show S l MX8_turn (d + 1, 0, 0, 0, 0) 16 [some (vR a0), some (vI a1), some (vI a2), some (vI a3), some (vI a4)] [vI r7] G8 h9 Q
    have f11 := H.1
    replace H := H.2
    refine s_if_eq (tgt := 31) dX8_turn_16 (by decide) f11 (fun c12 => ?_) (fun c12 => ?_)
    · replace H := H.1 c12
      refine s_iconst dX8_turn_31 ?_
      exact s_iret dX8_turn_32 rfl ⟨Nat.le_refl _, Nat.le_refl _⟩ H
    · replace H := H.2 c12
      refine s_aload_n dX8_turn_19 rfl rfl ?_
      have f13 := H.1
      replace H := H.2
      refine s_getf (c := 8) (k := 10) (t := 2) (j := 10) dX8_turn_20 fl_X8_21 (by decide) (by decide) rfl rfl f13 ?_
      refine s_iload_n dX8_turn_23 rfl rfl ?_
      refine s_iload_n dX8_turn_24 rfl rfl ?_
      have f17 := H.1
      replace H := H.2
      refine s_callV (M' := MX4_hasIndex) (As := [vI a1, vI a3]) (a := h9 a0 10) (st := []) dX8_turn_25 ml_X8_182 cv_X4_hasIndex rfl rfl (Nat.le_of_ble_eq_true rfl) ⟨Nat.le_refl _, Nat.le_refl _⟩ f17 (R_mono (fun r14 G15 h16 H => ?_) H)
      show S l MX8_turn (d + 1, 0, 0, 0, 0) 28 [some (vR a0), some (vI a1), some (vI a2), some (vI a3), some (vI a4)] [vI r14] G15 h16 Q
      have f18 := H.1
      replace H := H.2
      refine s_if_ne (tgt := 33) dX8_turn_28 (by decide) f18 (fun c19 => ?_) (fun c19 => ?_)
      · replace H := H.1 c19
        refine s_iload_n dX8_turn_33 rfl rfl ?_
        refine s_iload_n dX8_turn_34 rfl rfl ?_
        have f20 := H.1
        replace H := H.2
        have f21 := H.1
        replace H := H.2
        refine s_icmp_eq (tgt := 50) dX8_turn_35 (by decide) f20 f21 (fun c22 => ?_) (fun c22 => ?_)
        · replace H := H.1 c22
          refine s_iconst dX8_turn_50 ?_
          exact s_iret dX8_turn_51 rfl ⟨Nat.le_refl _, Nat.le_refl _⟩ H
        · replace H := H.2 c22
          refine s_aload_n dX8_turn_38 rfl rfl ?_
          have f23 := H.1
          replace H := H.2
          refine s_getf (c := 8) (k := 0) (t := 2) (j := 0) dX8_turn_39 fl_X8_12 (by decide) (by decide) rfl rfl f23 ?_
          refine s_iload dX8_turn_42 rfl ?_
          have f27 := H.1
          replace H := H.2
          refine s_callV (M' := MX1_isNumber) (As := [vI a4]) (a := h16 a0 0) (st := []) dX8_turn_44 ml_X8_105 cv_X1_isNumber rfl rfl (Nat.le_of_ble_eq_true rfl) ⟨Nat.le_refl _, Nat.le_refl _⟩ f27 (R_mono (fun r24 G25 h26 H => ?_) H)
          show S l MX8_turn (d + 1, 0, 0, 0, 0) 47 [some (vR a0), some (vI a1), some (vI a2), some (vI a3), some (vI a4)] [vI r24] G25 h26 Q
          have f28 := H.1
          replace H := H.2
          refine s_if_ne (tgt := 52) dX8_turn_47 (by decide) f28 (fun c29 => ?_) (fun c29 => ?_)
          · replace H := H.1 c29
            refine s_aload_n dX8_turn_52 rfl rfl ?_
            have f30 := H.1
            replace H := H.2
            refine s_getf (c := 8) (k := 10) (t := 2) (j := 10) dX8_turn_53 fl_X8_21 (by decide) (by decide) rfl rfl f30 ?_
            refine s_iload_n dX8_turn_56 rfl rfl ?_
            refine s_iload_n dX8_turn_57 rfl rfl ?_
            refine s_iload_n dX8_turn_58 rfl rfl ?_
            refine s_iload dX8_turn_59 rfl ?_
            have f34 := H.1
            replace H := H.2
            refine s_callV (M' := MX4_addIndex) (As := [vI a1, vI a2, vI a3, vI a4]) (a := h26 a0 10) (st := []) dX8_turn_61 ml_X8_185 cv_X4_addIndex rfl rfl (Nat.le_of_ble_eq_true rfl) ⟨Nat.le_refl _, Nat.le_refl _⟩ f34 (R_mono (fun r31 G32 h33 H => ?_) H)
            show S l MX8_turn (d + 1, 0, 0, 0, 0) 64 [some (vR a0), some (vI a1), some (vI a2), some (vI a3), some (vI a4)] [] G32 h33 Q
            refine s_iconst dX8_turn_64 ?_
            exact s_iret dX8_turn_65 rfl ⟨Nat.le_refl _, Nat.le_refl _⟩ H
          · replace H := H.2 c29
            refine s_iconst dX8_turn_50 ?_
            exact s_iret dX8_turn_51 rfl ⟨Nat.le_refl _, Nat.le_refl _⟩ H
      · replace H := H.2 c19
        refine s_iconst dX8_turn_31 ?_
        exact s_iret dX8_turn_32 rfl ⟨Nat.le_refl _, Nat.le_refl _⟩ H
set_option maxHeartbeats 4000000 in
set_option maxRecDepth 100000 in
theorem vX8_rank_0 {l : Launch} {d : Nat} {G : GS} {h : HP} {Q : Int → GS → HP → Prop} (a0 a1 : Int) (H : (inR a1) ∧ ((a1 ≠ 3 → R l MX8_isWay d 0 0 [vI a1] G h (fun r3 G4 h5 => (inR r3) ∧ ((r3 = 0 → Q ((-1)) G4 h5) ∧ (r3 ≠ 0 → (ty G4 a0 = 8) ∧ R l MX8_rankBy d 0 0 [vR a0, vI a1] G4 h5 (fun r8 G9 h10 => Q r8 G9 h10))))) ∧ (a1 = 3 → (ty G a0 = 8) ∧ R l MX8_rankBy d 0 0 [vR a0, vI 0] G h (fun r12 G13 h14 => (ty G13 a0 = 8) ∧ R l MX8_rankBy d 0 0 [vR a0, vI 1] G13 h14 (fun r16 G17 h18 => (ty G17 a0 = 8) ∧ R l MX8_rankBy d 0 0 [vR a0, vI 2] G17 h18 (fun r20 G21 h22 => (inR r16) ∧ (inR r20) ∧ (inR r12) ∧ (inR (if r16 < r20 then r20 else r16)) ∧ Q (if r12 < (if r16 < r20 then r20 else r16) then (if r16 < r20 then r20 else r16) else r12) G21 h22)))))) : S l MX8_rank (d + 1, 0, 0, 0, 0) 0 [some (vR a0), some (vI a1)] [] G h Q := by
  refine s_iload_n dX8_rank_0 rfl rfl ?_
  refine s_iconst dX8_rank_1 ?_
  have f1 := H.1
  replace H := H.2
  refine s_icmp_ne (tgt := 27) dX8_rank_2 (by decide) f1 (by decide) (fun c2 => ?_) (fun c2 => ?_)
  · replace H := H.1 c2
    refine s_iload_n dX8_rank_27 rfl rfl ?_
    refine s_callS (M' := MX8_isWay) (As := [vI a1]) (st := []) dX8_rank_28 ml_X8_140 cs_X8_isWay rfl rfl (Nat.le_of_ble_eq_true rfl) ⟨Nat.le_refl _, Nat.le_refl _⟩ (R_mono (fun r3 G4 h5 H => ?_) H)
    show S l MX8_rank (d + 1, 0, 0, 0, 0) 31 [some (vR a0), some (vI a1)] [vI r3] G4 h5 Q
    have f6 := H.1
    replace H := H.2
    refine s_if_eq (tgt := 42) dX8_rank_31 (by decide) f6 (fun c7 => ?_) (fun c7 => ?_)
    · replace H := H.1 c7
      refine s_iconst dX8_rank_42 ?_
      exact s_iret dX8_rank_43 rfl ⟨Nat.le_refl _, Nat.le_refl _⟩ H
    · replace H := H.2 c7
      refine s_aload_n dX8_rank_34 rfl rfl ?_
      refine s_iload_n dX8_rank_35 rfl rfl ?_
      have f11 := H.1
      replace H := H.2
      refine s_callV (M' := MX8_rankBy) (As := [vI a1]) (a := a0) (st := []) dX8_rank_36 ml_X8_188 cv_X8_rankBy rfl rfl (Nat.le_of_ble_eq_true rfl) ⟨Nat.le_refl _, Nat.le_refl _⟩ f11 (R_mono (fun r8 G9 h10 H => ?_) H)
      show S l MX8_rank (d + 1, 0, 0, 0, 0) 39 [some (vR a0), some (vI a1)] [vI r8] G9 h10 Q
      refine s_goto (tgt := 43) dX8_rank_39 (by decide) ?_
      exact s_iret dX8_rank_43 rfl ⟨Nat.le_refl _, Nat.le_refl _⟩ H
  · replace H := H.2 c2
    refine s_aload_n dX8_rank_5 rfl rfl ?_
    refine s_iconst dX8_rank_6 ?_
    have f15 := H.1
    replace H := H.2
    refine s_callV (M' := MX8_rankBy) (As := [vI 0]) (a := a0) (st := []) dX8_rank_7 ml_X8_188 cv_X8_rankBy rfl rfl (Nat.le_of_ble_eq_true rfl) ⟨Nat.le_refl _, Nat.le_refl _⟩ f15 (R_mono (fun r12 G13 h14 H => ?_) H)
    show S l MX8_rank (d + 1, 0, 0, 0, 0) 10 [some (vR a0), some (vI a1)] [vI r12] G13 h14 Q
    refine s_aload_n dX8_rank_10 rfl rfl ?_
    refine s_iconst dX8_rank_11 ?_
    have f19 := H.1
    replace H := H.2
    refine s_callV (M' := MX8_rankBy) (As := [vI 1]) (a := a0) (st := [vI r12]) dX8_rank_12 ml_X8_188 cv_X8_rankBy rfl rfl (Nat.le_of_ble_eq_true rfl) ⟨Nat.le_refl _, Nat.le_refl _⟩ f19 (R_mono (fun r16 G17 h18 H => ?_) H)
    show S l MX8_rank (d + 1, 0, 0, 0, 0) 15 [some (vR a0), some (vI a1)] [vI r16, vI r12] G17 h18 Q
    refine s_aload_n dX8_rank_15 rfl rfl ?_
    refine s_iconst dX8_rank_16 ?_
    have f23 := H.1
    replace H := H.2
    refine s_callV (M' := MX8_rankBy) (As := [vI 2]) (a := a0) (st := [vI r16, vI r12]) dX8_rank_17 ml_X8_188 cv_X8_rankBy rfl rfl (Nat.le_of_ble_eq_true rfl) ⟨Nat.le_refl _, Nat.le_refl _⟩ f23 (R_mono (fun r20 G21 h22 H => ?_) H)
    show S l MX8_rank (d + 1, 0, 0, 0, 0) 20 [some (vR a0), some (vI a1)] [vI r20, vI r16, vI r12] G21 h22 Q
    have f24 := H.1
    replace H := H.2
    have f25 := H.1
    replace H := H.2
    refine s_mmax dX8_rank_20 ml_X8_192 ⟨Nat.le_refl _, Nat.le_refl _⟩ (Nat.le_of_ble_eq_true rfl) f24 f25 ?_
    have f26 := H.1
    replace H := H.2
    have f27 := H.1
    replace H := H.2
    refine s_mmax dX8_rank_23 ml_X8_192 ⟨Nat.le_refl _, Nat.le_refl _⟩ (Nat.le_of_ble_eq_true rfl) f26 f27 ?_
    exact s_iret dX8_rank_26 rfl ⟨Nat.le_refl _, Nat.le_refl _⟩ H
set_option maxHeartbeats 4000000 in
set_option maxRecDepth 100000 in
theorem vX8_rankBy_0 {l : Launch} {d : Nat} {G : GS} {h : HP} {Q : Int → GS → HP → Prop} (a0 a1 : Int) (H : (inR a1) ∧ ((a1 ≠ 0 → ((a1 ≠ 2 → (ty G a0 = 8) ∧ (ty G (h a0 7) = 0) ∧ R l MX0_clear d 0 0 [vR (h a0 7)] G h (fun r5 G6 h7 => S l MX8_rankBy (d + 1, 0, 0, 0, 0) 31 [some (vR a0), some (vI a1), some (vI 0), some (vI 2), some (vI 0), none] [] G6 h7 Q)) ∧ (a1 = 2 → (ty G a0 = 8) ∧ (ty G (h a0 7) = 0) ∧ R l MX0_clear d 0 0 [vR (h a0 7)] G h (fun r10 G11 h12 => S l MX8_rankBy (d + 1, 0, 0, 0, 0) 31 [some (vR a0), some (vI a1), some (vI 0), some (vI 1), some (vI 0), none] [] G11 h12 Q)))) ∧ (a1 = 0 → ((a1 ≠ 2 → (ty G a0 = 8) ∧ (ty G (h a0 7) = 0) ∧ R l MX0_clear d 0 0 [vR (h a0 7)] G h (fun r16 G17 h18 => S l MX8_rankBy (d + 1, 0, 0, 0, 0) 31 [some (vR a0), some (vI a1), some (vI 1), some (vI 2), some (vI 0), none] [] G17 h18 Q)) ∧ (a1 = 2 → (ty G a0 = 8) ∧ (ty G (h a0 7) = 0) ∧ R l MX0_clear d 0 0 [vR (h a0 7)] G h (fun r21 G22 h23 => S l MX8_rankBy (d + 1, 0, 0, 0, 0) 31 [some (vR a0), some (vI a1), some (vI 1), some (vI 1), some (vI 0), none] [] G22 h23 Q)))))) : S l MX8_rankBy (d + 1, 0, 0, 0, 0) 0 [some (vR a0), some (vI a1), none, none, none, none] [] G h Q := by
  refine s_iload_n dX8_rankBy_0 rfl rfl ?_
  have f1 := H.1
  replace H := H.2
  refine s_if_ne (tgt := 8) dX8_rankBy_1 (by decide) f1 (fun c2 => ?_) (fun c2 => ?_)
  · replace H := H.1 c2
    refine s_iconst dX8_rankBy_8 ?_
    refine s_istore_n dX8_rankBy_9 rfl (by decide) rfl ?_
    show S l MX8_rankBy (d + 1, 0, 0, 0, 0) 10 [some (vR a0), some (vI a1), some (vI 0), none, none, none] [] G h Q
    refine s_iload_n dX8_rankBy_10 rfl rfl ?_
    refine s_iconst dX8_rankBy_11 ?_
    refine s_icmp_ne (tgt := 19) dX8_rankBy_12 (by decide) f1 (by decide) (fun c3 => ?_) (fun c3 => ?_)
    · replace H := H.1 c3
      refine s_iconst dX8_rankBy_19 ?_
      refine s_istore_n dX8_rankBy_20 rfl (by decide) rfl ?_
      show S l MX8_rankBy (d + 1, 0, 0, 0, 0) 21 [some (vR a0), some (vI a1), some (vI 0), some (vI 2), none, none] [] G h Q
      refine s_aload_n dX8_rankBy_21 rfl rfl ?_
      have f4 := H.1
      replace H := H.2
      refine s_getf (c := 8) (k := 7) (t := 2) (j := 7) dX8_rankBy_22 fl_X8_64 (by decide) (by decide) rfl rfl f4 ?_
      have f8 := H.1
      replace H := H.2
      refine s_callV (M' := MX0_clear) (As := []) (a := h a0 7) (st := []) dX8_rankBy_25 ml_X8_242 cv_X0_clear rfl rfl (Nat.le_of_ble_eq_true rfl) ⟨Nat.le_refl _, Nat.le_refl _⟩ f8 (R_mono (fun r5 G6 h7 H => ?_) H)
      show S l MX8_rankBy (d + 1, 0, 0, 0, 0) 28 [some (vR a0), some (vI a1), some (vI 0), some (vI 2), none, none] [] G6 h7 Q
      refine s_iconst dX8_rankBy_28 ?_
      refine s_istore dX8_rankBy_29 (by decide) rfl ?_
      show S l MX8_rankBy (d + 1, 0, 0, 0, 0) 31 [some (vR a0), some (vI a1), some (vI 0), some (vI 2), some (vI 0), none] [] G6 h7 Q
      exact S_cut (by first | exact ⟨rfl, ⟨rfl, ⟨rfl, ⟨rfl, ⟨rfl, trivial⟩⟩⟩⟩⟩ | simp [lsub]) H
    · replace H := H.2 c3
      refine s_iconst dX8_rankBy_15 ?_
      refine s_goto (tgt := 20) dX8_rankBy_16 (by decide) ?_
      refine s_istore_n dX8_rankBy_20 rfl (by decide) rfl ?_
      show S l MX8_rankBy (d + 1, 0, 0, 0, 0) 21 [some (vR a0), some (vI a1), some (vI 0), some (vI 1), none, none] [] G h Q
      refine s_aload_n dX8_rankBy_21 rfl rfl ?_
      have f9 := H.1
      replace H := H.2
      refine s_getf (c := 8) (k := 7) (t := 2) (j := 7) dX8_rankBy_22 fl_X8_64 (by decide) (by decide) rfl rfl f9 ?_
      have f13 := H.1
      replace H := H.2
      refine s_callV (M' := MX0_clear) (As := []) (a := h a0 7) (st := []) dX8_rankBy_25 ml_X8_242 cv_X0_clear rfl rfl (Nat.le_of_ble_eq_true rfl) ⟨Nat.le_refl _, Nat.le_refl _⟩ f13 (R_mono (fun r10 G11 h12 H => ?_) H)
      show S l MX8_rankBy (d + 1, 0, 0, 0, 0) 28 [some (vR a0), some (vI a1), some (vI 0), some (vI 1), none, none] [] G11 h12 Q
      refine s_iconst dX8_rankBy_28 ?_
      refine s_istore dX8_rankBy_29 (by decide) rfl ?_
      show S l MX8_rankBy (d + 1, 0, 0, 0, 0) 31 [some (vR a0), some (vI a1), some (vI 0), some (vI 1), some (vI 0), none] [] G11 h12 Q
      exact S_cut (by first | exact ⟨rfl, ⟨rfl, ⟨rfl, ⟨rfl, ⟨rfl, trivial⟩⟩⟩⟩⟩ | simp [lsub]) H
  · replace H := H.2 c2
    refine s_iconst dX8_rankBy_4 ?_
    refine s_goto (tgt := 9) dX8_rankBy_5 (by decide) ?_
    refine s_istore_n dX8_rankBy_9 rfl (by decide) rfl ?_
    show S l MX8_rankBy (d + 1, 0, 0, 0, 0) 10 [some (vR a0), some (vI a1), some (vI 1), none, none, none] [] G h Q
    refine s_iload_n dX8_rankBy_10 rfl rfl ?_
    refine s_iconst dX8_rankBy_11 ?_
    refine s_icmp_ne (tgt := 19) dX8_rankBy_12 (by decide) f1 (by decide) (fun c14 => ?_) (fun c14 => ?_)
    · replace H := H.1 c14
      refine s_iconst dX8_rankBy_19 ?_
      refine s_istore_n dX8_rankBy_20 rfl (by decide) rfl ?_
      show S l MX8_rankBy (d + 1, 0, 0, 0, 0) 21 [some (vR a0), some (vI a1), some (vI 1), some (vI 2), none, none] [] G h Q
      refine s_aload_n dX8_rankBy_21 rfl rfl ?_
      have f15 := H.1
      replace H := H.2
      refine s_getf (c := 8) (k := 7) (t := 2) (j := 7) dX8_rankBy_22 fl_X8_64 (by decide) (by decide) rfl rfl f15 ?_
      have f19 := H.1
      replace H := H.2
      refine s_callV (M' := MX0_clear) (As := []) (a := h a0 7) (st := []) dX8_rankBy_25 ml_X8_242 cv_X0_clear rfl rfl (Nat.le_of_ble_eq_true rfl) ⟨Nat.le_refl _, Nat.le_refl _⟩ f19 (R_mono (fun r16 G17 h18 H => ?_) H)
      show S l MX8_rankBy (d + 1, 0, 0, 0, 0) 28 [some (vR a0), some (vI a1), some (vI 1), some (vI 2), none, none] [] G17 h18 Q
      refine s_iconst dX8_rankBy_28 ?_
      refine s_istore dX8_rankBy_29 (by decide) rfl ?_
      show S l MX8_rankBy (d + 1, 0, 0, 0, 0) 31 [some (vR a0), some (vI a1), some (vI 1), some (vI 2), some (vI 0), none] [] G17 h18 Q
      exact S_cut (by first | exact ⟨rfl, ⟨rfl, ⟨rfl, ⟨rfl, ⟨rfl, trivial⟩⟩⟩⟩⟩ | simp [lsub]) H
    · replace H := H.2 c14
      refine s_iconst dX8_rankBy_15 ?_
      refine s_goto (tgt := 20) dX8_rankBy_16 (by decide) ?_
      refine s_istore_n dX8_rankBy_20 rfl (by decide) rfl ?_
      show S l MX8_rankBy (d + 1, 0, 0, 0, 0) 21 [some (vR a0), some (vI a1), some (vI 1), some (vI 1), none, none] [] G h Q
      refine s_aload_n dX8_rankBy_21 rfl rfl ?_
      have f20 := H.1
      replace H := H.2
      refine s_getf (c := 8) (k := 7) (t := 2) (j := 7) dX8_rankBy_22 fl_X8_64 (by decide) (by decide) rfl rfl f20 ?_
      have f24 := H.1
      replace H := H.2
      refine s_callV (M' := MX0_clear) (As := []) (a := h a0 7) (st := []) dX8_rankBy_25 ml_X8_242 cv_X0_clear rfl rfl (Nat.le_of_ble_eq_true rfl) ⟨Nat.le_refl _, Nat.le_refl _⟩ f24 (R_mono (fun r21 G22 h23 H => ?_) H)
      show S l MX8_rankBy (d + 1, 0, 0, 0, 0) 28 [some (vR a0), some (vI a1), some (vI 1), some (vI 1), none, none] [] G22 h23 Q
      refine s_iconst dX8_rankBy_28 ?_
      refine s_istore dX8_rankBy_29 (by decide) rfl ?_
      show S l MX8_rankBy (d + 1, 0, 0, 0, 0) 31 [some (vR a0), some (vI a1), some (vI 1), some (vI 1), some (vI 0), none] [] G22 h23 Q
      exact S_cut (by first | exact ⟨rfl, ⟨rfl, ⟨rfl, ⟨rfl, ⟨rfl, trivial⟩⟩⟩⟩⟩ | simp [lsub]) H
set_option maxHeartbeats 4000000 in
set_option maxRecDepth 100000 in
theorem vX8_rankBy_31 {l : Launch} {d : Nat} {G : GS} {h : HP} {Q : Int → GS → HP → Prop} (a0 a1 a2 a3 a4 : Int) (H : (ty G a0 = 8) ∧ (ty G (h a0 10) = 4) ∧ (inA G 10 (h (h a0 10) 1) a2) ∧ (inR a4) ∧ (inR (h (h (h a0 10) 1) a2)) ∧ (((h (h (h a0 10) 1) a2) ≤ a4 → (ty G (h a0 7) = 0) ∧ Q (h (h a0 7) 4) G h) ∧ (a4 < (h (h (h a0 10) 1) a2) → S l MX8_rankBy (d + 1, 0, 0, 0, 0) 48 [some (vR a0), some (vI a1), some (vI a2), some (vI a3), some (vI a4), some (vI 0)] [] G h Q))) : S l MX8_rankBy (d + 1, 0, 0, 0, 0) 31 [some (vR a0), some (vI a1), some (vI a2), some (vI a3), some (vI a4), none] [] G h Q := by
  refine s_iload dX8_rankBy_31 rfl ?_
  refine s_aload_n dX8_rankBy_33 rfl rfl ?_
  have f1 := H.1
  replace H := H.2
  refine s_getf (c := 8) (k := 10) (t := 2) (j := 10) dX8_rankBy_34 fl_X8_21 (by decide) (by decide) rfl rfl f1 ?_
  have f2 := H.1
  replace H := H.2
  refine s_getf (c := 4) (k := 1) (t := 2) (j := 1) dX8_rankBy_37 fl_X8_116 (by decide) (by decide) rfl rfl f2 ?_
  refine s_iload_n dX8_rankBy_40 rfl rfl ?_
  have f3 := H.1
  replace H := H.2
  refine s_iald dX8_rankBy_41 f3 ?_
  have f4 := H.1
  replace H := H.2
  have f5 := H.1
  replace H := H.2
  refine s_icmp_ge (tgt := 94) dX8_rankBy_42 (by decide) f4 f5 (fun c6 => ?_) (fun c6 => ?_)
  · replace H := H.1 c6
    refine s_aload_n dX8_rankBy_94 rfl rfl ?_
    refine s_getf (c := 8) (k := 7) (t := 2) (j := 7) dX8_rankBy_95 fl_X8_64 (by decide) (by decide) rfl rfl f1 ?_
    have f7 := H.1
    replace H := H.2
    refine s_getf (c := 0) (k := 4) (t := 0) (j := 4) dX8_rankBy_98 fl_X8_251 (by decide) (by decide) rfl rfl f7 ?_
    exact s_iret dX8_rankBy_101 rfl ⟨Nat.le_refl _, Nat.le_refl _⟩ H
  · replace H := H.2 c6
    refine s_iconst dX8_rankBy_45 ?_
    refine s_istore dX8_rankBy_46 (by decide) rfl ?_
    show S l MX8_rankBy (d + 1, 0, 0, 0, 0) 48 [some (vR a0), some (vI a1), some (vI a2), some (vI a3), some (vI a4), some (vI 0)] [] G h Q
    exact S_cut (by first | exact ⟨rfl, ⟨rfl, ⟨rfl, ⟨rfl, ⟨rfl, ⟨rfl, trivial⟩⟩⟩⟩⟩⟩ | simp [lsub]) H
set_option maxHeartbeats 4000000 in
set_option maxRecDepth 100000 in
theorem vX8_rankBy_48 {l : Launch} {d : Nat} {G : GS} {h : HP} {Q : Int → GS → HP → Prop} (a0 a1 a2 a3 a4 a5 : Int) (H : (ty G a0 = 8) ∧ (ty G (h a0 10) = 4) ∧ (inA G 10 (h (h a0 10) 1) a3) ∧ (inR a5) ∧ (inR (h (h (h a0 10) 1) a3)) ∧ (((h (h (h a0 10) 1) a3) ≤ a5 → S l MX8_rankBy (d + 1, 0, 0, 0, 0) 31 [some (vR a0), some (vI a1), some (vI a2), some (vI a3), some (vI (a4 + 1)), none] [] G h Q) ∧ (a5 < (h (h (h a0 10) 1) a3) → R l MX4_line d 0 0 [vR (h a0 10), vI a1, vI a4, vI a5] G h (fun r7 G8 h9 => (ty G8 (h a0 7) = 0) ∧ R l MX0_add d 0 0 [vR (h a0 7), vI r7] G8 h9 (fun r10 G11 h12 => S l MX8_rankBy (d + 1, 0, 0, 0, 0) 48 [some (vR a0), some (vI a1), some (vI a2), some (vI a3), some (vI a4), some (vI (a5 + 1))] [] G11 h12 Q))))) : S l MX8_rankBy (d + 1, 0, 0, 0, 0) 48 [some (vR a0), some (vI a1), some (vI a2), some (vI a3), some (vI a4), some (vI a5)] [] G h Q := by
  refine s_iload dX8_rankBy_48 rfl ?_
  refine s_aload_n dX8_rankBy_50 rfl rfl ?_
  have f1 := H.1
  replace H := H.2
  refine s_getf (c := 8) (k := 10) (t := 2) (j := 10) dX8_rankBy_51 fl_X8_21 (by decide) (by decide) rfl rfl f1 ?_
  have f2 := H.1
  replace H := H.2
  refine s_getf (c := 4) (k := 1) (t := 2) (j := 1) dX8_rankBy_54 fl_X8_116 (by decide) (by decide) rfl rfl f2 ?_
  refine s_iload_n dX8_rankBy_57 rfl rfl ?_
  have f3 := H.1
  replace H := H.2
  refine s_iald dX8_rankBy_58 f3 ?_
  have f4 := H.1
  replace H := H.2
  have f5 := H.1
  replace H := H.2
  refine s_icmp_ge (tgt := 88) dX8_rankBy_59 (by decide) f4 f5 (fun c6 => ?_) (fun c6 => ?_)
  · replace H := H.1 c6
    refine s_iinc dX8_rankBy_88 rfl (by decide) rfl ?_
    show S l MX8_rankBy (d + 1, 0, 0, 0, 0) 91 [some (vR a0), some (vI a1), some (vI a2), some (vI a3), some (vI (a4 + 1)), some (vI a5)] [] G h Q
    refine s_goto (tgt := 31) dX8_rankBy_91 (by decide) ?_
    exact S_cut (by first | exact ⟨rfl, ⟨rfl, ⟨rfl, ⟨rfl, ⟨rfl, trivial⟩⟩⟩⟩⟩ | simp [lsub]) H
  · replace H := H.2 c6
    refine s_aload_n dX8_rankBy_62 rfl rfl ?_
    refine s_getf (c := 8) (k := 7) (t := 2) (j := 7) dX8_rankBy_63 fl_X8_64 (by decide) (by decide) rfl rfl f1 ?_
    refine s_aload_n dX8_rankBy_66 rfl rfl ?_
    refine s_getf (c := 8) (k := 10) (t := 2) (j := 10) dX8_rankBy_67 fl_X8_21 (by decide) (by decide) rfl rfl f1 ?_
    refine s_iload_n dX8_rankBy_70 rfl rfl ?_
    refine s_iload dX8_rankBy_71 rfl ?_
    refine s_iload dX8_rankBy_73 rfl ?_
    refine s_callV (M' := MX4_line) (As := [vI a1, vI a4, vI a5]) (a := h a0 10) (st := [vR (h a0 7)]) dX8_rankBy_75 ml_X8_245 cv_X4_line rfl rfl (Nat.le_of_ble_eq_true rfl) ⟨Nat.le_refl _, Nat.le_refl _⟩ f2 (R_mono (fun r7 G8 h9 H => ?_) H)
    show S l MX8_rankBy (d + 1, 0, 0, 0, 0) 78 [some (vR a0), some (vI a1), some (vI a2), some (vI a3), some (vI a4), some (vI a5)] [vI r7, vR (h a0 7)] G8 h9 Q
    have f13 := H.1
    replace H := H.2
    refine s_callV (M' := MX0_add) (As := [vI r7]) (a := h a0 7) (st := []) dX8_rankBy_78 ml_X8_248 cv_X0_add rfl rfl (Nat.le_of_ble_eq_true rfl) ⟨Nat.le_refl _, Nat.le_refl _⟩ f13 (R_mono (fun r10 G11 h12 H => ?_) H)
    show S l MX8_rankBy (d + 1, 0, 0, 0, 0) 81 [some (vR a0), some (vI a1), some (vI a2), some (vI a3), some (vI a4), some (vI a5)] [vI r10] G11 h12 Q
    refine s_pop dX8_rankBy_81 rfl ?_
    refine s_iinc dX8_rankBy_82 rfl (by decide) rfl ?_
    show S l MX8_rankBy (d + 1, 0, 0, 0, 0) 85 [some (vR a0), some (vI a1), some (vI a2), some (vI a3), some (vI a4), some (vI (a5 + 1))] [] G11 h12 Q
    refine s_goto (tgt := 48) dX8_rankBy_85 (by decide) ?_
    exact S_cut (by first | exact ⟨rfl, ⟨rfl, ⟨rfl, ⟨rfl, ⟨rfl, ⟨rfl, trivial⟩⟩⟩⟩⟩⟩ | simp [lsub]) H
set_option maxHeartbeats 4000000 in
set_option maxRecDepth 100000 in
theorem vX8_least_0 {l : Launch} {d : Nat} {G : GS} {h : HP} {Q : Int → GS → HP → Prop} (a0 : Int) (H : (ty G a0 = 8) ∧ (ty G (h a0 8) = 6) ∧ R l MX6_seek d 0 0 [vR (h a0 8), vR (h a0 10)] G h (fun r2 G3 h4 => Q r2 G3 h4)) : S l MX8_least (d + 1, 0, 0, 0, 0) 0 [some (vR a0)] [] G h Q := by
  refine s_aload_n dX8_least_0 rfl rfl ?_
  have f1 := H.1
  replace H := H.2
  refine s_getf (c := 8) (k := 8) (t := 2) (j := 8) dX8_least_1 fl_X8_71 (by decide) (by decide) rfl rfl f1 ?_
  refine s_aload_n dX8_least_4 rfl rfl ?_
  refine s_getf (c := 8) (k := 10) (t := 2) (j := 10) dX8_least_5 fl_X8_21 (by decide) (by decide) rfl rfl f1 ?_
  have f5 := H.1
  replace H := H.2
  refine s_callV (M' := MX6_seek) (As := [vR (h a0 10)]) (a := h a0 8) (st := []) dX8_least_8 ml_X8_197 cv_X6_seek rfl rfl (Nat.le_of_ble_eq_true rfl) ⟨Nat.le_refl _, Nat.le_refl _⟩ f5 (R_mono (fun r2 G3 h4 H => ?_) H)
  show S l MX8_least (d + 1, 0, 0, 0, 0) 11 [some (vR a0)] [vI r2] G3 h4 Q
  exact s_iret dX8_least_11 rfl ⟨Nat.le_refl _, Nat.le_refl _⟩ H
set_option maxHeartbeats 4000000 in
set_option maxRecDepth 100000 in
theorem vX8_find_0 {l : Launch} {d : Nat} {G : GS} {h : HP} {Q : Int → GS → HP → Prop} (a0 : Int) (H : (ty G a0 = 8) ∧ (ty G (h a0 8) = 6) ∧ R l MX6_seek d 0 0 [vR (h a0 8), vR (h a0 10)] G h (fun r2 G3 h4 => (inR r2) ∧ ((r2 < 0 → Q r2 G3 h4) ∧ (0 ≤ r2 → (ty G3 a0 = 8) ∧ (ty G3 (h4 a0 8) = 6) ∧ R l MX6_writeScheme d 0 0 [vR (h4 a0 8), vR (h4 a0 10), vI r2] G3 h4 (fun r9 G10 h11 => Q r2 G10 h11))))) : S l MX8_find (d + 1, 0, 0, 0, 0) 0 [some (vR a0), none] [] G h Q := by
  refine s_aload_n dX8_find_0 rfl rfl ?_
  have f1 := H.1
  replace H := H.2
  refine s_getf (c := 8) (k := 8) (t := 2) (j := 8) dX8_find_1 fl_X8_71 (by decide) (by decide) rfl rfl f1 ?_
  refine s_aload_n dX8_find_4 rfl rfl ?_
  refine s_getf (c := 8) (k := 10) (t := 2) (j := 10) dX8_find_5 fl_X8_21 (by decide) (by decide) rfl rfl f1 ?_
  have f5 := H.1
  replace H := H.2
  refine s_callV (M' := MX6_seek) (As := [vR (h a0 10)]) (a := h a0 8) (st := []) dX8_find_8 ml_X8_197 cv_X6_seek rfl rfl (Nat.le_of_ble_eq_true rfl) ⟨Nat.le_refl _, Nat.le_refl _⟩ f5 (R_mono (fun r2 G3 h4 H => ?_) H)
  show S l MX8_find (d + 1, 0, 0, 0, 0) 11 [some (vR a0), none] [vI r2] G3 h4 Q
  refine s_istore_n dX8_find_11 rfl (by decide) rfl ?_
  show S l MX8_find (d + 1, 0, 0, 0, 0) 12 [some (vR a0), some (vI r2)] [] G3 h4 Q
  refine s_iload_n dX8_find_12 rfl rfl ?_
  have f6 := H.1
  replace H := H.2
  refine s_if_lt (tgt := 28) dX8_find_13 (by decide) f6 (fun c7 => ?_) (fun c7 => ?_)
  · replace H := H.1 c7
    refine s_iload_n dX8_find_28 rfl rfl ?_
    exact s_iret dX8_find_29 rfl ⟨Nat.le_refl _, Nat.le_refl _⟩ H
  · replace H := H.2 c7
    refine s_aload_n dX8_find_16 rfl rfl ?_
    have f8 := H.1
    replace H := H.2
    refine s_getf (c := 8) (k := 8) (t := 2) (j := 8) dX8_find_17 fl_X8_71 (by decide) (by decide) rfl rfl f8 ?_
    refine s_aload_n dX8_find_20 rfl rfl ?_
    refine s_getf (c := 8) (k := 10) (t := 2) (j := 10) dX8_find_21 fl_X8_21 (by decide) (by decide) rfl rfl f8 ?_
    refine s_iload_n dX8_find_24 rfl rfl ?_
    have f12 := H.1
    replace H := H.2
    refine s_callV (M' := MX6_writeScheme) (As := [vR (h4 a0 10), vI r2]) (a := h4 a0 8) (st := []) dX8_find_25 ml_X8_200 cv_X6_writeScheme rfl rfl (Nat.le_of_ble_eq_true rfl) ⟨Nat.le_refl _, Nat.le_refl _⟩ f12 (R_mono (fun r9 G10 h11 H => ?_) H)
    show S l MX8_find (d + 1, 0, 0, 0, 0) 28 [some (vR a0), some (vI r2)] [] G10 h11 Q
    refine s_iload_n dX8_find_28 rfl rfl ?_
    exact s_iret dX8_find_29 rfl ⟨Nat.le_refl _, Nat.le_refl _⟩ H
set_option maxHeartbeats 4000000 in
set_option maxRecDepth 100000 in
theorem vX8_hand_0 {l : Launch} {d : Nat} {G : GS} {h : HP} {Q : Int → GS → HP → Prop} (a0 a1 a2 a3 : Int) (H : (inR a1) ∧ ((a1 = 0 → (ty G a0 = 8) ∧ (ty G (h a0 10) = 4) ∧ R l MX4_hasIndex d 0 0 [vR (h a0 10), vI a1, vI a2] G h (fun r4 G5 h6 => (inR r4) ∧ ((r4 = 0 → Q ((-1)) G5 h6) ∧ (r4 ≠ 0 → (ty G5 a0 = 8) ∧ (ty G5 (h6 a0 0) = 1) ∧ R l MX1_isNumber d 0 0 [vR (h6 a0 0), vI a3] G5 h6 (fun r11 G12 h13 => (inR r11) ∧ ((r11 ≠ 0 → (ty G12 a0 = 8) ∧ (inA G12 10 (h13 a0 3) a1) ∧ (ty G12 (h13 a0 0) = 1) ∧ R l MX1_withNumber d 0 0 [vR (h13 a0 0), vI (h13 (h13 a0 3) a1), vI a2, vI a3] G12 h13 (fun r19 G20 h21 => (inA G20 10 (h13 a0 3) a1) ∧ ∀ h24 : HP, h24 = hset h21 (h13 a0 3) a1 r19 → Q 1 G20 h24)) ∧ (r11 = 0 → Q ((-1)) G12 h13))))))) ∧ (a1 ≠ 0 → ((a1 = 1 → (ty G a0 = 8) ∧ (ty G (h a0 10) = 4) ∧ R l MX4_hasIndex d 0 0 [vR (h a0 10), vI a1, vI a2] G h (fun r27 G28 h29 => (inR r27) ∧ ((r27 = 0 → Q ((-1)) G28 h29) ∧ (r27 ≠ 0 → (ty G28 a0 = 8) ∧ (ty G28 (h29 a0 0) = 1) ∧ R l MX1_isNumber d 0 0 [vR (h29 a0 0), vI a3] G28 h29 (fun r34 G35 h36 => (inR r34) ∧ ((r34 ≠ 0 → (ty G35 a0 = 8) ∧ (inA G35 10 (h36 a0 3) a1) ∧ (ty G35 (h36 a0 0) = 1) ∧ R l MX1_withNumber d 0 0 [vR (h36 a0 0), vI (h36 (h36 a0 3) a1), vI a2, vI a3] G35 h36 (fun r42 G43 h44 => (inA G43 10 (h36 a0 3) a1) ∧ ∀ h47 : HP, h47 = hset h44 (h36 a0 3) a1 r42 → Q 1 G43 h47)) ∧ (r34 = 0 → Q ((-1)) G35 h36))))))) ∧ (a1 ≠ 1 → Q ((-1)) G h))))) : S l MX8_hand (d + 1, 0, 0, 0, 0) 0 [some (vR a0), some (vI a1), some (vI a2), some (vI a3)] [] G h Q := by
  refine s_iload_n dX8_hand_0 rfl rfl ?_
  have f1 := H.1
  replace H := H.2
  refine s_if_eq (tgt := 11) dX8_hand_1 (by decide) f1 (fun c2 => ?_) (fun c2 => ?_)
  · replace H := H.1 c2
    refine s_aload_n dX8_hand_11 rfl rfl ?_
    have f3 := H.1
    replace H := H.2
    refine s_getf (c := 8) (k := 10) (t := 2) (j := 10) dX8_hand_12 fl_X8_21 (by decide) (by decide) rfl rfl f3 ?_
    refine s_iload_n dX8_hand_15 rfl rfl ?_
    refine s_iload_n dX8_hand_16 rfl rfl ?_
    have f7 := H.1
    replace H := H.2
    refine s_callV (M' := MX4_hasIndex) (As := [vI a1, vI a2]) (a := h a0 10) (st := []) dX8_hand_17 ml_X8_182 cv_X4_hasIndex rfl rfl (Nat.le_of_ble_eq_true rfl) ⟨Nat.le_refl _, Nat.le_refl _⟩ f7 (R_mono (fun r4 G5 h6 H => ?_) H)
    show S l MX8_hand (d + 1, 0, 0, 0, 0) 20 [some (vR a0), some (vI a1), some (vI a2), some (vI a3)] [vI r4] G5 h6 Q
    have f8 := H.1
    replace H := H.2
    refine s_if_eq (tgt := 34) dX8_hand_20 (by decide) f8 (fun c9 => ?_) (fun c9 => ?_)
    · replace H := H.1 c9
      refine s_iconst dX8_hand_34 ?_
      exact s_iret dX8_hand_35 rfl ⟨Nat.le_refl _, Nat.le_refl _⟩ H
    · replace H := H.2 c9
      refine s_aload_n dX8_hand_23 rfl rfl ?_
      have f10 := H.1
      replace H := H.2
      refine s_getf (c := 8) (k := 0) (t := 2) (j := 0) dX8_hand_24 fl_X8_12 (by decide) (by decide) rfl rfl f10 ?_
      refine s_iload_n dX8_hand_27 rfl rfl ?_
      have f14 := H.1
      replace H := H.2
      refine s_callV (M' := MX1_isNumber) (As := [vI a3]) (a := h6 a0 0) (st := []) dX8_hand_28 ml_X8_105 cv_X1_isNumber rfl rfl (Nat.le_of_ble_eq_true rfl) ⟨Nat.le_refl _, Nat.le_refl _⟩ f14 (R_mono (fun r11 G12 h13 H => ?_) H)
      show S l MX8_hand (d + 1, 0, 0, 0, 0) 31 [some (vR a0), some (vI a1), some (vI a2), some (vI a3)] [vI r11] G12 h13 Q
      have f15 := H.1
      replace H := H.2
      refine s_if_ne (tgt := 36) dX8_hand_31 (by decide) f15 (fun c16 => ?_) (fun c16 => ?_)
      · replace H := H.1 c16
        refine s_aload_n dX8_hand_36 rfl rfl ?_
        have f17 := H.1
        replace H := H.2
        refine s_getf (c := 8) (k := 3) (t := 2) (j := 3) dX8_hand_37 fl_X8_36 (by decide) (by decide) rfl rfl f17 ?_
        refine s_iload_n dX8_hand_40 rfl rfl ?_
        refine s_aload_n dX8_hand_41 rfl rfl ?_
        refine s_getf (c := 8) (k := 0) (t := 2) (j := 0) dX8_hand_42 fl_X8_12 (by decide) (by decide) rfl rfl f17 ?_
        refine s_aload_n dX8_hand_45 rfl rfl ?_
        refine s_getf (c := 8) (k := 3) (t := 2) (j := 3) dX8_hand_46 fl_X8_36 (by decide) (by decide) rfl rfl f17 ?_
        refine s_iload_n dX8_hand_49 rfl rfl ?_
        have f18 := H.1
        replace H := H.2
        refine s_iald dX8_hand_50 f18 ?_
        refine s_iload_n dX8_hand_51 rfl rfl ?_
        refine s_iload_n dX8_hand_52 rfl rfl ?_
        have f22 := H.1
        replace H := H.2
        refine s_callV (M' := MX1_withNumber) (As := [vI (h13 (h13 a0 3) a1), vI a2, vI a3]) (a := h13 a0 0) (st := [vI a1, vR (h13 a0 3)]) dX8_hand_53 ml_X8_203 cv_X1_withNumber rfl rfl (Nat.le_of_ble_eq_true rfl) ⟨Nat.le_refl _, Nat.le_refl _⟩ f22 (R_mono (fun r19 G20 h21 H => ?_) H)
        show S l MX8_hand (d + 1, 0, 0, 0, 0) 56 [some (vR a0), some (vI a1), some (vI a2), some (vI a3)] [vI r19, vI a1, vR (h13 a0 3)] G20 h21 Q
        have f23 := H.1
        replace H := H.2
        refine s_iastH dX8_hand_56 f23 (fun h24 eh24 => ?_)
        replace H := H h24 eh24
        refine s_iconst dX8_hand_57 ?_
        exact s_iret dX8_hand_58 rfl ⟨Nat.le_refl _, Nat.le_refl _⟩ H
      · replace H := H.2 c16
        refine s_iconst dX8_hand_34 ?_
        exact s_iret dX8_hand_35 rfl ⟨Nat.le_refl _, Nat.le_refl _⟩ H
  · replace H := H.2 c2
    refine s_iload_n dX8_hand_4 rfl rfl ?_
    refine s_iconst dX8_hand_5 ?_
    refine s_icmp_eq (tgt := 11) dX8_hand_6 (by decide) f1 (by decide) (fun c25 => ?_) (fun c25 => ?_)
    · replace H := H.1 c25
      refine s_aload_n dX8_hand_11 rfl rfl ?_
      have f26 := H.1
      replace H := H.2
      refine s_getf (c := 8) (k := 10) (t := 2) (j := 10) dX8_hand_12 fl_X8_21 (by decide) (by decide) rfl rfl f26 ?_
      refine s_iload_n dX8_hand_15 rfl rfl ?_
      refine s_iload_n dX8_hand_16 rfl rfl ?_
      have f30 := H.1
      replace H := H.2
      refine s_callV (M' := MX4_hasIndex) (As := [vI a1, vI a2]) (a := h a0 10) (st := []) dX8_hand_17 ml_X8_182 cv_X4_hasIndex rfl rfl (Nat.le_of_ble_eq_true rfl) ⟨Nat.le_refl _, Nat.le_refl _⟩ f30 (R_mono (fun r27 G28 h29 H => ?_) H)
      show S l MX8_hand (d + 1, 0, 0, 0, 0) 20 [some (vR a0), some (vI a1), some (vI a2), some (vI a3)] [vI r27] G28 h29 Q
      have f31 := H.1
      replace H := H.2
      refine s_if_eq (tgt := 34) dX8_hand_20 (by decide) f31 (fun c32 => ?_) (fun c32 => ?_)
      · replace H := H.1 c32
        refine s_iconst dX8_hand_34 ?_
        exact s_iret dX8_hand_35 rfl ⟨Nat.le_refl _, Nat.le_refl _⟩ H
      · replace H := H.2 c32
        refine s_aload_n dX8_hand_23 rfl rfl ?_
        have f33 := H.1
        replace H := H.2
        refine s_getf (c := 8) (k := 0) (t := 2) (j := 0) dX8_hand_24 fl_X8_12 (by decide) (by decide) rfl rfl f33 ?_
        refine s_iload_n dX8_hand_27 rfl rfl ?_
        have f37 := H.1
        replace H := H.2
        refine s_callV (M' := MX1_isNumber) (As := [vI a3]) (a := h29 a0 0) (st := []) dX8_hand_28 ml_X8_105 cv_X1_isNumber rfl rfl (Nat.le_of_ble_eq_true rfl) ⟨Nat.le_refl _, Nat.le_refl _⟩ f37 (R_mono (fun r34 G35 h36 H => ?_) H)
        show S l MX8_hand (d + 1, 0, 0, 0, 0) 31 [some (vR a0), some (vI a1), some (vI a2), some (vI a3)] [vI r34] G35 h36 Q
        have f38 := H.1
        replace H := H.2
        refine s_if_ne (tgt := 36) dX8_hand_31 (by decide) f38 (fun c39 => ?_) (fun c39 => ?_)
        · replace H := H.1 c39
          refine s_aload_n dX8_hand_36 rfl rfl ?_
          have f40 := H.1
          replace H := H.2
          refine s_getf (c := 8) (k := 3) (t := 2) (j := 3) dX8_hand_37 fl_X8_36 (by decide) (by decide) rfl rfl f40 ?_
          refine s_iload_n dX8_hand_40 rfl rfl ?_
          refine s_aload_n dX8_hand_41 rfl rfl ?_
          refine s_getf (c := 8) (k := 0) (t := 2) (j := 0) dX8_hand_42 fl_X8_12 (by decide) (by decide) rfl rfl f40 ?_
          refine s_aload_n dX8_hand_45 rfl rfl ?_
          refine s_getf (c := 8) (k := 3) (t := 2) (j := 3) dX8_hand_46 fl_X8_36 (by decide) (by decide) rfl rfl f40 ?_
          refine s_iload_n dX8_hand_49 rfl rfl ?_
          have f41 := H.1
          replace H := H.2
          refine s_iald dX8_hand_50 f41 ?_
          refine s_iload_n dX8_hand_51 rfl rfl ?_
          refine s_iload_n dX8_hand_52 rfl rfl ?_
          have f45 := H.1
          replace H := H.2
          refine s_callV (M' := MX1_withNumber) (As := [vI (h36 (h36 a0 3) a1), vI a2, vI a3]) (a := h36 a0 0) (st := [vI a1, vR (h36 a0 3)]) dX8_hand_53 ml_X8_203 cv_X1_withNumber rfl rfl (Nat.le_of_ble_eq_true rfl) ⟨Nat.le_refl _, Nat.le_refl _⟩ f45 (R_mono (fun r42 G43 h44 H => ?_) H)
          show S l MX8_hand (d + 1, 0, 0, 0, 0) 56 [some (vR a0), some (vI a1), some (vI a2), some (vI a3)] [vI r42, vI a1, vR (h36 a0 3)] G43 h44 Q
          have f46 := H.1
          replace H := H.2
          refine s_iastH dX8_hand_56 f46 (fun h47 eh47 => ?_)
          replace H := H h47 eh47
          refine s_iconst dX8_hand_57 ?_
          exact s_iret dX8_hand_58 rfl ⟨Nat.le_refl _, Nat.le_refl _⟩ H
        · replace H := H.2 c39
          refine s_iconst dX8_hand_34 ?_
          exact s_iret dX8_hand_35 rfl ⟨Nat.le_refl _, Nat.le_refl _⟩ H
    · replace H := H.2 c25
      refine s_iconst dX8_hand_9 ?_
      exact s_iret dX8_hand_10 rfl ⟨Nat.le_refl _, Nat.le_refl _⟩ H
set_option maxHeartbeats 4000000 in
set_option maxRecDepth 100000 in
theorem vX8_run_0 {l : Launch} {d : Nat} {G : GS} {h : HP} {Q : Int → GS → HP → Prop} (a0 a1 : Int) (H : (inR a1) ∧ ((a1 = 0 → (ty G a0 = 8) ∧ (inA G 10 (h a0 3) 0) ∧ (inA G 10 (h a0 3) 1) ∧ (ty G (h a0 6) = 5) ∧ R l MX5_byBox d 0 0 [vR (h a0 6), vR (h a0 10), vI (h (h a0 3) 0), vI (h (h a0 3) 1)] G h (fun r6 G7 h8 => Q r6 G7 h8)) ∧ (a1 = 1 → (ty G a0 = 8) ∧ (inA G 10 (h a0 3) 0) ∧ (inA G 10 (h a0 3) 1) ∧ (ty G (h a0 6) = 5) ∧ R l MX5_byScheme d 0 0 [vR (h a0 6), vR (h a0 10), vI (h (h a0 3) 0), vI (h (h a0 3) 1)] G h (fun r13 G14 h15 => Q r13 G14 h15)) ∧ (a1 ≠ 0 ∧ a1 ≠ 1 → Q ((-1)) G h))) : S l MX8_run (d + 1, 0, 0, 0, 0) 0 [some (vR a0), some (vI a1)] [] G h Q := by
  refine s_iload_n dX8_run_0 rfl rfl ?_
  have f1 := H.1
  replace H := H.2
  have hsw : (a1 = 0 ∨ a1 = 1) ∨ (a1 ≠ 0 ∧ a1 ≠ 1) := by omega
  rcases hsw with (c2 | c2) | c2
  · replace H := H.1 c2
    refine s_look (off := 27) (tgt := 28) dX8_run_1 f1 rfl (by rw [c2]; rfl) (by decide) ?_
    refine s_aload_n dX8_run_28 rfl rfl ?_
    have f3 := H.1
    replace H := H.2
    refine s_getf (c := 8) (k := 6) (t := 2) (j := 6) dX8_run_29 fl_X8_57 (by decide) (by decide) rfl rfl f3 ?_
    refine s_aload_n dX8_run_32 rfl rfl ?_
    refine s_getf (c := 8) (k := 10) (t := 2) (j := 10) dX8_run_33 fl_X8_21 (by decide) (by decide) rfl rfl f3 ?_
    refine s_aload_n dX8_run_36 rfl rfl ?_
    refine s_getf (c := 8) (k := 3) (t := 2) (j := 3) dX8_run_37 fl_X8_36 (by decide) (by decide) rfl rfl f3 ?_
    refine s_iconst dX8_run_40 ?_
    have f4 := H.1
    replace H := H.2
    refine s_iald dX8_run_41 f4 ?_
    refine s_aload_n dX8_run_42 rfl rfl ?_
    refine s_getf (c := 8) (k := 3) (t := 2) (j := 3) dX8_run_43 fl_X8_36 (by decide) (by decide) rfl rfl f3 ?_
    refine s_iconst dX8_run_46 ?_
    have f5 := H.1
    replace H := H.2
    refine s_iald dX8_run_47 f5 ?_
    have f9 := H.1
    replace H := H.2
    refine s_callV (M' := MX5_byBox) (As := [vR (h a0 10), vI (h (h a0 3) 0), vI (h (h a0 3) 1)]) (a := h a0 6) (st := []) dX8_run_48 ml_X8_206 cv_X5_byBox rfl rfl (Nat.le_of_ble_eq_true rfl) ⟨Nat.le_refl _, Nat.le_refl _⟩ f9 (R_mono (fun r6 G7 h8 H => ?_) H)
    show S l MX8_run (d + 1, 0, 0, 0, 0) 51 [some (vR a0), some (vI a1)] [vI r6] G7 h8 Q
    exact s_iret dX8_run_51 rfl ⟨Nat.le_refl _, Nat.le_refl _⟩ H
  · replace H := H.2.1 c2
    refine s_look (off := 51) (tgt := 52) dX8_run_1 f1 rfl (by rw [c2]; rfl) (by decide) ?_
    refine s_aload_n dX8_run_52 rfl rfl ?_
    have f10 := H.1
    replace H := H.2
    refine s_getf (c := 8) (k := 6) (t := 2) (j := 6) dX8_run_53 fl_X8_57 (by decide) (by decide) rfl rfl f10 ?_
    refine s_aload_n dX8_run_56 rfl rfl ?_
    refine s_getf (c := 8) (k := 10) (t := 2) (j := 10) dX8_run_57 fl_X8_21 (by decide) (by decide) rfl rfl f10 ?_
    refine s_aload_n dX8_run_60 rfl rfl ?_
    refine s_getf (c := 8) (k := 3) (t := 2) (j := 3) dX8_run_61 fl_X8_36 (by decide) (by decide) rfl rfl f10 ?_
    refine s_iconst dX8_run_64 ?_
    have f11 := H.1
    replace H := H.2
    refine s_iald dX8_run_65 f11 ?_
    refine s_aload_n dX8_run_66 rfl rfl ?_
    refine s_getf (c := 8) (k := 3) (t := 2) (j := 3) dX8_run_67 fl_X8_36 (by decide) (by decide) rfl rfl f10 ?_
    refine s_iconst dX8_run_70 ?_
    have f12 := H.1
    replace H := H.2
    refine s_iald dX8_run_71 f12 ?_
    have f16 := H.1
    replace H := H.2
    refine s_callV (M' := MX5_byScheme) (As := [vR (h a0 10), vI (h (h a0 3) 0), vI (h (h a0 3) 1)]) (a := h a0 6) (st := []) dX8_run_72 ml_X8_210 cv_X5_byScheme rfl rfl (Nat.le_of_ble_eq_true rfl) ⟨Nat.le_refl _, Nat.le_refl _⟩ f16 (R_mono (fun r13 G14 h15 H => ?_) H)
    show S l MX8_run (d + 1, 0, 0, 0, 0) 75 [some (vR a0), some (vI a1)] [vI r13] G14 h15 Q
    exact s_iret dX8_run_75 rfl ⟨Nat.le_refl _, Nat.le_refl _⟩ H
  · replace H := H.2.2 c2
    refine s_look (off := 75) (tgt := 76) dX8_run_1 f1 rfl (by simp only [Op.lookupswitch.offset]; repeat rw [if_neg (by omega)]) (by decide) ?_
    refine s_iconst dX8_run_76 ?_
    exact s_iret dX8_run_77 rfl ⟨Nat.le_refl _, Nat.le_refl _⟩ H
set_option maxHeartbeats 4000000 in
set_option maxRecDepth 100000 in
theorem vX8_sums_0 {l : Launch} {d : Nat} {G : GS} {h : HP} {Q : Int → GS → HP → Prop} (a0 a1 a2 : Int) (H : (inR a1) ∧ ((a1 = 0 → (inR a2) ∧ ((a2 = 0 → (ty G a0 = 8) ∧ (ty G (h a0 9) = 7) ∧ R l MX7_plainSums d 0 0 [vR (h a0 9), vR (h a0 10), vI a1] G h (fun r6 G7 h8 => Q r6 G7 h8)) ∧ (a2 = 1 → (ty G a0 = 8) ∧ (ty G (h a0 9) = 7) ∧ R l MX7_sharedSums d 0 0 [vR (h a0 9), vR (h a0 10), vI a1] G h (fun r11 G12 h13 => Q r11 G12 h13)) ∧ (a2 ≠ 0 ∧ a2 ≠ 1 → Q ((-1)) G h))) ∧ (a1 ≠ 0 → ((a1 = 1 → (inR a2) ∧ ((a2 = 0 → (ty G a0 = 8) ∧ (ty G (h a0 9) = 7) ∧ R l MX7_plainSums d 0 0 [vR (h a0 9), vR (h a0 10), vI a1] G h (fun r19 G20 h21 => Q r19 G20 h21)) ∧ (a2 = 1 → (ty G a0 = 8) ∧ (ty G (h a0 9) = 7) ∧ R l MX7_sharedSums d 0 0 [vR (h a0 9), vR (h a0 10), vI a1] G h (fun r24 G25 h26 => Q r24 G25 h26)) ∧ (a2 ≠ 0 ∧ a2 ≠ 1 → Q ((-1)) G h))) ∧ (a1 ≠ 1 → Q ((-1)) G h))))) : S l MX8_sums (d + 1, 0, 0, 0, 0) 0 [some (vR a0), some (vI a1), some (vI a2)] [] G h Q := by
  refine s_iload_n dX8_sums_0 rfl rfl ?_
  have f1 := H.1
  replace H := H.2
  refine s_if_eq (tgt := 11) dX8_sums_1 (by decide) f1 (fun c2 => ?_) (fun c2 => ?_)
  · replace H := H.1 c2
    refine s_iload_n dX8_sums_11 rfl rfl ?_
    have f3 := H.1
    replace H := H.2
    have hsw : (a2 = 0 ∨ a2 = 1) ∨ (a2 ≠ 0 ∧ a2 ≠ 1) := by omega
    rcases hsw with (c4 | c4) | c4
    · replace H := H.1 c4
      refine s_look (off := 28) (tgt := 40) dX8_sums_12 f3 rfl (by rw [c4]; rfl) (by decide) ?_
      refine s_aload_n dX8_sums_40 rfl rfl ?_
      have f5 := H.1
      replace H := H.2
      refine s_getf (c := 8) (k := 9) (t := 2) (j := 9) dX8_sums_41 fl_X8_78 (by decide) (by decide) rfl rfl f5 ?_
      refine s_aload_n dX8_sums_44 rfl rfl ?_
      refine s_getf (c := 8) (k := 10) (t := 2) (j := 10) dX8_sums_45 fl_X8_21 (by decide) (by decide) rfl rfl f5 ?_
      refine s_iload_n dX8_sums_48 rfl rfl ?_
      have f9 := H.1
      replace H := H.2
      refine s_callV (M' := MX7_plainSums) (As := [vR (h a0 10), vI a1]) (a := h a0 9) (st := []) dX8_sums_49 ml_X8_213 cv_X7_plainSums rfl rfl (Nat.le_of_ble_eq_true rfl) ⟨Nat.le_refl _, Nat.le_refl _⟩ f9 (R_mono (fun r6 G7 h8 H => ?_) H)
      show S l MX8_sums (d + 1, 0, 0, 0, 0) 52 [some (vR a0), some (vI a1), some (vI a2)] [vI r6] G7 h8 Q
      exact s_iret dX8_sums_52 rfl ⟨Nat.le_refl _, Nat.le_refl _⟩ H
    · replace H := H.2.1 c4
      refine s_look (off := 41) (tgt := 53) dX8_sums_12 f3 rfl (by rw [c4]; rfl) (by decide) ?_
      refine s_aload_n dX8_sums_53 rfl rfl ?_
      have f10 := H.1
      replace H := H.2
      refine s_getf (c := 8) (k := 9) (t := 2) (j := 9) dX8_sums_54 fl_X8_78 (by decide) (by decide) rfl rfl f10 ?_
      refine s_aload_n dX8_sums_57 rfl rfl ?_
      refine s_getf (c := 8) (k := 10) (t := 2) (j := 10) dX8_sums_58 fl_X8_21 (by decide) (by decide) rfl rfl f10 ?_
      refine s_iload_n dX8_sums_61 rfl rfl ?_
      have f14 := H.1
      replace H := H.2
      refine s_callV (M' := MX7_sharedSums) (As := [vR (h a0 10), vI a1]) (a := h a0 9) (st := []) dX8_sums_62 ml_X8_216 cv_X7_sharedSums rfl rfl (Nat.le_of_ble_eq_true rfl) ⟨Nat.le_refl _, Nat.le_refl _⟩ f14 (R_mono (fun r11 G12 h13 H => ?_) H)
      show S l MX8_sums (d + 1, 0, 0, 0, 0) 65 [some (vR a0), some (vI a1), some (vI a2)] [vI r11] G12 h13 Q
      exact s_iret dX8_sums_65 rfl ⟨Nat.le_refl _, Nat.le_refl _⟩ H
    · replace H := H.2.2 c4
      refine s_look (off := 54) (tgt := 66) dX8_sums_12 f3 rfl (by simp only [Op.lookupswitch.offset]; repeat rw [if_neg (by omega)]) (by decide) ?_
      refine s_iconst dX8_sums_66 ?_
      exact s_iret dX8_sums_67 rfl ⟨Nat.le_refl _, Nat.le_refl _⟩ H
  · replace H := H.2 c2
    refine s_iload_n dX8_sums_4 rfl rfl ?_
    refine s_iconst dX8_sums_5 ?_
    refine s_icmp_eq (tgt := 11) dX8_sums_6 (by decide) f1 (by decide) (fun c15 => ?_) (fun c15 => ?_)
    · replace H := H.1 c15
      refine s_iload_n dX8_sums_11 rfl rfl ?_
      have f16 := H.1
      replace H := H.2
      have hsw : (a2 = 0 ∨ a2 = 1) ∨ (a2 ≠ 0 ∧ a2 ≠ 1) := by omega
      rcases hsw with (c17 | c17) | c17
      · replace H := H.1 c17
        refine s_look (off := 28) (tgt := 40) dX8_sums_12 f16 rfl (by rw [c17]; rfl) (by decide) ?_
        refine s_aload_n dX8_sums_40 rfl rfl ?_
        have f18 := H.1
        replace H := H.2
        refine s_getf (c := 8) (k := 9) (t := 2) (j := 9) dX8_sums_41 fl_X8_78 (by decide) (by decide) rfl rfl f18 ?_
        refine s_aload_n dX8_sums_44 rfl rfl ?_
        refine s_getf (c := 8) (k := 10) (t := 2) (j := 10) dX8_sums_45 fl_X8_21 (by decide) (by decide) rfl rfl f18 ?_
        refine s_iload_n dX8_sums_48 rfl rfl ?_
        have f22 := H.1
        replace H := H.2
        refine s_callV (M' := MX7_plainSums) (As := [vR (h a0 10), vI a1]) (a := h a0 9) (st := []) dX8_sums_49 ml_X8_213 cv_X7_plainSums rfl rfl (Nat.le_of_ble_eq_true rfl) ⟨Nat.le_refl _, Nat.le_refl _⟩ f22 (R_mono (fun r19 G20 h21 H => ?_) H)
        show S l MX8_sums (d + 1, 0, 0, 0, 0) 52 [some (vR a0), some (vI a1), some (vI a2)] [vI r19] G20 h21 Q
        exact s_iret dX8_sums_52 rfl ⟨Nat.le_refl _, Nat.le_refl _⟩ H
      · replace H := H.2.1 c17
        refine s_look (off := 41) (tgt := 53) dX8_sums_12 f16 rfl (by rw [c17]; rfl) (by decide) ?_
        refine s_aload_n dX8_sums_53 rfl rfl ?_
        have f23 := H.1
        replace H := H.2
        refine s_getf (c := 8) (k := 9) (t := 2) (j := 9) dX8_sums_54 fl_X8_78 (by decide) (by decide) rfl rfl f23 ?_
        refine s_aload_n dX8_sums_57 rfl rfl ?_
        refine s_getf (c := 8) (k := 10) (t := 2) (j := 10) dX8_sums_58 fl_X8_21 (by decide) (by decide) rfl rfl f23 ?_
        refine s_iload_n dX8_sums_61 rfl rfl ?_
        have f27 := H.1
        replace H := H.2
        refine s_callV (M' := MX7_sharedSums) (As := [vR (h a0 10), vI a1]) (a := h a0 9) (st := []) dX8_sums_62 ml_X8_216 cv_X7_sharedSums rfl rfl (Nat.le_of_ble_eq_true rfl) ⟨Nat.le_refl _, Nat.le_refl _⟩ f27 (R_mono (fun r24 G25 h26 H => ?_) H)
        show S l MX8_sums (d + 1, 0, 0, 0, 0) 65 [some (vR a0), some (vI a1), some (vI a2)] [vI r24] G25 h26 Q
        exact s_iret dX8_sums_65 rfl ⟨Nat.le_refl _, Nat.le_refl _⟩ H
      · replace H := H.2.2 c17
        refine s_look (off := 54) (tgt := 66) dX8_sums_12 f16 rfl (by simp only [Op.lookupswitch.offset]; repeat rw [if_neg (by omega)]) (by decide) ?_
        refine s_iconst dX8_sums_66 ?_
        exact s_iret dX8_sums_67 rfl ⟨Nat.le_refl _, Nat.le_refl _⟩ H
    · replace H := H.2 c15
      refine s_iconst dX8_sums_9 ?_
      exact s_iret dX8_sums_10 rfl ⟨Nat.le_refl _, Nat.le_refl _⟩ H
set_option maxHeartbeats 4000000 in
set_option maxRecDepth 100000 in
theorem vX8_keep_0 {l : Launch} {d : Nat} {G : GS} {h : HP} {Q : Int → GS → HP → Prop} (a0 a1 : Int) (H : R l MX8_isPlace d 0 0 [vI a1] G h (fun r1 G2 h3 => (inR r1) ∧ ((r1 ≠ 0 → (ty G2 a0 = 8) ∧ (inA G2 12 (h3 a0 1) a1) ∧ (ty G2 (h3 (h3 a0 1) a1) = 4) ∧ R l MX4_copyFrom d 0 0 [vR (h3 (h3 a0 1) a1), vR (h3 a0 10)] G2 h3 (fun r8 G9 h10 => (ty G9 a0 = 8) ∧ (inA G9 11 (h10 a0 2) a1) ∧ ∀ h14 : HP, h14 = hset h10 (h10 a0 2) a1 1 → Q 1 G9 h14)) ∧ (r1 = 0 → Q ((-1)) G2 h3)))) : S l MX8_keep (d + 1, 0, 0, 0, 0) 0 [some (vR a0), some (vI a1)] [] G h Q := by
  refine s_iload_n dX8_keep_0 rfl rfl ?_
  refine s_callS (M' := MX8_isPlace) (As := [vI a1]) (st := []) dX8_keep_1 ml_X8_219 cs_X8_isPlace rfl rfl (Nat.le_of_ble_eq_true rfl) ⟨Nat.le_refl _, Nat.le_refl _⟩ (R_mono (fun r1 G2 h3 H => ?_) H)
  show S l MX8_keep (d + 1, 0, 0, 0, 0) 4 [some (vR a0), some (vI a1)] [vI r1] G2 h3 Q
  have f4 := H.1
  replace H := H.2
  refine s_if_ne (tgt := 9) dX8_keep_4 (by decide) f4 (fun c5 => ?_) (fun c5 => ?_)
  · replace H := H.1 c5
    refine s_aload_n dX8_keep_9 rfl rfl ?_
    have f6 := H.1
    replace H := H.2
    refine s_getf (c := 8) (k := 1) (t := 2) (j := 1) dX8_keep_10 fl_X8_28 (by decide) (by decide) rfl rfl f6 ?_
    refine s_iload_n dX8_keep_13 rfl rfl ?_
    have f7 := H.1
    replace H := H.2
    refine s_aaldP dX8_keep_14 f7 ?_
    refine s_aload_n dX8_keep_15 rfl rfl ?_
    refine s_getf (c := 8) (k := 10) (t := 2) (j := 10) dX8_keep_16 fl_X8_21 (by decide) (by decide) rfl rfl f6 ?_
    have f11 := H.1
    replace H := H.2
    refine s_callV (M' := MX4_copyFrom) (As := [vR (h3 a0 10)]) (a := h3 (h3 a0 1) a1) (st := []) dX8_keep_19 ml_X8_222 cv_X4_copyFrom rfl rfl (Nat.le_of_ble_eq_true rfl) ⟨Nat.le_refl _, Nat.le_refl _⟩ f11 (R_mono (fun r8 G9 h10 H => ?_) H)
    show S l MX8_keep (d + 1, 0, 0, 0, 0) 22 [some (vR a0), some (vI a1)] [] G9 h10 Q
    refine s_aload_n dX8_keep_22 rfl rfl ?_
    have f12 := H.1
    replace H := H.2
    refine s_getf (c := 8) (k := 2) (t := 2) (j := 2) dX8_keep_23 fl_X8_32 (by decide) (by decide) rfl rfl f12 ?_
    refine s_iload_n dX8_keep_26 rfl rfl ?_
    refine s_iconst dX8_keep_27 ?_
    have f13 := H.1
    replace H := H.2
    refine s_zastH dX8_keep_28 (by decide) f13 (fun h14 eh14 => ?_)
    replace H := H h14 eh14
    refine s_iconst dX8_keep_29 ?_
    exact s_iret dX8_keep_30 rfl ⟨Nat.le_refl _, Nat.le_refl _⟩ H
  · replace H := H.2 c5
    refine s_iconst dX8_keep_7 ?_
    exact s_iret dX8_keep_8 rfl ⟨Nat.le_refl _, Nat.le_refl _⟩ H
set_option maxHeartbeats 4000000 in
set_option maxRecDepth 100000 in
theorem vX8_isPlace_0 {l : Launch} {d : Nat} {G : GS} {h : HP} {Q : Int → GS → HP → Prop} (a0 : Int) (H : (inR a0) ∧ ((a0 < 0 → Q 0 G h) ∧ (0 ≤ a0 → ((4 ≤ a0 → Q 0 G h) ∧ (a0 < 4 → Q 1 G h))))) : S l MX8_isPlace (d, 0, 0, 0, 0) 0 [some (vI a0)] [] G h Q := by
  refine s_iload_n dX8_isPlace_0 rfl rfl ?_
  have f1 := H.1
  replace H := H.2
  refine s_if_lt (tgt := 13) dX8_isPlace_1 (by decide) f1 (fun c2 => ?_) (fun c2 => ?_)
  · replace H := H.1 c2
    refine s_iconst dX8_isPlace_13 ?_
    exact s_zret dX8_isPlace_14 rfl ⟨Nat.le_refl _, Nat.le_refl _⟩ (by decide) H
  · replace H := H.2 c2
    refine s_iload_n dX8_isPlace_4 rfl rfl ?_
    refine s_iconst dX8_isPlace_5 ?_
    refine s_icmp_ge (tgt := 13) dX8_isPlace_6 (by decide) f1 (by decide) (fun c3 => ?_) (fun c3 => ?_)
    · replace H := H.1 c3
      refine s_iconst dX8_isPlace_13 ?_
      exact s_zret dX8_isPlace_14 rfl ⟨Nat.le_refl _, Nat.le_refl _⟩ (by decide) H
    · replace H := H.2 c3
      refine s_iconst dX8_isPlace_9 ?_
      refine s_goto (tgt := 14) dX8_isPlace_10 (by decide) ?_
      exact s_zret dX8_isPlace_14 rfl ⟨Nat.le_refl _, Nat.le_refl _⟩ (by decide) H
set_option maxHeartbeats 4000000 in
set_option maxRecDepth 100000 in
theorem vX8_back_0 {l : Launch} {d : Nat} {G : GS} {h : HP} {Q : Int → GS → HP → Prop} (a0 a1 : Int) (H : (ty G a0 = 8) ∧ R l MX8_faultOfPlace d 0 0 [vR a0, vI a1] G h (fun r1 G2 h3 => (inR r1) ∧ ((r1 = 0 → (ty G2 a0 = 8) ∧ (inA G2 12 (h3 a0 1) a1) ∧ (ty G2 (h3 a0 10) = 4) ∧ R l MX4_copyFrom d 0 0 [vR (h3 a0 10), vR (h3 (h3 a0 1) a1)] G2 h3 (fun r9 G10 h11 => (ty G10 a0 = 8) ∧ R l MX8_emptyHands d 0 0 [vR a0] G10 h11 (fun r13 G14 h15 => Q 1 G14 h15))) ∧ (r1 ≠ 0 → Q r1 G2 h3)))) : S l MX8_back (d + 1, 0, 0, 0, 0) 0 [some (vR a0), some (vI a1), none] [] G h Q := by
  refine s_aload_n dX8_back_0 rfl rfl ?_
  refine s_iload_n dX8_back_1 rfl rfl ?_
  have f4 := H.1
  replace H := H.2
  refine s_callV (M' := MX8_faultOfPlace) (As := [vI a1]) (a := a0) (st := []) dX8_back_2 ml_X8_226 cv_X8_faultOfPlace rfl rfl (Nat.le_of_ble_eq_true rfl) ⟨Nat.le_refl _, Nat.le_refl _⟩ f4 (R_mono (fun r1 G2 h3 H => ?_) H)
  show S l MX8_back (d + 1, 0, 0, 0, 0) 5 [some (vR a0), some (vI a1), none] [vI r1] G2 h3 Q
  refine s_istore_n dX8_back_5 rfl (by decide) rfl ?_
  show S l MX8_back (d + 1, 0, 0, 0, 0) 6 [some (vR a0), some (vI a1), some (vI r1)] [] G2 h3 Q
  refine s_iload_n dX8_back_6 rfl rfl ?_
  have f5 := H.1
  replace H := H.2
  refine s_if_eq (tgt := 12) dX8_back_7 (by decide) f5 (fun c6 => ?_) (fun c6 => ?_)
  · replace H := H.1 c6
    refine s_aload_n dX8_back_12 rfl rfl ?_
    have f7 := H.1
    replace H := H.2
    refine s_getf (c := 8) (k := 10) (t := 2) (j := 10) dX8_back_13 fl_X8_21 (by decide) (by decide) rfl rfl f7 ?_
    refine s_aload_n dX8_back_16 rfl rfl ?_
    refine s_getf (c := 8) (k := 1) (t := 2) (j := 1) dX8_back_17 fl_X8_28 (by decide) (by decide) rfl rfl f7 ?_
    refine s_iload_n dX8_back_20 rfl rfl ?_
    have f8 := H.1
    replace H := H.2
    refine s_aaldP dX8_back_21 f8 ?_
    have f12 := H.1
    replace H := H.2
    refine s_callV (M' := MX4_copyFrom) (As := [vR (h3 (h3 a0 1) a1)]) (a := h3 a0 10) (st := []) dX8_back_22 ml_X8_222 cv_X4_copyFrom rfl rfl (Nat.le_of_ble_eq_true rfl) ⟨Nat.le_refl _, Nat.le_refl _⟩ f12 (R_mono (fun r9 G10 h11 H => ?_) H)
    show S l MX8_back (d + 1, 0, 0, 0, 0) 25 [some (vR a0), some (vI a1), some (vI r1)] [] G10 h11 Q
    refine s_aload_n dX8_back_25 rfl rfl ?_
    have f16 := H.1
    replace H := H.2
    refine s_callV (M' := MX8_emptyHands) (As := []) (a := a0) (st := []) dX8_back_26 ml_X8_229 cv_X8_emptyHands rfl rfl (Nat.le_of_ble_eq_true rfl) ⟨Nat.le_refl _, Nat.le_refl _⟩ f16 (R_mono (fun r13 G14 h15 H => ?_) H)
    show S l MX8_back (d + 1, 0, 0, 0, 0) 29 [some (vR a0), some (vI a1), some (vI r1)] [] G14 h15 Q
    refine s_iconst dX8_back_29 ?_
    exact s_iret dX8_back_30 rfl ⟨Nat.le_refl _, Nat.le_refl _⟩ H
  · replace H := H.2 c6
    refine s_iload_n dX8_back_10 rfl rfl ?_
    exact s_iret dX8_back_11 rfl ⟨Nat.le_refl _, Nat.le_refl _⟩ H
set_option maxHeartbeats 4000000 in
set_option maxRecDepth 100000 in
theorem vX8_faultOfPlace_0 {l : Launch} {d : Nat} {G : GS} {h : HP} {Q : Int → GS → HP → Prop} (a0 a1 : Int) (H : R l MX8_isPlace d 0 0 [vI a1] G h (fun r1 G2 h3 => (inR r1) ∧ ((r1 ≠ 0 → (ty G2 a0 = 8) ∧ (inA G2 11 (h3 a0 2) a1) ∧ (inR (h3 (h3 a0 2) a1)) ∧ (((h3 (h3 a0 2) a1) = 0 → Q ((-4)) G2 h3) ∧ ((h3 (h3 a0 2) a1) ≠ 0 → Q 0 G2 h3))) ∧ (r1 = 0 → Q ((-1)) G2 h3)))) : S l MX8_faultOfPlace (d + 1, 0, 0, 0, 0) 0 [some (vR a0), some (vI a1)] [] G h Q := by
  refine s_iload_n dX8_faultOfPlace_0 rfl rfl ?_
  refine s_callS (M' := MX8_isPlace) (As := [vI a1]) (st := []) dX8_faultOfPlace_1 ml_X8_219 cs_X8_isPlace rfl rfl (Nat.le_of_ble_eq_true rfl) ⟨Nat.le_refl _, Nat.le_refl _⟩ (R_mono (fun r1 G2 h3 H => ?_) H)
  show S l MX8_faultOfPlace (d + 1, 0, 0, 0, 0) 4 [some (vR a0), some (vI a1)] [vI r1] G2 h3 Q
  have f4 := H.1
  replace H := H.2
  refine s_if_ne (tgt := 9) dX8_faultOfPlace_4 (by decide) f4 (fun c5 => ?_) (fun c5 => ?_)
  · replace H := H.1 c5
    refine s_aload_n dX8_faultOfPlace_9 rfl rfl ?_
    have f6 := H.1
    replace H := H.2
    refine s_getf (c := 8) (k := 2) (t := 2) (j := 2) dX8_faultOfPlace_10 fl_X8_32 (by decide) (by decide) rfl rfl f6 ?_
    refine s_iload_n dX8_faultOfPlace_13 rfl rfl ?_
    have f7 := H.1
    replace H := H.2
    refine s_zald dX8_faultOfPlace_14 f7 ?_
    have f8 := H.1
    replace H := H.2
    refine s_if_eq (tgt := 22) dX8_faultOfPlace_15 (by decide) f8 (fun c9 => ?_) (fun c9 => ?_)
    · replace H := H.1 c9
      refine s_bipush dX8_faultOfPlace_22 (by decide) ?_
      exact s_iret dX8_faultOfPlace_24 rfl ⟨Nat.le_refl _, Nat.le_refl _⟩ H
    · replace H := H.2 c9
      refine s_iconst dX8_faultOfPlace_18 ?_
      refine s_goto (tgt := 24) dX8_faultOfPlace_19 (by decide) ?_
      exact s_iret dX8_faultOfPlace_24 rfl ⟨Nat.le_refl _, Nat.le_refl _⟩ H
  · replace H := H.2 c5
    refine s_iconst dX8_faultOfPlace_7 ?_
    exact s_iret dX8_faultOfPlace_8 rfl ⟨Nat.le_refl _, Nat.le_refl _⟩ H
set_option maxHeartbeats 4000000 in
set_option maxRecDepth 100000 in
theorem vX8_beside_0 {l : Launch} {d : Nat} {G : GS} {h : HP} {Q : Int → GS → HP → Prop} (a0 a1 : Int) (H : (ty G a0 = 8) ∧ R l MX8_faultOfPlace d 0 0 [vR a0, vI a1] G h (fun r1 G2 h3 => (inR r1) ∧ ((r1 = 0 → (ty G2 a0 = 8) ∧ (inA G2 12 (h3 a0 1) a1) ∧ (0 ≤ (h3 (h3 a0 1) a1)) ∧ S l MX8_beside (d + 1, 0, 0, 0, 0) 22 [some (vR a0), none, none, some (vR (h3 (h3 a0 1) a1)), some (vI 0)] [] G2 h3 Q) ∧ (r1 ≠ 0 → Q r1 G2 h3)))) : S l MX8_beside (d + 1, 0, 0, 0, 0) 0 [some (vR a0), some (vI a1), none, none, none] [] G h Q := by
  refine s_aload_n dX8_beside_0 rfl rfl ?_
  refine s_iload_n dX8_beside_1 rfl rfl ?_
  have f4 := H.1
  replace H := H.2
  refine s_callV (M' := MX8_faultOfPlace) (As := [vI a1]) (a := a0) (st := []) dX8_beside_2 ml_X8_226 cv_X8_faultOfPlace rfl rfl (Nat.le_of_ble_eq_true rfl) ⟨Nat.le_refl _, Nat.le_refl _⟩ f4 (R_mono (fun r1 G2 h3 H => ?_) H)
  show S l MX8_beside (d + 1, 0, 0, 0, 0) 5 [some (vR a0), some (vI a1), none, none, none] [vI r1] G2 h3 Q
  refine s_istore_n dX8_beside_5 rfl (by decide) rfl ?_
  show S l MX8_beside (d + 1, 0, 0, 0, 0) 6 [some (vR a0), some (vI a1), some (vI r1), none, none] [] G2 h3 Q
  refine s_iload_n dX8_beside_6 rfl rfl ?_
  have f5 := H.1
  replace H := H.2
  refine s_if_eq (tgt := 12) dX8_beside_7 (by decide) f5 (fun c6 => ?_) (fun c6 => ?_)
  · replace H := H.1 c6
    refine s_aload_n dX8_beside_12 rfl rfl ?_
    have f7 := H.1
    replace H := H.2
    refine s_getf (c := 8) (k := 1) (t := 2) (j := 1) dX8_beside_13 fl_X8_28 (by decide) (by decide) rfl rfl f7 ?_
    refine s_iload_n dX8_beside_16 rfl rfl ?_
    have f8 := H.1
    replace H := H.2
    refine s_aaldP dX8_beside_17 f8 ?_
    have f9 := H.1
    replace H := H.2
    refine s_astore_n f9 dX8_beside_18 rfl (by decide) rfl ?_
    show S l MX8_beside (d + 1, 0, 0, 0, 0) 19 [some (vR a0), some (vI a1), some (vI r1), some (vR (h3 (h3 a0 1) a1)), none] [] G2 h3 Q
    refine s_iconst dX8_beside_19 ?_
    refine s_istore dX8_beside_20 (by decide) rfl ?_
    show S l MX8_beside (d + 1, 0, 0, 0, 0) 22 [some (vR a0), some (vI a1), some (vI r1), some (vR (h3 (h3 a0 1) a1)), some (vI 0)] [] G2 h3 Q
    exact S_cut (by first | exact ⟨rfl, ⟨rfl, ⟨rfl, trivial⟩⟩⟩ | simp [lsub]) H
  · replace H := H.2 c6
    refine s_iload_n dX8_beside_10 rfl rfl ?_
    exact s_iret dX8_beside_11 rfl ⟨Nat.le_refl _, Nat.le_refl _⟩ H
set_option maxHeartbeats 4000000 in
set_option maxRecDepth 100000 in
theorem vX8_beside_22 {l : Launch} {d : Nat} {G : GS} {h : HP} {Q : Int → GS → HP → Prop} (a0 a3 a4 : Int) (H : (inR a4) ∧ ((3 ≤ a4 → (ty G a0 = 8) ∧ (ty G (h a0 10) = 4) ∧ (ty G a3 = 4) ∧ (inR ((h (h a0 10) 6) + (h a3 6))) ∧ ((((h (h a0 10) 6) + (h a3 6)) ≤ 40 → (ty G (h a0 5) = 2) ∧ R l MX2_putBeside d 0 0 [vR (h a0 5), vR (h a0 10), vR a3, vR (h a0 11)] G h (fun r8 G9 h10 => (ty G9 a0 = 8) ∧ R l MX8_takeSpare d 0 0 [vR a0] G9 h10 (fun r12 G13 h14 => (ty G13 a0 = 8) ∧ (ty G13 (h14 a0 10) = 4) ∧ Q (h14 (h14 a0 10) 6) G13 h14))) ∧ (40 < ((h (h a0 10) 6) + (h a3 6)) → Q ((-2)) G h))) ∧ (a4 < 3 → (ty G a0 = 8) ∧ (ty G (h a0 10) = 4) ∧ (inA G 10 (h (h a0 10) 1) a4) ∧ (ty G a3 = 4) ∧ (inA G 10 (h a3 1) a4) ∧ (inR ((h (h (h a0 10) 1) a4) + (h (h a3 1) a4))) ∧ ((((h (h (h a0 10) 1) a4) + (h (h a3 1) a4)) ≤ 9 → S l MX8_beside (d + 1, 0, 0, 0, 0) 22 [some (vR a0), none, none, some (vR a3), some (vI (a4 + 1))] [] G h Q) ∧ (9 < ((h (h (h a0 10) 1) a4) + (h (h a3 1) a4)) → Q ((-3)) G h))))) : S l MX8_beside (d + 1, 0, 0, 0, 0) 22 [some (vR a0), none, none, some (vR a3), some (vI a4)] [] G h Q := by
  refine s_iload dX8_beside_22 rfl ?_
  refine s_iconst dX8_beside_24 ?_
  have f1 := H.1
  replace H := H.2
  refine s_icmp_ge (tgt := 60) dX8_beside_25 (by decide) f1 (by decide) (fun c2 => ?_) (fun c2 => ?_)
  · replace H := H.1 c2
    refine s_aload_n dX8_beside_60 rfl rfl ?_
    have f3 := H.1
    replace H := H.2
    refine s_getf (c := 8) (k := 10) (t := 2) (j := 10) dX8_beside_61 fl_X8_21 (by decide) (by decide) rfl rfl f3 ?_
    have f4 := H.1
    replace H := H.2
    refine s_getf (c := 4) (k := 6) (t := 0) (j := 6) dX8_beside_64 fl_X8_119 (by decide) (by decide) rfl rfl f4 ?_
    refine s_aload_n dX8_beside_67 rfl rfl ?_
    have f5 := H.1
    replace H := H.2
    refine s_getf (c := 4) (k := 6) (t := 0) (j := 6) dX8_beside_68 fl_X8_119 (by decide) (by decide) rfl rfl f5 ?_
    refine s_iadd dX8_beside_71 ?_
    refine s_bipush dX8_beside_72 (by decide) ?_
    have f6 := H.1
    replace H := H.2
    refine s_icmp_le (tgt := 80) dX8_beside_74 (by decide) f6 (by decide) (fun c7 => ?_) (fun c7 => ?_)
    · replace H := H.1 c7
      refine s_aload_n dX8_beside_80 rfl rfl ?_
      refine s_getf (c := 8) (k := 5) (t := 2) (j := 5) dX8_beside_81 fl_X8_50 (by decide) (by decide) rfl rfl f3 ?_
      refine s_aload_n dX8_beside_84 rfl rfl ?_
      refine s_getf (c := 8) (k := 10) (t := 2) (j := 10) dX8_beside_85 fl_X8_21 (by decide) (by decide) rfl rfl f3 ?_
      refine s_aload_n dX8_beside_88 rfl rfl ?_
      refine s_aload_n dX8_beside_89 rfl rfl ?_
      refine s_getf (c := 8) (k := 11) (t := 2) (j := 11) dX8_beside_90 fl_X8_25 (by decide) (by decide) rfl rfl f3 ?_
      have f11 := H.1
      replace H := H.2
      refine s_callV (M' := MX2_putBeside) (As := [vR (h a0 10), vR a3, vR (h a0 11)]) (a := h a0 5) (st := []) dX8_beside_93 ml_X8_232 cv_X2_putBeside rfl rfl (Nat.le_of_ble_eq_true rfl) ⟨Nat.le_refl _, Nat.le_refl _⟩ f11 (R_mono (fun r8 G9 h10 H => ?_) H)
      show S l MX8_beside (d + 1, 0, 0, 0, 0) 96 [some (vR a0), none, none, some (vR a3), some (vI a4)] [] G9 h10 Q
      refine s_aload_n dX8_beside_96 rfl rfl ?_
      have f15 := H.1
      replace H := H.2
      refine s_callV (M' := MX8_takeSpare) (As := []) (a := a0) (st := []) dX8_beside_97 ml_X8_179 cv_X8_takeSpare rfl rfl (Nat.le_of_ble_eq_true rfl) ⟨Nat.le_refl _, Nat.le_refl _⟩ f15 (R_mono (fun r12 G13 h14 H => ?_) H)
      show S l MX8_beside (d + 1, 0, 0, 0, 0) 100 [some (vR a0), none, none, some (vR a3), some (vI a4)] [] G13 h14 Q
      refine s_aload_n dX8_beside_100 rfl rfl ?_
      have f16 := H.1
      replace H := H.2
      refine s_getf (c := 8) (k := 10) (t := 2) (j := 10) dX8_beside_101 fl_X8_21 (by decide) (by decide) rfl rfl f16 ?_
      have f17 := H.1
      replace H := H.2
      refine s_getf (c := 4) (k := 6) (t := 0) (j := 6) dX8_beside_104 fl_X8_119 (by decide) (by decide) rfl rfl f17 ?_
      exact s_iret dX8_beside_107 rfl ⟨Nat.le_refl _, Nat.le_refl _⟩ H
    · replace H := H.2 c7
      refine s_bipush dX8_beside_77 (by decide) ?_
      exact s_iret dX8_beside_79 rfl ⟨Nat.le_refl _, Nat.le_refl _⟩ H
  · replace H := H.2 c2
    refine s_aload_n dX8_beside_28 rfl rfl ?_
    have f18 := H.1
    replace H := H.2
    refine s_getf (c := 8) (k := 10) (t := 2) (j := 10) dX8_beside_29 fl_X8_21 (by decide) (by decide) rfl rfl f18 ?_
    have f19 := H.1
    replace H := H.2
    refine s_getf (c := 4) (k := 1) (t := 2) (j := 1) dX8_beside_32 fl_X8_116 (by decide) (by decide) rfl rfl f19 ?_
    refine s_iload dX8_beside_35 rfl ?_
    have f20 := H.1
    replace H := H.2
    refine s_iald dX8_beside_37 f20 ?_
    refine s_aload_n dX8_beside_38 rfl rfl ?_
    have f21 := H.1
    replace H := H.2
    refine s_getf (c := 4) (k := 1) (t := 2) (j := 1) dX8_beside_39 fl_X8_116 (by decide) (by decide) rfl rfl f21 ?_
    refine s_iload dX8_beside_42 rfl ?_
    have f22 := H.1
    replace H := H.2
    refine s_iald dX8_beside_44 f22 ?_
    refine s_iadd dX8_beside_45 ?_
    refine s_bipush dX8_beside_46 (by decide) ?_
    have f23 := H.1
    replace H := H.2
    refine s_icmp_le (tgt := 54) dX8_beside_48 (by decide) f23 (by decide) (fun c24 => ?_) (fun c24 => ?_)
    · replace H := H.1 c24
      refine s_iinc dX8_beside_54 rfl (by decide) rfl ?_
      show S l MX8_beside (d + 1, 0, 0, 0, 0) 57 [some (vR a0), none, none, some (vR a3), some (vI (a4 + 1))] [] G h Q
      refine s_goto (tgt := 22) dX8_beside_57 (by decide) ?_
      exact S_cut (by first | exact ⟨rfl, ⟨rfl, ⟨rfl, trivial⟩⟩⟩ | simp [lsub]) H
    · replace H := H.2 c24
      refine s_bipush dX8_beside_51 (by decide) ?_
      exact s_iret dX8_beside_53 rfl ⟨Nat.le_refl _, Nat.le_refl _⟩ H
set_option maxHeartbeats 4000000 in
set_option maxRecDepth 100000 in
theorem vX8_within_0 {l : Launch} {d : Nat} {G : GS} {h : HP} {Q : Int → GS → HP → Prop} (a0 a1 : Int) (H : (ty G a0 = 8) ∧ R l MX8_faultOfPlace d 0 0 [vR a0, vI a1] G h (fun r1 G2 h3 => (inR r1) ∧ ((r1 = 0 → (ty G2 a0 = 8) ∧ (inA G2 12 (h3 a0 1) a1) ∧ (0 ≤ (h3 (h3 a0 1) a1)) ∧ S l MX8_within (d + 1, 0, 0, 0, 0) 22 [some (vR a0), none, none, some (vR (h3 (h3 a0 1) a1)), some (vI 0)] [] G2 h3 Q) ∧ (r1 ≠ 0 → Q r1 G2 h3)))) : S l MX8_within (d + 1, 0, 0, 0, 0) 0 [some (vR a0), some (vI a1), none, none, none] [] G h Q := by
  refine s_aload_n dX8_within_0 rfl rfl ?_
  refine s_iload_n dX8_within_1 rfl rfl ?_
  have f4 := H.1
  replace H := H.2
  refine s_callV (M' := MX8_faultOfPlace) (As := [vI a1]) (a := a0) (st := []) dX8_within_2 ml_X8_226 cv_X8_faultOfPlace rfl rfl (Nat.le_of_ble_eq_true rfl) ⟨Nat.le_refl _, Nat.le_refl _⟩ f4 (R_mono (fun r1 G2 h3 H => ?_) H)
  show S l MX8_within (d + 1, 0, 0, 0, 0) 5 [some (vR a0), some (vI a1), none, none, none] [vI r1] G2 h3 Q
  refine s_istore_n dX8_within_5 rfl (by decide) rfl ?_
  show S l MX8_within (d + 1, 0, 0, 0, 0) 6 [some (vR a0), some (vI a1), some (vI r1), none, none] [] G2 h3 Q
  refine s_iload_n dX8_within_6 rfl rfl ?_
  have f5 := H.1
  replace H := H.2
  refine s_if_eq (tgt := 12) dX8_within_7 (by decide) f5 (fun c6 => ?_) (fun c6 => ?_)
  · replace H := H.1 c6
    refine s_aload_n dX8_within_12 rfl rfl ?_
    have f7 := H.1
    replace H := H.2
    refine s_getf (c := 8) (k := 1) (t := 2) (j := 1) dX8_within_13 fl_X8_28 (by decide) (by decide) rfl rfl f7 ?_
    refine s_iload_n dX8_within_16 rfl rfl ?_
    have f8 := H.1
    replace H := H.2
    refine s_aaldP dX8_within_17 f8 ?_
    have f9 := H.1
    replace H := H.2
    refine s_astore_n f9 dX8_within_18 rfl (by decide) rfl ?_
    show S l MX8_within (d + 1, 0, 0, 0, 0) 19 [some (vR a0), some (vI a1), some (vI r1), some (vR (h3 (h3 a0 1) a1)), none] [] G2 h3 Q
    refine s_iconst dX8_within_19 ?_
    refine s_istore dX8_within_20 (by decide) rfl ?_
    show S l MX8_within (d + 1, 0, 0, 0, 0) 22 [some (vR a0), some (vI a1), some (vI r1), some (vR (h3 (h3 a0 1) a1)), some (vI 0)] [] G2 h3 Q
    exact S_cut (by first | exact ⟨rfl, ⟨rfl, ⟨rfl, trivial⟩⟩⟩ | simp [lsub]) H
  · replace H := H.2 c6
    refine s_iload_n dX8_within_10 rfl rfl ?_
    exact s_iret dX8_within_11 rfl ⟨Nat.le_refl _, Nat.le_refl _⟩ H
set_option maxHeartbeats 4000000 in
set_option maxRecDepth 100000 in
theorem vX8_within_22 {l : Launch} {d : Nat} {G : GS} {h : HP} {Q : Int → GS → HP → Prop} (a0 a3 a4 : Int) (H : (inR a4) ∧ ((3 ≤ a4 → (ty G a0 = 8) ∧ (ty G (h a0 10) = 4) ∧ (ty G a3 = 4) ∧ (inR ((h (h a0 10) 6) * (h a3 6))) ∧ ((((h (h a0 10) 6) * (h a3 6)) ≤ 40 → (ty G (h a0 5) = 2) ∧ R l MX2_putWithin d 0 0 [vR (h a0 5), vR (h a0 10), vR a3, vR (h a0 11)] G h (fun r8 G9 h10 => (ty G9 a0 = 8) ∧ R l MX8_takeSpare d 0 0 [vR a0] G9 h10 (fun r12 G13 h14 => (ty G13 a0 = 8) ∧ (ty G13 (h14 a0 10) = 4) ∧ Q (h14 (h14 a0 10) 6) G13 h14))) ∧ (40 < ((h (h a0 10) 6) * (h a3 6)) → Q ((-2)) G h))) ∧ (a4 < 3 → (ty G a0 = 8) ∧ (ty G (h a0 10) = 4) ∧ (inA G 10 (h (h a0 10) 1) a4) ∧ (ty G a3 = 4) ∧ (inA G 10 (h a3 1) a4) ∧ (inR ((h (h (h a0 10) 1) a4) * (h (h a3 1) a4))) ∧ ((((h (h (h a0 10) 1) a4) * (h (h a3 1) a4)) ≤ 9 → S l MX8_within (d + 1, 0, 0, 0, 0) 22 [some (vR a0), none, none, some (vR a3), some (vI (a4 + 1))] [] G h Q) ∧ (9 < ((h (h (h a0 10) 1) a4) * (h (h a3 1) a4)) → Q ((-3)) G h))))) : S l MX8_within (d + 1, 0, 0, 0, 0) 22 [some (vR a0), none, none, some (vR a3), some (vI a4)] [] G h Q := by
  refine s_iload dX8_within_22 rfl ?_
  refine s_iconst dX8_within_24 ?_
  have f1 := H.1
  replace H := H.2
  refine s_icmp_ge (tgt := 60) dX8_within_25 (by decide) f1 (by decide) (fun c2 => ?_) (fun c2 => ?_)
  · replace H := H.1 c2
    refine s_aload_n dX8_within_60 rfl rfl ?_
    have f3 := H.1
    replace H := H.2
    refine s_getf (c := 8) (k := 10) (t := 2) (j := 10) dX8_within_61 fl_X8_21 (by decide) (by decide) rfl rfl f3 ?_
    have f4 := H.1
    replace H := H.2
    refine s_getf (c := 4) (k := 6) (t := 0) (j := 6) dX8_within_64 fl_X8_119 (by decide) (by decide) rfl rfl f4 ?_
    refine s_aload_n dX8_within_67 rfl rfl ?_
    have f5 := H.1
    replace H := H.2
    refine s_getf (c := 4) (k := 6) (t := 0) (j := 6) dX8_within_68 fl_X8_119 (by decide) (by decide) rfl rfl f5 ?_
    refine s_imul dX8_within_71 ?_
    refine s_bipush dX8_within_72 (by decide) ?_
    have f6 := H.1
    replace H := H.2
    refine s_icmp_le (tgt := 80) dX8_within_74 (by decide) f6 (by decide) (fun c7 => ?_) (fun c7 => ?_)
    · replace H := H.1 c7
      refine s_aload_n dX8_within_80 rfl rfl ?_
      refine s_getf (c := 8) (k := 5) (t := 2) (j := 5) dX8_within_81 fl_X8_50 (by decide) (by decide) rfl rfl f3 ?_
      refine s_aload_n dX8_within_84 rfl rfl ?_
      refine s_getf (c := 8) (k := 10) (t := 2) (j := 10) dX8_within_85 fl_X8_21 (by decide) (by decide) rfl rfl f3 ?_
      refine s_aload_n dX8_within_88 rfl rfl ?_
      refine s_aload_n dX8_within_89 rfl rfl ?_
      refine s_getf (c := 8) (k := 11) (t := 2) (j := 11) dX8_within_90 fl_X8_25 (by decide) (by decide) rfl rfl f3 ?_
      have f11 := H.1
      replace H := H.2
      refine s_callV (M' := MX2_putWithin) (As := [vR (h a0 10), vR a3, vR (h a0 11)]) (a := h a0 5) (st := []) dX8_within_93 ml_X8_236 cv_X2_putWithin rfl rfl (Nat.le_of_ble_eq_true rfl) ⟨Nat.le_refl _, Nat.le_refl _⟩ f11 (R_mono (fun r8 G9 h10 H => ?_) H)
      show S l MX8_within (d + 1, 0, 0, 0, 0) 96 [some (vR a0), none, none, some (vR a3), some (vI a4)] [] G9 h10 Q
      refine s_aload_n dX8_within_96 rfl rfl ?_
      have f15 := H.1
      replace H := H.2
      refine s_callV (M' := MX8_takeSpare) (As := []) (a := a0) (st := []) dX8_within_97 ml_X8_179 cv_X8_takeSpare rfl rfl (Nat.le_of_ble_eq_true rfl) ⟨Nat.le_refl _, Nat.le_refl _⟩ f15 (R_mono (fun r12 G13 h14 H => ?_) H)
      show S l MX8_within (d + 1, 0, 0, 0, 0) 100 [some (vR a0), none, none, some (vR a3), some (vI a4)] [] G13 h14 Q
      refine s_aload_n dX8_within_100 rfl rfl ?_
      have f16 := H.1
      replace H := H.2
      refine s_getf (c := 8) (k := 10) (t := 2) (j := 10) dX8_within_101 fl_X8_21 (by decide) (by decide) rfl rfl f16 ?_
      have f17 := H.1
      replace H := H.2
      refine s_getf (c := 4) (k := 6) (t := 0) (j := 6) dX8_within_104 fl_X8_119 (by decide) (by decide) rfl rfl f17 ?_
      exact s_iret dX8_within_107 rfl ⟨Nat.le_refl _, Nat.le_refl _⟩ H
    · replace H := H.2 c7
      refine s_bipush dX8_within_77 (by decide) ?_
      exact s_iret dX8_within_79 rfl ⟨Nat.le_refl _, Nat.le_refl _⟩ H
  · replace H := H.2 c2
    refine s_aload_n dX8_within_28 rfl rfl ?_
    have f18 := H.1
    replace H := H.2
    refine s_getf (c := 8) (k := 10) (t := 2) (j := 10) dX8_within_29 fl_X8_21 (by decide) (by decide) rfl rfl f18 ?_
    have f19 := H.1
    replace H := H.2
    refine s_getf (c := 4) (k := 1) (t := 2) (j := 1) dX8_within_32 fl_X8_116 (by decide) (by decide) rfl rfl f19 ?_
    refine s_iload dX8_within_35 rfl ?_
    have f20 := H.1
    replace H := H.2
    refine s_iald dX8_within_37 f20 ?_
    refine s_aload_n dX8_within_38 rfl rfl ?_
    have f21 := H.1
    replace H := H.2
    refine s_getf (c := 4) (k := 1) (t := 2) (j := 1) dX8_within_39 fl_X8_116 (by decide) (by decide) rfl rfl f21 ?_
    refine s_iload dX8_within_42 rfl ?_
    have f22 := H.1
    replace H := H.2
    refine s_iald dX8_within_44 f22 ?_
    refine s_imul dX8_within_45 ?_
    refine s_bipush dX8_within_46 (by decide) ?_
    have f23 := H.1
    replace H := H.2
    refine s_icmp_le (tgt := 54) dX8_within_48 (by decide) f23 (by decide) (fun c24 => ?_) (fun c24 => ?_)
    · replace H := H.1 c24
      refine s_iinc dX8_within_54 rfl (by decide) rfl ?_
      show S l MX8_within (d + 1, 0, 0, 0, 0) 57 [some (vR a0), none, none, some (vR a3), some (vI (a4 + 1))] [] G h Q
      refine s_goto (tgt := 22) dX8_within_57 (by decide) ?_
      exact S_cut (by first | exact ⟨rfl, ⟨rfl, ⟨rfl, trivial⟩⟩⟩ | simp [lsub]) H
    · replace H := H.2 c24
      refine s_bipush dX8_within_51 (by decide) ?_
      exact s_iret dX8_within_53 rfl ⟨Nat.le_refl _, Nat.le_refl _⟩ H
