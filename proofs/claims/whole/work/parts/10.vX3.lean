set_option maxHeartbeats 4000000 in
set_option maxRecDepth 100000 in
theorem vX3_countMoves_0 {l : Launch} {d : Nat} {G : GS} {h : HP} {Q : Int → GS → HP → Prop} (a0 a1 : Int) (H : S l MX3_countMoves (d + 1, 0, 0, 0, 0) 4 [none, some (vR a1), some (vI 0), some (vI 0), none] [] G h Q) : S l MX3_countMoves (d + 1, 0, 0, 0, 0) 0 [some (vR a0), some (vR a1), none, none, none] [] G h Q := by
  refine s_iconst dX3_countMoves_0 ?_
  refine s_istore_n dX3_countMoves_1 rfl (by decide) rfl ?_
  show S l MX3_countMoves (d + 1, 0, 0, 0, 0) 2 [some (vR a0), some (vR a1), some (vI 0), none, none] [] G h Q
  refine s_iconst dX3_countMoves_2 ?_
  refine s_istore_n dX3_countMoves_3 rfl (by decide) rfl ?_
  show S l MX3_countMoves (d + 1, 0, 0, 0, 0) 4 [some (vR a0), some (vR a1), some (vI 0), some (vI 0), none] [] G h Q
  exact S_cut (by first | exact ⟨rfl, ⟨rfl, ⟨rfl, trivial⟩⟩⟩ | simp [lsub]) H
set_option maxHeartbeats 4000000 in
set_option maxRecDepth 100000 in
theorem vX3_countMoves_4 {l : Launch} {d : Nat} {G : GS} {h : HP} {Q : Int → GS → HP → Prop} (a1 a2 a3 : Int) (H : (inR a3) ∧ ((3 ≤ a3 → Q a2 G h) ∧ (a3 < 3 → S l MX3_countMoves (d + 1, 0, 0, 0, 0) 12 [none, some (vR a1), some (vI a2), some (vI a3), some (vI 0)] [] G h Q))) : S l MX3_countMoves (d + 1, 0, 0, 0, 0) 4 [none, some (vR a1), some (vI a2), some (vI a3), none] [] G h Q := by
  refine s_iload_n dX3_countMoves_4 rfl rfl ?_
  refine s_iconst dX3_countMoves_5 ?_
  have f1 := H.1
  replace H := H.2
  refine s_icmp_ge (tgt := 43) dX3_countMoves_6 (by decide) f1 (by decide) (fun c2 => ?_) (fun c2 => ?_)
  · replace H := H.1 c2
    refine s_iload_n dX3_countMoves_43 rfl rfl ?_
    exact s_iret dX3_countMoves_44 rfl ⟨Nat.le_refl _, Nat.le_refl _⟩ H
  · replace H := H.2 c2
    refine s_iconst dX3_countMoves_9 ?_
    refine s_istore dX3_countMoves_10 (by decide) rfl ?_
    show S l MX3_countMoves (d + 1, 0, 0, 0, 0) 12 [none, some (vR a1), some (vI a2), some (vI a3), some (vI 0)] [] G h Q
    exact S_cut (by first | exact ⟨rfl, ⟨rfl, ⟨rfl, ⟨rfl, trivial⟩⟩⟩⟩ | simp [lsub]) H
set_option maxHeartbeats 4000000 in
set_option maxRecDepth 100000 in
theorem vX3_countMoves_12 {l : Launch} {d : Nat} {G : GS} {h : HP} {Q : Int → GS → HP → Prop} (a1 a2 a3 a4 : Int) (H : (ty G a1 = 4) ∧ (inR a4) ∧ (inR (h a1 6)) ∧ (((h a1 6) ≤ a4 → S l MX3_countMoves (d + 1, 0, 0, 0, 0) 4 [none, some (vR a1), some (vI a2), some (vI (a3 + 1)), none] [] G h Q) ∧ (a4 < (h a1 6) → R l MX4_matesOf d 0 0 [vR a1, vI a3, vI a4] G h (fun r5 G6 h7 => S l MX3_countMoves (d + 1, 0, 0, 0, 0) 12 [none, some (vR a1), some (vI (a2 + r5)), some (vI a3), some (vI (a4 + 1))] [] G6 h7 Q)))) : S l MX3_countMoves (d + 1, 0, 0, 0, 0) 12 [none, some (vR a1), some (vI a2), some (vI a3), some (vI a4)] [] G h Q := by
  refine s_iload dX3_countMoves_12 rfl ?_
  refine s_aload_n dX3_countMoves_14 rfl rfl ?_
  have f1 := H.1
  replace H := H.2
  refine s_getf (c := 4) (k := 6) (t := 0) (j := 6) dX3_countMoves_15 fl_X3_15 (by decide) (by decide) rfl rfl f1 ?_
  have f2 := H.1
  replace H := H.2
  have f3 := H.1
  replace H := H.2
  refine s_icmp_ge (tgt := 37) dX3_countMoves_18 (by decide) f2 f3 (fun c4 => ?_) (fun c4 => ?_)
  · replace H := H.1 c4
    refine s_iinc dX3_countMoves_37 rfl (by decide) rfl ?_
    show S l MX3_countMoves (d + 1, 0, 0, 0, 0) 40 [none, some (vR a1), some (vI a2), some (vI (a3 + 1)), some (vI a4)] [] G h Q
    refine s_goto (tgt := 4) dX3_countMoves_40 (by decide) ?_
    exact S_cut (by first | exact ⟨rfl, ⟨rfl, ⟨rfl, trivial⟩⟩⟩ | simp [lsub]) H
  · replace H := H.2 c4
    refine s_iload_n dX3_countMoves_21 rfl rfl ?_
    refine s_aload_n dX3_countMoves_22 rfl rfl ?_
    refine s_iload_n dX3_countMoves_23 rfl rfl ?_
    refine s_iload dX3_countMoves_24 rfl ?_
    refine s_callV (M' := MX4_matesOf) (As := [vI a3, vI a4]) (a := a1) (st := [vI a2]) dX3_countMoves_26 ml_X3_21 cv_X4_matesOf rfl rfl (Nat.le_of_ble_eq_true rfl) ⟨Nat.le_refl _, Nat.le_refl _⟩ f1 (R_mono (fun r5 G6 h7 H => ?_) H)
    show S l MX3_countMoves (d + 1, 0, 0, 0, 0) 29 [none, some (vR a1), some (vI a2), some (vI a3), some (vI a4)] [vI r5, vI a2] G6 h7 Q
    refine s_iadd dX3_countMoves_29 ?_
    refine s_istore_n dX3_countMoves_30 rfl (by decide) rfl ?_
    show S l MX3_countMoves (d + 1, 0, 0, 0, 0) 31 [none, some (vR a1), some (vI (a2 + r5)), some (vI a3), some (vI a4)] [] G6 h7 Q
    refine s_iinc dX3_countMoves_31 rfl (by decide) rfl ?_
    show S l MX3_countMoves (d + 1, 0, 0, 0, 0) 34 [none, some (vR a1), some (vI (a2 + r5)), some (vI a3), some (vI (a4 + 1))] [] G6 h7 Q
    refine s_goto (tgt := 12) dX3_countMoves_34 (by decide) ?_
    exact S_cut (by first | exact ⟨rfl, ⟨rfl, ⟨rfl, ⟨rfl, trivial⟩⟩⟩⟩ | simp [lsub]) H
set_option maxHeartbeats 4000000 in
set_option maxRecDepth 100000 in
theorem vX3_lessen_0 {l : Launch} {d : Nat} {G : GS} {h : HP} {Q : Int → GS → HP → Prop} (a0 a1 : Int) (H : (ty G a1 = 4) ∧ S l MX3_lessen (d + 1, 0, 0, 0, 0) 7 [some (vR a0), some (vR a1), some (vI (h a1 6)), some (vI 0)] [] G h Q) : S l MX3_lessen (d + 1, 0, 0, 0, 0) 0 [some (vR a0), some (vR a1), none, none] [] G h Q := by
  refine s_aload_n dX3_lessen_0 rfl rfl ?_
  have f1 := H.1
  replace H := H.2
  refine s_getf (c := 4) (k := 6) (t := 0) (j := 6) dX3_lessen_1 fl_X3_15 (by decide) (by decide) rfl rfl f1 ?_
  refine s_istore_n dX3_lessen_4 rfl (by decide) rfl ?_
  show S l MX3_lessen (d + 1, 0, 0, 0, 0) 5 [some (vR a0), some (vR a1), some (vI (h a1 6)), none] [] G h Q
  refine s_iconst dX3_lessen_5 ?_
  refine s_istore_n dX3_lessen_6 rfl (by decide) rfl ?_
  show S l MX3_lessen (d + 1, 0, 0, 0, 0) 7 [some (vR a0), some (vR a1), some (vI (h a1 6)), some (vI 0)] [] G h Q
  exact S_cut (by first | exact ⟨rfl, ⟨rfl, ⟨rfl, ⟨rfl, trivial⟩⟩⟩⟩ | simp [lsub]) H
set_option maxHeartbeats 4000000 in
set_option maxRecDepth 100000 in
theorem vX3_lessen_7 {l : Launch} {d : Nat} {G : GS} {h : HP} {Q : Int → GS → HP → Prop} (a0 a1 a2 a3 : Int) (H : (inR a3) ∧ (inR a2) ∧ ((a2 ≤ a3 → (ty G a1 = 4) ∧ Q (a2 - (h a1 6)) G h) ∧ (a3 < a2 → (ty G a0 = 3) ∧ R l MX3_dropNoughts d 0 0 [vR a0, vR a1] G h (fun r5 G6 h7 => (inR r5) ∧ ((r5 ≠ 0 → S l MX3_lessen (d + 1, 0, 0, 0, 0) 7 [some (vR a0), some (vR a1), some (vI a2), some (vI (a3 + 1))] [] G6 h7 Q) ∧ (r5 = 0 → (ty G6 a0 = 3) ∧ R l MX3_joinAlike d 0 0 [vR a0, vR a1] G6 h7 (fun r11 G12 h13 => (inR r11) ∧ ((r11 ≠ 0 → S l MX3_lessen (d + 1, 0, 0, 0, 0) 7 [some (vR a0), some (vR a1), some (vI a2), some (vI (a3 + 1))] [] G12 h13 Q) ∧ (r11 = 0 → (ty G12 a1 = 4) ∧ Q (a2 - (h13 a1 6)) G12 h13))))))))) : S l MX3_lessen (d + 1, 0, 0, 0, 0) 7 [some (vR a0), some (vR a1), some (vI a2), some (vI a3)] [] G h Q := by
  refine s_iload_n dX3_lessen_7 rfl rfl ?_
  refine s_iload_n dX3_lessen_8 rfl rfl ?_
  have f1 := H.1
  replace H := H.2
  have f2 := H.1
  replace H := H.2
  refine s_icmp_ge (tgt := 37) dX3_lessen_9 (by decide) f1 f2 (fun c3 => ?_) (fun c3 => ?_)
  · replace H := H.1 c3
    refine s_iload_n dX3_lessen_37 rfl rfl ?_
    refine s_aload_n dX3_lessen_38 rfl rfl ?_
    have f4 := H.1
    replace H := H.2
    refine s_getf (c := 4) (k := 6) (t := 0) (j := 6) dX3_lessen_39 fl_X3_15 (by decide) (by decide) rfl rfl f4 ?_
    refine s_isub dX3_lessen_42 ?_
    exact s_iret dX3_lessen_43 rfl ⟨Nat.le_refl _, Nat.le_refl _⟩ H
  · replace H := H.2 c3
    refine s_aload_n dX3_lessen_12 rfl rfl ?_
    refine s_aload_n dX3_lessen_13 rfl rfl ?_
    have f8 := H.1
    replace H := H.2
    refine s_callV (M' := MX3_dropNoughts) (As := [vR a1]) (a := a0) (st := []) dX3_lessen_14 ml_X3_56 cv_X3_dropNoughts rfl rfl (Nat.le_of_ble_eq_true rfl) ⟨Nat.le_refl _, Nat.le_refl _⟩ f8 (R_mono (fun r5 G6 h7 H => ?_) H)
    show S l MX3_lessen (d + 1, 0, 0, 0, 0) 17 [some (vR a0), some (vR a1), some (vI a2), some (vI a3)] [vI r5] G6 h7 Q
    have f9 := H.1
    replace H := H.2
    refine s_if_ne (tgt := 31) dX3_lessen_17 (by decide) f9 (fun c10 => ?_) (fun c10 => ?_)
    · replace H := H.1 c10
      refine s_iinc dX3_lessen_31 rfl (by decide) rfl ?_
      show S l MX3_lessen (d + 1, 0, 0, 0, 0) 34 [some (vR a0), some (vR a1), some (vI a2), some (vI (a3 + 1))] [] G6 h7 Q
      refine s_goto (tgt := 7) dX3_lessen_34 (by decide) ?_
      exact S_cut (by first | exact ⟨rfl, ⟨rfl, ⟨rfl, ⟨rfl, trivial⟩⟩⟩⟩ | simp [lsub]) H
    · replace H := H.2 c10
      refine s_aload_n dX3_lessen_20 rfl rfl ?_
      refine s_aload_n dX3_lessen_21 rfl rfl ?_
      have f14 := H.1
      replace H := H.2
      refine s_callV (M' := MX3_joinAlike) (As := [vR a1]) (a := a0) (st := []) dX3_lessen_22 ml_X3_60 cv_X3_joinAlike rfl rfl (Nat.le_of_ble_eq_true rfl) ⟨Nat.le_refl _, Nat.le_refl _⟩ f14 (R_mono (fun r11 G12 h13 H => ?_) H)
      show S l MX3_lessen (d + 1, 0, 0, 0, 0) 25 [some (vR a0), some (vR a1), some (vI a2), some (vI a3)] [vI r11] G12 h13 Q
      have f15 := H.1
      replace H := H.2
      refine s_if_ne (tgt := 31) dX3_lessen_25 (by decide) f15 (fun c16 => ?_) (fun c16 => ?_)
      · replace H := H.1 c16
        refine s_iinc dX3_lessen_31 rfl (by decide) rfl ?_
        show S l MX3_lessen (d + 1, 0, 0, 0, 0) 34 [some (vR a0), some (vR a1), some (vI a2), some (vI (a3 + 1))] [] G12 h13 Q
        refine s_goto (tgt := 7) dX3_lessen_34 (by decide) ?_
        exact S_cut (by first | exact ⟨rfl, ⟨rfl, ⟨rfl, ⟨rfl, trivial⟩⟩⟩⟩ | simp [lsub]) H
      · replace H := H.2 c16
        refine s_goto (tgt := 37) dX3_lessen_28 (by decide) ?_
        refine s_iload_n dX3_lessen_37 rfl rfl ?_
        refine s_aload_n dX3_lessen_38 rfl rfl ?_
        have f17 := H.1
        replace H := H.2
        refine s_getf (c := 4) (k := 6) (t := 0) (j := 6) dX3_lessen_39 fl_X3_15 (by decide) (by decide) rfl rfl f17 ?_
        refine s_isub dX3_lessen_42 ?_
        exact s_iret dX3_lessen_43 rfl ⟨Nat.le_refl _, Nat.le_refl _⟩ H
set_option maxHeartbeats 4000000 in
set_option maxRecDepth 100000 in
theorem vX3_dropNoughts_0 {l : Launch} {d : Nat} {G : GS} {h : HP} {Q : Int → GS → HP → Prop} (a0 a1 : Int) (H : S l MX3_dropNoughts (d + 1, 0, 0, 0, 0) 2 [none, some (vR a1), some (vI 0)] [] G h Q) : S l MX3_dropNoughts (d + 1, 0, 0, 0, 0) 0 [some (vR a0), some (vR a1), none] [] G h Q := by
  refine s_iconst dX3_dropNoughts_0 ?_
  refine s_istore_n dX3_dropNoughts_1 rfl (by decide) rfl ?_
  show S l MX3_dropNoughts (d + 1, 0, 0, 0, 0) 2 [some (vR a0), some (vR a1), some (vI 0)] [] G h Q
  exact S_cut (by first | exact ⟨rfl, ⟨rfl, trivial⟩⟩ | simp [lsub]) H
set_option maxHeartbeats 4000000 in
set_option maxRecDepth 100000 in
theorem vX3_dropNoughts_2 {l : Launch} {d : Nat} {G : GS} {h : HP} {Q : Int → GS → HP → Prop} (a1 a2 : Int) (H : (ty G a1 = 4) ∧ (inR a2) ∧ (inR (h a1 6)) ∧ (((h a1 6) ≤ a2 → Q 0 G h) ∧ (a2 < (h a1 6) → R l MX4_rowOf d 0 0 [vR a1, vI 0, vI a2] G h (fun r5 G6 h7 => (inR r5) ∧ ((r5 = 0 → (ty G6 a1 = 4) ∧ R l MX4_remove d 0 0 [vR a1, vI a2] G6 h7 (fun r10 G11 h12 => Q 1 G11 h12)) ∧ (r5 ≠ 0 → (ty G6 a1 = 4) ∧ R l MX4_rowOf d 0 0 [vR a1, vI 1, vI a2] G6 h7 (fun r14 G15 h16 => (inR r14) ∧ ((r14 = 0 → (ty G15 a1 = 4) ∧ R l MX4_remove d 0 0 [vR a1, vI a2] G15 h16 (fun r20 G21 h22 => Q 1 G21 h22)) ∧ (r14 ≠ 0 → (ty G15 a1 = 4) ∧ R l MX4_rowOf d 0 0 [vR a1, vI 2, vI a2] G15 h16 (fun r24 G25 h26 => (inR r24) ∧ ((r24 ≠ 0 → S l MX3_dropNoughts (d + 1, 0, 0, 0, 0) 2 [none, some (vR a1), some (vI (a2 + 1))] [] G25 h26 Q) ∧ (r24 = 0 → (ty G25 a1 = 4) ∧ R l MX4_remove d 0 0 [vR a1, vI a2] G25 h26 (fun r30 G31 h32 => Q 1 G31 h32))))))))))))) : S l MX3_dropNoughts (d + 1, 0, 0, 0, 0) 2 [none, some (vR a1), some (vI a2)] [] G h Q := by
  refine s_iload_n dX3_dropNoughts_2 rfl rfl ?_
  refine s_aload_n dX3_dropNoughts_3 rfl rfl ?_
  have f1 := H.1
  replace H := H.2
  refine s_getf (c := 4) (k := 6) (t := 0) (j := 6) dX3_dropNoughts_4 fl_X3_15 (by decide) (by decide) rfl rfl f1 ?_
  have f2 := H.1
  replace H := H.2
  have f3 := H.1
  replace H := H.2
  refine s_icmp_ge (tgt := 50) dX3_dropNoughts_7 (by decide) f2 f3 (fun c4 => ?_) (fun c4 => ?_)
  · replace H := H.1 c4
    refine s_iconst dX3_dropNoughts_50 ?_
    exact s_zret dX3_dropNoughts_51 rfl ⟨Nat.le_refl _, Nat.le_refl _⟩ (by decide) H
  · replace H := H.2 c4
    refine s_aload_n dX3_dropNoughts_10 rfl rfl ?_
    refine s_iconst dX3_dropNoughts_11 ?_
    refine s_iload_n dX3_dropNoughts_12 rfl rfl ?_
    refine s_callV (M' := MX4_rowOf) (As := [vI 0, vI a2]) (a := a1) (st := []) dX3_dropNoughts_13 ml_X3_41 cv_X4_rowOf rfl rfl (Nat.le_of_ble_eq_true rfl) ⟨Nat.le_refl _, Nat.le_refl _⟩ f1 (R_mono (fun r5 G6 h7 H => ?_) H)
    show S l MX3_dropNoughts (d + 1, 0, 0, 0, 0) 16 [none, some (vR a1), some (vI a2)] [vI r5] G6 h7 Q
    have f8 := H.1
    replace H := H.2
    refine s_if_eq (tgt := 37) dX3_dropNoughts_16 (by decide) f8 (fun c9 => ?_) (fun c9 => ?_)
    · replace H := H.1 c9
      refine s_aload_n dX3_dropNoughts_37 rfl rfl ?_
      refine s_iload_n dX3_dropNoughts_38 rfl rfl ?_
      have f13 := H.1
      replace H := H.2
      refine s_callV (M' := MX4_remove) (As := [vI a2]) (a := a1) (st := []) dX3_dropNoughts_39 ml_X3_63 cv_X4_remove rfl rfl (Nat.le_of_ble_eq_true rfl) ⟨Nat.le_refl _, Nat.le_refl _⟩ f13 (R_mono (fun r10 G11 h12 H => ?_) H)
      show S l MX3_dropNoughts (d + 1, 0, 0, 0, 0) 42 [none, some (vR a1), some (vI a2)] [] G11 h12 Q
      refine s_iconst dX3_dropNoughts_42 ?_
      exact s_zret dX3_dropNoughts_43 rfl ⟨Nat.le_refl _, Nat.le_refl _⟩ (by decide) H
    · replace H := H.2 c9
      refine s_aload_n dX3_dropNoughts_19 rfl rfl ?_
      refine s_iconst dX3_dropNoughts_20 ?_
      refine s_iload_n dX3_dropNoughts_21 rfl rfl ?_
      have f17 := H.1
      replace H := H.2
      refine s_callV (M' := MX4_rowOf) (As := [vI 1, vI a2]) (a := a1) (st := []) dX3_dropNoughts_22 ml_X3_41 cv_X4_rowOf rfl rfl (Nat.le_of_ble_eq_true rfl) ⟨Nat.le_refl _, Nat.le_refl _⟩ f17 (R_mono (fun r14 G15 h16 H => ?_) H)
      show S l MX3_dropNoughts (d + 1, 0, 0, 0, 0) 25 [none, some (vR a1), some (vI a2)] [vI r14] G15 h16 Q
      have f18 := H.1
      replace H := H.2
      refine s_if_eq (tgt := 37) dX3_dropNoughts_25 (by decide) f18 (fun c19 => ?_) (fun c19 => ?_)
      · replace H := H.1 c19
        refine s_aload_n dX3_dropNoughts_37 rfl rfl ?_
        refine s_iload_n dX3_dropNoughts_38 rfl rfl ?_
        have f23 := H.1
        replace H := H.2
        refine s_callV (M' := MX4_remove) (As := [vI a2]) (a := a1) (st := []) dX3_dropNoughts_39 ml_X3_63 cv_X4_remove rfl rfl (Nat.le_of_ble_eq_true rfl) ⟨Nat.le_refl _, Nat.le_refl _⟩ f23 (R_mono (fun r20 G21 h22 H => ?_) H)
        show S l MX3_dropNoughts (d + 1, 0, 0, 0, 0) 42 [none, some (vR a1), some (vI a2)] [] G21 h22 Q
        refine s_iconst dX3_dropNoughts_42 ?_
        exact s_zret dX3_dropNoughts_43 rfl ⟨Nat.le_refl _, Nat.le_refl _⟩ (by decide) H
      · replace H := H.2 c19
        refine s_aload_n dX3_dropNoughts_28 rfl rfl ?_
        refine s_iconst dX3_dropNoughts_29 ?_
        refine s_iload_n dX3_dropNoughts_30 rfl rfl ?_
        have f27 := H.1
        replace H := H.2
        refine s_callV (M' := MX4_rowOf) (As := [vI 2, vI a2]) (a := a1) (st := []) dX3_dropNoughts_31 ml_X3_41 cv_X4_rowOf rfl rfl (Nat.le_of_ble_eq_true rfl) ⟨Nat.le_refl _, Nat.le_refl _⟩ f27 (R_mono (fun r24 G25 h26 H => ?_) H)
        show S l MX3_dropNoughts (d + 1, 0, 0, 0, 0) 34 [none, some (vR a1), some (vI a2)] [vI r24] G25 h26 Q
        have f28 := H.1
        replace H := H.2
        refine s_if_ne (tgt := 44) dX3_dropNoughts_34 (by decide) f28 (fun c29 => ?_) (fun c29 => ?_)
        · replace H := H.1 c29
          refine s_iinc dX3_dropNoughts_44 rfl (by decide) rfl ?_
          show S l MX3_dropNoughts (d + 1, 0, 0, 0, 0) 47 [none, some (vR a1), some (vI (a2 + 1))] [] G25 h26 Q
          refine s_goto (tgt := 2) dX3_dropNoughts_47 (by decide) ?_
          exact S_cut (by first | exact ⟨rfl, ⟨rfl, trivial⟩⟩ | simp [lsub]) H
        · replace H := H.2 c29
          refine s_aload_n dX3_dropNoughts_37 rfl rfl ?_
          refine s_iload_n dX3_dropNoughts_38 rfl rfl ?_
          have f33 := H.1
          replace H := H.2
          refine s_callV (M' := MX4_remove) (As := [vI a2]) (a := a1) (st := []) dX3_dropNoughts_39 ml_X3_63 cv_X4_remove rfl rfl (Nat.le_of_ble_eq_true rfl) ⟨Nat.le_refl _, Nat.le_refl _⟩ f33 (R_mono (fun r30 G31 h32 H => ?_) H)
          show S l MX3_dropNoughts (d + 1, 0, 0, 0, 0) 42 [none, some (vR a1), some (vI a2)] [] G31 h32 Q
          refine s_iconst dX3_dropNoughts_42 ?_
          exact s_zret dX3_dropNoughts_43 rfl ⟨Nat.le_refl _, Nat.le_refl _⟩ (by decide) H
set_option maxHeartbeats 4000000 in
set_option maxRecDepth 100000 in
theorem vX3_joinAlike_0 {l : Launch} {d : Nat} {G : GS} {h : HP} {Q : Int → GS → HP → Prop} (a0 a1 : Int) (H : S l MX3_joinAlike (d + 1, 0, 0, 0, 0) 2 [some (vR a0), some (vR a1), some (vI 0), none, none] [] G h Q) : S l MX3_joinAlike (d + 1, 0, 0, 0, 0) 0 [some (vR a0), some (vR a1), none, none, none] [] G h Q := by
  refine s_iconst dX3_joinAlike_0 ?_
  refine s_istore_n dX3_joinAlike_1 rfl (by decide) rfl ?_
  show S l MX3_joinAlike (d + 1, 0, 0, 0, 0) 2 [some (vR a0), some (vR a1), some (vI 0), none, none] [] G h Q
  exact S_cut (by first | exact ⟨rfl, ⟨rfl, ⟨rfl, trivial⟩⟩⟩ | simp [lsub]) H
set_option maxHeartbeats 4000000 in
set_option maxRecDepth 100000 in
theorem vX3_joinAlike_2 {l : Launch} {d : Nat} {G : GS} {h : HP} {Q : Int → GS → HP → Prop} (a0 a1 a2 : Int) (H : (ty G a1 = 4) ∧ (inR a2) ∧ (inR (h a1 6)) ∧ (((h a1 6) ≤ a2 → Q 0 G h) ∧ (a2 < (h a1 6) → (ty G a0 = 3) ∧ R l MX3_waysWithMates d 0 0 [vR a0, vR a1, vI a2] G h (fun r5 G6 h7 => (inR r5) ∧ ((2 ≤ r5 → S l MX3_joinAlike (d + 1, 0, 0, 0, 0) 27 [some (vR a0), some (vR a1), some (vI a2), some (vI (a2 + 1)), none] [] G6 h7 Q) ∧ (r5 < 2 → S l MX3_joinAlike (d + 1, 0, 0, 0, 0) 2 [some (vR a0), some (vR a1), some (vI (a2 + 1)), none, none] [] G6 h7 Q)))))) : S l MX3_joinAlike (d + 1, 0, 0, 0, 0) 2 [some (vR a0), some (vR a1), some (vI a2), none, none] [] G h Q := by
  refine s_iload_n dX3_joinAlike_2 rfl rfl ?_
  refine s_aload_n dX3_joinAlike_3 rfl rfl ?_
  have f1 := H.1
  replace H := H.2
  refine s_getf (c := 4) (k := 6) (t := 0) (j := 6) dX3_joinAlike_4 fl_X3_15 (by decide) (by decide) rfl rfl f1 ?_
  have f2 := H.1
  replace H := H.2
  have f3 := H.1
  replace H := H.2
  refine s_icmp_ge (tgt := 73) dX3_joinAlike_7 (by decide) f2 f3 (fun c4 => ?_) (fun c4 => ?_)
  · replace H := H.1 c4
    refine s_iconst dX3_joinAlike_73 ?_
    exact s_zret dX3_joinAlike_74 rfl ⟨Nat.le_refl _, Nat.le_refl _⟩ (by decide) H
  · replace H := H.2 c4
    refine s_aload_n dX3_joinAlike_10 rfl rfl ?_
    refine s_aload_n dX3_joinAlike_11 rfl rfl ?_
    refine s_iload_n dX3_joinAlike_12 rfl rfl ?_
    have f8 := H.1
    replace H := H.2
    refine s_callV (M' := MX3_waysWithMates) (As := [vR a1, vI a2]) (a := a0) (st := []) dX3_joinAlike_13 ml_X3_67 cv_X3_waysWithMates rfl rfl (Nat.le_of_ble_eq_true rfl) ⟨Nat.le_refl _, Nat.le_refl _⟩ f8 (R_mono (fun r5 G6 h7 H => ?_) H)
    show S l MX3_joinAlike (d + 1, 0, 0, 0, 0) 16 [some (vR a0), some (vR a1), some (vI a2), none, none] [vI r5] G6 h7 Q
    refine s_iconst dX3_joinAlike_16 ?_
    have f9 := H.1
    replace H := H.2
    refine s_icmp_ge (tgt := 23) dX3_joinAlike_17 (by decide) f9 (by decide) (fun c10 => ?_) (fun c10 => ?_)
    · replace H := H.1 c10
      refine s_iload_n dX3_joinAlike_23 rfl rfl ?_
      refine s_iconst dX3_joinAlike_24 ?_
      refine s_iadd dX3_joinAlike_25 ?_
      refine s_istore_n dX3_joinAlike_26 rfl (by decide) rfl ?_
      show S l MX3_joinAlike (d + 1, 0, 0, 0, 0) 27 [some (vR a0), some (vR a1), some (vI a2), some (vI (a2 + 1)), none] [] G6 h7 Q
      exact S_cut (by first | exact ⟨rfl, ⟨rfl, ⟨rfl, ⟨rfl, trivial⟩⟩⟩⟩ | simp [lsub]) H
    · replace H := H.2 c10
      refine s_goto (tgt := 67) dX3_joinAlike_20 (by decide) ?_
      refine s_iinc dX3_joinAlike_67 rfl (by decide) rfl ?_
      show S l MX3_joinAlike (d + 1, 0, 0, 0, 0) 70 [some (vR a0), some (vR a1), some (vI (a2 + 1)), none, none] [] G6 h7 Q
      refine s_goto (tgt := 2) dX3_joinAlike_70 (by decide) ?_
      exact S_cut (by first | exact ⟨rfl, ⟨rfl, ⟨rfl, trivial⟩⟩⟩ | simp [lsub]) H
set_option maxHeartbeats 4000000 in
set_option maxRecDepth 100000 in
theorem vX3_joinAlike_27 {l : Launch} {d : Nat} {G : GS} {h : HP} {Q : Int → GS → HP → Prop} (a0 a1 a2 a3 : Int) (H : (ty G a1 = 4) ∧ (inR a3) ∧ (inR (h a1 6)) ∧ (((h a1 6) ≤ a3 → S l MX3_joinAlike (d + 1, 0, 0, 0, 0) 2 [some (vR a0), some (vR a1), some (vI (a2 + 1)), none, none] [] G h Q) ∧ (a3 < (h a1 6) → (ty G a0 = 3) ∧ R l MX3_thirdBesideAlike d 0 0 [vR a0, vR a1, vI a2, vI a3] G h (fun r5 G6 h7 => (inR r5) ∧ ((r5 = ((-1)) → S l MX3_joinAlike (d + 1, 0, 0, 0, 0) 27 [some (vR a0), some (vR a1), some (vI a2), some (vI (a3 + 1)), none] [] G6 h7 Q) ∧ (r5 ≠ ((-1)) → (ty G6 a0 = 3) ∧ R l MX3_join d 0 0 [vR a0, vR a1, vI a2, vI a3, vI r5] G6 h7 (fun r11 G12 h13 => Q 1 G12 h13))))))) : S l MX3_joinAlike (d + 1, 0, 0, 0, 0) 27 [some (vR a0), some (vR a1), some (vI a2), some (vI a3), none] [] G h Q := by
  refine s_iload_n dX3_joinAlike_27 rfl rfl ?_
  refine s_aload_n dX3_joinAlike_28 rfl rfl ?_
  have f1 := H.1
  replace H := H.2
  refine s_getf (c := 4) (k := 6) (t := 0) (j := 6) dX3_joinAlike_29 fl_X3_15 (by decide) (by decide) rfl rfl f1 ?_
  have f2 := H.1
  replace H := H.2
  have f3 := H.1
  replace H := H.2
  refine s_icmp_ge (tgt := 67) dX3_joinAlike_32 (by decide) f2 f3 (fun c4 => ?_) (fun c4 => ?_)
  · replace H := H.1 c4
    refine s_iinc dX3_joinAlike_67 rfl (by decide) rfl ?_
    show S l MX3_joinAlike (d + 1, 0, 0, 0, 0) 70 [some (vR a0), some (vR a1), some (vI (a2 + 1)), some (vI a3), none] [] G h Q
    refine s_goto (tgt := 2) dX3_joinAlike_70 (by decide) ?_
    exact S_cut (by first | exact ⟨rfl, ⟨rfl, ⟨rfl, trivial⟩⟩⟩ | simp [lsub]) H
  · replace H := H.2 c4
    refine s_aload_n dX3_joinAlike_35 rfl rfl ?_
    refine s_aload_n dX3_joinAlike_36 rfl rfl ?_
    refine s_iload_n dX3_joinAlike_37 rfl rfl ?_
    refine s_iload_n dX3_joinAlike_38 rfl rfl ?_
    have f8 := H.1
    replace H := H.2
    refine s_callV (M' := MX3_thirdBesideAlike) (As := [vR a1, vI a2, vI a3]) (a := a0) (st := []) dX3_joinAlike_39 ml_X3_71 cv_X3_thirdBesideAlike rfl rfl (Nat.le_of_ble_eq_true rfl) ⟨Nat.le_refl _, Nat.le_refl _⟩ f8 (R_mono (fun r5 G6 h7 H => ?_) H)
    show S l MX3_joinAlike (d + 1, 0, 0, 0, 0) 42 [some (vR a0), some (vR a1), some (vI a2), some (vI a3), none] [vI r5] G6 h7 Q
    refine s_istore dX3_joinAlike_42 (by decide) rfl ?_
    show S l MX3_joinAlike (d + 1, 0, 0, 0, 0) 44 [some (vR a0), some (vR a1), some (vI a2), some (vI a3), some (vI r5)] [] G6 h7 Q
    refine s_iload dX3_joinAlike_44 rfl ?_
    refine s_iconst dX3_joinAlike_46 ?_
    have f9 := H.1
    replace H := H.2
    refine s_icmp_eq (tgt := 61) dX3_joinAlike_47 (by decide) f9 (by decide) (fun c10 => ?_) (fun c10 => ?_)
    · replace H := H.1 c10
      refine s_iinc dX3_joinAlike_61 rfl (by decide) rfl ?_
      show S l MX3_joinAlike (d + 1, 0, 0, 0, 0) 64 [some (vR a0), some (vR a1), some (vI a2), some (vI (a3 + 1)), some (vI r5)] [] G6 h7 Q
      refine s_goto (tgt := 27) dX3_joinAlike_64 (by decide) ?_
      exact S_cut (by first | exact ⟨rfl, ⟨rfl, ⟨rfl, ⟨rfl, trivial⟩⟩⟩⟩ | simp [lsub]) H
    · replace H := H.2 c10
      refine s_aload_n dX3_joinAlike_50 rfl rfl ?_
      refine s_aload_n dX3_joinAlike_51 rfl rfl ?_
      refine s_iload_n dX3_joinAlike_52 rfl rfl ?_
      refine s_iload_n dX3_joinAlike_53 rfl rfl ?_
      refine s_iload dX3_joinAlike_54 rfl ?_
      have f14 := H.1
      replace H := H.2
      refine s_callV (M' := MX3_join) (As := [vR a1, vI a2, vI a3, vI r5]) (a := a0) (st := []) dX3_joinAlike_56 ml_X3_75 cv_X3_join rfl rfl (Nat.le_of_ble_eq_true rfl) ⟨Nat.le_refl _, Nat.le_refl _⟩ f14 (R_mono (fun r11 G12 h13 H => ?_) H)
      show S l MX3_joinAlike (d + 1, 0, 0, 0, 0) 59 [some (vR a0), some (vR a1), some (vI a2), some (vI a3), some (vI r5)] [] G12 h13 Q
      refine s_iconst dX3_joinAlike_59 ?_
      exact s_zret dX3_joinAlike_60 rfl ⟨Nat.le_refl _, Nat.le_refl _⟩ (by decide) H
set_option maxHeartbeats 4000000 in
set_option maxRecDepth 100000 in
theorem vX3_waysWithMates_0 {l : Launch} {d : Nat} {G : GS} {h : HP} {Q : Int → GS → HP → Prop} (a0 a1 a2 : Int) (H : S l MX3_waysWithMates (d + 1, 0, 0, 0, 0) 5 [none, some (vR a1), some (vI a2), some (vI 0), some (vI 0)] [] G h Q) : S l MX3_waysWithMates (d + 1, 0, 0, 0, 0) 0 [some (vR a0), some (vR a1), some (vI a2), none, none] [] G h Q := by
  refine s_iconst dX3_waysWithMates_0 ?_
  refine s_istore_n dX3_waysWithMates_1 rfl (by decide) rfl ?_
  show S l MX3_waysWithMates (d + 1, 0, 0, 0, 0) 2 [some (vR a0), some (vR a1), some (vI a2), some (vI 0), none] [] G h Q
  refine s_iconst dX3_waysWithMates_2 ?_
  refine s_istore dX3_waysWithMates_3 (by decide) rfl ?_
  show S l MX3_waysWithMates (d + 1, 0, 0, 0, 0) 5 [some (vR a0), some (vR a1), some (vI a2), some (vI 0), some (vI 0)] [] G h Q
  exact S_cut (by first | exact ⟨rfl, ⟨rfl, ⟨rfl, ⟨rfl, trivial⟩⟩⟩⟩ | simp [lsub]) H
set_option maxHeartbeats 4000000 in
set_option maxRecDepth 100000 in
theorem vX3_waysWithMates_5 {l : Launch} {d : Nat} {G : GS} {h : HP} {Q : Int → GS → HP → Prop} (a1 a2 a3 a4 : Int) (H : (inR a4) ∧ ((3 ≤ a4 → Q a3 G h) ∧ (a4 < 3 → (ty G a1 = 4) ∧ R l MX4_matesOf d 0 0 [vR a1, vI a4, vI a2] G h (fun r3 G4 h5 => (inR r3) ∧ ((r3 ≤ 0 → S l MX3_waysWithMates (d + 1, 0, 0, 0, 0) 5 [none, some (vR a1), some (vI a2), some (vI a3), some (vI (a4 + 1))] [] G4 h5 Q) ∧ (0 < r3 → S l MX3_waysWithMates (d + 1, 0, 0, 0, 0) 5 [none, some (vR a1), some (vI a2), some (vI (a3 + 1)), some (vI (a4 + 1))] [] G4 h5 Q)))))) : S l MX3_waysWithMates (d + 1, 0, 0, 0, 0) 5 [none, some (vR a1), some (vI a2), some (vI a3), some (vI a4)] [] G h Q := by
  refine s_iload dX3_waysWithMates_5 rfl ?_
  refine s_iconst dX3_waysWithMates_7 ?_
  have f1 := H.1
  replace H := H.2
  refine s_icmp_ge (tgt := 30) dX3_waysWithMates_8 (by decide) f1 (by decide) (fun c2 => ?_) (fun c2 => ?_)
  · replace H := H.1 c2
    refine s_iload_n dX3_waysWithMates_30 rfl rfl ?_
    exact s_iret dX3_waysWithMates_31 rfl ⟨Nat.le_refl _, Nat.le_refl _⟩ H
  · replace H := H.2 c2
    refine s_aload_n dX3_waysWithMates_11 rfl rfl ?_
    refine s_iload dX3_waysWithMates_12 rfl ?_
    refine s_iload_n dX3_waysWithMates_14 rfl rfl ?_
    have f6 := H.1
    replace H := H.2
    refine s_callV (M' := MX4_matesOf) (As := [vI a4, vI a2]) (a := a1) (st := []) dX3_waysWithMates_15 ml_X3_21 cv_X4_matesOf rfl rfl (Nat.le_of_ble_eq_true rfl) ⟨Nat.le_refl _, Nat.le_refl _⟩ f6 (R_mono (fun r3 G4 h5 H => ?_) H)
    show S l MX3_waysWithMates (d + 1, 0, 0, 0, 0) 18 [none, some (vR a1), some (vI a2), some (vI a3), some (vI a4)] [vI r3] G4 h5 Q
    have f7 := H.1
    replace H := H.2
    refine s_if_le (tgt := 24) dX3_waysWithMates_18 (by decide) f7 (fun c8 => ?_) (fun c8 => ?_)
    · replace H := H.1 c8
      refine s_iinc dX3_waysWithMates_24 rfl (by decide) rfl ?_
      show S l MX3_waysWithMates (d + 1, 0, 0, 0, 0) 27 [none, some (vR a1), some (vI a2), some (vI a3), some (vI (a4 + 1))] [] G4 h5 Q
      refine s_goto (tgt := 5) dX3_waysWithMates_27 (by decide) ?_
      exact S_cut (by first | exact ⟨rfl, ⟨rfl, ⟨rfl, ⟨rfl, trivial⟩⟩⟩⟩ | simp [lsub]) H
    · replace H := H.2 c8
      refine s_iinc dX3_waysWithMates_21 rfl (by decide) rfl ?_
      show S l MX3_waysWithMates (d + 1, 0, 0, 0, 0) 24 [none, some (vR a1), some (vI a2), some (vI (a3 + 1)), some (vI a4)] [] G4 h5 Q
      refine s_iinc dX3_waysWithMates_24 rfl (by decide) rfl ?_
      show S l MX3_waysWithMates (d + 1, 0, 0, 0, 0) 27 [none, some (vR a1), some (vI a2), some (vI (a3 + 1)), some (vI (a4 + 1))] [] G4 h5 Q
      refine s_goto (tgt := 5) dX3_waysWithMates_27 (by decide) ?_
      exact S_cut (by first | exact ⟨rfl, ⟨rfl, ⟨rfl, ⟨rfl, trivial⟩⟩⟩⟩ | simp [lsub]) H
set_option maxHeartbeats 4000000 in
set_option maxRecDepth 100000 in
theorem vX3_thirdBesideAlike_0 {l : Launch} {d : Nat} {G : GS} {h : HP} {Q : Int → GS → HP → Prop} (a0 a1 a2 a3 : Int) (H : (ty G a1 = 4) ∧ R l MX4_alike d 0 0 [vR a1, vI 0, vI a2, vI a3] G h (fun r1 G2 h3 => (ty G2 a1 = 4) ∧ R l MX4_alike d 0 0 [vR a1, vI 1, vI a2, vI a3] G2 h3 (fun r5 G6 h7 => (inR r1) ∧ ((r1 = 0 → ((r1 ≠ 0 → (ty G6 a1 = 4) ∧ R l MX4_alike d 0 0 [vR a1, vI 2, vI a2, vI a3] G6 h7 (fun r12 G13 h14 => (inR r12) ∧ ((r12 ≠ 0 → (inR r1) ∧ ((r1 = 0 → Q 0 G13 h14) ∧ (r1 ≠ 0 → Q 1 G13 h14))) ∧ (r12 = 0 → Q ((-1)) G13 h14)))) ∧ (r1 = 0 → (inR r5) ∧ ((r5 = 0 → Q ((-1)) G6 h7) ∧ (r5 ≠ 0 → (ty G6 a1 = 4) ∧ R l MX4_alike d 0 0 [vR a1, vI 2, vI a2, vI a3] G6 h7 (fun r22 G23 h24 => (inR r22) ∧ ((r22 ≠ 0 → (inR r1) ∧ ((r1 = 0 → Q 0 G23 h24) ∧ (r1 ≠ 0 → Q 1 G23 h24))) ∧ (r22 = 0 → Q ((-1)) G23 h24)))))))) ∧ (r1 ≠ 0 → (inR r5) ∧ ((r5 = 0 → ((r1 ≠ 0 → (ty G6 a1 = 4) ∧ R l MX4_alike d 0 0 [vR a1, vI 2, vI a2, vI a3] G6 h7 (fun r33 G34 h35 => (inR r33) ∧ ((r33 ≠ 0 → (inR r1) ∧ ((r1 = 0 → Q 0 G34 h35) ∧ (r1 ≠ 0 → Q 1 G34 h35))) ∧ (r33 = 0 → Q ((-1)) G34 h35)))) ∧ (r1 = 0 → ((r5 = 0 → Q ((-1)) G6 h7) ∧ (r5 ≠ 0 → (ty G6 a1 = 4) ∧ R l MX4_alike d 0 0 [vR a1, vI 2, vI a2, vI a3] G6 h7 (fun r42 G43 h44 => (inR r42) ∧ ((r42 ≠ 0 → (inR r1) ∧ ((r1 = 0 → Q 0 G43 h44) ∧ (r1 ≠ 0 → Q 1 G43 h44))) ∧ (r42 = 0 → Q ((-1)) G43 h44)))))))) ∧ (r5 ≠ 0 → Q 2 G6 h7))))))) : S l MX3_thirdBesideAlike (d + 1, 0, 0, 0, 0) 0 [some (vR a0), some (vR a1), some (vI a2), some (vI a3), none, none] [] G h Q := by
  refine s_aload_n dX3_thirdBesideAlike_0 rfl rfl ?_
  refine s_iconst dX3_thirdBesideAlike_1 ?_
  refine s_iload_n dX3_thirdBesideAlike_2 rfl rfl ?_
  refine s_iload_n dX3_thirdBesideAlike_3 rfl rfl ?_
  have f4 := H.1
  replace H := H.2
  refine s_callV (M' := MX4_alike) (As := [vI 0, vI a2, vI a3]) (a := a1) (st := []) dX3_thirdBesideAlike_4 ml_X3_33 cv_X4_alike rfl rfl (Nat.le_of_ble_eq_true rfl) ⟨Nat.le_refl _, Nat.le_refl _⟩ f4 (R_mono (fun r1 G2 h3 H => ?_) H)
  show S l MX3_thirdBesideAlike (d + 1, 0, 0, 0, 0) 7 [some (vR a0), some (vR a1), some (vI a2), some (vI a3), none, none] [vI r1] G2 h3 Q
  refine s_istore dX3_thirdBesideAlike_7 (by decide) rfl ?_
  show S l MX3_thirdBesideAlike (d + 1, 0, 0, 0, 0) 9 [some (vR a0), some (vR a1), some (vI a2), some (vI a3), some (vI r1), none] [] G2 h3 Q
  refine s_aload_n dX3_thirdBesideAlike_9 rfl rfl ?_
  refine s_iconst dX3_thirdBesideAlike_10 ?_
  refine s_iload_n dX3_thirdBesideAlike_11 rfl rfl ?_
  refine s_iload_n dX3_thirdBesideAlike_12 rfl rfl ?_
  have f8 := H.1
  replace H := H.2
  refine s_callV (M' := MX4_alike) (As := [vI 1, vI a2, vI a3]) (a := a1) (st := []) dX3_thirdBesideAlike_13 ml_X3_33 cv_X4_alike rfl rfl (Nat.le_of_ble_eq_true rfl) ⟨Nat.le_refl _, Nat.le_refl _⟩ f8 (R_mono (fun r5 G6 h7 H => ?_) H)
  show S l MX3_thirdBesideAlike (d + 1, 0, 0, 0, 0) 16 [some (vR a0), some (vR a1), some (vI a2), some (vI a3), some (vI r1), none] [vI r5] G6 h7 Q
  refine s_istore dX3_thirdBesideAlike_16 (by decide) rfl ?_
  show S l MX3_thirdBesideAlike (d + 1, 0, 0, 0, 0) 18 [some (vR a0), some (vR a1), some (vI a2), some (vI a3), some (vI r1), some (vI r5)] [] G6 h7 Q
  refine s_iload dX3_thirdBesideAlike_18 rfl ?_
  have f9 := H.1
  replace H := H.2
  refine s_if_eq (tgt := 30) dX3_thirdBesideAlike_20 (by decide) f9 (fun c10 => ?_) (fun c10 => ?_)
  · replace H := H.1 c10
    refine s_iload dX3_thirdBesideAlike_30 rfl ?_
    refine s_if_ne (tgt := 40) dX3_thirdBesideAlike_32 (by decide) f9 (fun c11 => ?_) (fun c11 => ?_)
    · replace H := H.1 c11
      refine s_aload_n dX3_thirdBesideAlike_40 rfl rfl ?_
      refine s_iconst dX3_thirdBesideAlike_41 ?_
      refine s_iload_n dX3_thirdBesideAlike_42 rfl rfl ?_
      refine s_iload_n dX3_thirdBesideAlike_43 rfl rfl ?_
      have f15 := H.1
      replace H := H.2
      refine s_callV (M' := MX4_alike) (As := [vI 2, vI a2, vI a3]) (a := a1) (st := []) dX3_thirdBesideAlike_44 ml_X3_33 cv_X4_alike rfl rfl (Nat.le_of_ble_eq_true rfl) ⟨Nat.le_refl _, Nat.le_refl _⟩ f15 (R_mono (fun r12 G13 h14 H => ?_) H)
      show S l MX3_thirdBesideAlike (d + 1, 0, 0, 0, 0) 47 [some (vR a0), some (vR a1), some (vI a2), some (vI a3), some (vI r1), some (vI r5)] [vI r12] G13 h14 Q
      have f16 := H.1
      replace H := H.2
      refine s_if_ne (tgt := 52) dX3_thirdBesideAlike_47 (by decide) f16 (fun c17 => ?_) (fun c17 => ?_)
      · replace H := H.1 c17
        refine s_iload dX3_thirdBesideAlike_52 rfl ?_
        have f18 := H.1
        replace H := H.2
        refine s_if_eq (tgt := 61) dX3_thirdBesideAlike_54 (by decide) f18 (fun c19 => ?_) (fun c19 => ?_)
        · replace H := H.1 c19
          refine s_iconst dX3_thirdBesideAlike_61 ?_
          exact s_iret dX3_thirdBesideAlike_62 rfl ⟨Nat.le_refl _, Nat.le_refl _⟩ H
        · replace H := H.2 c19
          refine s_iconst dX3_thirdBesideAlike_57 ?_
          refine s_goto (tgt := 62) dX3_thirdBesideAlike_58 (by decide) ?_
          exact s_iret dX3_thirdBesideAlike_62 rfl ⟨Nat.le_refl _, Nat.le_refl _⟩ H
      · replace H := H.2 c17
        refine s_iconst dX3_thirdBesideAlike_50 ?_
        exact s_iret dX3_thirdBesideAlike_51 rfl ⟨Nat.le_refl _, Nat.le_refl _⟩ H
    · replace H := H.2 c11
      refine s_iload dX3_thirdBesideAlike_35 rfl ?_
      have f20 := H.1
      replace H := H.2
      refine s_if_eq (tgt := 50) dX3_thirdBesideAlike_37 (by decide) f20 (fun c21 => ?_) (fun c21 => ?_)
      · replace H := H.1 c21
        refine s_iconst dX3_thirdBesideAlike_50 ?_
        exact s_iret dX3_thirdBesideAlike_51 rfl ⟨Nat.le_refl _, Nat.le_refl _⟩ H
      · replace H := H.2 c21
        refine s_aload_n dX3_thirdBesideAlike_40 rfl rfl ?_
        refine s_iconst dX3_thirdBesideAlike_41 ?_
        refine s_iload_n dX3_thirdBesideAlike_42 rfl rfl ?_
        refine s_iload_n dX3_thirdBesideAlike_43 rfl rfl ?_
        have f25 := H.1
        replace H := H.2
        refine s_callV (M' := MX4_alike) (As := [vI 2, vI a2, vI a3]) (a := a1) (st := []) dX3_thirdBesideAlike_44 ml_X3_33 cv_X4_alike rfl rfl (Nat.le_of_ble_eq_true rfl) ⟨Nat.le_refl _, Nat.le_refl _⟩ f25 (R_mono (fun r22 G23 h24 H => ?_) H)
        show S l MX3_thirdBesideAlike (d + 1, 0, 0, 0, 0) 47 [some (vR a0), some (vR a1), some (vI a2), some (vI a3), some (vI r1), some (vI r5)] [vI r22] G23 h24 Q
        have f26 := H.1
        replace H := H.2
        refine s_if_ne (tgt := 52) dX3_thirdBesideAlike_47 (by decide) f26 (fun c27 => ?_) (fun c27 => ?_)
        · replace H := H.1 c27
          refine s_iload dX3_thirdBesideAlike_52 rfl ?_
          have f28 := H.1
          replace H := H.2
          refine s_if_eq (tgt := 61) dX3_thirdBesideAlike_54 (by decide) f28 (fun c29 => ?_) (fun c29 => ?_)
          · replace H := H.1 c29
            refine s_iconst dX3_thirdBesideAlike_61 ?_
            exact s_iret dX3_thirdBesideAlike_62 rfl ⟨Nat.le_refl _, Nat.le_refl _⟩ H
          · replace H := H.2 c29
            refine s_iconst dX3_thirdBesideAlike_57 ?_
            refine s_goto (tgt := 62) dX3_thirdBesideAlike_58 (by decide) ?_
            exact s_iret dX3_thirdBesideAlike_62 rfl ⟨Nat.le_refl _, Nat.le_refl _⟩ H
        · replace H := H.2 c27
          refine s_iconst dX3_thirdBesideAlike_50 ?_
          exact s_iret dX3_thirdBesideAlike_51 rfl ⟨Nat.le_refl _, Nat.le_refl _⟩ H
  · replace H := H.2 c10
    refine s_iload dX3_thirdBesideAlike_23 rfl ?_
    have f30 := H.1
    replace H := H.2
    refine s_if_eq (tgt := 30) dX3_thirdBesideAlike_25 (by decide) f30 (fun c31 => ?_) (fun c31 => ?_)
    · replace H := H.1 c31
      refine s_iload dX3_thirdBesideAlike_30 rfl ?_
      refine s_if_ne (tgt := 40) dX3_thirdBesideAlike_32 (by decide) f9 (fun c32 => ?_) (fun c32 => ?_)
      · replace H := H.1 c32
        refine s_aload_n dX3_thirdBesideAlike_40 rfl rfl ?_
        refine s_iconst dX3_thirdBesideAlike_41 ?_
        refine s_iload_n dX3_thirdBesideAlike_42 rfl rfl ?_
        refine s_iload_n dX3_thirdBesideAlike_43 rfl rfl ?_
        have f36 := H.1
        replace H := H.2
        refine s_callV (M' := MX4_alike) (As := [vI 2, vI a2, vI a3]) (a := a1) (st := []) dX3_thirdBesideAlike_44 ml_X3_33 cv_X4_alike rfl rfl (Nat.le_of_ble_eq_true rfl) ⟨Nat.le_refl _, Nat.le_refl _⟩ f36 (R_mono (fun r33 G34 h35 H => ?_) H)
        show S l MX3_thirdBesideAlike (d + 1, 0, 0, 0, 0) 47 [some (vR a0), some (vR a1), some (vI a2), some (vI a3), some (vI r1), some (vI r5)] [vI r33] G34 h35 Q
        have f37 := H.1
        replace H := H.2
        refine s_if_ne (tgt := 52) dX3_thirdBesideAlike_47 (by decide) f37 (fun c38 => ?_) (fun c38 => ?_)
        · replace H := H.1 c38
          refine s_iload dX3_thirdBesideAlike_52 rfl ?_
          have f39 := H.1
          replace H := H.2
          refine s_if_eq (tgt := 61) dX3_thirdBesideAlike_54 (by decide) f39 (fun c40 => ?_) (fun c40 => ?_)
          · replace H := H.1 c40
            refine s_iconst dX3_thirdBesideAlike_61 ?_
            exact s_iret dX3_thirdBesideAlike_62 rfl ⟨Nat.le_refl _, Nat.le_refl _⟩ H
          · replace H := H.2 c40
            refine s_iconst dX3_thirdBesideAlike_57 ?_
            refine s_goto (tgt := 62) dX3_thirdBesideAlike_58 (by decide) ?_
            exact s_iret dX3_thirdBesideAlike_62 rfl ⟨Nat.le_refl _, Nat.le_refl _⟩ H
        · replace H := H.2 c38
          refine s_iconst dX3_thirdBesideAlike_50 ?_
          exact s_iret dX3_thirdBesideAlike_51 rfl ⟨Nat.le_refl _, Nat.le_refl _⟩ H
      · replace H := H.2 c32
        refine s_iload dX3_thirdBesideAlike_35 rfl ?_
        refine s_if_eq (tgt := 50) dX3_thirdBesideAlike_37 (by decide) f30 (fun c41 => ?_) (fun c41 => ?_)
        · replace H := H.1 c41
          refine s_iconst dX3_thirdBesideAlike_50 ?_
          exact s_iret dX3_thirdBesideAlike_51 rfl ⟨Nat.le_refl _, Nat.le_refl _⟩ H
        · replace H := H.2 c41
          refine s_aload_n dX3_thirdBesideAlike_40 rfl rfl ?_
          refine s_iconst dX3_thirdBesideAlike_41 ?_
          refine s_iload_n dX3_thirdBesideAlike_42 rfl rfl ?_
          refine s_iload_n dX3_thirdBesideAlike_43 rfl rfl ?_
          have f45 := H.1
          replace H := H.2
          refine s_callV (M' := MX4_alike) (As := [vI 2, vI a2, vI a3]) (a := a1) (st := []) dX3_thirdBesideAlike_44 ml_X3_33 cv_X4_alike rfl rfl (Nat.le_of_ble_eq_true rfl) ⟨Nat.le_refl _, Nat.le_refl _⟩ f45 (R_mono (fun r42 G43 h44 H => ?_) H)
          show S l MX3_thirdBesideAlike (d + 1, 0, 0, 0, 0) 47 [some (vR a0), some (vR a1), some (vI a2), some (vI a3), some (vI r1), some (vI r5)] [vI r42] G43 h44 Q
          have f46 := H.1
          replace H := H.2
          refine s_if_ne (tgt := 52) dX3_thirdBesideAlike_47 (by decide) f46 (fun c47 => ?_) (fun c47 => ?_)
          · replace H := H.1 c47
            refine s_iload dX3_thirdBesideAlike_52 rfl ?_
            have f48 := H.1
            replace H := H.2
            refine s_if_eq (tgt := 61) dX3_thirdBesideAlike_54 (by decide) f48 (fun c49 => ?_) (fun c49 => ?_)
            · replace H := H.1 c49
              refine s_iconst dX3_thirdBesideAlike_61 ?_
              exact s_iret dX3_thirdBesideAlike_62 rfl ⟨Nat.le_refl _, Nat.le_refl _⟩ H
            · replace H := H.2 c49
              refine s_iconst dX3_thirdBesideAlike_57 ?_
              refine s_goto (tgt := 62) dX3_thirdBesideAlike_58 (by decide) ?_
              exact s_iret dX3_thirdBesideAlike_62 rfl ⟨Nat.le_refl _, Nat.le_refl _⟩ H
          · replace H := H.2 c47
            refine s_iconst dX3_thirdBesideAlike_50 ?_
            exact s_iret dX3_thirdBesideAlike_51 rfl ⟨Nat.le_refl _, Nat.le_refl _⟩ H
    · replace H := H.2 c31
      refine s_iconst dX3_thirdBesideAlike_28 ?_
      exact s_iret dX3_thirdBesideAlike_29 rfl ⟨Nat.le_refl _, Nat.le_refl _⟩ H
set_option maxHeartbeats 4000000 in
set_option maxRecDepth 100000 in
theorem vX3_join_0 {l : Launch} {d : Nat} {G : GS} {h : HP} {Q : Int → GS → HP → Prop} (a0 a1 a2 a3 a4 : Int) (H : (dvR (a4 + 1) 3) ∧ (ty G a1 = 4) ∧ R l MX4_factor d 0 0 [vR a1, vI ((a4 + 1) % 3), vI a2, vI a3] G h (fun r2 G3 h4 => (dvR (a4 + 2) 3) ∧ (ty G3 a1 = 4) ∧ R l MX4_factor d 0 0 [vR a1, vI ((a4 + 2) % 3), vI a2, vI a3] G3 h4 (fun r7 G8 h9 => (ty G8 a0 = 3) ∧ (ty G8 (h9 a0 0) = 1) ∧ (dvR (r2 * r7) (h9 (h9 a0 0) 0)) ∧ (ty G8 a1 = 4) ∧ R l MX4_rowOf d 0 0 [vR a1, vI a4, vI a2] G8 h9 (fun r14 G15 h16 => (ty G15 a1 = 4) ∧ R l MX4_rowOf d 0 0 [vR a1, vI a4, vI a3] G15 h16 (fun r18 G19 h20 => (ty G19 (h9 a0 0) = 1) ∧ R l MX1_plus d 0 0 [vR (h9 a0 0), vI r14, vI ((r2 * r7) % (h9 (h9 a0 0) 0)), vI r18] G19 h20 (fun r22 G23 h24 => (ty G23 a1 = 4) ∧ R l MX4_put d 0 0 [vR a1, vI a4, vI a2, vI r22] G23 h24 (fun r26 G27 h28 => (ty G27 a1 = 4) ∧ R l MX4_remove d 0 0 [vR a1, vI a3] G27 h28 (fun r30 G31 h32 => Q 0 G31 h32)))))))) : S l MX3_join (d + 1, 0, 0, 0, 0) 0 [some (vR a0), some (vR a1), some (vI a2), some (vI a3), some (vI a4), none, none, none] [] G h Q := by
  refine s_aload_n dX3_join_0 rfl rfl ?_
  refine s_iload dX3_join_1 rfl ?_
  refine s_iconst dX3_join_3 ?_
  refine s_iadd dX3_join_4 ?_
  refine s_iconst dX3_join_5 ?_
  have f1 := H.1
  replace H := H.2
  refine s_irem dX3_join_6 f1 ?_
  refine s_iload_n dX3_join_7 rfl rfl ?_
  refine s_iload_n dX3_join_8 rfl rfl ?_
  have f5 := H.1
  replace H := H.2
  refine s_callV (M' := MX4_factor) (As := [vI ((a4 + 1) % 3), vI a2, vI a3]) (a := a1) (st := []) dX3_join_9 ml_X3_37 cv_X4_factor rfl rfl (Nat.le_of_ble_eq_true rfl) ⟨Nat.le_refl _, Nat.le_refl _⟩ f5 (R_mono (fun r2 G3 h4 H => ?_) H)
  show S l MX3_join (d + 1, 0, 0, 0, 0) 12 [some (vR a0), some (vR a1), some (vI a2), some (vI a3), some (vI a4), none, none, none] [vI r2] G3 h4 Q
  refine s_istore dX3_join_12 (by decide) rfl ?_
  show S l MX3_join (d + 1, 0, 0, 0, 0) 14 [some (vR a0), some (vR a1), some (vI a2), some (vI a3), some (vI a4), some (vI r2), none, none] [] G3 h4 Q
  refine s_aload_n dX3_join_14 rfl rfl ?_
  refine s_iload dX3_join_15 rfl ?_
  refine s_iconst dX3_join_17 ?_
  refine s_iadd dX3_join_18 ?_
  refine s_iconst dX3_join_19 ?_
  have f6 := H.1
  replace H := H.2
  refine s_irem dX3_join_20 f6 ?_
  refine s_iload_n dX3_join_21 rfl rfl ?_
  refine s_iload_n dX3_join_22 rfl rfl ?_
  have f10 := H.1
  replace H := H.2
  refine s_callV (M' := MX4_factor) (As := [vI ((a4 + 2) % 3), vI a2, vI a3]) (a := a1) (st := []) dX3_join_23 ml_X3_37 cv_X4_factor rfl rfl (Nat.le_of_ble_eq_true rfl) ⟨Nat.le_refl _, Nat.le_refl _⟩ f10 (R_mono (fun r7 G8 h9 H => ?_) H)
  show S l MX3_join (d + 1, 0, 0, 0, 0) 26 [some (vR a0), some (vR a1), some (vI a2), some (vI a3), some (vI a4), some (vI r2), none, none] [vI r7] G8 h9 Q
  refine s_istore dX3_join_26 (by decide) rfl ?_
  show S l MX3_join (d + 1, 0, 0, 0, 0) 28 [some (vR a0), some (vR a1), some (vI a2), some (vI a3), some (vI a4), some (vI r2), some (vI r7), none] [] G8 h9 Q
  refine s_iload dX3_join_28 rfl ?_
  refine s_iload dX3_join_30 rfl ?_
  refine s_imul dX3_join_32 ?_
  refine s_aload_n dX3_join_33 rfl rfl ?_
  have f11 := H.1
  replace H := H.2
  refine s_getf (c := 3) (k := 0) (t := 2) (j := 0) dX3_join_34 fl_X3_9 (by decide) (by decide) rfl rfl f11 ?_
  have f12 := H.1
  replace H := H.2
  refine s_getf (c := 1) (k := 0) (t := 0) (j := 0) dX3_join_37 fl_X3_78 (by decide) (by decide) rfl rfl f12 ?_
  have f13 := H.1
  replace H := H.2
  refine s_irem dX3_join_40 f13 ?_
  refine s_istore dX3_join_41 (by decide) rfl ?_
  show S l MX3_join (d + 1, 0, 0, 0, 0) 43 [some (vR a0), some (vR a1), some (vI a2), some (vI a3), some (vI a4), some (vI r2), some (vI r7), some (vI ((r2 * r7) % (h9 (h9 a0 0) 0)))] [] G8 h9 Q
  refine s_aload_n dX3_join_43 rfl rfl ?_
  refine s_iload dX3_join_44 rfl ?_
  refine s_iload_n dX3_join_46 rfl rfl ?_
  refine s_aload_n dX3_join_47 rfl rfl ?_
  refine s_getf (c := 3) (k := 0) (t := 2) (j := 0) dX3_join_48 fl_X3_9 (by decide) (by decide) rfl rfl f11 ?_
  refine s_aload_n dX3_join_51 rfl rfl ?_
  refine s_iload dX3_join_52 rfl ?_
  refine s_iload_n dX3_join_54 rfl rfl ?_
  have f17 := H.1
  replace H := H.2
  refine s_callV (M' := MX4_rowOf) (As := [vI a4, vI a2]) (a := a1) (st := [vR (h9 a0 0), vI a2, vI a4, vR a1]) dX3_join_55 ml_X3_41 cv_X4_rowOf rfl rfl (Nat.le_of_ble_eq_true rfl) ⟨Nat.le_refl _, Nat.le_refl _⟩ f17 (R_mono (fun r14 G15 h16 H => ?_) H)
  show S l MX3_join (d + 1, 0, 0, 0, 0) 58 [some (vR a0), some (vR a1), some (vI a2), some (vI a3), some (vI a4), some (vI r2), some (vI r7), some (vI ((r2 * r7) % (h9 (h9 a0 0) 0)))] [vI r14, vR (h9 a0 0), vI a2, vI a4, vR a1] G15 h16 Q
  refine s_iload dX3_join_58 rfl ?_
  refine s_aload_n dX3_join_60 rfl rfl ?_
  refine s_iload dX3_join_61 rfl ?_
  refine s_iload_n dX3_join_63 rfl rfl ?_
  have f21 := H.1
  replace H := H.2
  refine s_callV (M' := MX4_rowOf) (As := [vI a4, vI a3]) (a := a1) (st := [vI ((r2 * r7) % (h9 (h9 a0 0) 0)), vI r14, vR (h9 a0 0), vI a2, vI a4, vR a1]) dX3_join_64 ml_X3_41 cv_X4_rowOf rfl rfl (Nat.le_of_ble_eq_true rfl) ⟨Nat.le_refl _, Nat.le_refl _⟩ f21 (R_mono (fun r18 G19 h20 H => ?_) H)
  show S l MX3_join (d + 1, 0, 0, 0, 0) 67 [some (vR a0), some (vR a1), some (vI a2), some (vI a3), some (vI a4), some (vI r2), some (vI r7), some (vI ((r2 * r7) % (h9 (h9 a0 0) 0)))] [vI r18, vI ((r2 * r7) % (h9 (h9 a0 0) 0)), vI r14, vR (h9 a0 0), vI a2, vI a4, vR a1] G19 h20 Q
  have f25 := H.1
  replace H := H.2
  refine s_callV (M' := MX1_plus) (As := [vI r14, vI ((r2 * r7) % (h9 (h9 a0 0) 0)), vI r18]) (a := h9 a0 0) (st := [vI a2, vI a4, vR a1]) dX3_join_67 ml_X3_44 cv_X1_plus rfl rfl (Nat.le_of_ble_eq_true rfl) ⟨Nat.le_refl _, Nat.le_refl _⟩ f25 (R_mono (fun r22 G23 h24 H => ?_) H)
  show S l MX3_join (d + 1, 0, 0, 0, 0) 70 [some (vR a0), some (vR a1), some (vI a2), some (vI a3), some (vI a4), some (vI r2), some (vI r7), some (vI ((r2 * r7) % (h9 (h9 a0 0) 0)))] [vI r22, vI a2, vI a4, vR a1] G23 h24 Q
  have f29 := H.1
  replace H := H.2
  refine s_callV (M' := MX4_put) (As := [vI a4, vI a2, vI r22]) (a := a1) (st := []) dX3_join_70 ml_X3_49 cv_X4_put rfl rfl (Nat.le_of_ble_eq_true rfl) ⟨Nat.le_refl _, Nat.le_refl _⟩ f29 (R_mono (fun r26 G27 h28 H => ?_) H)
  show S l MX3_join (d + 1, 0, 0, 0, 0) 73 [some (vR a0), some (vR a1), some (vI a2), some (vI a3), some (vI a4), some (vI r2), some (vI r7), some (vI ((r2 * r7) % (h9 (h9 a0 0) 0)))] [] G27 h28 Q
  refine s_aload_n dX3_join_73 rfl rfl ?_
  refine s_iload_n dX3_join_74 rfl rfl ?_
  have f33 := H.1
  replace H := H.2
  refine s_callV (M' := MX4_remove) (As := [vI a3]) (a := a1) (st := []) dX3_join_75 ml_X3_63 cv_X4_remove rfl rfl (Nat.le_of_ble_eq_true rfl) ⟨Nat.le_refl _, Nat.le_refl _⟩ f33 (R_mono (fun r30 G31 h32 H => ?_) H)
  show S l MX3_join (d + 1, 0, 0, 0, 0) 78 [some (vR a0), some (vR a1), some (vI a2), some (vI a3), some (vI a4), some (vI r2), some (vI r7), some (vI ((r2 * r7) % (h9 (h9 a0 0) 0)))] [] G31 h32 Q
  exact s_vret dX3_join_78 rfl ⟨Nat.le_refl _, Nat.le_refl _⟩ H
set_option maxHeartbeats 4000000 in
set_option maxRecDepth 100000 in
theorem vX3_doMove_0 {l : Launch} {d : Nat} {G : GS} {h : HP} {Q : Int → GS → HP → Prop} (a0 a1 a2 a3 a4 : Int) (H : (dvR (a2 + 1) 3) ∧ (dvR (a2 + 2) 3) ∧ (ty G a1 = 4) ∧ R l MX4_factor d 0 0 [vR a1, vI a2, vI a3, vI a4] G h (fun r3 G4 h5 => (ty G4 a0 = 3) ∧ (ty G4 a1 = 4) ∧ R l MX4_rowOf d 0 0 [vR a1, vI ((a2 + 1) % 3), vI a4] G4 h5 (fun r8 G9 h10 => (ty G9 (h5 a0 0) = 1) ∧ R l MX1_plus d 0 0 [vR (h5 a0 0), vI 0, vI r3, vI r8] G9 h10 (fun r12 G13 h14 => (ty G13 a1 = 4) ∧ R l MX4_rowOf d 0 0 [vR a1, vI a2, vI a3] G13 h14 (fun r16 G17 h18 => (ty G17 a1 = 4) ∧ R l MX4_put d 0 0 [vR a1, vI a2, vI a4, vI r16] G17 h18 (fun r20 G21 h22 => (ty G21 a1 = 4) ∧ R l MX4_put d 0 0 [vR a1, vI ((a2 + 1) % 3), vI a4, vI r12] G21 h22 (fun r24 G25 h26 => (ty G25 a0 = 3) ∧ (ty G25 a1 = 4) ∧ R l MX4_rowOf d 0 0 [vR a1, vI ((a2 + 1) % 3), vI a3] G25 h26 (fun r29 G30 h31 => (ty G30 (h26 a0 0) = 1) ∧ R l MX1_plus d 0 0 [vR (h26 a0 0), vI r29, vI 1, vI r12] G30 h31 (fun r33 G34 h35 => (ty G34 a1 = 4) ∧ R l MX4_put d 0 0 [vR a1, vI ((a2 + 1) % 3), vI a3, vI r33] G34 h35 (fun r37 G38 h39 => (ty G38 a0 = 3) ∧ (ty G38 a1 = 4) ∧ R l MX4_rowOf d 0 0 [vR a1, vI ((a2 + 2) % 3), vI a4] G38 h39 (fun r42 G43 h44 => (ty G43 a1 = 4) ∧ R l MX4_rowOf d 0 0 [vR a1, vI ((a2 + 2) % 3), vI a3] G43 h44 (fun r46 G47 h48 => (ty G47 (h39 a0 0) = 1) ∧ R l MX1_minus d 0 0 [vR (h39 a0 0), vI r42, vI 1, vI r46] G47 h48 (fun r50 G51 h52 => (ty G51 a1 = 4) ∧ R l MX4_put d 0 0 [vR a1, vI ((a2 + 2) % 3), vI a4, vI r50] G51 h52 (fun r54 G55 h56 => Q 0 G55 h56)))))))))))))) : S l MX3_doMove (d + 1, 0, 0, 0, 0) 0 [some (vR a0), some (vR a1), some (vI a2), some (vI a3), some (vI a4), none, none, none, none] [] G h Q := by
  refine s_iload_n dX3_doMove_0 rfl rfl ?_
  refine s_iconst dX3_doMove_1 ?_
  refine s_iadd dX3_doMove_2 ?_
  refine s_iconst dX3_doMove_3 ?_
  have f1 := H.1
  replace H := H.2
  refine s_irem dX3_doMove_4 f1 ?_
  refine s_istore dX3_doMove_5 (by decide) rfl ?_
  show S l MX3_doMove (d + 1, 0, 0, 0, 0) 7 [some (vR a0), some (vR a1), some (vI a2), some (vI a3), some (vI a4), some (vI ((a2 + 1) % 3)), none, none, none] [] G h Q
  refine s_iload_n dX3_doMove_7 rfl rfl ?_
  refine s_iconst dX3_doMove_8 ?_
  refine s_iadd dX3_doMove_9 ?_
  refine s_iconst dX3_doMove_10 ?_
  have f2 := H.1
  replace H := H.2
  refine s_irem dX3_doMove_11 f2 ?_
  refine s_istore dX3_doMove_12 (by decide) rfl ?_
  show S l MX3_doMove (d + 1, 0, 0, 0, 0) 14 [some (vR a0), some (vR a1), some (vI a2), some (vI a3), some (vI a4), some (vI ((a2 + 1) % 3)), some (vI ((a2 + 2) % 3)), none, none] [] G h Q
  refine s_aload_n dX3_doMove_14 rfl rfl ?_
  refine s_iload_n dX3_doMove_15 rfl rfl ?_
  refine s_iload_n dX3_doMove_16 rfl rfl ?_
  refine s_iload dX3_doMove_17 rfl ?_
  have f6 := H.1
  replace H := H.2
  refine s_callV (M' := MX4_factor) (As := [vI a2, vI a3, vI a4]) (a := a1) (st := []) dX3_doMove_19 ml_X3_37 cv_X4_factor rfl rfl (Nat.le_of_ble_eq_true rfl) ⟨Nat.le_refl _, Nat.le_refl _⟩ f6 (R_mono (fun r3 G4 h5 H => ?_) H)
  show S l MX3_doMove (d + 1, 0, 0, 0, 0) 22 [some (vR a0), some (vR a1), some (vI a2), some (vI a3), some (vI a4), some (vI ((a2 + 1) % 3)), some (vI ((a2 + 2) % 3)), none, none] [vI r3] G4 h5 Q
  refine s_istore dX3_doMove_22 (by decide) rfl ?_
  show S l MX3_doMove (d + 1, 0, 0, 0, 0) 24 [some (vR a0), some (vR a1), some (vI a2), some (vI a3), some (vI a4), some (vI ((a2 + 1) % 3)), some (vI ((a2 + 2) % 3)), some (vI r3), none] [] G4 h5 Q
  refine s_aload_n dX3_doMove_24 rfl rfl ?_
  have f7 := H.1
  replace H := H.2
  refine s_getf (c := 3) (k := 0) (t := 2) (j := 0) dX3_doMove_25 fl_X3_9 (by decide) (by decide) rfl rfl f7 ?_
  refine s_iconst dX3_doMove_28 ?_
  refine s_iload dX3_doMove_29 rfl ?_
  refine s_aload_n dX3_doMove_31 rfl rfl ?_
  refine s_iload dX3_doMove_32 rfl ?_
  refine s_iload dX3_doMove_34 rfl ?_
  have f11 := H.1
  replace H := H.2
  refine s_callV (M' := MX4_rowOf) (As := [vI ((a2 + 1) % 3), vI a4]) (a := a1) (st := [vI r3, vI 0, vR (h5 a0 0)]) dX3_doMove_36 ml_X3_41 cv_X4_rowOf rfl rfl (Nat.le_of_ble_eq_true rfl) ⟨Nat.le_refl _, Nat.le_refl _⟩ f11 (R_mono (fun r8 G9 h10 H => ?_) H)
  show S l MX3_doMove (d + 1, 0, 0, 0, 0) 39 [some (vR a0), some (vR a1), some (vI a2), some (vI a3), some (vI a4), some (vI ((a2 + 1) % 3)), some (vI ((a2 + 2) % 3)), some (vI r3), none] [vI r8, vI r3, vI 0, vR (h5 a0 0)] G9 h10 Q
  have f15 := H.1
  replace H := H.2
  refine s_callV (M' := MX1_plus) (As := [vI 0, vI r3, vI r8]) (a := h5 a0 0) (st := []) dX3_doMove_39 ml_X3_44 cv_X1_plus rfl rfl (Nat.le_of_ble_eq_true rfl) ⟨Nat.le_refl _, Nat.le_refl _⟩ f15 (R_mono (fun r12 G13 h14 H => ?_) H)
  show S l MX3_doMove (d + 1, 0, 0, 0, 0) 42 [some (vR a0), some (vR a1), some (vI a2), some (vI a3), some (vI a4), some (vI ((a2 + 1) % 3)), some (vI ((a2 + 2) % 3)), some (vI r3), none] [vI r12] G13 h14 Q
  refine s_istore dX3_doMove_42 (by decide) rfl ?_
  show S l MX3_doMove (d + 1, 0, 0, 0, 0) 44 [some (vR a0), some (vR a1), some (vI a2), some (vI a3), some (vI a4), some (vI ((a2 + 1) % 3)), some (vI ((a2 + 2) % 3)), some (vI r3), some (vI r12)] [] G13 h14 Q
  refine s_aload_n dX3_doMove_44 rfl rfl ?_
  refine s_iload_n dX3_doMove_45 rfl rfl ?_
  refine s_iload dX3_doMove_46 rfl ?_
  refine s_aload_n dX3_doMove_48 rfl rfl ?_
  refine s_iload_n dX3_doMove_49 rfl rfl ?_
  refine s_iload_n dX3_doMove_50 rfl rfl ?_
  have f19 := H.1
  replace H := H.2
  refine s_callV (M' := MX4_rowOf) (As := [vI a2, vI a3]) (a := a1) (st := [vI a4, vI a2, vR a1]) dX3_doMove_51 ml_X3_41 cv_X4_rowOf rfl rfl (Nat.le_of_ble_eq_true rfl) ⟨Nat.le_refl _, Nat.le_refl _⟩ f19 (R_mono (fun r16 G17 h18 H => ?_) H)
  show S l MX3_doMove (d + 1, 0, 0, 0, 0) 54 [some (vR a0), some (vR a1), some (vI a2), some (vI a3), some (vI a4), some (vI ((a2 + 1) % 3)), some (vI ((a2 + 2) % 3)), some (vI r3), some (vI r12)] [vI r16, vI a4, vI a2, vR a1] G17 h18 Q
  have f23 := H.1
  replace H := H.2
  refine s_callV (M' := MX4_put) (As := [vI a2, vI a4, vI r16]) (a := a1) (st := []) dX3_doMove_54 ml_X3_49 cv_X4_put rfl rfl (Nat.le_of_ble_eq_true rfl) ⟨Nat.le_refl _, Nat.le_refl _⟩ f23 (R_mono (fun r20 G21 h22 H => ?_) H)
  show S l MX3_doMove (d + 1, 0, 0, 0, 0) 57 [some (vR a0), some (vR a1), some (vI a2), some (vI a3), some (vI a4), some (vI ((a2 + 1) % 3)), some (vI ((a2 + 2) % 3)), some (vI r3), some (vI r12)] [] G21 h22 Q
  refine s_aload_n dX3_doMove_57 rfl rfl ?_
  refine s_iload dX3_doMove_58 rfl ?_
  refine s_iload dX3_doMove_60 rfl ?_
  refine s_iload dX3_doMove_62 rfl ?_
  have f27 := H.1
  replace H := H.2
  refine s_callV (M' := MX4_put) (As := [vI ((a2 + 1) % 3), vI a4, vI r12]) (a := a1) (st := []) dX3_doMove_64 ml_X3_49 cv_X4_put rfl rfl (Nat.le_of_ble_eq_true rfl) ⟨Nat.le_refl _, Nat.le_refl _⟩ f27 (R_mono (fun r24 G25 h26 H => ?_) H)
  show S l MX3_doMove (d + 1, 0, 0, 0, 0) 67 [some (vR a0), some (vR a1), some (vI a2), some (vI a3), some (vI a4), some (vI ((a2 + 1) % 3)), some (vI ((a2 + 2) % 3)), some (vI r3), some (vI r12)] [] G25 h26 Q
  refine s_aload_n dX3_doMove_67 rfl rfl ?_
  refine s_iload dX3_doMove_68 rfl ?_
  refine s_iload_n dX3_doMove_70 rfl rfl ?_
  refine s_aload_n dX3_doMove_71 rfl rfl ?_
  have f28 := H.1
  replace H := H.2
  refine s_getf (c := 3) (k := 0) (t := 2) (j := 0) dX3_doMove_72 fl_X3_9 (by decide) (by decide) rfl rfl f28 ?_
  refine s_aload_n dX3_doMove_75 rfl rfl ?_
  refine s_iload dX3_doMove_76 rfl ?_
  refine s_iload_n dX3_doMove_78 rfl rfl ?_
  have f32 := H.1
  replace H := H.2
  refine s_callV (M' := MX4_rowOf) (As := [vI ((a2 + 1) % 3), vI a3]) (a := a1) (st := [vR (h26 a0 0), vI a3, vI ((a2 + 1) % 3), vR a1]) dX3_doMove_79 ml_X3_41 cv_X4_rowOf rfl rfl (Nat.le_of_ble_eq_true rfl) ⟨Nat.le_refl _, Nat.le_refl _⟩ f32 (R_mono (fun r29 G30 h31 H => ?_) H)
  show S l MX3_doMove (d + 1, 0, 0, 0, 0) 82 [some (vR a0), some (vR a1), some (vI a2), some (vI a3), some (vI a4), some (vI ((a2 + 1) % 3)), some (vI ((a2 + 2) % 3)), some (vI r3), some (vI r12)] [vI r29, vR (h26 a0 0), vI a3, vI ((a2 + 1) % 3), vR a1] G30 h31 Q
  refine s_iconst dX3_doMove_82 ?_
  refine s_iload dX3_doMove_83 rfl ?_
  have f36 := H.1
  replace H := H.2
  refine s_callV (M' := MX1_plus) (As := [vI r29, vI 1, vI r12]) (a := h26 a0 0) (st := [vI a3, vI ((a2 + 1) % 3), vR a1]) dX3_doMove_85 ml_X3_44 cv_X1_plus rfl rfl (Nat.le_of_ble_eq_true rfl) ⟨Nat.le_refl _, Nat.le_refl _⟩ f36 (R_mono (fun r33 G34 h35 H => ?_) H)
  show S l MX3_doMove (d + 1, 0, 0, 0, 0) 88 [some (vR a0), some (vR a1), some (vI a2), some (vI a3), some (vI a4), some (vI ((a2 + 1) % 3)), some (vI ((a2 + 2) % 3)), some (vI r3), some (vI r12)] [vI r33, vI a3, vI ((a2 + 1) % 3), vR a1] G34 h35 Q
  have f40 := H.1
  replace H := H.2
  refine s_callV (M' := MX4_put) (As := [vI ((a2 + 1) % 3), vI a3, vI r33]) (a := a1) (st := []) dX3_doMove_88 ml_X3_49 cv_X4_put rfl rfl (Nat.le_of_ble_eq_true rfl) ⟨Nat.le_refl _, Nat.le_refl _⟩ f40 (R_mono (fun r37 G38 h39 H => ?_) H)
  show S l MX3_doMove (d + 1, 0, 0, 0, 0) 91 [some (vR a0), some (vR a1), some (vI a2), some (vI a3), some (vI a4), some (vI ((a2 + 1) % 3)), some (vI ((a2 + 2) % 3)), some (vI r3), some (vI r12)] [] G38 h39 Q
  refine s_aload_n dX3_doMove_91 rfl rfl ?_
  refine s_iload dX3_doMove_92 rfl ?_
  refine s_iload dX3_doMove_94 rfl ?_
  refine s_aload_n dX3_doMove_96 rfl rfl ?_
  have f41 := H.1
  replace H := H.2
  refine s_getf (c := 3) (k := 0) (t := 2) (j := 0) dX3_doMove_97 fl_X3_9 (by decide) (by decide) rfl rfl f41 ?_
  refine s_aload_n dX3_doMove_100 rfl rfl ?_
  refine s_iload dX3_doMove_101 rfl ?_
  refine s_iload dX3_doMove_103 rfl ?_
  have f45 := H.1
  replace H := H.2
  refine s_callV (M' := MX4_rowOf) (As := [vI ((a2 + 2) % 3), vI a4]) (a := a1) (st := [vR (h39 a0 0), vI a4, vI ((a2 + 2) % 3), vR a1]) dX3_doMove_105 ml_X3_41 cv_X4_rowOf rfl rfl (Nat.le_of_ble_eq_true rfl) ⟨Nat.le_refl _, Nat.le_refl _⟩ f45 (R_mono (fun r42 G43 h44 H => ?_) H)
  show S l MX3_doMove (d + 1, 0, 0, 0, 0) 108 [some (vR a0), some (vR a1), some (vI a2), some (vI a3), some (vI a4), some (vI ((a2 + 1) % 3)), some (vI ((a2 + 2) % 3)), some (vI r3), some (vI r12)] [vI r42, vR (h39 a0 0), vI a4, vI ((a2 + 2) % 3), vR a1] G43 h44 Q
  refine s_iconst dX3_doMove_108 ?_
  refine s_aload_n dX3_doMove_109 rfl rfl ?_
  refine s_iload dX3_doMove_110 rfl ?_
  refine s_iload_n dX3_doMove_112 rfl rfl ?_
  have f49 := H.1
  replace H := H.2
  refine s_callV (M' := MX4_rowOf) (As := [vI ((a2 + 2) % 3), vI a3]) (a := a1) (st := [vI 1, vI r42, vR (h39 a0 0), vI a4, vI ((a2 + 2) % 3), vR a1]) dX3_doMove_113 ml_X3_41 cv_X4_rowOf rfl rfl (Nat.le_of_ble_eq_true rfl) ⟨Nat.le_refl _, Nat.le_refl _⟩ f49 (R_mono (fun r46 G47 h48 H => ?_) H)
  show S l MX3_doMove (d + 1, 0, 0, 0, 0) 116 [some (vR a0), some (vR a1), some (vI a2), some (vI a3), some (vI a4), some (vI ((a2 + 1) % 3)), some (vI ((a2 + 2) % 3)), some (vI r3), some (vI r12)] [vI r46, vI 1, vI r42, vR (h39 a0 0), vI a4, vI ((a2 + 2) % 3), vR a1] G47 h48 Q
  have f53 := H.1
  replace H := H.2
  refine s_callV (M' := MX1_minus) (As := [vI r42, vI 1, vI r46]) (a := h39 a0 0) (st := [vI a4, vI ((a2 + 2) % 3), vR a1]) dX3_doMove_116 ml_X3_53 cv_X1_minus rfl rfl (Nat.le_of_ble_eq_true rfl) ⟨Nat.le_refl _, Nat.le_refl _⟩ f53 (R_mono (fun r50 G51 h52 H => ?_) H)
  show S l MX3_doMove (d + 1, 0, 0, 0, 0) 119 [some (vR a0), some (vR a1), some (vI a2), some (vI a3), some (vI a4), some (vI ((a2 + 1) % 3)), some (vI ((a2 + 2) % 3)), some (vI r3), some (vI r12)] [vI r50, vI a4, vI ((a2 + 2) % 3), vR a1] G51 h52 Q
  have f57 := H.1
  replace H := H.2
  refine s_callV (M' := MX4_put) (As := [vI ((a2 + 2) % 3), vI a4, vI r50]) (a := a1) (st := []) dX3_doMove_119 ml_X3_49 cv_X4_put rfl rfl (Nat.le_of_ble_eq_true rfl) ⟨Nat.le_refl _, Nat.le_refl _⟩ f57 (R_mono (fun r54 G55 h56 H => ?_) H)
  show S l MX3_doMove (d + 1, 0, 0, 0, 0) 122 [some (vR a0), some (vR a1), some (vI a2), some (vI a3), some (vI a4), some (vI ((a2 + 1) % 3)), some (vI ((a2 + 2) % 3)), some (vI r3), some (vI r12)] [] G55 h56 Q
  exact s_vret dX3_doMove_122 rfl ⟨Nat.le_refl _, Nat.le_refl _⟩ H
set_option maxHeartbeats 4000000 in
set_option maxRecDepth 100000 in
theorem vX3_doNumbered_0 {l : Launch} {d : Nat} {G : GS} {h : HP} {Q : Int → GS → HP → Prop} (a0 a1 a2 : Int) (H : S l MX3_doNumbered (d + 1, 0, 0, 0, 0) 5 [some (vR a0), some (vR a1), none, some (vI a2), some (vI 0), none, none] [] G h Q) : S l MX3_doNumbered (d + 1, 0, 0, 0, 0) 0 [some (vR a0), some (vR a1), some (vI a2), none, none, none, none] [] G h Q := by
  refine s_iload_n dX3_doNumbered_0 rfl rfl ?_
  refine s_istore_n dX3_doNumbered_1 rfl (by decide) rfl ?_
  show S l MX3_doNumbered (d + 1, 0, 0, 0, 0) 2 [some (vR a0), some (vR a1), some (vI a2), some (vI a2), none, none, none] [] G h Q
  refine s_iconst dX3_doNumbered_2 ?_
  refine s_istore dX3_doNumbered_3 (by decide) rfl ?_
  show S l MX3_doNumbered (d + 1, 0, 0, 0, 0) 5 [some (vR a0), some (vR a1), some (vI a2), some (vI a2), some (vI 0), none, none] [] G h Q
  exact S_cut (by first | exact ⟨rfl, ⟨rfl, ⟨rfl, ⟨rfl, trivial⟩⟩⟩⟩ | simp [lsub]) H
set_option maxHeartbeats 4000000 in
set_option maxRecDepth 100000 in
theorem vX3_doNumbered_5 {l : Launch} {d : Nat} {G : GS} {h : HP} {Q : Int → GS → HP → Prop} (a0 a1 a3 a4 : Int) (H : (inR a4) ∧ ((3 ≤ a4 → Q 0 G h) ∧ (a4 < 3 → S l MX3_doNumbered (d + 1, 0, 0, 0, 0) 14 [some (vR a0), some (vR a1), none, some (vI a3), some (vI a4), some (vI 0), none] [] G h Q))) : S l MX3_doNumbered (d + 1, 0, 0, 0, 0) 5 [some (vR a0), some (vR a1), none, some (vI a3), some (vI a4), none, none] [] G h Q := by
  refine s_iload dX3_doNumbered_5 rfl ?_
  refine s_iconst dX3_doNumbered_7 ?_
  have f1 := H.1
  replace H := H.2
  refine s_icmp_ge (tgt := 76) dX3_doNumbered_8 (by decide) f1 (by decide) (fun c2 => ?_) (fun c2 => ?_)
  · replace H := H.1 c2
    exact s_vret dX3_doNumbered_76 rfl ⟨Nat.le_refl _, Nat.le_refl _⟩ H
  · replace H := H.2 c2
    refine s_iconst dX3_doNumbered_11 ?_
    refine s_istore dX3_doNumbered_12 (by decide) rfl ?_
    show S l MX3_doNumbered (d + 1, 0, 0, 0, 0) 14 [some (vR a0), some (vR a1), none, some (vI a3), some (vI a4), some (vI 0), none] [] G h Q
    exact S_cut (by first | exact ⟨rfl, ⟨rfl, ⟨rfl, ⟨rfl, ⟨rfl, trivial⟩⟩⟩⟩⟩ | simp [lsub]) H
set_option maxHeartbeats 4000000 in
set_option maxRecDepth 100000 in
theorem vX3_doNumbered_14 {l : Launch} {d : Nat} {G : GS} {h : HP} {Q : Int → GS → HP → Prop} (a0 a1 a3 a4 a5 : Int) (H : (ty G a1 = 4) ∧ (inR a5) ∧ (inR (h a1 6)) ∧ (((h a1 6) ≤ a5 → S l MX3_doNumbered (d + 1, 0, 0, 0, 0) 5 [some (vR a0), some (vR a1), none, some (vI a3), some (vI (a4 + 1)), none, none] [] G h Q) ∧ (a5 < (h a1 6) → R l MX4_matesOf d 0 0 [vR a1, vI a4, vI a5] G h (fun r5 G6 h7 => (inR a3) ∧ (inR r5) ∧ ((r5 ≤ a3 → S l MX3_doNumbered (d + 1, 0, 0, 0, 0) 14 [some (vR a0), some (vR a1), none, some (vI (a3 - r5)), some (vI a4), some (vI (a5 + 1)), none] [] G6 h7 Q) ∧ (a3 < r5 → (ty G6 a0 = 3) ∧ R l MX3_mateOf d 0 0 [vR a0, vR a1, vI a4, vI a5, vI a3] G6 h7 (fun r11 G12 h13 => (ty G12 a0 = 3) ∧ R l MX3_doMove d 0 0 [vR a0, vR a1, vI a4, vI a5, vI r11] G12 h13 (fun r15 G16 h17 => Q 0 G16 h17)))))))) : S l MX3_doNumbered (d + 1, 0, 0, 0, 0) 14 [some (vR a0), some (vR a1), none, some (vI a3), some (vI a4), some (vI a5), none] [] G h Q := by
  refine s_iload dX3_doNumbered_14 rfl ?_
  refine s_aload_n dX3_doNumbered_16 rfl rfl ?_
  have f1 := H.1
  replace H := H.2
  refine s_getf (c := 4) (k := 6) (t := 0) (j := 6) dX3_doNumbered_17 fl_X3_15 (by decide) (by decide) rfl rfl f1 ?_
  have f2 := H.1
  replace H := H.2
  have f3 := H.1
  replace H := H.2
  refine s_icmp_ge (tgt := 70) dX3_doNumbered_20 (by decide) f2 f3 (fun c4 => ?_) (fun c4 => ?_)
  · replace H := H.1 c4
    refine s_iinc dX3_doNumbered_70 rfl (by decide) rfl ?_
    show S l MX3_doNumbered (d + 1, 0, 0, 0, 0) 73 [some (vR a0), some (vR a1), none, some (vI a3), some (vI (a4 + 1)), some (vI a5), none] [] G h Q
    refine s_goto (tgt := 5) dX3_doNumbered_73 (by decide) ?_
    exact S_cut (by first | exact ⟨rfl, ⟨rfl, ⟨rfl, ⟨rfl, trivial⟩⟩⟩⟩ | simp [lsub]) H
  · replace H := H.2 c4
    refine s_aload_n dX3_doNumbered_23 rfl rfl ?_
    refine s_iload dX3_doNumbered_24 rfl ?_
    refine s_iload dX3_doNumbered_26 rfl ?_
    refine s_callV (M' := MX4_matesOf) (As := [vI a4, vI a5]) (a := a1) (st := []) dX3_doNumbered_28 ml_X3_21 cv_X4_matesOf rfl rfl (Nat.le_of_ble_eq_true rfl) ⟨Nat.le_refl _, Nat.le_refl _⟩ f1 (R_mono (fun r5 G6 h7 H => ?_) H)
    show S l MX3_doNumbered (d + 1, 0, 0, 0, 0) 31 [some (vR a0), some (vR a1), none, some (vI a3), some (vI a4), some (vI a5), none] [vI r5] G6 h7 Q
    refine s_istore dX3_doNumbered_31 (by decide) rfl ?_
    show S l MX3_doNumbered (d + 1, 0, 0, 0, 0) 33 [some (vR a0), some (vR a1), none, some (vI a3), some (vI a4), some (vI a5), some (vI r5)] [] G6 h7 Q
    refine s_iload_n dX3_doNumbered_33 rfl rfl ?_
    refine s_iload dX3_doNumbered_34 rfl ?_
    have f8 := H.1
    replace H := H.2
    have f9 := H.1
    replace H := H.2
    refine s_icmp_ge (tgt := 59) dX3_doNumbered_36 (by decide) f8 f9 (fun c10 => ?_) (fun c10 => ?_)
    · replace H := H.1 c10
      refine s_iload_n dX3_doNumbered_59 rfl rfl ?_
      refine s_iload dX3_doNumbered_60 rfl ?_
      refine s_isub dX3_doNumbered_62 ?_
      refine s_istore_n dX3_doNumbered_63 rfl (by decide) rfl ?_
      show S l MX3_doNumbered (d + 1, 0, 0, 0, 0) 64 [some (vR a0), some (vR a1), none, some (vI (a3 - r5)), some (vI a4), some (vI a5), some (vI r5)] [] G6 h7 Q
      refine s_iinc dX3_doNumbered_64 rfl (by decide) rfl ?_
      show S l MX3_doNumbered (d + 1, 0, 0, 0, 0) 67 [some (vR a0), some (vR a1), none, some (vI (a3 - r5)), some (vI a4), some (vI (a5 + 1)), some (vI r5)] [] G6 h7 Q
      refine s_goto (tgt := 14) dX3_doNumbered_67 (by decide) ?_
      exact S_cut (by first | exact ⟨rfl, ⟨rfl, ⟨rfl, ⟨rfl, ⟨rfl, trivial⟩⟩⟩⟩⟩ | simp [lsub]) H
    · replace H := H.2 c10
      refine s_aload_n dX3_doNumbered_39 rfl rfl ?_
      refine s_aload_n dX3_doNumbered_40 rfl rfl ?_
      refine s_iload dX3_doNumbered_41 rfl ?_
      refine s_iload dX3_doNumbered_43 rfl ?_
      refine s_aload_n dX3_doNumbered_45 rfl rfl ?_
      refine s_aload_n dX3_doNumbered_46 rfl rfl ?_
      refine s_iload dX3_doNumbered_47 rfl ?_
      refine s_iload dX3_doNumbered_49 rfl ?_
      refine s_iload_n dX3_doNumbered_51 rfl rfl ?_
      have f14 := H.1
      replace H := H.2
      refine s_callV (M' := MX3_mateOf) (As := [vR a1, vI a4, vI a5, vI a3]) (a := a0) (st := [vI a5, vI a4, vR a1, vR a0]) dX3_doNumbered_52 ml_X3_25 cv_X3_mateOf rfl rfl (Nat.le_of_ble_eq_true rfl) ⟨Nat.le_refl _, Nat.le_refl _⟩ f14 (R_mono (fun r11 G12 h13 H => ?_) H)
      show S l MX3_doNumbered (d + 1, 0, 0, 0, 0) 55 [some (vR a0), some (vR a1), none, some (vI a3), some (vI a4), some (vI a5), some (vI r5)] [vI r11, vI a5, vI a4, vR a1, vR a0] G12 h13 Q
      have f18 := H.1
      replace H := H.2
      refine s_callV (M' := MX3_doMove) (As := [vR a1, vI a4, vI a5, vI r11]) (a := a0) (st := []) dX3_doNumbered_55 ml_X3_29 cv_X3_doMove rfl rfl (Nat.le_of_ble_eq_true rfl) ⟨Nat.le_refl _, Nat.le_refl _⟩ f18 (R_mono (fun r15 G16 h17 H => ?_) H)
      show S l MX3_doNumbered (d + 1, 0, 0, 0, 0) 58 [some (vR a0), some (vR a1), none, some (vI a3), some (vI a4), some (vI a5), some (vI r5)] [] G16 h17 Q
      exact s_vret dX3_doNumbered_58 rfl ⟨Nat.le_refl _, Nat.le_refl _⟩ H
set_option maxHeartbeats 4000000 in
set_option maxRecDepth 100000 in
theorem vX3_mateOf_0 {l : Launch} {d : Nat} {G : GS} {h : HP} {Q : Int → GS → HP → Prop} (a0 a1 a2 a3 a4 : Int) (H : S l MX3_mateOf (d + 1, 0, 0, 0, 0) 7 [none, some (vR a1), some (vI a2), some (vI a3), none, some (vI a4), some (vI 0)] [] G h Q) : S l MX3_mateOf (d + 1, 0, 0, 0, 0) 0 [some (vR a0), some (vR a1), some (vI a2), some (vI a3), some (vI a4), none, none] [] G h Q := by
  refine s_iload dX3_mateOf_0 rfl ?_
  refine s_istore dX3_mateOf_2 (by decide) rfl ?_
  show S l MX3_mateOf (d + 1, 0, 0, 0, 0) 4 [some (vR a0), some (vR a1), some (vI a2), some (vI a3), some (vI a4), some (vI a4), none] [] G h Q
  refine s_iconst dX3_mateOf_4 ?_
  refine s_istore dX3_mateOf_5 (by decide) rfl ?_
  show S l MX3_mateOf (d + 1, 0, 0, 0, 0) 7 [some (vR a0), some (vR a1), some (vI a2), some (vI a3), some (vI a4), some (vI a4), some (vI 0)] [] G h Q
  exact S_cut (by first | exact ⟨rfl, ⟨rfl, ⟨rfl, ⟨rfl, ⟨rfl, trivial⟩⟩⟩⟩⟩ | simp [lsub]) H
set_option maxHeartbeats 4000000 in
set_option maxRecDepth 100000 in
theorem vX3_mateOf_7 {l : Launch} {d : Nat} {G : GS} {h : HP} {Q : Int → GS → HP → Prop} (a1 a2 a3 a5 a6 : Int) (H : (ty G a1 = 4) ∧ (inR a6) ∧ (inR (h a1 6)) ∧ (((h a1 6) ≤ a6 → Q a3 G h) ∧ (a6 < (h a1 6) → (inR a3) ∧ ((a6 = a3 → S l MX3_mateOf (d + 1, 0, 0, 0, 0) 7 [none, some (vR a1), some (vI a2), some (vI a3), none, some (vI a5), some (vI (a6 + 1))] [] G h Q) ∧ (a6 ≠ a3 → R l MX4_alike d 0 0 [vR a1, vI a2, vI a3, vI a6] G h (fun r7 G8 h9 => (inR r7) ∧ ((r7 = 0 → S l MX3_mateOf (d + 1, 0, 0, 0, 0) 7 [none, some (vR a1), some (vI a2), some (vI a3), none, some (vI a5), some (vI (a6 + 1))] [] G8 h9 Q) ∧ (r7 ≠ 0 → (inR a5) ∧ ((a5 ≠ 0 → S l MX3_mateOf (d + 1, 0, 0, 0, 0) 7 [none, some (vR a1), some (vI a2), some (vI a3), none, some (vI (a5 + (-1))), some (vI (a6 + 1))] [] G8 h9 Q) ∧ (a5 = 0 → Q a6 G8 h9)))))))))) : S l MX3_mateOf (d + 1, 0, 0, 0, 0) 7 [none, some (vR a1), some (vI a2), some (vI a3), none, some (vI a5), some (vI a6)] [] G h Q := by
  refine s_iload dX3_mateOf_7 rfl ?_
  refine s_aload_n dX3_mateOf_9 rfl rfl ?_
  have f1 := H.1
  replace H := H.2
  refine s_getf (c := 4) (k := 6) (t := 0) (j := 6) dX3_mateOf_10 fl_X3_15 (by decide) (by decide) rfl rfl f1 ?_
  have f2 := H.1
  replace H := H.2
  have f3 := H.1
  replace H := H.2
  refine s_icmp_ge (tgt := 50) dX3_mateOf_13 (by decide) f2 f3 (fun c4 => ?_) (fun c4 => ?_)
  · replace H := H.1 c4
    refine s_iload_n dX3_mateOf_50 rfl rfl ?_
    exact s_iret dX3_mateOf_51 rfl ⟨Nat.le_refl _, Nat.le_refl _⟩ H
  · replace H := H.2 c4
    refine s_iload dX3_mateOf_16 rfl ?_
    refine s_iload_n dX3_mateOf_18 rfl rfl ?_
    have f5 := H.1
    replace H := H.2
    refine s_icmp_eq (tgt := 44) dX3_mateOf_19 (by decide) f2 f5 (fun c6 => ?_) (fun c6 => ?_)
    · replace H := H.1 c6
      refine s_iinc dX3_mateOf_44 rfl (by decide) rfl ?_
      show S l MX3_mateOf (d + 1, 0, 0, 0, 0) 47 [none, some (vR a1), some (vI a2), some (vI a3), none, some (vI a5), some (vI (a6 + 1))] [] G h Q
      refine s_goto (tgt := 7) dX3_mateOf_47 (by decide) ?_
      exact S_cut (by first | exact ⟨rfl, ⟨rfl, ⟨rfl, ⟨rfl, ⟨rfl, trivial⟩⟩⟩⟩⟩ | simp [lsub]) H
    · replace H := H.2 c6
      refine s_aload_n dX3_mateOf_22 rfl rfl ?_
      refine s_iload_n dX3_mateOf_23 rfl rfl ?_
      refine s_iload_n dX3_mateOf_24 rfl rfl ?_
      refine s_iload dX3_mateOf_25 rfl ?_
      refine s_callV (M' := MX4_alike) (As := [vI a2, vI a3, vI a6]) (a := a1) (st := []) dX3_mateOf_27 ml_X3_33 cv_X4_alike rfl rfl (Nat.le_of_ble_eq_true rfl) ⟨Nat.le_refl _, Nat.le_refl _⟩ f1 (R_mono (fun r7 G8 h9 H => ?_) H)
      show S l MX3_mateOf (d + 1, 0, 0, 0, 0) 30 [none, some (vR a1), some (vI a2), some (vI a3), none, some (vI a5), some (vI a6)] [vI r7] G8 h9 Q
      have f10 := H.1
      replace H := H.2
      refine s_if_eq (tgt := 44) dX3_mateOf_30 (by decide) f10 (fun c11 => ?_) (fun c11 => ?_)
      · replace H := H.1 c11
        refine s_iinc dX3_mateOf_44 rfl (by decide) rfl ?_
        show S l MX3_mateOf (d + 1, 0, 0, 0, 0) 47 [none, some (vR a1), some (vI a2), some (vI a3), none, some (vI a5), some (vI (a6 + 1))] [] G8 h9 Q
        refine s_goto (tgt := 7) dX3_mateOf_47 (by decide) ?_
        exact S_cut (by first | exact ⟨rfl, ⟨rfl, ⟨rfl, ⟨rfl, ⟨rfl, trivial⟩⟩⟩⟩⟩ | simp [lsub]) H
      · replace H := H.2 c11
        refine s_iload dX3_mateOf_33 rfl ?_
        have f12 := H.1
        replace H := H.2
        refine s_if_ne (tgt := 41) dX3_mateOf_35 (by decide) f12 (fun c13 => ?_) (fun c13 => ?_)
        · replace H := H.1 c13
          refine s_iinc dX3_mateOf_41 rfl (by decide) rfl ?_
          show S l MX3_mateOf (d + 1, 0, 0, 0, 0) 44 [none, some (vR a1), some (vI a2), some (vI a3), none, some (vI (a5 + (-1))), some (vI a6)] [] G8 h9 Q
          refine s_iinc dX3_mateOf_44 rfl (by decide) rfl ?_
          show S l MX3_mateOf (d + 1, 0, 0, 0, 0) 47 [none, some (vR a1), some (vI a2), some (vI a3), none, some (vI (a5 + (-1))), some (vI (a6 + 1))] [] G8 h9 Q
          refine s_goto (tgt := 7) dX3_mateOf_47 (by decide) ?_
          exact S_cut (by first | exact ⟨rfl, ⟨rfl, ⟨rfl, ⟨rfl, ⟨rfl, trivial⟩⟩⟩⟩⟩ | simp [lsub]) H
        · replace H := H.2 c13
          refine s_iload dX3_mateOf_38 rfl ?_
          exact s_iret dX3_mateOf_40 rfl ⟨Nat.le_refl _, Nat.le_refl _⟩ H
