set_option maxHeartbeats 4000000 in
set_option maxRecDepth 100000 in
theorem vX2_turnRound_0 {l : Launch} {d : Nat} {G : GS} {h : HP} {Q : Int → GS → HP → Prop} (a0 a1 a2 : Int) (H : (ty G a1 = 4) ∧ (inA G 10 (h a1 1) 1) ∧ (inA G 10 (h a1 1) 2) ∧ (inA G 10 (h a1 1) 0) ∧ (ty G a2 = 4) ∧ R l MX4_start d 0 0 [vR a2, vI (h (h a1 1) 1), vI (h (h a1 1) 2), vI (h (h a1 1) 0)] G h (fun r5 G6 h7 => S l MX2_turnRound (d + 1, 0, 0, 0, 0) 24 [none, some (vR a1), some (vR a2), some (vI 0), none] [] G6 h7 Q)) : S l MX2_turnRound (d + 1, 0, 0, 0, 0) 0 [some (vR a0), some (vR a1), some (vR a2), none, none] [] G h Q := by
  refine s_aload_n dX2_turnRound_0 rfl rfl ?_
  refine s_aload_n dX2_turnRound_1 rfl rfl ?_
  have f1 := H.1
  replace H := H.2
  refine s_getf (c := 4) (k := 1) (t := 2) (j := 1) dX2_turnRound_2 fl_X2_15 (by decide) (by decide) rfl rfl f1 ?_
  refine s_iconst dX2_turnRound_5 ?_
  have f2 := H.1
  replace H := H.2
  refine s_iald dX2_turnRound_6 f2 ?_
  refine s_aload_n dX2_turnRound_7 rfl rfl ?_
  refine s_getf (c := 4) (k := 1) (t := 2) (j := 1) dX2_turnRound_8 fl_X2_15 (by decide) (by decide) rfl rfl f1 ?_
  refine s_iconst dX2_turnRound_11 ?_
  have f3 := H.1
  replace H := H.2
  refine s_iald dX2_turnRound_12 f3 ?_
  refine s_aload_n dX2_turnRound_13 rfl rfl ?_
  refine s_getf (c := 4) (k := 1) (t := 2) (j := 1) dX2_turnRound_14 fl_X2_15 (by decide) (by decide) rfl rfl f1 ?_
  refine s_iconst dX2_turnRound_17 ?_
  have f4 := H.1
  replace H := H.2
  refine s_iald dX2_turnRound_18 f4 ?_
  have f8 := H.1
  replace H := H.2
  refine s_callV (M' := MX4_start) (As := [vI (h (h a1 1) 1), vI (h (h a1 1) 2), vI (h (h a1 1) 0)]) (a := a2) (st := []) dX2_turnRound_19 ml_X2_21 cv_X4_start rfl rfl (Nat.le_of_ble_eq_true rfl) ⟨Nat.le_refl _, Nat.le_refl _⟩ f8 (R_mono (fun r5 G6 h7 H => ?_) H)
  show S l MX2_turnRound (d + 1, 0, 0, 0, 0) 22 [some (vR a0), some (vR a1), some (vR a2), none, none] [] G6 h7 Q
  refine s_iconst dX2_turnRound_22 ?_
  refine s_istore_n dX2_turnRound_23 rfl (by decide) rfl ?_
  show S l MX2_turnRound (d + 1, 0, 0, 0, 0) 24 [some (vR a0), some (vR a1), some (vR a2), some (vI 0), none] [] G6 h7 Q
  exact S_cut (by first | exact ⟨rfl, ⟨rfl, ⟨rfl, trivial⟩⟩⟩ | simp [lsub]) H
set_option maxHeartbeats 4000000 in
set_option maxRecDepth 100000 in
theorem vX2_turnRound_24 {l : Launch} {d : Nat} {G : GS} {h : HP} {Q : Int → GS → HP → Prop} (a1 a2 a3 : Int) (H : (ty G a1 = 4) ∧ (inA G 10 (h a1 1) 1) ∧ (inR a3) ∧ (inR (h (h a1 1) 1)) ∧ (((h (h a1 1) 1) ≤ a3 → S l MX2_turnRound (d + 1, 0, 0, 0, 0) 77 [none, some (vR a1), some (vR a2), some (vI 0), none] [] G h Q) ∧ (a3 < (h (h a1 1) 1) → S l MX2_turnRound (d + 1, 0, 0, 0, 0) 37 [none, some (vR a1), some (vR a2), some (vI a3), some (vI 0)] [] G h Q))) : S l MX2_turnRound (d + 1, 0, 0, 0, 0) 24 [none, some (vR a1), some (vR a2), some (vI a3), none] [] G h Q := by
  refine s_iload_n dX2_turnRound_24 rfl rfl ?_
  refine s_aload_n dX2_turnRound_25 rfl rfl ?_
  have f1 := H.1
  replace H := H.2
  refine s_getf (c := 4) (k := 1) (t := 2) (j := 1) dX2_turnRound_26 fl_X2_15 (by decide) (by decide) rfl rfl f1 ?_
  refine s_iconst dX2_turnRound_29 ?_
  have f2 := H.1
  replace H := H.2
  refine s_iald dX2_turnRound_30 f2 ?_
  have f3 := H.1
  replace H := H.2
  have f4 := H.1
  replace H := H.2
  refine s_icmp_ge (tgt := 75) dX2_turnRound_31 (by decide) f3 f4 (fun c5 => ?_) (fun c5 => ?_)
  · replace H := H.1 c5
    refine s_iconst dX2_turnRound_75 ?_
    refine s_istore_n dX2_turnRound_76 rfl (by decide) rfl ?_
    show S l MX2_turnRound (d + 1, 0, 0, 0, 0) 77 [none, some (vR a1), some (vR a2), some (vI 0), none] [] G h Q
    exact S_cut (by first | exact ⟨rfl, ⟨rfl, ⟨rfl, trivial⟩⟩⟩ | simp [lsub]) H
  · replace H := H.2 c5
    refine s_iconst dX2_turnRound_34 ?_
    refine s_istore dX2_turnRound_35 (by decide) rfl ?_
    show S l MX2_turnRound (d + 1, 0, 0, 0, 0) 37 [none, some (vR a1), some (vR a2), some (vI a3), some (vI 0)] [] G h Q
    exact S_cut (by first | exact ⟨rfl, ⟨rfl, ⟨rfl, ⟨rfl, trivial⟩⟩⟩⟩ | simp [lsub]) H
set_option maxHeartbeats 4000000 in
set_option maxRecDepth 100000 in
theorem vX2_turnRound_77 {l : Launch} {d : Nat} {G : GS} {h : HP} {Q : Int → GS → HP → Prop} (a1 a2 a3 : Int) (H : (ty G a1 = 4) ∧ (inR a3) ∧ (inR (h a1 6)) ∧ (((h a1 6) ≤ a3 → Q 0 G h) ∧ (a3 < (h a1 6) → R l MX4_rowOf d 0 0 [vR a1, vI 1, vI a3] G h (fun r5 G6 h7 => (ty G6 a1 = 4) ∧ R l MX4_rowOf d 0 0 [vR a1, vI 2, vI a3] G6 h7 (fun r8 G9 h10 => (ty G9 a1 = 4) ∧ R l MX4_rowOf d 0 0 [vR a1, vI 0, vI a3] G9 h10 (fun r12 G13 h14 => (ty G13 a2 = 4) ∧ R l MX4_append d 0 0 [vR a2, vI r5, vI r8, vI r12] G13 h14 (fun r16 G17 h18 => S l MX2_turnRound (d + 1, 0, 0, 0, 0) 77 [none, some (vR a1), some (vR a2), some (vI (a3 + 1)), none] [] G17 h18 Q))))))) : S l MX2_turnRound (d + 1, 0, 0, 0, 0) 77 [none, some (vR a1), some (vR a2), some (vI a3), none] [] G h Q := by
  refine s_iload_n dX2_turnRound_77 rfl rfl ?_
  refine s_aload_n dX2_turnRound_78 rfl rfl ?_
  have f1 := H.1
  replace H := H.2
  refine s_getf (c := 4) (k := 6) (t := 0) (j := 6) dX2_turnRound_79 fl_X2_32 (by decide) (by decide) rfl rfl f1 ?_
  have f2 := H.1
  replace H := H.2
  have f3 := H.1
  replace H := H.2
  refine s_icmp_ge (tgt := 113) dX2_turnRound_82 (by decide) f2 f3 (fun c4 => ?_) (fun c4 => ?_)
  · replace H := H.1 c4
    exact s_vret dX2_turnRound_113 rfl ⟨Nat.le_refl _, Nat.le_refl _⟩ H
  · replace H := H.2 c4
    refine s_aload_n dX2_turnRound_85 rfl rfl ?_
    refine s_aload_n dX2_turnRound_86 rfl rfl ?_
    refine s_iconst dX2_turnRound_87 ?_
    refine s_iload_n dX2_turnRound_88 rfl rfl ?_
    refine s_callV (M' := MX4_rowOf) (As := [vI 1, vI a3]) (a := a1) (st := [vR a2]) dX2_turnRound_89 ml_X2_36 cv_X4_rowOf rfl rfl (Nat.le_of_ble_eq_true rfl) ⟨Nat.le_refl _, Nat.le_refl _⟩ f1 (R_mono (fun r5 G6 h7 H => ?_) H)
    show S l MX2_turnRound (d + 1, 0, 0, 0, 0) 92 [none, some (vR a1), some (vR a2), some (vI a3), none] [vI r5, vR a2] G6 h7 Q
    refine s_aload_n dX2_turnRound_92 rfl rfl ?_
    refine s_iconst dX2_turnRound_93 ?_
    refine s_iload_n dX2_turnRound_94 rfl rfl ?_
    have f11 := H.1
    replace H := H.2
    refine s_callV (M' := MX4_rowOf) (As := [vI 2, vI a3]) (a := a1) (st := [vI r5, vR a2]) dX2_turnRound_95 ml_X2_36 cv_X4_rowOf rfl rfl (Nat.le_of_ble_eq_true rfl) ⟨Nat.le_refl _, Nat.le_refl _⟩ f11 (R_mono (fun r8 G9 h10 H => ?_) H)
    show S l MX2_turnRound (d + 1, 0, 0, 0, 0) 98 [none, some (vR a1), some (vR a2), some (vI a3), none] [vI r8, vI r5, vR a2] G9 h10 Q
    refine s_aload_n dX2_turnRound_98 rfl rfl ?_
    refine s_iconst dX2_turnRound_99 ?_
    refine s_iload_n dX2_turnRound_100 rfl rfl ?_
    have f15 := H.1
    replace H := H.2
    refine s_callV (M' := MX4_rowOf) (As := [vI 0, vI a3]) (a := a1) (st := [vI r8, vI r5, vR a2]) dX2_turnRound_101 ml_X2_36 cv_X4_rowOf rfl rfl (Nat.le_of_ble_eq_true rfl) ⟨Nat.le_refl _, Nat.le_refl _⟩ f15 (R_mono (fun r12 G13 h14 H => ?_) H)
    show S l MX2_turnRound (d + 1, 0, 0, 0, 0) 104 [none, some (vR a1), some (vR a2), some (vI a3), none] [vI r12, vI r8, vI r5, vR a2] G13 h14 Q
    have f19 := H.1
    replace H := H.2
    refine s_callV (M' := MX4_append) (As := [vI r5, vI r8, vI r12]) (a := a2) (st := []) dX2_turnRound_104 ml_X2_40 cv_X4_append rfl rfl (Nat.le_of_ble_eq_true rfl) ⟨Nat.le_refl _, Nat.le_refl _⟩ f19 (R_mono (fun r16 G17 h18 H => ?_) H)
    show S l MX2_turnRound (d + 1, 0, 0, 0, 0) 107 [none, some (vR a1), some (vR a2), some (vI a3), none] [] G17 h18 Q
    refine s_iinc dX2_turnRound_107 rfl (by decide) rfl ?_
    show S l MX2_turnRound (d + 1, 0, 0, 0, 0) 110 [none, some (vR a1), some (vR a2), some (vI (a3 + 1)), none] [] G17 h18 Q
    refine s_goto (tgt := 77) dX2_turnRound_110 (by decide) ?_
    exact S_cut (by first | exact ⟨rfl, ⟨rfl, ⟨rfl, trivial⟩⟩⟩ | simp [lsub]) H
set_option maxHeartbeats 4000000 in
set_option maxRecDepth 100000 in
theorem vX2_turnRound_37 {l : Launch} {d : Nat} {G : GS} {h : HP} {Q : Int → GS → HP → Prop} (a1 a2 a3 a4 : Int) (H : (ty G a1 = 4) ∧ (inA G 10 (h a1 1) 2) ∧ (inR a4) ∧ (inR (h (h a1 1) 2)) ∧ (((h (h a1 1) 2) ≤ a4 → S l MX2_turnRound (d + 1, 0, 0, 0, 0) 24 [none, some (vR a1), some (vR a2), some (vI (a3 + 1)), none] [] G h Q) ∧ (a4 < (h (h a1 1) 2) → R l MX4_line d 0 0 [vR a1, vI 0, vI a3, vI a4] G h (fun r6 G7 h8 => (ty G7 a2 = 4) ∧ R l MX4_setFiber d 0 0 [vR a2, vI a3, vI a4, vI r6] G7 h8 (fun r9 G10 h11 => S l MX2_turnRound (d + 1, 0, 0, 0, 0) 37 [none, some (vR a1), some (vR a2), some (vI a3), some (vI (a4 + 1))] [] G10 h11 Q))))) : S l MX2_turnRound (d + 1, 0, 0, 0, 0) 37 [none, some (vR a1), some (vR a2), some (vI a3), some (vI a4)] [] G h Q := by
  refine s_iload dX2_turnRound_37 rfl ?_
  refine s_aload_n dX2_turnRound_39 rfl rfl ?_
  have f1 := H.1
  replace H := H.2
  refine s_getf (c := 4) (k := 1) (t := 2) (j := 1) dX2_turnRound_40 fl_X2_15 (by decide) (by decide) rfl rfl f1 ?_
  refine s_iconst dX2_turnRound_43 ?_
  have f2 := H.1
  replace H := H.2
  refine s_iald dX2_turnRound_44 f2 ?_
  have f3 := H.1
  replace H := H.2
  have f4 := H.1
  replace H := H.2
  refine s_icmp_ge (tgt := 69) dX2_turnRound_45 (by decide) f3 f4 (fun c5 => ?_) (fun c5 => ?_)
  · replace H := H.1 c5
    refine s_iinc dX2_turnRound_69 rfl (by decide) rfl ?_
    show S l MX2_turnRound (d + 1, 0, 0, 0, 0) 72 [none, some (vR a1), some (vR a2), some (vI (a3 + 1)), some (vI a4)] [] G h Q
    refine s_goto (tgt := 24) dX2_turnRound_72 (by decide) ?_
    exact S_cut (by first | exact ⟨rfl, ⟨rfl, ⟨rfl, trivial⟩⟩⟩ | simp [lsub]) H
  · replace H := H.2 c5
    refine s_aload_n dX2_turnRound_48 rfl rfl ?_
    refine s_iload_n dX2_turnRound_49 rfl rfl ?_
    refine s_iload dX2_turnRound_50 rfl ?_
    refine s_aload_n dX2_turnRound_52 rfl rfl ?_
    refine s_iconst dX2_turnRound_53 ?_
    refine s_iload_n dX2_turnRound_54 rfl rfl ?_
    refine s_iload dX2_turnRound_55 rfl ?_
    refine s_callV (M' := MX4_line) (As := [vI 0, vI a3, vI a4]) (a := a1) (st := [vI a4, vI a3, vR a2]) dX2_turnRound_57 ml_X2_25 cv_X4_line rfl rfl (Nat.le_of_ble_eq_true rfl) ⟨Nat.le_refl _, Nat.le_refl _⟩ f1 (R_mono (fun r6 G7 h8 H => ?_) H)
    show S l MX2_turnRound (d + 1, 0, 0, 0, 0) 60 [none, some (vR a1), some (vR a2), some (vI a3), some (vI a4)] [vI r6, vI a4, vI a3, vR a2] G7 h8 Q
    have f12 := H.1
    replace H := H.2
    refine s_callV (M' := MX4_setFiber) (As := [vI a3, vI a4, vI r6]) (a := a2) (st := []) dX2_turnRound_60 ml_X2_29 cv_X4_setFiber rfl rfl (Nat.le_of_ble_eq_true rfl) ⟨Nat.le_refl _, Nat.le_refl _⟩ f12 (R_mono (fun r9 G10 h11 H => ?_) H)
    show S l MX2_turnRound (d + 1, 0, 0, 0, 0) 63 [none, some (vR a1), some (vR a2), some (vI a3), some (vI a4)] [] G10 h11 Q
    refine s_iinc dX2_turnRound_63 rfl (by decide) rfl ?_
    show S l MX2_turnRound (d + 1, 0, 0, 0, 0) 66 [none, some (vR a1), some (vR a2), some (vI a3), some (vI (a4 + 1))] [] G10 h11 Q
    refine s_goto (tgt := 37) dX2_turnRound_66 (by decide) ?_
    exact S_cut (by first | exact ⟨rfl, ⟨rfl, ⟨rfl, ⟨rfl, trivial⟩⟩⟩⟩ | simp [lsub]) H
set_option maxHeartbeats 4000000 in
set_option maxRecDepth 100000 in
theorem vX2_putBeside_0 {l : Launch} {d : Nat} {G : GS} {h : HP} {Q : Int → GS → HP → Prop} (a0 a1 a2 a3 : Int) (H : (ty G a1 = 4) ∧ (inA G 10 (h a1 1) 0) ∧ (inA G 10 (h a1 1) 1) ∧ (inA G 10 (h a1 1) 2) ∧ (ty G a2 = 4) ∧ (inA G 10 (h a2 1) 0) ∧ (inA G 10 (h a2 1) 1) ∧ (inA G 10 (h a2 1) 2) ∧ (ty G a3 = 4) ∧ R l MX4_start d 0 0 [vR a3, vI ((h (h a1 1) 0) + (h (h a2 1) 0)), vI ((h (h a1 1) 1) + (h (h a2 1) 1)), vI ((h (h a1 1) 2) + (h (h a2 1) 2))] G h (fun r9 G10 h11 => S l MX2_putBeside (d + 1, 0, 0, 0, 0) 58 [some (vR a0), some (vR a1), some (vR a2), some (vR a3), some (vI (h (h a1 1) 0)), some (vI (h (h a1 1) 1)), some (vI (h (h a1 1) 2)), some (vI 0), none] [] G10 h11 Q)) : S l MX2_putBeside (d + 1, 0, 0, 0, 0) 0 [some (vR a0), some (vR a1), some (vR a2), some (vR a3), none, none, none, none, none] [] G h Q := by
  refine s_aload_n dX2_putBeside_0 rfl rfl ?_
  have f1 := H.1
  replace H := H.2
  refine s_getf (c := 4) (k := 1) (t := 2) (j := 1) dX2_putBeside_1 fl_X2_15 (by decide) (by decide) rfl rfl f1 ?_
  refine s_iconst dX2_putBeside_4 ?_
  have f2 := H.1
  replace H := H.2
  refine s_iald dX2_putBeside_5 f2 ?_
  refine s_istore dX2_putBeside_6 (by decide) rfl ?_
  show S l MX2_putBeside (d + 1, 0, 0, 0, 0) 8 [some (vR a0), some (vR a1), some (vR a2), some (vR a3), some (vI (h (h a1 1) 0)), none, none, none, none] [] G h Q
  refine s_aload_n dX2_putBeside_8 rfl rfl ?_
  refine s_getf (c := 4) (k := 1) (t := 2) (j := 1) dX2_putBeside_9 fl_X2_15 (by decide) (by decide) rfl rfl f1 ?_
  refine s_iconst dX2_putBeside_12 ?_
  have f3 := H.1
  replace H := H.2
  refine s_iald dX2_putBeside_13 f3 ?_
  refine s_istore dX2_putBeside_14 (by decide) rfl ?_
  show S l MX2_putBeside (d + 1, 0, 0, 0, 0) 16 [some (vR a0), some (vR a1), some (vR a2), some (vR a3), some (vI (h (h a1 1) 0)), some (vI (h (h a1 1) 1)), none, none, none] [] G h Q
  refine s_aload_n dX2_putBeside_16 rfl rfl ?_
  refine s_getf (c := 4) (k := 1) (t := 2) (j := 1) dX2_putBeside_17 fl_X2_15 (by decide) (by decide) rfl rfl f1 ?_
  refine s_iconst dX2_putBeside_20 ?_
  have f4 := H.1
  replace H := H.2
  refine s_iald dX2_putBeside_21 f4 ?_
  refine s_istore dX2_putBeside_22 (by decide) rfl ?_
  show S l MX2_putBeside (d + 1, 0, 0, 0, 0) 24 [some (vR a0), some (vR a1), some (vR a2), some (vR a3), some (vI (h (h a1 1) 0)), some (vI (h (h a1 1) 1)), some (vI (h (h a1 1) 2)), none, none] [] G h Q
  refine s_aload_n dX2_putBeside_24 rfl rfl ?_
  refine s_iload dX2_putBeside_25 rfl ?_
  refine s_aload_n dX2_putBeside_27 rfl rfl ?_
  have f5 := H.1
  replace H := H.2
  refine s_getf (c := 4) (k := 1) (t := 2) (j := 1) dX2_putBeside_28 fl_X2_15 (by decide) (by decide) rfl rfl f5 ?_
  refine s_iconst dX2_putBeside_31 ?_
  have f6 := H.1
  replace H := H.2
  refine s_iald dX2_putBeside_32 f6 ?_
  refine s_iadd dX2_putBeside_33 ?_
  refine s_iload dX2_putBeside_34 rfl ?_
  refine s_aload_n dX2_putBeside_36 rfl rfl ?_
  refine s_getf (c := 4) (k := 1) (t := 2) (j := 1) dX2_putBeside_37 fl_X2_15 (by decide) (by decide) rfl rfl f5 ?_
  refine s_iconst dX2_putBeside_40 ?_
  have f7 := H.1
  replace H := H.2
  refine s_iald dX2_putBeside_41 f7 ?_
  refine s_iadd dX2_putBeside_42 ?_
  refine s_iload dX2_putBeside_43 rfl ?_
  refine s_aload_n dX2_putBeside_45 rfl rfl ?_
  refine s_getf (c := 4) (k := 1) (t := 2) (j := 1) dX2_putBeside_46 fl_X2_15 (by decide) (by decide) rfl rfl f5 ?_
  refine s_iconst dX2_putBeside_49 ?_
  have f8 := H.1
  replace H := H.2
  refine s_iald dX2_putBeside_50 f8 ?_
  refine s_iadd dX2_putBeside_51 ?_
  have f12 := H.1
  replace H := H.2
  refine s_callV (M' := MX4_start) (As := [vI ((h (h a1 1) 0) + (h (h a2 1) 0)), vI ((h (h a1 1) 1) + (h (h a2 1) 1)), vI ((h (h a1 1) 2) + (h (h a2 1) 2))]) (a := a3) (st := []) dX2_putBeside_52 ml_X2_21 cv_X4_start rfl rfl (Nat.le_of_ble_eq_true rfl) ⟨Nat.le_refl _, Nat.le_refl _⟩ f12 (R_mono (fun r9 G10 h11 H => ?_) H)
  show S l MX2_putBeside (d + 1, 0, 0, 0, 0) 55 [some (vR a0), some (vR a1), some (vR a2), some (vR a3), some (vI (h (h a1 1) 0)), some (vI (h (h a1 1) 1)), some (vI (h (h a1 1) 2)), none, none] [] G10 h11 Q
  refine s_iconst dX2_putBeside_55 ?_
  refine s_istore dX2_putBeside_56 (by decide) rfl ?_
  show S l MX2_putBeside (d + 1, 0, 0, 0, 0) 58 [some (vR a0), some (vR a1), some (vR a2), some (vR a3), some (vI (h (h a1 1) 0)), some (vI (h (h a1 1) 1)), some (vI (h (h a1 1) 2)), some (vI 0), none] [] G10 h11 Q
  exact S_cut (by first | exact ⟨rfl, ⟨rfl, ⟨rfl, ⟨rfl, ⟨rfl, ⟨rfl, ⟨rfl, ⟨rfl, trivial⟩⟩⟩⟩⟩⟩⟩⟩ | simp [lsub]) H
set_option maxHeartbeats 4000000 in
set_option maxRecDepth 100000 in
theorem vX2_putBeside_58 {l : Launch} {d : Nat} {G : GS} {h : HP} {Q : Int → GS → HP → Prop} (a0 a1 a2 a3 a4 a5 a6 a7 : Int) (H : (inR a7) ∧ (inR a4) ∧ ((a4 ≤ a7 → S l MX2_putBeside (d + 1, 0, 0, 0, 0) 106 [some (vR a0), some (vR a1), some (vR a2), some (vR a3), some (vI a4), some (vI a5), some (vI a6), some (vI 0), none] [] G h Q) ∧ (a7 < a4 → S l MX2_putBeside (d + 1, 0, 0, 0, 0) 68 [some (vR a0), some (vR a1), some (vR a2), some (vR a3), some (vI a4), some (vI a5), some (vI a6), some (vI a7), some (vI 0)] [] G h Q))) : S l MX2_putBeside (d + 1, 0, 0, 0, 0) 58 [some (vR a0), some (vR a1), some (vR a2), some (vR a3), some (vI a4), some (vI a5), some (vI a6), some (vI a7), none] [] G h Q := by
  refine s_iload dX2_putBeside_58 rfl ?_
  refine s_iload dX2_putBeside_60 rfl ?_
  have f1 := H.1
  replace H := H.2
  have f2 := H.1
  replace H := H.2
  refine s_icmp_ge (tgt := 103) dX2_putBeside_62 (by decide) f1 f2 (fun c3 => ?_) (fun c3 => ?_)
  · replace H := H.1 c3
    refine s_iconst dX2_putBeside_103 ?_
    refine s_istore dX2_putBeside_104 (by decide) rfl ?_
    show S l MX2_putBeside (d + 1, 0, 0, 0, 0) 106 [some (vR a0), some (vR a1), some (vR a2), some (vR a3), some (vI a4), some (vI a5), some (vI a6), some (vI 0), none] [] G h Q
    exact S_cut (by first | exact ⟨rfl, ⟨rfl, ⟨rfl, ⟨rfl, ⟨rfl, ⟨rfl, ⟨rfl, ⟨rfl, trivial⟩⟩⟩⟩⟩⟩⟩⟩ | simp [lsub]) H
  · replace H := H.2 c3
    refine s_iconst dX2_putBeside_65 ?_
    refine s_istore dX2_putBeside_66 (by decide) rfl ?_
    show S l MX2_putBeside (d + 1, 0, 0, 0, 0) 68 [some (vR a0), some (vR a1), some (vR a2), some (vR a3), some (vI a4), some (vI a5), some (vI a6), some (vI a7), some (vI 0)] [] G h Q
    exact S_cut (by first | exact ⟨rfl, ⟨rfl, ⟨rfl, ⟨rfl, ⟨rfl, ⟨rfl, ⟨rfl, ⟨rfl, ⟨rfl, trivial⟩⟩⟩⟩⟩⟩⟩⟩⟩ | simp [lsub]) H
set_option maxHeartbeats 4000000 in
set_option maxRecDepth 100000 in
theorem vX2_putBeside_106 {l : Launch} {d : Nat} {G : GS} {h : HP} {Q : Int → GS → HP → Prop} (a0 a1 a2 a3 a4 a5 a6 a7 : Int) (H : (ty G a2 = 4) ∧ (inA G 10 (h a2 1) 0) ∧ (inR a7) ∧ (inR (h (h a2 1) 0)) ∧ (((h (h a2 1) 0) ≤ a7 → S l MX2_putBeside (d + 1, 0, 0, 0, 0) 179 [some (vR a0), some (vR a1), some (vR a2), some (vR a3), some (vI a4), some (vI a5), some (vI a6), some (vI 0), none] [] G h Q) ∧ (a7 < (h (h a2 1) 0) → S l MX2_putBeside (d + 1, 0, 0, 0, 0) 120 [some (vR a0), some (vR a1), some (vR a2), some (vR a3), some (vI a4), some (vI a5), some (vI a6), some (vI a7), some (vI 0)] [] G h Q))) : S l MX2_putBeside (d + 1, 0, 0, 0, 0) 106 [some (vR a0), some (vR a1), some (vR a2), some (vR a3), some (vI a4), some (vI a5), some (vI a6), some (vI a7), none] [] G h Q := by
  refine s_iload dX2_putBeside_106 rfl ?_
  refine s_aload_n dX2_putBeside_108 rfl rfl ?_
  have f1 := H.1
  replace H := H.2
  refine s_getf (c := 4) (k := 1) (t := 2) (j := 1) dX2_putBeside_109 fl_X2_15 (by decide) (by decide) rfl rfl f1 ?_
  refine s_iconst dX2_putBeside_112 ?_
  have f2 := H.1
  replace H := H.2
  refine s_iald dX2_putBeside_113 f2 ?_
  have f3 := H.1
  replace H := H.2
  have f4 := H.1
  replace H := H.2
  refine s_icmp_ge (tgt := 176) dX2_putBeside_114 (by decide) f3 f4 (fun c5 => ?_) (fun c5 => ?_)
  · replace H := H.1 c5
    refine s_iconst dX2_putBeside_176 ?_
    refine s_istore dX2_putBeside_177 (by decide) rfl ?_
    show S l MX2_putBeside (d + 1, 0, 0, 0, 0) 179 [some (vR a0), some (vR a1), some (vR a2), some (vR a3), some (vI a4), some (vI a5), some (vI a6), some (vI 0), none] [] G h Q
    exact S_cut (by first | exact ⟨rfl, ⟨rfl, ⟨rfl, ⟨rfl, ⟨rfl, ⟨rfl, ⟨rfl, ⟨rfl, trivial⟩⟩⟩⟩⟩⟩⟩⟩ | simp [lsub]) H
  · replace H := H.2 c5
    refine s_iconst dX2_putBeside_117 ?_
    refine s_istore dX2_putBeside_118 (by decide) rfl ?_
    show S l MX2_putBeside (d + 1, 0, 0, 0, 0) 120 [some (vR a0), some (vR a1), some (vR a2), some (vR a3), some (vI a4), some (vI a5), some (vI a6), some (vI a7), some (vI 0)] [] G h Q
    exact S_cut (by first | exact ⟨rfl, ⟨rfl, ⟨rfl, ⟨rfl, ⟨rfl, ⟨rfl, ⟨rfl, ⟨rfl, ⟨rfl, trivial⟩⟩⟩⟩⟩⟩⟩⟩⟩ | simp [lsub]) H
set_option maxHeartbeats 4000000 in
set_option maxRecDepth 100000 in
theorem vX2_putBeside_68 {l : Launch} {d : Nat} {G : GS} {h : HP} {Q : Int → GS → HP → Prop} (a0 a1 a2 a3 a4 a5 a6 a7 a8 : Int) (H : (inR a8) ∧ (inR a5) ∧ ((a5 ≤ a8 → S l MX2_putBeside (d + 1, 0, 0, 0, 0) 58 [some (vR a0), some (vR a1), some (vR a2), some (vR a3), some (vI a4), some (vI a5), some (vI a6), some (vI (a7 + 1)), none] [] G h Q) ∧ (a8 < a5 → (ty G a1 = 4) ∧ R l MX4_fiberAt d 0 0 [vR a1, vI a7, vI a8] G h (fun r4 G5 h6 => (ty G5 a3 = 4) ∧ R l MX4_setFiber d 0 0 [vR a3, vI a7, vI a8, vI r4] G5 h6 (fun r8 G9 h10 => S l MX2_putBeside (d + 1, 0, 0, 0, 0) 68 [some (vR a0), some (vR a1), some (vR a2), some (vR a3), some (vI a4), some (vI a5), some (vI a6), some (vI a7), some (vI (a8 + 1))] [] G9 h10 Q))))) : S l MX2_putBeside (d + 1, 0, 0, 0, 0) 68 [some (vR a0), some (vR a1), some (vR a2), some (vR a3), some (vI a4), some (vI a5), some (vI a6), some (vI a7), some (vI a8)] [] G h Q := by
  refine s_iload dX2_putBeside_68 rfl ?_
  refine s_iload dX2_putBeside_70 rfl ?_
  have f1 := H.1
  replace H := H.2
  have f2 := H.1
  replace H := H.2
  refine s_icmp_ge (tgt := 97) dX2_putBeside_72 (by decide) f1 f2 (fun c3 => ?_) (fun c3 => ?_)
  · replace H := H.1 c3
    refine s_iinc dX2_putBeside_97 rfl (by decide) rfl ?_
    show S l MX2_putBeside (d + 1, 0, 0, 0, 0) 100 [some (vR a0), some (vR a1), some (vR a2), some (vR a3), some (vI a4), some (vI a5), some (vI a6), some (vI (a7 + 1)), some (vI a8)] [] G h Q
    refine s_goto (tgt := 58) dX2_putBeside_100 (by decide) ?_
    exact S_cut (by first | exact ⟨rfl, ⟨rfl, ⟨rfl, ⟨rfl, ⟨rfl, ⟨rfl, ⟨rfl, ⟨rfl, trivial⟩⟩⟩⟩⟩⟩⟩⟩ | simp [lsub]) H
  · replace H := H.2 c3
    refine s_aload_n dX2_putBeside_75 rfl rfl ?_
    refine s_iload dX2_putBeside_76 rfl ?_
    refine s_iload dX2_putBeside_78 rfl ?_
    refine s_aload_n dX2_putBeside_80 rfl rfl ?_
    refine s_iload dX2_putBeside_81 rfl ?_
    refine s_iload dX2_putBeside_83 rfl ?_
    have f7 := H.1
    replace H := H.2
    refine s_callV (M' := MX4_fiberAt) (As := [vI a7, vI a8]) (a := a1) (st := [vI a8, vI a7, vR a3]) dX2_putBeside_85 ml_X2_43 cv_X4_fiberAt rfl rfl (Nat.le_of_ble_eq_true rfl) ⟨Nat.le_refl _, Nat.le_refl _⟩ f7 (R_mono (fun r4 G5 h6 H => ?_) H)
    show S l MX2_putBeside (d + 1, 0, 0, 0, 0) 88 [some (vR a0), some (vR a1), some (vR a2), some (vR a3), some (vI a4), some (vI a5), some (vI a6), some (vI a7), some (vI a8)] [vI r4, vI a8, vI a7, vR a3] G5 h6 Q
    have f11 := H.1
    replace H := H.2
    refine s_callV (M' := MX4_setFiber) (As := [vI a7, vI a8, vI r4]) (a := a3) (st := []) dX2_putBeside_88 ml_X2_29 cv_X4_setFiber rfl rfl (Nat.le_of_ble_eq_true rfl) ⟨Nat.le_refl _, Nat.le_refl _⟩ f11 (R_mono (fun r8 G9 h10 H => ?_) H)
    show S l MX2_putBeside (d + 1, 0, 0, 0, 0) 91 [some (vR a0), some (vR a1), some (vR a2), some (vR a3), some (vI a4), some (vI a5), some (vI a6), some (vI a7), some (vI a8)] [] G9 h10 Q
    refine s_iinc dX2_putBeside_91 rfl (by decide) rfl ?_
    show S l MX2_putBeside (d + 1, 0, 0, 0, 0) 94 [some (vR a0), some (vR a1), some (vR a2), some (vR a3), some (vI a4), some (vI a5), some (vI a6), some (vI a7), some (vI (a8 + 1))] [] G9 h10 Q
    refine s_goto (tgt := 68) dX2_putBeside_94 (by decide) ?_
    exact S_cut (by first | exact ⟨rfl, ⟨rfl, ⟨rfl, ⟨rfl, ⟨rfl, ⟨rfl, ⟨rfl, ⟨rfl, ⟨rfl, trivial⟩⟩⟩⟩⟩⟩⟩⟩⟩ | simp [lsub]) H
set_option maxHeartbeats 4000000 in
set_option maxRecDepth 100000 in
theorem vX2_putBeside_179 {l : Launch} {d : Nat} {G : GS} {h : HP} {Q : Int → GS → HP → Prop} (a0 a1 a2 a3 a4 a5 a6 a7 : Int) (H : (ty G a1 = 4) ∧ (inR a7) ∧ (inR (h a1 6)) ∧ (((h a1 6) ≤ a7 → S l MX2_putBeside (d + 1, 0, 0, 0, 0) 222 [some (vR a0), none, some (vR a2), some (vR a3), some (vI a4), some (vI a5), some (vI a6), some (vI 0), none] [] G h Q) ∧ (a7 < (h a1 6) → R l MX4_rowOf d 0 0 [vR a1, vI 0, vI a7] G h (fun r5 G6 h7 => (ty G6 a1 = 4) ∧ R l MX4_rowOf d 0 0 [vR a1, vI 1, vI a7] G6 h7 (fun r8 G9 h10 => (ty G9 a1 = 4) ∧ R l MX4_rowOf d 0 0 [vR a1, vI 2, vI a7] G9 h10 (fun r12 G13 h14 => (ty G13 a3 = 4) ∧ R l MX4_append d 0 0 [vR a3, vI r5, vI r8, vI r12] G13 h14 (fun r16 G17 h18 => S l MX2_putBeside (d + 1, 0, 0, 0, 0) 179 [some (vR a0), some (vR a1), some (vR a2), some (vR a3), some (vI a4), some (vI a5), some (vI a6), some (vI (a7 + 1)), none] [] G17 h18 Q))))))) : S l MX2_putBeside (d + 1, 0, 0, 0, 0) 179 [some (vR a0), some (vR a1), some (vR a2), some (vR a3), some (vI a4), some (vI a5), some (vI a6), some (vI a7), none] [] G h Q := by
  refine s_iload dX2_putBeside_179 rfl ?_
  refine s_aload_n dX2_putBeside_181 rfl rfl ?_
  have f1 := H.1
  replace H := H.2
  refine s_getf (c := 4) (k := 6) (t := 0) (j := 6) dX2_putBeside_182 fl_X2_32 (by decide) (by decide) rfl rfl f1 ?_
  have f2 := H.1
  replace H := H.2
  have f3 := H.1
  replace H := H.2
  refine s_icmp_ge (tgt := 219) dX2_putBeside_185 (by decide) f2 f3 (fun c4 => ?_) (fun c4 => ?_)
  · replace H := H.1 c4
    refine s_iconst dX2_putBeside_219 ?_
    refine s_istore dX2_putBeside_220 (by decide) rfl ?_
    show S l MX2_putBeside (d + 1, 0, 0, 0, 0) 222 [some (vR a0), some (vR a1), some (vR a2), some (vR a3), some (vI a4), some (vI a5), some (vI a6), some (vI 0), none] [] G h Q
    exact S_cut (by first | exact ⟨rfl, ⟨rfl, ⟨rfl, ⟨rfl, ⟨rfl, ⟨rfl, ⟨rfl, trivial⟩⟩⟩⟩⟩⟩⟩ | simp [lsub]) H
  · replace H := H.2 c4
    refine s_aload_n dX2_putBeside_188 rfl rfl ?_
    refine s_aload_n dX2_putBeside_189 rfl rfl ?_
    refine s_iconst dX2_putBeside_190 ?_
    refine s_iload dX2_putBeside_191 rfl ?_
    refine s_callV (M' := MX4_rowOf) (As := [vI 0, vI a7]) (a := a1) (st := [vR a3]) dX2_putBeside_193 ml_X2_36 cv_X4_rowOf rfl rfl (Nat.le_of_ble_eq_true rfl) ⟨Nat.le_refl _, Nat.le_refl _⟩ f1 (R_mono (fun r5 G6 h7 H => ?_) H)
    show S l MX2_putBeside (d + 1, 0, 0, 0, 0) 196 [some (vR a0), some (vR a1), some (vR a2), some (vR a3), some (vI a4), some (vI a5), some (vI a6), some (vI a7), none] [vI r5, vR a3] G6 h7 Q
    refine s_aload_n dX2_putBeside_196 rfl rfl ?_
    refine s_iconst dX2_putBeside_197 ?_
    refine s_iload dX2_putBeside_198 rfl ?_
    have f11 := H.1
    replace H := H.2
    refine s_callV (M' := MX4_rowOf) (As := [vI 1, vI a7]) (a := a1) (st := [vI r5, vR a3]) dX2_putBeside_200 ml_X2_36 cv_X4_rowOf rfl rfl (Nat.le_of_ble_eq_true rfl) ⟨Nat.le_refl _, Nat.le_refl _⟩ f11 (R_mono (fun r8 G9 h10 H => ?_) H)
    show S l MX2_putBeside (d + 1, 0, 0, 0, 0) 203 [some (vR a0), some (vR a1), some (vR a2), some (vR a3), some (vI a4), some (vI a5), some (vI a6), some (vI a7), none] [vI r8, vI r5, vR a3] G9 h10 Q
    refine s_aload_n dX2_putBeside_203 rfl rfl ?_
    refine s_iconst dX2_putBeside_204 ?_
    refine s_iload dX2_putBeside_205 rfl ?_
    have f15 := H.1
    replace H := H.2
    refine s_callV (M' := MX4_rowOf) (As := [vI 2, vI a7]) (a := a1) (st := [vI r8, vI r5, vR a3]) dX2_putBeside_207 ml_X2_36 cv_X4_rowOf rfl rfl (Nat.le_of_ble_eq_true rfl) ⟨Nat.le_refl _, Nat.le_refl _⟩ f15 (R_mono (fun r12 G13 h14 H => ?_) H)
    show S l MX2_putBeside (d + 1, 0, 0, 0, 0) 210 [some (vR a0), some (vR a1), some (vR a2), some (vR a3), some (vI a4), some (vI a5), some (vI a6), some (vI a7), none] [vI r12, vI r8, vI r5, vR a3] G13 h14 Q
    have f19 := H.1
    replace H := H.2
    refine s_callV (M' := MX4_append) (As := [vI r5, vI r8, vI r12]) (a := a3) (st := []) dX2_putBeside_210 ml_X2_40 cv_X4_append rfl rfl (Nat.le_of_ble_eq_true rfl) ⟨Nat.le_refl _, Nat.le_refl _⟩ f19 (R_mono (fun r16 G17 h18 H => ?_) H)
    show S l MX2_putBeside (d + 1, 0, 0, 0, 0) 213 [some (vR a0), some (vR a1), some (vR a2), some (vR a3), some (vI a4), some (vI a5), some (vI a6), some (vI a7), none] [] G17 h18 Q
    refine s_iinc dX2_putBeside_213 rfl (by decide) rfl ?_
    show S l MX2_putBeside (d + 1, 0, 0, 0, 0) 216 [some (vR a0), some (vR a1), some (vR a2), some (vR a3), some (vI a4), some (vI a5), some (vI a6), some (vI (a7 + 1)), none] [] G17 h18 Q
    refine s_goto (tgt := 179) dX2_putBeside_216 (by decide) ?_
    exact S_cut (by first | exact ⟨rfl, ⟨rfl, ⟨rfl, ⟨rfl, ⟨rfl, ⟨rfl, ⟨rfl, ⟨rfl, trivial⟩⟩⟩⟩⟩⟩⟩⟩ | simp [lsub]) H
set_option maxHeartbeats 4000000 in
set_option maxRecDepth 100000 in
theorem vX2_putBeside_120 {l : Launch} {d : Nat} {G : GS} {h : HP} {Q : Int → GS → HP → Prop} (a0 a1 a2 a3 a4 a5 a6 a7 a8 : Int) (H : (ty G a2 = 4) ∧ (inA G 10 (h a2 1) 1) ∧ (inR a8) ∧ (inR (h (h a2 1) 1)) ∧ (((h (h a2 1) 1) ≤ a8 → S l MX2_putBeside (d + 1, 0, 0, 0, 0) 106 [some (vR a0), some (vR a1), some (vR a2), some (vR a3), some (vI a4), some (vI a5), some (vI a6), some (vI (a7 + 1)), none] [] G h Q) ∧ (a8 < (h (h a2 1) 1) → R l MX4_fiberAt d 0 0 [vR a2, vI a7, vI a8] G h (fun r6 G7 h8 => (ty G7 a0 = 2) ∧ (ty G7 (h8 a0 0) = 1) ∧ (inA G7 10 (h8 (h8 a0 0) 1) a6) ∧ (ty G7 a3 = 4) ∧ R l MX4_setFiber d 0 0 [vR a3, vI (a4 + a7), vI (a5 + a8), vI (r6 * (h8 (h8 (h8 a0 0) 1) a6))] G7 h8 (fun r12 G13 h14 => S l MX2_putBeside (d + 1, 0, 0, 0, 0) 120 [some (vR a0), some (vR a1), some (vR a2), some (vR a3), some (vI a4), some (vI a5), some (vI a6), some (vI a7), some (vI (a8 + 1))] [] G13 h14 Q))))) : S l MX2_putBeside (d + 1, 0, 0, 0, 0) 120 [some (vR a0), some (vR a1), some (vR a2), some (vR a3), some (vI a4), some (vI a5), some (vI a6), some (vI a7), some (vI a8)] [] G h Q := by
  refine s_iload dX2_putBeside_120 rfl ?_
  refine s_aload_n dX2_putBeside_122 rfl rfl ?_
  have f1 := H.1
  replace H := H.2
  refine s_getf (c := 4) (k := 1) (t := 2) (j := 1) dX2_putBeside_123 fl_X2_15 (by decide) (by decide) rfl rfl f1 ?_
  refine s_iconst dX2_putBeside_126 ?_
  have f2 := H.1
  replace H := H.2
  refine s_iald dX2_putBeside_127 f2 ?_
  have f3 := H.1
  replace H := H.2
  have f4 := H.1
  replace H := H.2
  refine s_icmp_ge (tgt := 170) dX2_putBeside_128 (by decide) f3 f4 (fun c5 => ?_) (fun c5 => ?_)
  · replace H := H.1 c5
    refine s_iinc dX2_putBeside_170 rfl (by decide) rfl ?_
    show S l MX2_putBeside (d + 1, 0, 0, 0, 0) 173 [some (vR a0), some (vR a1), some (vR a2), some (vR a3), some (vI a4), some (vI a5), some (vI a6), some (vI (a7 + 1)), some (vI a8)] [] G h Q
    refine s_goto (tgt := 106) dX2_putBeside_173 (by decide) ?_
    exact S_cut (by first | exact ⟨rfl, ⟨rfl, ⟨rfl, ⟨rfl, ⟨rfl, ⟨rfl, ⟨rfl, ⟨rfl, trivial⟩⟩⟩⟩⟩⟩⟩⟩ | simp [lsub]) H
  · replace H := H.2 c5
    refine s_aload_n dX2_putBeside_131 rfl rfl ?_
    refine s_iload dX2_putBeside_132 rfl ?_
    refine s_iload dX2_putBeside_134 rfl ?_
    refine s_iadd dX2_putBeside_136 ?_
    refine s_iload dX2_putBeside_137 rfl ?_
    refine s_iload dX2_putBeside_139 rfl ?_
    refine s_iadd dX2_putBeside_141 ?_
    refine s_aload_n dX2_putBeside_142 rfl rfl ?_
    refine s_iload dX2_putBeside_143 rfl ?_
    refine s_iload dX2_putBeside_145 rfl ?_
    refine s_callV (M' := MX4_fiberAt) (As := [vI a7, vI a8]) (a := a2) (st := [vI (a5 + a8), vI (a4 + a7), vR a3]) dX2_putBeside_147 ml_X2_43 cv_X4_fiberAt rfl rfl (Nat.le_of_ble_eq_true rfl) ⟨Nat.le_refl _, Nat.le_refl _⟩ f1 (R_mono (fun r6 G7 h8 H => ?_) H)
    show S l MX2_putBeside (d + 1, 0, 0, 0, 0) 150 [some (vR a0), some (vR a1), some (vR a2), some (vR a3), some (vI a4), some (vI a5), some (vI a6), some (vI a7), some (vI a8)] [vI r6, vI (a5 + a8), vI (a4 + a7), vR a3] G7 h8 Q
    refine s_aload_n dX2_putBeside_150 rfl rfl ?_
    have f9 := H.1
    replace H := H.2
    refine s_getf (c := 2) (k := 0) (t := 2) (j := 0) dX2_putBeside_151 fl_X2_9 (by decide) (by decide) rfl rfl f9 ?_
    have f10 := H.1
    replace H := H.2
    refine s_getf (c := 1) (k := 1) (t := 2) (j := 1) dX2_putBeside_154 fl_X2_46 (by decide) (by decide) rfl rfl f10 ?_
    refine s_iload dX2_putBeside_157 rfl ?_
    have f11 := H.1
    replace H := H.2
    refine s_iald dX2_putBeside_159 f11 ?_
    refine s_imul dX2_putBeside_160 ?_
    have f15 := H.1
    replace H := H.2
    refine s_callV (M' := MX4_setFiber) (As := [vI (a4 + a7), vI (a5 + a8), vI (r6 * (h8 (h8 (h8 a0 0) 1) a6))]) (a := a3) (st := []) dX2_putBeside_161 ml_X2_29 cv_X4_setFiber rfl rfl (Nat.le_of_ble_eq_true rfl) ⟨Nat.le_refl _, Nat.le_refl _⟩ f15 (R_mono (fun r12 G13 h14 H => ?_) H)
    show S l MX2_putBeside (d + 1, 0, 0, 0, 0) 164 [some (vR a0), some (vR a1), some (vR a2), some (vR a3), some (vI a4), some (vI a5), some (vI a6), some (vI a7), some (vI a8)] [] G13 h14 Q
    refine s_iinc dX2_putBeside_164 rfl (by decide) rfl ?_
    show S l MX2_putBeside (d + 1, 0, 0, 0, 0) 167 [some (vR a0), some (vR a1), some (vR a2), some (vR a3), some (vI a4), some (vI a5), some (vI a6), some (vI a7), some (vI (a8 + 1))] [] G13 h14 Q
    refine s_goto (tgt := 120) dX2_putBeside_167 (by decide) ?_
    exact S_cut (by first | exact ⟨rfl, ⟨rfl, ⟨rfl, ⟨rfl, ⟨rfl, ⟨rfl, ⟨rfl, ⟨rfl, ⟨rfl, trivial⟩⟩⟩⟩⟩⟩⟩⟩⟩ | simp [lsub]) H
set_option maxHeartbeats 4000000 in
set_option maxRecDepth 100000 in
theorem vX2_putBeside_222 {l : Launch} {d : Nat} {G : GS} {h : HP} {Q : Int → GS → HP → Prop} (a0 a2 a3 a4 a5 a6 a7 : Int) (H : (ty G a2 = 4) ∧ (inR a7) ∧ (inR (h a2 6)) ∧ (((h a2 6) ≤ a7 → Q 0 G h) ∧ (a7 < (h a2 6) → R l MX4_rowOf d 0 0 [vR a2, vI 0, vI a7] G h (fun r5 G6 h7 => (ty G6 a0 = 2) ∧ (ty G6 (h7 a0 0) = 1) ∧ (inA G6 10 (h7 (h7 a0 0) 1) a4) ∧ (ty G6 a2 = 4) ∧ R l MX4_rowOf d 0 0 [vR a2, vI 1, vI a7] G6 h7 (fun r11 G12 h13 => (ty G12 a0 = 2) ∧ (ty G12 (h13 a0 0) = 1) ∧ (inA G12 10 (h13 (h13 a0 0) 1) a5) ∧ (ty G12 a2 = 4) ∧ R l MX4_rowOf d 0 0 [vR a2, vI 2, vI a7] G12 h13 (fun r18 G19 h20 => (ty G19 a0 = 2) ∧ (ty G19 (h20 a0 0) = 1) ∧ (inA G19 10 (h20 (h20 a0 0) 1) a6) ∧ (ty G19 a3 = 4) ∧ R l MX4_append d 0 0 [vR a3, vI (r5 * (h7 (h7 (h7 a0 0) 1) a4)), vI (r11 * (h13 (h13 (h13 a0 0) 1) a5)), vI (r18 * (h20 (h20 (h20 a0 0) 1) a6))] G19 h20 (fun r25 G26 h27 => S l MX2_putBeside (d + 1, 0, 0, 0, 0) 222 [some (vR a0), none, some (vR a2), some (vR a3), some (vI a4), some (vI a5), some (vI a6), some (vI (a7 + 1)), none] [] G26 h27 Q))))))) : S l MX2_putBeside (d + 1, 0, 0, 0, 0) 222 [some (vR a0), none, some (vR a2), some (vR a3), some (vI a4), some (vI a5), some (vI a6), some (vI a7), none] [] G h Q := by
  refine s_iload dX2_putBeside_222 rfl ?_
  refine s_aload_n dX2_putBeside_224 rfl rfl ?_
  have f1 := H.1
  replace H := H.2
  refine s_getf (c := 4) (k := 6) (t := 0) (j := 6) dX2_putBeside_225 fl_X2_32 (by decide) (by decide) rfl rfl f1 ?_
  have f2 := H.1
  replace H := H.2
  have f3 := H.1
  replace H := H.2
  refine s_icmp_ge (tgt := 295) dX2_putBeside_228 (by decide) f2 f3 (fun c4 => ?_) (fun c4 => ?_)
  · replace H := H.1 c4
    exact s_vret dX2_putBeside_295 rfl ⟨Nat.le_refl _, Nat.le_refl _⟩ H
  · replace H := H.2 c4
    refine s_aload_n dX2_putBeside_231 rfl rfl ?_
    refine s_aload_n dX2_putBeside_232 rfl rfl ?_
    refine s_iconst dX2_putBeside_233 ?_
    refine s_iload dX2_putBeside_234 rfl ?_
    refine s_callV (M' := MX4_rowOf) (As := [vI 0, vI a7]) (a := a2) (st := [vR a3]) dX2_putBeside_236 ml_X2_36 cv_X4_rowOf rfl rfl (Nat.le_of_ble_eq_true rfl) ⟨Nat.le_refl _, Nat.le_refl _⟩ f1 (R_mono (fun r5 G6 h7 H => ?_) H)
    show S l MX2_putBeside (d + 1, 0, 0, 0, 0) 239 [some (vR a0), none, some (vR a2), some (vR a3), some (vI a4), some (vI a5), some (vI a6), some (vI a7), none] [vI r5, vR a3] G6 h7 Q
    refine s_aload_n dX2_putBeside_239 rfl rfl ?_
    have f8 := H.1
    replace H := H.2
    refine s_getf (c := 2) (k := 0) (t := 2) (j := 0) dX2_putBeside_240 fl_X2_9 (by decide) (by decide) rfl rfl f8 ?_
    have f9 := H.1
    replace H := H.2
    refine s_getf (c := 1) (k := 1) (t := 2) (j := 1) dX2_putBeside_243 fl_X2_46 (by decide) (by decide) rfl rfl f9 ?_
    refine s_iload dX2_putBeside_246 rfl ?_
    have f10 := H.1
    replace H := H.2
    refine s_iald dX2_putBeside_248 f10 ?_
    refine s_imul dX2_putBeside_249 ?_
    refine s_aload_n dX2_putBeside_250 rfl rfl ?_
    refine s_iconst dX2_putBeside_251 ?_
    refine s_iload dX2_putBeside_252 rfl ?_
    have f14 := H.1
    replace H := H.2
    refine s_callV (M' := MX4_rowOf) (As := [vI 1, vI a7]) (a := a2) (st := [vI (r5 * (h7 (h7 (h7 a0 0) 1) a4)), vR a3]) dX2_putBeside_254 ml_X2_36 cv_X4_rowOf rfl rfl (Nat.le_of_ble_eq_true rfl) ⟨Nat.le_refl _, Nat.le_refl _⟩ f14 (R_mono (fun r11 G12 h13 H => ?_) H)
    show S l MX2_putBeside (d + 1, 0, 0, 0, 0) 257 [some (vR a0), none, some (vR a2), some (vR a3), some (vI a4), some (vI a5), some (vI a6), some (vI a7), none] [vI r11, vI (r5 * (h7 (h7 (h7 a0 0) 1) a4)), vR a3] G12 h13 Q
    refine s_aload_n dX2_putBeside_257 rfl rfl ?_
    have f15 := H.1
    replace H := H.2
    refine s_getf (c := 2) (k := 0) (t := 2) (j := 0) dX2_putBeside_258 fl_X2_9 (by decide) (by decide) rfl rfl f15 ?_
    have f16 := H.1
    replace H := H.2
    refine s_getf (c := 1) (k := 1) (t := 2) (j := 1) dX2_putBeside_261 fl_X2_46 (by decide) (by decide) rfl rfl f16 ?_
    refine s_iload dX2_putBeside_264 rfl ?_
    have f17 := H.1
    replace H := H.2
    refine s_iald dX2_putBeside_266 f17 ?_
    refine s_imul dX2_putBeside_267 ?_
    refine s_aload_n dX2_putBeside_268 rfl rfl ?_
    refine s_iconst dX2_putBeside_269 ?_
    refine s_iload dX2_putBeside_270 rfl ?_
    have f21 := H.1
    replace H := H.2
    refine s_callV (M' := MX4_rowOf) (As := [vI 2, vI a7]) (a := a2) (st := [vI (r11 * (h13 (h13 (h13 a0 0) 1) a5)), vI (r5 * (h7 (h7 (h7 a0 0) 1) a4)), vR a3]) dX2_putBeside_272 ml_X2_36 cv_X4_rowOf rfl rfl (Nat.le_of_ble_eq_true rfl) ⟨Nat.le_refl _, Nat.le_refl _⟩ f21 (R_mono (fun r18 G19 h20 H => ?_) H)
    show S l MX2_putBeside (d + 1, 0, 0, 0, 0) 275 [some (vR a0), none, some (vR a2), some (vR a3), some (vI a4), some (vI a5), some (vI a6), some (vI a7), none] [vI r18, vI (r11 * (h13 (h13 (h13 a0 0) 1) a5)), vI (r5 * (h7 (h7 (h7 a0 0) 1) a4)), vR a3] G19 h20 Q
    refine s_aload_n dX2_putBeside_275 rfl rfl ?_
    have f22 := H.1
    replace H := H.2
    refine s_getf (c := 2) (k := 0) (t := 2) (j := 0) dX2_putBeside_276 fl_X2_9 (by decide) (by decide) rfl rfl f22 ?_
    have f23 := H.1
    replace H := H.2
    refine s_getf (c := 1) (k := 1) (t := 2) (j := 1) dX2_putBeside_279 fl_X2_46 (by decide) (by decide) rfl rfl f23 ?_
    refine s_iload dX2_putBeside_282 rfl ?_
    have f24 := H.1
    replace H := H.2
    refine s_iald dX2_putBeside_284 f24 ?_
    refine s_imul dX2_putBeside_285 ?_
    have f28 := H.1
    replace H := H.2
    refine s_callV (M' := MX4_append) (As := [vI (r5 * (h7 (h7 (h7 a0 0) 1) a4)), vI (r11 * (h13 (h13 (h13 a0 0) 1) a5)), vI (r18 * (h20 (h20 (h20 a0 0) 1) a6))]) (a := a3) (st := []) dX2_putBeside_286 ml_X2_40 cv_X4_append rfl rfl (Nat.le_of_ble_eq_true rfl) ⟨Nat.le_refl _, Nat.le_refl _⟩ f28 (R_mono (fun r25 G26 h27 H => ?_) H)
    show S l MX2_putBeside (d + 1, 0, 0, 0, 0) 289 [some (vR a0), none, some (vR a2), some (vR a3), some (vI a4), some (vI a5), some (vI a6), some (vI a7), none] [] G26 h27 Q
    refine s_iinc dX2_putBeside_289 rfl (by decide) rfl ?_
    show S l MX2_putBeside (d + 1, 0, 0, 0, 0) 292 [some (vR a0), none, some (vR a2), some (vR a3), some (vI a4), some (vI a5), some (vI a6), some (vI (a7 + 1)), none] [] G26 h27 Q
    refine s_goto (tgt := 222) dX2_putBeside_292 (by decide) ?_
    exact S_cut (by first | exact ⟨rfl, ⟨rfl, ⟨rfl, ⟨rfl, ⟨rfl, ⟨rfl, ⟨rfl, trivial⟩⟩⟩⟩⟩⟩⟩ | simp [lsub]) H
set_option maxHeartbeats 4000000 in
set_option maxRecDepth 100000 in
theorem vX2_putWithin_0 {l : Launch} {d : Nat} {G : GS} {h : HP} {Q : Int → GS → HP → Prop} (a0 a1 a2 a3 : Int) (H : (ty G a1 = 4) ∧ (inA G 10 (h a1 1) 0) ∧ (ty G a2 = 4) ∧ (inA G 10 (h a2 1) 0) ∧ (inA G 10 (h a1 1) 1) ∧ (inA G 10 (h a2 1) 1) ∧ (inA G 10 (h a1 1) 2) ∧ (inA G 10 (h a2 1) 2) ∧ (ty G a3 = 4) ∧ R l MX4_start d 0 0 [vR a3, vI ((h (h a1 1) 0) * (h (h a2 1) 0)), vI ((h (h a1 1) 1) * (h (h a2 1) 1)), vI ((h (h a1 1) 2) * (h (h a2 1) 2))] G h (fun r9 G10 h11 => S l MX2_putWithin (d + 1, 0, 0, 0, 0) 46 [some (vR a0), some (vR a1), some (vR a2), some (vR a3), some (vI 0), none] [] G10 h11 Q)) : S l MX2_putWithin (d + 1, 0, 0, 0, 0) 0 [some (vR a0), some (vR a1), some (vR a2), some (vR a3), none, none] [] G h Q := by
  refine s_aload_n dX2_putWithin_0 rfl rfl ?_
  refine s_aload_n dX2_putWithin_1 rfl rfl ?_
  have f1 := H.1
  replace H := H.2
  refine s_getf (c := 4) (k := 1) (t := 2) (j := 1) dX2_putWithin_2 fl_X2_15 (by decide) (by decide) rfl rfl f1 ?_
  refine s_iconst dX2_putWithin_5 ?_
  have f2 := H.1
  replace H := H.2
  refine s_iald dX2_putWithin_6 f2 ?_
  refine s_aload_n dX2_putWithin_7 rfl rfl ?_
  have f3 := H.1
  replace H := H.2
  refine s_getf (c := 4) (k := 1) (t := 2) (j := 1) dX2_putWithin_8 fl_X2_15 (by decide) (by decide) rfl rfl f3 ?_
  refine s_iconst dX2_putWithin_11 ?_
  have f4 := H.1
  replace H := H.2
  refine s_iald dX2_putWithin_12 f4 ?_
  refine s_imul dX2_putWithin_13 ?_
  refine s_aload_n dX2_putWithin_14 rfl rfl ?_
  refine s_getf (c := 4) (k := 1) (t := 2) (j := 1) dX2_putWithin_15 fl_X2_15 (by decide) (by decide) rfl rfl f1 ?_
  refine s_iconst dX2_putWithin_18 ?_
  have f5 := H.1
  replace H := H.2
  refine s_iald dX2_putWithin_19 f5 ?_
  refine s_aload_n dX2_putWithin_20 rfl rfl ?_
  refine s_getf (c := 4) (k := 1) (t := 2) (j := 1) dX2_putWithin_21 fl_X2_15 (by decide) (by decide) rfl rfl f3 ?_
  refine s_iconst dX2_putWithin_24 ?_
  have f6 := H.1
  replace H := H.2
  refine s_iald dX2_putWithin_25 f6 ?_
  refine s_imul dX2_putWithin_26 ?_
  refine s_aload_n dX2_putWithin_27 rfl rfl ?_
  refine s_getf (c := 4) (k := 1) (t := 2) (j := 1) dX2_putWithin_28 fl_X2_15 (by decide) (by decide) rfl rfl f1 ?_
  refine s_iconst dX2_putWithin_31 ?_
  have f7 := H.1
  replace H := H.2
  refine s_iald dX2_putWithin_32 f7 ?_
  refine s_aload_n dX2_putWithin_33 rfl rfl ?_
  refine s_getf (c := 4) (k := 1) (t := 2) (j := 1) dX2_putWithin_34 fl_X2_15 (by decide) (by decide) rfl rfl f3 ?_
  refine s_iconst dX2_putWithin_37 ?_
  have f8 := H.1
  replace H := H.2
  refine s_iald dX2_putWithin_38 f8 ?_
  refine s_imul dX2_putWithin_39 ?_
  have f12 := H.1
  replace H := H.2
  refine s_callV (M' := MX4_start) (As := [vI ((h (h a1 1) 0) * (h (h a2 1) 0)), vI ((h (h a1 1) 1) * (h (h a2 1) 1)), vI ((h (h a1 1) 2) * (h (h a2 1) 2))]) (a := a3) (st := []) dX2_putWithin_40 ml_X2_21 cv_X4_start rfl rfl (Nat.le_of_ble_eq_true rfl) ⟨Nat.le_refl _, Nat.le_refl _⟩ f12 (R_mono (fun r9 G10 h11 H => ?_) H)
  show S l MX2_putWithin (d + 1, 0, 0, 0, 0) 43 [some (vR a0), some (vR a1), some (vR a2), some (vR a3), none, none] [] G10 h11 Q
  refine s_iconst dX2_putWithin_43 ?_
  refine s_istore dX2_putWithin_44 (by decide) rfl ?_
  show S l MX2_putWithin (d + 1, 0, 0, 0, 0) 46 [some (vR a0), some (vR a1), some (vR a2), some (vR a3), some (vI 0), none] [] G10 h11 Q
  exact S_cut (by first | exact ⟨rfl, ⟨rfl, ⟨rfl, ⟨rfl, ⟨rfl, trivial⟩⟩⟩⟩⟩ | simp [lsub]) H
set_option maxHeartbeats 4000000 in
set_option maxRecDepth 100000 in
theorem vX2_putWithin_46 {l : Launch} {d : Nat} {G : GS} {h : HP} {Q : Int → GS → HP → Prop} (a0 a1 a2 a3 a4 : Int) (H : (ty G a1 = 4) ∧ (inA G 10 (h a1 1) 0) ∧ (inR a4) ∧ (inR (h (h a1 1) 0)) ∧ (((h (h a1 1) 0) ≤ a4 → S l MX2_putWithin (d + 1, 0, 0, 0, 0) 97 [some (vR a0), some (vR a1), some (vR a2), some (vR a3), some (vI 0), none] [] G h Q) ∧ (a4 < (h (h a1 1) 0) → S l MX2_putWithin (d + 1, 0, 0, 0, 0) 60 [some (vR a0), some (vR a1), some (vR a2), some (vR a3), some (vI a4), some (vI 0)] [] G h Q))) : S l MX2_putWithin (d + 1, 0, 0, 0, 0) 46 [some (vR a0), some (vR a1), some (vR a2), some (vR a3), some (vI a4), none] [] G h Q := by
  refine s_iload dX2_putWithin_46 rfl ?_
  refine s_aload_n dX2_putWithin_48 rfl rfl ?_
  have f1 := H.1
  replace H := H.2
  refine s_getf (c := 4) (k := 1) (t := 2) (j := 1) dX2_putWithin_49 fl_X2_15 (by decide) (by decide) rfl rfl f1 ?_
  refine s_iconst dX2_putWithin_52 ?_
  have f2 := H.1
  replace H := H.2
  refine s_iald dX2_putWithin_53 f2 ?_
  have f3 := H.1
  replace H := H.2
  have f4 := H.1
  replace H := H.2
  refine s_icmp_ge (tgt := 94) dX2_putWithin_54 (by decide) f3 f4 (fun c5 => ?_) (fun c5 => ?_)
  · replace H := H.1 c5
    refine s_iconst dX2_putWithin_94 ?_
    refine s_istore dX2_putWithin_95 (by decide) rfl ?_
    show S l MX2_putWithin (d + 1, 0, 0, 0, 0) 97 [some (vR a0), some (vR a1), some (vR a2), some (vR a3), some (vI 0), none] [] G h Q
    exact S_cut (by first | exact ⟨rfl, ⟨rfl, ⟨rfl, ⟨rfl, ⟨rfl, trivial⟩⟩⟩⟩⟩ | simp [lsub]) H
  · replace H := H.2 c5
    refine s_iconst dX2_putWithin_57 ?_
    refine s_istore dX2_putWithin_58 (by decide) rfl ?_
    show S l MX2_putWithin (d + 1, 0, 0, 0, 0) 60 [some (vR a0), some (vR a1), some (vR a2), some (vR a3), some (vI a4), some (vI 0)] [] G h Q
    exact S_cut (by first | exact ⟨rfl, ⟨rfl, ⟨rfl, ⟨rfl, ⟨rfl, ⟨rfl, trivial⟩⟩⟩⟩⟩⟩ | simp [lsub]) H
set_option maxHeartbeats 4000000 in
set_option maxRecDepth 100000 in
theorem vX2_putWithin_97 {l : Launch} {d : Nat} {G : GS} {h : HP} {Q : Int → GS → HP → Prop} (a0 a1 a2 a3 a4 : Int) (H : (ty G a1 = 4) ∧ (inR a4) ∧ (inR (h a1 6)) ∧ (((h a1 6) ≤ a4 → Q 0 G h) ∧ (a4 < (h a1 6) → S l MX2_putWithin (d + 1, 0, 0, 0, 0) 109 [some (vR a0), some (vR a1), some (vR a2), some (vR a3), some (vI a4), some (vI 0)] [] G h Q))) : S l MX2_putWithin (d + 1, 0, 0, 0, 0) 97 [some (vR a0), some (vR a1), some (vR a2), some (vR a3), some (vI a4), none] [] G h Q := by
  refine s_iload dX2_putWithin_97 rfl ?_
  refine s_aload_n dX2_putWithin_99 rfl rfl ?_
  have f1 := H.1
  replace H := H.2
  refine s_getf (c := 4) (k := 6) (t := 0) (j := 6) dX2_putWithin_100 fl_X2_32 (by decide) (by decide) rfl rfl f1 ?_
  have f2 := H.1
  replace H := H.2
  have f3 := H.1
  replace H := H.2
  refine s_icmp_ge (tgt := 167) dX2_putWithin_103 (by decide) f2 f3 (fun c4 => ?_) (fun c4 => ?_)
  · replace H := H.1 c4
    exact s_vret dX2_putWithin_167 rfl ⟨Nat.le_refl _, Nat.le_refl _⟩ H
  · replace H := H.2 c4
    refine s_iconst dX2_putWithin_106 ?_
    refine s_istore dX2_putWithin_107 (by decide) rfl ?_
    show S l MX2_putWithin (d + 1, 0, 0, 0, 0) 109 [some (vR a0), some (vR a1), some (vR a2), some (vR a3), some (vI a4), some (vI 0)] [] G h Q
    exact S_cut (by first | exact ⟨rfl, ⟨rfl, ⟨rfl, ⟨rfl, ⟨rfl, ⟨rfl, trivial⟩⟩⟩⟩⟩⟩ | simp [lsub]) H
set_option maxHeartbeats 4000000 in
set_option maxRecDepth 100000 in
theorem vX2_putWithin_60 {l : Launch} {d : Nat} {G : GS} {h : HP} {Q : Int → GS → HP → Prop} (a0 a1 a2 a3 a4 a5 : Int) (H : (ty G a1 = 4) ∧ (inA G 10 (h a1 1) 1) ∧ (inR a5) ∧ (inR (h (h a1 1) 1)) ∧ (((h (h a1 1) 1) ≤ a5 → S l MX2_putWithin (d + 1, 0, 0, 0, 0) 46 [some (vR a0), some (vR a1), some (vR a2), some (vR a3), some (vI (a4 + 1)), none] [] G h Q) ∧ (a5 < (h (h a1 1) 1) → (ty G a0 = 2) ∧ R l MX2_fillWithin d 0 0 [vR a0, vR a1, vI a4, vI a5, vR a2, vR a3] G h (fun r6 G7 h8 => S l MX2_putWithin (d + 1, 0, 0, 0, 0) 60 [some (vR a0), some (vR a1), some (vR a2), some (vR a3), some (vI a4), some (vI (a5 + 1))] [] G7 h8 Q)))) : S l MX2_putWithin (d + 1, 0, 0, 0, 0) 60 [some (vR a0), some (vR a1), some (vR a2), some (vR a3), some (vI a4), some (vI a5)] [] G h Q := by
  refine s_iload dX2_putWithin_60 rfl ?_
  refine s_aload_n dX2_putWithin_62 rfl rfl ?_
  have f1 := H.1
  replace H := H.2
  refine s_getf (c := 4) (k := 1) (t := 2) (j := 1) dX2_putWithin_63 fl_X2_15 (by decide) (by decide) rfl rfl f1 ?_
  refine s_iconst dX2_putWithin_66 ?_
  have f2 := H.1
  replace H := H.2
  refine s_iald dX2_putWithin_67 f2 ?_
  have f3 := H.1
  replace H := H.2
  have f4 := H.1
  replace H := H.2
  refine s_icmp_ge (tgt := 88) dX2_putWithin_68 (by decide) f3 f4 (fun c5 => ?_) (fun c5 => ?_)
  · replace H := H.1 c5
    refine s_iinc dX2_putWithin_88 rfl (by decide) rfl ?_
    show S l MX2_putWithin (d + 1, 0, 0, 0, 0) 91 [some (vR a0), some (vR a1), some (vR a2), some (vR a3), some (vI (a4 + 1)), some (vI a5)] [] G h Q
    refine s_goto (tgt := 46) dX2_putWithin_91 (by decide) ?_
    exact S_cut (by first | exact ⟨rfl, ⟨rfl, ⟨rfl, ⟨rfl, ⟨rfl, trivial⟩⟩⟩⟩⟩ | simp [lsub]) H
  · replace H := H.2 c5
    refine s_aload_n dX2_putWithin_71 rfl rfl ?_
    refine s_aload_n dX2_putWithin_72 rfl rfl ?_
    refine s_iload dX2_putWithin_73 rfl ?_
    refine s_iload dX2_putWithin_75 rfl ?_
    refine s_aload_n dX2_putWithin_77 rfl rfl ?_
    refine s_aload_n dX2_putWithin_78 rfl rfl ?_
    have f9 := H.1
    replace H := H.2
    refine s_callV (M' := MX2_fillWithin) (As := [vR a1, vI a4, vI a5, vR a2, vR a3]) (a := a0) (st := []) dX2_putWithin_79 ml_X2_51 cv_X2_fillWithin rfl rfl (Nat.le_of_ble_eq_true rfl) ⟨Nat.le_refl _, Nat.le_refl _⟩ f9 (R_mono (fun r6 G7 h8 H => ?_) H)
    show S l MX2_putWithin (d + 1, 0, 0, 0, 0) 82 [some (vR a0), some (vR a1), some (vR a2), some (vR a3), some (vI a4), some (vI a5)] [] G7 h8 Q
    refine s_iinc dX2_putWithin_82 rfl (by decide) rfl ?_
    show S l MX2_putWithin (d + 1, 0, 0, 0, 0) 85 [some (vR a0), some (vR a1), some (vR a2), some (vR a3), some (vI a4), some (vI (a5 + 1))] [] G7 h8 Q
    refine s_goto (tgt := 60) dX2_putWithin_85 (by decide) ?_
    exact S_cut (by first | exact ⟨rfl, ⟨rfl, ⟨rfl, ⟨rfl, ⟨rfl, ⟨rfl, trivial⟩⟩⟩⟩⟩⟩ | simp [lsub]) H
set_option maxHeartbeats 4000000 in
set_option maxRecDepth 100000 in
theorem vX2_putWithin_109 {l : Launch} {d : Nat} {G : GS} {h : HP} {Q : Int → GS → HP → Prop} (a0 a1 a2 a3 a4 a5 : Int) (H : (ty G a2 = 4) ∧ (inR a5) ∧ (inR (h a2 6)) ∧ (((h a2 6) ≤ a5 → S l MX2_putWithin (d + 1, 0, 0, 0, 0) 97 [some (vR a0), some (vR a1), some (vR a2), some (vR a3), some (vI (a4 + 1)), none] [] G h Q) ∧ (a5 < (h a2 6) → (ty G a0 = 2) ∧ R l MX2_rowWithin d 0 0 [vR a0, vR a1, vI a4, vR a2, vI a5, vI 0] G h (fun r5 G6 h7 => (ty G6 a0 = 2) ∧ R l MX2_rowWithin d 0 0 [vR a0, vR a1, vI a4, vR a2, vI a5, vI 1] G6 h7 (fun r9 G10 h11 => (ty G10 a0 = 2) ∧ R l MX2_rowWithin d 0 0 [vR a0, vR a1, vI a4, vR a2, vI a5, vI 2] G10 h11 (fun r13 G14 h15 => (ty G14 a3 = 4) ∧ R l MX4_append d 0 0 [vR a3, vI r5, vI r9, vI r13] G14 h15 (fun r17 G18 h19 => S l MX2_putWithin (d + 1, 0, 0, 0, 0) 109 [some (vR a0), some (vR a1), some (vR a2), some (vR a3), some (vI a4), some (vI (a5 + 1))] [] G18 h19 Q))))))) : S l MX2_putWithin (d + 1, 0, 0, 0, 0) 109 [some (vR a0), some (vR a1), some (vR a2), some (vR a3), some (vI a4), some (vI a5)] [] G h Q := by
  refine s_iload dX2_putWithin_109 rfl ?_
  refine s_aload_n dX2_putWithin_111 rfl rfl ?_
  have f1 := H.1
  replace H := H.2
  refine s_getf (c := 4) (k := 6) (t := 0) (j := 6) dX2_putWithin_112 fl_X2_32 (by decide) (by decide) rfl rfl f1 ?_
  have f2 := H.1
  replace H := H.2
  have f3 := H.1
  replace H := H.2
  refine s_icmp_ge (tgt := 161) dX2_putWithin_115 (by decide) f2 f3 (fun c4 => ?_) (fun c4 => ?_)
  · replace H := H.1 c4
    refine s_iinc dX2_putWithin_161 rfl (by decide) rfl ?_
    show S l MX2_putWithin (d + 1, 0, 0, 0, 0) 164 [some (vR a0), some (vR a1), some (vR a2), some (vR a3), some (vI (a4 + 1)), some (vI a5)] [] G h Q
    refine s_goto (tgt := 97) dX2_putWithin_164 (by decide) ?_
    exact S_cut (by first | exact ⟨rfl, ⟨rfl, ⟨rfl, ⟨rfl, ⟨rfl, trivial⟩⟩⟩⟩⟩ | simp [lsub]) H
  · replace H := H.2 c4
    refine s_aload_n dX2_putWithin_118 rfl rfl ?_
    refine s_aload_n dX2_putWithin_119 rfl rfl ?_
    refine s_aload_n dX2_putWithin_120 rfl rfl ?_
    refine s_iload dX2_putWithin_121 rfl ?_
    refine s_aload_n dX2_putWithin_123 rfl rfl ?_
    refine s_iload dX2_putWithin_124 rfl ?_
    refine s_iconst dX2_putWithin_126 ?_
    have f8 := H.1
    replace H := H.2
    refine s_callV (M' := MX2_rowWithin) (As := [vR a1, vI a4, vR a2, vI a5, vI 0]) (a := a0) (st := [vR a3]) dX2_putWithin_127 ml_X2_55 cv_X2_rowWithin rfl rfl (Nat.le_of_ble_eq_true rfl) ⟨Nat.le_refl _, Nat.le_refl _⟩ f8 (R_mono (fun r5 G6 h7 H => ?_) H)
    show S l MX2_putWithin (d + 1, 0, 0, 0, 0) 130 [some (vR a0), some (vR a1), some (vR a2), some (vR a3), some (vI a4), some (vI a5)] [vI r5, vR a3] G6 h7 Q
    refine s_aload_n dX2_putWithin_130 rfl rfl ?_
    refine s_aload_n dX2_putWithin_131 rfl rfl ?_
    refine s_iload dX2_putWithin_132 rfl ?_
    refine s_aload_n dX2_putWithin_134 rfl rfl ?_
    refine s_iload dX2_putWithin_135 rfl ?_
    refine s_iconst dX2_putWithin_137 ?_
    have f12 := H.1
    replace H := H.2
    refine s_callV (M' := MX2_rowWithin) (As := [vR a1, vI a4, vR a2, vI a5, vI 1]) (a := a0) (st := [vI r5, vR a3]) dX2_putWithin_138 ml_X2_55 cv_X2_rowWithin rfl rfl (Nat.le_of_ble_eq_true rfl) ⟨Nat.le_refl _, Nat.le_refl _⟩ f12 (R_mono (fun r9 G10 h11 H => ?_) H)
    show S l MX2_putWithin (d + 1, 0, 0, 0, 0) 141 [some (vR a0), some (vR a1), some (vR a2), some (vR a3), some (vI a4), some (vI a5)] [vI r9, vI r5, vR a3] G10 h11 Q
    refine s_aload_n dX2_putWithin_141 rfl rfl ?_
    refine s_aload_n dX2_putWithin_142 rfl rfl ?_
    refine s_iload dX2_putWithin_143 rfl ?_
    refine s_aload_n dX2_putWithin_145 rfl rfl ?_
    refine s_iload dX2_putWithin_146 rfl ?_
    refine s_iconst dX2_putWithin_148 ?_
    have f16 := H.1
    replace H := H.2
    refine s_callV (M' := MX2_rowWithin) (As := [vR a1, vI a4, vR a2, vI a5, vI 2]) (a := a0) (st := [vI r9, vI r5, vR a3]) dX2_putWithin_149 ml_X2_55 cv_X2_rowWithin rfl rfl (Nat.le_of_ble_eq_true rfl) ⟨Nat.le_refl _, Nat.le_refl _⟩ f16 (R_mono (fun r13 G14 h15 H => ?_) H)
    show S l MX2_putWithin (d + 1, 0, 0, 0, 0) 152 [some (vR a0), some (vR a1), some (vR a2), some (vR a3), some (vI a4), some (vI a5)] [vI r13, vI r9, vI r5, vR a3] G14 h15 Q
    have f20 := H.1
    replace H := H.2
    refine s_callV (M' := MX4_append) (As := [vI r5, vI r9, vI r13]) (a := a3) (st := []) dX2_putWithin_152 ml_X2_40 cv_X4_append rfl rfl (Nat.le_of_ble_eq_true rfl) ⟨Nat.le_refl _, Nat.le_refl _⟩ f20 (R_mono (fun r17 G18 h19 H => ?_) H)
    show S l MX2_putWithin (d + 1, 0, 0, 0, 0) 155 [some (vR a0), some (vR a1), some (vR a2), some (vR a3), some (vI a4), some (vI a5)] [] G18 h19 Q
    refine s_iinc dX2_putWithin_155 rfl (by decide) rfl ?_
    show S l MX2_putWithin (d + 1, 0, 0, 0, 0) 158 [some (vR a0), some (vR a1), some (vR a2), some (vR a3), some (vI a4), some (vI (a5 + 1))] [] G18 h19 Q
    refine s_goto (tgt := 109) dX2_putWithin_158 (by decide) ?_
    exact S_cut (by first | exact ⟨rfl, ⟨rfl, ⟨rfl, ⟨rfl, ⟨rfl, ⟨rfl, trivial⟩⟩⟩⟩⟩⟩ | simp [lsub]) H
set_option maxHeartbeats 4000000 in
set_option maxRecDepth 100000 in
theorem vX2_fillWithin_0 {l : Launch} {d : Nat} {G : GS} {h : HP} {Q : Int → GS → HP → Prop} (a0 a1 a2 a3 a4 a5 : Int) (H : (ty G a1 = 4) ∧ R l MX4_fiberAt d 0 0 [vR a1, vI a2, vI a3] G h (fun r1 G2 h3 => (0 ≤ a4) ∧ (ty G2 a4 = 4) ∧ (inA G2 10 (h3 a4 1) 0) ∧ (inA G2 10 (h3 a4 1) 1) ∧ S l MX2_fillWithin (d + 1, 0, 0, 0, 0) 29 [some (vR a0), none, some (vI a2), some (vI a3), some (vR a4), some (vR a5), some (vI r1), some (vI (h3 (h3 a4 1) 0)), some (vI (h3 (h3 a4 1) 1)), some (vI 0), none, none] [] G2 h3 Q)) : S l MX2_fillWithin (d + 1, 0, 0, 0, 0) 0 [some (vR a0), some (vR a1), some (vI a2), some (vI a3), some (vR a4), some (vR a5), none, none, none, none, none, none] [] G h Q := by
  refine s_aload_n dX2_fillWithin_0 rfl rfl ?_
  refine s_iload_n dX2_fillWithin_1 rfl rfl ?_
  refine s_iload_n dX2_fillWithin_2 rfl rfl ?_
  have f4 := H.1
  replace H := H.2
  refine s_callV (M' := MX4_fiberAt) (As := [vI a2, vI a3]) (a := a1) (st := []) dX2_fillWithin_3 ml_X2_43 cv_X4_fiberAt rfl rfl (Nat.le_of_ble_eq_true rfl) ⟨Nat.le_refl _, Nat.le_refl _⟩ f4 (R_mono (fun r1 G2 h3 H => ?_) H)
  show S l MX2_fillWithin (d + 1, 0, 0, 0, 0) 6 [some (vR a0), some (vR a1), some (vI a2), some (vI a3), some (vR a4), some (vR a5), none, none, none, none, none, none] [vI r1] G2 h3 Q
  refine s_istore dX2_fillWithin_6 (by decide) rfl ?_
  show S l MX2_fillWithin (d + 1, 0, 0, 0, 0) 8 [some (vR a0), some (vR a1), some (vI a2), some (vI a3), some (vR a4), some (vR a5), some (vI r1), none, none, none, none, none] [] G2 h3 Q
  have f5 := H.1
  replace H := H.2
  refine s_aload f5 dX2_fillWithin_8 rfl ?_
  have f6 := H.1
  replace H := H.2
  refine s_getf (c := 4) (k := 1) (t := 2) (j := 1) dX2_fillWithin_10 fl_X2_15 (by decide) (by decide) rfl rfl f6 ?_
  refine s_iconst dX2_fillWithin_13 ?_
  have f7 := H.1
  replace H := H.2
  refine s_iald dX2_fillWithin_14 f7 ?_
  refine s_istore dX2_fillWithin_15 (by decide) rfl ?_
  show S l MX2_fillWithin (d + 1, 0, 0, 0, 0) 17 [some (vR a0), some (vR a1), some (vI a2), some (vI a3), some (vR a4), some (vR a5), some (vI r1), some (vI (h3 (h3 a4 1) 0)), none, none, none, none] [] G2 h3 Q
  refine s_aload f5 dX2_fillWithin_17 rfl ?_
  refine s_getf (c := 4) (k := 1) (t := 2) (j := 1) dX2_fillWithin_19 fl_X2_15 (by decide) (by decide) rfl rfl f6 ?_
  refine s_iconst dX2_fillWithin_22 ?_
  have f8 := H.1
  replace H := H.2
  refine s_iald dX2_fillWithin_23 f8 ?_
  refine s_istore dX2_fillWithin_24 (by decide) rfl ?_
  show S l MX2_fillWithin (d + 1, 0, 0, 0, 0) 26 [some (vR a0), some (vR a1), some (vI a2), some (vI a3), some (vR a4), some (vR a5), some (vI r1), some (vI (h3 (h3 a4 1) 0)), some (vI (h3 (h3 a4 1) 1)), none, none, none] [] G2 h3 Q
  refine s_iconst dX2_fillWithin_26 ?_
  refine s_istore dX2_fillWithin_27 (by decide) rfl ?_
  show S l MX2_fillWithin (d + 1, 0, 0, 0, 0) 29 [some (vR a0), some (vR a1), some (vI a2), some (vI a3), some (vR a4), some (vR a5), some (vI r1), some (vI (h3 (h3 a4 1) 0)), some (vI (h3 (h3 a4 1) 1)), some (vI 0), none, none] [] G2 h3 Q
  exact S_cut (by first | exact ⟨rfl, ⟨rfl, ⟨rfl, ⟨rfl, ⟨rfl, ⟨rfl, ⟨rfl, ⟨rfl, ⟨rfl, trivial⟩⟩⟩⟩⟩⟩⟩⟩⟩ | simp [lsub]) H
set_option maxHeartbeats 4000000 in
set_option maxRecDepth 100000 in
theorem vX2_fillWithin_29 {l : Launch} {d : Nat} {G : GS} {h : HP} {Q : Int → GS → HP → Prop} (a0 a2 a3 a4 a5 a6 a7 a8 a9 : Int) (H : (inR a9) ∧ (inR a7) ∧ ((a7 ≤ a9 → Q 0 G h) ∧ (a9 < a7 → S l MX2_fillWithin (d + 1, 0, 0, 0, 0) 39 [some (vR a0), none, some (vI a2), some (vI a3), some (vR a4), some (vR a5), some (vI a6), some (vI a7), some (vI a8), some (vI a9), some (vI 0), none] [] G h Q))) : S l MX2_fillWithin (d + 1, 0, 0, 0, 0) 29 [some (vR a0), none, some (vI a2), some (vI a3), some (vR a4), some (vR a5), some (vI a6), some (vI a7), some (vI a8), some (vI a9), none, none] [] G h Q := by
  refine s_iload dX2_fillWithin_29 rfl ?_
  refine s_iload dX2_fillWithin_31 rfl ?_
  have f1 := H.1
  replace H := H.2
  have f2 := H.1
  replace H := H.2
  refine s_icmp_ge (tgt := 106) dX2_fillWithin_33 (by decide) f1 f2 (fun c3 => ?_) (fun c3 => ?_)
  · replace H := H.1 c3
    exact s_vret dX2_fillWithin_106 rfl ⟨Nat.le_refl _, Nat.le_refl _⟩ H
  · replace H := H.2 c3
    refine s_iconst dX2_fillWithin_36 ?_
    refine s_istore dX2_fillWithin_37 (by decide) rfl ?_
    show S l MX2_fillWithin (d + 1, 0, 0, 0, 0) 39 [some (vR a0), none, some (vI a2), some (vI a3), some (vR a4), some (vR a5), some (vI a6), some (vI a7), some (vI a8), some (vI a9), some (vI 0), none] [] G h Q
    exact S_cut (by first | exact ⟨rfl, ⟨rfl, ⟨rfl, ⟨rfl, ⟨rfl, ⟨rfl, ⟨rfl, ⟨rfl, ⟨rfl, ⟨rfl, trivial⟩⟩⟩⟩⟩⟩⟩⟩⟩⟩ | simp [lsub]) H
set_option maxHeartbeats 4000000 in
set_option maxRecDepth 100000 in
theorem vX2_fillWithin_39 {l : Launch} {d : Nat} {G : GS} {h : HP} {Q : Int → GS → HP → Prop} (a0 a2 a3 a4 a5 a6 a7 a8 a9 a10 : Int) (H : (inR a10) ∧ (inR a8) ∧ ((a8 ≤ a10 → S l MX2_fillWithin (d + 1, 0, 0, 0, 0) 29 [some (vR a0), none, some (vI a2), some (vI a3), some (vR a4), some (vR a5), some (vI a6), some (vI a7), some (vI a8), some (vI (a9 + 1)), none, none] [] G h Q) ∧ (a10 < a8 → (ty G a0 = 2) ∧ (0 ≤ a4) ∧ (ty G a4 = 4) ∧ R l MX4_fiberAt d 0 0 [vR a4, vI a9, vI a10] G h (fun r6 G7 h8 => (0 ≤ a4) ∧ (ty G7 a4 = 4) ∧ (inA G7 10 (h8 a4 1) 2) ∧ (ty G7 (h a0 0) = 1) ∧ R l MX1_product d 0 0 [vR (h a0 0), vI a6, vI r6, vI (h8 (h8 a4 1) 2)] G7 h8 (fun r13 G14 h15 => (0 ≤ a5) ∧ (ty G14 a5 = 4) ∧ R l MX4_setFiber d 0 0 [vR a5, vI ((a2 * a7) + a9), vI ((a3 * a8) + a10), vI r13] G14 h15 (fun r18 G19 h20 => S l MX2_fillWithin (d + 1, 0, 0, 0, 0) 39 [some (vR a0), none, some (vI a2), some (vI a3), some (vR a4), some (vR a5), some (vI a6), some (vI a7), some (vI a8), some (vI a9), some (vI (a10 + 1)), none] [] G19 h20 Q)))))) : S l MX2_fillWithin (d + 1, 0, 0, 0, 0) 39 [some (vR a0), none, some (vI a2), some (vI a3), some (vR a4), some (vR a5), some (vI a6), some (vI a7), some (vI a8), some (vI a9), some (vI a10), none] [] G h Q := by
  refine s_iload dX2_fillWithin_39 rfl ?_
  refine s_iload dX2_fillWithin_41 rfl ?_
  have f1 := H.1
  replace H := H.2
  have f2 := H.1
  replace H := H.2
  refine s_icmp_ge (tgt := 100) dX2_fillWithin_43 (by decide) f1 f2 (fun c3 => ?_) (fun c3 => ?_)
  · replace H := H.1 c3
    refine s_iinc dX2_fillWithin_100 rfl (by decide) rfl ?_
    show S l MX2_fillWithin (d + 1, 0, 0, 0, 0) 103 [some (vR a0), none, some (vI a2), some (vI a3), some (vR a4), some (vR a5), some (vI a6), some (vI a7), some (vI a8), some (vI (a9 + 1)), some (vI a10), none] [] G h Q
    refine s_goto (tgt := 29) dX2_fillWithin_103 (by decide) ?_
    exact S_cut (by first | exact ⟨rfl, ⟨rfl, ⟨rfl, ⟨rfl, ⟨rfl, ⟨rfl, ⟨rfl, ⟨rfl, ⟨rfl, trivial⟩⟩⟩⟩⟩⟩⟩⟩⟩ | simp [lsub]) H
  · replace H := H.2 c3
    refine s_aload_n dX2_fillWithin_46 rfl rfl ?_
    have f4 := H.1
    replace H := H.2
    refine s_getf (c := 2) (k := 0) (t := 2) (j := 0) dX2_fillWithin_47 fl_X2_9 (by decide) (by decide) rfl rfl f4 ?_
    refine s_iload dX2_fillWithin_50 rfl ?_
    have f5 := H.1
    replace H := H.2
    refine s_aload f5 dX2_fillWithin_52 rfl ?_
    refine s_iload dX2_fillWithin_54 rfl ?_
    refine s_iload dX2_fillWithin_56 rfl ?_
    have f9 := H.1
    replace H := H.2
    refine s_callV (M' := MX4_fiberAt) (As := [vI a9, vI a10]) (a := a4) (st := [vI a6, vR (h a0 0)]) dX2_fillWithin_58 ml_X2_43 cv_X4_fiberAt rfl rfl (Nat.le_of_ble_eq_true rfl) ⟨Nat.le_refl _, Nat.le_refl _⟩ f9 (R_mono (fun r6 G7 h8 H => ?_) H)
    show S l MX2_fillWithin (d + 1, 0, 0, 0, 0) 61 [some (vR a0), none, some (vI a2), some (vI a3), some (vR a4), some (vR a5), some (vI a6), some (vI a7), some (vI a8), some (vI a9), some (vI a10), none] [vI r6, vI a6, vR (h a0 0)] G7 h8 Q
    have f10 := H.1
    replace H := H.2
    refine s_aload f10 dX2_fillWithin_61 rfl ?_
    have f11 := H.1
    replace H := H.2
    refine s_getf (c := 4) (k := 1) (t := 2) (j := 1) dX2_fillWithin_63 fl_X2_15 (by decide) (by decide) rfl rfl f11 ?_
    refine s_iconst dX2_fillWithin_66 ?_
    have f12 := H.1
    replace H := H.2
    refine s_iald dX2_fillWithin_67 f12 ?_
    have f16 := H.1
    replace H := H.2
    refine s_callV (M' := MX1_product) (As := [vI a6, vI r6, vI (h8 (h8 a4 1) 2)]) (a := h a0 0) (st := []) dX2_fillWithin_68 ml_X2_59 cv_X1_product rfl rfl (Nat.le_of_ble_eq_true rfl) ⟨Nat.le_refl _, Nat.le_refl _⟩ f16 (R_mono (fun r13 G14 h15 H => ?_) H)
    show S l MX2_fillWithin (d + 1, 0, 0, 0, 0) 71 [some (vR a0), none, some (vI a2), some (vI a3), some (vR a4), some (vR a5), some (vI a6), some (vI a7), some (vI a8), some (vI a9), some (vI a10), none] [vI r13] G14 h15 Q
    refine s_istore dX2_fillWithin_71 (by decide) rfl ?_
    show S l MX2_fillWithin (d + 1, 0, 0, 0, 0) 73 [some (vR a0), none, some (vI a2), some (vI a3), some (vR a4), some (vR a5), some (vI a6), some (vI a7), some (vI a8), some (vI a9), some (vI a10), some (vI r13)] [] G14 h15 Q
    have f17 := H.1
    replace H := H.2
    refine s_aload f17 dX2_fillWithin_73 rfl ?_
    refine s_iload_n dX2_fillWithin_75 rfl rfl ?_
    refine s_iload dX2_fillWithin_76 rfl ?_
    refine s_imul dX2_fillWithin_78 ?_
    refine s_iload dX2_fillWithin_79 rfl ?_
    refine s_iadd dX2_fillWithin_81 ?_
    refine s_iload_n dX2_fillWithin_82 rfl rfl ?_
    refine s_iload dX2_fillWithin_83 rfl ?_
    refine s_imul dX2_fillWithin_85 ?_
    refine s_iload dX2_fillWithin_86 rfl ?_
    refine s_iadd dX2_fillWithin_88 ?_
    refine s_iload dX2_fillWithin_89 rfl ?_
    have f21 := H.1
    replace H := H.2
    refine s_callV (M' := MX4_setFiber) (As := [vI ((a2 * a7) + a9), vI ((a3 * a8) + a10), vI r13]) (a := a5) (st := []) dX2_fillWithin_91 ml_X2_29 cv_X4_setFiber rfl rfl (Nat.le_of_ble_eq_true rfl) ⟨Nat.le_refl _, Nat.le_refl _⟩ f21 (R_mono (fun r18 G19 h20 H => ?_) H)
    show S l MX2_fillWithin (d + 1, 0, 0, 0, 0) 94 [some (vR a0), none, some (vI a2), some (vI a3), some (vR a4), some (vR a5), some (vI a6), some (vI a7), some (vI a8), some (vI a9), some (vI a10), some (vI r13)] [] G19 h20 Q
    refine s_iinc dX2_fillWithin_94 rfl (by decide) rfl ?_
    show S l MX2_fillWithin (d + 1, 0, 0, 0, 0) 97 [some (vR a0), none, some (vI a2), some (vI a3), some (vR a4), some (vR a5), some (vI a6), some (vI a7), some (vI a8), some (vI a9), some (vI (a10 + 1)), some (vI r13)] [] G19 h20 Q
    refine s_goto (tgt := 39) dX2_fillWithin_97 (by decide) ?_
    exact S_cut (by first | exact ⟨rfl, ⟨rfl, ⟨rfl, ⟨rfl, ⟨rfl, ⟨rfl, ⟨rfl, ⟨rfl, ⟨rfl, ⟨rfl, trivial⟩⟩⟩⟩⟩⟩⟩⟩⟩⟩ | simp [lsub]) H
set_option maxHeartbeats 4000000 in
set_option maxRecDepth 100000 in
theorem vX2_rowWithin_0 {l : Launch} {d : Nat} {G : GS} {h : HP} {Q : Int → GS → HP → Prop} (a0 a1 a2 a3 a4 a5 : Int) (H : (ty G a0 = 2) ∧ (ty G a1 = 4) ∧ R l MX4_rowOf d 0 0 [vR a1, vI a5, vI a2] G h (fun r2 G3 h4 => (ty G3 a3 = 4) ∧ R l MX4_rowOf d 0 0 [vR a3, vI a5, vI a4] G3 h4 (fun r6 G7 h8 => (ty G7 a3 = 4) ∧ (inA G7 10 (h8 a3 1) a5) ∧ (ty G7 (h a0 0) = 1) ∧ R l MX1_product d 0 0 [vR (h a0 0), vI r2, vI r6, vI (h8 (h8 a3 1) a5)] G7 h8 (fun r12 G13 h14 => Q r12 G13 h14)))) : S l MX2_rowWithin (d + 1, 0, 0, 0, 0) 0 [some (vR a0), some (vR a1), some (vI a2), some (vR a3), some (vI a4), some (vI a5)] [] G h Q := by
  refine s_aload_n dX2_rowWithin_0 rfl rfl ?_
  have f1 := H.1
  replace H := H.2
  refine s_getf (c := 2) (k := 0) (t := 2) (j := 0) dX2_rowWithin_1 fl_X2_9 (by decide) (by decide) rfl rfl f1 ?_
  refine s_aload_n dX2_rowWithin_4 rfl rfl ?_
  refine s_iload dX2_rowWithin_5 rfl ?_
  refine s_iload_n dX2_rowWithin_7 rfl rfl ?_
  have f5 := H.1
  replace H := H.2
  refine s_callV (M' := MX4_rowOf) (As := [vI a5, vI a2]) (a := a1) (st := [vR (h a0 0)]) dX2_rowWithin_8 ml_X2_36 cv_X4_rowOf rfl rfl (Nat.le_of_ble_eq_true rfl) ⟨Nat.le_refl _, Nat.le_refl _⟩ f5 (R_mono (fun r2 G3 h4 H => ?_) H)
  show S l MX2_rowWithin (d + 1, 0, 0, 0, 0) 11 [some (vR a0), some (vR a1), some (vI a2), some (vR a3), some (vI a4), some (vI a5)] [vI r2, vR (h a0 0)] G3 h4 Q
  refine s_aload_n dX2_rowWithin_11 rfl rfl ?_
  refine s_iload dX2_rowWithin_12 rfl ?_
  refine s_iload dX2_rowWithin_14 rfl ?_
  have f9 := H.1
  replace H := H.2
  refine s_callV (M' := MX4_rowOf) (As := [vI a5, vI a4]) (a := a3) (st := [vI r2, vR (h a0 0)]) dX2_rowWithin_16 ml_X2_36 cv_X4_rowOf rfl rfl (Nat.le_of_ble_eq_true rfl) ⟨Nat.le_refl _, Nat.le_refl _⟩ f9 (R_mono (fun r6 G7 h8 H => ?_) H)
  show S l MX2_rowWithin (d + 1, 0, 0, 0, 0) 19 [some (vR a0), some (vR a1), some (vI a2), some (vR a3), some (vI a4), some (vI a5)] [vI r6, vI r2, vR (h a0 0)] G7 h8 Q
  refine s_aload_n dX2_rowWithin_19 rfl rfl ?_
  have f10 := H.1
  replace H := H.2
  refine s_getf (c := 4) (k := 1) (t := 2) (j := 1) dX2_rowWithin_20 fl_X2_15 (by decide) (by decide) rfl rfl f10 ?_
  refine s_iload dX2_rowWithin_23 rfl ?_
  have f11 := H.1
  replace H := H.2
  refine s_iald dX2_rowWithin_25 f11 ?_
  have f15 := H.1
  replace H := H.2
  refine s_callV (M' := MX1_product) (As := [vI r2, vI r6, vI (h8 (h8 a3 1) a5)]) (a := h a0 0) (st := []) dX2_rowWithin_26 ml_X2_59 cv_X1_product rfl rfl (Nat.le_of_ble_eq_true rfl) ⟨Nat.le_refl _, Nat.le_refl _⟩ f15 (R_mono (fun r12 G13 h14 H => ?_) H)
  show S l MX2_rowWithin (d + 1, 0, 0, 0, 0) 29 [some (vR a0), some (vR a1), some (vI a2), some (vR a3), some (vI a4), some (vI a5)] [vI r12] G13 h14 Q
  exact s_iret dX2_rowWithin_29 rfl ⟨Nat.le_refl _, Nat.le_refl _⟩ H
