set_option maxHeartbeats 4000000 in
set_option maxRecDepth 100000 in
theorem vX9_dropNought_0 {l : Launch} {d : Nat} {G : GS} {h : HP} {Q : Int → GS → HP → Prop} (a0 : Int) (H : S l MX9_dropNought (d + 1, 0, 0, 0, 0) 2 [some (vR a0), some (vI 0)] [] G h Q) : S l MX9_dropNought (d + 1, 0, 0, 0, 0) 0 [some (vR a0), none] [] G h Q := by
  refine s_iconst dX9_dropNought_0 ?_
  refine s_istore_n dX9_dropNought_1 rfl (by decide) rfl ?_
  show S l MX9_dropNought (d + 1, 0, 0, 0, 0) 2 [some (vR a0), some (vI 0)] [] G h Q
  exact S_cut (by first | exact ⟨rfl, ⟨rfl, trivial⟩⟩ | simp [lsub]) H
set_option maxHeartbeats 4000000 in
set_option maxRecDepth 100000 in
theorem vX9_dropNought_2 {l : Launch} {d : Nat} {G : GS} {h : HP} {Q : Int → GS → HP → Prop} (a0 a1 : Int) (H : (ty G a0 = 9) ∧ (inR a1) ∧ (inR (h a0 4)) ∧ (((h a0 4) ≤ a1 → Q 0 G h) ∧ (a1 < (h a0 4) → R l MX9_isNought d 0 0 [vR a0, vI a1, vI 0] G h (fun r5 G6 h7 => (inR r5) ∧ ((r5 ≠ 0 → (ty G6 a0 = 9) ∧ R l MX9_remove d 0 0 [vR a0, vI a1] G6 h7 (fun r10 G11 h12 => Q 1 G11 h12)) ∧ (r5 = 0 → (ty G6 a0 = 9) ∧ R l MX9_isNought d 0 0 [vR a0, vI a1, vI 1] G6 h7 (fun r14 G15 h16 => (inR r14) ∧ ((r14 ≠ 0 → (ty G15 a0 = 9) ∧ R l MX9_remove d 0 0 [vR a0, vI a1] G15 h16 (fun r20 G21 h22 => Q 1 G21 h22)) ∧ (r14 = 0 → (ty G15 a0 = 9) ∧ R l MX9_isNought d 0 0 [vR a0, vI a1, vI 2] G15 h16 (fun r24 G25 h26 => (inR r24) ∧ ((r24 = 0 → S l MX9_dropNought (d + 1, 0, 0, 0, 0) 2 [some (vR a0), some (vI (a1 + 1))] [] G25 h26 Q) ∧ (r24 ≠ 0 → (ty G25 a0 = 9) ∧ R l MX9_remove d 0 0 [vR a0, vI a1] G25 h26 (fun r30 G31 h32 => Q 1 G31 h32))))))))))))) : S l MX9_dropNought (d + 1, 0, 0, 0, 0) 2 [some (vR a0), some (vI a1)] [] G h Q := by
  refine s_iload_n dX9_dropNought_2 rfl rfl ?_
  refine s_aload_n dX9_dropNought_3 rfl rfl ?_
  have f1 := H.1
  replace H := H.2
  refine s_getf (c := 9) (k := 4) (t := 0) (j := 4) dX9_dropNought_4 fl_X9_85 (by decide) (by decide) rfl rfl f1 ?_
  have f2 := H.1
  replace H := H.2
  have f3 := H.1
  replace H := H.2
  refine s_icmp_ge (tgt := 50) dX9_dropNought_7 (by decide) f2 f3 (fun c4 => ?_) (fun c4 => ?_)
  · replace H := H.1 c4
    refine s_iconst dX9_dropNought_50 ?_
    exact s_zret dX9_dropNought_51 rfl ⟨Nat.le_refl _, Nat.le_refl _⟩ (by decide) H
  · replace H := H.2 c4
    refine s_aload_n dX9_dropNought_10 rfl rfl ?_
    refine s_iload_n dX9_dropNought_11 rfl rfl ?_
    refine s_iconst dX9_dropNought_12 ?_
    refine s_callV (M' := MX9_isNought) (As := [vI a1, vI 0]) (a := a0) (st := []) dX9_dropNought_13 ml_X9_150 cv_X9_isNought rfl rfl (Nat.le_of_ble_eq_true rfl) ⟨Nat.le_refl _, Nat.le_refl _⟩ f1 (R_mono (fun r5 G6 h7 H => ?_) H)
    show S l MX9_dropNought (d + 1, 0, 0, 0, 0) 16 [some (vR a0), some (vI a1)] [vI r5] G6 h7 Q
    have f8 := H.1
    replace H := H.2
    refine s_if_ne (tgt := 37) dX9_dropNought_16 (by decide) f8 (fun c9 => ?_) (fun c9 => ?_)
    · replace H := H.1 c9
      refine s_aload_n dX9_dropNought_37 rfl rfl ?_
      refine s_iload_n dX9_dropNought_38 rfl rfl ?_
      have f13 := H.1
      replace H := H.2
      refine s_callV (M' := MX9_remove) (As := [vI a1]) (a := a0) (st := []) dX9_dropNought_39 ml_X9_136 cv_X9_remove rfl rfl (Nat.le_of_ble_eq_true rfl) ⟨Nat.le_refl _, Nat.le_refl _⟩ f13 (R_mono (fun r10 G11 h12 H => ?_) H)
      show S l MX9_dropNought (d + 1, 0, 0, 0, 0) 42 [some (vR a0), some (vI a1)] [] G11 h12 Q
      refine s_iconst dX9_dropNought_42 ?_
      exact s_zret dX9_dropNought_43 rfl ⟨Nat.le_refl _, Nat.le_refl _⟩ (by decide) H
    · replace H := H.2 c9
      refine s_aload_n dX9_dropNought_19 rfl rfl ?_
      refine s_iload_n dX9_dropNought_20 rfl rfl ?_
      refine s_iconst dX9_dropNought_21 ?_
      have f17 := H.1
      replace H := H.2
      refine s_callV (M' := MX9_isNought) (As := [vI a1, vI 1]) (a := a0) (st := []) dX9_dropNought_22 ml_X9_150 cv_X9_isNought rfl rfl (Nat.le_of_ble_eq_true rfl) ⟨Nat.le_refl _, Nat.le_refl _⟩ f17 (R_mono (fun r14 G15 h16 H => ?_) H)
      show S l MX9_dropNought (d + 1, 0, 0, 0, 0) 25 [some (vR a0), some (vI a1)] [vI r14] G15 h16 Q
      have f18 := H.1
      replace H := H.2
      refine s_if_ne (tgt := 37) dX9_dropNought_25 (by decide) f18 (fun c19 => ?_) (fun c19 => ?_)
      · replace H := H.1 c19
        refine s_aload_n dX9_dropNought_37 rfl rfl ?_
        refine s_iload_n dX9_dropNought_38 rfl rfl ?_
        have f23 := H.1
        replace H := H.2
        refine s_callV (M' := MX9_remove) (As := [vI a1]) (a := a0) (st := []) dX9_dropNought_39 ml_X9_136 cv_X9_remove rfl rfl (Nat.le_of_ble_eq_true rfl) ⟨Nat.le_refl _, Nat.le_refl _⟩ f23 (R_mono (fun r20 G21 h22 H => ?_) H)
        show S l MX9_dropNought (d + 1, 0, 0, 0, 0) 42 [some (vR a0), some (vI a1)] [] G21 h22 Q
        refine s_iconst dX9_dropNought_42 ?_
        exact s_zret dX9_dropNought_43 rfl ⟨Nat.le_refl _, Nat.le_refl _⟩ (by decide) H
      · replace H := H.2 c19
        refine s_aload_n dX9_dropNought_28 rfl rfl ?_
        refine s_iload_n dX9_dropNought_29 rfl rfl ?_
        refine s_iconst dX9_dropNought_30 ?_
        have f27 := H.1
        replace H := H.2
        refine s_callV (M' := MX9_isNought) (As := [vI a1, vI 2]) (a := a0) (st := []) dX9_dropNought_31 ml_X9_150 cv_X9_isNought rfl rfl (Nat.le_of_ble_eq_true rfl) ⟨Nat.le_refl _, Nat.le_refl _⟩ f27 (R_mono (fun r24 G25 h26 H => ?_) H)
        show S l MX9_dropNought (d + 1, 0, 0, 0, 0) 34 [some (vR a0), some (vI a1)] [vI r24] G25 h26 Q
        have f28 := H.1
        replace H := H.2
        refine s_if_eq (tgt := 44) dX9_dropNought_34 (by decide) f28 (fun c29 => ?_) (fun c29 => ?_)
        · replace H := H.1 c29
          refine s_iinc dX9_dropNought_44 rfl (by decide) rfl ?_
          show S l MX9_dropNought (d + 1, 0, 0, 0, 0) 47 [some (vR a0), some (vI (a1 + 1))] [] G25 h26 Q
          refine s_goto (tgt := 2) dX9_dropNought_47 (by decide) ?_
          exact S_cut (by first | exact ⟨rfl, ⟨rfl, trivial⟩⟩ | simp [lsub]) H
        · replace H := H.2 c29
          refine s_aload_n dX9_dropNought_37 rfl rfl ?_
          refine s_iload_n dX9_dropNought_38 rfl rfl ?_
          have f33 := H.1
          replace H := H.2
          refine s_callV (M' := MX9_remove) (As := [vI a1]) (a := a0) (st := []) dX9_dropNought_39 ml_X9_136 cv_X9_remove rfl rfl (Nat.le_of_ble_eq_true rfl) ⟨Nat.le_refl _, Nat.le_refl _⟩ f33 (R_mono (fun r30 G31 h32 H => ?_) H)
          show S l MX9_dropNought (d + 1, 0, 0, 0, 0) 42 [some (vR a0), some (vI a1)] [] G31 h32 Q
          refine s_iconst dX9_dropNought_42 ?_
          exact s_zret dX9_dropNought_43 rfl ⟨Nat.le_refl _, Nat.le_refl _⟩ (by decide) H
set_option maxHeartbeats 4000000 in
set_option maxRecDepth 100000 in
theorem vX9_isNought_0 {l : Launch} {d : Nat} {G : GS} {h : HP} {Q : Int → GS → HP → Prop} (a0 a1 a2 : Int) (H : S l MX9_isNought (d, 0, 0, 0, 0) 5 [some (vR a0), some (vI a1), some (vI a2), some (vI 1), some (vI 0)] [] G h Q) : S l MX9_isNought (d, 0, 0, 0, 0) 0 [some (vR a0), some (vI a1), some (vI a2), none, none] [] G h Q := by
  refine s_iconst dX9_isNought_0 ?_
  refine s_istore_n dX9_isNought_1 rfl (by decide) rfl ?_
  show S l MX9_isNought (d, 0, 0, 0, 0) 2 [some (vR a0), some (vI a1), some (vI a2), some (vI 1), none] [] G h Q
  refine s_iconst dX9_isNought_2 ?_
  refine s_istore dX9_isNought_3 (by decide) rfl ?_
  show S l MX9_isNought (d, 0, 0, 0, 0) 5 [some (vR a0), some (vI a1), some (vI a2), some (vI 1), some (vI 0)] [] G h Q
  exact S_cut (by first | exact ⟨rfl, ⟨rfl, ⟨rfl, ⟨rfl, ⟨rfl, trivial⟩⟩⟩⟩⟩ | simp [lsub]) H
set_option maxHeartbeats 4000000 in
set_option maxRecDepth 100000 in
theorem vX9_isNought_5 {l : Launch} {d : Nat} {G : GS} {h : HP} {Q : Int → GS → HP → Prop} (a0 a1 a2 a3 a4 : Int) (H : (inR a4) ∧ ((9 ≤ a4 → (a3 = 0 ∨ a3 = 1) ∧ Q a3 G h) ∧ (a4 < 9 → (inR a3) ∧ ((a3 = 0 → S l MX9_isNought (d, 0, 0, 0, 0) 5 [some (vR a0), some (vI a1), some (vI a2), some (vI 0), some (vI (a4 + 1))] [] G h Q) ∧ (a3 ≠ 0 → (ty G a0 = 9) ∧ (inA G 10 (h a0 3) (((27 * a1) + (9 * a2)) + a4)) ∧ (inR (h (h a0 3) (((27 * a1) + (9 * a2)) + a4))) ∧ (((h (h a0 3) (((27 * a1) + (9 * a2)) + a4)) ≠ 0 → S l MX9_isNought (d, 0, 0, 0, 0) 5 [some (vR a0), some (vI a1), some (vI a2), some (vI 0), some (vI (a4 + 1))] [] G h Q) ∧ ((h (h a0 3) (((27 * a1) + (9 * a2)) + a4)) = 0 → S l MX9_isNought (d, 0, 0, 0, 0) 5 [some (vR a0), some (vI a1), some (vI a2), some (vI 1), some (vI (a4 + 1))] [] G h Q))))))) : S l MX9_isNought (d, 0, 0, 0, 0) 5 [some (vR a0), some (vI a1), some (vI a2), some (vI a3), some (vI a4)] [] G h Q := by
  refine s_iload dX9_isNought_5 rfl ?_
  refine s_bipush dX9_isNought_7 (by decide) ?_
  have f1 := H.1
  replace H := H.2
  refine s_icmp_ge (tgt := 48) dX9_isNought_9 (by decide) f1 (by decide) (fun c2 => ?_) (fun c2 => ?_)
  · replace H := H.1 c2
    refine s_iload_n dX9_isNought_48 rfl rfl ?_
    have f3 := H.1
    replace H := H.2
    exact s_zret dX9_isNought_49 rfl ⟨Nat.le_refl _, Nat.le_refl _⟩ f3 H
  · replace H := H.2 c2
    refine s_iload_n dX9_isNought_12 rfl rfl ?_
    have f4 := H.1
    replace H := H.2
    refine s_if_eq (tgt := 40) dX9_isNought_13 (by decide) f4 (fun c5 => ?_) (fun c5 => ?_)
    · replace H := H.1 c5
      refine s_iconst dX9_isNought_40 ?_
      refine s_istore_n dX9_isNought_41 rfl (by decide) rfl ?_
      show S l MX9_isNought (d, 0, 0, 0, 0) 42 [some (vR a0), some (vI a1), some (vI a2), some (vI 0), some (vI a4)] [] G h Q
      refine s_iinc dX9_isNought_42 rfl (by decide) rfl ?_
      show S l MX9_isNought (d, 0, 0, 0, 0) 45 [some (vR a0), some (vI a1), some (vI a2), some (vI 0), some (vI (a4 + 1))] [] G h Q
      refine s_goto (tgt := 5) dX9_isNought_45 (by decide) ?_
      exact S_cut (by first | exact ⟨rfl, ⟨rfl, ⟨rfl, ⟨rfl, ⟨rfl, trivial⟩⟩⟩⟩⟩ | simp [lsub]) H
    · replace H := H.2 c5
      refine s_aload_n dX9_isNought_16 rfl rfl ?_
      have f6 := H.1
      replace H := H.2
      refine s_getf (c := 9) (k := 3) (t := 2) (j := 3) dX9_isNought_17 fl_X9_20 (by decide) (by decide) rfl rfl f6 ?_
      refine s_bipush dX9_isNought_20 (by decide) ?_
      refine s_iload_n dX9_isNought_22 rfl rfl ?_
      refine s_imul dX9_isNought_23 ?_
      refine s_bipush dX9_isNought_24 (by decide) ?_
      refine s_iload_n dX9_isNought_26 rfl rfl ?_
      refine s_imul dX9_isNought_27 ?_
      refine s_iadd dX9_isNought_28 ?_
      refine s_iload dX9_isNought_29 rfl ?_
      refine s_iadd dX9_isNought_31 ?_
      have f7 := H.1
      replace H := H.2
      refine s_iald dX9_isNought_32 f7 ?_
      have f8 := H.1
      replace H := H.2
      refine s_if_ne (tgt := 40) dX9_isNought_33 (by decide) f8 (fun c9 => ?_) (fun c9 => ?_)
      · replace H := H.1 c9
        refine s_iconst dX9_isNought_40 ?_
        refine s_istore_n dX9_isNought_41 rfl (by decide) rfl ?_
        show S l MX9_isNought (d, 0, 0, 0, 0) 42 [some (vR a0), some (vI a1), some (vI a2), some (vI 0), some (vI a4)] [] G h Q
        refine s_iinc dX9_isNought_42 rfl (by decide) rfl ?_
        show S l MX9_isNought (d, 0, 0, 0, 0) 45 [some (vR a0), some (vI a1), some (vI a2), some (vI 0), some (vI (a4 + 1))] [] G h Q
        refine s_goto (tgt := 5) dX9_isNought_45 (by decide) ?_
        exact S_cut (by first | exact ⟨rfl, ⟨rfl, ⟨rfl, ⟨rfl, ⟨rfl, trivial⟩⟩⟩⟩⟩ | simp [lsub]) H
      · replace H := H.2 c9
        refine s_iconst dX9_isNought_36 ?_
        refine s_goto (tgt := 41) dX9_isNought_37 (by decide) ?_
        refine s_istore_n dX9_isNought_41 rfl (by decide) rfl ?_
        show S l MX9_isNought (d, 0, 0, 0, 0) 42 [some (vR a0), some (vI a1), some (vI a2), some (vI 1), some (vI a4)] [] G h Q
        refine s_iinc dX9_isNought_42 rfl (by decide) rfl ?_
        show S l MX9_isNought (d, 0, 0, 0, 0) 45 [some (vR a0), some (vI a1), some (vI a2), some (vI 1), some (vI (a4 + 1))] [] G h Q
        refine s_goto (tgt := 5) dX9_isNought_45 (by decide) ?_
        exact S_cut (by first | exact ⟨rfl, ⟨rfl, ⟨rfl, ⟨rfl, ⟨rfl, trivial⟩⟩⟩⟩⟩ | simp [lsub]) H
set_option maxHeartbeats 4000000 in
set_option maxRecDepth 100000 in
theorem vX9_bringTogether_0 {l : Launch} {d : Nat} {G : GS} {h : HP} {Q : Int → GS → HP → Prop} (a0 a1 a2 : Int) (H : (ty G a0 = 9) ∧ (0 ≤ (h a0 11)) ∧ S l MX9_bringTogether (d + 1, 0, 0, 0, 0) 8 [some (vR a0), some (vI a1), some (vI a2), some (vR (h a0 11)), some (vI 0), none] [] G h Q) : S l MX9_bringTogether (d + 1, 0, 0, 0, 0) 0 [some (vR a0), some (vI a1), some (vI a2), none, none, none] [] G h Q := by
  refine s_aload_n dX9_bringTogether_0 rfl rfl ?_
  have f1 := H.1
  replace H := H.2
  refine s_getf (c := 9) (k := 11) (t := 2) (j := 11) dX9_bringTogether_1 fl_X9_42 (by decide) (by decide) rfl rfl f1 ?_
  have f2 := H.1
  replace H := H.2
  refine s_astore_n f2 dX9_bringTogether_4 rfl (by decide) rfl ?_
  show S l MX9_bringTogether (d + 1, 0, 0, 0, 0) 5 [some (vR a0), some (vI a1), some (vI a2), some (vR (h a0 11)), none, none] [] G h Q
  refine s_iconst dX9_bringTogether_5 ?_
  refine s_istore dX9_bringTogether_6 (by decide) rfl ?_
  show S l MX9_bringTogether (d + 1, 0, 0, 0, 0) 8 [some (vR a0), some (vI a1), some (vI a2), some (vR (h a0 11)), some (vI 0), none] [] G h Q
  exact S_cut (by first | exact ⟨rfl, ⟨rfl, ⟨rfl, ⟨rfl, ⟨rfl, trivial⟩⟩⟩⟩⟩ | simp [lsub]) H
set_option maxHeartbeats 4000000 in
set_option maxRecDepth 100000 in
theorem vX9_bringTogether_8 {l : Launch} {d : Nat} {G : GS} {h : HP} {Q : Int → GS → HP → Prop} (a0 a1 a2 a3 a4 : Int) (H : (inR a4) ∧ ((3 ≤ a4 → (inA G 10 a3 0) ∧ (inR (h a3 0)) ∧ (((h a3 0) ≤ 0 → (((h a3 0) ≤ 0 → (inA G 10 a3 1) ∧ (inR (h a3 1)) ∧ (((h a3 1) ≤ 0 → Q 0 G h) ∧ (0 < (h a3 1) → (inA G 10 a3 2) ∧ (inR (h a3 2)) ∧ (((h a3 2) ≤ 0 → Q 0 G h) ∧ (0 < (h a3 2) → (dvR (0 + 1) 3) ∧ (inA G 10 a3 ((0 + 1) % 3)) ∧ (dvR (0 + 2) 3) ∧ (inA G 10 a3 ((0 + 2) % 3)) ∧ (ty G a0 = 9) ∧ (dvR ((h a3 ((0 + 1) % 3)) * (h a3 ((0 + 2) % 3))) (h a0 0)) ∧ R l MX9_addRow d 0 0 [vR a0, vI a1, vI 0, vI a2, vI 0, vI (((h a3 ((0 + 1) % 3)) * (h a3 ((0 + 2) % 3))) % (h a0 0))] G h (fun r22 G23 h24 => (ty G23 a0 = 9) ∧ R l MX9_remove d 0 0 [vR a0, vI a2] G23 h24 (fun r25 G26 h27 => Q 1 G26 h27))))))) ∧ (0 < (h a3 0) → (inA G 10 a3 2) ∧ (inR (h a3 2)) ∧ (((h a3 2) ≤ 0 → (inA G 10 a3 1) ∧ (inR (h a3 1)) ∧ (((h a3 1) ≤ 0 → Q 0 G h) ∧ (0 < (h a3 1) → (((h a3 2) ≤ 0 → Q 0 G h) ∧ (0 < (h a3 2) → (dvR (0 + 1) 3) ∧ (inA G 10 a3 ((0 + 1) % 3)) ∧ (dvR (0 + 2) 3) ∧ (inA G 10 a3 ((0 + 2) % 3)) ∧ (ty G a0 = 9) ∧ (dvR ((h a3 ((0 + 1) % 3)) * (h a3 ((0 + 2) % 3))) (h a0 0)) ∧ R l MX9_addRow d 0 0 [vR a0, vI a1, vI 0, vI a2, vI 0, vI (((h a3 ((0 + 1) % 3)) * (h a3 ((0 + 2) % 3))) % (h a0 0))] G h (fun r45 G46 h47 => (ty G46 a0 = 9) ∧ R l MX9_remove d 0 0 [vR a0, vI a2] G46 h47 (fun r48 G49 h50 => Q 1 G49 h50))))))) ∧ (0 < (h a3 2) → (dvR (1 + 1) 3) ∧ (inA G 10 a3 ((1 + 1) % 3)) ∧ (dvR (1 + 2) 3) ∧ (inA G 10 a3 ((1 + 2) % 3)) ∧ (ty G a0 = 9) ∧ (dvR ((h a3 ((1 + 1) % 3)) * (h a3 ((1 + 2) % 3))) (h a0 0)) ∧ R l MX9_addRow d 0 0 [vR a0, vI a1, vI 1, vI a2, vI 1, vI (((h a3 ((1 + 1) % 3)) * (h a3 ((1 + 2) % 3))) % (h a0 0))] G h (fun r59 G60 h61 => (ty G60 a0 = 9) ∧ R l MX9_remove d 0 0 [vR a0, vI a2] G60 h61 (fun r62 G63 h64 => Q 1 G63 h64))))))) ∧ (0 < (h a3 0) → (inA G 10 a3 1) ∧ (inR (h a3 1)) ∧ (((h a3 1) ≤ 0 → (((h a3 0) ≤ 0 → (((h a3 1) ≤ 0 → Q 0 G h) ∧ (0 < (h a3 1) → (inA G 10 a3 2) ∧ (inR (h a3 2)) ∧ (((h a3 2) ≤ 0 → Q 0 G h) ∧ (0 < (h a3 2) → (dvR (0 + 1) 3) ∧ (inA G 10 a3 ((0 + 1) % 3)) ∧ (dvR (0 + 2) 3) ∧ (inA G 10 a3 ((0 + 2) % 3)) ∧ (ty G a0 = 9) ∧ (dvR ((h a3 ((0 + 1) % 3)) * (h a3 ((0 + 2) % 3))) (h a0 0)) ∧ R l MX9_addRow d 0 0 [vR a0, vI a1, vI 0, vI a2, vI 0, vI (((h a3 ((0 + 1) % 3)) * (h a3 ((0 + 2) % 3))) % (h a0 0))] G h (fun r83 G84 h85 => (ty G84 a0 = 9) ∧ R l MX9_remove d 0 0 [vR a0, vI a2] G84 h85 (fun r86 G87 h88 => Q 1 G87 h88))))))) ∧ (0 < (h a3 0) → (inA G 10 a3 2) ∧ (inR (h a3 2)) ∧ (((h a3 2) ≤ 0 → (((h a3 1) ≤ 0 → Q 0 G h) ∧ (0 < (h a3 1) → (((h a3 2) ≤ 0 → Q 0 G h) ∧ (0 < (h a3 2) → (dvR (0 + 1) 3) ∧ (inA G 10 a3 ((0 + 1) % 3)) ∧ (dvR (0 + 2) 3) ∧ (inA G 10 a3 ((0 + 2) % 3)) ∧ (ty G a0 = 9) ∧ (dvR ((h a3 ((0 + 1) % 3)) * (h a3 ((0 + 2) % 3))) (h a0 0)) ∧ R l MX9_addRow d 0 0 [vR a0, vI a1, vI 0, vI a2, vI 0, vI (((h a3 ((0 + 1) % 3)) * (h a3 ((0 + 2) % 3))) % (h a0 0))] G h (fun r104 G105 h106 => (ty G105 a0 = 9) ∧ R l MX9_remove d 0 0 [vR a0, vI a2] G105 h106 (fun r107 G108 h109 => Q 1 G108 h109))))))) ∧ (0 < (h a3 2) → (dvR (1 + 1) 3) ∧ (inA G 10 a3 ((1 + 1) % 3)) ∧ (dvR (1 + 2) 3) ∧ (inA G 10 a3 ((1 + 2) % 3)) ∧ (ty G a0 = 9) ∧ (dvR ((h a3 ((1 + 1) % 3)) * (h a3 ((1 + 2) % 3))) (h a0 0)) ∧ R l MX9_addRow d 0 0 [vR a0, vI a1, vI 1, vI a2, vI 1, vI (((h a3 ((1 + 1) % 3)) * (h a3 ((1 + 2) % 3))) % (h a0 0))] G h (fun r118 G119 h120 => (ty G119 a0 = 9) ∧ R l MX9_remove d 0 0 [vR a0, vI a2] G119 h120 (fun r121 G122 h123 => Q 1 G122 h123))))))) ∧ (0 < (h a3 1) → (dvR (2 + 1) 3) ∧ (inA G 10 a3 ((2 + 1) % 3)) ∧ (dvR (2 + 2) 3) ∧ (inA G 10 a3 ((2 + 2) % 3)) ∧ (ty G a0 = 9) ∧ (dvR ((h a3 ((2 + 1) % 3)) * (h a3 ((2 + 2) % 3))) (h a0 0)) ∧ R l MX9_addRow d 0 0 [vR a0, vI a1, vI 2, vI a2, vI 2, vI (((h a3 ((2 + 1) % 3)) * (h a3 ((2 + 2) % 3))) % (h a0 0))] G h (fun r132 G133 h134 => (ty G133 a0 = 9) ∧ R l MX9_remove d 0 0 [vR a0, vI a2] G133 h134 (fun r135 G136 h137 => Q 1 G136 h137))))))) ∧ (a4 < 3 → (ty G a0 = 9) ∧ R l MX9_factor d 0 0 [vR a0, vI a1, vI a2, vI a4] G h (fun r139 G140 h141 => (inA G140 10 a3 a4) ∧ ∀ h144 : HP, h144 = hset h141 a3 a4 r139 → S l MX9_bringTogether (d + 1, 0, 0, 0, 0) 8 [some (vR a0), some (vI a1), some (vI a2), some (vR a3), some (vI (a4 + 1)), none] [] G140 h144 Q)))) : S l MX9_bringTogether (d + 1, 0, 0, 0, 0) 8 [some (vR a0), some (vI a1), some (vI a2), some (vR a3), some (vI a4), none] [] G h Q := by
  refine s_iload dX9_bringTogether_8 rfl ?_
  refine s_iconst dX9_bringTogether_10 ?_
  have f1 := H.1
  replace H := H.2
  refine s_icmp_ge (tgt := 32) dX9_bringTogether_11 (by decide) f1 (by decide) (fun c2 => ?_) (fun c2 => ?_)
  · replace H := H.1 c2
    refine s_aload_n dX9_bringTogether_32 rfl rfl ?_
    refine s_iconst dX9_bringTogether_33 ?_
    have f3 := H.1
    replace H := H.2
    refine s_iald dX9_bringTogether_34 f3 ?_
    have f4 := H.1
    replace H := H.2
    refine s_if_le (tgt := 48) dX9_bringTogether_35 (by decide) f4 (fun c5 => ?_) (fun c5 => ?_)
    · replace H := H.1 c5
      refine s_aload_n dX9_bringTogether_48 rfl rfl ?_
      refine s_iconst dX9_bringTogether_49 ?_
      refine s_iald dX9_bringTogether_50 f3 ?_
      refine s_if_le (tgt := 64) dX9_bringTogether_51 (by decide) f4 (fun c6 => ?_) (fun c6 => ?_)
      · replace H := H.1 c6
        refine s_aload_n dX9_bringTogether_64 rfl rfl ?_
        refine s_iconst dX9_bringTogether_65 ?_
        have f7 := H.1
        replace H := H.2
        refine s_iald dX9_bringTogether_66 f7 ?_
        have f8 := H.1
        replace H := H.2
        refine s_if_le (tgt := 80) dX9_bringTogether_67 (by decide) f8 (fun c9 => ?_) (fun c9 => ?_)
        · replace H := H.1 c9
          refine s_iconst dX9_bringTogether_80 ?_
          refine s_istore dX9_bringTogether_81 (by decide) rfl ?_
          show S l MX9_bringTogether (d + 1, 0, 0, 0, 0) 83 [some (vR a0), some (vI a1), some (vI a2), some (vR a3), some (vI ((-1))), none] [] G h Q
          refine s_iload dX9_bringTogether_83 rfl ?_
          refine s_if_ge (tgt := 90) dX9_bringTogether_85 (by decide) (by decide) (fun c10 => absurd c10 (by decide)) (fun _ => ?_)
          refine s_iconst dX9_bringTogether_88 ?_
          exact s_zret dX9_bringTogether_89 rfl ⟨Nat.le_refl _, Nat.le_refl _⟩ (by decide) H
        · replace H := H.2 c9
          refine s_aload_n dX9_bringTogether_70 rfl rfl ?_
          refine s_iconst dX9_bringTogether_71 ?_
          have f11 := H.1
          replace H := H.2
          refine s_iald dX9_bringTogether_72 f11 ?_
          have f12 := H.1
          replace H := H.2
          refine s_if_le (tgt := 80) dX9_bringTogether_73 (by decide) f12 (fun c13 => ?_) (fun c13 => ?_)
          · replace H := H.1 c13
            refine s_iconst dX9_bringTogether_80 ?_
            refine s_istore dX9_bringTogether_81 (by decide) rfl ?_
            show S l MX9_bringTogether (d + 1, 0, 0, 0, 0) 83 [some (vR a0), some (vI a1), some (vI a2), some (vR a3), some (vI ((-1))), none] [] G h Q
            refine s_iload dX9_bringTogether_83 rfl ?_
            refine s_if_ge (tgt := 90) dX9_bringTogether_85 (by decide) (by decide) (fun c14 => absurd c14 (by decide)) (fun _ => ?_)
            refine s_iconst dX9_bringTogether_88 ?_
            exact s_zret dX9_bringTogether_89 rfl ⟨Nat.le_refl _, Nat.le_refl _⟩ (by decide) H
          · replace H := H.2 c13
            refine s_iconst dX9_bringTogether_76 ?_
            refine s_goto (tgt := 81) dX9_bringTogether_77 (by decide) ?_
            refine s_istore dX9_bringTogether_81 (by decide) rfl ?_
            show S l MX9_bringTogether (d + 1, 0, 0, 0, 0) 83 [some (vR a0), some (vI a1), some (vI a2), some (vR a3), some (vI 0), none] [] G h Q
            refine s_iload dX9_bringTogether_83 rfl ?_
            refine s_if_ge (tgt := 90) dX9_bringTogether_85 (by decide) (by decide) (fun _ => ?_) (fun c15 => absurd c15 (by decide))
            refine s_aload_n dX9_bringTogether_90 rfl rfl ?_
            refine s_iload dX9_bringTogether_91 rfl ?_
            refine s_iconst dX9_bringTogether_93 ?_
            refine s_iadd dX9_bringTogether_94 ?_
            refine s_iconst dX9_bringTogether_95 ?_
            have f16 := H.1
            replace H := H.2
            refine s_irem dX9_bringTogether_96 f16 ?_
            have f17 := H.1
            replace H := H.2
            refine s_iald dX9_bringTogether_97 f17 ?_
            refine s_aload_n dX9_bringTogether_98 rfl rfl ?_
            refine s_iload dX9_bringTogether_99 rfl ?_
            refine s_iconst dX9_bringTogether_101 ?_
            refine s_iadd dX9_bringTogether_102 ?_
            refine s_iconst dX9_bringTogether_103 ?_
            have f18 := H.1
            replace H := H.2
            refine s_irem dX9_bringTogether_104 f18 ?_
            have f19 := H.1
            replace H := H.2
            refine s_iald dX9_bringTogether_105 f19 ?_
            refine s_imul dX9_bringTogether_106 ?_
            refine s_aload_n dX9_bringTogether_107 rfl rfl ?_
            have f20 := H.1
            replace H := H.2
            refine s_getf (c := 9) (k := 0) (t := 0) (j := 0) dX9_bringTogether_108 fl_X9_7 (by decide) (by decide) rfl rfl f20 ?_
            have f21 := H.1
            replace H := H.2
            refine s_irem dX9_bringTogether_111 f21 ?_
            refine s_istore dX9_bringTogether_112 (by decide) rfl ?_
            show S l MX9_bringTogether (d + 1, 0, 0, 0, 0) 114 [some (vR a0), some (vI a1), some (vI a2), some (vR a3), some (vI 0), some (vI (((h a3 ((0 + 1) % 3)) * (h a3 ((0 + 2) % 3))) % (h a0 0)))] [] G h Q
            refine s_aload_n dX9_bringTogether_114 rfl rfl ?_
            refine s_iload_n dX9_bringTogether_115 rfl rfl ?_
            refine s_iload dX9_bringTogether_116 rfl ?_
            refine s_iload_n dX9_bringTogether_118 rfl rfl ?_
            refine s_iload dX9_bringTogether_119 rfl ?_
            refine s_iload dX9_bringTogether_121 rfl ?_
            refine s_callV (M' := MX9_addRow) (As := [vI a1, vI 0, vI a2, vI 0, vI (((h a3 ((0 + 1) % 3)) * (h a3 ((0 + 2) % 3))) % (h a0 0))]) (a := a0) (st := []) dX9_bringTogether_123 ml_X9_156 cv_X9_addRow rfl rfl (Nat.le_of_ble_eq_true rfl) ⟨Nat.le_refl _, Nat.le_refl _⟩ f20 (R_mono (fun r22 G23 h24 H => ?_) H)
            show S l MX9_bringTogether (d + 1, 0, 0, 0, 0) 126 [some (vR a0), some (vI a1), some (vI a2), some (vR a3), some (vI 0), some (vI (((h a3 ((0 + 1) % 3)) * (h a3 ((0 + 2) % 3))) % (h a0 0)))] [] G23 h24 Q
            refine s_aload_n dX9_bringTogether_126 rfl rfl ?_
            refine s_iload_n dX9_bringTogether_127 rfl rfl ?_
            have f28 := H.1
            replace H := H.2
            refine s_callV (M' := MX9_remove) (As := [vI a2]) (a := a0) (st := []) dX9_bringTogether_128 ml_X9_136 cv_X9_remove rfl rfl (Nat.le_of_ble_eq_true rfl) ⟨Nat.le_refl _, Nat.le_refl _⟩ f28 (R_mono (fun r25 G26 h27 H => ?_) H)
            show S l MX9_bringTogether (d + 1, 0, 0, 0, 0) 131 [some (vR a0), some (vI a1), some (vI a2), some (vR a3), some (vI 0), some (vI (((h a3 ((0 + 1) % 3)) * (h a3 ((0 + 2) % 3))) % (h a0 0)))] [] G26 h27 Q
            refine s_iconst dX9_bringTogether_131 ?_
            exact s_zret dX9_bringTogether_132 rfl ⟨Nat.le_refl _, Nat.le_refl _⟩ (by decide) H
      · replace H := H.2 c6
        refine s_aload_n dX9_bringTogether_54 rfl rfl ?_
        refine s_iconst dX9_bringTogether_55 ?_
        have f29 := H.1
        replace H := H.2
        refine s_iald dX9_bringTogether_56 f29 ?_
        have f30 := H.1
        replace H := H.2
        refine s_if_le (tgt := 64) dX9_bringTogether_57 (by decide) f30 (fun c31 => ?_) (fun c31 => ?_)
        · replace H := H.1 c31
          refine s_aload_n dX9_bringTogether_64 rfl rfl ?_
          refine s_iconst dX9_bringTogether_65 ?_
          have f32 := H.1
          replace H := H.2
          refine s_iald dX9_bringTogether_66 f32 ?_
          have f33 := H.1
          replace H := H.2
          refine s_if_le (tgt := 80) dX9_bringTogether_67 (by decide) f33 (fun c34 => ?_) (fun c34 => ?_)
          · replace H := H.1 c34
            refine s_iconst dX9_bringTogether_80 ?_
            refine s_istore dX9_bringTogether_81 (by decide) rfl ?_
            show S l MX9_bringTogether (d + 1, 0, 0, 0, 0) 83 [some (vR a0), some (vI a1), some (vI a2), some (vR a3), some (vI ((-1))), none] [] G h Q
            refine s_iload dX9_bringTogether_83 rfl ?_
            refine s_if_ge (tgt := 90) dX9_bringTogether_85 (by decide) (by decide) (fun c35 => absurd c35 (by decide)) (fun _ => ?_)
            refine s_iconst dX9_bringTogether_88 ?_
            exact s_zret dX9_bringTogether_89 rfl ⟨Nat.le_refl _, Nat.le_refl _⟩ (by decide) H
          · replace H := H.2 c34
            refine s_aload_n dX9_bringTogether_70 rfl rfl ?_
            refine s_iconst dX9_bringTogether_71 ?_
            refine s_iald dX9_bringTogether_72 f29 ?_
            refine s_if_le (tgt := 80) dX9_bringTogether_73 (by decide) f30 (fun c36 => ?_) (fun c36 => ?_)
            · replace H := H.1 c36
              refine s_iconst dX9_bringTogether_80 ?_
              refine s_istore dX9_bringTogether_81 (by decide) rfl ?_
              show S l MX9_bringTogether (d + 1, 0, 0, 0, 0) 83 [some (vR a0), some (vI a1), some (vI a2), some (vR a3), some (vI ((-1))), none] [] G h Q
              refine s_iload dX9_bringTogether_83 rfl ?_
              refine s_if_ge (tgt := 90) dX9_bringTogether_85 (by decide) (by decide) (fun c37 => absurd c37 (by decide)) (fun _ => ?_)
              refine s_iconst dX9_bringTogether_88 ?_
              exact s_zret dX9_bringTogether_89 rfl ⟨Nat.le_refl _, Nat.le_refl _⟩ (by decide) H
            · replace H := H.2 c36
              refine s_iconst dX9_bringTogether_76 ?_
              refine s_goto (tgt := 81) dX9_bringTogether_77 (by decide) ?_
              refine s_istore dX9_bringTogether_81 (by decide) rfl ?_
              show S l MX9_bringTogether (d + 1, 0, 0, 0, 0) 83 [some (vR a0), some (vI a1), some (vI a2), some (vR a3), some (vI 0), none] [] G h Q
              refine s_iload dX9_bringTogether_83 rfl ?_
              refine s_if_ge (tgt := 90) dX9_bringTogether_85 (by decide) (by decide) (fun _ => ?_) (fun c38 => absurd c38 (by decide))
              refine s_aload_n dX9_bringTogether_90 rfl rfl ?_
              refine s_iload dX9_bringTogether_91 rfl ?_
              refine s_iconst dX9_bringTogether_93 ?_
              refine s_iadd dX9_bringTogether_94 ?_
              refine s_iconst dX9_bringTogether_95 ?_
              have f39 := H.1
              replace H := H.2
              refine s_irem dX9_bringTogether_96 f39 ?_
              have f40 := H.1
              replace H := H.2
              refine s_iald dX9_bringTogether_97 f40 ?_
              refine s_aload_n dX9_bringTogether_98 rfl rfl ?_
              refine s_iload dX9_bringTogether_99 rfl ?_
              refine s_iconst dX9_bringTogether_101 ?_
              refine s_iadd dX9_bringTogether_102 ?_
              refine s_iconst dX9_bringTogether_103 ?_
              have f41 := H.1
              replace H := H.2
              refine s_irem dX9_bringTogether_104 f41 ?_
              have f42 := H.1
              replace H := H.2
              refine s_iald dX9_bringTogether_105 f42 ?_
              refine s_imul dX9_bringTogether_106 ?_
              refine s_aload_n dX9_bringTogether_107 rfl rfl ?_
              have f43 := H.1
              replace H := H.2
              refine s_getf (c := 9) (k := 0) (t := 0) (j := 0) dX9_bringTogether_108 fl_X9_7 (by decide) (by decide) rfl rfl f43 ?_
              have f44 := H.1
              replace H := H.2
              refine s_irem dX9_bringTogether_111 f44 ?_
              refine s_istore dX9_bringTogether_112 (by decide) rfl ?_
              show S l MX9_bringTogether (d + 1, 0, 0, 0, 0) 114 [some (vR a0), some (vI a1), some (vI a2), some (vR a3), some (vI 0), some (vI (((h a3 ((0 + 1) % 3)) * (h a3 ((0 + 2) % 3))) % (h a0 0)))] [] G h Q
              refine s_aload_n dX9_bringTogether_114 rfl rfl ?_
              refine s_iload_n dX9_bringTogether_115 rfl rfl ?_
              refine s_iload dX9_bringTogether_116 rfl ?_
              refine s_iload_n dX9_bringTogether_118 rfl rfl ?_
              refine s_iload dX9_bringTogether_119 rfl ?_
              refine s_iload dX9_bringTogether_121 rfl ?_
              refine s_callV (M' := MX9_addRow) (As := [vI a1, vI 0, vI a2, vI 0, vI (((h a3 ((0 + 1) % 3)) * (h a3 ((0 + 2) % 3))) % (h a0 0))]) (a := a0) (st := []) dX9_bringTogether_123 ml_X9_156 cv_X9_addRow rfl rfl (Nat.le_of_ble_eq_true rfl) ⟨Nat.le_refl _, Nat.le_refl _⟩ f43 (R_mono (fun r45 G46 h47 H => ?_) H)
              show S l MX9_bringTogether (d + 1, 0, 0, 0, 0) 126 [some (vR a0), some (vI a1), some (vI a2), some (vR a3), some (vI 0), some (vI (((h a3 ((0 + 1) % 3)) * (h a3 ((0 + 2) % 3))) % (h a0 0)))] [] G46 h47 Q
              refine s_aload_n dX9_bringTogether_126 rfl rfl ?_
              refine s_iload_n dX9_bringTogether_127 rfl rfl ?_
              have f51 := H.1
              replace H := H.2
              refine s_callV (M' := MX9_remove) (As := [vI a2]) (a := a0) (st := []) dX9_bringTogether_128 ml_X9_136 cv_X9_remove rfl rfl (Nat.le_of_ble_eq_true rfl) ⟨Nat.le_refl _, Nat.le_refl _⟩ f51 (R_mono (fun r48 G49 h50 H => ?_) H)
              show S l MX9_bringTogether (d + 1, 0, 0, 0, 0) 131 [some (vR a0), some (vI a1), some (vI a2), some (vR a3), some (vI 0), some (vI (((h a3 ((0 + 1) % 3)) * (h a3 ((0 + 2) % 3))) % (h a0 0)))] [] G49 h50 Q
              refine s_iconst dX9_bringTogether_131 ?_
              exact s_zret dX9_bringTogether_132 rfl ⟨Nat.le_refl _, Nat.le_refl _⟩ (by decide) H
        · replace H := H.2 c31
          refine s_iconst dX9_bringTogether_60 ?_
          refine s_goto (tgt := 81) dX9_bringTogether_61 (by decide) ?_
          refine s_istore dX9_bringTogether_81 (by decide) rfl ?_
          show S l MX9_bringTogether (d + 1, 0, 0, 0, 0) 83 [some (vR a0), some (vI a1), some (vI a2), some (vR a3), some (vI 1), none] [] G h Q
          refine s_iload dX9_bringTogether_83 rfl ?_
          refine s_if_ge (tgt := 90) dX9_bringTogether_85 (by decide) (by decide) (fun _ => ?_) (fun c52 => absurd c52 (by decide))
          refine s_aload_n dX9_bringTogether_90 rfl rfl ?_
          refine s_iload dX9_bringTogether_91 rfl ?_
          refine s_iconst dX9_bringTogether_93 ?_
          refine s_iadd dX9_bringTogether_94 ?_
          refine s_iconst dX9_bringTogether_95 ?_
          have f53 := H.1
          replace H := H.2
          refine s_irem dX9_bringTogether_96 f53 ?_
          have f54 := H.1
          replace H := H.2
          refine s_iald dX9_bringTogether_97 f54 ?_
          refine s_aload_n dX9_bringTogether_98 rfl rfl ?_
          refine s_iload dX9_bringTogether_99 rfl ?_
          refine s_iconst dX9_bringTogether_101 ?_
          refine s_iadd dX9_bringTogether_102 ?_
          refine s_iconst dX9_bringTogether_103 ?_
          have f55 := H.1
          replace H := H.2
          refine s_irem dX9_bringTogether_104 f55 ?_
          have f56 := H.1
          replace H := H.2
          refine s_iald dX9_bringTogether_105 f56 ?_
          refine s_imul dX9_bringTogether_106 ?_
          refine s_aload_n dX9_bringTogether_107 rfl rfl ?_
          have f57 := H.1
          replace H := H.2
          refine s_getf (c := 9) (k := 0) (t := 0) (j := 0) dX9_bringTogether_108 fl_X9_7 (by decide) (by decide) rfl rfl f57 ?_
          have f58 := H.1
          replace H := H.2
          refine s_irem dX9_bringTogether_111 f58 ?_
          refine s_istore dX9_bringTogether_112 (by decide) rfl ?_
          show S l MX9_bringTogether (d + 1, 0, 0, 0, 0) 114 [some (vR a0), some (vI a1), some (vI a2), some (vR a3), some (vI 1), some (vI (((h a3 ((1 + 1) % 3)) * (h a3 ((1 + 2) % 3))) % (h a0 0)))] [] G h Q
          refine s_aload_n dX9_bringTogether_114 rfl rfl ?_
          refine s_iload_n dX9_bringTogether_115 rfl rfl ?_
          refine s_iload dX9_bringTogether_116 rfl ?_
          refine s_iload_n dX9_bringTogether_118 rfl rfl ?_
          refine s_iload dX9_bringTogether_119 rfl ?_
          refine s_iload dX9_bringTogether_121 rfl ?_
          refine s_callV (M' := MX9_addRow) (As := [vI a1, vI 1, vI a2, vI 1, vI (((h a3 ((1 + 1) % 3)) * (h a3 ((1 + 2) % 3))) % (h a0 0))]) (a := a0) (st := []) dX9_bringTogether_123 ml_X9_156 cv_X9_addRow rfl rfl (Nat.le_of_ble_eq_true rfl) ⟨Nat.le_refl _, Nat.le_refl _⟩ f57 (R_mono (fun r59 G60 h61 H => ?_) H)
          show S l MX9_bringTogether (d + 1, 0, 0, 0, 0) 126 [some (vR a0), some (vI a1), some (vI a2), some (vR a3), some (vI 1), some (vI (((h a3 ((1 + 1) % 3)) * (h a3 ((1 + 2) % 3))) % (h a0 0)))] [] G60 h61 Q
          refine s_aload_n dX9_bringTogether_126 rfl rfl ?_
          refine s_iload_n dX9_bringTogether_127 rfl rfl ?_
          have f65 := H.1
          replace H := H.2
          refine s_callV (M' := MX9_remove) (As := [vI a2]) (a := a0) (st := []) dX9_bringTogether_128 ml_X9_136 cv_X9_remove rfl rfl (Nat.le_of_ble_eq_true rfl) ⟨Nat.le_refl _, Nat.le_refl _⟩ f65 (R_mono (fun r62 G63 h64 H => ?_) H)
          show S l MX9_bringTogether (d + 1, 0, 0, 0, 0) 131 [some (vR a0), some (vI a1), some (vI a2), some (vR a3), some (vI 1), some (vI (((h a3 ((1 + 1) % 3)) * (h a3 ((1 + 2) % 3))) % (h a0 0)))] [] G63 h64 Q
          refine s_iconst dX9_bringTogether_131 ?_
          exact s_zret dX9_bringTogether_132 rfl ⟨Nat.le_refl _, Nat.le_refl _⟩ (by decide) H
    · replace H := H.2 c5
      refine s_aload_n dX9_bringTogether_38 rfl rfl ?_
      refine s_iconst dX9_bringTogether_39 ?_
      have f66 := H.1
      replace H := H.2
      refine s_iald dX9_bringTogether_40 f66 ?_
      have f67 := H.1
      replace H := H.2
      refine s_if_le (tgt := 48) dX9_bringTogether_41 (by decide) f67 (fun c68 => ?_) (fun c68 => ?_)
      · replace H := H.1 c68
        refine s_aload_n dX9_bringTogether_48 rfl rfl ?_
        refine s_iconst dX9_bringTogether_49 ?_
        refine s_iald dX9_bringTogether_50 f3 ?_
        refine s_if_le (tgt := 64) dX9_bringTogether_51 (by decide) f4 (fun c69 => ?_) (fun c69 => ?_)
        · replace H := H.1 c69
          refine s_aload_n dX9_bringTogether_64 rfl rfl ?_
          refine s_iconst dX9_bringTogether_65 ?_
          refine s_iald dX9_bringTogether_66 f66 ?_
          refine s_if_le (tgt := 80) dX9_bringTogether_67 (by decide) f67 (fun c70 => ?_) (fun c70 => ?_)
          · replace H := H.1 c70
            refine s_iconst dX9_bringTogether_80 ?_
            refine s_istore dX9_bringTogether_81 (by decide) rfl ?_
            show S l MX9_bringTogether (d + 1, 0, 0, 0, 0) 83 [some (vR a0), some (vI a1), some (vI a2), some (vR a3), some (vI ((-1))), none] [] G h Q
            refine s_iload dX9_bringTogether_83 rfl ?_
            refine s_if_ge (tgt := 90) dX9_bringTogether_85 (by decide) (by decide) (fun c71 => absurd c71 (by decide)) (fun _ => ?_)
            refine s_iconst dX9_bringTogether_88 ?_
            exact s_zret dX9_bringTogether_89 rfl ⟨Nat.le_refl _, Nat.le_refl _⟩ (by decide) H
          · replace H := H.2 c70
            refine s_aload_n dX9_bringTogether_70 rfl rfl ?_
            refine s_iconst dX9_bringTogether_71 ?_
            have f72 := H.1
            replace H := H.2
            refine s_iald dX9_bringTogether_72 f72 ?_
            have f73 := H.1
            replace H := H.2
            refine s_if_le (tgt := 80) dX9_bringTogether_73 (by decide) f73 (fun c74 => ?_) (fun c74 => ?_)
            · replace H := H.1 c74
              refine s_iconst dX9_bringTogether_80 ?_
              refine s_istore dX9_bringTogether_81 (by decide) rfl ?_
              show S l MX9_bringTogether (d + 1, 0, 0, 0, 0) 83 [some (vR a0), some (vI a1), some (vI a2), some (vR a3), some (vI ((-1))), none] [] G h Q
              refine s_iload dX9_bringTogether_83 rfl ?_
              refine s_if_ge (tgt := 90) dX9_bringTogether_85 (by decide) (by decide) (fun c75 => absurd c75 (by decide)) (fun _ => ?_)
              refine s_iconst dX9_bringTogether_88 ?_
              exact s_zret dX9_bringTogether_89 rfl ⟨Nat.le_refl _, Nat.le_refl _⟩ (by decide) H
            · replace H := H.2 c74
              refine s_iconst dX9_bringTogether_76 ?_
              refine s_goto (tgt := 81) dX9_bringTogether_77 (by decide) ?_
              refine s_istore dX9_bringTogether_81 (by decide) rfl ?_
              show S l MX9_bringTogether (d + 1, 0, 0, 0, 0) 83 [some (vR a0), some (vI a1), some (vI a2), some (vR a3), some (vI 0), none] [] G h Q
              refine s_iload dX9_bringTogether_83 rfl ?_
              refine s_if_ge (tgt := 90) dX9_bringTogether_85 (by decide) (by decide) (fun _ => ?_) (fun c76 => absurd c76 (by decide))
              refine s_aload_n dX9_bringTogether_90 rfl rfl ?_
              refine s_iload dX9_bringTogether_91 rfl ?_
              refine s_iconst dX9_bringTogether_93 ?_
              refine s_iadd dX9_bringTogether_94 ?_
              refine s_iconst dX9_bringTogether_95 ?_
              have f77 := H.1
              replace H := H.2
              refine s_irem dX9_bringTogether_96 f77 ?_
              have f78 := H.1
              replace H := H.2
              refine s_iald dX9_bringTogether_97 f78 ?_
              refine s_aload_n dX9_bringTogether_98 rfl rfl ?_
              refine s_iload dX9_bringTogether_99 rfl ?_
              refine s_iconst dX9_bringTogether_101 ?_
              refine s_iadd dX9_bringTogether_102 ?_
              refine s_iconst dX9_bringTogether_103 ?_
              have f79 := H.1
              replace H := H.2
              refine s_irem dX9_bringTogether_104 f79 ?_
              have f80 := H.1
              replace H := H.2
              refine s_iald dX9_bringTogether_105 f80 ?_
              refine s_imul dX9_bringTogether_106 ?_
              refine s_aload_n dX9_bringTogether_107 rfl rfl ?_
              have f81 := H.1
              replace H := H.2
              refine s_getf (c := 9) (k := 0) (t := 0) (j := 0) dX9_bringTogether_108 fl_X9_7 (by decide) (by decide) rfl rfl f81 ?_
              have f82 := H.1
              replace H := H.2
              refine s_irem dX9_bringTogether_111 f82 ?_
              refine s_istore dX9_bringTogether_112 (by decide) rfl ?_
              show S l MX9_bringTogether (d + 1, 0, 0, 0, 0) 114 [some (vR a0), some (vI a1), some (vI a2), some (vR a3), some (vI 0), some (vI (((h a3 ((0 + 1) % 3)) * (h a3 ((0 + 2) % 3))) % (h a0 0)))] [] G h Q
              refine s_aload_n dX9_bringTogether_114 rfl rfl ?_
              refine s_iload_n dX9_bringTogether_115 rfl rfl ?_
              refine s_iload dX9_bringTogether_116 rfl ?_
              refine s_iload_n dX9_bringTogether_118 rfl rfl ?_
              refine s_iload dX9_bringTogether_119 rfl ?_
              refine s_iload dX9_bringTogether_121 rfl ?_
              refine s_callV (M' := MX9_addRow) (As := [vI a1, vI 0, vI a2, vI 0, vI (((h a3 ((0 + 1) % 3)) * (h a3 ((0 + 2) % 3))) % (h a0 0))]) (a := a0) (st := []) dX9_bringTogether_123 ml_X9_156 cv_X9_addRow rfl rfl (Nat.le_of_ble_eq_true rfl) ⟨Nat.le_refl _, Nat.le_refl _⟩ f81 (R_mono (fun r83 G84 h85 H => ?_) H)
              show S l MX9_bringTogether (d + 1, 0, 0, 0, 0) 126 [some (vR a0), some (vI a1), some (vI a2), some (vR a3), some (vI 0), some (vI (((h a3 ((0 + 1) % 3)) * (h a3 ((0 + 2) % 3))) % (h a0 0)))] [] G84 h85 Q
              refine s_aload_n dX9_bringTogether_126 rfl rfl ?_
              refine s_iload_n dX9_bringTogether_127 rfl rfl ?_
              have f89 := H.1
              replace H := H.2
              refine s_callV (M' := MX9_remove) (As := [vI a2]) (a := a0) (st := []) dX9_bringTogether_128 ml_X9_136 cv_X9_remove rfl rfl (Nat.le_of_ble_eq_true rfl) ⟨Nat.le_refl _, Nat.le_refl _⟩ f89 (R_mono (fun r86 G87 h88 H => ?_) H)
              show S l MX9_bringTogether (d + 1, 0, 0, 0, 0) 131 [some (vR a0), some (vI a1), some (vI a2), some (vR a3), some (vI 0), some (vI (((h a3 ((0 + 1) % 3)) * (h a3 ((0 + 2) % 3))) % (h a0 0)))] [] G87 h88 Q
              refine s_iconst dX9_bringTogether_131 ?_
              exact s_zret dX9_bringTogether_132 rfl ⟨Nat.le_refl _, Nat.le_refl _⟩ (by decide) H
        · replace H := H.2 c69
          refine s_aload_n dX9_bringTogether_54 rfl rfl ?_
          refine s_iconst dX9_bringTogether_55 ?_
          have f90 := H.1
          replace H := H.2
          refine s_iald dX9_bringTogether_56 f90 ?_
          have f91 := H.1
          replace H := H.2
          refine s_if_le (tgt := 64) dX9_bringTogether_57 (by decide) f91 (fun c92 => ?_) (fun c92 => ?_)
          · replace H := H.1 c92
            refine s_aload_n dX9_bringTogether_64 rfl rfl ?_
            refine s_iconst dX9_bringTogether_65 ?_
            refine s_iald dX9_bringTogether_66 f66 ?_
            refine s_if_le (tgt := 80) dX9_bringTogether_67 (by decide) f67 (fun c93 => ?_) (fun c93 => ?_)
            · replace H := H.1 c93
              refine s_iconst dX9_bringTogether_80 ?_
              refine s_istore dX9_bringTogether_81 (by decide) rfl ?_
              show S l MX9_bringTogether (d + 1, 0, 0, 0, 0) 83 [some (vR a0), some (vI a1), some (vI a2), some (vR a3), some (vI ((-1))), none] [] G h Q
              refine s_iload dX9_bringTogether_83 rfl ?_
              refine s_if_ge (tgt := 90) dX9_bringTogether_85 (by decide) (by decide) (fun c94 => absurd c94 (by decide)) (fun _ => ?_)
              refine s_iconst dX9_bringTogether_88 ?_
              exact s_zret dX9_bringTogether_89 rfl ⟨Nat.le_refl _, Nat.le_refl _⟩ (by decide) H
            · replace H := H.2 c93
              refine s_aload_n dX9_bringTogether_70 rfl rfl ?_
              refine s_iconst dX9_bringTogether_71 ?_
              refine s_iald dX9_bringTogether_72 f90 ?_
              refine s_if_le (tgt := 80) dX9_bringTogether_73 (by decide) f91 (fun c95 => ?_) (fun c95 => ?_)
              · replace H := H.1 c95
                refine s_iconst dX9_bringTogether_80 ?_
                refine s_istore dX9_bringTogether_81 (by decide) rfl ?_
                show S l MX9_bringTogether (d + 1, 0, 0, 0, 0) 83 [some (vR a0), some (vI a1), some (vI a2), some (vR a3), some (vI ((-1))), none] [] G h Q
                refine s_iload dX9_bringTogether_83 rfl ?_
                refine s_if_ge (tgt := 90) dX9_bringTogether_85 (by decide) (by decide) (fun c96 => absurd c96 (by decide)) (fun _ => ?_)
                refine s_iconst dX9_bringTogether_88 ?_
                exact s_zret dX9_bringTogether_89 rfl ⟨Nat.le_refl _, Nat.le_refl _⟩ (by decide) H
              · replace H := H.2 c95
                refine s_iconst dX9_bringTogether_76 ?_
                refine s_goto (tgt := 81) dX9_bringTogether_77 (by decide) ?_
                refine s_istore dX9_bringTogether_81 (by decide) rfl ?_
                show S l MX9_bringTogether (d + 1, 0, 0, 0, 0) 83 [some (vR a0), some (vI a1), some (vI a2), some (vR a3), some (vI 0), none] [] G h Q
                refine s_iload dX9_bringTogether_83 rfl ?_
                refine s_if_ge (tgt := 90) dX9_bringTogether_85 (by decide) (by decide) (fun _ => ?_) (fun c97 => absurd c97 (by decide))
                refine s_aload_n dX9_bringTogether_90 rfl rfl ?_
                refine s_iload dX9_bringTogether_91 rfl ?_
                refine s_iconst dX9_bringTogether_93 ?_
                refine s_iadd dX9_bringTogether_94 ?_
                refine s_iconst dX9_bringTogether_95 ?_
                have f98 := H.1
                replace H := H.2
                refine s_irem dX9_bringTogether_96 f98 ?_
                have f99 := H.1
                replace H := H.2
                refine s_iald dX9_bringTogether_97 f99 ?_
                refine s_aload_n dX9_bringTogether_98 rfl rfl ?_
                refine s_iload dX9_bringTogether_99 rfl ?_
                refine s_iconst dX9_bringTogether_101 ?_
                refine s_iadd dX9_bringTogether_102 ?_
                refine s_iconst dX9_bringTogether_103 ?_
                have f100 := H.1
                replace H := H.2
                refine s_irem dX9_bringTogether_104 f100 ?_
                have f101 := H.1
                replace H := H.2
                refine s_iald dX9_bringTogether_105 f101 ?_
                refine s_imul dX9_bringTogether_106 ?_
                refine s_aload_n dX9_bringTogether_107 rfl rfl ?_
                have f102 := H.1
                replace H := H.2
                refine s_getf (c := 9) (k := 0) (t := 0) (j := 0) dX9_bringTogether_108 fl_X9_7 (by decide) (by decide) rfl rfl f102 ?_
                have f103 := H.1
                replace H := H.2
                refine s_irem dX9_bringTogether_111 f103 ?_
                refine s_istore dX9_bringTogether_112 (by decide) rfl ?_
                show S l MX9_bringTogether (d + 1, 0, 0, 0, 0) 114 [some (vR a0), some (vI a1), some (vI a2), some (vR a3), some (vI 0), some (vI (((h a3 ((0 + 1) % 3)) * (h a3 ((0 + 2) % 3))) % (h a0 0)))] [] G h Q
                refine s_aload_n dX9_bringTogether_114 rfl rfl ?_
                refine s_iload_n dX9_bringTogether_115 rfl rfl ?_
                refine s_iload dX9_bringTogether_116 rfl ?_
                refine s_iload_n dX9_bringTogether_118 rfl rfl ?_
                refine s_iload dX9_bringTogether_119 rfl ?_
                refine s_iload dX9_bringTogether_121 rfl ?_
                refine s_callV (M' := MX9_addRow) (As := [vI a1, vI 0, vI a2, vI 0, vI (((h a3 ((0 + 1) % 3)) * (h a3 ((0 + 2) % 3))) % (h a0 0))]) (a := a0) (st := []) dX9_bringTogether_123 ml_X9_156 cv_X9_addRow rfl rfl (Nat.le_of_ble_eq_true rfl) ⟨Nat.le_refl _, Nat.le_refl _⟩ f102 (R_mono (fun r104 G105 h106 H => ?_) H)
                show S l MX9_bringTogether (d + 1, 0, 0, 0, 0) 126 [some (vR a0), some (vI a1), some (vI a2), some (vR a3), some (vI 0), some (vI (((h a3 ((0 + 1) % 3)) * (h a3 ((0 + 2) % 3))) % (h a0 0)))] [] G105 h106 Q
                refine s_aload_n dX9_bringTogether_126 rfl rfl ?_
                refine s_iload_n dX9_bringTogether_127 rfl rfl ?_
                have f110 := H.1
                replace H := H.2
                refine s_callV (M' := MX9_remove) (As := [vI a2]) (a := a0) (st := []) dX9_bringTogether_128 ml_X9_136 cv_X9_remove rfl rfl (Nat.le_of_ble_eq_true rfl) ⟨Nat.le_refl _, Nat.le_refl _⟩ f110 (R_mono (fun r107 G108 h109 H => ?_) H)
                show S l MX9_bringTogether (d + 1, 0, 0, 0, 0) 131 [some (vR a0), some (vI a1), some (vI a2), some (vR a3), some (vI 0), some (vI (((h a3 ((0 + 1) % 3)) * (h a3 ((0 + 2) % 3))) % (h a0 0)))] [] G108 h109 Q
                refine s_iconst dX9_bringTogether_131 ?_
                exact s_zret dX9_bringTogether_132 rfl ⟨Nat.le_refl _, Nat.le_refl _⟩ (by decide) H
          · replace H := H.2 c92
            refine s_iconst dX9_bringTogether_60 ?_
            refine s_goto (tgt := 81) dX9_bringTogether_61 (by decide) ?_
            refine s_istore dX9_bringTogether_81 (by decide) rfl ?_
            show S l MX9_bringTogether (d + 1, 0, 0, 0, 0) 83 [some (vR a0), some (vI a1), some (vI a2), some (vR a3), some (vI 1), none] [] G h Q
            refine s_iload dX9_bringTogether_83 rfl ?_
            refine s_if_ge (tgt := 90) dX9_bringTogether_85 (by decide) (by decide) (fun _ => ?_) (fun c111 => absurd c111 (by decide))
            refine s_aload_n dX9_bringTogether_90 rfl rfl ?_
            refine s_iload dX9_bringTogether_91 rfl ?_
            refine s_iconst dX9_bringTogether_93 ?_
            refine s_iadd dX9_bringTogether_94 ?_
            refine s_iconst dX9_bringTogether_95 ?_
            have f112 := H.1
            replace H := H.2
            refine s_irem dX9_bringTogether_96 f112 ?_
            have f113 := H.1
            replace H := H.2
            refine s_iald dX9_bringTogether_97 f113 ?_
            refine s_aload_n dX9_bringTogether_98 rfl rfl ?_
            refine s_iload dX9_bringTogether_99 rfl ?_
            refine s_iconst dX9_bringTogether_101 ?_
            refine s_iadd dX9_bringTogether_102 ?_
            refine s_iconst dX9_bringTogether_103 ?_
            have f114 := H.1
            replace H := H.2
            refine s_irem dX9_bringTogether_104 f114 ?_
            have f115 := H.1
            replace H := H.2
            refine s_iald dX9_bringTogether_105 f115 ?_
            refine s_imul dX9_bringTogether_106 ?_
            refine s_aload_n dX9_bringTogether_107 rfl rfl ?_
            have f116 := H.1
            replace H := H.2
            refine s_getf (c := 9) (k := 0) (t := 0) (j := 0) dX9_bringTogether_108 fl_X9_7 (by decide) (by decide) rfl rfl f116 ?_
            have f117 := H.1
            replace H := H.2
            refine s_irem dX9_bringTogether_111 f117 ?_
            refine s_istore dX9_bringTogether_112 (by decide) rfl ?_
            show S l MX9_bringTogether (d + 1, 0, 0, 0, 0) 114 [some (vR a0), some (vI a1), some (vI a2), some (vR a3), some (vI 1), some (vI (((h a3 ((1 + 1) % 3)) * (h a3 ((1 + 2) % 3))) % (h a0 0)))] [] G h Q
            refine s_aload_n dX9_bringTogether_114 rfl rfl ?_
            refine s_iload_n dX9_bringTogether_115 rfl rfl ?_
            refine s_iload dX9_bringTogether_116 rfl ?_
            refine s_iload_n dX9_bringTogether_118 rfl rfl ?_
            refine s_iload dX9_bringTogether_119 rfl ?_
            refine s_iload dX9_bringTogether_121 rfl ?_
            refine s_callV (M' := MX9_addRow) (As := [vI a1, vI 1, vI a2, vI 1, vI (((h a3 ((1 + 1) % 3)) * (h a3 ((1 + 2) % 3))) % (h a0 0))]) (a := a0) (st := []) dX9_bringTogether_123 ml_X9_156 cv_X9_addRow rfl rfl (Nat.le_of_ble_eq_true rfl) ⟨Nat.le_refl _, Nat.le_refl _⟩ f116 (R_mono (fun r118 G119 h120 H => ?_) H)
            show S l MX9_bringTogether (d + 1, 0, 0, 0, 0) 126 [some (vR a0), some (vI a1), some (vI a2), some (vR a3), some (vI 1), some (vI (((h a3 ((1 + 1) % 3)) * (h a3 ((1 + 2) % 3))) % (h a0 0)))] [] G119 h120 Q
            refine s_aload_n dX9_bringTogether_126 rfl rfl ?_
            refine s_iload_n dX9_bringTogether_127 rfl rfl ?_
            have f124 := H.1
            replace H := H.2
            refine s_callV (M' := MX9_remove) (As := [vI a2]) (a := a0) (st := []) dX9_bringTogether_128 ml_X9_136 cv_X9_remove rfl rfl (Nat.le_of_ble_eq_true rfl) ⟨Nat.le_refl _, Nat.le_refl _⟩ f124 (R_mono (fun r121 G122 h123 H => ?_) H)
            show S l MX9_bringTogether (d + 1, 0, 0, 0, 0) 131 [some (vR a0), some (vI a1), some (vI a2), some (vR a3), some (vI 1), some (vI (((h a3 ((1 + 1) % 3)) * (h a3 ((1 + 2) % 3))) % (h a0 0)))] [] G122 h123 Q
            refine s_iconst dX9_bringTogether_131 ?_
            exact s_zret dX9_bringTogether_132 rfl ⟨Nat.le_refl _, Nat.le_refl _⟩ (by decide) H
      · replace H := H.2 c68
        refine s_iconst dX9_bringTogether_44 ?_
        refine s_goto (tgt := 81) dX9_bringTogether_45 (by decide) ?_
        refine s_istore dX9_bringTogether_81 (by decide) rfl ?_
        show S l MX9_bringTogether (d + 1, 0, 0, 0, 0) 83 [some (vR a0), some (vI a1), some (vI a2), some (vR a3), some (vI 2), none] [] G h Q
        refine s_iload dX9_bringTogether_83 rfl ?_
        refine s_if_ge (tgt := 90) dX9_bringTogether_85 (by decide) (by decide) (fun _ => ?_) (fun c125 => absurd c125 (by decide))
        refine s_aload_n dX9_bringTogether_90 rfl rfl ?_
        refine s_iload dX9_bringTogether_91 rfl ?_
        refine s_iconst dX9_bringTogether_93 ?_
        refine s_iadd dX9_bringTogether_94 ?_
        refine s_iconst dX9_bringTogether_95 ?_
        have f126 := H.1
        replace H := H.2
        refine s_irem dX9_bringTogether_96 f126 ?_
        have f127 := H.1
        replace H := H.2
        refine s_iald dX9_bringTogether_97 f127 ?_
        refine s_aload_n dX9_bringTogether_98 rfl rfl ?_
        refine s_iload dX9_bringTogether_99 rfl ?_
        refine s_iconst dX9_bringTogether_101 ?_
        refine s_iadd dX9_bringTogether_102 ?_
        refine s_iconst dX9_bringTogether_103 ?_
        have f128 := H.1
        replace H := H.2
        refine s_irem dX9_bringTogether_104 f128 ?_
        have f129 := H.1
        replace H := H.2
        refine s_iald dX9_bringTogether_105 f129 ?_
        refine s_imul dX9_bringTogether_106 ?_
        refine s_aload_n dX9_bringTogether_107 rfl rfl ?_
        have f130 := H.1
        replace H := H.2
        refine s_getf (c := 9) (k := 0) (t := 0) (j := 0) dX9_bringTogether_108 fl_X9_7 (by decide) (by decide) rfl rfl f130 ?_
        have f131 := H.1
        replace H := H.2
        refine s_irem dX9_bringTogether_111 f131 ?_
        refine s_istore dX9_bringTogether_112 (by decide) rfl ?_
        show S l MX9_bringTogether (d + 1, 0, 0, 0, 0) 114 [some (vR a0), some (vI a1), some (vI a2), some (vR a3), some (vI 2), some (vI (((h a3 ((2 + 1) % 3)) * (h a3 ((2 + 2) % 3))) % (h a0 0)))] [] G h Q
        refine s_aload_n dX9_bringTogether_114 rfl rfl ?_
        refine s_iload_n dX9_bringTogether_115 rfl rfl ?_
        refine s_iload dX9_bringTogether_116 rfl ?_
        refine s_iload_n dX9_bringTogether_118 rfl rfl ?_
        refine s_iload dX9_bringTogether_119 rfl ?_
        refine s_iload dX9_bringTogether_121 rfl ?_
        refine s_callV (M' := MX9_addRow) (As := [vI a1, vI 2, vI a2, vI 2, vI (((h a3 ((2 + 1) % 3)) * (h a3 ((2 + 2) % 3))) % (h a0 0))]) (a := a0) (st := []) dX9_bringTogether_123 ml_X9_156 cv_X9_addRow rfl rfl (Nat.le_of_ble_eq_true rfl) ⟨Nat.le_refl _, Nat.le_refl _⟩ f130 (R_mono (fun r132 G133 h134 H => ?_) H)
        show S l MX9_bringTogether (d + 1, 0, 0, 0, 0) 126 [some (vR a0), some (vI a1), some (vI a2), some (vR a3), some (vI 2), some (vI (((h a3 ((2 + 1) % 3)) * (h a3 ((2 + 2) % 3))) % (h a0 0)))] [] G133 h134 Q
        refine s_aload_n dX9_bringTogether_126 rfl rfl ?_
        refine s_iload_n dX9_bringTogether_127 rfl rfl ?_
        have f138 := H.1
        replace H := H.2
        refine s_callV (M' := MX9_remove) (As := [vI a2]) (a := a0) (st := []) dX9_bringTogether_128 ml_X9_136 cv_X9_remove rfl rfl (Nat.le_of_ble_eq_true rfl) ⟨Nat.le_refl _, Nat.le_refl _⟩ f138 (R_mono (fun r135 G136 h137 H => ?_) H)
        show S l MX9_bringTogether (d + 1, 0, 0, 0, 0) 131 [some (vR a0), some (vI a1), some (vI a2), some (vR a3), some (vI 2), some (vI (((h a3 ((2 + 1) % 3)) * (h a3 ((2 + 2) % 3))) % (h a0 0)))] [] G136 h137 Q
        refine s_iconst dX9_bringTogether_131 ?_
        exact s_zret dX9_bringTogether_132 rfl ⟨Nat.le_refl _, Nat.le_refl _⟩ (by decide) H
  · replace H := H.2 c2
    refine s_aload_n dX9_bringTogether_14 rfl rfl ?_
    refine s_iload dX9_bringTogether_15 rfl ?_
    refine s_aload_n dX9_bringTogether_17 rfl rfl ?_
    refine s_iload_n dX9_bringTogether_18 rfl rfl ?_
    refine s_iload_n dX9_bringTogether_19 rfl rfl ?_
    refine s_iload dX9_bringTogether_20 rfl ?_
    have f142 := H.1
    replace H := H.2
    refine s_callV (M' := MX9_factor) (As := [vI a1, vI a2, vI a4]) (a := a0) (st := [vI a4, vR a3]) dX9_bringTogether_22 ml_X9_153 cv_X9_factor rfl rfl (Nat.le_of_ble_eq_true rfl) ⟨Nat.le_refl _, Nat.le_refl _⟩ f142 (R_mono (fun r139 G140 h141 H => ?_) H)
    show S l MX9_bringTogether (d + 1, 0, 0, 0, 0) 25 [some (vR a0), some (vI a1), some (vI a2), some (vR a3), some (vI a4), none] [vI r139, vI a4, vR a3] G140 h141 Q
    have f143 := H.1
    replace H := H.2
    refine s_iastH dX9_bringTogether_25 f143 (fun h144 eh144 => ?_)
    replace H := H h144 eh144
    refine s_iinc dX9_bringTogether_26 rfl (by decide) rfl ?_
    show S l MX9_bringTogether (d + 1, 0, 0, 0, 0) 29 [some (vR a0), some (vI a1), some (vI a2), some (vR a3), some (vI (a4 + 1)), none] [] G140 h144 Q
    refine s_goto (tgt := 8) dX9_bringTogether_29 (by decide) ?_
    exact S_cut (by first | exact ⟨rfl, ⟨rfl, ⟨rfl, ⟨rfl, ⟨rfl, trivial⟩⟩⟩⟩⟩ | simp [lsub]) H
set_option maxHeartbeats 4000000 in
set_option maxRecDepth 100000 in
theorem vX9_addRow_0 {l : Launch} {d : Nat} {G : GS} {h : HP} {Q : Int → GS → HP → Prop} (a0 a1 a2 a3 a4 a5 : Int) (H : S l MX9_addRow (d, 0, 0, 0, 0) 3 [some (vR a0), some (vI a1), some (vI a2), some (vI a3), some (vI a4), some (vI a5), some (vI 0), none] [] G h Q) : S l MX9_addRow (d, 0, 0, 0, 0) 0 [some (vR a0), some (vI a1), some (vI a2), some (vI a3), some (vI a4), some (vI a5), none, none] [] G h Q := by
  refine s_iconst dX9_addRow_0 ?_
  refine s_istore dX9_addRow_1 (by decide) rfl ?_
  show S l MX9_addRow (d, 0, 0, 0, 0) 3 [some (vR a0), some (vI a1), some (vI a2), some (vI a3), some (vI a4), some (vI a5), some (vI 0), none] [] G h Q
  exact S_cut (by first | exact ⟨rfl, ⟨rfl, ⟨rfl, ⟨rfl, ⟨rfl, ⟨rfl, ⟨rfl, trivial⟩⟩⟩⟩⟩⟩⟩ | simp [lsub]) H
set_option maxHeartbeats 4000000 in
set_option maxRecDepth 100000 in
theorem vX9_addRow_3 {l : Launch} {d : Nat} {G : GS} {h : HP} {Q : Int → GS → HP → Prop} (a0 a1 a2 a3 a4 a5 a6 : Int) (H : (inR a6) ∧ ((9 ≤ a6 → Q 0 G h) ∧ (a6 < 9 → (ty G a0 = 9) ∧ (inA G 10 (h a0 3) (((27 * a1) + (9 * a2)) + a6)) ∧ (inA G 10 (h a0 3) (((27 * a3) + (9 * a4)) + a6)) ∧ (dvR ((h (h a0 3) (((27 * a1) + (9 * a2)) + a6)) + (a5 * (h (h a0 3) (((27 * a3) + (9 * a4)) + a6)))) (h a0 0)) ∧ ∀ h7 : HP, h7 = hset h (h a0 3) (((27 * a1) + (9 * a2)) + a6) (((h (h a0 3) (((27 * a1) + (9 * a2)) + a6)) + (a5 * (h (h a0 3) (((27 * a3) + (9 * a4)) + a6)))) % (h a0 0)) → S l MX9_addRow (d, 0, 0, 0, 0) 3 [some (vR a0), some (vI a1), some (vI a2), some (vI a3), some (vI a4), some (vI a5), some (vI (a6 + 1)), none] [] G h7 Q))) : S l MX9_addRow (d, 0, 0, 0, 0) 3 [some (vR a0), some (vI a1), some (vI a2), some (vI a3), some (vI a4), some (vI a5), some (vI a6), none] [] G h Q := by
  refine s_iload dX9_addRow_3 rfl ?_
  refine s_bipush dX9_addRow_5 (by decide) ?_
  have f1 := H.1
  replace H := H.2
  refine s_icmp_ge (tgt := 81) dX9_addRow_7 (by decide) f1 (by decide) (fun c2 => ?_) (fun c2 => ?_)
  · replace H := H.1 c2
    exact s_vret dX9_addRow_81 rfl ⟨Nat.le_refl _, Nat.le_refl _⟩ H
  · replace H := H.2 c2
    refine s_aload_n dX9_addRow_10 rfl rfl ?_
    have f3 := H.1
    replace H := H.2
    refine s_getf (c := 9) (k := 3) (t := 2) (j := 3) dX9_addRow_11 fl_X9_20 (by decide) (by decide) rfl rfl f3 ?_
    refine s_bipush dX9_addRow_14 (by decide) ?_
    refine s_iload_n dX9_addRow_16 rfl rfl ?_
    refine s_imul dX9_addRow_17 ?_
    refine s_bipush dX9_addRow_18 (by decide) ?_
    refine s_iload_n dX9_addRow_20 rfl rfl ?_
    refine s_imul dX9_addRow_21 ?_
    refine s_iadd dX9_addRow_22 ?_
    refine s_iload dX9_addRow_23 rfl ?_
    refine s_iadd dX9_addRow_25 ?_
    have f4 := H.1
    replace H := H.2
    refine s_iald dX9_addRow_26 f4 ?_
    refine s_iload dX9_addRow_27 rfl ?_
    refine s_aload_n dX9_addRow_29 rfl rfl ?_
    refine s_getf (c := 9) (k := 3) (t := 2) (j := 3) dX9_addRow_30 fl_X9_20 (by decide) (by decide) rfl rfl f3 ?_
    refine s_bipush dX9_addRow_33 (by decide) ?_
    refine s_iload_n dX9_addRow_35 rfl rfl ?_
    refine s_imul dX9_addRow_36 ?_
    refine s_bipush dX9_addRow_37 (by decide) ?_
    refine s_iload dX9_addRow_39 rfl ?_
    refine s_imul dX9_addRow_41 ?_
    refine s_iadd dX9_addRow_42 ?_
    refine s_iload dX9_addRow_43 rfl ?_
    refine s_iadd dX9_addRow_45 ?_
    have f5 := H.1
    replace H := H.2
    refine s_iald dX9_addRow_46 f5 ?_
    refine s_imul dX9_addRow_47 ?_
    refine s_iadd dX9_addRow_48 ?_
    refine s_istore dX9_addRow_49 (by decide) rfl ?_
    show S l MX9_addRow (d, 0, 0, 0, 0) 51 [some (vR a0), some (vI a1), some (vI a2), some (vI a3), some (vI a4), some (vI a5), some (vI a6), some (vI ((h (h a0 3) (((27 * a1) + (9 * a2)) + a6)) + (a5 * (h (h a0 3) (((27 * a3) + (9 * a4)) + a6)))))] [] G h Q
    refine s_aload_n dX9_addRow_51 rfl rfl ?_
    refine s_getf (c := 9) (k := 3) (t := 2) (j := 3) dX9_addRow_52 fl_X9_20 (by decide) (by decide) rfl rfl f3 ?_
    refine s_bipush dX9_addRow_55 (by decide) ?_
    refine s_iload_n dX9_addRow_57 rfl rfl ?_
    refine s_imul dX9_addRow_58 ?_
    refine s_bipush dX9_addRow_59 (by decide) ?_
    refine s_iload_n dX9_addRow_61 rfl rfl ?_
    refine s_imul dX9_addRow_62 ?_
    refine s_iadd dX9_addRow_63 ?_
    refine s_iload dX9_addRow_64 rfl ?_
    refine s_iadd dX9_addRow_66 ?_
    refine s_iload dX9_addRow_67 rfl ?_
    refine s_aload_n dX9_addRow_69 rfl rfl ?_
    refine s_getf (c := 9) (k := 0) (t := 0) (j := 0) dX9_addRow_70 fl_X9_7 (by decide) (by decide) rfl rfl f3 ?_
    have f6 := H.1
    replace H := H.2
    refine s_irem dX9_addRow_73 f6 ?_
    refine s_iastH dX9_addRow_74 f4 (fun h7 eh7 => ?_)
    replace H := H h7 eh7
    refine s_iinc dX9_addRow_75 rfl (by decide) rfl ?_
    show S l MX9_addRow (d, 0, 0, 0, 0) 78 [some (vR a0), some (vI a1), some (vI a2), some (vI a3), some (vI a4), some (vI a5), some (vI (a6 + 1)), some (vI ((h (h a0 3) (((27 * a1) + (9 * a2)) + a6)) + (a5 * (h (h a0 3) (((27 * a3) + (9 * a4)) + a6)))))] [] G h7 Q
    refine s_goto (tgt := 3) dX9_addRow_78 (by decide) ?_
    exact S_cut (by first | exact ⟨rfl, ⟨rfl, ⟨rfl, ⟨rfl, ⟨rfl, ⟨rfl, ⟨rfl, trivial⟩⟩⟩⟩⟩⟩⟩ | simp [lsub]) H
set_option maxHeartbeats 4000000 in
set_option maxRecDepth 100000 in
theorem vX9_move_0 {l : Launch} {d : Nat} {G : GS} {h : HP} {Q : Int → GS → HP → Prop} (a0 a1 a2 a3 : Int) (H : (inR a1) ∧ R l MX9_in d 0 0 [vL a1, vL 0, vL 2] G h (fun r2 G3 h4 => (inR r2) ∧ ((r2 = 0 → Q ((-1)) G3 h4) ∧ (r2 ≠ 0 → (ty G3 a0 = 9) ∧ R l MX9_isTime d 0 0 [vR a0, vI a2] G3 h4 (fun r7 G8 h9 => (inR r7) ∧ ((r7 = 0 → Q ((-1)) G8 h9) ∧ (r7 ≠ 0 → (ty G8 a0 = 9) ∧ R l MX9_isTime d 0 0 [vR a0, vI a3] G8 h9 (fun r13 G14 h15 => (inR r13) ∧ ((r13 = 0 → Q ((-1)) G14 h15) ∧ (r13 ≠ 0 → (inR a2) ∧ (inR a3) ∧ ((a2 ≠ a3 → (ty G14 a0 = 9) ∧ R l MX9_doMove d 0 0 [vR a0, vI a1, vI a2, vI a3] G14 h15 (fun r22 G23 h24 => (inR r22) ∧ ((r22 = 0 → Q ((-4)) G23 h24) ∧ (r22 ≠ 0 → Q 1 G23 h24)))) ∧ (a2 = a3 → Q ((-1)) G14 h15)))))))))))) : S l MX9_move (d + 1, 0, 0, 0, 0) 0 [some (vR a0), some (vI a1), some (vI a2), some (vI a3)] [] G h Q := by
  refine s_iload_n dX9_move_0 rfl rfl ?_
  have f1 := H.1
  replace H := H.2
  refine s_i2l dX9_move_1 f1 ?_
  refine s_lconst (v := 0) dX9_move_2 rfl ?_
  refine s_ldc2 (v := 2) dX9_move_3 kc_X9_130 ?_
  refine s_callS (M' := MX9_in) (As := [vL a1, vL 0, vL 2]) (st := []) dX9_move_6 ml_X9_97 cs_X9_in rfl rfl (Nat.le_of_ble_eq_true rfl) ⟨Nat.le_refl _, Nat.le_refl _⟩ (R_mono (fun r2 G3 h4 H => ?_) H)
  show S l MX9_move (d + 1, 0, 0, 0, 0) 9 [some (vR a0), some (vI a1), some (vI a2), some (vI a3)] [vI r2] G3 h4 Q
  have f5 := H.1
  replace H := H.2
  refine s_if_eq (tgt := 33) dX9_move_9 (by decide) f5 (fun c6 => ?_) (fun c6 => ?_)
  · replace H := H.1 c6
    refine s_iconst dX9_move_33 ?_
    exact s_iret dX9_move_34 rfl ⟨Nat.le_refl _, Nat.le_refl _⟩ H
  · replace H := H.2 c6
    refine s_aload_n dX9_move_12 rfl rfl ?_
    refine s_iload_n dX9_move_13 rfl rfl ?_
    have f10 := H.1
    replace H := H.2
    refine s_callV (M' := MX9_isTime) (As := [vI a2]) (a := a0) (st := []) dX9_move_14 ml_X9_126 cv_X9_isTime rfl rfl (Nat.le_of_ble_eq_true rfl) ⟨Nat.le_refl _, Nat.le_refl _⟩ f10 (R_mono (fun r7 G8 h9 H => ?_) H)
    show S l MX9_move (d + 1, 0, 0, 0, 0) 17 [some (vR a0), some (vI a1), some (vI a2), some (vI a3)] [vI r7] G8 h9 Q
    have f11 := H.1
    replace H := H.2
    refine s_if_eq (tgt := 33) dX9_move_17 (by decide) f11 (fun c12 => ?_) (fun c12 => ?_)
    · replace H := H.1 c12
      refine s_iconst dX9_move_33 ?_
      exact s_iret dX9_move_34 rfl ⟨Nat.le_refl _, Nat.le_refl _⟩ H
    · replace H := H.2 c12
      refine s_aload_n dX9_move_20 rfl rfl ?_
      refine s_iload_n dX9_move_21 rfl rfl ?_
      have f16 := H.1
      replace H := H.2
      refine s_callV (M' := MX9_isTime) (As := [vI a3]) (a := a0) (st := []) dX9_move_22 ml_X9_126 cv_X9_isTime rfl rfl (Nat.le_of_ble_eq_true rfl) ⟨Nat.le_refl _, Nat.le_refl _⟩ f16 (R_mono (fun r13 G14 h15 H => ?_) H)
      show S l MX9_move (d + 1, 0, 0, 0, 0) 25 [some (vR a0), some (vI a1), some (vI a2), some (vI a3)] [vI r13] G14 h15 Q
      have f17 := H.1
      replace H := H.2
      refine s_if_eq (tgt := 33) dX9_move_25 (by decide) f17 (fun c18 => ?_) (fun c18 => ?_)
      · replace H := H.1 c18
        refine s_iconst dX9_move_33 ?_
        exact s_iret dX9_move_34 rfl ⟨Nat.le_refl _, Nat.le_refl _⟩ H
      · replace H := H.2 c18
        refine s_iload_n dX9_move_28 rfl rfl ?_
        refine s_iload_n dX9_move_29 rfl rfl ?_
        have f19 := H.1
        replace H := H.2
        have f20 := H.1
        replace H := H.2
        refine s_icmp_ne (tgt := 35) dX9_move_30 (by decide) f19 f20 (fun c21 => ?_) (fun c21 => ?_)
        · replace H := H.1 c21
          refine s_aload_n dX9_move_35 rfl rfl ?_
          refine s_iload_n dX9_move_36 rfl rfl ?_
          refine s_iload_n dX9_move_37 rfl rfl ?_
          refine s_iload_n dX9_move_38 rfl rfl ?_
          have f25 := H.1
          replace H := H.2
          refine s_callV (M' := MX9_doMove) (As := [vI a1, vI a2, vI a3]) (a := a0) (st := []) dX9_move_39 ml_X9_170 cv_X9_doMove rfl rfl (Nat.le_of_ble_eq_true rfl) ⟨Nat.le_refl _, Nat.le_refl _⟩ f25 (R_mono (fun r22 G23 h24 H => ?_) H)
          show S l MX9_move (d + 1, 0, 0, 0, 0) 42 [some (vR a0), some (vI a1), some (vI a2), some (vI a3)] [vI r22] G23 h24 Q
          have f26 := H.1
          replace H := H.2
          refine s_if_eq (tgt := 49) dX9_move_42 (by decide) f26 (fun c27 => ?_) (fun c27 => ?_)
          · replace H := H.1 c27
            refine s_bipush dX9_move_49 (by decide) ?_
            exact s_iret dX9_move_51 rfl ⟨Nat.le_refl _, Nat.le_refl _⟩ H
          · replace H := H.2 c27
            refine s_iconst dX9_move_45 ?_
            refine s_goto (tgt := 51) dX9_move_46 (by decide) ?_
            exact s_iret dX9_move_51 rfl ⟨Nat.le_refl _, Nat.le_refl _⟩ H
        · replace H := H.2 c21
          refine s_iconst dX9_move_33 ?_
          exact s_iret dX9_move_34 rfl ⟨Nat.le_refl _, Nat.le_refl _⟩ H
set_option maxHeartbeats 4000000 in
set_option maxRecDepth 100000 in
theorem vX9_doMove_0 {l : Launch} {d : Nat} {G : GS} {h : HP} {Q : Int → GS → HP → Prop} (a0 a1 a2 a3 : Int) (H : (ty G a0 = 9) ∧ R l MX9_factor d 0 0 [vR a0, vI a2, vI a3, vI a1] G h (fun r1 G2 h3 => (inR r1) ∧ ((r1 ≠ 0 → (dvR (a1 + 1) 3) ∧ (dvR (a1 + 2) 3) ∧ S l MX9_doMove (d + 1, 0, 0, 0, 0) 33 [some (vR a0), some (vI a1), some (vI a2), some (vI a3), some (vI r1), some (vI ((a1 + 1) % 3)), some (vI ((a1 + 2) % 3)), some (vI 0)] [] G2 h3 Q) ∧ (r1 = 0 → Q 0 G2 h3)))) : S l MX9_doMove (d + 1, 0, 0, 0, 0) 0 [some (vR a0), some (vI a1), some (vI a2), some (vI a3), none, none, none, none] [] G h Q := by
  refine s_aload_n dX9_doMove_0 rfl rfl ?_
  refine s_iload_n dX9_doMove_1 rfl rfl ?_
  refine s_iload_n dX9_doMove_2 rfl rfl ?_
  refine s_iload_n dX9_doMove_3 rfl rfl ?_
  have f4 := H.1
  replace H := H.2
  refine s_callV (M' := MX9_factor) (As := [vI a2, vI a3, vI a1]) (a := a0) (st := []) dX9_doMove_4 ml_X9_153 cv_X9_factor rfl rfl (Nat.le_of_ble_eq_true rfl) ⟨Nat.le_refl _, Nat.le_refl _⟩ f4 (R_mono (fun r1 G2 h3 H => ?_) H)
  show S l MX9_doMove (d + 1, 0, 0, 0, 0) 7 [some (vR a0), some (vI a1), some (vI a2), some (vI a3), none, none, none, none] [vI r1] G2 h3 Q
  refine s_istore dX9_doMove_7 (by decide) rfl ?_
  show S l MX9_doMove (d + 1, 0, 0, 0, 0) 9 [some (vR a0), some (vI a1), some (vI a2), some (vI a3), some (vI r1), none, none, none] [] G2 h3 Q
  refine s_iload dX9_doMove_9 rfl ?_
  have f5 := H.1
  replace H := H.2
  refine s_if_ne (tgt := 16) dX9_doMove_11 (by decide) f5 (fun c6 => ?_) (fun c6 => ?_)
  · replace H := H.1 c6
    refine s_iload_n dX9_doMove_16 rfl rfl ?_
    refine s_iconst dX9_doMove_17 ?_
    refine s_iadd dX9_doMove_18 ?_
    refine s_iconst dX9_doMove_19 ?_
    have f7 := H.1
    replace H := H.2
    refine s_irem dX9_doMove_20 f7 ?_
    refine s_istore dX9_doMove_21 (by decide) rfl ?_
    show S l MX9_doMove (d + 1, 0, 0, 0, 0) 23 [some (vR a0), some (vI a1), some (vI a2), some (vI a3), some (vI r1), some (vI ((a1 + 1) % 3)), none, none] [] G2 h3 Q
    refine s_iload_n dX9_doMove_23 rfl rfl ?_
    refine s_iconst dX9_doMove_24 ?_
    refine s_iadd dX9_doMove_25 ?_
    refine s_iconst dX9_doMove_26 ?_
    have f8 := H.1
    replace H := H.2
    refine s_irem dX9_doMove_27 f8 ?_
    refine s_istore dX9_doMove_28 (by decide) rfl ?_
    show S l MX9_doMove (d + 1, 0, 0, 0, 0) 30 [some (vR a0), some (vI a1), some (vI a2), some (vI a3), some (vI r1), some (vI ((a1 + 1) % 3)), some (vI ((a1 + 2) % 3)), none] [] G2 h3 Q
    refine s_iconst dX9_doMove_30 ?_
    refine s_istore dX9_doMove_31 (by decide) rfl ?_
    show S l MX9_doMove (d + 1, 0, 0, 0, 0) 33 [some (vR a0), some (vI a1), some (vI a2), some (vI a3), some (vI r1), some (vI ((a1 + 1) % 3)), some (vI ((a1 + 2) % 3)), some (vI 0)] [] G2 h3 Q
    exact S_cut (by first | exact ⟨rfl, ⟨rfl, ⟨rfl, ⟨rfl, ⟨rfl, ⟨rfl, ⟨rfl, ⟨rfl, trivial⟩⟩⟩⟩⟩⟩⟩⟩ | simp [lsub]) H
  · replace H := H.2 c6
    refine s_iconst dX9_doMove_14 ?_
    exact s_zret dX9_doMove_15 rfl ⟨Nat.le_refl _, Nat.le_refl _⟩ (by decide) H
set_option maxHeartbeats 4000000 in
set_option maxRecDepth 100000 in
theorem vX9_doMove_33 {l : Launch} {d : Nat} {G : GS} {h : HP} {Q : Int → GS → HP → Prop} (a0 a1 a2 a3 a4 a5 a6 a7 : Int) (H : (inR a7) ∧ ((9 ≤ a7 → (ty G a0 = 9) ∧ R l MX9_addRow d 0 0 [vR a0, vI a2, vI a5, vI a3, vI a5, vI 1] G h (fun r3 G4 h5 => (ty G4 a0 = 9) ∧ R l MX9_addRow d 0 0 [vR a0, vI a3, vI a6, vI a2, vI a6, vI ((h5 a0 0) - 1)] G4 h5 (fun r8 G9 h10 => Q 1 G9 h10))) ∧ (a7 < 9 → (ty G a0 = 9) ∧ (inA G 10 (h a0 3) (((27 * a2) + (9 * a1)) + a7)) ∧ (inA G 10 (h a0 3) (((27 * a3) + (9 * a1)) + a7)) ∧ ∀ h14 : HP, h14 = hset h (h a0 3) (((27 * a3) + (9 * a1)) + a7) (h (h a0 3) (((27 * a2) + (9 * a1)) + a7)) → (inA G 10 (h14 a0 3) (((27 * a3) + (9 * a5)) + a7)) ∧ (dvR ((h14 (h14 a0 3) (((27 * a3) + (9 * a5)) + a7)) * a4) (h14 a0 0)) ∧ ∀ h17 : HP, h17 = hset h14 (h14 a0 3) (((27 * a3) + (9 * a5)) + a7) (((h14 (h14 a0 3) (((27 * a3) + (9 * a5)) + a7)) * a4) % (h14 a0 0)) → S l MX9_doMove (d + 1, 0, 0, 0, 0) 33 [some (vR a0), some (vI a1), some (vI a2), some (vI a3), some (vI a4), some (vI a5), some (vI a6), some (vI (a7 + 1))] [] G h17 Q))) : S l MX9_doMove (d + 1, 0, 0, 0, 0) 33 [some (vR a0), some (vI a1), some (vI a2), some (vI a3), some (vI a4), some (vI a5), some (vI a6), some (vI a7)] [] G h Q := by
  refine s_iload dX9_doMove_33 rfl ?_
  refine s_bipush dX9_doMove_35 (by decide) ?_
  have f1 := H.1
  replace H := H.2
  refine s_icmp_ge (tgt := 124) dX9_doMove_37 (by decide) f1 (by decide) (fun c2 => ?_) (fun c2 => ?_)
  · replace H := H.1 c2
    refine s_aload_n dX9_doMove_124 rfl rfl ?_
    refine s_iload_n dX9_doMove_125 rfl rfl ?_
    refine s_iload dX9_doMove_126 rfl ?_
    refine s_iload_n dX9_doMove_128 rfl rfl ?_
    refine s_iload dX9_doMove_129 rfl ?_
    refine s_iconst dX9_doMove_131 ?_
    have f6 := H.1
    replace H := H.2
    refine s_callV (M' := MX9_addRow) (As := [vI a2, vI a5, vI a3, vI a5, vI 1]) (a := a0) (st := []) dX9_doMove_132 ml_X9_156 cv_X9_addRow rfl rfl (Nat.le_of_ble_eq_true rfl) ⟨Nat.le_refl _, Nat.le_refl _⟩ f6 (R_mono (fun r3 G4 h5 H => ?_) H)
    show S l MX9_doMove (d + 1, 0, 0, 0, 0) 135 [some (vR a0), some (vI a1), some (vI a2), some (vI a3), some (vI a4), some (vI a5), some (vI a6), some (vI a7)] [] G4 h5 Q
    refine s_aload_n dX9_doMove_135 rfl rfl ?_
    refine s_iload_n dX9_doMove_136 rfl rfl ?_
    refine s_iload dX9_doMove_137 rfl ?_
    refine s_iload_n dX9_doMove_139 rfl rfl ?_
    refine s_iload dX9_doMove_140 rfl ?_
    refine s_aload_n dX9_doMove_142 rfl rfl ?_
    have f7 := H.1
    replace H := H.2
    refine s_getf (c := 9) (k := 0) (t := 0) (j := 0) dX9_doMove_143 fl_X9_7 (by decide) (by decide) rfl rfl f7 ?_
    refine s_iconst dX9_doMove_146 ?_
    refine s_isub dX9_doMove_147 ?_
    refine s_callV (M' := MX9_addRow) (As := [vI a3, vI a6, vI a2, vI a6, vI ((h5 a0 0) - 1)]) (a := a0) (st := []) dX9_doMove_148 ml_X9_156 cv_X9_addRow rfl rfl (Nat.le_of_ble_eq_true rfl) ⟨Nat.le_refl _, Nat.le_refl _⟩ f7 (R_mono (fun r8 G9 h10 H => ?_) H)
    show S l MX9_doMove (d + 1, 0, 0, 0, 0) 151 [some (vR a0), some (vI a1), some (vI a2), some (vI a3), some (vI a4), some (vI a5), some (vI a6), some (vI a7)] [] G9 h10 Q
    refine s_iconst dX9_doMove_151 ?_
    exact s_zret dX9_doMove_152 rfl ⟨Nat.le_refl _, Nat.le_refl _⟩ (by decide) H
  · replace H := H.2 c2
    refine s_aload_n dX9_doMove_40 rfl rfl ?_
    have f11 := H.1
    replace H := H.2
    refine s_getf (c := 9) (k := 3) (t := 2) (j := 3) dX9_doMove_41 fl_X9_20 (by decide) (by decide) rfl rfl f11 ?_
    refine s_bipush dX9_doMove_44 (by decide) ?_
    refine s_iload_n dX9_doMove_46 rfl rfl ?_
    refine s_imul dX9_doMove_47 ?_
    refine s_bipush dX9_doMove_48 (by decide) ?_
    refine s_iload_n dX9_doMove_50 rfl rfl ?_
    refine s_imul dX9_doMove_51 ?_
    refine s_iadd dX9_doMove_52 ?_
    refine s_iload dX9_doMove_53 rfl ?_
    refine s_iadd dX9_doMove_55 ?_
    refine s_aload_n dX9_doMove_56 rfl rfl ?_
    refine s_getf (c := 9) (k := 3) (t := 2) (j := 3) dX9_doMove_57 fl_X9_20 (by decide) (by decide) rfl rfl f11 ?_
    refine s_bipush dX9_doMove_60 (by decide) ?_
    refine s_iload_n dX9_doMove_62 rfl rfl ?_
    refine s_imul dX9_doMove_63 ?_
    refine s_bipush dX9_doMove_64 (by decide) ?_
    refine s_iload_n dX9_doMove_66 rfl rfl ?_
    refine s_imul dX9_doMove_67 ?_
    refine s_iadd dX9_doMove_68 ?_
    refine s_iload dX9_doMove_69 rfl ?_
    refine s_iadd dX9_doMove_71 ?_
    have f12 := H.1
    replace H := H.2
    refine s_iald dX9_doMove_72 f12 ?_
    have f13 := H.1
    replace H := H.2
    refine s_iastH dX9_doMove_73 f13 (fun h14 eh14 => ?_)
    replace H := H h14 eh14
    refine s_aload_n dX9_doMove_74 rfl rfl ?_
    refine s_getf (c := 9) (k := 3) (t := 2) (j := 3) dX9_doMove_75 fl_X9_20 (by decide) (by decide) rfl rfl f11 ?_
    refine s_bipush dX9_doMove_78 (by decide) ?_
    refine s_iload_n dX9_doMove_80 rfl rfl ?_
    refine s_imul dX9_doMove_81 ?_
    refine s_bipush dX9_doMove_82 (by decide) ?_
    refine s_iload dX9_doMove_84 rfl ?_
    refine s_imul dX9_doMove_86 ?_
    refine s_iadd dX9_doMove_87 ?_
    refine s_iload dX9_doMove_88 rfl ?_
    refine s_iadd dX9_doMove_90 ?_
    refine s_aload_n dX9_doMove_91 rfl rfl ?_
    refine s_getf (c := 9) (k := 3) (t := 2) (j := 3) dX9_doMove_92 fl_X9_20 (by decide) (by decide) rfl rfl f11 ?_
    refine s_bipush dX9_doMove_95 (by decide) ?_
    refine s_iload_n dX9_doMove_97 rfl rfl ?_
    refine s_imul dX9_doMove_98 ?_
    refine s_bipush dX9_doMove_99 (by decide) ?_
    refine s_iload dX9_doMove_101 rfl ?_
    refine s_imul dX9_doMove_103 ?_
    refine s_iadd dX9_doMove_104 ?_
    refine s_iload dX9_doMove_105 rfl ?_
    refine s_iadd dX9_doMove_107 ?_
    have f15 := H.1
    replace H := H.2
    refine s_iald dX9_doMove_108 f15 ?_
    refine s_iload dX9_doMove_109 rfl ?_
    refine s_imul dX9_doMove_111 ?_
    refine s_aload_n dX9_doMove_112 rfl rfl ?_
    refine s_getf (c := 9) (k := 0) (t := 0) (j := 0) dX9_doMove_113 fl_X9_7 (by decide) (by decide) rfl rfl f11 ?_
    have f16 := H.1
    replace H := H.2
    refine s_irem dX9_doMove_116 f16 ?_
    refine s_iastH dX9_doMove_117 f15 (fun h17 eh17 => ?_)
    replace H := H h17 eh17
    refine s_iinc dX9_doMove_118 rfl (by decide) rfl ?_
    show S l MX9_doMove (d + 1, 0, 0, 0, 0) 121 [some (vR a0), some (vI a1), some (vI a2), some (vI a3), some (vI a4), some (vI a5), some (vI a6), some (vI (a7 + 1))] [] G h17 Q
    refine s_goto (tgt := 33) dX9_doMove_121 (by decide) ?_
    exact S_cut (by first | exact ⟨rfl, ⟨rfl, ⟨rfl, ⟨rfl, ⟨rfl, ⟨rfl, ⟨rfl, ⟨rfl, trivial⟩⟩⟩⟩⟩⟩⟩⟩ | simp [lsub]) H
set_option maxHeartbeats 4000000 in
set_option maxRecDepth 100000 in
theorem vX9_walk_0 {l : Launch} {d : Nat} {G : GS} {h : HP} {Q : Int → GS → HP → Prop} (a0 a1 a2 : Int) (H : (inR a2) ∧ R l MX9_in d 0 0 [vL a2, vL 0, vL 200] G h (fun r2 G3 h4 => (inR r2) ∧ ((r2 ≠ 0 → S l MX9_walk (d + 1, 0, 0, 0, 0) 19 [some (vR a0), none, some (vI a2), some (vI a1), some (vI 0), none, none] [] G3 h4 Q) ∧ (r2 = 0 → Q ((-1)) G3 h4)))) : S l MX9_walk (d + 1, 0, 0, 0, 0) 0 [some (vR a0), some (vI a1), some (vI a2), none, none, none, none] [] G h Q := by
  refine s_iload_n dX9_walk_0 rfl rfl ?_
  have f1 := H.1
  replace H := H.2
  refine s_i2l dX9_walk_1 f1 ?_
  refine s_lconst (v := 0) dX9_walk_2 rfl ?_
  refine s_ldc2 (v := 200) dX9_walk_3 kc_X9_173 ?_
  refine s_callS (M' := MX9_in) (As := [vL a2, vL 0, vL 200]) (st := []) dX9_walk_6 ml_X9_97 cs_X9_in rfl rfl (Nat.le_of_ble_eq_true rfl) ⟨Nat.le_refl _, Nat.le_refl _⟩ (R_mono (fun r2 G3 h4 H => ?_) H)
  show S l MX9_walk (d + 1, 0, 0, 0, 0) 9 [some (vR a0), some (vI a1), some (vI a2), none, none, none, none] [vI r2] G3 h4 Q
  have f5 := H.1
  replace H := H.2
  refine s_if_ne (tgt := 14) dX9_walk_9 (by decide) f5 (fun c6 => ?_) (fun c6 => ?_)
  · replace H := H.1 c6
    refine s_iload_n dX9_walk_14 rfl rfl ?_
    refine s_istore_n dX9_walk_15 rfl (by decide) rfl ?_
    show S l MX9_walk (d + 1, 0, 0, 0, 0) 16 [some (vR a0), some (vI a1), some (vI a2), some (vI a1), none, none, none] [] G3 h4 Q
    refine s_iconst dX9_walk_16 ?_
    refine s_istore dX9_walk_17 (by decide) rfl ?_
    show S l MX9_walk (d + 1, 0, 0, 0, 0) 19 [some (vR a0), some (vI a1), some (vI a2), some (vI a1), some (vI 0), none, none] [] G3 h4 Q
    exact S_cut (by first | exact ⟨rfl, ⟨rfl, ⟨rfl, ⟨rfl, trivial⟩⟩⟩⟩ | simp [lsub]) H
  · replace H := H.2 c6
    refine s_iconst dX9_walk_12 ?_
    exact s_iret dX9_walk_13 rfl ⟨Nat.le_refl _, Nat.le_refl _⟩ H
set_option maxHeartbeats 4000000 in
set_option maxRecDepth 100000 in
theorem vX9_walk_19 {l : Launch} {d : Nat} {G : GS} {h : HP} {Q : Int → GS → HP → Prop} (a0 a2 a3 a4 : Int) (H : (inR a4) ∧ (inR a2) ∧ ((a2 ≤ a4 → (ty G a0 = 9) ∧ Q (h a0 4) G h) ∧ (a4 < a2 → (ty G a0 = 9) ∧ R l MX9_moves d 0 0 [vR a0] G h (fun r5 G6 h7 => (inR r5) ∧ ((r5 ≠ 0 → (dvR (((1103515245 * a3) + 12345) % 4294967296 / 65536) r5) ∧ (ty G6 a0 = 9) ∧ R l MX9_moveOf d 0 0 [vR a0, vI ((((1103515245 * a3) + 12345) % 4294967296 / 65536) % r5)] G6 h7 (fun r12 G13 h14 => (ty G13 a0 = 9) ∧ R l MX9_less d 0 0 [vR a0] G13 h14 (fun r16 G17 h18 => S l MX9_walk (d + 1, 0, 0, 0, 0) 19 [some (vR a0), none, some (vI a2), some (vI ((1103515245 * a3) + 12345)), some (vI (a4 + 1)), none, none] [] G17 h18 Q))) ∧ (r5 = 0 → (ty G6 a0 = 9) ∧ Q (h7 a0 4) G6 h7)))))) : S l MX9_walk (d + 1, 0, 0, 0, 0) 19 [some (vR a0), none, some (vI a2), some (vI a3), some (vI a4), none, none] [] G h Q := by
  refine s_iload dX9_walk_19 rfl ?_
  refine s_iload_n dX9_walk_21 rfl rfl ?_
  have f1 := H.1
  replace H := H.2
  have f2 := H.1
  replace H := H.2
  refine s_icmp_ge (tgt := 73) dX9_walk_22 (by decide) f1 f2 (fun c3 => ?_) (fun c3 => ?_)
  · replace H := H.1 c3
    refine s_aload_n dX9_walk_73 rfl rfl ?_
    have f4 := H.1
    replace H := H.2
    refine s_getf (c := 9) (k := 4) (t := 0) (j := 4) dX9_walk_74 fl_X9_85 (by decide) (by decide) rfl rfl f4 ?_
    exact s_iret dX9_walk_77 rfl ⟨Nat.le_refl _, Nat.le_refl _⟩ H
  · replace H := H.2 c3
    refine s_aload_n dX9_walk_25 rfl rfl ?_
    have f8 := H.1
    replace H := H.2
    refine s_callV (M' := MX9_moves) (As := []) (a := a0) (st := []) dX9_walk_26 ml_X9_112 cv_X9_moves rfl rfl (Nat.le_of_ble_eq_true rfl) ⟨Nat.le_refl _, Nat.le_refl _⟩ f8 (R_mono (fun r5 G6 h7 H => ?_) H)
    show S l MX9_walk (d + 1, 0, 0, 0, 0) 29 [some (vR a0), none, some (vI a2), some (vI a3), some (vI a4), none, none] [vI r5] G6 h7 Q
    refine s_istore dX9_walk_29 (by decide) rfl ?_
    show S l MX9_walk (d + 1, 0, 0, 0, 0) 31 [some (vR a0), none, some (vI a2), some (vI a3), some (vI a4), some (vI r5), none] [] G6 h7 Q
    refine s_iload dX9_walk_31 rfl ?_
    have f9 := H.1
    replace H := H.2
    refine s_if_ne (tgt := 41) dX9_walk_33 (by decide) f9 (fun c10 => ?_) (fun c10 => ?_)
    · replace H := H.1 c10
      refine s_ldc (v := 1103515245) dX9_walk_41 kc_X9_175 ?_
      refine s_iload_n dX9_walk_43 rfl rfl ?_
      refine s_imul dX9_walk_44 ?_
      refine s_sipush dX9_walk_45 (by decide) ?_
      refine s_iadd dX9_walk_48 ?_
      refine s_istore_n dX9_walk_49 rfl (by decide) rfl ?_
      show S l MX9_walk (d + 1, 0, 0, 0, 0) 50 [some (vR a0), none, some (vI a2), some (vI ((1103515245 * a3) + 12345)), some (vI a4), some (vI r5), none] [] G6 h7 Q
      refine s_aload_n dX9_walk_50 rfl rfl ?_
      refine s_iload_n dX9_walk_51 rfl rfl ?_
      refine s_bipush dX9_walk_52 (by decide) ?_
      refine s_iushr16 dX9_walk_54 ?_
      refine s_iload dX9_walk_55 rfl ?_
      have f11 := H.1
      replace H := H.2
      refine s_irem dX9_walk_57 f11 ?_
      have f15 := H.1
      replace H := H.2
      refine s_callV (M' := MX9_moveOf) (As := [vI ((((1103515245 * a3) + 12345) % 4294967296 / 65536) % r5)]) (a := a0) (st := []) dX9_walk_58 ml_X9_176 cv_X9_moveOf rfl rfl (Nat.le_of_ble_eq_true rfl) ⟨Nat.le_refl _, Nat.le_refl _⟩ f15 (R_mono (fun r12 G13 h14 H => ?_) H)
      show S l MX9_walk (d + 1, 0, 0, 0, 0) 61 [some (vR a0), none, some (vI a2), some (vI ((1103515245 * a3) + 12345)), some (vI a4), some (vI r5), none] [] G13 h14 Q
      refine s_aload_n dX9_walk_61 rfl rfl ?_
      have f19 := H.1
      replace H := H.2
      refine s_callV (M' := MX9_less) (As := []) (a := a0) (st := []) dX9_walk_62 ml_X9_179 cv_X9_less rfl rfl (Nat.le_of_ble_eq_true rfl) ⟨Nat.le_refl _, Nat.le_refl _⟩ f19 (R_mono (fun r16 G17 h18 H => ?_) H)
      show S l MX9_walk (d + 1, 0, 0, 0, 0) 65 [some (vR a0), none, some (vI a2), some (vI ((1103515245 * a3) + 12345)), some (vI a4), some (vI r5), none] [vI r16] G17 h18 Q
      refine s_istore dX9_walk_65 (by decide) rfl ?_
      show S l MX9_walk (d + 1, 0, 0, 0, 0) 67 [some (vR a0), none, some (vI a2), some (vI ((1103515245 * a3) + 12345)), some (vI a4), some (vI r5), some (vI r16)] [] G17 h18 Q
      refine s_iinc dX9_walk_67 rfl (by decide) rfl ?_
      show S l MX9_walk (d + 1, 0, 0, 0, 0) 70 [some (vR a0), none, some (vI a2), some (vI ((1103515245 * a3) + 12345)), some (vI (a4 + 1)), some (vI r5), some (vI r16)] [] G17 h18 Q
      refine s_goto (tgt := 19) dX9_walk_70 (by decide) ?_
      exact S_cut (by first | exact ⟨rfl, ⟨rfl, ⟨rfl, ⟨rfl, trivial⟩⟩⟩⟩ | simp [lsub]) H
    · replace H := H.2 c10
      refine s_aload_n dX9_walk_36 rfl rfl ?_
      have f20 := H.1
      replace H := H.2
      refine s_getf (c := 9) (k := 4) (t := 0) (j := 4) dX9_walk_37 fl_X9_85 (by decide) (by decide) rfl rfl f20 ?_
      exact s_iret dX9_walk_40 rfl ⟨Nat.le_refl _, Nat.le_refl _⟩ H
set_option maxHeartbeats 4000000 in
set_option maxRecDepth 100000 in
theorem vX9_moveOf_0 {l : Launch} {d : Nat} {G : GS} {h : HP} {Q : Int → GS → HP → Prop} (a0 a1 : Int) (H : S l MX9_moveOf (d + 1, 0, 0, 0, 0) 4 [some (vR a0), none, some (vI a1), some (vI 0), none, none, none] [] G h Q) : S l MX9_moveOf (d + 1, 0, 0, 0, 0) 0 [some (vR a0), some (vI a1), none, none, none, none, none] [] G h Q := by
  refine s_iload_n dX9_moveOf_0 rfl rfl ?_
  refine s_istore_n dX9_moveOf_1 rfl (by decide) rfl ?_
  show S l MX9_moveOf (d + 1, 0, 0, 0, 0) 2 [some (vR a0), some (vI a1), some (vI a1), none, none, none, none] [] G h Q
  refine s_iconst dX9_moveOf_2 ?_
  refine s_istore_n dX9_moveOf_3 rfl (by decide) rfl ?_
  show S l MX9_moveOf (d + 1, 0, 0, 0, 0) 4 [some (vR a0), some (vI a1), some (vI a1), some (vI 0), none, none, none] [] G h Q
  exact S_cut (by first | exact ⟨rfl, ⟨rfl, ⟨rfl, trivial⟩⟩⟩ | simp [lsub]) H
set_option maxHeartbeats 4000000 in
set_option maxRecDepth 100000 in
theorem vX9_moveOf_4 {l : Launch} {d : Nat} {G : GS} {h : HP} {Q : Int → GS → HP → Prop} (a0 a2 a3 : Int) (H : (inR a3) ∧ ((3 ≤ a3 → Q 0 G h) ∧ (a3 < 3 → S l MX9_moveOf (d + 1, 0, 0, 0, 0) 12 [some (vR a0), none, some (vI a2), some (vI a3), some (vI 0), none, none] [] G h Q))) : S l MX9_moveOf (d + 1, 0, 0, 0, 0) 4 [some (vR a0), none, some (vI a2), some (vI a3), none, none, none] [] G h Q := by
  refine s_iload_n dX9_moveOf_4 rfl rfl ?_
  refine s_iconst dX9_moveOf_5 ?_
  have f1 := H.1
  replace H := H.2
  refine s_icmp_ge (tgt := 89) dX9_moveOf_6 (by decide) f1 (by decide) (fun c2 => ?_) (fun c2 => ?_)
  · replace H := H.1 c2
    exact s_vret dX9_moveOf_89 rfl ⟨Nat.le_refl _, Nat.le_refl _⟩ H
  · replace H := H.2 c2
    refine s_iconst dX9_moveOf_9 ?_
    refine s_istore dX9_moveOf_10 (by decide) rfl ?_
    show S l MX9_moveOf (d + 1, 0, 0, 0, 0) 12 [some (vR a0), none, some (vI a2), some (vI a3), some (vI 0), none, none] [] G h Q
    exact S_cut (by first | exact ⟨rfl, ⟨rfl, ⟨rfl, ⟨rfl, trivial⟩⟩⟩⟩ | simp [lsub]) H
set_option maxHeartbeats 4000000 in
set_option maxRecDepth 100000 in
theorem vX9_moveOf_12 {l : Launch} {d : Nat} {G : GS} {h : HP} {Q : Int → GS → HP → Prop} (a0 a2 a3 a4 : Int) (H : (ty G a0 = 9) ∧ (inR a4) ∧ (inR (h a0 4)) ∧ (((h a0 4) ≤ a4 → S l MX9_moveOf (d + 1, 0, 0, 0, 0) 4 [some (vR a0), none, some (vI a2), some (vI (a3 + 1)), none, none, none] [] G h Q) ∧ (a4 < (h a0 4) → S l MX9_moveOf (d + 1, 0, 0, 0, 0) 24 [some (vR a0), none, some (vI a2), some (vI a3), some (vI a4), some (vI 0), none] [] G h Q))) : S l MX9_moveOf (d + 1, 0, 0, 0, 0) 12 [some (vR a0), none, some (vI a2), some (vI a3), some (vI a4), none, none] [] G h Q := by
  refine s_iload dX9_moveOf_12 rfl ?_
  refine s_aload_n dX9_moveOf_14 rfl rfl ?_
  have f1 := H.1
  replace H := H.2
  refine s_getf (c := 9) (k := 4) (t := 0) (j := 4) dX9_moveOf_15 fl_X9_85 (by decide) (by decide) rfl rfl f1 ?_
  have f2 := H.1
  replace H := H.2
  have f3 := H.1
  replace H := H.2
  refine s_icmp_ge (tgt := 83) dX9_moveOf_18 (by decide) f2 f3 (fun c4 => ?_) (fun c4 => ?_)
  · replace H := H.1 c4
    refine s_iinc dX9_moveOf_83 rfl (by decide) rfl ?_
    show S l MX9_moveOf (d + 1, 0, 0, 0, 0) 86 [some (vR a0), none, some (vI a2), some (vI (a3 + 1)), some (vI a4), none, none] [] G h Q
    refine s_goto (tgt := 4) dX9_moveOf_86 (by decide) ?_
    exact S_cut (by first | exact ⟨rfl, ⟨rfl, ⟨rfl, trivial⟩⟩⟩ | simp [lsub]) H
  · replace H := H.2 c4
    refine s_iconst dX9_moveOf_21 ?_
    refine s_istore dX9_moveOf_22 (by decide) rfl ?_
    show S l MX9_moveOf (d + 1, 0, 0, 0, 0) 24 [some (vR a0), none, some (vI a2), some (vI a3), some (vI a4), some (vI 0), none] [] G h Q
    exact S_cut (by first | exact ⟨rfl, ⟨rfl, ⟨rfl, ⟨rfl, ⟨rfl, trivial⟩⟩⟩⟩⟩ | simp [lsub]) H
set_option maxHeartbeats 4000000 in
set_option maxRecDepth 100000 in
theorem vX9_moveOf_24 {l : Launch} {d : Nat} {G : GS} {h : HP} {Q : Int → GS → HP → Prop} (a0 a2 a3 a4 a5 : Int) (H : (ty G a0 = 9) ∧ (inR a5) ∧ (inR (h a0 4)) ∧ (((h a0 4) ≤ a5 → S l MX9_moveOf (d + 1, 0, 0, 0, 0) 12 [some (vR a0), none, some (vI a2), some (vI a3), some (vI (a4 + 1)), none, none] [] G h Q) ∧ (a5 < (h a0 4) → (inR a4) ∧ ((a4 = a5 → S l MX9_moveOf (d + 1, 0, 0, 0, 0) 24 [some (vR a0), none, some (vI a2), some (vI a3), some (vI a4), some (vI (a5 + 1)), none] [] G h Q) ∧ (a4 ≠ a5 → R l MX9_factor d 0 0 [vR a0, vI a4, vI a5, vI a3] G h (fun r7 G8 h9 => (inR r7) ∧ ((r7 ≤ 0 → S l MX9_moveOf (d + 1, 0, 0, 0, 0) 24 [some (vR a0), none, some (vI a2), some (vI a3), some (vI a4), some (vI (a5 + 1)), none] [] G8 h9 Q) ∧ (0 < r7 → (inR a2) ∧ ((a2 ≠ 0 → S l MX9_moveOf (d + 1, 0, 0, 0, 0) 24 [some (vR a0), none, some (vI (a2 + (-1))), some (vI a3), some (vI a4), some (vI (a5 + 1)), none] [] G8 h9 Q) ∧ (a2 = 0 → (ty G8 a0 = 9) ∧ R l MX9_doMove d 0 0 [vR a0, vI a3, vI a4, vI a5] G8 h9 (fun r14 G15 h16 => Q 0 G15 h16))))))))))) : S l MX9_moveOf (d + 1, 0, 0, 0, 0) 24 [some (vR a0), none, some (vI a2), some (vI a3), some (vI a4), some (vI a5), none] [] G h Q := by
  refine s_iload dX9_moveOf_24 rfl ?_
  refine s_aload_n dX9_moveOf_26 rfl rfl ?_
  have f1 := H.1
  replace H := H.2
  refine s_getf (c := 9) (k := 4) (t := 0) (j := 4) dX9_moveOf_27 fl_X9_85 (by decide) (by decide) rfl rfl f1 ?_
  have f2 := H.1
  replace H := H.2
  have f3 := H.1
  replace H := H.2
  refine s_icmp_ge (tgt := 77) dX9_moveOf_30 (by decide) f2 f3 (fun c4 => ?_) (fun c4 => ?_)
  · replace H := H.1 c4
    refine s_iinc dX9_moveOf_77 rfl (by decide) rfl ?_
    show S l MX9_moveOf (d + 1, 0, 0, 0, 0) 80 [some (vR a0), none, some (vI a2), some (vI a3), some (vI (a4 + 1)), some (vI a5), none] [] G h Q
    refine s_goto (tgt := 12) dX9_moveOf_80 (by decide) ?_
    exact S_cut (by first | exact ⟨rfl, ⟨rfl, ⟨rfl, ⟨rfl, trivial⟩⟩⟩⟩ | simp [lsub]) H
  · replace H := H.2 c4
    refine s_iload dX9_moveOf_33 rfl ?_
    refine s_iload dX9_moveOf_35 rfl ?_
    have f5 := H.1
    replace H := H.2
    refine s_icmp_eq (tgt := 71) dX9_moveOf_37 (by decide) f5 f2 (fun c6 => ?_) (fun c6 => ?_)
    · replace H := H.1 c6
      refine s_iinc dX9_moveOf_71 rfl (by decide) rfl ?_
      show S l MX9_moveOf (d + 1, 0, 0, 0, 0) 74 [some (vR a0), none, some (vI a2), some (vI a3), some (vI a4), some (vI (a5 + 1)), none] [] G h Q
      refine s_goto (tgt := 24) dX9_moveOf_74 (by decide) ?_
      exact S_cut (by first | exact ⟨rfl, ⟨rfl, ⟨rfl, ⟨rfl, ⟨rfl, trivial⟩⟩⟩⟩⟩ | simp [lsub]) H
    · replace H := H.2 c6
      refine s_aload_n dX9_moveOf_40 rfl rfl ?_
      refine s_iload dX9_moveOf_41 rfl ?_
      refine s_iload dX9_moveOf_43 rfl ?_
      refine s_iload_n dX9_moveOf_45 rfl rfl ?_
      refine s_callV (M' := MX9_factor) (As := [vI a4, vI a5, vI a3]) (a := a0) (st := []) dX9_moveOf_46 ml_X9_153 cv_X9_factor rfl rfl (Nat.le_of_ble_eq_true rfl) ⟨Nat.le_refl _, Nat.le_refl _⟩ f1 (R_mono (fun r7 G8 h9 H => ?_) H)
      show S l MX9_moveOf (d + 1, 0, 0, 0, 0) 49 [some (vR a0), none, some (vI a2), some (vI a3), some (vI a4), some (vI a5), none] [vI r7] G8 h9 Q
      have f10 := H.1
      replace H := H.2
      refine s_if_le (tgt := 71) dX9_moveOf_49 (by decide) f10 (fun c11 => ?_) (fun c11 => ?_)
      · replace H := H.1 c11
        refine s_iinc dX9_moveOf_71 rfl (by decide) rfl ?_
        show S l MX9_moveOf (d + 1, 0, 0, 0, 0) 74 [some (vR a0), none, some (vI a2), some (vI a3), some (vI a4), some (vI (a5 + 1)), none] [] G8 h9 Q
        refine s_goto (tgt := 24) dX9_moveOf_74 (by decide) ?_
        exact S_cut (by first | exact ⟨rfl, ⟨rfl, ⟨rfl, ⟨rfl, ⟨rfl, trivial⟩⟩⟩⟩⟩ | simp [lsub]) H
      · replace H := H.2 c11
        refine s_iload_n dX9_moveOf_52 rfl rfl ?_
        have f12 := H.1
        replace H := H.2
        refine s_if_ne (tgt := 68) dX9_moveOf_53 (by decide) f12 (fun c13 => ?_) (fun c13 => ?_)
        · replace H := H.1 c13
          refine s_iinc dX9_moveOf_68 rfl (by decide) rfl ?_
          show S l MX9_moveOf (d + 1, 0, 0, 0, 0) 71 [some (vR a0), none, some (vI (a2 + (-1))), some (vI a3), some (vI a4), some (vI a5), none] [] G8 h9 Q
          refine s_iinc dX9_moveOf_71 rfl (by decide) rfl ?_
          show S l MX9_moveOf (d + 1, 0, 0, 0, 0) 74 [some (vR a0), none, some (vI (a2 + (-1))), some (vI a3), some (vI a4), some (vI (a5 + 1)), none] [] G8 h9 Q
          refine s_goto (tgt := 24) dX9_moveOf_74 (by decide) ?_
          exact S_cut (by first | exact ⟨rfl, ⟨rfl, ⟨rfl, ⟨rfl, ⟨rfl, trivial⟩⟩⟩⟩⟩ | simp [lsub]) H
        · replace H := H.2 c13
          refine s_aload_n dX9_moveOf_56 rfl rfl ?_
          refine s_iload_n dX9_moveOf_57 rfl rfl ?_
          refine s_iload dX9_moveOf_58 rfl ?_
          refine s_iload dX9_moveOf_60 rfl ?_
          have f17 := H.1
          replace H := H.2
          refine s_callV (M' := MX9_doMove) (As := [vI a3, vI a4, vI a5]) (a := a0) (st := []) dX9_moveOf_62 ml_X9_170 cv_X9_doMove rfl rfl (Nat.le_of_ble_eq_true rfl) ⟨Nat.le_refl _, Nat.le_refl _⟩ f17 (R_mono (fun r14 G15 h16 H => ?_) H)
          show S l MX9_moveOf (d + 1, 0, 0, 0, 0) 65 [some (vR a0), none, some (vI a2), some (vI a3), some (vI a4), some (vI a5), none] [vI r14] G15 h16 Q
          refine s_istore dX9_moveOf_65 (by decide) rfl ?_
          show S l MX9_moveOf (d + 1, 0, 0, 0, 0) 67 [some (vR a0), none, some (vI a2), some (vI a3), some (vI a4), some (vI a5), some (vI r14)] [] G15 h16 Q
          exact s_vret dX9_moveOf_67 rfl ⟨Nat.le_refl _, Nat.le_refl _⟩ H
set_option maxHeartbeats 4000000 in
set_option maxRecDepth 100000 in
theorem vX9_around_0 {l : Launch} {d : Nat} {G : GS} {h : HP} {Q : Int → GS → HP → Prop} (a0 : Int) (H : S l MX9_around (d + 1, 0, 0, 0, 0) 2 [some (vR a0), some (vI 0), none, none] [] G h Q) : S l MX9_around (d + 1, 0, 0, 0, 0) 0 [some (vR a0), none, none, none] [] G h Q := by
  refine s_iconst dX9_around_0 ?_
  refine s_istore_n dX9_around_1 rfl (by decide) rfl ?_
  show S l MX9_around (d + 1, 0, 0, 0, 0) 2 [some (vR a0), some (vI 0), none, none] [] G h Q
  exact S_cut (by first | exact ⟨rfl, ⟨rfl, trivial⟩⟩ | simp [lsub]) H
set_option maxHeartbeats 4000000 in
set_option maxRecDepth 100000 in
theorem vX9_around_2 {l : Launch} {d : Nat} {G : GS} {h : HP} {Q : Int → GS → HP → Prop} (a0 a1 : Int) (H : (inR a1) ∧ ((9 ≤ a1 → S l MX9_around (d + 1, 0, 0, 0, 0) 76 [some (vR a0), some (vI 0), none, none] [] G h Q) ∧ (a1 < 9 → S l MX9_around (d + 1, 0, 0, 0, 0) 10 [some (vR a0), some (vI a1), some (vI 0), none] [] G h Q))) : S l MX9_around (d + 1, 0, 0, 0, 0) 2 [some (vR a0), some (vI a1), none, none] [] G h Q := by
  refine s_iload_n dX9_around_2 rfl rfl ?_
  refine s_bipush dX9_around_3 (by decide) ?_
  have f1 := H.1
  replace H := H.2
  refine s_icmp_ge (tgt := 74) dX9_around_5 (by decide) f1 (by decide) (fun c2 => ?_) (fun c2 => ?_)
  · replace H := H.1 c2
    refine s_iconst dX9_around_74 ?_
    refine s_istore_n dX9_around_75 rfl (by decide) rfl ?_
    show S l MX9_around (d + 1, 0, 0, 0, 0) 76 [some (vR a0), some (vI 0), none, none] [] G h Q
    exact S_cut (by first | exact ⟨rfl, ⟨rfl, trivial⟩⟩ | simp [lsub]) H
  · replace H := H.2 c2
    refine s_iconst dX9_around_8 ?_
    refine s_istore_n dX9_around_9 rfl (by decide) rfl ?_
    show S l MX9_around (d + 1, 0, 0, 0, 0) 10 [some (vR a0), some (vI a1), some (vI 0), none] [] G h Q
    exact S_cut (by first | exact ⟨rfl, ⟨rfl, ⟨rfl, trivial⟩⟩⟩ | simp [lsub]) H
set_option maxHeartbeats 4000000 in
set_option maxRecDepth 100000 in
theorem vX9_around_76 {l : Launch} {d : Nat} {G : GS} {h : HP} {Q : Int → GS → HP → Prop} (a0 a1 : Int) (H : (inR a1) ∧ ((729 ≤ a1 → S l MX9_around (d + 1, 0, 0, 0, 0) 103 [some (vR a0), some (vI 0), none, none] [] G h Q) ∧ (a1 < 729 → (ty G a0 = 9) ∧ (inA G 10 (h a0 12) a1) ∧ (inA G 10 (h a0 2) a1) ∧ ∀ h6 : HP, h6 = hset h (h a0 2) a1 (h (h a0 12) a1) → S l MX9_around (d + 1, 0, 0, 0, 0) 76 [some (vR a0), some (vI (a1 + 1)), none, none] [] G h6 Q))) : S l MX9_around (d + 1, 0, 0, 0, 0) 76 [some (vR a0), some (vI a1), none, none] [] G h Q := by
  refine s_iload_n dX9_around_76 rfl rfl ?_
  refine s_sipush dX9_around_77 (by decide) ?_
  have f1 := H.1
  replace H := H.2
  refine s_icmp_ge (tgt := 101) dX9_around_80 (by decide) f1 (by decide) (fun c2 => ?_) (fun c2 => ?_)
  · replace H := H.1 c2
    refine s_iconst dX9_around_101 ?_
    refine s_istore_n dX9_around_102 rfl (by decide) rfl ?_
    show S l MX9_around (d + 1, 0, 0, 0, 0) 103 [some (vR a0), some (vI 0), none, none] [] G h Q
    exact S_cut (by first | exact ⟨rfl, ⟨rfl, trivial⟩⟩ | simp [lsub]) H
  · replace H := H.2 c2
    refine s_aload_n dX9_around_83 rfl rfl ?_
    have f3 := H.1
    replace H := H.2
    refine s_getf (c := 9) (k := 2) (t := 2) (j := 2) dX9_around_84 fl_X9_17 (by decide) (by decide) rfl rfl f3 ?_
    refine s_iload_n dX9_around_87 rfl rfl ?_
    refine s_aload_n dX9_around_88 rfl rfl ?_
    refine s_getf (c := 9) (k := 12) (t := 2) (j := 12) dX9_around_89 fl_X9_45 (by decide) (by decide) rfl rfl f3 ?_
    refine s_iload_n dX9_around_92 rfl rfl ?_
    have f4 := H.1
    replace H := H.2
    refine s_iald dX9_around_93 f4 ?_
    have f5 := H.1
    replace H := H.2
    refine s_iastH dX9_around_94 f5 (fun h6 eh6 => ?_)
    replace H := H h6 eh6
    refine s_iinc dX9_around_95 rfl (by decide) rfl ?_
    show S l MX9_around (d + 1, 0, 0, 0, 0) 98 [some (vR a0), some (vI (a1 + 1)), none, none] [] G h6 Q
    refine s_goto (tgt := 76) dX9_around_98 (by decide) ?_
    exact S_cut (by first | exact ⟨rfl, ⟨rfl, trivial⟩⟩ | simp [lsub]) H
set_option maxHeartbeats 4000000 in
set_option maxRecDepth 100000 in
theorem vX9_around_10 {l : Launch} {d : Nat} {G : GS} {h : HP} {Q : Int → GS → HP → Prop} (a0 a1 a2 : Int) (H : (inR a2) ∧ ((9 ≤ a2 → S l MX9_around (d + 1, 0, 0, 0, 0) 2 [some (vR a0), some (vI (a1 + 1)), none, none] [] G h Q) ∧ (a2 < 9 → S l MX9_around (d + 1, 0, 0, 0, 0) 18 [some (vR a0), some (vI a1), some (vI a2), some (vI 0)] [] G h Q))) : S l MX9_around (d + 1, 0, 0, 0, 0) 10 [some (vR a0), some (vI a1), some (vI a2), none] [] G h Q := by
  refine s_iload_n dX9_around_10 rfl rfl ?_
  refine s_bipush dX9_around_11 (by decide) ?_
  have f1 := H.1
  replace H := H.2
  refine s_icmp_ge (tgt := 68) dX9_around_13 (by decide) f1 (by decide) (fun c2 => ?_) (fun c2 => ?_)
  · replace H := H.1 c2
    refine s_iinc dX9_around_68 rfl (by decide) rfl ?_
    show S l MX9_around (d + 1, 0, 0, 0, 0) 71 [some (vR a0), some (vI (a1 + 1)), some (vI a2), none] [] G h Q
    refine s_goto (tgt := 2) dX9_around_71 (by decide) ?_
    exact S_cut (by first | exact ⟨rfl, ⟨rfl, trivial⟩⟩ | simp [lsub]) H
  · replace H := H.2 c2
    refine s_iconst dX9_around_16 ?_
    refine s_istore_n dX9_around_17 rfl (by decide) rfl ?_
    show S l MX9_around (d + 1, 0, 0, 0, 0) 18 [some (vR a0), some (vI a1), some (vI a2), some (vI 0)] [] G h Q
    exact S_cut (by first | exact ⟨rfl, ⟨rfl, ⟨rfl, ⟨rfl, trivial⟩⟩⟩⟩ | simp [lsub]) H
set_option maxHeartbeats 4000000 in
set_option maxRecDepth 100000 in
theorem vX9_around_103 {l : Launch} {d : Nat} {G : GS} {h : HP} {Q : Int → GS → HP → Prop} (a0 a1 : Int) (H : (ty G a0 = 9) ∧ (inR a1) ∧ (inR (h a0 4)) ∧ (((h a0 4) ≤ a1 → (inA G 10 (h a0 1) 0) ∧ (inA G 10 (h a0 1) 1) ∧ ∀ h7 : HP, h7 = hset h (h a0 1) 0 (h (h a0 1) 1) → (inA G 10 (h7 a0 1) 2) ∧ (inA G 10 (h7 a0 1) 1) ∧ ∀ h10 : HP, h10 = hset h7 (h7 a0 1) 1 (h7 (h7 a0 1) 2) → (inA G 10 (h10 a0 1) 2) ∧ ∀ h12 : HP, h12 = hset h10 (h10 a0 1) 2 (h (h a0 1) 0) → R l MX9_emptyHand d 0 0 [vR a0] G h12 (fun r13 G14 h15 => (ty G14 a0 = 9) ∧ ∀ h17 : HP, h17 = hset h15 a0 15 0 → Q 1 G14 h17)) ∧ (a1 < (h a0 4) → S l MX9_around (d + 1, 0, 0, 0, 0) 113 [some (vR a0), some (vI a1), some (vI 0), none] [] G h Q))) : S l MX9_around (d + 1, 0, 0, 0, 0) 103 [some (vR a0), some (vI a1), none, none] [] G h Q := by
  refine s_iload_n dX9_around_103 rfl rfl ?_
  refine s_aload_n dX9_around_104 rfl rfl ?_
  have f1 := H.1
  replace H := H.2
  refine s_getf (c := 9) (k := 4) (t := 0) (j := 4) dX9_around_105 fl_X9_85 (by decide) (by decide) rfl rfl f1 ?_
  have f2 := H.1
  replace H := H.2
  have f3 := H.1
  replace H := H.2
  refine s_icmp_ge (tgt := 211) dX9_around_108 (by decide) f2 f3 (fun c4 => ?_) (fun c4 => ?_)
  · replace H := H.1 c4
    refine s_aload_n dX9_around_211 rfl rfl ?_
    refine s_getf (c := 9) (k := 1) (t := 2) (j := 1) dX9_around_212 fl_X9_13 (by decide) (by decide) rfl rfl f1 ?_
    refine s_iconst dX9_around_215 ?_
    have f5 := H.1
    replace H := H.2
    refine s_iald dX9_around_216 f5 ?_
    refine s_istore_n dX9_around_217 rfl (by decide) rfl ?_
    show S l MX9_around (d + 1, 0, 0, 0, 0) 218 [some (vR a0), some (vI (h (h a0 1) 0)), none, none] [] G h Q
    refine s_aload_n dX9_around_218 rfl rfl ?_
    refine s_getf (c := 9) (k := 1) (t := 2) (j := 1) dX9_around_219 fl_X9_13 (by decide) (by decide) rfl rfl f1 ?_
    refine s_iconst dX9_around_222 ?_
    refine s_aload_n dX9_around_223 rfl rfl ?_
    refine s_getf (c := 9) (k := 1) (t := 2) (j := 1) dX9_around_224 fl_X9_13 (by decide) (by decide) rfl rfl f1 ?_
    refine s_iconst dX9_around_227 ?_
    have f6 := H.1
    replace H := H.2
    refine s_iald dX9_around_228 f6 ?_
    refine s_iastH dX9_around_229 f5 (fun h7 eh7 => ?_)
    replace H := H h7 eh7
    refine s_aload_n dX9_around_230 rfl rfl ?_
    refine s_getf (c := 9) (k := 1) (t := 2) (j := 1) dX9_around_231 fl_X9_13 (by decide) (by decide) rfl rfl f1 ?_
    refine s_iconst dX9_around_234 ?_
    refine s_aload_n dX9_around_235 rfl rfl ?_
    refine s_getf (c := 9) (k := 1) (t := 2) (j := 1) dX9_around_236 fl_X9_13 (by decide) (by decide) rfl rfl f1 ?_
    refine s_iconst dX9_around_239 ?_
    have f8 := H.1
    replace H := H.2
    refine s_iald dX9_around_240 f8 ?_
    have f9 := H.1
    replace H := H.2
    refine s_iastH dX9_around_241 f9 (fun h10 eh10 => ?_)
    replace H := H h10 eh10
    refine s_aload_n dX9_around_242 rfl rfl ?_
    refine s_getf (c := 9) (k := 1) (t := 2) (j := 1) dX9_around_243 fl_X9_13 (by decide) (by decide) rfl rfl f1 ?_
    refine s_iconst dX9_around_246 ?_
    refine s_iload_n dX9_around_247 rfl rfl ?_
    have f11 := H.1
    replace H := H.2
    refine s_iastH dX9_around_248 f11 (fun h12 eh12 => ?_)
    replace H := H h12 eh12
    refine s_aload_n dX9_around_249 rfl rfl ?_
    refine s_callV (M' := MX9_emptyHand) (As := []) (a := a0) (st := []) dX9_around_250 ml_X9_88 cv_X9_emptyHand rfl rfl (Nat.le_of_ble_eq_true rfl) ⟨Nat.le_refl _, Nat.le_refl _⟩ f1 (R_mono (fun r13 G14 h15 H => ?_) H)
    show S l MX9_around (d + 1, 0, 0, 0, 0) 253 [some (vR a0), some (vI (h (h a0 1) 0)), none, none] [] G14 h15 Q
    refine s_aload_n dX9_around_253 rfl rfl ?_
    refine s_iconst dX9_around_254 ?_
    have f16 := H.1
    replace H := H.2
    refine s_putZ (c := 9) (k := 15) (j := 15) dX9_around_255 fl_X9_91 (by decide) (by decide) rfl rfl rfl (by decide) f16 (fun h17 eh17 => ?_)
    replace H := H h17 eh17
    refine s_iconst dX9_around_258 ?_
    exact s_iret dX9_around_259 rfl ⟨Nat.le_refl _, Nat.le_refl _⟩ H
  · replace H := H.2 c4
    refine s_iconst dX9_around_111 ?_
    refine s_istore_n dX9_around_112 rfl (by decide) rfl ?_
    show S l MX9_around (d + 1, 0, 0, 0, 0) 113 [some (vR a0), some (vI a1), some (vI 0), none] [] G h Q
    exact S_cut (by first | exact ⟨rfl, ⟨rfl, ⟨rfl, trivial⟩⟩⟩ | simp [lsub]) H
set_option maxHeartbeats 4000000 in
set_option maxRecDepth 100000 in
theorem vX9_around_18 {l : Launch} {d : Nat} {G : GS} {h : HP} {Q : Int → GS → HP → Prop} (a0 a1 a2 a3 : Int) (H : (inR a3) ∧ ((9 ≤ a3 → S l MX9_around (d + 1, 0, 0, 0, 0) 10 [some (vR a0), some (vI a1), some (vI (a2 + 1)), none] [] G h Q) ∧ (a3 < 9 → (ty G a0 = 9) ∧ (inA G 10 (h a0 2) (((81 * a1) + (9 * a2)) + a3)) ∧ (inA G 10 (h a0 12) (((81 * a2) + (9 * a3)) + a1)) ∧ ∀ h6 : HP, h6 = hset h (h a0 12) (((81 * a2) + (9 * a3)) + a1) (h (h a0 2) (((81 * a1) + (9 * a2)) + a3)) → S l MX9_around (d + 1, 0, 0, 0, 0) 18 [some (vR a0), some (vI a1), some (vI a2), some (vI (a3 + 1))] [] G h6 Q))) : S l MX9_around (d + 1, 0, 0, 0, 0) 18 [some (vR a0), some (vI a1), some (vI a2), some (vI a3)] [] G h Q := by
  refine s_iload_n dX9_around_18 rfl rfl ?_
  refine s_bipush dX9_around_19 (by decide) ?_
  have f1 := H.1
  replace H := H.2
  refine s_icmp_ge (tgt := 62) dX9_around_21 (by decide) f1 (by decide) (fun c2 => ?_) (fun c2 => ?_)
  · replace H := H.1 c2
    refine s_iinc dX9_around_62 rfl (by decide) rfl ?_
    show S l MX9_around (d + 1, 0, 0, 0, 0) 65 [some (vR a0), some (vI a1), some (vI (a2 + 1)), some (vI a3)] [] G h Q
    refine s_goto (tgt := 10) dX9_around_65 (by decide) ?_
    exact S_cut (by first | exact ⟨rfl, ⟨rfl, ⟨rfl, trivial⟩⟩⟩ | simp [lsub]) H
  · replace H := H.2 c2
    refine s_aload_n dX9_around_24 rfl rfl ?_
    have f3 := H.1
    replace H := H.2
    refine s_getf (c := 9) (k := 12) (t := 2) (j := 12) dX9_around_25 fl_X9_45 (by decide) (by decide) rfl rfl f3 ?_
    refine s_bipush dX9_around_28 (by decide) ?_
    refine s_iload_n dX9_around_30 rfl rfl ?_
    refine s_imul dX9_around_31 ?_
    refine s_bipush dX9_around_32 (by decide) ?_
    refine s_iload_n dX9_around_34 rfl rfl ?_
    refine s_imul dX9_around_35 ?_
    refine s_iadd dX9_around_36 ?_
    refine s_iload_n dX9_around_37 rfl rfl ?_
    refine s_iadd dX9_around_38 ?_
    refine s_aload_n dX9_around_39 rfl rfl ?_
    refine s_getf (c := 9) (k := 2) (t := 2) (j := 2) dX9_around_40 fl_X9_17 (by decide) (by decide) rfl rfl f3 ?_
    refine s_bipush dX9_around_43 (by decide) ?_
    refine s_iload_n dX9_around_45 rfl rfl ?_
    refine s_imul dX9_around_46 ?_
    refine s_bipush dX9_around_47 (by decide) ?_
    refine s_iload_n dX9_around_49 rfl rfl ?_
    refine s_imul dX9_around_50 ?_
    refine s_iadd dX9_around_51 ?_
    refine s_iload_n dX9_around_52 rfl rfl ?_
    refine s_iadd dX9_around_53 ?_
    have f4 := H.1
    replace H := H.2
    refine s_iald dX9_around_54 f4 ?_
    have f5 := H.1
    replace H := H.2
    refine s_iastH dX9_around_55 f5 (fun h6 eh6 => ?_)
    replace H := H h6 eh6
    refine s_iinc dX9_around_56 rfl (by decide) rfl ?_
    show S l MX9_around (d + 1, 0, 0, 0, 0) 59 [some (vR a0), some (vI a1), some (vI a2), some (vI (a3 + 1))] [] G h6 Q
    refine s_goto (tgt := 18) dX9_around_59 (by decide) ?_
    exact S_cut (by first | exact ⟨rfl, ⟨rfl, ⟨rfl, ⟨rfl, trivial⟩⟩⟩⟩ | simp [lsub]) H
set_option maxHeartbeats 4000000 in
set_option maxRecDepth 100000 in
theorem vX9_around_113 {l : Launch} {d : Nat} {G : GS} {h : HP} {Q : Int → GS → HP → Prop} (a0 a1 a2 : Int) (H : (inR a2) ∧ ((9 ≤ a2 → S l MX9_around (d + 1, 0, 0, 0, 0) 103 [some (vR a0), some (vI (a1 + 1)), none, none] [] G h Q) ∧ (a2 < 9 → (ty G a0 = 9) ∧ (inA G 10 (h a0 3) ((27 * a1) + a2)) ∧ (inA G 10 (h a0 3) (((27 * a1) + 9) + a2)) ∧ ∀ h6 : HP, h6 = hset h (h a0 3) ((27 * a1) + a2) (h (h a0 3) (((27 * a1) + 9) + a2)) → (inA G 10 (h6 a0 3) (((27 * a1) + 18) + a2)) ∧ (inA G 10 (h6 a0 3) (((27 * a1) + 9) + a2)) ∧ ∀ h9 : HP, h9 = hset h6 (h6 a0 3) (((27 * a1) + 9) + a2) (h6 (h6 a0 3) (((27 * a1) + 18) + a2)) → (inA G 10 (h9 a0 3) (((27 * a1) + 18) + a2)) ∧ ∀ h11 : HP, h11 = hset h9 (h9 a0 3) (((27 * a1) + 18) + a2) (h (h a0 3) ((27 * a1) + a2)) → S l MX9_around (d + 1, 0, 0, 0, 0) 113 [some (vR a0), some (vI a1), some (vI (a2 + 1)), none] [] G h11 Q))) : S l MX9_around (d + 1, 0, 0, 0, 0) 113 [some (vR a0), some (vI a1), some (vI a2), none] [] G h Q := by
  refine s_iload_n dX9_around_113 rfl rfl ?_
  refine s_bipush dX9_around_114 (by decide) ?_
  have f1 := H.1
  replace H := H.2
  refine s_icmp_ge (tgt := 205) dX9_around_116 (by decide) f1 (by decide) (fun c2 => ?_) (fun c2 => ?_)
  · replace H := H.1 c2
    refine s_iinc dX9_around_205 rfl (by decide) rfl ?_
    show S l MX9_around (d + 1, 0, 0, 0, 0) 208 [some (vR a0), some (vI (a1 + 1)), some (vI a2), none] [] G h Q
    refine s_goto (tgt := 103) dX9_around_208 (by decide) ?_
    exact S_cut (by first | exact ⟨rfl, ⟨rfl, trivial⟩⟩ | simp [lsub]) H
  · replace H := H.2 c2
    refine s_aload_n dX9_around_119 rfl rfl ?_
    have f3 := H.1
    replace H := H.2
    refine s_getf (c := 9) (k := 3) (t := 2) (j := 3) dX9_around_120 fl_X9_20 (by decide) (by decide) rfl rfl f3 ?_
    refine s_bipush dX9_around_123 (by decide) ?_
    refine s_iload_n dX9_around_125 rfl rfl ?_
    refine s_imul dX9_around_126 ?_
    refine s_iload_n dX9_around_127 rfl rfl ?_
    refine s_iadd dX9_around_128 ?_
    have f4 := H.1
    replace H := H.2
    refine s_iald dX9_around_129 f4 ?_
    refine s_istore_n dX9_around_130 rfl (by decide) rfl ?_
    show S l MX9_around (d + 1, 0, 0, 0, 0) 131 [some (vR a0), some (vI a1), some (vI a2), some (vI (h (h a0 3) ((27 * a1) + a2)))] [] G h Q
    refine s_aload_n dX9_around_131 rfl rfl ?_
    refine s_getf (c := 9) (k := 3) (t := 2) (j := 3) dX9_around_132 fl_X9_20 (by decide) (by decide) rfl rfl f3 ?_
    refine s_bipush dX9_around_135 (by decide) ?_
    refine s_iload_n dX9_around_137 rfl rfl ?_
    refine s_imul dX9_around_138 ?_
    refine s_iload_n dX9_around_139 rfl rfl ?_
    refine s_iadd dX9_around_140 ?_
    refine s_aload_n dX9_around_141 rfl rfl ?_
    refine s_getf (c := 9) (k := 3) (t := 2) (j := 3) dX9_around_142 fl_X9_20 (by decide) (by decide) rfl rfl f3 ?_
    refine s_bipush dX9_around_145 (by decide) ?_
    refine s_iload_n dX9_around_147 rfl rfl ?_
    refine s_imul dX9_around_148 ?_
    refine s_bipush dX9_around_149 (by decide) ?_
    refine s_iadd dX9_around_151 ?_
    refine s_iload_n dX9_around_152 rfl rfl ?_
    refine s_iadd dX9_around_153 ?_
    have f5 := H.1
    replace H := H.2
    refine s_iald dX9_around_154 f5 ?_
    refine s_iastH dX9_around_155 f4 (fun h6 eh6 => ?_)
    replace H := H h6 eh6
    refine s_aload_n dX9_around_156 rfl rfl ?_
    refine s_getf (c := 9) (k := 3) (t := 2) (j := 3) dX9_around_157 fl_X9_20 (by decide) (by decide) rfl rfl f3 ?_
    refine s_bipush dX9_around_160 (by decide) ?_
    refine s_iload_n dX9_around_162 rfl rfl ?_
    refine s_imul dX9_around_163 ?_
    refine s_bipush dX9_around_164 (by decide) ?_
    refine s_iadd dX9_around_166 ?_
    refine s_iload_n dX9_around_167 rfl rfl ?_
    refine s_iadd dX9_around_168 ?_
    refine s_aload_n dX9_around_169 rfl rfl ?_
    refine s_getf (c := 9) (k := 3) (t := 2) (j := 3) dX9_around_170 fl_X9_20 (by decide) (by decide) rfl rfl f3 ?_
    refine s_bipush dX9_around_173 (by decide) ?_
    refine s_iload_n dX9_around_175 rfl rfl ?_
    refine s_imul dX9_around_176 ?_
    refine s_bipush dX9_around_177 (by decide) ?_
    refine s_iadd dX9_around_179 ?_
    refine s_iload_n dX9_around_180 rfl rfl ?_
    refine s_iadd dX9_around_181 ?_
    have f7 := H.1
    replace H := H.2
    refine s_iald dX9_around_182 f7 ?_
    have f8 := H.1
    replace H := H.2
    refine s_iastH dX9_around_183 f8 (fun h9 eh9 => ?_)
    replace H := H h9 eh9
    refine s_aload_n dX9_around_184 rfl rfl ?_
    refine s_getf (c := 9) (k := 3) (t := 2) (j := 3) dX9_around_185 fl_X9_20 (by decide) (by decide) rfl rfl f3 ?_
    refine s_bipush dX9_around_188 (by decide) ?_
    refine s_iload_n dX9_around_190 rfl rfl ?_
    refine s_imul dX9_around_191 ?_
    refine s_bipush dX9_around_192 (by decide) ?_
    refine s_iadd dX9_around_194 ?_
    refine s_iload_n dX9_around_195 rfl rfl ?_
    refine s_iadd dX9_around_196 ?_
    refine s_iload_n dX9_around_197 rfl rfl ?_
    have f10 := H.1
    replace H := H.2
    refine s_iastH dX9_around_198 f10 (fun h11 eh11 => ?_)
    replace H := H h11 eh11
    refine s_iinc dX9_around_199 rfl (by decide) rfl ?_
    show S l MX9_around (d + 1, 0, 0, 0, 0) 202 [some (vR a0), some (vI a1), some (vI (a2 + 1)), some (vI (h (h a0 3) ((27 * a1) + a2)))] [] G h11 Q
    refine s_goto (tgt := 113) dX9_around_202 (by decide) ?_
    exact S_cut (by first | exact ⟨rfl, ⟨rfl, ⟨rfl, trivial⟩⟩⟩ | simp [lsub]) H
set_option maxHeartbeats 4000000 in
set_option maxRecDepth 100000 in
theorem vX9_turn_0 {l : Launch} {d : Nat} {G : GS} {h : HP} {Q : Int → GS → HP → Prop} (a0 a1 a2 a3 a4 : Int) (H : (inR a1) ∧ R l MX9_in d 0 0 [vL a1, vL 0, vL 2] G h (fun r2 G3 h4 => (inR r2) ∧ ((r2 = 0 → Q ((-1)) G3 h4) ∧ (r2 ≠ 0 → (inR a2) ∧ (ty G3 a0 = 9) ∧ (inA G3 10 (h4 a0 1) a1) ∧ (inR ((h4 (h4 a0 1) a1) - 1)) ∧ R l MX9_in d 0 0 [vL a2, vL 0, vL ((h4 (h4 a0 1) a1) - 1)] G3 h4 (fun r11 G12 h13 => (inR r11) ∧ ((r11 = 0 → Q ((-1)) G12 h13) ∧ (r11 ≠ 0 → (inR a3) ∧ (ty G12 a0 = 9) ∧ (inA G12 10 (h13 a0 1) a1) ∧ (inR ((h13 (h13 a0 1) a1) - 1)) ∧ R l MX9_in d 0 0 [vL a3, vL 0, vL ((h13 (h13 a0 1) a1) - 1)] G12 h13 (fun r20 G21 h22 => (inR r20) ∧ ((r20 = 0 → Q ((-1)) G21 h22) ∧ (r20 ≠ 0 → (inR a2) ∧ (inR a3) ∧ ((a2 = a3 → Q ((-1)) G21 h22) ∧ (a2 ≠ a3 → (inR a4) ∧ (ty G21 a0 = 9) ∧ (inR ((h22 a0 0) - 1)) ∧ R l MX9_in d 0 0 [vL a4, vL 0, vL ((h22 a0 0) - 1)] G21 h22 (fun r31 G32 h33 => (inR r31) ∧ ((r31 ≠ 0 → (inR a1) ∧ ((a1 ≠ 0 → ((a1 ≠ 1 → S l MX9_turn (d + 1, 0, 0, 0, 0) 97 [some (vR a0), some (vI a1), some (vI a2), some (vI a3), some (vI a4), some (vI 1), some (vI 0), none] [] G32 h33 Q) ∧ (a1 = 1 → S l MX9_turn (d + 1, 0, 0, 0, 0) 97 [some (vR a0), some (vI a1), some (vI a2), some (vI a3), some (vI a4), some (vI 9), some (vI 0), none] [] G32 h33 Q))) ∧ (a1 = 0 → S l MX9_turn (d + 1, 0, 0, 0, 0) 97 [some (vR a0), some (vI a1), some (vI a2), some (vI a3), some (vI a4), some (vI 81), some (vI 0), none] [] G32 h33 Q))) ∧ (r31 = 0 → Q ((-1)) G32 h33))))))))))))))) : S l MX9_turn (d + 1, 0, 0, 0, 0) 0 [some (vR a0), some (vI a1), some (vI a2), some (vI a3), some (vI a4), none, none, none] [] G h Q := by
  refine s_iload_n dX9_turn_0 rfl rfl ?_
  have f1 := H.1
  replace H := H.2
  refine s_i2l dX9_turn_1 f1 ?_
  refine s_lconst (v := 0) dX9_turn_2 rfl ?_
  refine s_ldc2 (v := 2) dX9_turn_3 kc_X9_130 ?_
  refine s_callS (M' := MX9_in) (As := [vL a1, vL 0, vL 2]) (st := []) dX9_turn_6 ml_X9_97 cs_X9_in rfl rfl (Nat.le_of_ble_eq_true rfl) ⟨Nat.le_refl _, Nat.le_refl _⟩ (R_mono (fun r2 G3 h4 H => ?_) H)
  show S l MX9_turn (d + 1, 0, 0, 0, 0) 9 [some (vR a0), some (vI a1), some (vI a2), some (vI a3), some (vI a4), none, none, none] [vI r2] G3 h4 Q
  have f5 := H.1
  replace H := H.2
  refine s_if_eq (tgt := 70) dX9_turn_9 (by decide) f5 (fun c6 => ?_) (fun c6 => ?_)
  · replace H := H.1 c6
    refine s_iconst dX9_turn_70 ?_
    exact s_iret dX9_turn_71 rfl ⟨Nat.le_refl _, Nat.le_refl _⟩ H
  · replace H := H.2 c6
    refine s_iload_n dX9_turn_12 rfl rfl ?_
    have f7 := H.1
    replace H := H.2
    refine s_i2l dX9_turn_13 f7 ?_
    refine s_lconst (v := 0) dX9_turn_14 rfl ?_
    refine s_aload_n dX9_turn_15 rfl rfl ?_
    have f8 := H.1
    replace H := H.2
    refine s_getf (c := 9) (k := 1) (t := 2) (j := 1) dX9_turn_16 fl_X9_13 (by decide) (by decide) rfl rfl f8 ?_
    refine s_iload_n dX9_turn_19 rfl rfl ?_
    have f9 := H.1
    replace H := H.2
    refine s_iald dX9_turn_20 f9 ?_
    refine s_iconst dX9_turn_21 ?_
    refine s_isub dX9_turn_22 ?_
    have f10 := H.1
    replace H := H.2
    refine s_i2l dX9_turn_23 f10 ?_
    refine s_callS (M' := MX9_in) (As := [vL a2, vL 0, vL ((h4 (h4 a0 1) a1) - 1)]) (st := []) dX9_turn_24 ml_X9_97 cs_X9_in rfl rfl (Nat.le_of_ble_eq_true rfl) ⟨Nat.le_refl _, Nat.le_refl _⟩ (R_mono (fun r11 G12 h13 H => ?_) H)
    show S l MX9_turn (d + 1, 0, 0, 0, 0) 27 [some (vR a0), some (vI a1), some (vI a2), some (vI a3), some (vI a4), none, none, none] [vI r11] G12 h13 Q
    have f14 := H.1
    replace H := H.2
    refine s_if_eq (tgt := 70) dX9_turn_27 (by decide) f14 (fun c15 => ?_) (fun c15 => ?_)
    · replace H := H.1 c15
      refine s_iconst dX9_turn_70 ?_
      exact s_iret dX9_turn_71 rfl ⟨Nat.le_refl _, Nat.le_refl _⟩ H
    · replace H := H.2 c15
      refine s_iload_n dX9_turn_30 rfl rfl ?_
      have f16 := H.1
      replace H := H.2
      refine s_i2l dX9_turn_31 f16 ?_
      refine s_lconst (v := 0) dX9_turn_32 rfl ?_
      refine s_aload_n dX9_turn_33 rfl rfl ?_
      have f17 := H.1
      replace H := H.2
      refine s_getf (c := 9) (k := 1) (t := 2) (j := 1) dX9_turn_34 fl_X9_13 (by decide) (by decide) rfl rfl f17 ?_
      refine s_iload_n dX9_turn_37 rfl rfl ?_
      have f18 := H.1
      replace H := H.2
      refine s_iald dX9_turn_38 f18 ?_
      refine s_iconst dX9_turn_39 ?_
      refine s_isub dX9_turn_40 ?_
      have f19 := H.1
      replace H := H.2
      refine s_i2l dX9_turn_41 f19 ?_
      refine s_callS (M' := MX9_in) (As := [vL a3, vL 0, vL ((h13 (h13 a0 1) a1) - 1)]) (st := []) dX9_turn_42 ml_X9_97 cs_X9_in rfl rfl (Nat.le_of_ble_eq_true rfl) ⟨Nat.le_refl _, Nat.le_refl _⟩ (R_mono (fun r20 G21 h22 H => ?_) H)
      show S l MX9_turn (d + 1, 0, 0, 0, 0) 45 [some (vR a0), some (vI a1), some (vI a2), some (vI a3), some (vI a4), none, none, none] [vI r20] G21 h22 Q
      have f23 := H.1
      replace H := H.2
      refine s_if_eq (tgt := 70) dX9_turn_45 (by decide) f23 (fun c24 => ?_) (fun c24 => ?_)
      · replace H := H.1 c24
        refine s_iconst dX9_turn_70 ?_
        exact s_iret dX9_turn_71 rfl ⟨Nat.le_refl _, Nat.le_refl _⟩ H
      · replace H := H.2 c24
        refine s_iload_n dX9_turn_48 rfl rfl ?_
        refine s_iload_n dX9_turn_49 rfl rfl ?_
        have f25 := H.1
        replace H := H.2
        have f26 := H.1
        replace H := H.2
        refine s_icmp_eq (tgt := 70) dX9_turn_50 (by decide) f25 f26 (fun c27 => ?_) (fun c27 => ?_)
        · replace H := H.1 c27
          refine s_iconst dX9_turn_70 ?_
          exact s_iret dX9_turn_71 rfl ⟨Nat.le_refl _, Nat.le_refl _⟩ H
        · replace H := H.2 c27
          refine s_iload dX9_turn_53 rfl ?_
          have f28 := H.1
          replace H := H.2
          refine s_i2l dX9_turn_55 f28 ?_
          refine s_lconst (v := 0) dX9_turn_56 rfl ?_
          refine s_aload_n dX9_turn_57 rfl rfl ?_
          have f29 := H.1
          replace H := H.2
          refine s_getf (c := 9) (k := 0) (t := 0) (j := 0) dX9_turn_58 fl_X9_7 (by decide) (by decide) rfl rfl f29 ?_
          refine s_iconst dX9_turn_61 ?_
          refine s_isub dX9_turn_62 ?_
          have f30 := H.1
          replace H := H.2
          refine s_i2l dX9_turn_63 f30 ?_
          refine s_callS (M' := MX9_in) (As := [vL a4, vL 0, vL ((h22 a0 0) - 1)]) (st := []) dX9_turn_64 ml_X9_97 cs_X9_in rfl rfl (Nat.le_of_ble_eq_true rfl) ⟨Nat.le_refl _, Nat.le_refl _⟩ (R_mono (fun r31 G32 h33 H => ?_) H)
          show S l MX9_turn (d + 1, 0, 0, 0, 0) 67 [some (vR a0), some (vI a1), some (vI a2), some (vI a3), some (vI a4), none, none, none] [vI r31] G32 h33 Q
          have f34 := H.1
          replace H := H.2
          refine s_if_ne (tgt := 72) dX9_turn_67 (by decide) f34 (fun c35 => ?_) (fun c35 => ?_)
          · replace H := H.1 c35
            refine s_iload_n dX9_turn_72 rfl rfl ?_
            have f36 := H.1
            replace H := H.2
            refine s_if_ne (tgt := 81) dX9_turn_73 (by decide) f36 (fun c37 => ?_) (fun c37 => ?_)
            · replace H := H.1 c37
              refine s_iload_n dX9_turn_81 rfl rfl ?_
              refine s_iconst dX9_turn_82 ?_
              refine s_icmp_ne (tgt := 91) dX9_turn_83 (by decide) f36 (by decide) (fun c38 => ?_) (fun c38 => ?_)
              · replace H := H.1 c38
                refine s_iconst dX9_turn_91 ?_
                refine s_istore dX9_turn_92 (by decide) rfl ?_
                show S l MX9_turn (d + 1, 0, 0, 0, 0) 94 [some (vR a0), some (vI a1), some (vI a2), some (vI a3), some (vI a4), some (vI 1), none, none] [] G32 h33 Q
                refine s_iconst dX9_turn_94 ?_
                refine s_istore dX9_turn_95 (by decide) rfl ?_
                show S l MX9_turn (d + 1, 0, 0, 0, 0) 97 [some (vR a0), some (vI a1), some (vI a2), some (vI a3), some (vI a4), some (vI 1), some (vI 0), none] [] G32 h33 Q
                exact S_cut (by first | exact ⟨rfl, ⟨rfl, ⟨rfl, ⟨rfl, ⟨rfl, ⟨rfl, ⟨rfl, trivial⟩⟩⟩⟩⟩⟩⟩ | simp [lsub]) H
              · replace H := H.2 c38
                refine s_bipush dX9_turn_86 (by decide) ?_
                refine s_goto (tgt := 92) dX9_turn_88 (by decide) ?_
                refine s_istore dX9_turn_92 (by decide) rfl ?_
                show S l MX9_turn (d + 1, 0, 0, 0, 0) 94 [some (vR a0), some (vI a1), some (vI a2), some (vI a3), some (vI a4), some (vI 9), none, none] [] G32 h33 Q
                refine s_iconst dX9_turn_94 ?_
                refine s_istore dX9_turn_95 (by decide) rfl ?_
                show S l MX9_turn (d + 1, 0, 0, 0, 0) 97 [some (vR a0), some (vI a1), some (vI a2), some (vI a3), some (vI a4), some (vI 9), some (vI 0), none] [] G32 h33 Q
                exact S_cut (by first | exact ⟨rfl, ⟨rfl, ⟨rfl, ⟨rfl, ⟨rfl, ⟨rfl, ⟨rfl, trivial⟩⟩⟩⟩⟩⟩⟩ | simp [lsub]) H
            · replace H := H.2 c37
              refine s_bipush dX9_turn_76 (by decide) ?_
              refine s_goto (tgt := 92) dX9_turn_78 (by decide) ?_
              refine s_istore dX9_turn_92 (by decide) rfl ?_
              show S l MX9_turn (d + 1, 0, 0, 0, 0) 94 [some (vR a0), some (vI a1), some (vI a2), some (vI a3), some (vI a4), some (vI 81), none, none] [] G32 h33 Q
              refine s_iconst dX9_turn_94 ?_
              refine s_istore dX9_turn_95 (by decide) rfl ?_
              show S l MX9_turn (d + 1, 0, 0, 0, 0) 97 [some (vR a0), some (vI a1), some (vI a2), some (vI a3), some (vI a4), some (vI 81), some (vI 0), none] [] G32 h33 Q
              exact S_cut (by first | exact ⟨rfl, ⟨rfl, ⟨rfl, ⟨rfl, ⟨rfl, ⟨rfl, ⟨rfl, trivial⟩⟩⟩⟩⟩⟩⟩ | simp [lsub]) H
          · replace H := H.2 c35
            refine s_iconst dX9_turn_70 ?_
            exact s_iret dX9_turn_71 rfl ⟨Nat.le_refl _, Nat.le_refl _⟩ H
set_option maxHeartbeats 4000000 in
set_option maxRecDepth 100000 in
theorem vX9_turn_97 {l : Launch} {d : Nat} {G : GS} {h : HP} {Q : Int → GS → HP → Prop} (a0 a1 a2 a3 a4 a5 a6 : Int) (H : (inR a6) ∧ ((729 ≤ a6 → S l MX9_turn (d + 1, 0, 0, 0, 0) 163 [some (vR a0), some (vI a1), some (vI a2), some (vI a3), some (vI a4), none, some (vI 0), none] [] G h Q) ∧ (a6 < 729 → (dvR a6 a5) ∧ (dvR (a6 / a5) 9) ∧ (inR ((a6 / a5) % 9)) ∧ (inR a2) ∧ ((((a6 / a5) % 9) ≠ a2 → S l MX9_turn (d + 1, 0, 0, 0, 0) 97 [some (vR a0), some (vI a1), some (vI a2), some (vI a3), some (vI a4), some (vI a5), some (vI (a6 + 1)), none] [] G h Q) ∧ (((a6 / a5) % 9) = a2 → (ty G a0 = 9) ∧ (inA G 10 (h a0 2) a6) ∧ (inA G 10 (h a0 2) (a6 + ((a3 - a2) * a5))) ∧ (dvR ((h (h a0 2) a6) + (a4 * (h (h a0 2) (a6 + ((a3 - a2) * a5))))) (h a0 0)) ∧ ∀ h12 : HP, h12 = hset h (h a0 2) a6 (((h (h a0 2) a6) + (a4 * (h (h a0 2) (a6 + ((a3 - a2) * a5))))) % (h a0 0)) → S l MX9_turn (d + 1, 0, 0, 0, 0) 97 [some (vR a0), some (vI a1), some (vI a2), some (vI a3), some (vI a4), some (vI a5), some (vI (a6 + 1)), none] [] G h12 Q))))) : S l MX9_turn (d + 1, 0, 0, 0, 0) 97 [some (vR a0), some (vI a1), some (vI a2), some (vI a3), some (vI a4), some (vI a5), some (vI a6), none] [] G h Q := by
  refine s_iload dX9_turn_97 rfl ?_
  refine s_sipush dX9_turn_99 (by decide) ?_
  have f1 := H.1
  replace H := H.2
  refine s_icmp_ge (tgt := 160) dX9_turn_102 (by decide) f1 (by decide) (fun c2 => ?_) (fun c2 => ?_)
  · replace H := H.1 c2
    refine s_iconst dX9_turn_160 ?_
    refine s_istore dX9_turn_161 (by decide) rfl ?_
    show S l MX9_turn (d + 1, 0, 0, 0, 0) 163 [some (vR a0), some (vI a1), some (vI a2), some (vI a3), some (vI a4), some (vI a5), some (vI 0), none] [] G h Q
    exact S_cut (by first | exact ⟨rfl, ⟨rfl, ⟨rfl, ⟨rfl, ⟨rfl, ⟨rfl, trivial⟩⟩⟩⟩⟩⟩ | simp [lsub]) H
  · replace H := H.2 c2
    refine s_iload dX9_turn_105 rfl ?_
    refine s_iload dX9_turn_107 rfl ?_
    have f3 := H.1
    replace H := H.2
    refine s_idiv dX9_turn_109 f3 ?_
    refine s_bipush dX9_turn_110 (by decide) ?_
    have f4 := H.1
    replace H := H.2
    refine s_irem dX9_turn_112 f4 ?_
    refine s_iload_n dX9_turn_113 rfl rfl ?_
    have f5 := H.1
    replace H := H.2
    have f6 := H.1
    replace H := H.2
    refine s_icmp_ne (tgt := 154) dX9_turn_114 (by decide) f5 f6 (fun c7 => ?_) (fun c7 => ?_)
    · replace H := H.1 c7
      refine s_iinc dX9_turn_154 rfl (by decide) rfl ?_
      show S l MX9_turn (d + 1, 0, 0, 0, 0) 157 [some (vR a0), some (vI a1), some (vI a2), some (vI a3), some (vI a4), some (vI a5), some (vI (a6 + 1)), none] [] G h Q
      refine s_goto (tgt := 97) dX9_turn_157 (by decide) ?_
      exact S_cut (by first | exact ⟨rfl, ⟨rfl, ⟨rfl, ⟨rfl, ⟨rfl, ⟨rfl, ⟨rfl, trivial⟩⟩⟩⟩⟩⟩⟩ | simp [lsub]) H
    · replace H := H.2 c7
      refine s_aload_n dX9_turn_117 rfl rfl ?_
      have f8 := H.1
      replace H := H.2
      refine s_getf (c := 9) (k := 2) (t := 2) (j := 2) dX9_turn_118 fl_X9_17 (by decide) (by decide) rfl rfl f8 ?_
      refine s_iload dX9_turn_121 rfl ?_
      refine s_aload_n dX9_turn_123 rfl rfl ?_
      refine s_getf (c := 9) (k := 2) (t := 2) (j := 2) dX9_turn_124 fl_X9_17 (by decide) (by decide) rfl rfl f8 ?_
      refine s_iload dX9_turn_127 rfl ?_
      have f9 := H.1
      replace H := H.2
      refine s_iald dX9_turn_129 f9 ?_
      refine s_iload dX9_turn_130 rfl ?_
      refine s_aload_n dX9_turn_132 rfl rfl ?_
      refine s_getf (c := 9) (k := 2) (t := 2) (j := 2) dX9_turn_133 fl_X9_17 (by decide) (by decide) rfl rfl f8 ?_
      refine s_iload dX9_turn_136 rfl ?_
      refine s_iload_n dX9_turn_138 rfl rfl ?_
      refine s_iload_n dX9_turn_139 rfl rfl ?_
      refine s_isub dX9_turn_140 ?_
      refine s_iload dX9_turn_141 rfl ?_
      refine s_imul dX9_turn_143 ?_
      refine s_iadd dX9_turn_144 ?_
      have f10 := H.1
      replace H := H.2
      refine s_iald dX9_turn_145 f10 ?_
      refine s_imul dX9_turn_146 ?_
      refine s_iadd dX9_turn_147 ?_
      refine s_aload_n dX9_turn_148 rfl rfl ?_
      refine s_getf (c := 9) (k := 0) (t := 0) (j := 0) dX9_turn_149 fl_X9_7 (by decide) (by decide) rfl rfl f8 ?_
      have f11 := H.1
      replace H := H.2
      refine s_irem dX9_turn_152 f11 ?_
      refine s_iastH dX9_turn_153 f9 (fun h12 eh12 => ?_)
      replace H := H h12 eh12
      refine s_iinc dX9_turn_154 rfl (by decide) rfl ?_
      show S l MX9_turn (d + 1, 0, 0, 0, 0) 157 [some (vR a0), some (vI a1), some (vI a2), some (vI a3), some (vI a4), some (vI a5), some (vI (a6 + 1)), none] [] G h12 Q
      refine s_goto (tgt := 97) dX9_turn_157 (by decide) ?_
      exact S_cut (by first | exact ⟨rfl, ⟨rfl, ⟨rfl, ⟨rfl, ⟨rfl, ⟨rfl, ⟨rfl, trivial⟩⟩⟩⟩⟩⟩⟩ | simp [lsub]) H
set_option maxHeartbeats 4000000 in
set_option maxRecDepth 100000 in
theorem vX9_turn_163 {l : Launch} {d : Nat} {G : GS} {h : HP} {Q : Int → GS → HP → Prop} (a0 a1 a2 a3 a4 a6 : Int) (H : (ty G a0 = 9) ∧ (inR a6) ∧ (inR (h a0 4)) ∧ (((h a0 4) ≤ a6 → ∀ h5 : HP, h5 = hset h a0 15 0 → Q 1 G h5) ∧ (a6 < (h a0 4) → (inA G 10 (h a0 3) (((27 * a6) + (9 * a1)) + a2)) ∧ (inA G 10 (h a0 3) (((27 * a6) + (9 * a1)) + a3)) ∧ (dvR ((h (h a0 3) (((27 * a6) + (9 * a1)) + a2)) + (a4 * (h (h a0 3) (((27 * a6) + (9 * a1)) + a3)))) (h a0 0)) ∧ ∀ h9 : HP, h9 = hset h (h a0 3) (((27 * a6) + (9 * a1)) + a2) (((h (h a0 3) (((27 * a6) + (9 * a1)) + a2)) + (a4 * (h (h a0 3) (((27 * a6) + (9 * a1)) + a3)))) % (h a0 0)) → S l MX9_turn (d + 1, 0, 0, 0, 0) 163 [some (vR a0), some (vI a1), some (vI a2), some (vI a3), some (vI a4), none, some (vI (a6 + 1)), none] [] G h9 Q))) : S l MX9_turn (d + 1, 0, 0, 0, 0) 163 [some (vR a0), some (vI a1), some (vI a2), some (vI a3), some (vI a4), none, some (vI a6), none] [] G h Q := by
  refine s_iload dX9_turn_163 rfl ?_
  refine s_aload_n dX9_turn_165 rfl rfl ?_
  have f1 := H.1
  replace H := H.2
  refine s_getf (c := 9) (k := 4) (t := 0) (j := 4) dX9_turn_166 fl_X9_85 (by decide) (by decide) rfl rfl f1 ?_
  have f2 := H.1
  replace H := H.2
  have f3 := H.1
  replace H := H.2
  refine s_icmp_ge (tgt := 226) dX9_turn_169 (by decide) f2 f3 (fun c4 => ?_) (fun c4 => ?_)
  · replace H := H.1 c4
    refine s_aload_n dX9_turn_226 rfl rfl ?_
    refine s_iconst dX9_turn_227 ?_
    refine s_putZ (c := 9) (k := 15) (j := 15) dX9_turn_228 fl_X9_91 (by decide) (by decide) rfl rfl rfl (by decide) f1 (fun h5 eh5 => ?_)
    replace H := H h5 eh5
    refine s_iconst dX9_turn_231 ?_
    exact s_iret dX9_turn_232 rfl ⟨Nat.le_refl _, Nat.le_refl _⟩ H
  · replace H := H.2 c4
    refine s_bipush dX9_turn_172 (by decide) ?_
    refine s_iload dX9_turn_174 rfl ?_
    refine s_imul dX9_turn_176 ?_
    refine s_bipush dX9_turn_177 (by decide) ?_
    refine s_iload_n dX9_turn_179 rfl rfl ?_
    refine s_imul dX9_turn_180 ?_
    refine s_iadd dX9_turn_181 ?_
    refine s_istore dX9_turn_182 (by decide) rfl ?_
    show S l MX9_turn (d + 1, 0, 0, 0, 0) 184 [some (vR a0), some (vI a1), some (vI a2), some (vI a3), some (vI a4), none, some (vI a6), some (vI ((27 * a6) + (9 * a1)))] [] G h Q
    refine s_aload_n dX9_turn_184 rfl rfl ?_
    refine s_getf (c := 9) (k := 3) (t := 2) (j := 3) dX9_turn_185 fl_X9_20 (by decide) (by decide) rfl rfl f1 ?_
    refine s_iload dX9_turn_188 rfl ?_
    refine s_iload_n dX9_turn_190 rfl rfl ?_
    refine s_iadd dX9_turn_191 ?_
    refine s_aload_n dX9_turn_192 rfl rfl ?_
    refine s_getf (c := 9) (k := 3) (t := 2) (j := 3) dX9_turn_193 fl_X9_20 (by decide) (by decide) rfl rfl f1 ?_
    refine s_iload dX9_turn_196 rfl ?_
    refine s_iload_n dX9_turn_198 rfl rfl ?_
    refine s_iadd dX9_turn_199 ?_
    have f6 := H.1
    replace H := H.2
    refine s_iald dX9_turn_200 f6 ?_
    refine s_iload dX9_turn_201 rfl ?_
    refine s_aload_n dX9_turn_203 rfl rfl ?_
    refine s_getf (c := 9) (k := 3) (t := 2) (j := 3) dX9_turn_204 fl_X9_20 (by decide) (by decide) rfl rfl f1 ?_
    refine s_iload dX9_turn_207 rfl ?_
    refine s_iload_n dX9_turn_209 rfl rfl ?_
    refine s_iadd dX9_turn_210 ?_
    have f7 := H.1
    replace H := H.2
    refine s_iald dX9_turn_211 f7 ?_
    refine s_imul dX9_turn_212 ?_
    refine s_iadd dX9_turn_213 ?_
    refine s_aload_n dX9_turn_214 rfl rfl ?_
    refine s_getf (c := 9) (k := 0) (t := 0) (j := 0) dX9_turn_215 fl_X9_7 (by decide) (by decide) rfl rfl f1 ?_
    have f8 := H.1
    replace H := H.2
    refine s_irem dX9_turn_218 f8 ?_
    refine s_iastH dX9_turn_219 f6 (fun h9 eh9 => ?_)
    replace H := H h9 eh9
    refine s_iinc dX9_turn_220 rfl (by decide) rfl ?_
    show S l MX9_turn (d + 1, 0, 0, 0, 0) 223 [some (vR a0), some (vI a1), some (vI a2), some (vI a3), some (vI a4), none, some (vI (a6 + 1)), some (vI ((27 * a6) + (9 * a1)))] [] G h9 Q
    refine s_goto (tgt := 163) dX9_turn_223 (by decide) ?_
    exact S_cut (by first | exact ⟨rfl, ⟨rfl, ⟨rfl, ⟨rfl, ⟨rfl, ⟨rfl, trivial⟩⟩⟩⟩⟩⟩ | simp [lsub]) H
set_option maxHeartbeats 4000000 in
set_option maxRecDepth 100000 in
theorem vX9_rank_0 {l : Launch} {d : Nat} {G : GS} {h : HP} {Q : Int → GS → HP → Prop} (a0 a1 : Int) (H : (inR a1) ∧ R l MX9_in d 0 0 [vL a1, vL 0, vL 3] G h (fun r2 G3 h4 => (inR r2) ∧ ((r2 ≠ 0 → (inR a1) ∧ ((3 ≤ a1 → (ty G3 a0 = 9) ∧ R l MX9_rankBy d 0 0 [vR a0, vI 0] G3 h4 (fun r9 G10 h11 => (ty G10 a0 = 9) ∧ R l MX9_rankBy d 0 0 [vR a0, vI 1] G10 h11 (fun r13 G14 h15 => (inR r9) ∧ (inR r13) ∧ (ty G14 a0 = 9) ∧ R l MX9_rankBy d 0 0 [vR a0, vI 2] G14 h15 (fun r19 G20 h21 => (inR (if r9 < r13 then r13 else r9)) ∧ (inR r19) ∧ Q (if (if r9 < r13 then r13 else r9) < r19 then r19 else (if r9 < r13 then r13 else r9)) G20 h21)))) ∧ (a1 < 3 → (ty G3 a0 = 9) ∧ R l MX9_rankBy d 0 0 [vR a0, vI a1] G3 h4 (fun r25 G26 h27 => Q r25 G26 h27)))) ∧ (r2 = 0 → Q ((-1)) G3 h4)))) : S l MX9_rank (d + 1, 0, 0, 0, 0) 0 [some (vR a0), some (vI a1), none] [] G h Q := by
  refine s_iload_n dX9_rank_0 rfl rfl ?_
  have f1 := H.1
  replace H := H.2
  refine s_i2l dX9_rank_1 f1 ?_
  refine s_lconst (v := 0) dX9_rank_2 rfl ?_
  refine s_ldc2 (v := 3) dX9_rank_3 kc_X9_188 ?_
  refine s_callS (M' := MX9_in) (As := [vL a1, vL 0, vL 3]) (st := []) dX9_rank_6 ml_X9_97 cs_X9_in rfl rfl (Nat.le_of_ble_eq_true rfl) ⟨Nat.le_refl _, Nat.le_refl _⟩ (R_mono (fun r2 G3 h4 H => ?_) H)
  show S l MX9_rank (d + 1, 0, 0, 0, 0) 9 [some (vR a0), some (vI a1), none] [vI r2] G3 h4 Q
  have f5 := H.1
  replace H := H.2
  refine s_if_ne (tgt := 14) dX9_rank_9 (by decide) f5 (fun c6 => ?_) (fun c6 => ?_)
  · replace H := H.1 c6
    refine s_iload_n dX9_rank_14 rfl rfl ?_
    refine s_iconst dX9_rank_15 ?_
    have f7 := H.1
    replace H := H.2
    refine s_icmp_ge (tgt := 25) dX9_rank_16 (by decide) f7 (by decide) (fun c8 => ?_) (fun c8 => ?_)
    · replace H := H.1 c8
      refine s_aload_n dX9_rank_25 rfl rfl ?_
      refine s_iconst dX9_rank_26 ?_
      have f12 := H.1
      replace H := H.2
      refine s_callV (M' := MX9_rankBy) (As := [vI 0]) (a := a0) (st := []) dX9_rank_27 ml_X9_190 cv_X9_rankBy rfl rfl (Nat.le_of_ble_eq_true rfl) ⟨Nat.le_refl _, Nat.le_refl _⟩ f12 (R_mono (fun r9 G10 h11 H => ?_) H)
      show S l MX9_rank (d + 1, 0, 0, 0, 0) 30 [some (vR a0), some (vI a1), none] [vI r9] G10 h11 Q
      refine s_istore_n dX9_rank_30 rfl (by decide) rfl ?_
      show S l MX9_rank (d + 1, 0, 0, 0, 0) 31 [some (vR a0), some (vI a1), some (vI r9)] [] G10 h11 Q
      refine s_iload_n dX9_rank_31 rfl rfl ?_
      refine s_aload_n dX9_rank_32 rfl rfl ?_
      refine s_iconst dX9_rank_33 ?_
      have f16 := H.1
      replace H := H.2
      refine s_callV (M' := MX9_rankBy) (As := [vI 1]) (a := a0) (st := [vI r9]) dX9_rank_34 ml_X9_190 cv_X9_rankBy rfl rfl (Nat.le_of_ble_eq_true rfl) ⟨Nat.le_refl _, Nat.le_refl _⟩ f16 (R_mono (fun r13 G14 h15 H => ?_) H)
      show S l MX9_rank (d + 1, 0, 0, 0, 0) 37 [some (vR a0), some (vI a1), some (vI r9)] [vI r13, vI r9] G14 h15 Q
      have f17 := H.1
      replace H := H.2
      have f18 := H.1
      replace H := H.2
      refine s_mmax dX9_rank_37 ml_X9_193 ⟨Nat.le_refl _, Nat.le_refl _⟩ (Nat.le_of_ble_eq_true rfl) f17 f18 ?_
      refine s_istore_n dX9_rank_40 rfl (by decide) rfl ?_
      show S l MX9_rank (d + 1, 0, 0, 0, 0) 41 [some (vR a0), some (vI a1), some (vI (if r9 < r13 then r13 else r9))] [] G14 h15 Q
      refine s_iload_n dX9_rank_41 rfl rfl ?_
      refine s_aload_n dX9_rank_42 rfl rfl ?_
      refine s_iconst dX9_rank_43 ?_
      have f22 := H.1
      replace H := H.2
      refine s_callV (M' := MX9_rankBy) (As := [vI 2]) (a := a0) (st := [vI (if r9 < r13 then r13 else r9)]) dX9_rank_44 ml_X9_190 cv_X9_rankBy rfl rfl (Nat.le_of_ble_eq_true rfl) ⟨Nat.le_refl _, Nat.le_refl _⟩ f22 (R_mono (fun r19 G20 h21 H => ?_) H)
      show S l MX9_rank (d + 1, 0, 0, 0, 0) 47 [some (vR a0), some (vI a1), some (vI (if r9 < r13 then r13 else r9))] [vI r19, vI (if r9 < r13 then r13 else r9)] G20 h21 Q
      have f23 := H.1
      replace H := H.2
      have f24 := H.1
      replace H := H.2
      refine s_mmax dX9_rank_47 ml_X9_193 ⟨Nat.le_refl _, Nat.le_refl _⟩ (Nat.le_of_ble_eq_true rfl) f23 f24 ?_
      exact s_iret dX9_rank_50 rfl ⟨Nat.le_refl _, Nat.le_refl _⟩ H
    · replace H := H.2 c8
      refine s_aload_n dX9_rank_19 rfl rfl ?_
      refine s_iload_n dX9_rank_20 rfl rfl ?_
      have f28 := H.1
      replace H := H.2
      refine s_callV (M' := MX9_rankBy) (As := [vI a1]) (a := a0) (st := []) dX9_rank_21 ml_X9_190 cv_X9_rankBy rfl rfl (Nat.le_of_ble_eq_true rfl) ⟨Nat.le_refl _, Nat.le_refl _⟩ f28 (R_mono (fun r25 G26 h27 H => ?_) H)
      show S l MX9_rank (d + 1, 0, 0, 0, 0) 24 [some (vR a0), some (vI a1), none] [vI r25] G26 h27 Q
      exact s_iret dX9_rank_24 rfl ⟨Nat.le_refl _, Nat.le_refl _⟩ H
  · replace H := H.2 c6
    refine s_iconst dX9_rank_12 ?_
    exact s_iret dX9_rank_13 rfl ⟨Nat.le_refl _, Nat.le_refl _⟩ H
set_option maxHeartbeats 4000000 in
set_option maxRecDepth 100000 in
theorem vX9_rankBy_0 {l : Launch} {d : Nat} {G : GS} {h : HP} {Q : Int → GS → HP → Prop} (a0 a1 : Int) (H : (inR a1) ∧ ((a1 ≠ 0 → ((a1 ≠ 1 → ((a1 ≠ 0 → ((a1 ≠ 2 → S l MX9_rankBy (d + 1, 0, 0, 0, 0) 49 [some (vR a0), some (vI a1), some (vI 1), some (vI 81), some (vI 1), some (vI 0), none] [] G h Q) ∧ (a1 = 2 → S l MX9_rankBy (d + 1, 0, 0, 0, 0) 49 [some (vR a0), some (vI a1), some (vI 1), some (vI 81), some (vI 9), some (vI 0), none] [] G h Q))) ∧ (a1 = 0 → ((a1 ≠ 2 → S l MX9_rankBy (d + 1, 0, 0, 0, 0) 49 [some (vR a0), some (vI a1), some (vI 1), some (vI 9), some (vI 1), some (vI 0), none] [] G h Q) ∧ (a1 = 2 → S l MX9_rankBy (d + 1, 0, 0, 0, 0) 49 [some (vR a0), some (vI a1), some (vI 1), some (vI 9), some (vI 9), some (vI 0), none] [] G h Q))))) ∧ (a1 = 1 → ((a1 ≠ 0 → ((a1 ≠ 2 → S l MX9_rankBy (d + 1, 0, 0, 0, 0) 49 [some (vR a0), some (vI a1), some (vI 9), some (vI 81), some (vI 1), some (vI 0), none] [] G h Q) ∧ (a1 = 2 → S l MX9_rankBy (d + 1, 0, 0, 0, 0) 49 [some (vR a0), some (vI a1), some (vI 9), some (vI 81), some (vI 9), some (vI 0), none] [] G h Q))) ∧ (a1 = 0 → ((a1 ≠ 2 → S l MX9_rankBy (d + 1, 0, 0, 0, 0) 49 [some (vR a0), some (vI a1), some (vI 9), some (vI 9), some (vI 1), some (vI 0), none] [] G h Q) ∧ (a1 = 2 → S l MX9_rankBy (d + 1, 0, 0, 0, 0) 49 [some (vR a0), some (vI a1), some (vI 9), some (vI 9), some (vI 9), some (vI 0), none] [] G h Q))))))) ∧ (a1 = 0 → ((a1 ≠ 0 → ((a1 ≠ 2 → S l MX9_rankBy (d + 1, 0, 0, 0, 0) 49 [some (vR a0), some (vI a1), some (vI 81), some (vI 81), some (vI 1), some (vI 0), none] [] G h Q) ∧ (a1 = 2 → S l MX9_rankBy (d + 1, 0, 0, 0, 0) 49 [some (vR a0), some (vI a1), some (vI 81), some (vI 81), some (vI 9), some (vI 0), none] [] G h Q))) ∧ (a1 = 0 → ((a1 ≠ 2 → S l MX9_rankBy (d + 1, 0, 0, 0, 0) 49 [some (vR a0), some (vI a1), some (vI 81), some (vI 9), some (vI 1), some (vI 0), none] [] G h Q) ∧ (a1 = 2 → S l MX9_rankBy (d + 1, 0, 0, 0, 0) 49 [some (vR a0), some (vI a1), some (vI 81), some (vI 9), some (vI 9), some (vI 0), none] [] G h Q))))))) : S l MX9_rankBy (d + 1, 0, 0, 0, 0) 0 [some (vR a0), some (vI a1), none, none, none, none, none] [] G h Q := by
  refine s_iload_n dX9_rankBy_0 rfl rfl ?_
  have f1 := H.1
  replace H := H.2
  refine s_if_ne (tgt := 9) dX9_rankBy_1 (by decide) f1 (fun c2 => ?_) (fun c2 => ?_)
  · replace H := H.1 c2
    refine s_iload_n dX9_rankBy_9 rfl rfl ?_
    refine s_iconst dX9_rankBy_10 ?_
    refine s_icmp_ne (tgt := 19) dX9_rankBy_11 (by decide) f1 (by decide) (fun c3 => ?_) (fun c3 => ?_)
    · replace H := H.1 c3
      refine s_iconst dX9_rankBy_19 ?_
      refine s_istore_n dX9_rankBy_20 rfl (by decide) rfl ?_
      show S l MX9_rankBy (d + 1, 0, 0, 0, 0) 21 [some (vR a0), some (vI a1), some (vI 1), none, none, none, none] [] G h Q
      refine s_iload_n dX9_rankBy_21 rfl rfl ?_
      refine s_if_ne (tgt := 30) dX9_rankBy_22 (by decide) f1 (fun c4 => ?_) (fun c4 => ?_)
      · replace H := H.1 c4
        refine s_bipush dX9_rankBy_30 (by decide) ?_
        refine s_istore_n dX9_rankBy_32 rfl (by decide) rfl ?_
        show S l MX9_rankBy (d + 1, 0, 0, 0, 0) 33 [some (vR a0), some (vI a1), some (vI 1), some (vI 81), none, none, none] [] G h Q
        refine s_iload_n dX9_rankBy_33 rfl rfl ?_
        refine s_iconst dX9_rankBy_34 ?_
        refine s_icmp_ne (tgt := 43) dX9_rankBy_35 (by decide) f1 (by decide) (fun c5 => ?_) (fun c5 => ?_)
        · replace H := H.1 c5
          refine s_iconst dX9_rankBy_43 ?_
          refine s_istore dX9_rankBy_44 (by decide) rfl ?_
          show S l MX9_rankBy (d + 1, 0, 0, 0, 0) 46 [some (vR a0), some (vI a1), some (vI 1), some (vI 81), some (vI 1), none, none] [] G h Q
          refine s_iconst dX9_rankBy_46 ?_
          refine s_istore dX9_rankBy_47 (by decide) rfl ?_
          show S l MX9_rankBy (d + 1, 0, 0, 0, 0) 49 [some (vR a0), some (vI a1), some (vI 1), some (vI 81), some (vI 1), some (vI 0), none] [] G h Q
          exact S_cut (by first | exact ⟨rfl, ⟨rfl, ⟨rfl, ⟨rfl, ⟨rfl, ⟨rfl, trivial⟩⟩⟩⟩⟩⟩ | simp [lsub]) H
        · replace H := H.2 c5
          refine s_bipush dX9_rankBy_38 (by decide) ?_
          refine s_goto (tgt := 44) dX9_rankBy_40 (by decide) ?_
          refine s_istore dX9_rankBy_44 (by decide) rfl ?_
          show S l MX9_rankBy (d + 1, 0, 0, 0, 0) 46 [some (vR a0), some (vI a1), some (vI 1), some (vI 81), some (vI 9), none, none] [] G h Q
          refine s_iconst dX9_rankBy_46 ?_
          refine s_istore dX9_rankBy_47 (by decide) rfl ?_
          show S l MX9_rankBy (d + 1, 0, 0, 0, 0) 49 [some (vR a0), some (vI a1), some (vI 1), some (vI 81), some (vI 9), some (vI 0), none] [] G h Q
          exact S_cut (by first | exact ⟨rfl, ⟨rfl, ⟨rfl, ⟨rfl, ⟨rfl, ⟨rfl, trivial⟩⟩⟩⟩⟩⟩ | simp [lsub]) H
      · replace H := H.2 c4
        refine s_bipush dX9_rankBy_25 (by decide) ?_
        refine s_goto (tgt := 32) dX9_rankBy_27 (by decide) ?_
        refine s_istore_n dX9_rankBy_32 rfl (by decide) rfl ?_
        show S l MX9_rankBy (d + 1, 0, 0, 0, 0) 33 [some (vR a0), some (vI a1), some (vI 1), some (vI 9), none, none, none] [] G h Q
        refine s_iload_n dX9_rankBy_33 rfl rfl ?_
        refine s_iconst dX9_rankBy_34 ?_
        refine s_icmp_ne (tgt := 43) dX9_rankBy_35 (by decide) f1 (by decide) (fun c6 => ?_) (fun c6 => ?_)
        · replace H := H.1 c6
          refine s_iconst dX9_rankBy_43 ?_
          refine s_istore dX9_rankBy_44 (by decide) rfl ?_
          show S l MX9_rankBy (d + 1, 0, 0, 0, 0) 46 [some (vR a0), some (vI a1), some (vI 1), some (vI 9), some (vI 1), none, none] [] G h Q
          refine s_iconst dX9_rankBy_46 ?_
          refine s_istore dX9_rankBy_47 (by decide) rfl ?_
          show S l MX9_rankBy (d + 1, 0, 0, 0, 0) 49 [some (vR a0), some (vI a1), some (vI 1), some (vI 9), some (vI 1), some (vI 0), none] [] G h Q
          exact S_cut (by first | exact ⟨rfl, ⟨rfl, ⟨rfl, ⟨rfl, ⟨rfl, ⟨rfl, trivial⟩⟩⟩⟩⟩⟩ | simp [lsub]) H
        · replace H := H.2 c6
          refine s_bipush dX9_rankBy_38 (by decide) ?_
          refine s_goto (tgt := 44) dX9_rankBy_40 (by decide) ?_
          refine s_istore dX9_rankBy_44 (by decide) rfl ?_
          show S l MX9_rankBy (d + 1, 0, 0, 0, 0) 46 [some (vR a0), some (vI a1), some (vI 1), some (vI 9), some (vI 9), none, none] [] G h Q
          refine s_iconst dX9_rankBy_46 ?_
          refine s_istore dX9_rankBy_47 (by decide) rfl ?_
          show S l MX9_rankBy (d + 1, 0, 0, 0, 0) 49 [some (vR a0), some (vI a1), some (vI 1), some (vI 9), some (vI 9), some (vI 0), none] [] G h Q
          exact S_cut (by first | exact ⟨rfl, ⟨rfl, ⟨rfl, ⟨rfl, ⟨rfl, ⟨rfl, trivial⟩⟩⟩⟩⟩⟩ | simp [lsub]) H
    · replace H := H.2 c3
      refine s_bipush dX9_rankBy_14 (by decide) ?_
      refine s_goto (tgt := 20) dX9_rankBy_16 (by decide) ?_
      refine s_istore_n dX9_rankBy_20 rfl (by decide) rfl ?_
      show S l MX9_rankBy (d + 1, 0, 0, 0, 0) 21 [some (vR a0), some (vI a1), some (vI 9), none, none, none, none] [] G h Q
      refine s_iload_n dX9_rankBy_21 rfl rfl ?_
      refine s_if_ne (tgt := 30) dX9_rankBy_22 (by decide) f1 (fun c7 => ?_) (fun c7 => ?_)
      · replace H := H.1 c7
        refine s_bipush dX9_rankBy_30 (by decide) ?_
        refine s_istore_n dX9_rankBy_32 rfl (by decide) rfl ?_
        show S l MX9_rankBy (d + 1, 0, 0, 0, 0) 33 [some (vR a0), some (vI a1), some (vI 9), some (vI 81), none, none, none] [] G h Q
        refine s_iload_n dX9_rankBy_33 rfl rfl ?_
        refine s_iconst dX9_rankBy_34 ?_
        refine s_icmp_ne (tgt := 43) dX9_rankBy_35 (by decide) f1 (by decide) (fun c8 => ?_) (fun c8 => ?_)
        · replace H := H.1 c8
          refine s_iconst dX9_rankBy_43 ?_
          refine s_istore dX9_rankBy_44 (by decide) rfl ?_
          show S l MX9_rankBy (d + 1, 0, 0, 0, 0) 46 [some (vR a0), some (vI a1), some (vI 9), some (vI 81), some (vI 1), none, none] [] G h Q
          refine s_iconst dX9_rankBy_46 ?_
          refine s_istore dX9_rankBy_47 (by decide) rfl ?_
          show S l MX9_rankBy (d + 1, 0, 0, 0, 0) 49 [some (vR a0), some (vI a1), some (vI 9), some (vI 81), some (vI 1), some (vI 0), none] [] G h Q
          exact S_cut (by first | exact ⟨rfl, ⟨rfl, ⟨rfl, ⟨rfl, ⟨rfl, ⟨rfl, trivial⟩⟩⟩⟩⟩⟩ | simp [lsub]) H
        · replace H := H.2 c8
          refine s_bipush dX9_rankBy_38 (by decide) ?_
          refine s_goto (tgt := 44) dX9_rankBy_40 (by decide) ?_
          refine s_istore dX9_rankBy_44 (by decide) rfl ?_
          show S l MX9_rankBy (d + 1, 0, 0, 0, 0) 46 [some (vR a0), some (vI a1), some (vI 9), some (vI 81), some (vI 9), none, none] [] G h Q
          refine s_iconst dX9_rankBy_46 ?_
          refine s_istore dX9_rankBy_47 (by decide) rfl ?_
          show S l MX9_rankBy (d + 1, 0, 0, 0, 0) 49 [some (vR a0), some (vI a1), some (vI 9), some (vI 81), some (vI 9), some (vI 0), none] [] G h Q
          exact S_cut (by first | exact ⟨rfl, ⟨rfl, ⟨rfl, ⟨rfl, ⟨rfl, ⟨rfl, trivial⟩⟩⟩⟩⟩⟩ | simp [lsub]) H
      · replace H := H.2 c7
        refine s_bipush dX9_rankBy_25 (by decide) ?_
        refine s_goto (tgt := 32) dX9_rankBy_27 (by decide) ?_
        refine s_istore_n dX9_rankBy_32 rfl (by decide) rfl ?_
        show S l MX9_rankBy (d + 1, 0, 0, 0, 0) 33 [some (vR a0), some (vI a1), some (vI 9), some (vI 9), none, none, none] [] G h Q
        refine s_iload_n dX9_rankBy_33 rfl rfl ?_
        refine s_iconst dX9_rankBy_34 ?_
        refine s_icmp_ne (tgt := 43) dX9_rankBy_35 (by decide) f1 (by decide) (fun c9 => ?_) (fun c9 => ?_)
        · replace H := H.1 c9
          refine s_iconst dX9_rankBy_43 ?_
          refine s_istore dX9_rankBy_44 (by decide) rfl ?_
          show S l MX9_rankBy (d + 1, 0, 0, 0, 0) 46 [some (vR a0), some (vI a1), some (vI 9), some (vI 9), some (vI 1), none, none] [] G h Q
          refine s_iconst dX9_rankBy_46 ?_
          refine s_istore dX9_rankBy_47 (by decide) rfl ?_
          show S l MX9_rankBy (d + 1, 0, 0, 0, 0) 49 [some (vR a0), some (vI a1), some (vI 9), some (vI 9), some (vI 1), some (vI 0), none] [] G h Q
          exact S_cut (by first | exact ⟨rfl, ⟨rfl, ⟨rfl, ⟨rfl, ⟨rfl, ⟨rfl, trivial⟩⟩⟩⟩⟩⟩ | simp [lsub]) H
        · replace H := H.2 c9
          refine s_bipush dX9_rankBy_38 (by decide) ?_
          refine s_goto (tgt := 44) dX9_rankBy_40 (by decide) ?_
          refine s_istore dX9_rankBy_44 (by decide) rfl ?_
          show S l MX9_rankBy (d + 1, 0, 0, 0, 0) 46 [some (vR a0), some (vI a1), some (vI 9), some (vI 9), some (vI 9), none, none] [] G h Q
          refine s_iconst dX9_rankBy_46 ?_
          refine s_istore dX9_rankBy_47 (by decide) rfl ?_
          show S l MX9_rankBy (d + 1, 0, 0, 0, 0) 49 [some (vR a0), some (vI a1), some (vI 9), some (vI 9), some (vI 9), some (vI 0), none] [] G h Q
          exact S_cut (by first | exact ⟨rfl, ⟨rfl, ⟨rfl, ⟨rfl, ⟨rfl, ⟨rfl, trivial⟩⟩⟩⟩⟩⟩ | simp [lsub]) H
  · replace H := H.2 c2
    refine s_bipush dX9_rankBy_4 (by decide) ?_
    refine s_goto (tgt := 20) dX9_rankBy_6 (by decide) ?_
    refine s_istore_n dX9_rankBy_20 rfl (by decide) rfl ?_
    show S l MX9_rankBy (d + 1, 0, 0, 0, 0) 21 [some (vR a0), some (vI a1), some (vI 81), none, none, none, none] [] G h Q
    refine s_iload_n dX9_rankBy_21 rfl rfl ?_
    refine s_if_ne (tgt := 30) dX9_rankBy_22 (by decide) f1 (fun c10 => ?_) (fun c10 => ?_)
    · replace H := H.1 c10
      refine s_bipush dX9_rankBy_30 (by decide) ?_
      refine s_istore_n dX9_rankBy_32 rfl (by decide) rfl ?_
      show S l MX9_rankBy (d + 1, 0, 0, 0, 0) 33 [some (vR a0), some (vI a1), some (vI 81), some (vI 81), none, none, none] [] G h Q
      refine s_iload_n dX9_rankBy_33 rfl rfl ?_
      refine s_iconst dX9_rankBy_34 ?_
      refine s_icmp_ne (tgt := 43) dX9_rankBy_35 (by decide) f1 (by decide) (fun c11 => ?_) (fun c11 => ?_)
      · replace H := H.1 c11
        refine s_iconst dX9_rankBy_43 ?_
        refine s_istore dX9_rankBy_44 (by decide) rfl ?_
        show S l MX9_rankBy (d + 1, 0, 0, 0, 0) 46 [some (vR a0), some (vI a1), some (vI 81), some (vI 81), some (vI 1), none, none] [] G h Q
        refine s_iconst dX9_rankBy_46 ?_
        refine s_istore dX9_rankBy_47 (by decide) rfl ?_
        show S l MX9_rankBy (d + 1, 0, 0, 0, 0) 49 [some (vR a0), some (vI a1), some (vI 81), some (vI 81), some (vI 1), some (vI 0), none] [] G h Q
        exact S_cut (by first | exact ⟨rfl, ⟨rfl, ⟨rfl, ⟨rfl, ⟨rfl, ⟨rfl, trivial⟩⟩⟩⟩⟩⟩ | simp [lsub]) H
      · replace H := H.2 c11
        refine s_bipush dX9_rankBy_38 (by decide) ?_
        refine s_goto (tgt := 44) dX9_rankBy_40 (by decide) ?_
        refine s_istore dX9_rankBy_44 (by decide) rfl ?_
        show S l MX9_rankBy (d + 1, 0, 0, 0, 0) 46 [some (vR a0), some (vI a1), some (vI 81), some (vI 81), some (vI 9), none, none] [] G h Q
        refine s_iconst dX9_rankBy_46 ?_
        refine s_istore dX9_rankBy_47 (by decide) rfl ?_
        show S l MX9_rankBy (d + 1, 0, 0, 0, 0) 49 [some (vR a0), some (vI a1), some (vI 81), some (vI 81), some (vI 9), some (vI 0), none] [] G h Q
        exact S_cut (by first | exact ⟨rfl, ⟨rfl, ⟨rfl, ⟨rfl, ⟨rfl, ⟨rfl, trivial⟩⟩⟩⟩⟩⟩ | simp [lsub]) H
    · replace H := H.2 c10
      refine s_bipush dX9_rankBy_25 (by decide) ?_
      refine s_goto (tgt := 32) dX9_rankBy_27 (by decide) ?_
      refine s_istore_n dX9_rankBy_32 rfl (by decide) rfl ?_
      show S l MX9_rankBy (d + 1, 0, 0, 0, 0) 33 [some (vR a0), some (vI a1), some (vI 81), some (vI 9), none, none, none] [] G h Q
      refine s_iload_n dX9_rankBy_33 rfl rfl ?_
      refine s_iconst dX9_rankBy_34 ?_
      refine s_icmp_ne (tgt := 43) dX9_rankBy_35 (by decide) f1 (by decide) (fun c12 => ?_) (fun c12 => ?_)
      · replace H := H.1 c12
        refine s_iconst dX9_rankBy_43 ?_
        refine s_istore dX9_rankBy_44 (by decide) rfl ?_
        show S l MX9_rankBy (d + 1, 0, 0, 0, 0) 46 [some (vR a0), some (vI a1), some (vI 81), some (vI 9), some (vI 1), none, none] [] G h Q
        refine s_iconst dX9_rankBy_46 ?_
        refine s_istore dX9_rankBy_47 (by decide) rfl ?_
        show S l MX9_rankBy (d + 1, 0, 0, 0, 0) 49 [some (vR a0), some (vI a1), some (vI 81), some (vI 9), some (vI 1), some (vI 0), none] [] G h Q
        exact S_cut (by first | exact ⟨rfl, ⟨rfl, ⟨rfl, ⟨rfl, ⟨rfl, ⟨rfl, trivial⟩⟩⟩⟩⟩⟩ | simp [lsub]) H
      · replace H := H.2 c12
        refine s_bipush dX9_rankBy_38 (by decide) ?_
        refine s_goto (tgt := 44) dX9_rankBy_40 (by decide) ?_
        refine s_istore dX9_rankBy_44 (by decide) rfl ?_
        show S l MX9_rankBy (d + 1, 0, 0, 0, 0) 46 [some (vR a0), some (vI a1), some (vI 81), some (vI 9), some (vI 9), none, none] [] G h Q
        refine s_iconst dX9_rankBy_46 ?_
        refine s_istore dX9_rankBy_47 (by decide) rfl ?_
        show S l MX9_rankBy (d + 1, 0, 0, 0, 0) 49 [some (vR a0), some (vI a1), some (vI 81), some (vI 9), some (vI 9), some (vI 0), none] [] G h Q
        exact S_cut (by first | exact ⟨rfl, ⟨rfl, ⟨rfl, ⟨rfl, ⟨rfl, ⟨rfl, trivial⟩⟩⟩⟩⟩⟩ | simp [lsub]) H
set_option maxHeartbeats 4000000 in
set_option maxRecDepth 100000 in
theorem vX9_rankBy_49 {l : Launch} {d : Nat} {G : GS} {h : HP} {Q : Int → GS → HP → Prop} (a0 a1 a2 a3 a4 a5 : Int) (H : (inR a5) ∧ ((9 ≤ a5 → (ty G a0 = 9) ∧ (inA G 10 (h a0 1) a1) ∧ R l MX9_rankOfLines d 0 0 [vR a0, vI (h (h a0 1) a1), vI 81] G h (fun r5 G6 h7 => Q r5 G6 h7)) ∧ (a5 < 9 → S l MX9_rankBy (d + 1, 0, 0, 0, 0) 59 [some (vR a0), some (vI a1), some (vI a2), some (vI a3), some (vI a4), some (vI a5), some (vI 0)] [] G h Q))) : S l MX9_rankBy (d + 1, 0, 0, 0, 0) 49 [some (vR a0), some (vI a1), some (vI a2), some (vI a3), some (vI a4), some (vI a5), none] [] G h Q := by
  refine s_iload dX9_rankBy_49 rfl ?_
  refine s_bipush dX9_rankBy_51 (by decide) ?_
  have f1 := H.1
  replace H := H.2
  refine s_icmp_ge (tgt := 117) dX9_rankBy_53 (by decide) f1 (by decide) (fun c2 => ?_) (fun c2 => ?_)
  · replace H := H.1 c2
    refine s_aload_n dX9_rankBy_117 rfl rfl ?_
    refine s_aload_n dX9_rankBy_118 rfl rfl ?_
    have f3 := H.1
    replace H := H.2
    refine s_getf (c := 9) (k := 1) (t := 2) (j := 1) dX9_rankBy_119 fl_X9_13 (by decide) (by decide) rfl rfl f3 ?_
    refine s_iload_n dX9_rankBy_122 rfl rfl ?_
    have f4 := H.1
    replace H := H.2
    refine s_iald dX9_rankBy_123 f4 ?_
    refine s_bipush dX9_rankBy_124 (by decide) ?_
    refine s_callV (M' := MX9_rankOfLines) (As := [vI (h (h a0 1) a1), vI 81]) (a := a0) (st := []) dX9_rankBy_126 ml_X9_185 cv_X9_rankOfLines rfl rfl (Nat.le_of_ble_eq_true rfl) ⟨Nat.le_refl _, Nat.le_refl _⟩ f3 (R_mono (fun r5 G6 h7 H => ?_) H)
    show S l MX9_rankBy (d + 1, 0, 0, 0, 0) 129 [some (vR a0), some (vI a1), some (vI a2), some (vI a3), some (vI a4), some (vI a5), none] [vI r5] G6 h7 Q
    exact s_iret dX9_rankBy_129 rfl ⟨Nat.le_refl _, Nat.le_refl _⟩ H
  · replace H := H.2 c2
    refine s_iconst dX9_rankBy_56 ?_
    refine s_istore dX9_rankBy_57 (by decide) rfl ?_
    show S l MX9_rankBy (d + 1, 0, 0, 0, 0) 59 [some (vR a0), some (vI a1), some (vI a2), some (vI a3), some (vI a4), some (vI a5), some (vI 0)] [] G h Q
    exact S_cut (by first | exact ⟨rfl, ⟨rfl, ⟨rfl, ⟨rfl, ⟨rfl, ⟨rfl, ⟨rfl, trivial⟩⟩⟩⟩⟩⟩⟩ | simp [lsub]) H
set_option maxHeartbeats 4000000 in
set_option maxRecDepth 100000 in
theorem vX9_rankBy_59 {l : Launch} {d : Nat} {G : GS} {h : HP} {Q : Int → GS → HP → Prop} (a0 a1 a2 a3 a4 a5 a6 : Int) (H : (inR a6) ∧ ((81 ≤ a6 → S l MX9_rankBy (d + 1, 0, 0, 0, 0) 49 [some (vR a0), some (vI a1), some (vI a2), some (vI a3), some (vI a4), some (vI (a5 + 1)), none] [] G h Q) ∧ (a6 < 81 → (ty G a0 = 9) ∧ (dvR a6 9) ∧ (inA G 10 (h a0 2) (((a2 * a5) + (a3 * (a6 / 9))) + (a4 * (a6 % 9)))) ∧ (inA G 10 (h a0 14) ((81 * a5) + a6)) ∧ ∀ h7 : HP, h7 = hset h (h a0 14) ((81 * a5) + a6) (h (h a0 2) (((a2 * a5) + (a3 * (a6 / 9))) + (a4 * (a6 % 9)))) → S l MX9_rankBy (d + 1, 0, 0, 0, 0) 59 [some (vR a0), some (vI a1), some (vI a2), some (vI a3), some (vI a4), some (vI a5), some (vI (a6 + 1))] [] G h7 Q))) : S l MX9_rankBy (d + 1, 0, 0, 0, 0) 59 [some (vR a0), some (vI a1), some (vI a2), some (vI a3), some (vI a4), some (vI a5), some (vI a6)] [] G h Q := by
  refine s_iload dX9_rankBy_59 rfl ?_
  refine s_bipush dX9_rankBy_61 (by decide) ?_
  have f1 := H.1
  replace H := H.2
  refine s_icmp_ge (tgt := 111) dX9_rankBy_63 (by decide) f1 (by decide) (fun c2 => ?_) (fun c2 => ?_)
  · replace H := H.1 c2
    refine s_iinc dX9_rankBy_111 rfl (by decide) rfl ?_
    show S l MX9_rankBy (d + 1, 0, 0, 0, 0) 114 [some (vR a0), some (vI a1), some (vI a2), some (vI a3), some (vI a4), some (vI (a5 + 1)), some (vI a6)] [] G h Q
    refine s_goto (tgt := 49) dX9_rankBy_114 (by decide) ?_
    exact S_cut (by first | exact ⟨rfl, ⟨rfl, ⟨rfl, ⟨rfl, ⟨rfl, ⟨rfl, trivial⟩⟩⟩⟩⟩⟩ | simp [lsub]) H
  · replace H := H.2 c2
    refine s_aload_n dX9_rankBy_66 rfl rfl ?_
    have f3 := H.1
    replace H := H.2
    refine s_getf (c := 9) (k := 14) (t := 2) (j := 14) dX9_rankBy_67 fl_X9_51 (by decide) (by decide) rfl rfl f3 ?_
    refine s_bipush dX9_rankBy_70 (by decide) ?_
    refine s_iload dX9_rankBy_72 rfl ?_
    refine s_imul dX9_rankBy_74 ?_
    refine s_iload dX9_rankBy_75 rfl ?_
    refine s_iadd dX9_rankBy_77 ?_
    refine s_aload_n dX9_rankBy_78 rfl rfl ?_
    refine s_getf (c := 9) (k := 2) (t := 2) (j := 2) dX9_rankBy_79 fl_X9_17 (by decide) (by decide) rfl rfl f3 ?_
    refine s_iload_n dX9_rankBy_82 rfl rfl ?_
    refine s_iload dX9_rankBy_83 rfl ?_
    refine s_imul dX9_rankBy_85 ?_
    refine s_iload_n dX9_rankBy_86 rfl rfl ?_
    refine s_iload dX9_rankBy_87 rfl ?_
    refine s_bipush dX9_rankBy_89 (by decide) ?_
    have f4 := H.1
    replace H := H.2
    refine s_idiv dX9_rankBy_91 f4 ?_
    refine s_imul dX9_rankBy_92 ?_
    refine s_iadd dX9_rankBy_93 ?_
    refine s_iload dX9_rankBy_94 rfl ?_
    refine s_iload dX9_rankBy_96 rfl ?_
    refine s_bipush dX9_rankBy_98 (by decide) ?_
    refine s_irem dX9_rankBy_100 f4 ?_
    refine s_imul dX9_rankBy_101 ?_
    refine s_iadd dX9_rankBy_102 ?_
    have f5 := H.1
    replace H := H.2
    refine s_iald dX9_rankBy_103 f5 ?_
    have f6 := H.1
    replace H := H.2
    refine s_iastH dX9_rankBy_104 f6 (fun h7 eh7 => ?_)
    replace H := H h7 eh7
    refine s_iinc dX9_rankBy_105 rfl (by decide) rfl ?_
    show S l MX9_rankBy (d + 1, 0, 0, 0, 0) 108 [some (vR a0), some (vI a1), some (vI a2), some (vI a3), some (vI a4), some (vI a5), some (vI (a6 + 1))] [] G h7 Q
    refine s_goto (tgt := 59) dX9_rankBy_108 (by decide) ?_
    exact S_cut (by first | exact ⟨rfl, ⟨rfl, ⟨rfl, ⟨rfl, ⟨rfl, ⟨rfl, ⟨rfl, trivial⟩⟩⟩⟩⟩⟩⟩ | simp [lsub]) H
set_option maxHeartbeats 4000000 in
set_option maxRecDepth 100000 in
theorem vX9_rankOfLines_0 {l : Launch} {d : Nat} {G : GS} {h : HP} {Q : Int → GS → HP → Prop} (a0 a1 a2 : Int) (H : S l MX9_rankOfLines (d + 1, 0, 0, 0, 0) 5 [some (vR a0), some (vI a1), some (vI a2), some (vI 0), some (vI 0), none] [] G h Q) : S l MX9_rankOfLines (d + 1, 0, 0, 0, 0) 0 [some (vR a0), some (vI a1), some (vI a2), none, none, none] [] G h Q := by
  refine s_iconst dX9_rankOfLines_0 ?_
  refine s_istore_n dX9_rankOfLines_1 rfl (by decide) rfl ?_
  show S l MX9_rankOfLines (d + 1, 0, 0, 0, 0) 2 [some (vR a0), some (vI a1), some (vI a2), some (vI 0), none, none] [] G h Q
  refine s_iconst dX9_rankOfLines_2 ?_
  refine s_istore dX9_rankOfLines_3 (by decide) rfl ?_
  show S l MX9_rankOfLines (d + 1, 0, 0, 0, 0) 5 [some (vR a0), some (vI a1), some (vI a2), some (vI 0), some (vI 0), none] [] G h Q
  exact S_cut (by first | exact ⟨rfl, ⟨rfl, ⟨rfl, ⟨rfl, ⟨rfl, trivial⟩⟩⟩⟩⟩ | simp [lsub]) H
set_option maxHeartbeats 4000000 in
set_option maxRecDepth 100000 in
theorem vX9_rankOfLines_5 {l : Launch} {d : Nat} {G : GS} {h : HP} {Q : Int → GS → HP → Prop} (a0 a1 a2 a3 a4 : Int) (H : (inR a4) ∧ (inR a2) ∧ ((a2 ≤ a4 → Q a3 G h) ∧ (a4 < a2 → (inR a3) ∧ (inR a1) ∧ ((a1 ≤ a3 → Q a3 G h) ∧ (a3 < a1 → S l MX9_rankOfLines (d + 1, 0, 0, 0, 0) 19 [some (vR a0), some (vI a1), some (vI a2), some (vI a3), some (vI a4), some (vI a3)] [] G h Q))))) : S l MX9_rankOfLines (d + 1, 0, 0, 0, 0) 5 [some (vR a0), some (vI a1), some (vI a2), some (vI a3), some (vI a4), none] [] G h Q := by
  refine s_iload dX9_rankOfLines_5 rfl ?_
  refine s_iload_n dX9_rankOfLines_7 rfl rfl ?_
  have f1 := H.1
  replace H := H.2
  have f2 := H.1
  replace H := H.2
  refine s_icmp_ge (tgt := 73) dX9_rankOfLines_8 (by decide) f1 f2 (fun c3 => ?_) (fun c3 => ?_)
  · replace H := H.1 c3
    refine s_iload_n dX9_rankOfLines_73 rfl rfl ?_
    exact s_iret dX9_rankOfLines_74 rfl ⟨Nat.le_refl _, Nat.le_refl _⟩ H
  · replace H := H.2 c3
    refine s_iload_n dX9_rankOfLines_11 rfl rfl ?_
    refine s_iload_n dX9_rankOfLines_12 rfl rfl ?_
    have f4 := H.1
    replace H := H.2
    have f5 := H.1
    replace H := H.2
    refine s_icmp_ge (tgt := 73) dX9_rankOfLines_13 (by decide) f4 f5 (fun c6 => ?_) (fun c6 => ?_)
    · replace H := H.1 c6
      refine s_iload_n dX9_rankOfLines_73 rfl rfl ?_
      exact s_iret dX9_rankOfLines_74 rfl ⟨Nat.le_refl _, Nat.le_refl _⟩ H
    · replace H := H.2 c6
      refine s_iload_n dX9_rankOfLines_16 rfl rfl ?_
      refine s_istore dX9_rankOfLines_17 (by decide) rfl ?_
      show S l MX9_rankOfLines (d + 1, 0, 0, 0, 0) 19 [some (vR a0), some (vI a1), some (vI a2), some (vI a3), some (vI a4), some (vI a3)] [] G h Q
      exact S_cut (by first | exact ⟨rfl, ⟨rfl, ⟨rfl, ⟨rfl, ⟨rfl, ⟨rfl, trivial⟩⟩⟩⟩⟩⟩ | simp [lsub]) H
set_option maxHeartbeats 4000000 in
set_option maxRecDepth 100000 in
theorem vX9_rankOfLines_19 {l : Launch} {d : Nat} {G : GS} {h : HP} {Q : Int → GS → HP → Prop} (a0 a1 a2 a3 a4 a5 : Int) (H : (inR a5) ∧ (inR a1) ∧ ((a1 ≤ a5 → ((a1 ≤ a5 → S l MX9_rankOfLines (d + 1, 0, 0, 0, 0) 5 [some (vR a0), some (vI a1), some (vI a2), some (vI a3), some (vI (a4 + 1)), none] [] G h Q) ∧ (a5 < a1 → (ty G a0 = 9) ∧ R l MX9_takeLine d 0 0 [vR a0, vI a5, vI a3, vI a4, vI a1, vI a2] G h (fun r5 G6 h7 => S l MX9_rankOfLines (d + 1, 0, 0, 0, 0) 5 [some (vR a0), some (vI a1), some (vI a2), some (vI (a3 + 1)), some (vI (a4 + 1)), none] [] G6 h7 Q)))) ∧ (a5 < a1 → (ty G a0 = 9) ∧ (inA G 10 (h a0 14) ((81 * a5) + a4)) ∧ (inR (h (h a0 14) ((81 * a5) + a4))) ∧ (((h (h a0 14) ((81 * a5) + a4)) ≠ 0 → ((a1 ≤ a5 → S l MX9_rankOfLines (d + 1, 0, 0, 0, 0) 5 [some (vR a0), some (vI a1), some (vI a2), some (vI a3), some (vI (a4 + 1)), none] [] G h Q) ∧ (a5 < a1 → R l MX9_takeLine d 0 0 [vR a0, vI a5, vI a3, vI a4, vI a1, vI a2] G h (fun r14 G15 h16 => S l MX9_rankOfLines (d + 1, 0, 0, 0, 0) 5 [some (vR a0), some (vI a1), some (vI a2), some (vI (a3 + 1)), some (vI (a4 + 1)), none] [] G15 h16 Q)))) ∧ ((h (h a0 14) ((81 * a5) + a4)) = 0 → S l MX9_rankOfLines (d + 1, 0, 0, 0, 0) 19 [some (vR a0), some (vI a1), some (vI a2), some (vI a3), some (vI a4), some (vI (a5 + 1))] [] G h Q))))) : S l MX9_rankOfLines (d + 1, 0, 0, 0, 0) 19 [some (vR a0), some (vI a1), some (vI a2), some (vI a3), some (vI a4), some (vI a5)] [] G h Q := by
  refine s_iload dX9_rankOfLines_19 rfl ?_
  refine s_iload_n dX9_rankOfLines_21 rfl rfl ?_
  have f1 := H.1
  replace H := H.2
  have f2 := H.1
  replace H := H.2
  refine s_icmp_ge (tgt := 47) dX9_rankOfLines_22 (by decide) f1 f2 (fun c3 => ?_) (fun c3 => ?_)
  · replace H := H.1 c3
    refine s_iload dX9_rankOfLines_47 rfl ?_
    refine s_iload_n dX9_rankOfLines_49 rfl rfl ?_
    refine s_icmp_ge (tgt := 67) dX9_rankOfLines_50 (by decide) f1 f2 (fun c4 => ?_) (fun c4 => ?_)
    · replace H := H.1 c4
      refine s_iinc dX9_rankOfLines_67 rfl (by decide) rfl ?_
      show S l MX9_rankOfLines (d + 1, 0, 0, 0, 0) 70 [some (vR a0), some (vI a1), some (vI a2), some (vI a3), some (vI (a4 + 1)), some (vI a5)] [] G h Q
      refine s_goto (tgt := 5) dX9_rankOfLines_70 (by decide) ?_
      exact S_cut (by first | exact ⟨rfl, ⟨rfl, ⟨rfl, ⟨rfl, ⟨rfl, trivial⟩⟩⟩⟩⟩ | simp [lsub]) H
    · replace H := H.2 c4
      refine s_aload_n dX9_rankOfLines_53 rfl rfl ?_
      refine s_iload dX9_rankOfLines_54 rfl ?_
      refine s_iload_n dX9_rankOfLines_56 rfl rfl ?_
      refine s_iload dX9_rankOfLines_57 rfl ?_
      refine s_iload_n dX9_rankOfLines_59 rfl rfl ?_
      refine s_iload_n dX9_rankOfLines_60 rfl rfl ?_
      have f8 := H.1
      replace H := H.2
      refine s_callV (M' := MX9_takeLine) (As := [vI a5, vI a3, vI a4, vI a1, vI a2]) (a := a0) (st := []) dX9_rankOfLines_61 ml_X9_182 cv_X9_takeLine rfl rfl (Nat.le_of_ble_eq_true rfl) ⟨Nat.le_refl _, Nat.le_refl _⟩ f8 (R_mono (fun r5 G6 h7 H => ?_) H)
      show S l MX9_rankOfLines (d + 1, 0, 0, 0, 0) 64 [some (vR a0), some (vI a1), some (vI a2), some (vI a3), some (vI a4), some (vI a5)] [] G6 h7 Q
      refine s_iinc dX9_rankOfLines_64 rfl (by decide) rfl ?_
      show S l MX9_rankOfLines (d + 1, 0, 0, 0, 0) 67 [some (vR a0), some (vI a1), some (vI a2), some (vI (a3 + 1)), some (vI a4), some (vI a5)] [] G6 h7 Q
      refine s_iinc dX9_rankOfLines_67 rfl (by decide) rfl ?_
      show S l MX9_rankOfLines (d + 1, 0, 0, 0, 0) 70 [some (vR a0), some (vI a1), some (vI a2), some (vI (a3 + 1)), some (vI (a4 + 1)), some (vI a5)] [] G6 h7 Q
      refine s_goto (tgt := 5) dX9_rankOfLines_70 (by decide) ?_
      exact S_cut (by first | exact ⟨rfl, ⟨rfl, ⟨rfl, ⟨rfl, ⟨rfl, trivial⟩⟩⟩⟩⟩ | simp [lsub]) H
  · replace H := H.2 c3
    refine s_aload_n dX9_rankOfLines_25 rfl rfl ?_
    have f9 := H.1
    replace H := H.2
    refine s_getf (c := 9) (k := 14) (t := 2) (j := 14) dX9_rankOfLines_26 fl_X9_51 (by decide) (by decide) rfl rfl f9 ?_
    refine s_bipush dX9_rankOfLines_29 (by decide) ?_
    refine s_iload dX9_rankOfLines_31 rfl ?_
    refine s_imul dX9_rankOfLines_33 ?_
    refine s_iload dX9_rankOfLines_34 rfl ?_
    refine s_iadd dX9_rankOfLines_36 ?_
    have f10 := H.1
    replace H := H.2
    refine s_iald dX9_rankOfLines_37 f10 ?_
    have f11 := H.1
    replace H := H.2
    refine s_if_ne (tgt := 47) dX9_rankOfLines_38 (by decide) f11 (fun c12 => ?_) (fun c12 => ?_)
    · replace H := H.1 c12
      refine s_iload dX9_rankOfLines_47 rfl ?_
      refine s_iload_n dX9_rankOfLines_49 rfl rfl ?_
      refine s_icmp_ge (tgt := 67) dX9_rankOfLines_50 (by decide) f1 f2 (fun c13 => ?_) (fun c13 => ?_)
      · replace H := H.1 c13
        refine s_iinc dX9_rankOfLines_67 rfl (by decide) rfl ?_
        show S l MX9_rankOfLines (d + 1, 0, 0, 0, 0) 70 [some (vR a0), some (vI a1), some (vI a2), some (vI a3), some (vI (a4 + 1)), some (vI a5)] [] G h Q
        refine s_goto (tgt := 5) dX9_rankOfLines_70 (by decide) ?_
        exact S_cut (by first | exact ⟨rfl, ⟨rfl, ⟨rfl, ⟨rfl, ⟨rfl, trivial⟩⟩⟩⟩⟩ | simp [lsub]) H
      · replace H := H.2 c13
        refine s_aload_n dX9_rankOfLines_53 rfl rfl ?_
        refine s_iload dX9_rankOfLines_54 rfl ?_
        refine s_iload_n dX9_rankOfLines_56 rfl rfl ?_
        refine s_iload dX9_rankOfLines_57 rfl ?_
        refine s_iload_n dX9_rankOfLines_59 rfl rfl ?_
        refine s_iload_n dX9_rankOfLines_60 rfl rfl ?_
        refine s_callV (M' := MX9_takeLine) (As := [vI a5, vI a3, vI a4, vI a1, vI a2]) (a := a0) (st := []) dX9_rankOfLines_61 ml_X9_182 cv_X9_takeLine rfl rfl (Nat.le_of_ble_eq_true rfl) ⟨Nat.le_refl _, Nat.le_refl _⟩ f9 (R_mono (fun r14 G15 h16 H => ?_) H)
        show S l MX9_rankOfLines (d + 1, 0, 0, 0, 0) 64 [some (vR a0), some (vI a1), some (vI a2), some (vI a3), some (vI a4), some (vI a5)] [] G15 h16 Q
        refine s_iinc dX9_rankOfLines_64 rfl (by decide) rfl ?_
        show S l MX9_rankOfLines (d + 1, 0, 0, 0, 0) 67 [some (vR a0), some (vI a1), some (vI a2), some (vI (a3 + 1)), some (vI a4), some (vI a5)] [] G15 h16 Q
        refine s_iinc dX9_rankOfLines_67 rfl (by decide) rfl ?_
        show S l MX9_rankOfLines (d + 1, 0, 0, 0, 0) 70 [some (vR a0), some (vI a1), some (vI a2), some (vI (a3 + 1)), some (vI (a4 + 1)), some (vI a5)] [] G15 h16 Q
        refine s_goto (tgt := 5) dX9_rankOfLines_70 (by decide) ?_
        exact S_cut (by first | exact ⟨rfl, ⟨rfl, ⟨rfl, ⟨rfl, ⟨rfl, trivial⟩⟩⟩⟩⟩ | simp [lsub]) H
    · replace H := H.2 c12
      refine s_iinc dX9_rankOfLines_41 rfl (by decide) rfl ?_
      show S l MX9_rankOfLines (d + 1, 0, 0, 0, 0) 44 [some (vR a0), some (vI a1), some (vI a2), some (vI a3), some (vI a4), some (vI (a5 + 1))] [] G h Q
      refine s_goto (tgt := 19) dX9_rankOfLines_44 (by decide) ?_
      exact S_cut (by first | exact ⟨rfl, ⟨rfl, ⟨rfl, ⟨rfl, ⟨rfl, ⟨rfl, trivial⟩⟩⟩⟩⟩⟩ | simp [lsub]) H
set_option maxHeartbeats 4000000 in
set_option maxRecDepth 100000 in
theorem vX9_takeLine_0 {l : Launch} {d : Nat} {G : GS} {h : HP} {Q : Int → GS → HP → Prop} (a0 a1 a2 a3 a4 a5 : Int) (H : S l MX9_takeLine (d + 1, 0, 0, 0, 0) 3 [some (vR a0), some (vI a1), some (vI a2), some (vI a3), some (vI a4), some (vI a5), some (vI 0), none, none, none] [] G h Q) : S l MX9_takeLine (d + 1, 0, 0, 0, 0) 0 [some (vR a0), some (vI a1), some (vI a2), some (vI a3), some (vI a4), some (vI a5), none, none, none, none] [] G h Q := by
  refine s_iconst dX9_takeLine_0 ?_
  refine s_istore dX9_takeLine_1 (by decide) rfl ?_
  show S l MX9_takeLine (d + 1, 0, 0, 0, 0) 3 [some (vR a0), some (vI a1), some (vI a2), some (vI a3), some (vI a4), some (vI a5), some (vI 0), none, none, none] [] G h Q
  exact S_cut (by first | exact ⟨rfl, ⟨rfl, ⟨rfl, ⟨rfl, ⟨rfl, ⟨rfl, ⟨rfl, trivial⟩⟩⟩⟩⟩⟩⟩ | simp [lsub]) H
set_option maxHeartbeats 4000000 in
set_option maxRecDepth 100000 in
theorem vX9_takeLine_3 {l : Launch} {d : Nat} {G : GS} {h : HP} {Q : Int → GS → HP → Prop} (a0 a1 a2 a3 a4 a5 a6 : Int) (H : (inR a6) ∧ (inR a5) ∧ ((a5 ≤ a6 → (ty G a0 = 9) ∧ (inA G 10 (h a0 14) ((81 * a2) + a3)) ∧ R l MX9_inverse d 0 0 [vR a0, vI (h (h a0 14) ((81 * a2) + a3))] G h (fun r6 G7 h8 => S l MX9_takeLine (d + 1, 0, 0, 0, 0) 90 [some (vR a0), none, some (vI a2), some (vI a3), some (vI a4), some (vI a5), some (vI r6), some (vI (a2 + 1)), none, none] [] G7 h8 Q)) ∧ (a6 < a5 → (ty G a0 = 9) ∧ (inA G 10 (h a0 14) ((81 * a1) + a6)) ∧ (inA G 10 (h a0 14) ((81 * a2) + a6)) ∧ ∀ h12 : HP, h12 = hset h (h a0 14) ((81 * a1) + a6) (h (h a0 14) ((81 * a2) + a6)) → (inA G 10 (h12 a0 14) ((81 * a2) + a6)) ∧ ∀ h14 : HP, h14 = hset h12 (h12 a0 14) ((81 * a2) + a6) (h (h a0 14) ((81 * a1) + a6)) → S l MX9_takeLine (d + 1, 0, 0, 0, 0) 3 [some (vR a0), some (vI a1), some (vI a2), some (vI a3), some (vI a4), some (vI a5), some (vI (a6 + 1)), none, none, none] [] G h14 Q))) : S l MX9_takeLine (d + 1, 0, 0, 0, 0) 3 [some (vR a0), some (vI a1), some (vI a2), some (vI a3), some (vI a4), some (vI a5), some (vI a6), none, none, none] [] G h Q := by
  refine s_iload dX9_takeLine_3 rfl ?_
  refine s_iload dX9_takeLine_5 rfl ?_
  have f1 := H.1
  replace H := H.2
  have f2 := H.1
  replace H := H.2
  refine s_icmp_ge (tgt := 68) dX9_takeLine_7 (by decide) f1 f2 (fun c3 => ?_) (fun c3 => ?_)
  · replace H := H.1 c3
    refine s_aload_n dX9_takeLine_68 rfl rfl ?_
    refine s_aload_n dX9_takeLine_69 rfl rfl ?_
    have f4 := H.1
    replace H := H.2
    refine s_getf (c := 9) (k := 14) (t := 2) (j := 14) dX9_takeLine_70 fl_X9_51 (by decide) (by decide) rfl rfl f4 ?_
    refine s_bipush dX9_takeLine_73 (by decide) ?_
    refine s_iload_n dX9_takeLine_75 rfl rfl ?_
    refine s_imul dX9_takeLine_76 ?_
    refine s_iload_n dX9_takeLine_77 rfl rfl ?_
    refine s_iadd dX9_takeLine_78 ?_
    have f5 := H.1
    replace H := H.2
    refine s_iald dX9_takeLine_79 f5 ?_
    refine s_callV (M' := MX9_inverse) (As := [vI (h (h a0 14) ((81 * a2) + a3))]) (a := a0) (st := []) dX9_takeLine_80 ml_X9_147 cv_X9_inverse rfl rfl (Nat.le_of_ble_eq_true rfl) ⟨Nat.le_refl _, Nat.le_refl _⟩ f4 (R_mono (fun r6 G7 h8 H => ?_) H)
    show S l MX9_takeLine (d + 1, 0, 0, 0, 0) 83 [some (vR a0), some (vI a1), some (vI a2), some (vI a3), some (vI a4), some (vI a5), some (vI a6), none, none, none] [vI r6] G7 h8 Q
    refine s_istore dX9_takeLine_83 (by decide) rfl ?_
    show S l MX9_takeLine (d + 1, 0, 0, 0, 0) 85 [some (vR a0), some (vI a1), some (vI a2), some (vI a3), some (vI a4), some (vI a5), some (vI r6), none, none, none] [] G7 h8 Q
    refine s_iload_n dX9_takeLine_85 rfl rfl ?_
    refine s_iconst dX9_takeLine_86 ?_
    refine s_iadd dX9_takeLine_87 ?_
    refine s_istore dX9_takeLine_88 (by decide) rfl ?_
    show S l MX9_takeLine (d + 1, 0, 0, 0, 0) 90 [some (vR a0), some (vI a1), some (vI a2), some (vI a3), some (vI a4), some (vI a5), some (vI r6), some (vI (a2 + 1)), none, none] [] G7 h8 Q
    exact S_cut (by first | exact ⟨rfl, ⟨rfl, ⟨rfl, ⟨rfl, ⟨rfl, ⟨rfl, ⟨rfl, trivial⟩⟩⟩⟩⟩⟩⟩ | simp [lsub]) H
  · replace H := H.2 c3
    refine s_aload_n dX9_takeLine_10 rfl rfl ?_
    have f9 := H.1
    replace H := H.2
    refine s_getf (c := 9) (k := 14) (t := 2) (j := 14) dX9_takeLine_11 fl_X9_51 (by decide) (by decide) rfl rfl f9 ?_
    refine s_bipush dX9_takeLine_14 (by decide) ?_
    refine s_iload_n dX9_takeLine_16 rfl rfl ?_
    refine s_imul dX9_takeLine_17 ?_
    refine s_iload dX9_takeLine_18 rfl ?_
    refine s_iadd dX9_takeLine_20 ?_
    have f10 := H.1
    replace H := H.2
    refine s_iald dX9_takeLine_21 f10 ?_
    refine s_istore dX9_takeLine_22 (by decide) rfl ?_
    show S l MX9_takeLine (d + 1, 0, 0, 0, 0) 24 [some (vR a0), some (vI a1), some (vI a2), some (vI a3), some (vI a4), some (vI a5), some (vI a6), some (vI (h (h a0 14) ((81 * a1) + a6))), none, none] [] G h Q
    refine s_aload_n dX9_takeLine_24 rfl rfl ?_
    refine s_getf (c := 9) (k := 14) (t := 2) (j := 14) dX9_takeLine_25 fl_X9_51 (by decide) (by decide) rfl rfl f9 ?_
    refine s_bipush dX9_takeLine_28 (by decide) ?_
    refine s_iload_n dX9_takeLine_30 rfl rfl ?_
    refine s_imul dX9_takeLine_31 ?_
    refine s_iload dX9_takeLine_32 rfl ?_
    refine s_iadd dX9_takeLine_34 ?_
    refine s_aload_n dX9_takeLine_35 rfl rfl ?_
    refine s_getf (c := 9) (k := 14) (t := 2) (j := 14) dX9_takeLine_36 fl_X9_51 (by decide) (by decide) rfl rfl f9 ?_
    refine s_bipush dX9_takeLine_39 (by decide) ?_
    refine s_iload_n dX9_takeLine_41 rfl rfl ?_
    refine s_imul dX9_takeLine_42 ?_
    refine s_iload dX9_takeLine_43 rfl ?_
    refine s_iadd dX9_takeLine_45 ?_
    have f11 := H.1
    replace H := H.2
    refine s_iald dX9_takeLine_46 f11 ?_
    refine s_iastH dX9_takeLine_47 f10 (fun h12 eh12 => ?_)
    replace H := H h12 eh12
    refine s_aload_n dX9_takeLine_48 rfl rfl ?_
    refine s_getf (c := 9) (k := 14) (t := 2) (j := 14) dX9_takeLine_49 fl_X9_51 (by decide) (by decide) rfl rfl f9 ?_
    refine s_bipush dX9_takeLine_52 (by decide) ?_
    refine s_iload_n dX9_takeLine_54 rfl rfl ?_
    refine s_imul dX9_takeLine_55 ?_
    refine s_iload dX9_takeLine_56 rfl ?_
    refine s_iadd dX9_takeLine_58 ?_
    refine s_iload dX9_takeLine_59 rfl ?_
    have f13 := H.1
    replace H := H.2
    refine s_iastH dX9_takeLine_61 f13 (fun h14 eh14 => ?_)
    replace H := H h14 eh14
    refine s_iinc dX9_takeLine_62 rfl (by decide) rfl ?_
    show S l MX9_takeLine (d + 1, 0, 0, 0, 0) 65 [some (vR a0), some (vI a1), some (vI a2), some (vI a3), some (vI a4), some (vI a5), some (vI (a6 + 1)), some (vI (h (h a0 14) ((81 * a1) + a6))), none, none] [] G h14 Q
    refine s_goto (tgt := 3) dX9_takeLine_65 (by decide) ?_
    exact S_cut (by first | exact ⟨rfl, ⟨rfl, ⟨rfl, ⟨rfl, ⟨rfl, ⟨rfl, ⟨rfl, trivial⟩⟩⟩⟩⟩⟩⟩ | simp [lsub]) H
set_option maxHeartbeats 4000000 in
set_option maxRecDepth 100000 in
theorem vX9_takeLine_90 {l : Launch} {d : Nat} {G : GS} {h : HP} {Q : Int → GS → HP → Prop} (a0 a2 a3 a4 a5 a6 a7 : Int) (H : (inR a7) ∧ (inR a4) ∧ ((a4 ≤ a7 → Q 0 G h) ∧ (a7 < a4 → (ty G a0 = 9) ∧ (inA G 10 (h a0 14) ((81 * a7) + a3)) ∧ (dvR ((h (h a0 14) ((81 * a7) + a3)) * a6) (h a0 0)) ∧ (dvR ((h a0 0) - (((h (h a0 14) ((81 * a7) + a3)) * a6) % (h a0 0))) (h a0 0)) ∧ S l MX9_takeLine (d + 1, 0, 0, 0, 0) 132 [some (vR a0), none, some (vI a2), some (vI a3), some (vI a4), some (vI a5), some (vI a6), some (vI a7), some (vI (((h a0 0) - (((h (h a0 14) ((81 * a7) + a3)) * a6) % (h a0 0))) % (h a0 0))), some (vI a3)] [] G h Q))) : S l MX9_takeLine (d + 1, 0, 0, 0, 0) 90 [some (vR a0), none, some (vI a2), some (vI a3), some (vI a4), some (vI a5), some (vI a6), some (vI a7), none, none] [] G h Q := by
  refine s_iload dX9_takeLine_90 rfl ?_
  refine s_iload dX9_takeLine_92 rfl ?_
  have f1 := H.1
  replace H := H.2
  have f2 := H.1
  replace H := H.2
  refine s_icmp_ge (tgt := 203) dX9_takeLine_94 (by decide) f1 f2 (fun c3 => ?_) (fun c3 => ?_)
  · replace H := H.1 c3
    exact s_vret dX9_takeLine_203 rfl ⟨Nat.le_refl _, Nat.le_refl _⟩ H
  · replace H := H.2 c3
    refine s_aload_n dX9_takeLine_97 rfl rfl ?_
    have f4 := H.1
    replace H := H.2
    refine s_getf (c := 9) (k := 0) (t := 0) (j := 0) dX9_takeLine_98 fl_X9_7 (by decide) (by decide) rfl rfl f4 ?_
    refine s_aload_n dX9_takeLine_101 rfl rfl ?_
    refine s_getf (c := 9) (k := 14) (t := 2) (j := 14) dX9_takeLine_102 fl_X9_51 (by decide) (by decide) rfl rfl f4 ?_
    refine s_bipush dX9_takeLine_105 (by decide) ?_
    refine s_iload dX9_takeLine_107 rfl ?_
    refine s_imul dX9_takeLine_109 ?_
    refine s_iload_n dX9_takeLine_110 rfl rfl ?_
    refine s_iadd dX9_takeLine_111 ?_
    have f5 := H.1
    replace H := H.2
    refine s_iald dX9_takeLine_112 f5 ?_
    refine s_iload dX9_takeLine_113 rfl ?_
    refine s_imul dX9_takeLine_115 ?_
    refine s_aload_n dX9_takeLine_116 rfl rfl ?_
    refine s_getf (c := 9) (k := 0) (t := 0) (j := 0) dX9_takeLine_117 fl_X9_7 (by decide) (by decide) rfl rfl f4 ?_
    have f6 := H.1
    replace H := H.2
    refine s_irem dX9_takeLine_120 f6 ?_
    refine s_isub dX9_takeLine_121 ?_
    refine s_aload_n dX9_takeLine_122 rfl rfl ?_
    refine s_getf (c := 9) (k := 0) (t := 0) (j := 0) dX9_takeLine_123 fl_X9_7 (by decide) (by decide) rfl rfl f4 ?_
    have f7 := H.1
    replace H := H.2
    refine s_irem dX9_takeLine_126 f7 ?_
    refine s_istore dX9_takeLine_127 (by decide) rfl ?_
    show S l MX9_takeLine (d + 1, 0, 0, 0, 0) 129 [some (vR a0), none, some (vI a2), some (vI a3), some (vI a4), some (vI a5), some (vI a6), some (vI a7), some (vI (((h a0 0) - (((h (h a0 14) ((81 * a7) + a3)) * a6) % (h a0 0))) % (h a0 0))), none] [] G h Q
    refine s_iload_n dX9_takeLine_129 rfl rfl ?_
    refine s_istore dX9_takeLine_130 (by decide) rfl ?_
    show S l MX9_takeLine (d + 1, 0, 0, 0, 0) 132 [some (vR a0), none, some (vI a2), some (vI a3), some (vI a4), some (vI a5), some (vI a6), some (vI a7), some (vI (((h a0 0) - (((h (h a0 14) ((81 * a7) + a3)) * a6) % (h a0 0))) % (h a0 0))), some (vI a3)] [] G h Q
    exact S_cut (by first | exact ⟨rfl, ⟨rfl, ⟨rfl, ⟨rfl, ⟨rfl, ⟨rfl, ⟨rfl, ⟨rfl, ⟨rfl, trivial⟩⟩⟩⟩⟩⟩⟩⟩⟩ | simp [lsub]) H
set_option maxHeartbeats 4000000 in
set_option maxRecDepth 100000 in
theorem vX9_takeLine_132 {l : Launch} {d : Nat} {G : GS} {h : HP} {Q : Int → GS → HP → Prop} (a0 a2 a3 a4 a5 a6 a7 a8 a9 : Int) (H : (inR a9) ∧ (inR a5) ∧ ((a5 ≤ a9 → S l MX9_takeLine (d + 1, 0, 0, 0, 0) 90 [some (vR a0), none, some (vI a2), some (vI a3), some (vI a4), some (vI a5), some (vI a6), some (vI (a7 + 1)), none, none] [] G h Q) ∧ (a9 < a5 → (inR a8) ∧ ((a8 ≤ 0 → S l MX9_takeLine (d + 1, 0, 0, 0, 0) 90 [some (vR a0), none, some (vI a2), some (vI a3), some (vI a4), some (vI a5), some (vI a6), some (vI (a7 + 1)), none, none] [] G h Q) ∧ (0 < a8 → (ty G a0 = 9) ∧ (inA G 10 (h a0 14) ((81 * a7) + a9)) ∧ (inA G 10 (h a0 14) ((81 * a2) + a9)) ∧ (dvR ((h (h a0 14) ((81 * a7) + a9)) + (a8 * (h (h a0 14) ((81 * a2) + a9)))) (h a0 0)) ∧ ∀ h10 : HP, h10 = hset h (h a0 14) ((81 * a7) + a9) (((h (h a0 14) ((81 * a7) + a9)) + (a8 * (h (h a0 14) ((81 * a2) + a9)))) % (h a0 0)) → S l MX9_takeLine (d + 1, 0, 0, 0, 0) 132 [some (vR a0), none, some (vI a2), some (vI a3), some (vI a4), some (vI a5), some (vI a6), some (vI a7), some (vI a8), some (vI (a9 + 1))] [] G h10 Q))))) : S l MX9_takeLine (d + 1, 0, 0, 0, 0) 132 [some (vR a0), none, some (vI a2), some (vI a3), some (vI a4), some (vI a5), some (vI a6), some (vI a7), some (vI a8), some (vI a9)] [] G h Q := by
  refine s_iload dX9_takeLine_132 rfl ?_
  refine s_iload dX9_takeLine_134 rfl ?_
  have f1 := H.1
  replace H := H.2
  have f2 := H.1
  replace H := H.2
  refine s_icmp_ge (tgt := 197) dX9_takeLine_136 (by decide) f1 f2 (fun c3 => ?_) (fun c3 => ?_)
  · replace H := H.1 c3
    refine s_iinc dX9_takeLine_197 rfl (by decide) rfl ?_
    show S l MX9_takeLine (d + 1, 0, 0, 0, 0) 200 [some (vR a0), none, some (vI a2), some (vI a3), some (vI a4), some (vI a5), some (vI a6), some (vI (a7 + 1)), some (vI a8), some (vI a9)] [] G h Q
    refine s_goto (tgt := 90) dX9_takeLine_200 (by decide) ?_
    exact S_cut (by first | exact ⟨rfl, ⟨rfl, ⟨rfl, ⟨rfl, ⟨rfl, ⟨rfl, ⟨rfl, trivial⟩⟩⟩⟩⟩⟩⟩ | simp [lsub]) H
  · replace H := H.2 c3
    refine s_iload dX9_takeLine_139 rfl ?_
    have f4 := H.1
    replace H := H.2
    refine s_if_le (tgt := 197) dX9_takeLine_141 (by decide) f4 (fun c5 => ?_) (fun c5 => ?_)
    · replace H := H.1 c5
      refine s_iinc dX9_takeLine_197 rfl (by decide) rfl ?_
      show S l MX9_takeLine (d + 1, 0, 0, 0, 0) 200 [some (vR a0), none, some (vI a2), some (vI a3), some (vI a4), some (vI a5), some (vI a6), some (vI (a7 + 1)), some (vI a8), some (vI a9)] [] G h Q
      refine s_goto (tgt := 90) dX9_takeLine_200 (by decide) ?_
      exact S_cut (by first | exact ⟨rfl, ⟨rfl, ⟨rfl, ⟨rfl, ⟨rfl, ⟨rfl, ⟨rfl, trivial⟩⟩⟩⟩⟩⟩⟩ | simp [lsub]) H
    · replace H := H.2 c5
      refine s_aload_n dX9_takeLine_144 rfl rfl ?_
      have f6 := H.1
      replace H := H.2
      refine s_getf (c := 9) (k := 14) (t := 2) (j := 14) dX9_takeLine_145 fl_X9_51 (by decide) (by decide) rfl rfl f6 ?_
      refine s_bipush dX9_takeLine_148 (by decide) ?_
      refine s_iload dX9_takeLine_150 rfl ?_
      refine s_imul dX9_takeLine_152 ?_
      refine s_iload dX9_takeLine_153 rfl ?_
      refine s_iadd dX9_takeLine_155 ?_
      refine s_aload_n dX9_takeLine_156 rfl rfl ?_
      refine s_getf (c := 9) (k := 14) (t := 2) (j := 14) dX9_takeLine_157 fl_X9_51 (by decide) (by decide) rfl rfl f6 ?_
      refine s_bipush dX9_takeLine_160 (by decide) ?_
      refine s_iload dX9_takeLine_162 rfl ?_
      refine s_imul dX9_takeLine_164 ?_
      refine s_iload dX9_takeLine_165 rfl ?_
      refine s_iadd dX9_takeLine_167 ?_
      have f7 := H.1
      replace H := H.2
      refine s_iald dX9_takeLine_168 f7 ?_
      refine s_iload dX9_takeLine_169 rfl ?_
      refine s_aload_n dX9_takeLine_171 rfl rfl ?_
      refine s_getf (c := 9) (k := 14) (t := 2) (j := 14) dX9_takeLine_172 fl_X9_51 (by decide) (by decide) rfl rfl f6 ?_
      refine s_bipush dX9_takeLine_175 (by decide) ?_
      refine s_iload_n dX9_takeLine_177 rfl rfl ?_
      refine s_imul dX9_takeLine_178 ?_
      refine s_iload dX9_takeLine_179 rfl ?_
      refine s_iadd dX9_takeLine_181 ?_
      have f8 := H.1
      replace H := H.2
      refine s_iald dX9_takeLine_182 f8 ?_
      refine s_imul dX9_takeLine_183 ?_
      refine s_iadd dX9_takeLine_184 ?_
      refine s_aload_n dX9_takeLine_185 rfl rfl ?_
      refine s_getf (c := 9) (k := 0) (t := 0) (j := 0) dX9_takeLine_186 fl_X9_7 (by decide) (by decide) rfl rfl f6 ?_
      have f9 := H.1
      replace H := H.2
      refine s_irem dX9_takeLine_189 f9 ?_
      refine s_iastH dX9_takeLine_190 f7 (fun h10 eh10 => ?_)
      replace H := H h10 eh10
      refine s_iinc dX9_takeLine_191 rfl (by decide) rfl ?_
      show S l MX9_takeLine (d + 1, 0, 0, 0, 0) 194 [some (vR a0), none, some (vI a2), some (vI a3), some (vI a4), some (vI a5), some (vI a6), some (vI a7), some (vI a8), some (vI (a9 + 1))] [] G h10 Q
      refine s_goto (tgt := 132) dX9_takeLine_194 (by decide) ?_
      exact S_cut (by first | exact ⟨rfl, ⟨rfl, ⟨rfl, ⟨rfl, ⟨rfl, ⟨rfl, ⟨rfl, ⟨rfl, ⟨rfl, trivial⟩⟩⟩⟩⟩⟩⟩⟩⟩ | simp [lsub]) H
set_option maxHeartbeats 4000000 in
set_option maxRecDepth 100000 in
theorem vX9_least_0 {l : Launch} {d : Nat} {G : GS} {h : HP} {Q : Int → GS → HP → Prop} (a0 : Int) (H : (ty G a0 = 9) ∧ R l MX9_findLeast d 0 0 [vR a0] G h (fun r1 G2 h3 => Q r1 G2 h3)) : S l MX9_least (d + 1, 0, 0, 0, 0) 0 [some (vR a0)] [] G h Q := by
  refine s_aload_n dX9_least_0 rfl rfl ?_
  have f4 := H.1
  replace H := H.2
  refine s_callV (M' := MX9_findLeast) (As := []) (a := a0) (st := []) dX9_least_1 ml_X9_228 cv_X9_findLeast rfl rfl (Nat.le_of_ble_eq_true rfl) ⟨Nat.le_refl _, Nat.le_refl _⟩ f4 (R_mono (fun r1 G2 h3 H => ?_) H)
  show S l MX9_least (d + 1, 0, 0, 0, 0) 4 [some (vR a0)] [vI r1] G2 h3 Q
  exact s_iret dX9_least_4 rfl ⟨Nat.le_refl _, Nat.le_refl _⟩ H
set_option maxHeartbeats 4000000 in
set_option maxRecDepth 100000 in
theorem vX9_findLeast_0 {l : Launch} {d : Nat} {G : GS} {h : HP} {Q : Int → GS → HP → Prop} (a0 : Int) (H : (ty G a0 = 9) ∧ R l MX9_ones d 0 0 [vR a0, vI 0] G h (fun r1 G2 h3 => (ty G2 a0 = 9) ∧ R l MX9_ones d 0 0 [vR a0, vI 1] G2 h3 (fun r5 G6 h7 => (inL (r1 * r5)) ∧ (inR (cmpI (r1 * r5) 60)) ∧ (((cmpI (r1 * r5) 60) ≤ 0 → (ty G6 a0 = 9) ∧ (inR (h7 a0 15)) ∧ (((h7 a0 15) ≠ 0 → (inR (h7 a0 16)) ∧ (((h7 a0 16) ≤ 4 → Q (h7 a0 16) G6 h7) ∧ (4 < (h7 a0 16) → Q ((-5)) G6 h7))) ∧ ((h7 a0 15) = 0 → R l MX9_findPairs d 0 0 [vR a0] G6 h7 (fun r17 G18 h19 => S l MX9_findLeast (d + 1, 0, 0, 0, 0) 34 [some (vR a0), some (vI 0), none] [] G18 h19 Q)))) ∧ (0 < (cmpI (r1 * r5) 60) → Q ((-3)) G6 h7))))) : S l MX9_findLeast (d + 1, 0, 0, 0, 0) 0 [some (vR a0), none, none] [] G h Q := by
  refine s_aload_n dX9_findLeast_0 rfl rfl ?_
  refine s_iconst dX9_findLeast_1 ?_
  have f4 := H.1
  replace H := H.2
  refine s_callV (M' := MX9_ones) (As := [vI 0]) (a := a0) (st := []) dX9_findLeast_2 ml_X9_213 cv_X9_ones rfl rfl (Nat.le_of_ble_eq_true rfl) ⟨Nat.le_refl _, Nat.le_refl _⟩ f4 (R_mono (fun r1 G2 h3 H => ?_) H)
  show S l MX9_findLeast (d + 1, 0, 0, 0, 0) 5 [some (vR a0), none, none] [vL r1] G2 h3 Q
  refine s_aload_n dX9_findLeast_5 rfl rfl ?_
  refine s_iconst dX9_findLeast_6 ?_
  have f8 := H.1
  replace H := H.2
  refine s_callV (M' := MX9_ones) (As := [vI 1]) (a := a0) (st := [vL r1]) dX9_findLeast_7 ml_X9_213 cv_X9_ones rfl rfl (Nat.le_of_ble_eq_true rfl) ⟨Nat.le_refl _, Nat.le_refl _⟩ f8 (R_mono (fun r5 G6 h7 H => ?_) H)
  show S l MX9_findLeast (d + 1, 0, 0, 0, 0) 10 [some (vR a0), none, none] [vL r5, vL r1] G6 h7 Q
  refine s_lmul dX9_findLeast_10 ?_
  refine s_ldc2 (v := 60) dX9_findLeast_11 kc_X9_217 ?_
  have f9 := H.1
  replace H := H.2
  refine s_lcmp dX9_findLeast_14 f9 (by decide) ?_
  have f10 := H.1
  replace H := H.2
  refine s_if_le (tgt := 21) dX9_findLeast_15 (by decide) f10 (fun c11 => ?_) (fun c11 => ?_)
  · replace H := H.1 c11
    refine s_aload_n dX9_findLeast_21 rfl rfl ?_
    have f12 := H.1
    replace H := H.2
    refine s_getf (c := 9) (k := 15) (t := 0) (j := 15) dX9_findLeast_22 fl_X9_91 (by decide) (by decide) rfl rfl f12 ?_
    have f13 := H.1
    replace H := H.2
    refine s_if_ne (tgt := 124) dX9_findLeast_25 (by decide) f13 (fun c14 => ?_) (fun c14 => ?_)
    · replace H := H.1 c14
      refine s_aload_n dX9_findLeast_124 rfl rfl ?_
      refine s_getf (c := 9) (k := 16) (t := 0) (j := 16) dX9_findLeast_125 fl_X9_222 (by decide) (by decide) rfl rfl f12 ?_
      refine s_iconst dX9_findLeast_128 ?_
      have f15 := H.1
      replace H := H.2
      refine s_icmp_le (tgt := 137) dX9_findLeast_129 (by decide) f15 (by decide) (fun c16 => ?_) (fun c16 => ?_)
      · replace H := H.1 c16
        refine s_aload_n dX9_findLeast_137 rfl rfl ?_
        refine s_getf (c := 9) (k := 16) (t := 0) (j := 16) dX9_findLeast_138 fl_X9_222 (by decide) (by decide) rfl rfl f12 ?_
        exact s_iret dX9_findLeast_141 rfl ⟨Nat.le_refl _, Nat.le_refl _⟩ H
      · replace H := H.2 c16
        refine s_bipush dX9_findLeast_132 (by decide) ?_
        refine s_goto (tgt := 141) dX9_findLeast_134 (by decide) ?_
        exact s_iret dX9_findLeast_141 rfl ⟨Nat.le_refl _, Nat.le_refl _⟩ H
    · replace H := H.2 c14
      refine s_aload_n dX9_findLeast_28 rfl rfl ?_
      refine s_callV (M' := MX9_findPairs) (As := []) (a := a0) (st := []) dX9_findLeast_29 ml_X9_219 cv_X9_findPairs rfl rfl (Nat.le_of_ble_eq_true rfl) ⟨Nat.le_refl _, Nat.le_refl _⟩ f12 (R_mono (fun r17 G18 h19 H => ?_) H)
      show S l MX9_findLeast (d + 1, 0, 0, 0, 0) 32 [some (vR a0), none, none] [] G18 h19 Q
      refine s_iconst dX9_findLeast_32 ?_
      refine s_istore_n dX9_findLeast_33 rfl (by decide) rfl ?_
      show S l MX9_findLeast (d + 1, 0, 0, 0, 0) 34 [some (vR a0), some (vI 0), none] [] G18 h19 Q
      exact S_cut (by first | exact ⟨rfl, ⟨rfl, trivial⟩⟩ | simp [lsub]) H
  · replace H := H.2 c11
    refine s_bipush dX9_findLeast_18 (by decide) ?_
    exact s_iret dX9_findLeast_20 rfl ⟨Nat.le_refl _, Nat.le_refl _⟩ H
set_option maxHeartbeats 4000000 in
set_option maxRecDepth 100000 in
theorem vX9_findLeast_34 {l : Launch} {d : Nat} {G : GS} {h : HP} {Q : Int → GS → HP → Prop} (a0 a1 : Int) (H : (inR a1) ∧ ((9 ≤ a1 → (ty G a0 = 9) ∧ ∀ h4 : HP, h4 = hset h a0 16 0 → S l MX9_findLeast (d + 1, 0, 0, 0, 0) 87 [some (vR a0), none, none] [] G h4 Q) ∧ (a1 < 9 → S l MX9_findLeast (d + 1, 0, 0, 0, 0) 42 [some (vR a0), some (vI a1), some (vI 0)] [] G h Q))) : S l MX9_findLeast (d + 1, 0, 0, 0, 0) 34 [some (vR a0), some (vI a1), none] [] G h Q := by
  refine s_iload_n dX9_findLeast_34 rfl rfl ?_
  refine s_bipush dX9_findLeast_35 (by decide) ?_
  have f1 := H.1
  replace H := H.2
  refine s_icmp_ge (tgt := 82) dX9_findLeast_37 (by decide) f1 (by decide) (fun c2 => ?_) (fun c2 => ?_)
  · replace H := H.1 c2
    refine s_aload_n dX9_findLeast_82 rfl rfl ?_
    refine s_iconst dX9_findLeast_83 ?_
    have f3 := H.1
    replace H := H.2
    refine s_putI (c := 9) (k := 16) (j := 16) dX9_findLeast_84 fl_X9_222 (by decide) (by decide) rfl rfl rfl f3 (fun h4 eh4 => ?_)
    replace H := H h4 eh4
    exact S_cut (by first | exact ⟨rfl, trivial⟩ | simp [lsub]) H
  · replace H := H.2 c2
    refine s_iconst dX9_findLeast_40 ?_
    refine s_istore_n dX9_findLeast_41 rfl (by decide) rfl ?_
    show S l MX9_findLeast (d + 1, 0, 0, 0, 0) 42 [some (vR a0), some (vI a1), some (vI 0)] [] G h Q
    exact S_cut (by first | exact ⟨rfl, ⟨rfl, ⟨rfl, trivial⟩⟩⟩ | simp [lsub]) H
set_option maxHeartbeats 4000000 in
set_option maxRecDepth 100000 in
theorem vX9_findLeast_87 {l : Launch} {d : Nat} {G : GS} {h : HP} {Q : Int → GS → HP → Prop} (a0 : Int) (H : (ty G a0 = 9) ∧ (inR (h a0 16)) ∧ ((4 < (h a0 16) → ∀ h4 : HP, h4 = hset h a0 15 1 → (inR (h4 a0 16)) ∧ (((h4 a0 16) ≤ 4 → Q (h4 a0 16) G h4) ∧ (4 < (h4 a0 16) → Q ((-5)) G h4))) ∧ ((h a0 16) ≤ 4 → R l MX9_isDoneBy d 0 0 [vR a0, vI (h a0 16)] G h (fun r7 G8 h9 => (inR r7) ∧ ((r7 ≠ 0 → (ty G8 a0 = 9) ∧ ∀ h13 : HP, h13 = hset h9 a0 15 1 → (inR (h13 a0 16)) ∧ (((h13 a0 16) ≤ 4 → Q (h13 a0 16) G8 h13) ∧ (4 < (h13 a0 16) → Q ((-5)) G8 h13))) ∧ (r7 = 0 → (ty G8 a0 = 9) ∧ ∀ h17 : HP, h17 = hset h9 a0 16 ((h9 a0 16) + 1) → S l MX9_findLeast (d + 1, 0, 0, 0, 0) 87 [some (vR a0), none, none] [] G8 h17 Q)))))) : S l MX9_findLeast (d + 1, 0, 0, 0, 0) 87 [some (vR a0), none, none] [] G h Q := by
  refine s_aload_n dX9_findLeast_87 rfl rfl ?_
  have f1 := H.1
  replace H := H.2
  refine s_getf (c := 9) (k := 16) (t := 0) (j := 16) dX9_findLeast_88 fl_X9_222 (by decide) (by decide) rfl rfl f1 ?_
  refine s_iconst dX9_findLeast_91 ?_
  have f2 := H.1
  replace H := H.2
  refine s_icmp_gt (tgt := 119) dX9_findLeast_92 (by decide) f2 (by decide) (fun c3 => ?_) (fun c3 => ?_)
  · replace H := H.1 c3
    refine s_aload_n dX9_findLeast_119 rfl rfl ?_
    refine s_iconst dX9_findLeast_120 ?_
    refine s_putZ (c := 9) (k := 15) (j := 15) dX9_findLeast_121 fl_X9_91 (by decide) (by decide) rfl rfl rfl (by decide) f1 (fun h4 eh4 => ?_)
    replace H := H h4 eh4
    refine s_aload_n dX9_findLeast_124 rfl rfl ?_
    refine s_getf (c := 9) (k := 16) (t := 0) (j := 16) dX9_findLeast_125 fl_X9_222 (by decide) (by decide) rfl rfl f1 ?_
    refine s_iconst dX9_findLeast_128 ?_
    have f5 := H.1
    replace H := H.2
    refine s_icmp_le (tgt := 137) dX9_findLeast_129 (by decide) f5 (by decide) (fun c6 => ?_) (fun c6 => ?_)
    · replace H := H.1 c6
      refine s_aload_n dX9_findLeast_137 rfl rfl ?_
      refine s_getf (c := 9) (k := 16) (t := 0) (j := 16) dX9_findLeast_138 fl_X9_222 (by decide) (by decide) rfl rfl f1 ?_
      exact s_iret dX9_findLeast_141 rfl ⟨Nat.le_refl _, Nat.le_refl _⟩ H
    · replace H := H.2 c6
      refine s_bipush dX9_findLeast_132 (by decide) ?_
      refine s_goto (tgt := 141) dX9_findLeast_134 (by decide) ?_
      exact s_iret dX9_findLeast_141 rfl ⟨Nat.le_refl _, Nat.le_refl _⟩ H
  · replace H := H.2 c3
    refine s_aload_n dX9_findLeast_95 rfl rfl ?_
    refine s_aload_n dX9_findLeast_96 rfl rfl ?_
    refine s_getf (c := 9) (k := 16) (t := 0) (j := 16) dX9_findLeast_97 fl_X9_222 (by decide) (by decide) rfl rfl f1 ?_
    refine s_callV (M' := MX9_isDoneBy) (As := [vI (h a0 16)]) (a := a0) (st := []) dX9_findLeast_100 ml_X9_225 cv_X9_isDoneBy rfl rfl (Nat.le_of_ble_eq_true rfl) ⟨Nat.le_refl _, Nat.le_refl _⟩ f1 (R_mono (fun r7 G8 h9 H => ?_) H)
    show S l MX9_findLeast (d + 1, 0, 0, 0, 0) 103 [some (vR a0), none, none] [vI r7] G8 h9 Q
    have f10 := H.1
    replace H := H.2
    refine s_if_ne (tgt := 119) dX9_findLeast_103 (by decide) f10 (fun c11 => ?_) (fun c11 => ?_)
    · replace H := H.1 c11
      refine s_aload_n dX9_findLeast_119 rfl rfl ?_
      refine s_iconst dX9_findLeast_120 ?_
      have f12 := H.1
      replace H := H.2
      refine s_putZ (c := 9) (k := 15) (j := 15) dX9_findLeast_121 fl_X9_91 (by decide) (by decide) rfl rfl rfl (by decide) f12 (fun h13 eh13 => ?_)
      replace H := H h13 eh13
      refine s_aload_n dX9_findLeast_124 rfl rfl ?_
      refine s_getf (c := 9) (k := 16) (t := 0) (j := 16) dX9_findLeast_125 fl_X9_222 (by decide) (by decide) rfl rfl f12 ?_
      refine s_iconst dX9_findLeast_128 ?_
      have f14 := H.1
      replace H := H.2
      refine s_icmp_le (tgt := 137) dX9_findLeast_129 (by decide) f14 (by decide) (fun c15 => ?_) (fun c15 => ?_)
      · replace H := H.1 c15
        refine s_aload_n dX9_findLeast_137 rfl rfl ?_
        refine s_getf (c := 9) (k := 16) (t := 0) (j := 16) dX9_findLeast_138 fl_X9_222 (by decide) (by decide) rfl rfl f12 ?_
        exact s_iret dX9_findLeast_141 rfl ⟨Nat.le_refl _, Nat.le_refl _⟩ H
      · replace H := H.2 c15
        refine s_bipush dX9_findLeast_132 (by decide) ?_
        refine s_goto (tgt := 141) dX9_findLeast_134 (by decide) ?_
        exact s_iret dX9_findLeast_141 rfl ⟨Nat.le_refl _, Nat.le_refl _⟩ H
    · replace H := H.2 c11
      refine s_aload_n dX9_findLeast_106 rfl rfl ?_
      refine s_dup dX9_findLeast_107 rfl ?_
      have f16 := H.1
      replace H := H.2
      refine s_getf (c := 9) (k := 16) (t := 0) (j := 16) dX9_findLeast_108 fl_X9_222 (by decide) (by decide) rfl rfl f16 ?_
      refine s_iconst dX9_findLeast_111 ?_
      refine s_iadd dX9_findLeast_112 ?_
      refine s_putI (c := 9) (k := 16) (j := 16) dX9_findLeast_113 fl_X9_222 (by decide) (by decide) rfl rfl rfl f16 (fun h17 eh17 => ?_)
      replace H := H h17 eh17
      refine s_goto (tgt := 87) dX9_findLeast_116 (by decide) ?_
      exact S_cut (by first | exact ⟨rfl, trivial⟩ | simp [lsub]) H
set_option maxHeartbeats 4000000 in
set_option maxRecDepth 100000 in
theorem vX9_findLeast_42 {l : Launch} {d : Nat} {G : GS} {h : HP} {Q : Int → GS → HP → Prop} (a0 a1 a2 : Int) (H : (inR a2) ∧ ((81 ≤ a2 → S l MX9_findLeast (d + 1, 0, 0, 0, 0) 34 [some (vR a0), some (vI (a1 + 1)), none] [] G h Q) ∧ (a2 < 81 → (ty G a0 = 9) ∧ (inA G 10 (h a0 2) ((9 * a2) + a1)) ∧ (inA G 10 (h a0 21) ((81 * a1) + a2)) ∧ ∀ h6 : HP, h6 = hset h (h a0 21) ((81 * a1) + a2) (h (h a0 2) ((9 * a2) + a1)) → S l MX9_findLeast (d + 1, 0, 0, 0, 0) 42 [some (vR a0), some (vI a1), some (vI (a2 + 1))] [] G h6 Q))) : S l MX9_findLeast (d + 1, 0, 0, 0, 0) 42 [some (vR a0), some (vI a1), some (vI a2)] [] G h Q := by
  refine s_iload_n dX9_findLeast_42 rfl rfl ?_
  refine s_bipush dX9_findLeast_43 (by decide) ?_
  have f1 := H.1
  replace H := H.2
  refine s_icmp_ge (tgt := 76) dX9_findLeast_45 (by decide) f1 (by decide) (fun c2 => ?_) (fun c2 => ?_)
  · replace H := H.1 c2
    refine s_iinc dX9_findLeast_76 rfl (by decide) rfl ?_
    show S l MX9_findLeast (d + 1, 0, 0, 0, 0) 79 [some (vR a0), some (vI (a1 + 1)), some (vI a2)] [] G h Q
    refine s_goto (tgt := 34) dX9_findLeast_79 (by decide) ?_
    exact S_cut (by first | exact ⟨rfl, ⟨rfl, trivial⟩⟩ | simp [lsub]) H
  · replace H := H.2 c2
    refine s_aload_n dX9_findLeast_48 rfl rfl ?_
    have f3 := H.1
    replace H := H.2
    refine s_getf (c := 9) (k := 21) (t := 2) (j := 21) dX9_findLeast_49 fl_X9_63 (by decide) (by decide) rfl rfl f3 ?_
    refine s_bipush dX9_findLeast_52 (by decide) ?_
    refine s_iload_n dX9_findLeast_54 rfl rfl ?_
    refine s_imul dX9_findLeast_55 ?_
    refine s_iload_n dX9_findLeast_56 rfl rfl ?_
    refine s_iadd dX9_findLeast_57 ?_
    refine s_aload_n dX9_findLeast_58 rfl rfl ?_
    refine s_getf (c := 9) (k := 2) (t := 2) (j := 2) dX9_findLeast_59 fl_X9_17 (by decide) (by decide) rfl rfl f3 ?_
    refine s_bipush dX9_findLeast_62 (by decide) ?_
    refine s_iload_n dX9_findLeast_64 rfl rfl ?_
    refine s_imul dX9_findLeast_65 ?_
    refine s_iload_n dX9_findLeast_66 rfl rfl ?_
    refine s_iadd dX9_findLeast_67 ?_
    have f4 := H.1
    replace H := H.2
    refine s_iald dX9_findLeast_68 f4 ?_
    have f5 := H.1
    replace H := H.2
    refine s_iastH dX9_findLeast_69 f5 (fun h6 eh6 => ?_)
    replace H := H h6 eh6
    refine s_iinc dX9_findLeast_70 rfl (by decide) rfl ?_
    show S l MX9_findLeast (d + 1, 0, 0, 0, 0) 73 [some (vR a0), some (vI a1), some (vI (a2 + 1))] [] G h6 Q
    refine s_goto (tgt := 42) dX9_findLeast_73 (by decide) ?_
    exact S_cut (by first | exact ⟨rfl, ⟨rfl, ⟨rfl, trivial⟩⟩⟩ | simp [lsub]) H
set_option maxHeartbeats 4000000 in
set_option maxRecDepth 100000 in
theorem vX9_ones_0 {l : Launch} {d : Nat} {G : GS} {h : HP} {Q : Int → GS → HP → Prop} (a0 a1 : Int) (H : (ty G a0 = 9) ∧ R l MX9_rowsOf d 0 0 [vR a0, vI a1] G h (fun r1 G2 h3 => (inR r1) ∧ (ty G2 a0 = 9) ∧ (inR (h3 a0 0)) ∧ (dvR (r1 - 1) ((h3 a0 0) - 1)) ∧ Q ((r1 - 1) / ((h3 a0 0) - 1)) G2 h3)) : S l MX9_ones (d + 1, 0, 0, 0, 0) 0 [some (vR a0), some (vI a1)] [] G h Q := by
  refine s_aload_n dX9_ones_0 rfl rfl ?_
  refine s_iload_n dX9_ones_1 rfl rfl ?_
  have f4 := H.1
  replace H := H.2
  refine s_callV (M' := MX9_rowsOf) (As := [vI a1]) (a := a0) (st := []) dX9_ones_2 ml_X9_115 cv_X9_rowsOf rfl rfl (Nat.le_of_ble_eq_true rfl) ⟨Nat.le_refl _, Nat.le_refl _⟩ f4 (R_mono (fun r1 G2 h3 H => ?_) H)
  show S l MX9_ones (d + 1, 0, 0, 0, 0) 5 [some (vR a0), some (vI a1)] [vI r1] G2 h3 Q
  have f5 := H.1
  replace H := H.2
  refine s_i2l dX9_ones_5 f5 ?_
  refine s_lconst (v := 1) dX9_ones_6 rfl ?_
  refine s_lsub dX9_ones_7 ?_
  refine s_aload_n dX9_ones_8 rfl rfl ?_
  have f6 := H.1
  replace H := H.2
  refine s_getf (c := 9) (k := 0) (t := 0) (j := 0) dX9_ones_9 fl_X9_7 (by decide) (by decide) rfl rfl f6 ?_
  have f7 := H.1
  replace H := H.2
  refine s_i2l dX9_ones_12 f7 ?_
  refine s_lconst (v := 1) dX9_ones_13 rfl ?_
  refine s_lsub dX9_ones_14 ?_
  have f8 := H.1
  replace H := H.2
  refine s_ldiv dX9_ones_15 f8 ?_
  exact s_lret dX9_ones_16 rfl ⟨Nat.le_refl _, Nat.le_refl _⟩ H
set_option maxHeartbeats 4000000 in
set_option maxRecDepth 100000 in
theorem vX9_findPairs_0 {l : Launch} {d : Nat} {G : GS} {h : HP} {Q : Int → GS → HP → Prop} (a0 : Int) (H : (ty G a0 = 9) ∧ ∀ h2 : HP, h2 = hset h a0 19 0 → S l MX9_findPairs (d + 1, 0, 0, 0, 0) 7 [some (vR a0), some (vI 0), none] [] G h2 Q) : S l MX9_findPairs (d + 1, 0, 0, 0, 0) 0 [some (vR a0), none, none] [] G h Q := by
  refine s_aload_n dX9_findPairs_0 rfl rfl ?_
  refine s_iconst dX9_findPairs_1 ?_
  have f1 := H.1
  replace H := H.2
  refine s_putI (c := 9) (k := 19) (j := 19) dX9_findPairs_2 fl_X9_198 (by decide) (by decide) rfl rfl rfl f1 (fun h2 eh2 => ?_)
  replace H := H h2 eh2
  refine s_iconst dX9_findPairs_5 ?_
  refine s_istore_n dX9_findPairs_6 rfl (by decide) rfl ?_
  show S l MX9_findPairs (d + 1, 0, 0, 0, 0) 7 [some (vR a0), some (vI 0), none] [] G h2 Q
  exact S_cut (by first | exact ⟨rfl, ⟨rfl, trivial⟩⟩ | simp [lsub]) H
set_option maxHeartbeats 4000000 in
set_option maxRecDepth 100000 in
theorem vX9_findPairs_7 {l : Launch} {d : Nat} {G : GS} {h : HP} {Q : Int → GS → HP → Prop} (a0 a1 : Int) (H : (ty G a0 = 9) ∧ R l MX9_rowsOf d 0 0 [vR a0, vI 0] G h (fun r1 G2 h3 => (inR a1) ∧ (inR r1) ∧ ((r1 ≤ a1 → Q 0 G2 h3) ∧ (a1 < r1 → S l MX9_findPairs (d + 1, 0, 0, 0, 0) 18 [some (vR a0), some (vI a1), some (vI 0)] [] G2 h3 Q)))) : S l MX9_findPairs (d + 1, 0, 0, 0, 0) 7 [some (vR a0), some (vI a1), none] [] G h Q := by
  refine s_iload_n dX9_findPairs_7 rfl rfl ?_
  refine s_aload_n dX9_findPairs_8 rfl rfl ?_
  refine s_iconst dX9_findPairs_9 ?_
  have f4 := H.1
  replace H := H.2
  refine s_callV (M' := MX9_rowsOf) (As := [vI 0]) (a := a0) (st := [vI a1]) dX9_findPairs_10 ml_X9_115 cv_X9_rowsOf rfl rfl (Nat.le_of_ble_eq_true rfl) ⟨Nat.le_refl _, Nat.le_refl _⟩ f4 (R_mono (fun r1 G2 h3 H => ?_) H)
  show S l MX9_findPairs (d + 1, 0, 0, 0, 0) 13 [some (vR a0), some (vI a1), none] [vI r1, vI a1] G2 h3 Q
  have f5 := H.1
  replace H := H.2
  have f6 := H.1
  replace H := H.2
  refine s_icmp_ge (tgt := 85) dX9_findPairs_13 (by decide) f5 f6 (fun c7 => ?_) (fun c7 => ?_)
  · replace H := H.1 c7
    exact s_vret dX9_findPairs_85 rfl ⟨Nat.le_refl _, Nat.le_refl _⟩ H
  · replace H := H.2 c7
    refine s_iconst dX9_findPairs_16 ?_
    refine s_istore_n dX9_findPairs_17 rfl (by decide) rfl ?_
    show S l MX9_findPairs (d + 1, 0, 0, 0, 0) 18 [some (vR a0), some (vI a1), some (vI 0)] [] G2 h3 Q
    exact S_cut (by first | exact ⟨rfl, ⟨rfl, ⟨rfl, trivial⟩⟩⟩ | simp [lsub]) H
set_option maxHeartbeats 4000000 in
set_option maxRecDepth 100000 in
theorem vX9_findPairs_18 {l : Launch} {d : Nat} {G : GS} {h : HP} {Q : Int → GS → HP → Prop} (a0 a1 a2 : Int) (H : (ty G a0 = 9) ∧ R l MX9_rowsOf d 0 0 [vR a0, vI 1] G h (fun r1 G2 h3 => (inR a2) ∧ (inR r1) ∧ ((r1 ≤ a2 → S l MX9_findPairs (d + 1, 0, 0, 0, 0) 7 [some (vR a0), some (vI (a1 + 1)), none] [] G2 h3 Q) ∧ (a2 < r1 → (ty G2 a0 = 9) ∧ R l MX9_isOne d 0 0 [vR a0, vI a1] G2 h3 (fun r8 G9 h10 => (inR r8) ∧ ((r8 = 0 → S l MX9_findPairs (d + 1, 0, 0, 0, 0) 7 [some (vR a0), some (vI (a1 + 1)), none] [] G9 h10 Q) ∧ (r8 ≠ 0 → (ty G9 a0 = 9) ∧ R l MX9_isOne d 0 0 [vR a0, vI a2] G9 h10 (fun r14 G15 h16 => (inR r14) ∧ ((r14 = 0 → S l MX9_findPairs (d + 1, 0, 0, 0, 0) 18 [some (vR a0), some (vI a1), some (vI (a2 + 1))] [] G15 h16 Q) ∧ (r14 ≠ 0 → (ty G15 a0 = 9) ∧ (inA G15 10 (h16 a0 17) (h16 a0 19)) ∧ ∀ h22 : HP, h22 = hset h16 (h16 a0 17) (h16 a0 19) a1 → (inA G15 10 (h22 a0 18) (h22 a0 19)) ∧ ∀ h24 : HP, h24 = hset h22 (h22 a0 18) (h22 a0 19) a2 → ∀ h25 : HP, h25 = hset h24 a0 19 ((h24 a0 19) + 1) → S l MX9_findPairs (d + 1, 0, 0, 0, 0) 18 [some (vR a0), some (vI a1), some (vI (a2 + 1))] [] G15 h25 Q)))))))))) : S l MX9_findPairs (d + 1, 0, 0, 0, 0) 18 [some (vR a0), some (vI a1), some (vI a2)] [] G h Q := by
  refine s_iload_n dX9_findPairs_18 rfl rfl ?_
  refine s_aload_n dX9_findPairs_19 rfl rfl ?_
  refine s_iconst dX9_findPairs_20 ?_
  have f4 := H.1
  replace H := H.2
  refine s_callV (M' := MX9_rowsOf) (As := [vI 1]) (a := a0) (st := [vI a2]) dX9_findPairs_21 ml_X9_115 cv_X9_rowsOf rfl rfl (Nat.le_of_ble_eq_true rfl) ⟨Nat.le_refl _, Nat.le_refl _⟩ f4 (R_mono (fun r1 G2 h3 H => ?_) H)
  show S l MX9_findPairs (d + 1, 0, 0, 0, 0) 24 [some (vR a0), some (vI a1), some (vI a2)] [vI r1, vI a2] G2 h3 Q
  have f5 := H.1
  replace H := H.2
  have f6 := H.1
  replace H := H.2
  refine s_icmp_ge (tgt := 79) dX9_findPairs_24 (by decide) f5 f6 (fun c7 => ?_) (fun c7 => ?_)
  · replace H := H.1 c7
    refine s_iinc dX9_findPairs_79 rfl (by decide) rfl ?_
    show S l MX9_findPairs (d + 1, 0, 0, 0, 0) 82 [some (vR a0), some (vI (a1 + 1)), some (vI a2)] [] G2 h3 Q
    refine s_goto (tgt := 7) dX9_findPairs_82 (by decide) ?_
    exact S_cut (by first | exact ⟨rfl, ⟨rfl, trivial⟩⟩ | simp [lsub]) H
  · replace H := H.2 c7
    refine s_aload_n dX9_findPairs_27 rfl rfl ?_
    refine s_iload_n dX9_findPairs_28 rfl rfl ?_
    have f11 := H.1
    replace H := H.2
    refine s_callV (M' := MX9_isOne) (As := [vI a1]) (a := a0) (st := []) dX9_findPairs_29 ml_X9_201 cv_X9_isOne rfl rfl (Nat.le_of_ble_eq_true rfl) ⟨Nat.le_refl _, Nat.le_refl _⟩ f11 (R_mono (fun r8 G9 h10 H => ?_) H)
    show S l MX9_findPairs (d + 1, 0, 0, 0, 0) 32 [some (vR a0), some (vI a1), some (vI a2)] [vI r8] G9 h10 Q
    have f12 := H.1
    replace H := H.2
    refine s_if_eq (tgt := 79) dX9_findPairs_32 (by decide) f12 (fun c13 => ?_) (fun c13 => ?_)
    · replace H := H.1 c13
      refine s_iinc dX9_findPairs_79 rfl (by decide) rfl ?_
      show S l MX9_findPairs (d + 1, 0, 0, 0, 0) 82 [some (vR a0), some (vI (a1 + 1)), some (vI a2)] [] G9 h10 Q
      refine s_goto (tgt := 7) dX9_findPairs_82 (by decide) ?_
      exact S_cut (by first | exact ⟨rfl, ⟨rfl, trivial⟩⟩ | simp [lsub]) H
    · replace H := H.2 c13
      refine s_aload_n dX9_findPairs_35 rfl rfl ?_
      refine s_iload_n dX9_findPairs_36 rfl rfl ?_
      have f17 := H.1
      replace H := H.2
      refine s_callV (M' := MX9_isOne) (As := [vI a2]) (a := a0) (st := []) dX9_findPairs_37 ml_X9_201 cv_X9_isOne rfl rfl (Nat.le_of_ble_eq_true rfl) ⟨Nat.le_refl _, Nat.le_refl _⟩ f17 (R_mono (fun r14 G15 h16 H => ?_) H)
      show S l MX9_findPairs (d + 1, 0, 0, 0, 0) 40 [some (vR a0), some (vI a1), some (vI a2)] [vI r14] G15 h16 Q
      have f18 := H.1
      replace H := H.2
      refine s_if_eq (tgt := 73) dX9_findPairs_40 (by decide) f18 (fun c19 => ?_) (fun c19 => ?_)
      · replace H := H.1 c19
        refine s_iinc dX9_findPairs_73 rfl (by decide) rfl ?_
        show S l MX9_findPairs (d + 1, 0, 0, 0, 0) 76 [some (vR a0), some (vI a1), some (vI (a2 + 1))] [] G15 h16 Q
        refine s_goto (tgt := 18) dX9_findPairs_76 (by decide) ?_
        exact S_cut (by first | exact ⟨rfl, ⟨rfl, ⟨rfl, trivial⟩⟩⟩ | simp [lsub]) H
      · replace H := H.2 c19
        refine s_aload_n dX9_findPairs_43 rfl rfl ?_
        have f20 := H.1
        replace H := H.2
        refine s_getf (c := 9) (k := 17) (t := 2) (j := 17) dX9_findPairs_44 fl_X9_54 (by decide) (by decide) rfl rfl f20 ?_
        refine s_aload_n dX9_findPairs_47 rfl rfl ?_
        refine s_getf (c := 9) (k := 19) (t := 0) (j := 19) dX9_findPairs_48 fl_X9_198 (by decide) (by decide) rfl rfl f20 ?_
        refine s_iload_n dX9_findPairs_51 rfl rfl ?_
        have f21 := H.1
        replace H := H.2
        refine s_iastH dX9_findPairs_52 f21 (fun h22 eh22 => ?_)
        replace H := H h22 eh22
        refine s_aload_n dX9_findPairs_53 rfl rfl ?_
        refine s_getf (c := 9) (k := 18) (t := 2) (j := 18) dX9_findPairs_54 fl_X9_57 (by decide) (by decide) rfl rfl f20 ?_
        refine s_aload_n dX9_findPairs_57 rfl rfl ?_
        refine s_getf (c := 9) (k := 19) (t := 0) (j := 19) dX9_findPairs_58 fl_X9_198 (by decide) (by decide) rfl rfl f20 ?_
        refine s_iload_n dX9_findPairs_61 rfl rfl ?_
        have f23 := H.1
        replace H := H.2
        refine s_iastH dX9_findPairs_62 f23 (fun h24 eh24 => ?_)
        replace H := H h24 eh24
        refine s_aload_n dX9_findPairs_63 rfl rfl ?_
        refine s_dup dX9_findPairs_64 rfl ?_
        refine s_getf (c := 9) (k := 19) (t := 0) (j := 19) dX9_findPairs_65 fl_X9_198 (by decide) (by decide) rfl rfl f20 ?_
        refine s_iconst dX9_findPairs_68 ?_
        refine s_iadd dX9_findPairs_69 ?_
        refine s_putI (c := 9) (k := 19) (j := 19) dX9_findPairs_70 fl_X9_198 (by decide) (by decide) rfl rfl rfl f20 (fun h25 eh25 => ?_)
        replace H := H h25 eh25
        refine s_iinc dX9_findPairs_73 rfl (by decide) rfl ?_
        show S l MX9_findPairs (d + 1, 0, 0, 0, 0) 76 [some (vR a0), some (vI a1), some (vI (a2 + 1))] [] G15 h25 Q
        refine s_goto (tgt := 18) dX9_findPairs_76 (by decide) ?_
        exact S_cut (by first | exact ⟨rfl, ⟨rfl, ⟨rfl, trivial⟩⟩⟩ | simp [lsub]) H
set_option maxHeartbeats 4000000 in
set_option maxRecDepth 100000 in
theorem vX9_isOne_0 {l : Launch} {d : Nat} {G : GS} {h : HP} {Q : Int → GS → HP → Prop} (a0 a1 : Int) (H : S l MX9_isOne (d, 0, 0, 0, 0) 2 [some (vR a0), none, some (vI a1)] [] G h Q) : S l MX9_isOne (d, 0, 0, 0, 0) 0 [some (vR a0), some (vI a1), none] [] G h Q := by
  refine s_iload_n dX9_isOne_0 rfl rfl ?_
  refine s_istore_n dX9_isOne_1 rfl (by decide) rfl ?_
  show S l MX9_isOne (d, 0, 0, 0, 0) 2 [some (vR a0), some (vI a1), some (vI a1)] [] G h Q
  exact S_cut (by first | exact ⟨rfl, ⟨rfl, trivial⟩⟩ | simp [lsub]) H
set_option maxHeartbeats 4000000 in
set_option maxRecDepth 100000 in
theorem vX9_isOne_2 {l : Launch} {d : Nat} {G : GS} {h : HP} {Q : Int → GS → HP → Prop} (a0 a2 : Int) (H : (inR a2) ∧ ((a2 ≤ 0 → (ty G a0 = 9) ∧ (dvR a2 (h a0 0)) ∧ (inR (a2 % (h a0 0))) ∧ (((a2 % (h a0 0)) ≠ 1 → Q 0 G h) ∧ ((a2 % (h a0 0)) = 1 → Q 1 G h))) ∧ (0 < a2 → (ty G a0 = 9) ∧ (dvR a2 (h a0 0)) ∧ (inR (a2 % (h a0 0))) ∧ (((a2 % (h a0 0)) ≠ 0 → (((a2 % (h a0 0)) ≠ 1 → Q 0 G h) ∧ ((a2 % (h a0 0)) = 1 → Q 1 G h))) ∧ ((a2 % (h a0 0)) = 0 → S l MX9_isOne (d, 0, 0, 0, 0) 2 [some (vR a0), none, some (vI (a2 / (h a0 0)))] [] G h Q))))) : S l MX9_isOne (d, 0, 0, 0, 0) 2 [some (vR a0), none, some (vI a2)] [] G h Q := by
  refine s_iload_n dX9_isOne_2 rfl rfl ?_
  have f1 := H.1
  replace H := H.2
  refine s_if_le (tgt := 25) dX9_isOne_3 (by decide) f1 (fun c2 => ?_) (fun c2 => ?_)
  · replace H := H.1 c2
    refine s_iload_n dX9_isOne_25 rfl rfl ?_
    refine s_aload_n dX9_isOne_26 rfl rfl ?_
    have f3 := H.1
    replace H := H.2
    refine s_getf (c := 9) (k := 0) (t := 0) (j := 0) dX9_isOne_27 fl_X9_7 (by decide) (by decide) rfl rfl f3 ?_
    have f4 := H.1
    replace H := H.2
    refine s_irem dX9_isOne_30 f4 ?_
    refine s_iconst dX9_isOne_31 ?_
    have f5 := H.1
    replace H := H.2
    refine s_icmp_ne (tgt := 39) dX9_isOne_32 (by decide) f5 (by decide) (fun c6 => ?_) (fun c6 => ?_)
    · replace H := H.1 c6
      refine s_iconst dX9_isOne_39 ?_
      exact s_zret dX9_isOne_40 rfl ⟨Nat.le_refl _, Nat.le_refl _⟩ (by decide) H
    · replace H := H.2 c6
      refine s_iconst dX9_isOne_35 ?_
      refine s_goto (tgt := 40) dX9_isOne_36 (by decide) ?_
      exact s_zret dX9_isOne_40 rfl ⟨Nat.le_refl _, Nat.le_refl _⟩ (by decide) H
  · replace H := H.2 c2
    refine s_iload_n dX9_isOne_6 rfl rfl ?_
    refine s_aload_n dX9_isOne_7 rfl rfl ?_
    have f7 := H.1
    replace H := H.2
    refine s_getf (c := 9) (k := 0) (t := 0) (j := 0) dX9_isOne_8 fl_X9_7 (by decide) (by decide) rfl rfl f7 ?_
    have f8 := H.1
    replace H := H.2
    refine s_irem dX9_isOne_11 f8 ?_
    have f9 := H.1
    replace H := H.2
    refine s_if_ne (tgt := 25) dX9_isOne_12 (by decide) f9 (fun c10 => ?_) (fun c10 => ?_)
    · replace H := H.1 c10
      refine s_iload_n dX9_isOne_25 rfl rfl ?_
      refine s_aload_n dX9_isOne_26 rfl rfl ?_
      refine s_getf (c := 9) (k := 0) (t := 0) (j := 0) dX9_isOne_27 fl_X9_7 (by decide) (by decide) rfl rfl f7 ?_
      refine s_irem dX9_isOne_30 f8 ?_
      refine s_iconst dX9_isOne_31 ?_
      refine s_icmp_ne (tgt := 39) dX9_isOne_32 (by decide) f9 (by decide) (fun c11 => ?_) (fun c11 => ?_)
      · replace H := H.1 c11
        refine s_iconst dX9_isOne_39 ?_
        exact s_zret dX9_isOne_40 rfl ⟨Nat.le_refl _, Nat.le_refl _⟩ (by decide) H
      · replace H := H.2 c11
        refine s_iconst dX9_isOne_35 ?_
        refine s_goto (tgt := 40) dX9_isOne_36 (by decide) ?_
        exact s_zret dX9_isOne_40 rfl ⟨Nat.le_refl _, Nat.le_refl _⟩ (by decide) H
    · replace H := H.2 c10
      refine s_iload_n dX9_isOne_15 rfl rfl ?_
      refine s_aload_n dX9_isOne_16 rfl rfl ?_
      refine s_getf (c := 9) (k := 0) (t := 0) (j := 0) dX9_isOne_17 fl_X9_7 (by decide) (by decide) rfl rfl f7 ?_
      refine s_idiv dX9_isOne_20 f8 ?_
      refine s_istore_n dX9_isOne_21 rfl (by decide) rfl ?_
      show S l MX9_isOne (d, 0, 0, 0, 0) 22 [some (vR a0), none, some (vI (a2 / (h a0 0)))] [] G h Q
      refine s_goto (tgt := 2) dX9_isOne_22 (by decide) ?_
      exact S_cut (by first | exact ⟨rfl, ⟨rfl, trivial⟩⟩ | simp [lsub]) H
set_option maxHeartbeats 4000000 in
set_option maxRecDepth 100000 in
theorem vX9_isDoneBy_0 {l : Launch} {d : Nat} {G : GS} {h : HP} {Q : Int → GS → HP → Prop} (a0 a1 : Int) (H : (ty G a0 = 9) ∧ R l MX9_rankLeft d 0 0 [vR a0, vI 0] G h (fun r1 G2 h3 => (inR r1) ∧ (inR a1) ∧ ((r1 ≤ a1 → (ty G2 a0 = 9) ∧ (inA G2 10 (h3 a0 20) 0) ∧ ∀ h10 : HP, h10 = hset h3 (h3 a0 20) 0 ((-1)) → S l MX9_isDoneBy (d + 1, 0, 0, 0, 0) 20 [some (vR a0), some (vI a1), some (vI 0)] [] G2 h10 Q) ∧ (a1 < r1 → Q 0 G2 h3)))) : S l MX9_isDoneBy (d + 1, 0, 0, 0, 0) 0 [some (vR a0), some (vI a1), none] [] G h Q := by
  refine s_aload_n dX9_isDoneBy_0 rfl rfl ?_
  refine s_iconst dX9_isDoneBy_1 ?_
  have f4 := H.1
  replace H := H.2
  refine s_callV (M' := MX9_rankLeft) (As := [vI 0]) (a := a0) (st := []) dX9_isDoneBy_2 ml_X9_207 cv_X9_rankLeft rfl rfl (Nat.le_of_ble_eq_true rfl) ⟨Nat.le_refl _, Nat.le_refl _⟩ f4 (R_mono (fun r1 G2 h3 H => ?_) H)
  show S l MX9_isDoneBy (d + 1, 0, 0, 0, 0) 5 [some (vR a0), some (vI a1), none] [vI r1] G2 h3 Q
  refine s_iload_n dX9_isDoneBy_5 rfl rfl ?_
  have f5 := H.1
  replace H := H.2
  have f6 := H.1
  replace H := H.2
  refine s_icmp_le (tgt := 11) dX9_isDoneBy_6 (by decide) f5 f6 (fun c7 => ?_) (fun c7 => ?_)
  · replace H := H.1 c7
    refine s_iconst dX9_isDoneBy_11 ?_
    refine s_istore_n dX9_isDoneBy_12 rfl (by decide) rfl ?_
    show S l MX9_isDoneBy (d + 1, 0, 0, 0, 0) 13 [some (vR a0), some (vI a1), some (vI 0)] [] G2 h3 Q
    refine s_aload_n dX9_isDoneBy_13 rfl rfl ?_
    have f8 := H.1
    replace H := H.2
    refine s_getf (c := 9) (k := 20) (t := 2) (j := 20) dX9_isDoneBy_14 fl_X9_60 (by decide) (by decide) rfl rfl f8 ?_
    refine s_iconst dX9_isDoneBy_17 ?_
    refine s_iconst dX9_isDoneBy_18 ?_
    have f9 := H.1
    replace H := H.2
    refine s_iastH dX9_isDoneBy_19 f9 (fun h10 eh10 => ?_)
    replace H := H h10 eh10
    exact S_cut (by first | exact ⟨rfl, ⟨rfl, ⟨rfl, trivial⟩⟩⟩ | simp [lsub]) H
  · replace H := H.2 c7
    refine s_iconst dX9_isDoneBy_9 ?_
    exact s_zret dX9_isDoneBy_10 rfl ⟨Nat.le_refl _, Nat.le_refl _⟩ (by decide) H
set_option maxHeartbeats 4000000 in
set_option maxRecDepth 100000 in
theorem vX9_isDoneBy_20 {l : Launch} {d : Nat} {G : GS} {h : HP} {Q : Int → GS → HP → Prop} (a0 a1 a2 : Int) (H : (inR a2) ∧ ((a2 < 0 → Q 0 G h) ∧ (0 ≤ a2 → (inR a1) ∧ ((a2 ≠ a1 → (ty G a0 = 9) ∧ (inA G 10 (h a0 20) a2) ∧ ∀ h7 : HP, h7 = hset h (h a0 20) a2 ((h (h a0 20) a2) + 1) → (inA G 10 (h7 a0 20) a2) ∧ (inR (h7 (h7 a0 20) a2)) ∧ (inR (h7 a0 19)) ∧ (((h7 (h7 a0 20) a2) < (h7 a0 19) → R l MX9_lay d 0 0 [vR a0, vI a2] G h7 (fun r12 G13 h14 => (inR r12) ∧ ((r12 = 0 → S l MX9_isDoneBy (d + 1, 0, 0, 0, 0) 20 [some (vR a0), some (vI a1), some (vI a2)] [] G13 h14 Q) ∧ (r12 ≠ 0 → (ty G13 a0 = 9) ∧ R l MX9_rankLeft d 0 0 [vR a0, vI (a2 + 1)] G13 h14 (fun r17 G18 h19 => (inR r17) ∧ (inR ((a1 - a2) - 1)) ∧ ((((a1 - a2) - 1) < r17 → S l MX9_isDoneBy (d + 1, 0, 0, 0, 0) 20 [some (vR a0), some (vI a1), some (vI a2)] [] G18 h19 Q) ∧ (r17 ≤ ((a1 - a2) - 1) → (inR (a2 + 1)) ∧ (inR a1) ∧ ((a1 ≤ (a2 + 1) → S l MX9_isDoneBy (d + 1, 0, 0, 0, 0) 20 [some (vR a0), some (vI a1), some (vI (a2 + 1))] [] G18 h19 Q) ∧ ((a2 + 1) < a1 → (ty G18 a0 = 9) ∧ (inA G18 10 (h19 a0 20) ((a2 + 1) - 1)) ∧ (inA G18 10 (h19 a0 20) (a2 + 1)) ∧ ∀ h30 : HP, h30 = hset h19 (h19 a0 20) (a2 + 1) (h19 (h19 a0 20) ((a2 + 1) - 1)) → S l MX9_isDoneBy (d + 1, 0, 0, 0, 0) 20 [some (vR a0), some (vI a1), some (vI (a2 + 1))] [] G18 h30 Q))))))))) ∧ ((h7 a0 19) ≤ (h7 (h7 a0 20) a2) → S l MX9_isDoneBy (d + 1, 0, 0, 0, 0) 20 [some (vR a0), some (vI a1), some (vI (a2 + (-1)))] [] G h7 Q))) ∧ (a2 = a1 → Q 1 G h))))) : S l MX9_isDoneBy (d + 1, 0, 0, 0, 0) 20 [some (vR a0), some (vI a1), some (vI a2)] [] G h Q := by
  refine s_iload_n dX9_isDoneBy_20 rfl rfl ?_
  have f1 := H.1
  replace H := H.2
  refine s_if_lt (tgt := 108) dX9_isDoneBy_21 (by decide) f1 (fun c2 => ?_) (fun c2 => ?_)
  · replace H := H.1 c2
    refine s_iconst dX9_isDoneBy_108 ?_
    exact s_zret dX9_isDoneBy_109 rfl ⟨Nat.le_refl _, Nat.le_refl _⟩ (by decide) H
  · replace H := H.2 c2
    refine s_iload_n dX9_isDoneBy_24 rfl rfl ?_
    refine s_iload_n dX9_isDoneBy_25 rfl rfl ?_
    have f3 := H.1
    replace H := H.2
    refine s_icmp_ne (tgt := 31) dX9_isDoneBy_26 (by decide) f1 f3 (fun c4 => ?_) (fun c4 => ?_)
    · replace H := H.1 c4
      refine s_aload_n dX9_isDoneBy_31 rfl rfl ?_
      have f5 := H.1
      replace H := H.2
      refine s_getf (c := 9) (k := 20) (t := 2) (j := 20) dX9_isDoneBy_32 fl_X9_60 (by decide) (by decide) rfl rfl f5 ?_
      refine s_iload_n dX9_isDoneBy_35 rfl rfl ?_
      refine s_dup2 dX9_isDoneBy_36 rfl rfl ?_
      have f6 := H.1
      replace H := H.2
      refine s_iald dX9_isDoneBy_37 f6 ?_
      refine s_iconst dX9_isDoneBy_38 ?_
      refine s_iadd dX9_isDoneBy_39 ?_
      refine s_iastH dX9_isDoneBy_40 f6 (fun h7 eh7 => ?_)
      replace H := H h7 eh7
      refine s_aload_n dX9_isDoneBy_41 rfl rfl ?_
      refine s_getf (c := 9) (k := 20) (t := 2) (j := 20) dX9_isDoneBy_42 fl_X9_60 (by decide) (by decide) rfl rfl f5 ?_
      refine s_iload_n dX9_isDoneBy_45 rfl rfl ?_
      have f8 := H.1
      replace H := H.2
      refine s_iald dX9_isDoneBy_46 f8 ?_
      refine s_aload_n dX9_isDoneBy_47 rfl rfl ?_
      refine s_getf (c := 9) (k := 19) (t := 0) (j := 19) dX9_isDoneBy_48 fl_X9_198 (by decide) (by decide) rfl rfl f5 ?_
      have f9 := H.1
      replace H := H.2
      have f10 := H.1
      replace H := H.2
      refine s_icmp_lt (tgt := 60) dX9_isDoneBy_51 (by decide) f9 f10 (fun c11 => ?_) (fun c11 => ?_)
      · replace H := H.1 c11
        refine s_aload_n dX9_isDoneBy_60 rfl rfl ?_
        refine s_iload_n dX9_isDoneBy_61 rfl rfl ?_
        refine s_callV (M' := MX9_lay) (As := [vI a2]) (a := a0) (st := []) dX9_isDoneBy_62 ml_X9_210 cv_X9_lay rfl rfl (Nat.le_of_ble_eq_true rfl) ⟨Nat.le_refl _, Nat.le_refl _⟩ f5 (R_mono (fun r12 G13 h14 H => ?_) H)
        show S l MX9_isDoneBy (d + 1, 0, 0, 0, 0) 65 [some (vR a0), some (vI a1), some (vI a2)] [vI r12] G13 h14 Q
        have f15 := H.1
        replace H := H.2
        refine s_if_eq (tgt := 20) dX9_isDoneBy_65 (by decide) f15 (fun c16 => ?_) (fun c16 => ?_)
        · replace H := H.1 c16
          exact S_cut (by first | exact ⟨rfl, ⟨rfl, ⟨rfl, trivial⟩⟩⟩ | simp [lsub]) H
        · replace H := H.2 c16
          refine s_aload_n dX9_isDoneBy_68 rfl rfl ?_
          refine s_iload_n dX9_isDoneBy_69 rfl rfl ?_
          refine s_iconst dX9_isDoneBy_70 ?_
          refine s_iadd dX9_isDoneBy_71 ?_
          have f20 := H.1
          replace H := H.2
          refine s_callV (M' := MX9_rankLeft) (As := [vI (a2 + 1)]) (a := a0) (st := []) dX9_isDoneBy_72 ml_X9_207 cv_X9_rankLeft rfl rfl (Nat.le_of_ble_eq_true rfl) ⟨Nat.le_refl _, Nat.le_refl _⟩ f20 (R_mono (fun r17 G18 h19 H => ?_) H)
          show S l MX9_isDoneBy (d + 1, 0, 0, 0, 0) 75 [some (vR a0), some (vI a1), some (vI a2)] [vI r17] G18 h19 Q
          refine s_iload_n dX9_isDoneBy_75 rfl rfl ?_
          refine s_iload_n dX9_isDoneBy_76 rfl rfl ?_
          refine s_isub dX9_isDoneBy_77 ?_
          refine s_iconst dX9_isDoneBy_78 ?_
          refine s_isub dX9_isDoneBy_79 ?_
          have f21 := H.1
          replace H := H.2
          have f22 := H.1
          replace H := H.2
          refine s_icmp_gt (tgt := 20) dX9_isDoneBy_80 (by decide) f21 f22 (fun c23 => ?_) (fun c23 => ?_)
          · replace H := H.1 c23
            exact S_cut (by first | exact ⟨rfl, ⟨rfl, ⟨rfl, trivial⟩⟩⟩ | simp [lsub]) H
          · replace H := H.2 c23
            refine s_iinc dX9_isDoneBy_83 rfl (by decide) rfl ?_
            show S l MX9_isDoneBy (d + 1, 0, 0, 0, 0) 86 [some (vR a0), some (vI a1), some (vI (a2 + 1))] [] G18 h19 Q
            refine s_iload_n dX9_isDoneBy_86 rfl rfl ?_
            refine s_iload_n dX9_isDoneBy_87 rfl rfl ?_
            have f24 := H.1
            replace H := H.2
            have f25 := H.1
            replace H := H.2
            refine s_icmp_ge (tgt := 20) dX9_isDoneBy_88 (by decide) f24 f25 (fun c26 => ?_) (fun c26 => ?_)
            · replace H := H.1 c26
              exact S_cut (by first | exact ⟨rfl, ⟨rfl, ⟨rfl, trivial⟩⟩⟩ | simp [lsub]) H
            · replace H := H.2 c26
              refine s_aload_n dX9_isDoneBy_91 rfl rfl ?_
              have f27 := H.1
              replace H := H.2
              refine s_getf (c := 9) (k := 20) (t := 2) (j := 20) dX9_isDoneBy_92 fl_X9_60 (by decide) (by decide) rfl rfl f27 ?_
              refine s_iload_n dX9_isDoneBy_95 rfl rfl ?_
              refine s_aload_n dX9_isDoneBy_96 rfl rfl ?_
              refine s_getf (c := 9) (k := 20) (t := 2) (j := 20) dX9_isDoneBy_97 fl_X9_60 (by decide) (by decide) rfl rfl f27 ?_
              refine s_iload_n dX9_isDoneBy_100 rfl rfl ?_
              refine s_iconst dX9_isDoneBy_101 ?_
              refine s_isub dX9_isDoneBy_102 ?_
              have f28 := H.1
              replace H := H.2
              refine s_iald dX9_isDoneBy_103 f28 ?_
              have f29 := H.1
              replace H := H.2
              refine s_iastH dX9_isDoneBy_104 f29 (fun h30 eh30 => ?_)
              replace H := H h30 eh30
              refine s_goto (tgt := 20) dX9_isDoneBy_105 (by decide) ?_
              exact S_cut (by first | exact ⟨rfl, ⟨rfl, ⟨rfl, trivial⟩⟩⟩ | simp [lsub]) H
      · replace H := H.2 c11
        refine s_iinc dX9_isDoneBy_54 rfl (by decide) rfl ?_
        show S l MX9_isDoneBy (d + 1, 0, 0, 0, 0) 57 [some (vR a0), some (vI a1), some (vI (a2 + (-1)))] [] G h7 Q
        refine s_goto (tgt := 20) dX9_isDoneBy_57 (by decide) ?_
        exact S_cut (by first | exact ⟨rfl, ⟨rfl, ⟨rfl, trivial⟩⟩⟩ | simp [lsub]) H
    · replace H := H.2 c4
      refine s_iconst dX9_isDoneBy_29 ?_
      exact s_zret dX9_isDoneBy_30 rfl ⟨Nat.le_refl _, Nat.le_refl _⟩ (by decide) H
set_option maxHeartbeats 4000000 in
set_option maxRecDepth 100000 in
theorem vX9_rankLeft_0 {l : Launch} {d : Nat} {G : GS} {h : HP} {Q : Int → GS → HP → Prop} (a0 a1 : Int) (H : S l MX9_rankLeft (d + 1, 0, 0, 0, 0) 2 [some (vR a0), some (vI a1), some (vI 0), none] [] G h Q) : S l MX9_rankLeft (d + 1, 0, 0, 0, 0) 0 [some (vR a0), some (vI a1), none, none] [] G h Q := by
  refine s_iconst dX9_rankLeft_0 ?_
  refine s_istore_n dX9_rankLeft_1 rfl (by decide) rfl ?_
  show S l MX9_rankLeft (d + 1, 0, 0, 0, 0) 2 [some (vR a0), some (vI a1), some (vI 0), none] [] G h Q
  exact S_cut (by first | exact ⟨rfl, ⟨rfl, ⟨rfl, trivial⟩⟩⟩ | simp [lsub]) H
set_option maxHeartbeats 4000000 in
set_option maxRecDepth 100000 in
theorem vX9_rankLeft_2 {l : Launch} {d : Nat} {G : GS} {h : HP} {Q : Int → GS → HP → Prop} (a0 a1 a2 : Int) (H : (ty G a0 = 9) ∧ (inA G 10 (h a0 1) 2) ∧ (inR a2) ∧ (inR (h (h a0 1) 2)) ∧ (((h (h a0 1) 2) ≤ a2 → R l MX9_rankOfLines d 0 0 [vR a0, vI (h (h a0 1) 2), vI 81] G h (fun r6 G7 h8 => Q r6 G7 h8)) ∧ (a2 < (h (h a0 1) 2) → S l MX9_rankLeft (d + 1, 0, 0, 0, 0) 14 [some (vR a0), some (vI a1), some (vI a2), some (vI 0)] [] G h Q))) : S l MX9_rankLeft (d + 1, 0, 0, 0, 0) 2 [some (vR a0), some (vI a1), some (vI a2), none] [] G h Q := by
  refine s_iload_n dX9_rankLeft_2 rfl rfl ?_
  refine s_aload_n dX9_rankLeft_3 rfl rfl ?_
  have f1 := H.1
  replace H := H.2
  refine s_getf (c := 9) (k := 1) (t := 2) (j := 1) dX9_rankLeft_4 fl_X9_13 (by decide) (by decide) rfl rfl f1 ?_
  refine s_iconst dX9_rankLeft_7 ?_
  have f2 := H.1
  replace H := H.2
  refine s_iald dX9_rankLeft_8 f2 ?_
  have f3 := H.1
  replace H := H.2
  have f4 := H.1
  replace H := H.2
  refine s_icmp_ge (tgt := 60) dX9_rankLeft_9 (by decide) f3 f4 (fun c5 => ?_) (fun c5 => ?_)
  · replace H := H.1 c5
    refine s_aload_n dX9_rankLeft_60 rfl rfl ?_
    refine s_aload_n dX9_rankLeft_61 rfl rfl ?_
    refine s_getf (c := 9) (k := 1) (t := 2) (j := 1) dX9_rankLeft_62 fl_X9_13 (by decide) (by decide) rfl rfl f1 ?_
    refine s_iconst dX9_rankLeft_65 ?_
    refine s_iald dX9_rankLeft_66 f2 ?_
    refine s_bipush dX9_rankLeft_67 (by decide) ?_
    refine s_callV (M' := MX9_rankOfLines) (As := [vI (h (h a0 1) 2), vI 81]) (a := a0) (st := []) dX9_rankLeft_69 ml_X9_185 cv_X9_rankOfLines rfl rfl (Nat.le_of_ble_eq_true rfl) ⟨Nat.le_refl _, Nat.le_refl _⟩ f1 (R_mono (fun r6 G7 h8 H => ?_) H)
    show S l MX9_rankLeft (d + 1, 0, 0, 0, 0) 72 [some (vR a0), some (vI a1), some (vI a2), none] [vI r6] G7 h8 Q
    exact s_iret dX9_rankLeft_72 rfl ⟨Nat.le_refl _, Nat.le_refl _⟩ H
  · replace H := H.2 c5
    refine s_iconst dX9_rankLeft_12 ?_
    refine s_istore_n dX9_rankLeft_13 rfl (by decide) rfl ?_
    show S l MX9_rankLeft (d + 1, 0, 0, 0, 0) 14 [some (vR a0), some (vI a1), some (vI a2), some (vI 0)] [] G h Q
    exact S_cut (by first | exact ⟨rfl, ⟨rfl, ⟨rfl, ⟨rfl, trivial⟩⟩⟩⟩ | simp [lsub]) H
set_option maxHeartbeats 4000000 in
set_option maxRecDepth 100000 in
theorem vX9_rankLeft_14 {l : Launch} {d : Nat} {G : GS} {h : HP} {Q : Int → GS → HP → Prop} (a0 a1 a2 a3 : Int) (H : (inR a3) ∧ ((81 ≤ a3 → S l MX9_rankLeft (d + 1, 0, 0, 0, 0) 2 [some (vR a0), some (vI a1), some (vI (a2 + 1)), none] [] G h Q) ∧ (a3 < 81 → (ty G a0 = 9) ∧ (inA G 10 (h a0 21) (((729 * a1) + (81 * a2)) + a3)) ∧ (inA G 10 (h a0 14) ((81 * a2) + a3)) ∧ ∀ h6 : HP, h6 = hset h (h a0 14) ((81 * a2) + a3) (h (h a0 21) (((729 * a1) + (81 * a2)) + a3)) → S l MX9_rankLeft (d + 1, 0, 0, 0, 0) 14 [some (vR a0), some (vI a1), some (vI a2), some (vI (a3 + 1))] [] G h6 Q))) : S l MX9_rankLeft (d + 1, 0, 0, 0, 0) 14 [some (vR a0), some (vI a1), some (vI a2), some (vI a3)] [] G h Q := by
  refine s_iload_n dX9_rankLeft_14 rfl rfl ?_
  refine s_bipush dX9_rankLeft_15 (by decide) ?_
  have f1 := H.1
  replace H := H.2
  refine s_icmp_ge (tgt := 54) dX9_rankLeft_17 (by decide) f1 (by decide) (fun c2 => ?_) (fun c2 => ?_)
  · replace H := H.1 c2
    refine s_iinc dX9_rankLeft_54 rfl (by decide) rfl ?_
    show S l MX9_rankLeft (d + 1, 0, 0, 0, 0) 57 [some (vR a0), some (vI a1), some (vI (a2 + 1)), some (vI a3)] [] G h Q
    refine s_goto (tgt := 2) dX9_rankLeft_57 (by decide) ?_
    exact S_cut (by first | exact ⟨rfl, ⟨rfl, ⟨rfl, trivial⟩⟩⟩ | simp [lsub]) H
  · replace H := H.2 c2
    refine s_aload_n dX9_rankLeft_20 rfl rfl ?_
    have f3 := H.1
    replace H := H.2
    refine s_getf (c := 9) (k := 14) (t := 2) (j := 14) dX9_rankLeft_21 fl_X9_51 (by decide) (by decide) rfl rfl f3 ?_
    refine s_bipush dX9_rankLeft_24 (by decide) ?_
    refine s_iload_n dX9_rankLeft_26 rfl rfl ?_
    refine s_imul dX9_rankLeft_27 ?_
    refine s_iload_n dX9_rankLeft_28 rfl rfl ?_
    refine s_iadd dX9_rankLeft_29 ?_
    refine s_aload_n dX9_rankLeft_30 rfl rfl ?_
    refine s_getf (c := 9) (k := 21) (t := 2) (j := 21) dX9_rankLeft_31 fl_X9_63 (by decide) (by decide) rfl rfl f3 ?_
    refine s_sipush dX9_rankLeft_34 (by decide) ?_
    refine s_iload_n dX9_rankLeft_37 rfl rfl ?_
    refine s_imul dX9_rankLeft_38 ?_
    refine s_bipush dX9_rankLeft_39 (by decide) ?_
    refine s_iload_n dX9_rankLeft_41 rfl rfl ?_
    refine s_imul dX9_rankLeft_42 ?_
    refine s_iadd dX9_rankLeft_43 ?_
    refine s_iload_n dX9_rankLeft_44 rfl rfl ?_
    refine s_iadd dX9_rankLeft_45 ?_
    have f4 := H.1
    replace H := H.2
    refine s_iald dX9_rankLeft_46 f4 ?_
    have f5 := H.1
    replace H := H.2
    refine s_iastH dX9_rankLeft_47 f5 (fun h6 eh6 => ?_)
    replace H := H h6 eh6
    refine s_iinc dX9_rankLeft_48 rfl (by decide) rfl ?_
    show S l MX9_rankLeft (d + 1, 0, 0, 0, 0) 51 [some (vR a0), some (vI a1), some (vI a2), some (vI (a3 + 1))] [] G h6 Q
    refine s_goto (tgt := 14) dX9_rankLeft_51 (by decide) ?_
    exact S_cut (by first | exact ⟨rfl, ⟨rfl, ⟨rfl, ⟨rfl, trivial⟩⟩⟩⟩ | simp [lsub]) H
set_option maxHeartbeats 4000000 in
set_option maxRecDepth 100000 in
theorem vX9_lay_0 {l : Launch} {d : Nat} {G : GS} {h : HP} {Q : Int → GS → HP → Prop} (a0 a1 : Int) (H : S l MX9_lay (d + 1, 0, 0, 0, 0) 7 [some (vR a0), some (vI a1), some (vI (81 * a1)), some (vI 0), none, none, none, none, none] [] G h Q) : S l MX9_lay (d + 1, 0, 0, 0, 0) 0 [some (vR a0), some (vI a1), none, none, none, none, none, none, none] [] G h Q := by
  refine s_bipush dX9_lay_0 (by decide) ?_
  refine s_iload_n dX9_lay_2 rfl rfl ?_
  refine s_imul dX9_lay_3 ?_
  refine s_istore_n dX9_lay_4 rfl (by decide) rfl ?_
  show S l MX9_lay (d + 1, 0, 0, 0, 0) 5 [some (vR a0), some (vI a1), some (vI (81 * a1)), none, none, none, none, none, none] [] G h Q
  refine s_iconst dX9_lay_5 ?_
  refine s_istore_n dX9_lay_6 rfl (by decide) rfl ?_
  show S l MX9_lay (d + 1, 0, 0, 0, 0) 7 [some (vR a0), some (vI a1), some (vI (81 * a1)), some (vI 0), none, none, none, none, none] [] G h Q
  exact S_cut (by first | exact ⟨rfl, ⟨rfl, ⟨rfl, ⟨rfl, trivial⟩⟩⟩⟩ | simp [lsub]) H
set_option maxHeartbeats 4000000 in
set_option maxRecDepth 100000 in
theorem vX9_lay_7 {l : Launch} {d : Nat} {G : GS} {h : HP} {Q : Int → GS → HP → Prop} (a0 a1 a2 a3 : Int) (H : (inR a3) ∧ ((81 ≤ a3 → S l MX9_lay (d + 1, 0, 0, 0, 0) 73 [some (vR a0), some (vI a1), some (vI a2), some (vI 0), none, none, none, none, none] [] G h Q) ∧ (a3 < 81 → (ty G a0 = 9) ∧ (inA G 10 (h a0 20) a1) ∧ (inA G 10 (h a0 17) (h (h a0 20) a1)) ∧ (dvR a3 9) ∧ R l MX9_digit d 0 0 [vR a0, vI (h (h a0 17) (h (h a0 20) a1)), vI (a3 / 9)] G h (fun r7 G8 h9 => (ty G8 a0 = 9) ∧ (inA G8 10 (h9 a0 20) a1) ∧ (inA G8 10 (h9 a0 18) (h9 (h9 a0 20) a1)) ∧ (dvR a3 9) ∧ R l MX9_digit d 0 0 [vR a0, vI (h9 (h9 a0 18) (h9 (h9 a0 20) a1)), vI (a3 % 9)] G8 h9 (fun r14 G15 h16 => (ty G15 a0 = 9) ∧ (dvR (r7 * r14) (h16 a0 0)) ∧ (inA G15 10 (h a0 22) (a2 + a3)) ∧ ∀ h20 : HP, h20 = hset h16 (h a0 22) (a2 + a3) ((r7 * r14) % (h16 a0 0)) → S l MX9_lay (d + 1, 0, 0, 0, 0) 7 [some (vR a0), some (vI a1), some (vI a2), some (vI (a3 + 1)), none, none, none, none, none] [] G15 h20 Q))))) : S l MX9_lay (d + 1, 0, 0, 0, 0) 7 [some (vR a0), some (vI a1), some (vI a2), some (vI a3), none, none, none, none, none] [] G h Q := by
  refine s_iload_n dX9_lay_7 rfl rfl ?_
  refine s_bipush dX9_lay_8 (by decide) ?_
  have f1 := H.1
  replace H := H.2
  refine s_icmp_ge (tgt := 71) dX9_lay_10 (by decide) f1 (by decide) (fun c2 => ?_) (fun c2 => ?_)
  · replace H := H.1 c2
    refine s_iconst dX9_lay_71 ?_
    refine s_istore_n dX9_lay_72 rfl (by decide) rfl ?_
    show S l MX9_lay (d + 1, 0, 0, 0, 0) 73 [some (vR a0), some (vI a1), some (vI a2), some (vI 0), none, none, none, none, none] [] G h Q
    exact S_cut (by first | exact ⟨rfl, ⟨rfl, ⟨rfl, ⟨rfl, trivial⟩⟩⟩⟩ | simp [lsub]) H
  · replace H := H.2 c2
    refine s_aload_n dX9_lay_13 rfl rfl ?_
    have f3 := H.1
    replace H := H.2
    refine s_getf (c := 9) (k := 22) (t := 2) (j := 22) dX9_lay_14 fl_X9_66 (by decide) (by decide) rfl rfl f3 ?_
    refine s_iload_n dX9_lay_17 rfl rfl ?_
    refine s_iload_n dX9_lay_18 rfl rfl ?_
    refine s_iadd dX9_lay_19 ?_
    refine s_aload_n dX9_lay_20 rfl rfl ?_
    refine s_aload_n dX9_lay_21 rfl rfl ?_
    refine s_getf (c := 9) (k := 17) (t := 2) (j := 17) dX9_lay_22 fl_X9_54 (by decide) (by decide) rfl rfl f3 ?_
    refine s_aload_n dX9_lay_25 rfl rfl ?_
    refine s_getf (c := 9) (k := 20) (t := 2) (j := 20) dX9_lay_26 fl_X9_60 (by decide) (by decide) rfl rfl f3 ?_
    refine s_iload_n dX9_lay_29 rfl rfl ?_
    have f4 := H.1
    replace H := H.2
    refine s_iald dX9_lay_30 f4 ?_
    have f5 := H.1
    replace H := H.2
    refine s_iald dX9_lay_31 f5 ?_
    refine s_iload_n dX9_lay_32 rfl rfl ?_
    refine s_bipush dX9_lay_33 (by decide) ?_
    have f6 := H.1
    replace H := H.2
    refine s_idiv dX9_lay_35 f6 ?_
    refine s_callV (M' := MX9_digit) (As := [vI (h (h a0 17) (h (h a0 20) a1)), vI (a3 / 9)]) (a := a0) (st := [vI (a2 + a3), vR (h a0 22)]) dX9_lay_36 ml_X9_204 cv_X9_digit rfl rfl (Nat.le_of_ble_eq_true rfl) ⟨Nat.le_refl _, Nat.le_refl _⟩ f3 (R_mono (fun r7 G8 h9 H => ?_) H)
    show S l MX9_lay (d + 1, 0, 0, 0, 0) 39 [some (vR a0), some (vI a1), some (vI a2), some (vI a3), none, none, none, none, none] [vI r7, vI (a2 + a3), vR (h a0 22)] G8 h9 Q
    refine s_aload_n dX9_lay_39 rfl rfl ?_
    refine s_aload_n dX9_lay_40 rfl rfl ?_
    have f10 := H.1
    replace H := H.2
    refine s_getf (c := 9) (k := 18) (t := 2) (j := 18) dX9_lay_41 fl_X9_57 (by decide) (by decide) rfl rfl f10 ?_
    refine s_aload_n dX9_lay_44 rfl rfl ?_
    refine s_getf (c := 9) (k := 20) (t := 2) (j := 20) dX9_lay_45 fl_X9_60 (by decide) (by decide) rfl rfl f10 ?_
    refine s_iload_n dX9_lay_48 rfl rfl ?_
    have f11 := H.1
    replace H := H.2
    refine s_iald dX9_lay_49 f11 ?_
    have f12 := H.1
    replace H := H.2
    refine s_iald dX9_lay_50 f12 ?_
    refine s_iload_n dX9_lay_51 rfl rfl ?_
    refine s_bipush dX9_lay_52 (by decide) ?_
    have f13 := H.1
    replace H := H.2
    refine s_irem dX9_lay_54 f13 ?_
    refine s_callV (M' := MX9_digit) (As := [vI (h9 (h9 a0 18) (h9 (h9 a0 20) a1)), vI (a3 % 9)]) (a := a0) (st := [vI r7, vI (a2 + a3), vR (h a0 22)]) dX9_lay_55 ml_X9_204 cv_X9_digit rfl rfl (Nat.le_of_ble_eq_true rfl) ⟨Nat.le_refl _, Nat.le_refl _⟩ f10 (R_mono (fun r14 G15 h16 H => ?_) H)
    show S l MX9_lay (d + 1, 0, 0, 0, 0) 58 [some (vR a0), some (vI a1), some (vI a2), some (vI a3), none, none, none, none, none] [vI r14, vI r7, vI (a2 + a3), vR (h a0 22)] G15 h16 Q
    refine s_imul dX9_lay_58 ?_
    refine s_aload_n dX9_lay_59 rfl rfl ?_
    have f17 := H.1
    replace H := H.2
    refine s_getf (c := 9) (k := 0) (t := 0) (j := 0) dX9_lay_60 fl_X9_7 (by decide) (by decide) rfl rfl f17 ?_
    have f18 := H.1
    replace H := H.2
    refine s_irem dX9_lay_63 f18 ?_
    have f19 := H.1
    replace H := H.2
    refine s_iastH dX9_lay_64 f19 (fun h20 eh20 => ?_)
    replace H := H h20 eh20
    refine s_iinc dX9_lay_65 rfl (by decide) rfl ?_
    show S l MX9_lay (d + 1, 0, 0, 0, 0) 68 [some (vR a0), some (vI a1), some (vI a2), some (vI (a3 + 1)), none, none, none, none, none] [] G15 h20 Q
    refine s_goto (tgt := 7) dX9_lay_68 (by decide) ?_
    exact S_cut (by first | exact ⟨rfl, ⟨rfl, ⟨rfl, ⟨rfl, trivial⟩⟩⟩⟩ | simp [lsub]) H
set_option maxHeartbeats 4000000 in
set_option maxRecDepth 100000 in
theorem vX9_lay_73 {l : Launch} {d : Nat} {G : GS} {h : HP} {Q : Int → GS → HP → Prop} (a0 a1 a2 a3 : Int) (H : (inR a3) ∧ (inR a1) ∧ ((a1 ≤ a3 → S l MX9_lay (d + 1, 0, 0, 0, 0) 171 [some (vR a0), some (vI a1), some (vI a2), some (vI 0), none, none, none, none, none] [] G h Q) ∧ (a3 < a1 → (ty G a0 = 9) ∧ (inA G 10 (h a0 23) a3) ∧ (inA G 10 (h a0 22) (a2 + (h (h a0 23) a3))) ∧ (dvR ((h a0 0) - (h (h a0 22) (a2 + (h (h a0 23) a3)))) (h a0 0)) ∧ S l MX9_lay (d + 1, 0, 0, 0, 0) 106 [some (vR a0), some (vI a1), some (vI a2), some (vI a3), some (vI (((h a0 0) - (h (h a0 22) (a2 + (h (h a0 23) a3)))) % (h a0 0))), some (vI 0), none, none, none] [] G h Q))) : S l MX9_lay (d + 1, 0, 0, 0, 0) 73 [some (vR a0), some (vI a1), some (vI a2), some (vI a3), none, none, none, none, none] [] G h Q := by
  refine s_iload_n dX9_lay_73 rfl rfl ?_
  refine s_iload_n dX9_lay_74 rfl rfl ?_
  have f1 := H.1
  replace H := H.2
  have f2 := H.1
  replace H := H.2
  refine s_icmp_ge (tgt := 169) dX9_lay_75 (by decide) f1 f2 (fun c3 => ?_) (fun c3 => ?_)
  · replace H := H.1 c3
    refine s_iconst dX9_lay_169 ?_
    refine s_istore_n dX9_lay_170 rfl (by decide) rfl ?_
    show S l MX9_lay (d + 1, 0, 0, 0, 0) 171 [some (vR a0), some (vI a1), some (vI a2), some (vI 0), none, none, none, none, none] [] G h Q
    exact S_cut (by first | exact ⟨rfl, ⟨rfl, ⟨rfl, ⟨rfl, trivial⟩⟩⟩⟩ | simp [lsub]) H
  · replace H := H.2 c3
    refine s_aload_n dX9_lay_78 rfl rfl ?_
    have f4 := H.1
    replace H := H.2
    refine s_getf (c := 9) (k := 0) (t := 0) (j := 0) dX9_lay_79 fl_X9_7 (by decide) (by decide) rfl rfl f4 ?_
    refine s_aload_n dX9_lay_82 rfl rfl ?_
    refine s_getf (c := 9) (k := 22) (t := 2) (j := 22) dX9_lay_83 fl_X9_66 (by decide) (by decide) rfl rfl f4 ?_
    refine s_iload_n dX9_lay_86 rfl rfl ?_
    refine s_aload_n dX9_lay_87 rfl rfl ?_
    refine s_getf (c := 9) (k := 23) (t := 2) (j := 23) dX9_lay_88 fl_X9_69 (by decide) (by decide) rfl rfl f4 ?_
    refine s_iload_n dX9_lay_91 rfl rfl ?_
    have f5 := H.1
    replace H := H.2
    refine s_iald dX9_lay_92 f5 ?_
    refine s_iadd dX9_lay_93 ?_
    have f6 := H.1
    replace H := H.2
    refine s_iald dX9_lay_94 f6 ?_
    refine s_isub dX9_lay_95 ?_
    refine s_aload_n dX9_lay_96 rfl rfl ?_
    refine s_getf (c := 9) (k := 0) (t := 0) (j := 0) dX9_lay_97 fl_X9_7 (by decide) (by decide) rfl rfl f4 ?_
    have f7 := H.1
    replace H := H.2
    refine s_irem dX9_lay_100 f7 ?_
    refine s_istore dX9_lay_101 (by decide) rfl ?_
    show S l MX9_lay (d + 1, 0, 0, 0, 0) 103 [some (vR a0), some (vI a1), some (vI a2), some (vI a3), some (vI (((h a0 0) - (h (h a0 22) (a2 + (h (h a0 23) a3)))) % (h a0 0))), none, none, none, none] [] G h Q
    refine s_iconst dX9_lay_103 ?_
    refine s_istore dX9_lay_104 (by decide) rfl ?_
    show S l MX9_lay (d + 1, 0, 0, 0, 0) 106 [some (vR a0), some (vI a1), some (vI a2), some (vI a3), some (vI (((h a0 0) - (h (h a0 22) (a2 + (h (h a0 23) a3)))) % (h a0 0))), some (vI 0), none, none, none] [] G h Q
    exact S_cut (by first | exact ⟨rfl, ⟨rfl, ⟨rfl, ⟨rfl, ⟨rfl, ⟨rfl, trivial⟩⟩⟩⟩⟩⟩ | simp [lsub]) H
set_option maxHeartbeats 4000000 in
set_option maxRecDepth 100000 in
theorem vX9_lay_171 {l : Launch} {d : Nat} {G : GS} {h : HP} {Q : Int → GS → HP → Prop} (a0 a1 a2 a3 : Int) (H : (inR a3) ∧ ((81 ≤ a3 → ((a3 ≠ 81 → (ty G a0 = 9) ∧ (inA G 10 (h a0 23) a1) ∧ ∀ h6 : HP, h6 = hset h (h a0 23) a1 a3 → (inA G 10 (h6 a0 22) (a2 + a3)) ∧ R l MX9_inverse d 0 0 [vR a0, vI (h6 (h6 a0 22) (a2 + a3))] G h6 (fun r8 G9 h10 => S l MX9_lay (d + 1, 0, 0, 0, 0) 226 [some (vR a0), some (vI a1), some (vI a2), some (vI a3), some (vI r8), some (vI 0), none, none, none] [] G9 h10 Q)) ∧ (a3 = 81 → Q 0 G h))) ∧ (a3 < 81 → (ty G a0 = 9) ∧ (inA G 10 (h a0 22) (a2 + a3)) ∧ (inR (h (h a0 22) (a2 + a3))) ∧ (((h (h a0 22) (a2 + a3)) ≠ 0 → ((a3 ≠ 81 → (inA G 10 (h a0 23) a1) ∧ ∀ h17 : HP, h17 = hset h (h a0 23) a1 a3 → (inA G 10 (h17 a0 22) (a2 + a3)) ∧ R l MX9_inverse d 0 0 [vR a0, vI (h17 (h17 a0 22) (a2 + a3))] G h17 (fun r19 G20 h21 => S l MX9_lay (d + 1, 0, 0, 0, 0) 226 [some (vR a0), some (vI a1), some (vI a2), some (vI a3), some (vI r19), some (vI 0), none, none, none] [] G20 h21 Q)) ∧ (a3 = 81 → Q 0 G h))) ∧ ((h (h a0 22) (a2 + a3)) = 0 → S l MX9_lay (d + 1, 0, 0, 0, 0) 171 [some (vR a0), some (vI a1), some (vI a2), some (vI (a3 + 1)), none, none, none, none, none] [] G h Q))))) : S l MX9_lay (d + 1, 0, 0, 0, 0) 171 [some (vR a0), some (vI a1), some (vI a2), some (vI a3), none, none, none, none, none] [] G h Q := by
  refine s_iload_n dX9_lay_171 rfl rfl ?_
  refine s_bipush dX9_lay_172 (by decide) ?_
  have f1 := H.1
  replace H := H.2
  refine s_icmp_ge (tgt := 194) dX9_lay_174 (by decide) f1 (by decide) (fun c2 => ?_) (fun c2 => ?_)
  · replace H := H.1 c2
    refine s_iload_n dX9_lay_194 rfl rfl ?_
    refine s_bipush dX9_lay_195 (by decide) ?_
    refine s_icmp_ne (tgt := 202) dX9_lay_197 (by decide) f1 (by decide) (fun c3 => ?_) (fun c3 => ?_)
    · replace H := H.1 c3
      refine s_aload_n dX9_lay_202 rfl rfl ?_
      have f4 := H.1
      replace H := H.2
      refine s_getf (c := 9) (k := 23) (t := 2) (j := 23) dX9_lay_203 fl_X9_69 (by decide) (by decide) rfl rfl f4 ?_
      refine s_iload_n dX9_lay_206 rfl rfl ?_
      refine s_iload_n dX9_lay_207 rfl rfl ?_
      have f5 := H.1
      replace H := H.2
      refine s_iastH dX9_lay_208 f5 (fun h6 eh6 => ?_)
      replace H := H h6 eh6
      refine s_aload_n dX9_lay_209 rfl rfl ?_
      refine s_aload_n dX9_lay_210 rfl rfl ?_
      refine s_getf (c := 9) (k := 22) (t := 2) (j := 22) dX9_lay_211 fl_X9_66 (by decide) (by decide) rfl rfl f4 ?_
      refine s_iload_n dX9_lay_214 rfl rfl ?_
      refine s_iload_n dX9_lay_215 rfl rfl ?_
      refine s_iadd dX9_lay_216 ?_
      have f7 := H.1
      replace H := H.2
      refine s_iald dX9_lay_217 f7 ?_
      refine s_callV (M' := MX9_inverse) (As := [vI (h6 (h6 a0 22) (a2 + a3))]) (a := a0) (st := []) dX9_lay_218 ml_X9_147 cv_X9_inverse rfl rfl (Nat.le_of_ble_eq_true rfl) ⟨Nat.le_refl _, Nat.le_refl _⟩ f4 (R_mono (fun r8 G9 h10 H => ?_) H)
      show S l MX9_lay (d + 1, 0, 0, 0, 0) 221 [some (vR a0), some (vI a1), some (vI a2), some (vI a3), none, none, none, none, none] [vI r8] G9 h10 Q
      refine s_istore dX9_lay_221 (by decide) rfl ?_
      show S l MX9_lay (d + 1, 0, 0, 0, 0) 223 [some (vR a0), some (vI a1), some (vI a2), some (vI a3), some (vI r8), none, none, none, none] [] G9 h10 Q
      refine s_iconst dX9_lay_223 ?_
      refine s_istore dX9_lay_224 (by decide) rfl ?_
      show S l MX9_lay (d + 1, 0, 0, 0, 0) 226 [some (vR a0), some (vI a1), some (vI a2), some (vI a3), some (vI r8), some (vI 0), none, none, none] [] G9 h10 Q
      exact S_cut (by first | exact ⟨rfl, ⟨rfl, ⟨rfl, ⟨rfl, ⟨rfl, ⟨rfl, trivial⟩⟩⟩⟩⟩⟩ | simp [lsub]) H
    · replace H := H.2 c3
      refine s_iconst dX9_lay_200 ?_
      exact s_zret dX9_lay_201 rfl ⟨Nat.le_refl _, Nat.le_refl _⟩ (by decide) H
  · replace H := H.2 c2
    refine s_aload_n dX9_lay_177 rfl rfl ?_
    have f11 := H.1
    replace H := H.2
    refine s_getf (c := 9) (k := 22) (t := 2) (j := 22) dX9_lay_178 fl_X9_66 (by decide) (by decide) rfl rfl f11 ?_
    refine s_iload_n dX9_lay_181 rfl rfl ?_
    refine s_iload_n dX9_lay_182 rfl rfl ?_
    refine s_iadd dX9_lay_183 ?_
    have f12 := H.1
    replace H := H.2
    refine s_iald dX9_lay_184 f12 ?_
    have f13 := H.1
    replace H := H.2
    refine s_if_ne (tgt := 194) dX9_lay_185 (by decide) f13 (fun c14 => ?_) (fun c14 => ?_)
    · replace H := H.1 c14
      refine s_iload_n dX9_lay_194 rfl rfl ?_
      refine s_bipush dX9_lay_195 (by decide) ?_
      refine s_icmp_ne (tgt := 202) dX9_lay_197 (by decide) f1 (by decide) (fun c15 => ?_) (fun c15 => ?_)
      · replace H := H.1 c15
        refine s_aload_n dX9_lay_202 rfl rfl ?_
        refine s_getf (c := 9) (k := 23) (t := 2) (j := 23) dX9_lay_203 fl_X9_69 (by decide) (by decide) rfl rfl f11 ?_
        refine s_iload_n dX9_lay_206 rfl rfl ?_
        refine s_iload_n dX9_lay_207 rfl rfl ?_
        have f16 := H.1
        replace H := H.2
        refine s_iastH dX9_lay_208 f16 (fun h17 eh17 => ?_)
        replace H := H h17 eh17
        refine s_aload_n dX9_lay_209 rfl rfl ?_
        refine s_aload_n dX9_lay_210 rfl rfl ?_
        refine s_getf (c := 9) (k := 22) (t := 2) (j := 22) dX9_lay_211 fl_X9_66 (by decide) (by decide) rfl rfl f11 ?_
        refine s_iload_n dX9_lay_214 rfl rfl ?_
        refine s_iload_n dX9_lay_215 rfl rfl ?_
        refine s_iadd dX9_lay_216 ?_
        have f18 := H.1
        replace H := H.2
        refine s_iald dX9_lay_217 f18 ?_
        refine s_callV (M' := MX9_inverse) (As := [vI (h17 (h17 a0 22) (a2 + a3))]) (a := a0) (st := []) dX9_lay_218 ml_X9_147 cv_X9_inverse rfl rfl (Nat.le_of_ble_eq_true rfl) ⟨Nat.le_refl _, Nat.le_refl _⟩ f11 (R_mono (fun r19 G20 h21 H => ?_) H)
        show S l MX9_lay (d + 1, 0, 0, 0, 0) 221 [some (vR a0), some (vI a1), some (vI a2), some (vI a3), none, none, none, none, none] [vI r19] G20 h21 Q
        refine s_istore dX9_lay_221 (by decide) rfl ?_
        show S l MX9_lay (d + 1, 0, 0, 0, 0) 223 [some (vR a0), some (vI a1), some (vI a2), some (vI a3), some (vI r19), none, none, none, none] [] G20 h21 Q
        refine s_iconst dX9_lay_223 ?_
        refine s_istore dX9_lay_224 (by decide) rfl ?_
        show S l MX9_lay (d + 1, 0, 0, 0, 0) 226 [some (vR a0), some (vI a1), some (vI a2), some (vI a3), some (vI r19), some (vI 0), none, none, none] [] G20 h21 Q
        exact S_cut (by first | exact ⟨rfl, ⟨rfl, ⟨rfl, ⟨rfl, ⟨rfl, ⟨rfl, trivial⟩⟩⟩⟩⟩⟩ | simp [lsub]) H
      · replace H := H.2 c15
        refine s_iconst dX9_lay_200 ?_
        exact s_zret dX9_lay_201 rfl ⟨Nat.le_refl _, Nat.le_refl _⟩ (by decide) H
    · replace H := H.2 c14
      refine s_iinc dX9_lay_188 rfl (by decide) rfl ?_
      show S l MX9_lay (d + 1, 0, 0, 0, 0) 191 [some (vR a0), some (vI a1), some (vI a2), some (vI (a3 + 1)), none, none, none, none, none] [] G h Q
      refine s_goto (tgt := 171) dX9_lay_191 (by decide) ?_
      exact S_cut (by first | exact ⟨rfl, ⟨rfl, ⟨rfl, ⟨rfl, trivial⟩⟩⟩⟩ | simp [lsub]) H
set_option maxHeartbeats 4000000 in
set_option maxRecDepth 100000 in
theorem vX9_lay_106 {l : Launch} {d : Nat} {G : GS} {h : HP} {Q : Int → GS → HP → Prop} (a0 a1 a2 a3 a4 a5 : Int) (H : (inR a5) ∧ ((81 ≤ a5 → S l MX9_lay (d + 1, 0, 0, 0, 0) 73 [some (vR a0), some (vI a1), some (vI a2), some (vI (a3 + 1)), none, none, none, none, none] [] G h Q) ∧ (a5 < 81 → (inR a4) ∧ ((a4 ≤ 0 → S l MX9_lay (d + 1, 0, 0, 0, 0) 73 [some (vR a0), some (vI a1), some (vI a2), some (vI (a3 + 1)), none, none, none, none, none] [] G h Q) ∧ (0 < a4 → (ty G a0 = 9) ∧ (inA G 10 (h a0 22) (a2 + a5)) ∧ (inA G 10 (h a0 22) ((81 * a3) + a5)) ∧ (dvR ((h (h a0 22) (a2 + a5)) + (a4 * (h (h a0 22) ((81 * a3) + a5)))) (h a0 0)) ∧ ∀ h9 : HP, h9 = hset h (h a0 22) (a2 + a5) (((h (h a0 22) (a2 + a5)) + (a4 * (h (h a0 22) ((81 * a3) + a5)))) % (h a0 0)) → S l MX9_lay (d + 1, 0, 0, 0, 0) 106 [some (vR a0), some (vI a1), some (vI a2), some (vI a3), some (vI a4), some (vI (a5 + 1)), none, none, none] [] G h9 Q))))) : S l MX9_lay (d + 1, 0, 0, 0, 0) 106 [some (vR a0), some (vI a1), some (vI a2), some (vI a3), some (vI a4), some (vI a5), none, none, none] [] G h Q := by
  refine s_iload dX9_lay_106 rfl ?_
  refine s_bipush dX9_lay_108 (by decide) ?_
  have f1 := H.1
  replace H := H.2
  refine s_icmp_ge (tgt := 163) dX9_lay_110 (by decide) f1 (by decide) (fun c2 => ?_) (fun c2 => ?_)
  · replace H := H.1 c2
    refine s_iinc dX9_lay_163 rfl (by decide) rfl ?_
    show S l MX9_lay (d + 1, 0, 0, 0, 0) 166 [some (vR a0), some (vI a1), some (vI a2), some (vI (a3 + 1)), some (vI a4), some (vI a5), none, none, none] [] G h Q
    refine s_goto (tgt := 73) dX9_lay_166 (by decide) ?_
    exact S_cut (by first | exact ⟨rfl, ⟨rfl, ⟨rfl, ⟨rfl, trivial⟩⟩⟩⟩ | simp [lsub]) H
  · replace H := H.2 c2
    refine s_iload dX9_lay_113 rfl ?_
    have f3 := H.1
    replace H := H.2
    refine s_if_le (tgt := 163) dX9_lay_115 (by decide) f3 (fun c4 => ?_) (fun c4 => ?_)
    · replace H := H.1 c4
      refine s_iinc dX9_lay_163 rfl (by decide) rfl ?_
      show S l MX9_lay (d + 1, 0, 0, 0, 0) 166 [some (vR a0), some (vI a1), some (vI a2), some (vI (a3 + 1)), some (vI a4), some (vI a5), none, none, none] [] G h Q
      refine s_goto (tgt := 73) dX9_lay_166 (by decide) ?_
      exact S_cut (by first | exact ⟨rfl, ⟨rfl, ⟨rfl, ⟨rfl, trivial⟩⟩⟩⟩ | simp [lsub]) H
    · replace H := H.2 c4
      refine s_aload_n dX9_lay_118 rfl rfl ?_
      have f5 := H.1
      replace H := H.2
      refine s_getf (c := 9) (k := 22) (t := 2) (j := 22) dX9_lay_119 fl_X9_66 (by decide) (by decide) rfl rfl f5 ?_
      refine s_iload_n dX9_lay_122 rfl rfl ?_
      refine s_iload dX9_lay_123 rfl ?_
      refine s_iadd dX9_lay_125 ?_
      refine s_aload_n dX9_lay_126 rfl rfl ?_
      refine s_getf (c := 9) (k := 22) (t := 2) (j := 22) dX9_lay_127 fl_X9_66 (by decide) (by decide) rfl rfl f5 ?_
      refine s_iload_n dX9_lay_130 rfl rfl ?_
      refine s_iload dX9_lay_131 rfl ?_
      refine s_iadd dX9_lay_133 ?_
      have f6 := H.1
      replace H := H.2
      refine s_iald dX9_lay_134 f6 ?_
      refine s_iload dX9_lay_135 rfl ?_
      refine s_aload_n dX9_lay_137 rfl rfl ?_
      refine s_getf (c := 9) (k := 22) (t := 2) (j := 22) dX9_lay_138 fl_X9_66 (by decide) (by decide) rfl rfl f5 ?_
      refine s_bipush dX9_lay_141 (by decide) ?_
      refine s_iload_n dX9_lay_143 rfl rfl ?_
      refine s_imul dX9_lay_144 ?_
      refine s_iload dX9_lay_145 rfl ?_
      refine s_iadd dX9_lay_147 ?_
      have f7 := H.1
      replace H := H.2
      refine s_iald dX9_lay_148 f7 ?_
      refine s_imul dX9_lay_149 ?_
      refine s_iadd dX9_lay_150 ?_
      refine s_aload_n dX9_lay_151 rfl rfl ?_
      refine s_getf (c := 9) (k := 0) (t := 0) (j := 0) dX9_lay_152 fl_X9_7 (by decide) (by decide) rfl rfl f5 ?_
      have f8 := H.1
      replace H := H.2
      refine s_irem dX9_lay_155 f8 ?_
      refine s_iastH dX9_lay_156 f6 (fun h9 eh9 => ?_)
      replace H := H h9 eh9
      refine s_iinc dX9_lay_157 rfl (by decide) rfl ?_
      show S l MX9_lay (d + 1, 0, 0, 0, 0) 160 [some (vR a0), some (vI a1), some (vI a2), some (vI a3), some (vI a4), some (vI (a5 + 1)), none, none, none] [] G h9 Q
      refine s_goto (tgt := 106) dX9_lay_160 (by decide) ?_
      exact S_cut (by first | exact ⟨rfl, ⟨rfl, ⟨rfl, ⟨rfl, ⟨rfl, ⟨rfl, trivial⟩⟩⟩⟩⟩⟩ | simp [lsub]) H
set_option maxHeartbeats 4000000 in
set_option maxRecDepth 100000 in
theorem vX9_lay_226 {l : Launch} {d : Nat} {G : GS} {h : HP} {Q : Int → GS → HP → Prop} (a0 a1 a2 a3 a4 a5 : Int) (H : (inR a5) ∧ ((81 ≤ a5 → S l MX9_lay (d + 1, 0, 0, 0, 0) 268 [some (vR a0), some (vI a1), some (vI a2), some (vI a3), none, some (vI 0), none, none, none] [] G h Q) ∧ (a5 < 81 → (ty G a0 = 9) ∧ (inA G 10 (h a0 22) (a2 + a5)) ∧ (dvR ((h (h a0 22) (a2 + a5)) * a4) (h a0 0)) ∧ ∀ h6 : HP, h6 = hset h (h a0 22) (a2 + a5) (((h (h a0 22) (a2 + a5)) * a4) % (h a0 0)) → S l MX9_lay (d + 1, 0, 0, 0, 0) 226 [some (vR a0), some (vI a1), some (vI a2), some (vI a3), some (vI a4), some (vI (a5 + 1)), none, none, none] [] G h6 Q))) : S l MX9_lay (d + 1, 0, 0, 0, 0) 226 [some (vR a0), some (vI a1), some (vI a2), some (vI a3), some (vI a4), some (vI a5), none, none, none] [] G h Q := by
  refine s_iload dX9_lay_226 rfl ?_
  refine s_bipush dX9_lay_228 (by decide) ?_
  have f1 := H.1
  replace H := H.2
  refine s_icmp_ge (tgt := 265) dX9_lay_230 (by decide) f1 (by decide) (fun c2 => ?_) (fun c2 => ?_)
  · replace H := H.1 c2
    refine s_iconst dX9_lay_265 ?_
    refine s_istore dX9_lay_266 (by decide) rfl ?_
    show S l MX9_lay (d + 1, 0, 0, 0, 0) 268 [some (vR a0), some (vI a1), some (vI a2), some (vI a3), some (vI a4), some (vI 0), none, none, none] [] G h Q
    exact S_cut (by first | exact ⟨rfl, ⟨rfl, ⟨rfl, ⟨rfl, ⟨rfl, trivial⟩⟩⟩⟩⟩ | simp [lsub]) H
  · replace H := H.2 c2
    refine s_aload_n dX9_lay_233 rfl rfl ?_
    have f3 := H.1
    replace H := H.2
    refine s_getf (c := 9) (k := 22) (t := 2) (j := 22) dX9_lay_234 fl_X9_66 (by decide) (by decide) rfl rfl f3 ?_
    refine s_iload_n dX9_lay_237 rfl rfl ?_
    refine s_iload dX9_lay_238 rfl ?_
    refine s_iadd dX9_lay_240 ?_
    refine s_aload_n dX9_lay_241 rfl rfl ?_
    refine s_getf (c := 9) (k := 22) (t := 2) (j := 22) dX9_lay_242 fl_X9_66 (by decide) (by decide) rfl rfl f3 ?_
    refine s_iload_n dX9_lay_245 rfl rfl ?_
    refine s_iload dX9_lay_246 rfl ?_
    refine s_iadd dX9_lay_248 ?_
    have f4 := H.1
    replace H := H.2
    refine s_iald dX9_lay_249 f4 ?_
    refine s_iload dX9_lay_250 rfl ?_
    refine s_imul dX9_lay_252 ?_
    refine s_aload_n dX9_lay_253 rfl rfl ?_
    refine s_getf (c := 9) (k := 0) (t := 0) (j := 0) dX9_lay_254 fl_X9_7 (by decide) (by decide) rfl rfl f3 ?_
    have f5 := H.1
    replace H := H.2
    refine s_irem dX9_lay_257 f5 ?_
    refine s_iastH dX9_lay_258 f4 (fun h6 eh6 => ?_)
    replace H := H h6 eh6
    refine s_iinc dX9_lay_259 rfl (by decide) rfl ?_
    show S l MX9_lay (d + 1, 0, 0, 0, 0) 262 [some (vR a0), some (vI a1), some (vI a2), some (vI a3), some (vI a4), some (vI (a5 + 1)), none, none, none] [] G h6 Q
    refine s_goto (tgt := 226) dX9_lay_262 (by decide) ?_
    exact S_cut (by first | exact ⟨rfl, ⟨rfl, ⟨rfl, ⟨rfl, ⟨rfl, ⟨rfl, trivial⟩⟩⟩⟩⟩⟩ | simp [lsub]) H
