set_option maxHeartbeats 4000000 in
set_option maxRecDepth 100000 in
theorem vX4_start_0 {l : Launch} {d : Nat} {G : GS} {h : HP} {Q : Int → GS → HP → Prop} (a0 a1 a2 a3 : Int) (H : (ty G a0 = 4) ∧ (inA G 10 (h a0 1) 0) ∧ ∀ h3 : HP, h3 = hset h (h a0 1) 0 a1 → (inA G 10 (h3 a0 1) 1) ∧ ∀ h5 : HP, h5 = hset h3 (h3 a0 1) 1 a2 → (inA G 10 (h5 a0 1) 2) ∧ ∀ h7 : HP, h7 = hset h5 (h5 a0 1) 2 a3 → R l MJ7_fill_53178 d 0 0 [vR (h7 a0 2), vI 0] G h7 (fun r8 G9 h10 => (ty G9 a0 = 4) ∧ ∀ h12 : HP, h12 = hset h10 a0 6 0 → Q 0 G9 h12)) : S l MX4_start (d + 1, 0, 0, 0, 0) 0 [some (vR a0), some (vI a1), some (vI a2), some (vI a3)] [] G h Q := by
  refine s_aload_n dX4_start_0 rfl rfl ?_
  have f1 := H.1
  replace H := H.2
  refine s_getf (c := 4) (k := 1) (t := 2) (j := 1) dX4_start_1 fl_X4_9 (by decide) (by decide) rfl rfl f1 ?_
  refine s_iconst dX4_start_4 ?_
  refine s_iload_n dX4_start_5 rfl rfl ?_
  have f2 := H.1
  replace H := H.2
  refine s_iastH dX4_start_6 f2 (fun h3 eh3 => ?_)
  replace H := H h3 eh3
  refine s_aload_n dX4_start_7 rfl rfl ?_
  refine s_getf (c := 4) (k := 1) (t := 2) (j := 1) dX4_start_8 fl_X4_9 (by decide) (by decide) rfl rfl f1 ?_
  refine s_iconst dX4_start_11 ?_
  refine s_iload_n dX4_start_12 rfl rfl ?_
  have f4 := H.1
  replace H := H.2
  refine s_iastH dX4_start_13 f4 (fun h5 eh5 => ?_)
  replace H := H h5 eh5
  refine s_aload_n dX4_start_14 rfl rfl ?_
  refine s_getf (c := 4) (k := 1) (t := 2) (j := 1) dX4_start_15 fl_X4_9 (by decide) (by decide) rfl rfl f1 ?_
  refine s_iconst dX4_start_18 ?_
  refine s_iload_n dX4_start_19 rfl rfl ?_
  have f6 := H.1
  replace H := H.2
  refine s_iastH dX4_start_20 f6 (fun h7 eh7 => ?_)
  replace H := H h7 eh7
  refine s_aload_n dX4_start_21 rfl rfl ?_
  refine s_getf (c := 4) (k := 2) (t := 2) (j := 2) dX4_start_22 fl_X4_15 (by decide) (by decide) rfl rfl f1 ?_
  refine s_iconst dX4_start_25 ?_
  refine s_callS (M' := MJ7_fill_53178) (As := [vR (h7 a0 2), vI 0]) (st := []) dX4_start_26 ml_X4_35 cs_J7_fill_53178 rfl rfl (Nat.le_of_ble_eq_true rfl) ⟨Nat.le_refl _, Nat.le_refl _⟩ (R_mono (fun r8 G9 h10 H => ?_) H)
  show S l MX4_start (d + 1, 0, 0, 0, 0) 29 [some (vR a0), some (vI a1), some (vI a2), some (vI a3)] [] G9 h10 Q
  refine s_aload_n dX4_start_29 rfl rfl ?_
  refine s_iconst dX4_start_30 ?_
  have f11 := H.1
  replace H := H.2
  refine s_putI (c := 4) (k := 6) (j := 6) dX4_start_31 fl_X4_41 (by decide) (by decide) rfl rfl rfl f11 (fun h12 eh12 => ?_)
  replace H := H h12 eh12
  exact s_vret dX4_start_34 rfl ⟨Nat.le_refl _, Nat.le_refl _⟩ H
set_option maxHeartbeats 4000000 in
set_option maxRecDepth 100000 in
theorem vX4_setNumber_0 {l : Launch} {d : Nat} {G : GS} {h : HP} {Q : Int → GS → HP → Prop} (a0 a1 a2 a3 a4 : Int) (H : (ty G a0 = 4) ∧ R l MX4_fiberAt d 0 0 [vR a0, vI a1, vI a2] G h (fun r2 G3 h4 => (ty G3 (h a0 0) = 1) ∧ R l MX1_withNumber d 0 0 [vR (h a0 0), vI r2, vI a3, vI a4] G3 h4 (fun r5 G6 h7 => (ty G6 a0 = 4) ∧ R l MX4_setFiber d 0 0 [vR a0, vI a1, vI a2, vI r5] G6 h7 (fun r9 G10 h11 => Q 0 G10 h11)))) : S l MX4_setNumber (d + 1, 0, 0, 0, 0) 0 [some (vR a0), some (vI a1), some (vI a2), some (vI a3), some (vI a4)] [] G h Q := by
  refine s_aload_n dX4_setNumber_0 rfl rfl ?_
  refine s_iload_n dX4_setNumber_1 rfl rfl ?_
  refine s_iload_n dX4_setNumber_2 rfl rfl ?_
  refine s_aload_n dX4_setNumber_3 rfl rfl ?_
  have f1 := H.1
  replace H := H.2
  refine s_getf (c := 4) (k := 0) (t := 2) (j := 0) dX4_setNumber_4 fl_X4_27 (by decide) (by decide) rfl rfl f1 ?_
  refine s_aload_n dX4_setNumber_7 rfl rfl ?_
  refine s_iload_n dX4_setNumber_8 rfl rfl ?_
  refine s_iload_n dX4_setNumber_9 rfl rfl ?_
  refine s_callV (M' := MX4_fiberAt) (As := [vI a1, vI a2]) (a := a0) (st := [vR (h a0 0), vI a2, vI a1, vR a0]) dX4_setNumber_10 ml_X4_60 cv_X4_fiberAt rfl rfl (Nat.le_of_ble_eq_true rfl) ⟨Nat.le_refl _, Nat.le_refl _⟩ f1 (R_mono (fun r2 G3 h4 H => ?_) H)
  show S l MX4_setNumber (d + 1, 0, 0, 0, 0) 13 [some (vR a0), some (vI a1), some (vI a2), some (vI a3), some (vI a4)] [vI r2, vR (h a0 0), vI a2, vI a1, vR a0] G3 h4 Q
  refine s_iload_n dX4_setNumber_13 rfl rfl ?_
  refine s_iload dX4_setNumber_14 rfl ?_
  have f8 := H.1
  replace H := H.2
  refine s_callV (M' := MX1_withNumber) (As := [vI r2, vI a3, vI a4]) (a := h a0 0) (st := [vI a2, vI a1, vR a0]) dX4_setNumber_16 ml_X4_67 cv_X1_withNumber rfl rfl (Nat.le_of_ble_eq_true rfl) ⟨Nat.le_refl _, Nat.le_refl _⟩ f8 (R_mono (fun r5 G6 h7 H => ?_) H)
  show S l MX4_setNumber (d + 1, 0, 0, 0, 0) 19 [some (vR a0), some (vI a1), some (vI a2), some (vI a3), some (vI a4)] [vI r5, vI a2, vI a1, vR a0] G6 h7 Q
  have f12 := H.1
  replace H := H.2
  refine s_callV (M' := MX4_setFiber) (As := [vI a1, vI a2, vI r5]) (a := a0) (st := []) dX4_setNumber_19 ml_X4_71 cv_X4_setFiber rfl rfl (Nat.le_of_ble_eq_true rfl) ⟨Nat.le_refl _, Nat.le_refl _⟩ f12 (R_mono (fun r9 G10 h11 H => ?_) H)
  show S l MX4_setNumber (d + 1, 0, 0, 0, 0) 22 [some (vR a0), some (vI a1), some (vI a2), some (vI a3), some (vI a4)] [] G10 h11 Q
  exact s_vret dX4_setNumber_22 rfl ⟨Nat.le_refl _, Nat.le_refl _⟩ H
set_option maxHeartbeats 4000000 in
set_option maxRecDepth 100000 in
theorem vX4_fiberAt_0 {l : Launch} {d : Nat} {G : GS} {h : HP} {Q : Int → GS → HP → Prop} (a0 a1 a2 : Int) (H : (ty G a0 = 4) ∧ (inA G 10 (h a0 2) ((9 * a1) + a2)) ∧ Q (h (h a0 2) ((9 * a1) + a2)) G h) : S l MX4_fiberAt (d, 0, 0, 0, 0) 0 [some (vR a0), some (vI a1), some (vI a2)] [] G h Q := by
  refine s_aload_n dX4_fiberAt_0 rfl rfl ?_
  have f1 := H.1
  replace H := H.2
  refine s_getf (c := 4) (k := 2) (t := 2) (j := 2) dX4_fiberAt_1 fl_X4_15 (by decide) (by decide) rfl rfl f1 ?_
  refine s_bipush dX4_fiberAt_4 (by decide) ?_
  refine s_iload_n dX4_fiberAt_6 rfl rfl ?_
  refine s_imul dX4_fiberAt_7 ?_
  refine s_iload_n dX4_fiberAt_8 rfl rfl ?_
  refine s_iadd dX4_fiberAt_9 ?_
  have f2 := H.1
  replace H := H.2
  refine s_iald dX4_fiberAt_10 f2 ?_
  exact s_iret dX4_fiberAt_11 rfl ⟨Nat.le_refl _, Nat.le_refl _⟩ H
set_option maxHeartbeats 4000000 in
set_option maxRecDepth 100000 in
theorem vX4_setFiber_0 {l : Launch} {d : Nat} {G : GS} {h : HP} {Q : Int → GS → HP → Prop} (a0 a1 a2 a3 : Int) (H : (ty G a0 = 4) ∧ (inA G 10 (h a0 2) ((9 * a1) + a2)) ∧ ∀ h3 : HP, h3 = hset h (h a0 2) ((9 * a1) + a2) a3 → Q 0 G h3) : S l MX4_setFiber (d, 0, 0, 0, 0) 0 [some (vR a0), some (vI a1), some (vI a2), some (vI a3)] [] G h Q := by
  refine s_aload_n dX4_setFiber_0 rfl rfl ?_
  have f1 := H.1
  replace H := H.2
  refine s_getf (c := 4) (k := 2) (t := 2) (j := 2) dX4_setFiber_1 fl_X4_15 (by decide) (by decide) rfl rfl f1 ?_
  refine s_bipush dX4_setFiber_4 (by decide) ?_
  refine s_iload_n dX4_setFiber_6 rfl rfl ?_
  refine s_imul dX4_setFiber_7 ?_
  refine s_iload_n dX4_setFiber_8 rfl rfl ?_
  refine s_iadd dX4_setFiber_9 ?_
  refine s_iload_n dX4_setFiber_10 rfl rfl ?_
  have f2 := H.1
  replace H := H.2
  refine s_iastH dX4_setFiber_11 f2 (fun h3 eh3 => ?_)
  replace H := H h3 eh3
  exact s_vret dX4_setFiber_12 rfl ⟨Nat.le_refl _, Nat.le_refl _⟩ H
set_option maxHeartbeats 4000000 in
set_option maxRecDepth 100000 in
theorem vX4_hasPlace_0 {l : Launch} {d : Nat} {G : GS} {h : HP} {Q : Int → GS → HP → Prop} (a0 a1 a2 a3 : Int) (H : (ty G a0 = 4) ∧ R l MX4_hasIndex d 0 0 [vR a0, vI 0, vI a1] G h (fun r1 G2 h3 => (inR r1) ∧ ((r1 = 0 → Q 0 G2 h3) ∧ (r1 ≠ 0 → (ty G2 a0 = 4) ∧ R l MX4_hasIndex d 0 0 [vR a0, vI 1, vI a2] G2 h3 (fun r7 G8 h9 => (inR r7) ∧ ((r7 = 0 → Q 0 G8 h9) ∧ (r7 ≠ 0 → (ty G8 a0 = 4) ∧ R l MX4_hasIndex d 0 0 [vR a0, vI 2, vI a3] G8 h9 (fun r13 G14 h15 => (inR r13) ∧ ((r13 = 0 → Q 0 G14 h15) ∧ (r13 ≠ 0 → Q 1 G14 h15)))))))))) : S l MX4_hasPlace (d + 1, 0, 0, 0, 0) 0 [some (vR a0), some (vI a1), some (vI a2), some (vI a3)] [] G h Q := by
  refine s_aload_n dX4_hasPlace_0 rfl rfl ?_
  refine s_iconst dX4_hasPlace_1 ?_
  refine s_iload_n dX4_hasPlace_2 rfl rfl ?_
  have f4 := H.1
  replace H := H.2
  refine s_callV (M' := MX4_hasIndex) (As := [vI 0, vI a1]) (a := a0) (st := []) dX4_hasPlace_3 ml_X4_51 cv_X4_hasIndex rfl rfl (Nat.le_of_ble_eq_true rfl) ⟨Nat.le_refl _, Nat.le_refl _⟩ f4 (R_mono (fun r1 G2 h3 H => ?_) H)
  show S l MX4_hasPlace (d + 1, 0, 0, 0, 0) 6 [some (vR a0), some (vI a1), some (vI a2), some (vI a3)] [vI r1] G2 h3 Q
  have f5 := H.1
  replace H := H.2
  refine s_if_eq (tgt := 31) dX4_hasPlace_6 (by decide) f5 (fun c6 => ?_) (fun c6 => ?_)
  · replace H := H.1 c6
    refine s_iconst dX4_hasPlace_31 ?_
    exact s_zret dX4_hasPlace_32 rfl ⟨Nat.le_refl _, Nat.le_refl _⟩ (by decide) H
  · replace H := H.2 c6
    refine s_aload_n dX4_hasPlace_9 rfl rfl ?_
    refine s_iconst dX4_hasPlace_10 ?_
    refine s_iload_n dX4_hasPlace_11 rfl rfl ?_
    have f10 := H.1
    replace H := H.2
    refine s_callV (M' := MX4_hasIndex) (As := [vI 1, vI a2]) (a := a0) (st := []) dX4_hasPlace_12 ml_X4_51 cv_X4_hasIndex rfl rfl (Nat.le_of_ble_eq_true rfl) ⟨Nat.le_refl _, Nat.le_refl _⟩ f10 (R_mono (fun r7 G8 h9 H => ?_) H)
    show S l MX4_hasPlace (d + 1, 0, 0, 0, 0) 15 [some (vR a0), some (vI a1), some (vI a2), some (vI a3)] [vI r7] G8 h9 Q
    have f11 := H.1
    replace H := H.2
    refine s_if_eq (tgt := 31) dX4_hasPlace_15 (by decide) f11 (fun c12 => ?_) (fun c12 => ?_)
    · replace H := H.1 c12
      refine s_iconst dX4_hasPlace_31 ?_
      exact s_zret dX4_hasPlace_32 rfl ⟨Nat.le_refl _, Nat.le_refl _⟩ (by decide) H
    · replace H := H.2 c12
      refine s_aload_n dX4_hasPlace_18 rfl rfl ?_
      refine s_iconst dX4_hasPlace_19 ?_
      refine s_iload_n dX4_hasPlace_20 rfl rfl ?_
      have f16 := H.1
      replace H := H.2
      refine s_callV (M' := MX4_hasIndex) (As := [vI 2, vI a3]) (a := a0) (st := []) dX4_hasPlace_21 ml_X4_51 cv_X4_hasIndex rfl rfl (Nat.le_of_ble_eq_true rfl) ⟨Nat.le_refl _, Nat.le_refl _⟩ f16 (R_mono (fun r13 G14 h15 H => ?_) H)
      show S l MX4_hasPlace (d + 1, 0, 0, 0, 0) 24 [some (vR a0), some (vI a1), some (vI a2), some (vI a3)] [vI r13] G14 h15 Q
      have f17 := H.1
      replace H := H.2
      refine s_if_eq (tgt := 31) dX4_hasPlace_24 (by decide) f17 (fun c18 => ?_) (fun c18 => ?_)
      · replace H := H.1 c18
        refine s_iconst dX4_hasPlace_31 ?_
        exact s_zret dX4_hasPlace_32 rfl ⟨Nat.le_refl _, Nat.le_refl _⟩ (by decide) H
      · replace H := H.2 c18
        refine s_iconst dX4_hasPlace_27 ?_
        refine s_goto (tgt := 32) dX4_hasPlace_28 (by decide) ?_
        exact s_zret dX4_hasPlace_32 rfl ⟨Nat.le_refl _, Nat.le_refl _⟩ (by decide) H
set_option maxHeartbeats 4000000 in
set_option maxRecDepth 100000 in
theorem vX4_hasIndex_0 {l : Launch} {d : Nat} {G : GS} {h : HP} {Q : Int → GS → HP → Prop} (a0 a1 a2 : Int) (H : (inR a2) ∧ ((a2 < 0 → Q 0 G h) ∧ (0 ≤ a2 → (ty G a0 = 4) ∧ (inA G 10 (h a0 1) a1) ∧ (inR (h (h a0 1) a1)) ∧ (((h (h a0 1) a1) ≤ a2 → Q 0 G h) ∧ (a2 < (h (h a0 1) a1) → Q 1 G h))))) : S l MX4_hasIndex (d, 0, 0, 0, 0) 0 [some (vR a0), some (vI a1), some (vI a2)] [] G h Q := by
  refine s_iload_n dX4_hasIndex_0 rfl rfl ?_
  have f1 := H.1
  replace H := H.2
  refine s_if_lt (tgt := 18) dX4_hasIndex_1 (by decide) f1 (fun c2 => ?_) (fun c2 => ?_)
  · replace H := H.1 c2
    refine s_iconst dX4_hasIndex_18 ?_
    exact s_zret dX4_hasIndex_19 rfl ⟨Nat.le_refl _, Nat.le_refl _⟩ (by decide) H
  · replace H := H.2 c2
    refine s_iload_n dX4_hasIndex_4 rfl rfl ?_
    refine s_aload_n dX4_hasIndex_5 rfl rfl ?_
    have f3 := H.1
    replace H := H.2
    refine s_getf (c := 4) (k := 1) (t := 2) (j := 1) dX4_hasIndex_6 fl_X4_9 (by decide) (by decide) rfl rfl f3 ?_
    refine s_iload_n dX4_hasIndex_9 rfl rfl ?_
    have f4 := H.1
    replace H := H.2
    refine s_iald dX4_hasIndex_10 f4 ?_
    have f5 := H.1
    replace H := H.2
    refine s_icmp_ge (tgt := 18) dX4_hasIndex_11 (by decide) f1 f5 (fun c6 => ?_) (fun c6 => ?_)
    · replace H := H.1 c6
      refine s_iconst dX4_hasIndex_18 ?_
      exact s_zret dX4_hasIndex_19 rfl ⟨Nat.le_refl _, Nat.le_refl _⟩ (by decide) H
    · replace H := H.2 c6
      refine s_iconst dX4_hasIndex_14 ?_
      refine s_goto (tgt := 19) dX4_hasIndex_15 (by decide) ?_
      exact s_zret dX4_hasIndex_19 rfl ⟨Nat.le_refl _, Nat.le_refl _⟩ (by decide) H
set_option maxHeartbeats 4000000 in
set_option maxRecDepth 100000 in
theorem vX4_number_0 {l : Launch} {d : Nat} {G : GS} {h : HP} {Q : Int → GS → HP → Prop} (a0 a1 a2 a3 : Int) (H : (ty G a0 = 4) ∧ R l MX4_fiberAt d 0 0 [vR a0, vI a1, vI a2] G h (fun r2 G3 h4 => (ty G3 (h a0 0) = 1) ∧ R l MX1_number d 0 0 [vR (h a0 0), vI r2, vI a3] G3 h4 (fun r5 G6 h7 => Q r5 G6 h7))) : S l MX4_number (d + 1, 0, 0, 0, 0) 0 [some (vR a0), some (vI a1), some (vI a2), some (vI a3)] [] G h Q := by
  refine s_aload_n dX4_number_0 rfl rfl ?_
  have f1 := H.1
  replace H := H.2
  refine s_getf (c := 4) (k := 0) (t := 2) (j := 0) dX4_number_1 fl_X4_27 (by decide) (by decide) rfl rfl f1 ?_
  refine s_aload_n dX4_number_4 rfl rfl ?_
  refine s_iload_n dX4_number_5 rfl rfl ?_
  refine s_iload_n dX4_number_6 rfl rfl ?_
  refine s_callV (M' := MX4_fiberAt) (As := [vI a1, vI a2]) (a := a0) (st := [vR (h a0 0)]) dX4_number_7 ml_X4_60 cv_X4_fiberAt rfl rfl (Nat.le_of_ble_eq_true rfl) ⟨Nat.le_refl _, Nat.le_refl _⟩ f1 (R_mono (fun r2 G3 h4 H => ?_) H)
  show S l MX4_number (d + 1, 0, 0, 0, 0) 10 [some (vR a0), some (vI a1), some (vI a2), some (vI a3)] [vI r2, vR (h a0 0)] G3 h4 Q
  refine s_iload_n dX4_number_10 rfl rfl ?_
  have f8 := H.1
  replace H := H.2
  refine s_callV (M' := MX1_number) (As := [vI r2, vI a3]) (a := h a0 0) (st := []) dX4_number_11 ml_X4_64 cv_X1_number rfl rfl (Nat.le_of_ble_eq_true rfl) ⟨Nat.le_refl _, Nat.le_refl _⟩ f8 (R_mono (fun r5 G6 h7 H => ?_) H)
  show S l MX4_number (d + 1, 0, 0, 0, 0) 14 [some (vR a0), some (vI a1), some (vI a2), some (vI a3)] [vI r5] G6 h7 Q
  exact s_iret dX4_number_14 rfl ⟨Nat.le_refl _, Nat.le_refl _⟩ H
set_option maxHeartbeats 4000000 in
set_option maxRecDepth 100000 in
theorem vX4_filledPlaces_0 {l : Launch} {d : Nat} {G : GS} {h : HP} {Q : Int → GS → HP → Prop} (a0 : Int) (H : S l MX4_filledPlaces (d + 1, 0, 0, 0, 0) 4 [some (vR a0), some (vI 0), some (vI 0), none] [] G h Q) : S l MX4_filledPlaces (d + 1, 0, 0, 0, 0) 0 [some (vR a0), none, none, none] [] G h Q := by
  refine s_iconst dX4_filledPlaces_0 ?_
  refine s_istore_n dX4_filledPlaces_1 rfl (by decide) rfl ?_
  show S l MX4_filledPlaces (d + 1, 0, 0, 0, 0) 2 [some (vR a0), some (vI 0), none, none] [] G h Q
  refine s_iconst dX4_filledPlaces_2 ?_
  refine s_istore_n dX4_filledPlaces_3 rfl (by decide) rfl ?_
  show S l MX4_filledPlaces (d + 1, 0, 0, 0, 0) 4 [some (vR a0), some (vI 0), some (vI 0), none] [] G h Q
  exact S_cut (by first | exact ⟨rfl, ⟨rfl, ⟨rfl, trivial⟩⟩⟩ | simp [lsub]) H
set_option maxHeartbeats 4000000 in
set_option maxRecDepth 100000 in
theorem vX4_filledPlaces_4 {l : Launch} {d : Nat} {G : GS} {h : HP} {Q : Int → GS → HP → Prop} (a0 a1 a2 : Int) (H : (ty G a0 = 4) ∧ (inA G 10 (h a0 1) 0) ∧ (inR a2) ∧ (inR (h (h a0 1) 0)) ∧ (((h (h a0 1) 0) ≤ a2 → Q a1 G h) ∧ (a2 < (h (h a0 1) 0) → S l MX4_filledPlaces (d + 1, 0, 0, 0, 0) 16 [some (vR a0), some (vI a1), some (vI a2), some (vI 0)] [] G h Q))) : S l MX4_filledPlaces (d + 1, 0, 0, 0, 0) 4 [some (vR a0), some (vI a1), some (vI a2), none] [] G h Q := by
  refine s_iload_n dX4_filledPlaces_4 rfl rfl ?_
  refine s_aload_n dX4_filledPlaces_5 rfl rfl ?_
  have f1 := H.1
  replace H := H.2
  refine s_getf (c := 4) (k := 1) (t := 2) (j := 1) dX4_filledPlaces_6 fl_X4_9 (by decide) (by decide) rfl rfl f1 ?_
  refine s_iconst dX4_filledPlaces_9 ?_
  have f2 := H.1
  replace H := H.2
  refine s_iald dX4_filledPlaces_10 f2 ?_
  have f3 := H.1
  replace H := H.2
  have f4 := H.1
  replace H := H.2
  refine s_icmp_ge (tgt := 54) dX4_filledPlaces_11 (by decide) f3 f4 (fun c5 => ?_) (fun c5 => ?_)
  · replace H := H.1 c5
    refine s_iload_n dX4_filledPlaces_54 rfl rfl ?_
    exact s_iret dX4_filledPlaces_55 rfl ⟨Nat.le_refl _, Nat.le_refl _⟩ H
  · replace H := H.2 c5
    refine s_iconst dX4_filledPlaces_14 ?_
    refine s_istore_n dX4_filledPlaces_15 rfl (by decide) rfl ?_
    show S l MX4_filledPlaces (d + 1, 0, 0, 0, 0) 16 [some (vR a0), some (vI a1), some (vI a2), some (vI 0)] [] G h Q
    exact S_cut (by first | exact ⟨rfl, ⟨rfl, ⟨rfl, ⟨rfl, trivial⟩⟩⟩⟩ | simp [lsub]) H
set_option maxHeartbeats 4000000 in
set_option maxRecDepth 100000 in
theorem vX4_filledPlaces_16 {l : Launch} {d : Nat} {G : GS} {h : HP} {Q : Int → GS → HP → Prop} (a0 a1 a2 a3 : Int) (H : (ty G a0 = 4) ∧ (inA G 10 (h a0 1) 1) ∧ (inR a3) ∧ (inR (h (h a0 1) 1)) ∧ (((h (h a0 1) 1) ≤ a3 → S l MX4_filledPlaces (d + 1, 0, 0, 0, 0) 4 [some (vR a0), some (vI a1), some (vI (a2 + 1)), none] [] G h Q) ∧ (a3 < (h (h a0 1) 1) → R l MX4_fiberAt d 0 0 [vR a0, vI a2, vI a3] G h (fun r6 G7 h8 => (ty G7 (h a0 0) = 1) ∧ R l MX1_filled d 0 0 [vR (h a0 0), vI r6] G7 h8 (fun r9 G10 h11 => S l MX4_filledPlaces (d + 1, 0, 0, 0, 0) 16 [some (vR a0), some (vI (a1 + r9)), some (vI a2), some (vI (a3 + 1))] [] G10 h11 Q))))) : S l MX4_filledPlaces (d + 1, 0, 0, 0, 0) 16 [some (vR a0), some (vI a1), some (vI a2), some (vI a3)] [] G h Q := by
  refine s_iload_n dX4_filledPlaces_16 rfl rfl ?_
  refine s_aload_n dX4_filledPlaces_17 rfl rfl ?_
  have f1 := H.1
  replace H := H.2
  refine s_getf (c := 4) (k := 1) (t := 2) (j := 1) dX4_filledPlaces_18 fl_X4_9 (by decide) (by decide) rfl rfl f1 ?_
  refine s_iconst dX4_filledPlaces_21 ?_
  have f2 := H.1
  replace H := H.2
  refine s_iald dX4_filledPlaces_22 f2 ?_
  have f3 := H.1
  replace H := H.2
  have f4 := H.1
  replace H := H.2
  refine s_icmp_ge (tgt := 48) dX4_filledPlaces_23 (by decide) f3 f4 (fun c5 => ?_) (fun c5 => ?_)
  · replace H := H.1 c5
    refine s_iinc dX4_filledPlaces_48 rfl (by decide) rfl ?_
    show S l MX4_filledPlaces (d + 1, 0, 0, 0, 0) 51 [some (vR a0), some (vI a1), some (vI (a2 + 1)), some (vI a3)] [] G h Q
    refine s_goto (tgt := 4) dX4_filledPlaces_51 (by decide) ?_
    exact S_cut (by first | exact ⟨rfl, ⟨rfl, ⟨rfl, trivial⟩⟩⟩ | simp [lsub]) H
  · replace H := H.2 c5
    refine s_iload_n dX4_filledPlaces_26 rfl rfl ?_
    refine s_aload_n dX4_filledPlaces_27 rfl rfl ?_
    refine s_getf (c := 4) (k := 0) (t := 2) (j := 0) dX4_filledPlaces_28 fl_X4_27 (by decide) (by decide) rfl rfl f1 ?_
    refine s_aload_n dX4_filledPlaces_31 rfl rfl ?_
    refine s_iload_n dX4_filledPlaces_32 rfl rfl ?_
    refine s_iload_n dX4_filledPlaces_33 rfl rfl ?_
    refine s_callV (M' := MX4_fiberAt) (As := [vI a2, vI a3]) (a := a0) (st := [vR (h a0 0), vI a1]) dX4_filledPlaces_34 ml_X4_60 cv_X4_fiberAt rfl rfl (Nat.le_of_ble_eq_true rfl) ⟨Nat.le_refl _, Nat.le_refl _⟩ f1 (R_mono (fun r6 G7 h8 H => ?_) H)
    show S l MX4_filledPlaces (d + 1, 0, 0, 0, 0) 37 [some (vR a0), some (vI a1), some (vI a2), some (vI a3)] [vI r6, vR (h a0 0), vI a1] G7 h8 Q
    have f12 := H.1
    replace H := H.2
    refine s_callV (M' := MX1_filled) (As := [vI r6]) (a := h a0 0) (st := [vI a1]) dX4_filledPlaces_37 ml_X4_74 cv_X1_filled rfl rfl (Nat.le_of_ble_eq_true rfl) ⟨Nat.le_refl _, Nat.le_refl _⟩ f12 (R_mono (fun r9 G10 h11 H => ?_) H)
    show S l MX4_filledPlaces (d + 1, 0, 0, 0, 0) 40 [some (vR a0), some (vI a1), some (vI a2), some (vI a3)] [vI r9, vI a1] G10 h11 Q
    refine s_iadd dX4_filledPlaces_40 ?_
    refine s_istore_n dX4_filledPlaces_41 rfl (by decide) rfl ?_
    show S l MX4_filledPlaces (d + 1, 0, 0, 0, 0) 42 [some (vR a0), some (vI (a1 + r9)), some (vI a2), some (vI a3)] [] G10 h11 Q
    refine s_iinc dX4_filledPlaces_42 rfl (by decide) rfl ?_
    show S l MX4_filledPlaces (d + 1, 0, 0, 0, 0) 45 [some (vR a0), some (vI (a1 + r9)), some (vI a2), some (vI (a3 + 1))] [] G10 h11 Q
    refine s_goto (tgt := 16) dX4_filledPlaces_45 (by decide) ?_
    exact S_cut (by first | exact ⟨rfl, ⟨rfl, ⟨rfl, ⟨rfl, trivial⟩⟩⟩⟩ | simp [lsub]) H
set_option maxHeartbeats 4000000 in
set_option maxRecDepth 100000 in
theorem vX4_matesOf_0 {l : Launch} {d : Nat} {G : GS} {h : HP} {Q : Int → GS → HP → Prop} (a0 a1 a2 : Int) (H : (ty G a0 = 4) ∧ (inA G 10 (h a0 5) ((40 * a1) + a2)) ∧ Q (h (h a0 5) ((40 * a1) + a2)) G h) : S l MX4_matesOf (d, 0, 0, 0, 0) 0 [some (vR a0), some (vI a1), some (vI a2)] [] G h Q := by
  refine s_aload_n dX4_matesOf_0 rfl rfl ?_
  have f1 := H.1
  replace H := H.2
  refine s_getf (c := 4) (k := 5) (t := 2) (j := 5) dX4_matesOf_1 fl_X4_24 (by decide) (by decide) rfl rfl f1 ?_
  refine s_bipush dX4_matesOf_4 (by decide) ?_
  refine s_iload_n dX4_matesOf_6 rfl rfl ?_
  refine s_imul dX4_matesOf_7 ?_
  refine s_iload_n dX4_matesOf_8 rfl rfl ?_
  refine s_iadd dX4_matesOf_9 ?_
  have f2 := H.1
  replace H := H.2
  refine s_iald dX4_matesOf_10 f2 ?_
  exact s_iret dX4_matesOf_11 rfl ⟨Nat.le_refl _, Nat.le_refl _⟩ H
set_option maxHeartbeats 4000000 in
set_option maxRecDepth 100000 in
theorem vX4_fits_0 {l : Launch} {d : Nat} {G : GS} {h : HP} {Q : Int → GS → HP → Prop} (a0 a1 a2 : Int) (H : (inR a2) ∧ ((a2 < 0 → Q 0 G h) ∧ (0 ≤ a2 → (ty G a0 = 4) ∧ (ty G (h a0 0) = 1) ∧ (inA G 10 (h a0 1) a1) ∧ (inA G 10 (h (h a0 0) 1) (h (h a0 1) a1)) ∧ (inR (h (h (h a0 0) 1) (h (h a0 1) a1))) ∧ (((h (h (h a0 0) 1) (h (h a0 1) a1)) ≤ a2 → Q 0 G h) ∧ (a2 < (h (h (h a0 0) 1) (h (h a0 1) a1)) → Q 1 G h))))) : S l MX4_fits (d, 0, 0, 0, 0) 0 [some (vR a0), some (vI a1), some (vI a2)] [] G h Q := by
  refine s_iload_n dX4_fits_0 rfl rfl ?_
  have f1 := H.1
  replace H := H.2
  refine s_if_lt (tgt := 26) dX4_fits_1 (by decide) f1 (fun c2 => ?_) (fun c2 => ?_)
  · replace H := H.1 c2
    refine s_iconst dX4_fits_26 ?_
    exact s_zret dX4_fits_27 rfl ⟨Nat.le_refl _, Nat.le_refl _⟩ (by decide) H
  · replace H := H.2 c2
    refine s_iload_n dX4_fits_4 rfl rfl ?_
    refine s_aload_n dX4_fits_5 rfl rfl ?_
    have f3 := H.1
    replace H := H.2
    refine s_getf (c := 4) (k := 0) (t := 2) (j := 0) dX4_fits_6 fl_X4_27 (by decide) (by decide) rfl rfl f3 ?_
    have f4 := H.1
    replace H := H.2
    refine s_getf (c := 1) (k := 1) (t := 2) (j := 1) dX4_fits_9 fl_X4_55 (by decide) (by decide) rfl rfl f4 ?_
    refine s_aload_n dX4_fits_12 rfl rfl ?_
    refine s_getf (c := 4) (k := 1) (t := 2) (j := 1) dX4_fits_13 fl_X4_9 (by decide) (by decide) rfl rfl f3 ?_
    refine s_iload_n dX4_fits_16 rfl rfl ?_
    have f5 := H.1
    replace H := H.2
    refine s_iald dX4_fits_17 f5 ?_
    have f6 := H.1
    replace H := H.2
    refine s_iald dX4_fits_18 f6 ?_
    have f7 := H.1
    replace H := H.2
    refine s_icmp_ge (tgt := 26) dX4_fits_19 (by decide) f1 f7 (fun c8 => ?_) (fun c8 => ?_)
    · replace H := H.1 c8
      refine s_iconst dX4_fits_26 ?_
      exact s_zret dX4_fits_27 rfl ⟨Nat.le_refl _, Nat.le_refl _⟩ (by decide) H
    · replace H := H.2 c8
      refine s_iconst dX4_fits_22 ?_
      refine s_goto (tgt := 27) dX4_fits_23 (by decide) ?_
      exact s_zret dX4_fits_27 rfl ⟨Nat.le_refl _, Nat.le_refl _⟩ (by decide) H
set_option maxHeartbeats 4000000 in
set_option maxRecDepth 100000 in
theorem vX4_append_0 {l : Launch} {d : Nat} {G : GS} {h : HP} {Q : Int → GS → HP → Prop} (a0 a1 a2 a3 : Int) (H : S l MX4_append (d + 1, 0, 0, 0, 0) 3 [some (vR a0), some (vI a1), some (vI a2), some (vI a3), some (vI 0)] [] G h Q) : S l MX4_append (d + 1, 0, 0, 0, 0) 0 [some (vR a0), some (vI a1), some (vI a2), some (vI a3), none] [] G h Q := by
  refine s_iconst dX4_append_0 ?_
  refine s_istore dX4_append_1 (by decide) rfl ?_
  show S l MX4_append (d + 1, 0, 0, 0, 0) 3 [some (vR a0), some (vI a1), some (vI a2), some (vI a3), some (vI 0)] [] G h Q
  exact S_cut (by first | exact ⟨rfl, ⟨rfl, ⟨rfl, ⟨rfl, ⟨rfl, trivial⟩⟩⟩⟩⟩ | simp [lsub]) H
set_option maxHeartbeats 4000000 in
set_option maxRecDepth 100000 in
theorem vX4_append_3 {l : Launch} {d : Nat} {G : GS} {h : HP} {Q : Int → GS → HP → Prop} (a0 a1 a2 a3 a4 : Int) (H : (inR a4) ∧ ((3 ≤ a4 → (ty G a0 = 4) ∧ ∀ h4 : HP, h4 = hset h a0 6 ((h a0 6) + 1) → R l MX4_put d 0 0 [vR a0, vI 0, vI ((h4 a0 6) - 1), vI a1] G h4 (fun r5 G6 h7 => (ty G6 a0 = 4) ∧ R l MX4_put d 0 0 [vR a0, vI 1, vI ((h7 a0 6) - 1), vI a2] G6 h7 (fun r9 G10 h11 => (ty G10 a0 = 4) ∧ R l MX4_put d 0 0 [vR a0, vI 2, vI ((h11 a0 6) - 1), vI a3] G10 h11 (fun r13 G14 h15 => Q 0 G14 h15)))) ∧ (a4 < 3 → (ty G a0 = 4) ∧ (inA G 10 (h a0 4) ((40 * a4) + (h a0 6))) ∧ ∀ h18 : HP, h18 = hset h (h a0 4) ((40 * a4) + (h a0 6)) 0 → (inA G 10 (h18 a0 5) ((40 * a4) + (h18 a0 6))) ∧ ∀ h20 : HP, h20 = hset h18 (h18 a0 5) ((40 * a4) + (h18 a0 6)) 0 → S l MX4_append (d + 1, 0, 0, 0, 0) 3 [some (vR a0), some (vI a1), some (vI a2), some (vI a3), some (vI (a4 + 1))] [] G h20 Q))) : S l MX4_append (d + 1, 0, 0, 0, 0) 3 [some (vR a0), some (vI a1), some (vI a2), some (vI a3), some (vI a4)] [] G h Q := by
  refine s_iload dX4_append_3 rfl ?_
  refine s_iconst dX4_append_5 ?_
  have f1 := H.1
  replace H := H.2
  refine s_icmp_ge (tgt := 47) dX4_append_6 (by decide) f1 (by decide) (fun c2 => ?_) (fun c2 => ?_)
  · replace H := H.1 c2
    refine s_aload_n dX4_append_47 rfl rfl ?_
    refine s_dup dX4_append_48 rfl ?_
    have f3 := H.1
    replace H := H.2
    refine s_getf (c := 4) (k := 6) (t := 0) (j := 6) dX4_append_49 fl_X4_41 (by decide) (by decide) rfl rfl f3 ?_
    refine s_iconst dX4_append_52 ?_
    refine s_iadd dX4_append_53 ?_
    refine s_putI (c := 4) (k := 6) (j := 6) dX4_append_54 fl_X4_41 (by decide) (by decide) rfl rfl rfl f3 (fun h4 eh4 => ?_)
    replace H := H h4 eh4
    refine s_aload_n dX4_append_57 rfl rfl ?_
    refine s_iconst dX4_append_58 ?_
    refine s_aload_n dX4_append_59 rfl rfl ?_
    refine s_getf (c := 4) (k := 6) (t := 0) (j := 6) dX4_append_60 fl_X4_41 (by decide) (by decide) rfl rfl f3 ?_
    refine s_iconst dX4_append_63 ?_
    refine s_isub dX4_append_64 ?_
    refine s_iload_n dX4_append_65 rfl rfl ?_
    refine s_callV (M' := MX4_put) (As := [vI 0, vI ((h4 a0 6) - 1), vI a1]) (a := a0) (st := []) dX4_append_66 ml_X4_85 cv_X4_put rfl rfl (Nat.le_of_ble_eq_true rfl) ⟨Nat.le_refl _, Nat.le_refl _⟩ f3 (R_mono (fun r5 G6 h7 H => ?_) H)
    show S l MX4_append (d + 1, 0, 0, 0, 0) 69 [some (vR a0), some (vI a1), some (vI a2), some (vI a3), some (vI a4)] [] G6 h7 Q
    refine s_aload_n dX4_append_69 rfl rfl ?_
    refine s_iconst dX4_append_70 ?_
    refine s_aload_n dX4_append_71 rfl rfl ?_
    have f8 := H.1
    replace H := H.2
    refine s_getf (c := 4) (k := 6) (t := 0) (j := 6) dX4_append_72 fl_X4_41 (by decide) (by decide) rfl rfl f8 ?_
    refine s_iconst dX4_append_75 ?_
    refine s_isub dX4_append_76 ?_
    refine s_iload_n dX4_append_77 rfl rfl ?_
    refine s_callV (M' := MX4_put) (As := [vI 1, vI ((h7 a0 6) - 1), vI a2]) (a := a0) (st := []) dX4_append_78 ml_X4_85 cv_X4_put rfl rfl (Nat.le_of_ble_eq_true rfl) ⟨Nat.le_refl _, Nat.le_refl _⟩ f8 (R_mono (fun r9 G10 h11 H => ?_) H)
    show S l MX4_append (d + 1, 0, 0, 0, 0) 81 [some (vR a0), some (vI a1), some (vI a2), some (vI a3), some (vI a4)] [] G10 h11 Q
    refine s_aload_n dX4_append_81 rfl rfl ?_
    refine s_iconst dX4_append_82 ?_
    refine s_aload_n dX4_append_83 rfl rfl ?_
    have f12 := H.1
    replace H := H.2
    refine s_getf (c := 4) (k := 6) (t := 0) (j := 6) dX4_append_84 fl_X4_41 (by decide) (by decide) rfl rfl f12 ?_
    refine s_iconst dX4_append_87 ?_
    refine s_isub dX4_append_88 ?_
    refine s_iload_n dX4_append_89 rfl rfl ?_
    refine s_callV (M' := MX4_put) (As := [vI 2, vI ((h11 a0 6) - 1), vI a3]) (a := a0) (st := []) dX4_append_90 ml_X4_85 cv_X4_put rfl rfl (Nat.le_of_ble_eq_true rfl) ⟨Nat.le_refl _, Nat.le_refl _⟩ f12 (R_mono (fun r13 G14 h15 H => ?_) H)
    show S l MX4_append (d + 1, 0, 0, 0, 0) 93 [some (vR a0), some (vI a1), some (vI a2), some (vI a3), some (vI a4)] [] G14 h15 Q
    exact s_vret dX4_append_93 rfl ⟨Nat.le_refl _, Nat.le_refl _⟩ H
  · replace H := H.2 c2
    refine s_aload_n dX4_append_9 rfl rfl ?_
    have f16 := H.1
    replace H := H.2
    refine s_getf (c := 4) (k := 4) (t := 2) (j := 4) dX4_append_10 fl_X4_21 (by decide) (by decide) rfl rfl f16 ?_
    refine s_bipush dX4_append_13 (by decide) ?_
    refine s_iload dX4_append_15 rfl ?_
    refine s_imul dX4_append_17 ?_
    refine s_aload_n dX4_append_18 rfl rfl ?_
    refine s_getf (c := 4) (k := 6) (t := 0) (j := 6) dX4_append_19 fl_X4_41 (by decide) (by decide) rfl rfl f16 ?_
    refine s_iadd dX4_append_22 ?_
    refine s_iconst dX4_append_23 ?_
    have f17 := H.1
    replace H := H.2
    refine s_iastH dX4_append_24 f17 (fun h18 eh18 => ?_)
    replace H := H h18 eh18
    refine s_aload_n dX4_append_25 rfl rfl ?_
    refine s_getf (c := 4) (k := 5) (t := 2) (j := 5) dX4_append_26 fl_X4_24 (by decide) (by decide) rfl rfl f16 ?_
    refine s_bipush dX4_append_29 (by decide) ?_
    refine s_iload dX4_append_31 rfl ?_
    refine s_imul dX4_append_33 ?_
    refine s_aload_n dX4_append_34 rfl rfl ?_
    refine s_getf (c := 4) (k := 6) (t := 0) (j := 6) dX4_append_35 fl_X4_41 (by decide) (by decide) rfl rfl f16 ?_
    refine s_iadd dX4_append_38 ?_
    refine s_iconst dX4_append_39 ?_
    have f19 := H.1
    replace H := H.2
    refine s_iastH dX4_append_40 f19 (fun h20 eh20 => ?_)
    replace H := H h20 eh20
    refine s_iinc dX4_append_41 rfl (by decide) rfl ?_
    show S l MX4_append (d + 1, 0, 0, 0, 0) 44 [some (vR a0), some (vI a1), some (vI a2), some (vI a3), some (vI (a4 + 1))] [] G h20 Q
    refine s_goto (tgt := 3) dX4_append_44 (by decide) ?_
    exact S_cut (by first | exact ⟨rfl, ⟨rfl, ⟨rfl, ⟨rfl, ⟨rfl, trivial⟩⟩⟩⟩⟩ | simp [lsub]) H
set_option maxHeartbeats 4000000 in
set_option maxRecDepth 100000 in
theorem vX4_put_0 {l : Launch} {d : Nat} {G : GS} {h : HP} {Q : Int → GS → HP → Prop} (a0 a1 a2 a3 : Int) (H : (ty G a0 = 4) ∧ R l MX4_countMates d 0 0 [vR a0, vI a1, vI a2, vI ((-1))] G h (fun r1 G2 h3 => (ty G2 a0 = 4) ∧ (inA G2 10 (h3 a0 3) ((40 * a1) + a2)) ∧ ∀ h7 : HP, h7 = hset h3 (h3 a0 3) ((40 * a1) + a2) a3 → (ty G2 (h7 a0 0) = 1) ∧ R l MX1_shape d 0 0 [vR (h7 a0 0), vI a3] G2 h7 (fun r8 G9 h10 => (inA G9 10 (h7 a0 4) ((40 * a1) + a2)) ∧ ∀ h13 : HP, h13 = hset h10 (h7 a0 4) ((40 * a1) + a2) r8 → (ty G9 a0 = 4) ∧ R l MX4_countMates d 0 0 [vR a0, vI a1, vI a2, vI 1] G9 h13 (fun r14 G15 h16 => Q 0 G15 h16)))) : S l MX4_put (d + 1, 0, 0, 0, 0) 0 [some (vR a0), some (vI a1), some (vI a2), some (vI a3), none] [] G h Q := by
  refine s_bipush dX4_put_0 (by decide) ?_
  refine s_iload_n dX4_put_2 rfl rfl ?_
  refine s_imul dX4_put_3 ?_
  refine s_iload_n dX4_put_4 rfl rfl ?_
  refine s_iadd dX4_put_5 ?_
  refine s_istore dX4_put_6 (by decide) rfl ?_
  show S l MX4_put (d + 1, 0, 0, 0, 0) 8 [some (vR a0), some (vI a1), some (vI a2), some (vI a3), some (vI ((40 * a1) + a2))] [] G h Q
  refine s_aload_n dX4_put_8 rfl rfl ?_
  refine s_iload_n dX4_put_9 rfl rfl ?_
  refine s_iload_n dX4_put_10 rfl rfl ?_
  refine s_iconst dX4_put_11 ?_
  have f4 := H.1
  replace H := H.2
  refine s_callV (M' := MX4_countMates) (As := [vI a1, vI a2, vI ((-1))]) (a := a0) (st := []) dX4_put_12 ml_X4_80 cv_X4_countMates rfl rfl (Nat.le_of_ble_eq_true rfl) ⟨Nat.le_refl _, Nat.le_refl _⟩ f4 (R_mono (fun r1 G2 h3 H => ?_) H)
  show S l MX4_put (d + 1, 0, 0, 0, 0) 15 [some (vR a0), some (vI a1), some (vI a2), some (vI a3), some (vI ((40 * a1) + a2))] [] G2 h3 Q
  refine s_aload_n dX4_put_15 rfl rfl ?_
  have f5 := H.1
  replace H := H.2
  refine s_getf (c := 4) (k := 3) (t := 2) (j := 3) dX4_put_16 fl_X4_18 (by decide) (by decide) rfl rfl f5 ?_
  refine s_iload dX4_put_19 rfl ?_
  refine s_iload_n dX4_put_21 rfl rfl ?_
  have f6 := H.1
  replace H := H.2
  refine s_iastH dX4_put_22 f6 (fun h7 eh7 => ?_)
  replace H := H h7 eh7
  refine s_aload_n dX4_put_23 rfl rfl ?_
  refine s_getf (c := 4) (k := 4) (t := 2) (j := 4) dX4_put_24 fl_X4_21 (by decide) (by decide) rfl rfl f5 ?_
  refine s_iload dX4_put_27 rfl ?_
  refine s_aload_n dX4_put_29 rfl rfl ?_
  refine s_getf (c := 4) (k := 0) (t := 2) (j := 0) dX4_put_30 fl_X4_27 (by decide) (by decide) rfl rfl f5 ?_
  refine s_iload_n dX4_put_33 rfl rfl ?_
  have f11 := H.1
  replace H := H.2
  refine s_callV (M' := MX1_shape) (As := [vI a3]) (a := h7 a0 0) (st := [vI ((40 * a1) + a2), vR (h7 a0 4)]) dX4_put_34 ml_X4_83 cv_X1_shape rfl rfl (Nat.le_of_ble_eq_true rfl) ⟨Nat.le_refl _, Nat.le_refl _⟩ f11 (R_mono (fun r8 G9 h10 H => ?_) H)
  show S l MX4_put (d + 1, 0, 0, 0, 0) 37 [some (vR a0), some (vI a1), some (vI a2), some (vI a3), some (vI ((40 * a1) + a2))] [vI r8, vI ((40 * a1) + a2), vR (h7 a0 4)] G9 h10 Q
  have f12 := H.1
  replace H := H.2
  refine s_iastH dX4_put_37 f12 (fun h13 eh13 => ?_)
  replace H := H h13 eh13
  refine s_aload_n dX4_put_38 rfl rfl ?_
  refine s_iload_n dX4_put_39 rfl rfl ?_
  refine s_iload_n dX4_put_40 rfl rfl ?_
  refine s_iconst dX4_put_41 ?_
  have f17 := H.1
  replace H := H.2
  refine s_callV (M' := MX4_countMates) (As := [vI a1, vI a2, vI 1]) (a := a0) (st := []) dX4_put_42 ml_X4_80 cv_X4_countMates rfl rfl (Nat.le_of_ble_eq_true rfl) ⟨Nat.le_refl _, Nat.le_refl _⟩ f17 (R_mono (fun r14 G15 h16 H => ?_) H)
  show S l MX4_put (d + 1, 0, 0, 0, 0) 45 [some (vR a0), some (vI a1), some (vI a2), some (vI a3), some (vI ((40 * a1) + a2))] [] G15 h16 Q
  exact s_vret dX4_put_45 rfl ⟨Nat.le_refl _, Nat.le_refl _⟩ H
set_option maxHeartbeats 4000000 in
set_option maxRecDepth 100000 in
theorem vX4_countMates_0 {l : Launch} {d : Nat} {G : GS} {h : HP} {Q : Int → GS → HP → Prop} (a0 a1 a2 a3 : Int) (H : (ty G a0 = 4) ∧ (inA G 10 (h a0 4) ((40 * a1) + a2)) ∧ (inR (h (h a0 4) ((40 * a1) + a2))) ∧ (((h (h a0 4) ((40 * a1) + a2)) ≠ 0 → S l MX4_countMates (d, 0, 0, 0, 0) 27 [some (vR a0), none, some (vI a2), some (vI a3), some (vI (40 * a1)), some (vI (h (h a0 4) ((40 * a1) + a2))), some (vI (40 * a1))] [] G h Q) ∧ ((h (h a0 4) ((40 * a1) + a2)) = 0 → Q 0 G h))) : S l MX4_countMates (d, 0, 0, 0, 0) 0 [some (vR a0), some (vI a1), some (vI a2), some (vI a3), none, none, none] [] G h Q := by
  refine s_bipush dX4_countMates_0 (by decide) ?_
  refine s_iload_n dX4_countMates_2 rfl rfl ?_
  refine s_imul dX4_countMates_3 ?_
  refine s_istore dX4_countMates_4 (by decide) rfl ?_
  show S l MX4_countMates (d, 0, 0, 0, 0) 6 [some (vR a0), some (vI a1), some (vI a2), some (vI a3), some (vI (40 * a1)), none, none] [] G h Q
  refine s_aload_n dX4_countMates_6 rfl rfl ?_
  have f1 := H.1
  replace H := H.2
  refine s_getf (c := 4) (k := 4) (t := 2) (j := 4) dX4_countMates_7 fl_X4_21 (by decide) (by decide) rfl rfl f1 ?_
  refine s_iload dX4_countMates_10 rfl ?_
  refine s_iload_n dX4_countMates_12 rfl rfl ?_
  refine s_iadd dX4_countMates_13 ?_
  have f2 := H.1
  replace H := H.2
  refine s_iald dX4_countMates_14 f2 ?_
  refine s_istore dX4_countMates_15 (by decide) rfl ?_
  show S l MX4_countMates (d, 0, 0, 0, 0) 17 [some (vR a0), some (vI a1), some (vI a2), some (vI a3), some (vI (40 * a1)), some (vI (h (h a0 4) ((40 * a1) + a2))), none] [] G h Q
  refine s_iload dX4_countMates_17 rfl ?_
  have f3 := H.1
  replace H := H.2
  refine s_if_ne (tgt := 23) dX4_countMates_19 (by decide) f3 (fun c4 => ?_) (fun c4 => ?_)
  · replace H := H.1 c4
    refine s_iload dX4_countMates_23 rfl ?_
    refine s_istore dX4_countMates_25 (by decide) rfl ?_
    show S l MX4_countMates (d, 0, 0, 0, 0) 27 [some (vR a0), some (vI a1), some (vI a2), some (vI a3), some (vI (40 * a1)), some (vI (h (h a0 4) ((40 * a1) + a2))), some (vI (40 * a1))] [] G h Q
    exact S_cut (by first | exact ⟨rfl, ⟨rfl, ⟨rfl, ⟨rfl, ⟨rfl, ⟨rfl, trivial⟩⟩⟩⟩⟩⟩ | simp [lsub]) H
  · replace H := H.2 c4
    exact s_vret dX4_countMates_22 rfl ⟨Nat.le_refl _, Nat.le_refl _⟩ H
set_option maxHeartbeats 4000000 in
set_option maxRecDepth 100000 in
theorem vX4_countMates_27 {l : Launch} {d : Nat} {G : GS} {h : HP} {Q : Int → GS → HP → Prop} (a0 a2 a3 a4 a5 a6 : Int) (H : (ty G a0 = 4) ∧ (inR a6) ∧ (inR (a4 + (h a0 6))) ∧ (((a4 + (h a0 6)) ≤ a6 → Q 0 G h) ∧ (a6 < (a4 + (h a0 6)) → (inA G 10 (h a0 4) a6) ∧ (inR (h (h a0 4) a6)) ∧ (inR a5) ∧ (((h (h a0 4) a6) ≠ a5 → S l MX4_countMates (d, 0, 0, 0, 0) 27 [some (vR a0), none, some (vI a2), some (vI a3), some (vI a4), some (vI a5), some (vI (a6 + 1))] [] G h Q) ∧ ((h (h a0 4) a6) = a5 → (inR (a4 + a2)) ∧ ((a6 = (a4 + a2) → S l MX4_countMates (d, 0, 0, 0, 0) 27 [some (vR a0), none, some (vI a2), some (vI a3), some (vI a4), some (vI a5), some (vI (a6 + 1))] [] G h Q) ∧ (a6 ≠ (a4 + a2) → (inA G 10 (h a0 5) a6) ∧ ∀ h12 : HP, h12 = hset h (h a0 5) a6 ((h (h a0 5) a6) + a3) → (inA G 10 (h12 a0 5) (a4 + a2)) ∧ ∀ h14 : HP, h14 = hset h12 (h12 a0 5) (a4 + a2) ((h12 (h12 a0 5) (a4 + a2)) + a3) → S l MX4_countMates (d, 0, 0, 0, 0) 27 [some (vR a0), none, some (vI a2), some (vI a3), some (vI a4), some (vI a5), some (vI (a6 + 1))] [] G h14 Q))))))) : S l MX4_countMates (d, 0, 0, 0, 0) 27 [some (vR a0), none, some (vI a2), some (vI a3), some (vI a4), some (vI a5), some (vI a6)] [] G h Q := by
  refine s_iload dX4_countMates_27 rfl ?_
  refine s_iload dX4_countMates_29 rfl ?_
  refine s_aload_n dX4_countMates_31 rfl rfl ?_
  have f1 := H.1
  replace H := H.2
  refine s_getf (c := 4) (k := 6) (t := 0) (j := 6) dX4_countMates_32 fl_X4_41 (by decide) (by decide) rfl rfl f1 ?_
  refine s_iadd dX4_countMates_35 ?_
  have f2 := H.1
  replace H := H.2
  have f3 := H.1
  replace H := H.2
  refine s_icmp_ge (tgt := 90) dX4_countMates_36 (by decide) f2 f3 (fun c4 => ?_) (fun c4 => ?_)
  · replace H := H.1 c4
    exact s_vret dX4_countMates_90 rfl ⟨Nat.le_refl _, Nat.le_refl _⟩ H
  · replace H := H.2 c4
    refine s_aload_n dX4_countMates_39 rfl rfl ?_
    refine s_getf (c := 4) (k := 4) (t := 2) (j := 4) dX4_countMates_40 fl_X4_21 (by decide) (by decide) rfl rfl f1 ?_
    refine s_iload dX4_countMates_43 rfl ?_
    have f5 := H.1
    replace H := H.2
    refine s_iald dX4_countMates_45 f5 ?_
    refine s_iload dX4_countMates_46 rfl ?_
    have f6 := H.1
    replace H := H.2
    have f7 := H.1
    replace H := H.2
    refine s_icmp_ne (tgt := 84) dX4_countMates_48 (by decide) f6 f7 (fun c8 => ?_) (fun c8 => ?_)
    · replace H := H.1 c8
      refine s_iinc dX4_countMates_84 rfl (by decide) rfl ?_
      show S l MX4_countMates (d, 0, 0, 0, 0) 87 [some (vR a0), none, some (vI a2), some (vI a3), some (vI a4), some (vI a5), some (vI (a6 + 1))] [] G h Q
      refine s_goto (tgt := 27) dX4_countMates_87 (by decide) ?_
      exact S_cut (by first | exact ⟨rfl, ⟨rfl, ⟨rfl, ⟨rfl, ⟨rfl, ⟨rfl, trivial⟩⟩⟩⟩⟩⟩ | simp [lsub]) H
    · replace H := H.2 c8
      refine s_iload dX4_countMates_51 rfl ?_
      refine s_iload dX4_countMates_53 rfl ?_
      refine s_iload_n dX4_countMates_55 rfl rfl ?_
      refine s_iadd dX4_countMates_56 ?_
      have f9 := H.1
      replace H := H.2
      refine s_icmp_eq (tgt := 84) dX4_countMates_57 (by decide) f2 f9 (fun c10 => ?_) (fun c10 => ?_)
      · replace H := H.1 c10
        refine s_iinc dX4_countMates_84 rfl (by decide) rfl ?_
        show S l MX4_countMates (d, 0, 0, 0, 0) 87 [some (vR a0), none, some (vI a2), some (vI a3), some (vI a4), some (vI a5), some (vI (a6 + 1))] [] G h Q
        refine s_goto (tgt := 27) dX4_countMates_87 (by decide) ?_
        exact S_cut (by first | exact ⟨rfl, ⟨rfl, ⟨rfl, ⟨rfl, ⟨rfl, ⟨rfl, trivial⟩⟩⟩⟩⟩⟩ | simp [lsub]) H
      · replace H := H.2 c10
        refine s_aload_n dX4_countMates_60 rfl rfl ?_
        refine s_getf (c := 4) (k := 5) (t := 2) (j := 5) dX4_countMates_61 fl_X4_24 (by decide) (by decide) rfl rfl f1 ?_
        refine s_iload dX4_countMates_64 rfl ?_
        refine s_dup2 dX4_countMates_66 rfl rfl ?_
        have f11 := H.1
        replace H := H.2
        refine s_iald dX4_countMates_67 f11 ?_
        refine s_iload_n dX4_countMates_68 rfl rfl ?_
        refine s_iadd dX4_countMates_69 ?_
        refine s_iastH dX4_countMates_70 f11 (fun h12 eh12 => ?_)
        replace H := H h12 eh12
        refine s_aload_n dX4_countMates_71 rfl rfl ?_
        refine s_getf (c := 4) (k := 5) (t := 2) (j := 5) dX4_countMates_72 fl_X4_24 (by decide) (by decide) rfl rfl f1 ?_
        refine s_iload dX4_countMates_75 rfl ?_
        refine s_iload_n dX4_countMates_77 rfl rfl ?_
        refine s_iadd dX4_countMates_78 ?_
        refine s_dup2 dX4_countMates_79 rfl rfl ?_
        have f13 := H.1
        replace H := H.2
        refine s_iald dX4_countMates_80 f13 ?_
        refine s_iload_n dX4_countMates_81 rfl rfl ?_
        refine s_iadd dX4_countMates_82 ?_
        refine s_iastH dX4_countMates_83 f13 (fun h14 eh14 => ?_)
        replace H := H h14 eh14
        refine s_iinc dX4_countMates_84 rfl (by decide) rfl ?_
        show S l MX4_countMates (d, 0, 0, 0, 0) 87 [some (vR a0), none, some (vI a2), some (vI a3), some (vI a4), some (vI a5), some (vI (a6 + 1))] [] G h14 Q
        refine s_goto (tgt := 27) dX4_countMates_87 (by decide) ?_
        exact S_cut (by first | exact ⟨rfl, ⟨rfl, ⟨rfl, ⟨rfl, ⟨rfl, ⟨rfl, trivial⟩⟩⟩⟩⟩⟩ | simp [lsub]) H
set_option maxHeartbeats 4000000 in
set_option maxRecDepth 100000 in
theorem vX4_hasTime_0 {l : Launch} {d : Nat} {G : GS} {h : HP} {Q : Int → GS → HP → Prop} (a0 a1 : Int) (H : (inR a1) ∧ ((a1 < 0 → Q 0 G h) ∧ (0 ≤ a1 → (ty G a0 = 4) ∧ (inR (h a0 6)) ∧ (((h a0 6) ≤ a1 → Q 0 G h) ∧ (a1 < (h a0 6) → Q 1 G h))))) : S l MX4_hasTime (d, 0, 0, 0, 0) 0 [some (vR a0), some (vI a1)] [] G h Q := by
  refine s_iload_n dX4_hasTime_0 rfl rfl ?_
  have f1 := H.1
  replace H := H.2
  refine s_if_lt (tgt := 16) dX4_hasTime_1 (by decide) f1 (fun c2 => ?_) (fun c2 => ?_)
  · replace H := H.1 c2
    refine s_iconst dX4_hasTime_16 ?_
    exact s_zret dX4_hasTime_17 rfl ⟨Nat.le_refl _, Nat.le_refl _⟩ (by decide) H
  · replace H := H.2 c2
    refine s_iload_n dX4_hasTime_4 rfl rfl ?_
    refine s_aload_n dX4_hasTime_5 rfl rfl ?_
    have f3 := H.1
    replace H := H.2
    refine s_getf (c := 4) (k := 6) (t := 0) (j := 6) dX4_hasTime_6 fl_X4_41 (by decide) (by decide) rfl rfl f3 ?_
    have f4 := H.1
    replace H := H.2
    refine s_icmp_ge (tgt := 16) dX4_hasTime_9 (by decide) f1 f4 (fun c5 => ?_) (fun c5 => ?_)
    · replace H := H.1 c5
      refine s_iconst dX4_hasTime_16 ?_
      exact s_zret dX4_hasTime_17 rfl ⟨Nat.le_refl _, Nat.le_refl _⟩ (by decide) H
    · replace H := H.2 c5
      refine s_iconst dX4_hasTime_12 ?_
      refine s_goto (tgt := 17) dX4_hasTime_13 (by decide) ?_
      exact s_zret dX4_hasTime_17 rfl ⟨Nat.le_refl _, Nat.le_refl _⟩ (by decide) H
set_option maxHeartbeats 4000000 in
set_option maxRecDepth 100000 in
theorem vX4_rowOf_0 {l : Launch} {d : Nat} {G : GS} {h : HP} {Q : Int → GS → HP → Prop} (a0 a1 a2 : Int) (H : (ty G a0 = 4) ∧ (inA G 10 (h a0 3) ((40 * a1) + a2)) ∧ Q (h (h a0 3) ((40 * a1) + a2)) G h) : S l MX4_rowOf (d, 0, 0, 0, 0) 0 [some (vR a0), some (vI a1), some (vI a2)] [] G h Q := by
  refine s_aload_n dX4_rowOf_0 rfl rfl ?_
  have f1 := H.1
  replace H := H.2
  refine s_getf (c := 4) (k := 3) (t := 2) (j := 3) dX4_rowOf_1 fl_X4_18 (by decide) (by decide) rfl rfl f1 ?_
  refine s_bipush dX4_rowOf_4 (by decide) ?_
  refine s_iload_n dX4_rowOf_6 rfl rfl ?_
  refine s_imul dX4_rowOf_7 ?_
  refine s_iload_n dX4_rowOf_8 rfl rfl ?_
  refine s_iadd dX4_rowOf_9 ?_
  have f2 := H.1
  replace H := H.2
  refine s_iald dX4_rowOf_10 f2 ?_
  exact s_iret dX4_rowOf_11 rfl ⟨Nat.le_refl _, Nat.le_refl _⟩ H
set_option maxHeartbeats 4000000 in
set_option maxRecDepth 100000 in
theorem vX4_remove_0 {l : Launch} {d : Nat} {G : GS} {h : HP} {Q : Int → GS → HP → Prop} (a0 a1 : Int) (H : (ty G a0 = 4) ∧ S l MX4_remove (d + 1, 0, 0, 0, 0) 11 [some (vR a0), some (vI a1), some (vI (((h a0 6) - a1) - 1)), some (vI 0), none] [] G h Q) : S l MX4_remove (d + 1, 0, 0, 0, 0) 0 [some (vR a0), some (vI a1), none, none, none] [] G h Q := by
  refine s_aload_n dX4_remove_0 rfl rfl ?_
  have f1 := H.1
  replace H := H.2
  refine s_getf (c := 4) (k := 6) (t := 0) (j := 6) dX4_remove_1 fl_X4_41 (by decide) (by decide) rfl rfl f1 ?_
  refine s_iload_n dX4_remove_4 rfl rfl ?_
  refine s_isub dX4_remove_5 ?_
  refine s_iconst dX4_remove_6 ?_
  refine s_isub dX4_remove_7 ?_
  refine s_istore_n dX4_remove_8 rfl (by decide) rfl ?_
  show S l MX4_remove (d + 1, 0, 0, 0, 0) 9 [some (vR a0), some (vI a1), some (vI (((h a0 6) - a1) - 1)), none, none] [] G h Q
  refine s_iconst dX4_remove_9 ?_
  refine s_istore_n dX4_remove_10 rfl (by decide) rfl ?_
  show S l MX4_remove (d + 1, 0, 0, 0, 0) 11 [some (vR a0), some (vI a1), some (vI (((h a0 6) - a1) - 1)), some (vI 0), none] [] G h Q
  exact S_cut (by first | exact ⟨rfl, ⟨rfl, ⟨rfl, ⟨rfl, trivial⟩⟩⟩⟩ | simp [lsub]) H
set_option maxHeartbeats 4000000 in
set_option maxRecDepth 100000 in
theorem vX4_remove_11 {l : Launch} {d : Nat} {G : GS} {h : HP} {Q : Int → GS → HP → Prop} (a0 a1 a2 a3 : Int) (H : (inR a3) ∧ ((3 ≤ a3 → (ty G a0 = 4) ∧ ∀ h4 : HP, h4 = hset h a0 6 ((h a0 6) - 1) → Q 0 G h4) ∧ (a3 < 3 → (ty G a0 = 4) ∧ R l MX4_countMates d 0 0 [vR a0, vI a3, vI a1, vI ((-1))] G h (fun r5 G6 h7 => (ty G6 a0 = 4) ∧ (cpA G6 (h7 a0 3) (((40 * a3) + a1) + 1) (h7 a0 3) ((40 * a3) + a1) a2) ∧ ∀ h11 : HP, h11 = hcopy h7 (h7 a0 3) (((40 * a3) + a1) + 1) (h7 a0 3) ((40 * a3) + a1) a2 → (cpA G6 (h11 a0 4) (((40 * a3) + a1) + 1) (h11 a0 4) ((40 * a3) + a1) a2) ∧ ∀ h13 : HP, h13 = hcopy h11 (h11 a0 4) (((40 * a3) + a1) + 1) (h11 a0 4) ((40 * a3) + a1) a2 → (cpA G6 (h13 a0 5) (((40 * a3) + a1) + 1) (h13 a0 5) ((40 * a3) + a1) a2) ∧ ∀ h15 : HP, h15 = hcopy h13 (h13 a0 5) (((40 * a3) + a1) + 1) (h13 a0 5) ((40 * a3) + a1) a2 → S l MX4_remove (d + 1, 0, 0, 0, 0) 11 [some (vR a0), some (vI a1), some (vI a2), some (vI (a3 + 1)), none] [] G6 h15 Q)))) : S l MX4_remove (d + 1, 0, 0, 0, 0) 11 [some (vR a0), some (vI a1), some (vI a2), some (vI a3), none] [] G h Q := by
  refine s_iload_n dX4_remove_11 rfl rfl ?_
  refine s_iconst dX4_remove_12 ?_
  have f1 := H.1
  replace H := H.2
  refine s_icmp_ge (tgt := 91) dX4_remove_13 (by decide) f1 (by decide) (fun c2 => ?_) (fun c2 => ?_)
  · replace H := H.1 c2
    refine s_aload_n dX4_remove_91 rfl rfl ?_
    refine s_dup dX4_remove_92 rfl ?_
    have f3 := H.1
    replace H := H.2
    refine s_getf (c := 4) (k := 6) (t := 0) (j := 6) dX4_remove_93 fl_X4_41 (by decide) (by decide) rfl rfl f3 ?_
    refine s_iconst dX4_remove_96 ?_
    refine s_isub dX4_remove_97 ?_
    refine s_putI (c := 4) (k := 6) (j := 6) dX4_remove_98 fl_X4_41 (by decide) (by decide) rfl rfl rfl f3 (fun h4 eh4 => ?_)
    replace H := H h4 eh4
    exact s_vret dX4_remove_101 rfl ⟨Nat.le_refl _, Nat.le_refl _⟩ H
  · replace H := H.2 c2
    refine s_bipush dX4_remove_16 (by decide) ?_
    refine s_iload_n dX4_remove_18 rfl rfl ?_
    refine s_imul dX4_remove_19 ?_
    refine s_iload_n dX4_remove_20 rfl rfl ?_
    refine s_iadd dX4_remove_21 ?_
    refine s_istore dX4_remove_22 (by decide) rfl ?_
    show S l MX4_remove (d + 1, 0, 0, 0, 0) 24 [some (vR a0), some (vI a1), some (vI a2), some (vI a3), some (vI ((40 * a3) + a1))] [] G h Q
    refine s_aload_n dX4_remove_24 rfl rfl ?_
    refine s_iload_n dX4_remove_25 rfl rfl ?_
    refine s_iload_n dX4_remove_26 rfl rfl ?_
    refine s_iconst dX4_remove_27 ?_
    have f8 := H.1
    replace H := H.2
    refine s_callV (M' := MX4_countMates) (As := [vI a3, vI a1, vI ((-1))]) (a := a0) (st := []) dX4_remove_28 ml_X4_80 cv_X4_countMates rfl rfl (Nat.le_of_ble_eq_true rfl) ⟨Nat.le_refl _, Nat.le_refl _⟩ f8 (R_mono (fun r5 G6 h7 H => ?_) H)
    show S l MX4_remove (d + 1, 0, 0, 0, 0) 31 [some (vR a0), some (vI a1), some (vI a2), some (vI a3), some (vI ((40 * a3) + a1))] [] G6 h7 Q
    refine s_aload_n dX4_remove_31 rfl rfl ?_
    have f9 := H.1
    replace H := H.2
    refine s_getf (c := 4) (k := 3) (t := 2) (j := 3) dX4_remove_32 fl_X4_18 (by decide) (by decide) rfl rfl f9 ?_
    refine s_iload dX4_remove_35 rfl ?_
    refine s_iconst dX4_remove_37 ?_
    refine s_iadd dX4_remove_38 ?_
    refine s_aload_n dX4_remove_39 rfl rfl ?_
    refine s_getf (c := 4) (k := 3) (t := 2) (j := 3) dX4_remove_40 fl_X4_18 (by decide) (by decide) rfl rfl f9 ?_
    refine s_iload dX4_remove_43 rfl ?_
    refine s_iload_n dX4_remove_45 rfl rfl ?_
    have f10 := H.1
    replace H := H.2
    refine s_copy dX4_remove_46 ml_X4_45 ac_native ac_static ac_init (Nat.succ_le_succ (Nat.zero_le _)) (Nat.le_of_ble_eq_true rfl) f10 (fun h11 eh11 => ?_)
    replace H := H h11 eh11
    refine s_aload_n dX4_remove_49 rfl rfl ?_
    refine s_getf (c := 4) (k := 4) (t := 2) (j := 4) dX4_remove_50 fl_X4_21 (by decide) (by decide) rfl rfl f9 ?_
    refine s_iload dX4_remove_53 rfl ?_
    refine s_iconst dX4_remove_55 ?_
    refine s_iadd dX4_remove_56 ?_
    refine s_aload_n dX4_remove_57 rfl rfl ?_
    refine s_getf (c := 4) (k := 4) (t := 2) (j := 4) dX4_remove_58 fl_X4_21 (by decide) (by decide) rfl rfl f9 ?_
    refine s_iload dX4_remove_61 rfl ?_
    refine s_iload_n dX4_remove_63 rfl rfl ?_
    have f12 := H.1
    replace H := H.2
    refine s_copy dX4_remove_64 ml_X4_45 ac_native ac_static ac_init (Nat.succ_le_succ (Nat.zero_le _)) (Nat.le_of_ble_eq_true rfl) f12 (fun h13 eh13 => ?_)
    replace H := H h13 eh13
    refine s_aload_n dX4_remove_67 rfl rfl ?_
    refine s_getf (c := 4) (k := 5) (t := 2) (j := 5) dX4_remove_68 fl_X4_24 (by decide) (by decide) rfl rfl f9 ?_
    refine s_iload dX4_remove_71 rfl ?_
    refine s_iconst dX4_remove_73 ?_
    refine s_iadd dX4_remove_74 ?_
    refine s_aload_n dX4_remove_75 rfl rfl ?_
    refine s_getf (c := 4) (k := 5) (t := 2) (j := 5) dX4_remove_76 fl_X4_24 (by decide) (by decide) rfl rfl f9 ?_
    refine s_iload dX4_remove_79 rfl ?_
    refine s_iload_n dX4_remove_81 rfl rfl ?_
    have f14 := H.1
    replace H := H.2
    refine s_copy dX4_remove_82 ml_X4_45 ac_native ac_static ac_init (Nat.succ_le_succ (Nat.zero_le _)) (Nat.le_of_ble_eq_true rfl) f14 (fun h15 eh15 => ?_)
    replace H := H h15 eh15
    refine s_iinc dX4_remove_85 rfl (by decide) rfl ?_
    show S l MX4_remove (d + 1, 0, 0, 0, 0) 88 [some (vR a0), some (vI a1), some (vI a2), some (vI (a3 + 1)), some (vI ((40 * a3) + a1))] [] G6 h15 Q
    refine s_goto (tgt := 11) dX4_remove_88 (by decide) ?_
    exact S_cut (by first | exact ⟨rfl, ⟨rfl, ⟨rfl, ⟨rfl, trivial⟩⟩⟩⟩ | simp [lsub]) H
set_option maxHeartbeats 4000000 in
set_option maxRecDepth 100000 in
theorem vX4_becomePlain_0 {l : Launch} {d : Nat} {G : GS} {h : HP} {Q : Int → GS → HP → Prop} (a0 : Int) (H : (ty G a0 = 4) ∧ ∀ h2 : HP, h2 = hset h a0 6 0 → S l MX4_becomePlain (d + 1, 0, 0, 0, 0) 7 [some (vR a0), some (vI 0), none] [] G h2 Q) : S l MX4_becomePlain (d + 1, 0, 0, 0, 0) 0 [some (vR a0), none, none] [] G h Q := by
  refine s_aload_n dX4_becomePlain_0 rfl rfl ?_
  refine s_iconst dX4_becomePlain_1 ?_
  have f1 := H.1
  replace H := H.2
  refine s_putI (c := 4) (k := 6) (j := 6) dX4_becomePlain_2 fl_X4_41 (by decide) (by decide) rfl rfl rfl f1 (fun h2 eh2 => ?_)
  replace H := H h2 eh2
  refine s_iconst dX4_becomePlain_5 ?_
  refine s_istore_n dX4_becomePlain_6 rfl (by decide) rfl ?_
  show S l MX4_becomePlain (d + 1, 0, 0, 0, 0) 7 [some (vR a0), some (vI 0), none] [] G h2 Q
  exact S_cut (by first | exact ⟨rfl, ⟨rfl, trivial⟩⟩ | simp [lsub]) H
set_option maxHeartbeats 4000000 in
set_option maxRecDepth 100000 in
theorem vX4_becomePlain_7 {l : Launch} {d : Nat} {G : GS} {h : HP} {Q : Int → GS → HP → Prop} (a0 a1 : Int) (H : (ty G a0 = 4) ∧ (inA G 10 (h a0 1) 0) ∧ (inR a1) ∧ (inR (h (h a0 1) 0)) ∧ (((h (h a0 1) 0) ≤ a1 → Q 0 G h) ∧ (a1 < (h (h a0 1) 0) → S l MX4_becomePlain (d + 1, 0, 0, 0, 0) 19 [some (vR a0), some (vI a1), some (vI 0)] [] G h Q))) : S l MX4_becomePlain (d + 1, 0, 0, 0, 0) 7 [some (vR a0), some (vI a1), none] [] G h Q := by
  refine s_iload_n dX4_becomePlain_7 rfl rfl ?_
  refine s_aload_n dX4_becomePlain_8 rfl rfl ?_
  have f1 := H.1
  replace H := H.2
  refine s_getf (c := 4) (k := 1) (t := 2) (j := 1) dX4_becomePlain_9 fl_X4_9 (by decide) (by decide) rfl rfl f1 ?_
  refine s_iconst dX4_becomePlain_12 ?_
  have f2 := H.1
  replace H := H.2
  refine s_iald dX4_becomePlain_13 f2 ?_
  have f3 := H.1
  replace H := H.2
  have f4 := H.1
  replace H := H.2
  refine s_icmp_ge (tgt := 47) dX4_becomePlain_14 (by decide) f3 f4 (fun c5 => ?_) (fun c5 => ?_)
  · replace H := H.1 c5
    exact s_vret dX4_becomePlain_47 rfl ⟨Nat.le_refl _, Nat.le_refl _⟩ H
  · replace H := H.2 c5
    refine s_iconst dX4_becomePlain_17 ?_
    refine s_istore_n dX4_becomePlain_18 rfl (by decide) rfl ?_
    show S l MX4_becomePlain (d + 1, 0, 0, 0, 0) 19 [some (vR a0), some (vI a1), some (vI 0)] [] G h Q
    exact S_cut (by first | exact ⟨rfl, ⟨rfl, ⟨rfl, trivial⟩⟩⟩ | simp [lsub]) H
set_option maxHeartbeats 4000000 in
set_option maxRecDepth 100000 in
theorem vX4_becomePlain_19 {l : Launch} {d : Nat} {G : GS} {h : HP} {Q : Int → GS → HP → Prop} (a0 a1 a2 : Int) (H : (ty G a0 = 4) ∧ (inA G 10 (h a0 1) 1) ∧ (inR a2) ∧ (inR (h (h a0 1) 1)) ∧ (((h (h a0 1) 1) ≤ a2 → S l MX4_becomePlain (d + 1, 0, 0, 0, 0) 7 [some (vR a0), some (vI (a1 + 1)), none] [] G h Q) ∧ (a2 < (h (h a0 1) 1) → R l MX4_appendPlain d 0 0 [vR a0, vI a1, vI a2] G h (fun r6 G7 h8 => S l MX4_becomePlain (d + 1, 0, 0, 0, 0) 19 [some (vR a0), some (vI a1), some (vI (a2 + 1))] [] G7 h8 Q)))) : S l MX4_becomePlain (d + 1, 0, 0, 0, 0) 19 [some (vR a0), some (vI a1), some (vI a2)] [] G h Q := by
  refine s_iload_n dX4_becomePlain_19 rfl rfl ?_
  refine s_aload_n dX4_becomePlain_20 rfl rfl ?_
  have f1 := H.1
  replace H := H.2
  refine s_getf (c := 4) (k := 1) (t := 2) (j := 1) dX4_becomePlain_21 fl_X4_9 (by decide) (by decide) rfl rfl f1 ?_
  refine s_iconst dX4_becomePlain_24 ?_
  have f2 := H.1
  replace H := H.2
  refine s_iald dX4_becomePlain_25 f2 ?_
  have f3 := H.1
  replace H := H.2
  have f4 := H.1
  replace H := H.2
  refine s_icmp_ge (tgt := 41) dX4_becomePlain_26 (by decide) f3 f4 (fun c5 => ?_) (fun c5 => ?_)
  · replace H := H.1 c5
    refine s_iinc dX4_becomePlain_41 rfl (by decide) rfl ?_
    show S l MX4_becomePlain (d + 1, 0, 0, 0, 0) 44 [some (vR a0), some (vI (a1 + 1)), some (vI a2)] [] G h Q
    refine s_goto (tgt := 7) dX4_becomePlain_44 (by decide) ?_
    exact S_cut (by first | exact ⟨rfl, ⟨rfl, trivial⟩⟩ | simp [lsub]) H
  · replace H := H.2 c5
    refine s_aload_n dX4_becomePlain_29 rfl rfl ?_
    refine s_iload_n dX4_becomePlain_30 rfl rfl ?_
    refine s_iload_n dX4_becomePlain_31 rfl rfl ?_
    refine s_callV (M' := MX4_appendPlain) (As := [vI a1, vI a2]) (a := a0) (st := []) dX4_becomePlain_32 ml_X4_88 cv_X4_appendPlain rfl rfl (Nat.le_of_ble_eq_true rfl) ⟨Nat.le_refl _, Nat.le_refl _⟩ f1 (R_mono (fun r6 G7 h8 H => ?_) H)
    show S l MX4_becomePlain (d + 1, 0, 0, 0, 0) 35 [some (vR a0), some (vI a1), some (vI a2)] [] G7 h8 Q
    refine s_iinc dX4_becomePlain_35 rfl (by decide) rfl ?_
    show S l MX4_becomePlain (d + 1, 0, 0, 0, 0) 38 [some (vR a0), some (vI a1), some (vI (a2 + 1))] [] G7 h8 Q
    refine s_goto (tgt := 19) dX4_becomePlain_38 (by decide) ?_
    exact S_cut (by first | exact ⟨rfl, ⟨rfl, ⟨rfl, trivial⟩⟩⟩ | simp [lsub]) H
set_option maxHeartbeats 4000000 in
set_option maxRecDepth 100000 in
theorem vX4_appendPlain_0 {l : Launch} {d : Nat} {G : GS} {h : HP} {Q : Int → GS → HP → Prop} (a0 a1 a2 : Int) (H : S l MX4_appendPlain (d + 1, 0, 0, 0, 0) 2 [some (vR a0), some (vI a1), some (vI a2), some (vI 0), none] [] G h Q) : S l MX4_appendPlain (d + 1, 0, 0, 0, 0) 0 [some (vR a0), some (vI a1), some (vI a2), none, none] [] G h Q := by
  refine s_iconst dX4_appendPlain_0 ?_
  refine s_istore_n dX4_appendPlain_1 rfl (by decide) rfl ?_
  show S l MX4_appendPlain (d + 1, 0, 0, 0, 0) 2 [some (vR a0), some (vI a1), some (vI a2), some (vI 0), none] [] G h Q
  exact S_cut (by first | exact ⟨rfl, ⟨rfl, ⟨rfl, ⟨rfl, trivial⟩⟩⟩⟩ | simp [lsub]) H
set_option maxHeartbeats 4000000 in
set_option maxRecDepth 100000 in
theorem vX4_appendPlain_2 {l : Launch} {d : Nat} {G : GS} {h : HP} {Q : Int → GS → HP → Prop} (a0 a1 a2 a3 : Int) (H : (ty G a0 = 4) ∧ (inA G 10 (h a0 1) 2) ∧ (inR a3) ∧ (inR (h (h a0 1) 2)) ∧ (((h (h a0 1) 2) ≤ a3 → Q 0 G h) ∧ (a3 < (h (h a0 1) 2) → R l MX4_number d 0 0 [vR a0, vI a1, vI a2, vI a3] G h (fun r6 G7 h8 => (inR r6) ∧ ((r6 = 0 → S l MX4_appendPlain (d + 1, 0, 0, 0, 0) 2 [some (vR a0), some (vI a1), some (vI a2), some (vI (a3 + 1)), none] [] G7 h8 Q) ∧ (r6 ≠ 0 → (ty G7 a0 = 4) ∧ (inR (h8 a0 6)) ∧ ((40 ≤ (h8 a0 6) → S l MX4_appendPlain (d + 1, 0, 0, 0, 0) 2 [some (vR a0), some (vI a1), some (vI a2), some (vI (a3 + 1)), none] [] G7 h8 Q) ∧ ((h8 a0 6) < 40 → (ty G7 (h8 a0 0) = 1) ∧ (inA G7 10 (h8 (h8 a0 0) 1) a1) ∧ (inA G7 10 (h8 (h8 a0 0) 1) a2) ∧ (inA G7 10 (h8 (h8 a0 0) 1) a3) ∧ R l MX4_append d 0 0 [vR a0, vI (h8 (h8 (h8 a0 0) 1) a1), vI (h8 (h8 (h8 a0 0) 1) a2), vI (r6 * (h8 (h8 (h8 a0 0) 1) a3))] G7 h8 (fun r18 G19 h20 => S l MX4_appendPlain (d + 1, 0, 0, 0, 0) 2 [some (vR a0), some (vI a1), some (vI a2), some (vI (a3 + 1)), none] [] G19 h20 Q))))))))) : S l MX4_appendPlain (d + 1, 0, 0, 0, 0) 2 [some (vR a0), some (vI a1), some (vI a2), some (vI a3), none] [] G h Q := by
  refine s_iload_n dX4_appendPlain_2 rfl rfl ?_
  refine s_aload_n dX4_appendPlain_3 rfl rfl ?_
  have f1 := H.1
  replace H := H.2
  refine s_getf (c := 4) (k := 1) (t := 2) (j := 1) dX4_appendPlain_4 fl_X4_9 (by decide) (by decide) rfl rfl f1 ?_
  refine s_iconst dX4_appendPlain_7 ?_
  have f2 := H.1
  replace H := H.2
  refine s_iald dX4_appendPlain_8 f2 ?_
  have f3 := H.1
  replace H := H.2
  have f4 := H.1
  replace H := H.2
  refine s_icmp_ge (tgt := 75) dX4_appendPlain_9 (by decide) f3 f4 (fun c5 => ?_) (fun c5 => ?_)
  · replace H := H.1 c5
    exact s_vret dX4_appendPlain_75 rfl ⟨Nat.le_refl _, Nat.le_refl _⟩ H
  · replace H := H.2 c5
    refine s_aload_n dX4_appendPlain_12 rfl rfl ?_
    refine s_iload_n dX4_appendPlain_13 rfl rfl ?_
    refine s_iload_n dX4_appendPlain_14 rfl rfl ?_
    refine s_iload_n dX4_appendPlain_15 rfl rfl ?_
    refine s_callV (M' := MX4_number) (As := [vI a1, vI a2, vI a3]) (a := a0) (st := []) dX4_appendPlain_16 ml_X4_78 cv_X4_number rfl rfl (Nat.le_of_ble_eq_true rfl) ⟨Nat.le_refl _, Nat.le_refl _⟩ f1 (R_mono (fun r6 G7 h8 H => ?_) H)
    show S l MX4_appendPlain (d + 1, 0, 0, 0, 0) 19 [some (vR a0), some (vI a1), some (vI a2), some (vI a3), none] [vI r6] G7 h8 Q
    refine s_istore dX4_appendPlain_19 (by decide) rfl ?_
    show S l MX4_appendPlain (d + 1, 0, 0, 0, 0) 21 [some (vR a0), some (vI a1), some (vI a2), some (vI a3), some (vI r6)] [] G7 h8 Q
    refine s_iload dX4_appendPlain_21 rfl ?_
    have f9 := H.1
    replace H := H.2
    refine s_if_eq (tgt := 69) dX4_appendPlain_23 (by decide) f9 (fun c10 => ?_) (fun c10 => ?_)
    · replace H := H.1 c10
      refine s_iinc dX4_appendPlain_69 rfl (by decide) rfl ?_
      show S l MX4_appendPlain (d + 1, 0, 0, 0, 0) 72 [some (vR a0), some (vI a1), some (vI a2), some (vI (a3 + 1)), some (vI r6)] [] G7 h8 Q
      refine s_goto (tgt := 2) dX4_appendPlain_72 (by decide) ?_
      exact S_cut (by first | exact ⟨rfl, ⟨rfl, ⟨rfl, ⟨rfl, trivial⟩⟩⟩⟩ | simp [lsub]) H
    · replace H := H.2 c10
      refine s_aload_n dX4_appendPlain_26 rfl rfl ?_
      have f11 := H.1
      replace H := H.2
      refine s_getf (c := 4) (k := 6) (t := 0) (j := 6) dX4_appendPlain_27 fl_X4_41 (by decide) (by decide) rfl rfl f11 ?_
      refine s_bipush dX4_appendPlain_30 (by decide) ?_
      have f12 := H.1
      replace H := H.2
      refine s_icmp_ge (tgt := 69) dX4_appendPlain_32 (by decide) f12 (by decide) (fun c13 => ?_) (fun c13 => ?_)
      · replace H := H.1 c13
        refine s_iinc dX4_appendPlain_69 rfl (by decide) rfl ?_
        show S l MX4_appendPlain (d + 1, 0, 0, 0, 0) 72 [some (vR a0), some (vI a1), some (vI a2), some (vI (a3 + 1)), some (vI r6)] [] G7 h8 Q
        refine s_goto (tgt := 2) dX4_appendPlain_72 (by decide) ?_
        exact S_cut (by first | exact ⟨rfl, ⟨rfl, ⟨rfl, ⟨rfl, trivial⟩⟩⟩⟩ | simp [lsub]) H
      · replace H := H.2 c13
        refine s_aload_n dX4_appendPlain_35 rfl rfl ?_
        refine s_aload_n dX4_appendPlain_36 rfl rfl ?_
        refine s_getf (c := 4) (k := 0) (t := 2) (j := 0) dX4_appendPlain_37 fl_X4_27 (by decide) (by decide) rfl rfl f11 ?_
        have f14 := H.1
        replace H := H.2
        refine s_getf (c := 1) (k := 1) (t := 2) (j := 1) dX4_appendPlain_40 fl_X4_55 (by decide) (by decide) rfl rfl f14 ?_
        refine s_iload_n dX4_appendPlain_43 rfl rfl ?_
        have f15 := H.1
        replace H := H.2
        refine s_iald dX4_appendPlain_44 f15 ?_
        refine s_aload_n dX4_appendPlain_45 rfl rfl ?_
        refine s_getf (c := 4) (k := 0) (t := 2) (j := 0) dX4_appendPlain_46 fl_X4_27 (by decide) (by decide) rfl rfl f11 ?_
        refine s_getf (c := 1) (k := 1) (t := 2) (j := 1) dX4_appendPlain_49 fl_X4_55 (by decide) (by decide) rfl rfl f14 ?_
        refine s_iload_n dX4_appendPlain_52 rfl rfl ?_
        have f16 := H.1
        replace H := H.2
        refine s_iald dX4_appendPlain_53 f16 ?_
        refine s_iload dX4_appendPlain_54 rfl ?_
        refine s_aload_n dX4_appendPlain_56 rfl rfl ?_
        refine s_getf (c := 4) (k := 0) (t := 2) (j := 0) dX4_appendPlain_57 fl_X4_27 (by decide) (by decide) rfl rfl f11 ?_
        refine s_getf (c := 1) (k := 1) (t := 2) (j := 1) dX4_appendPlain_60 fl_X4_55 (by decide) (by decide) rfl rfl f14 ?_
        refine s_iload_n dX4_appendPlain_63 rfl rfl ?_
        have f17 := H.1
        replace H := H.2
        refine s_iald dX4_appendPlain_64 f17 ?_
        refine s_imul dX4_appendPlain_65 ?_
        refine s_callV (M' := MX4_append) (As := [vI (h8 (h8 (h8 a0 0) 1) a1), vI (h8 (h8 (h8 a0 0) 1) a2), vI (r6 * (h8 (h8 (h8 a0 0) 1) a3))]) (a := a0) (st := []) dX4_appendPlain_66 ml_X4_92 cv_X4_append rfl rfl (Nat.le_of_ble_eq_true rfl) ⟨Nat.le_refl _, Nat.le_refl _⟩ f11 (R_mono (fun r18 G19 h20 H => ?_) H)
        show S l MX4_appendPlain (d + 1, 0, 0, 0, 0) 69 [some (vR a0), some (vI a1), some (vI a2), some (vI a3), some (vI r6)] [] G19 h20 Q
        refine s_iinc dX4_appendPlain_69 rfl (by decide) rfl ?_
        show S l MX4_appendPlain (d + 1, 0, 0, 0, 0) 72 [some (vR a0), some (vI a1), some (vI a2), some (vI (a3 + 1)), some (vI r6)] [] G19 h20 Q
        refine s_goto (tgt := 2) dX4_appendPlain_72 (by decide) ?_
        exact S_cut (by first | exact ⟨rfl, ⟨rfl, ⟨rfl, ⟨rfl, trivial⟩⟩⟩⟩ | simp [lsub]) H
set_option maxHeartbeats 4000000 in
set_option maxRecDepth 100000 in
theorem vX4_alike_0 {l : Launch} {d : Nat} {G : GS} {h : HP} {Q : Int → GS → HP → Prop} (a0 a1 a2 a3 : Int) (H : (ty G a0 = 4) ∧ (inA G 10 (h a0 4) ((40 * a1) + a2)) ∧ (inR (h (h a0 4) ((40 * a1) + a2))) ∧ (((h (h a0 4) ((40 * a1) + a2)) = 0 → Q 0 G h) ∧ ((h (h a0 4) ((40 * a1) + a2)) ≠ 0 → (inA G 10 (h a0 4) ((40 * a1) + a3)) ∧ (inR (h (h a0 4) ((40 * a1) + a3))) ∧ (((h (h a0 4) ((40 * a1) + a2)) ≠ (h (h a0 4) ((40 * a1) + a3)) → Q 0 G h) ∧ ((h (h a0 4) ((40 * a1) + a2)) = (h (h a0 4) ((40 * a1) + a3)) → Q 1 G h))))) : S l MX4_alike (d, 0, 0, 0, 0) 0 [some (vR a0), some (vI a1), some (vI a2), some (vI a3), none] [] G h Q := by
  refine s_aload_n dX4_alike_0 rfl rfl ?_
  have f1 := H.1
  replace H := H.2
  refine s_getf (c := 4) (k := 4) (t := 2) (j := 4) dX4_alike_1 fl_X4_21 (by decide) (by decide) rfl rfl f1 ?_
  refine s_bipush dX4_alike_4 (by decide) ?_
  refine s_iload_n dX4_alike_6 rfl rfl ?_
  refine s_imul dX4_alike_7 ?_
  refine s_iload_n dX4_alike_8 rfl rfl ?_
  refine s_iadd dX4_alike_9 ?_
  have f2 := H.1
  replace H := H.2
  refine s_iald dX4_alike_10 f2 ?_
  refine s_istore dX4_alike_11 (by decide) rfl ?_
  show S l MX4_alike (d, 0, 0, 0, 0) 13 [some (vR a0), some (vI a1), some (vI a2), some (vI a3), some (vI (h (h a0 4) ((40 * a1) + a2)))] [] G h Q
  refine s_iload dX4_alike_13 rfl ?_
  have f3 := H.1
  replace H := H.2
  refine s_if_eq (tgt := 38) dX4_alike_15 (by decide) f3 (fun c4 => ?_) (fun c4 => ?_)
  · replace H := H.1 c4
    refine s_iconst dX4_alike_38 ?_
    exact s_zret dX4_alike_39 rfl ⟨Nat.le_refl _, Nat.le_refl _⟩ (by decide) H
  · replace H := H.2 c4
    refine s_iload dX4_alike_18 rfl ?_
    refine s_aload_n dX4_alike_20 rfl rfl ?_
    refine s_getf (c := 4) (k := 4) (t := 2) (j := 4) dX4_alike_21 fl_X4_21 (by decide) (by decide) rfl rfl f1 ?_
    refine s_bipush dX4_alike_24 (by decide) ?_
    refine s_iload_n dX4_alike_26 rfl rfl ?_
    refine s_imul dX4_alike_27 ?_
    refine s_iload_n dX4_alike_28 rfl rfl ?_
    refine s_iadd dX4_alike_29 ?_
    have f5 := H.1
    replace H := H.2
    refine s_iald dX4_alike_30 f5 ?_
    have f6 := H.1
    replace H := H.2
    refine s_icmp_ne (tgt := 38) dX4_alike_31 (by decide) f3 f6 (fun c7 => ?_) (fun c7 => ?_)
    · replace H := H.1 c7
      refine s_iconst dX4_alike_38 ?_
      exact s_zret dX4_alike_39 rfl ⟨Nat.le_refl _, Nat.le_refl _⟩ (by decide) H
    · replace H := H.2 c7
      refine s_iconst dX4_alike_34 ?_
      refine s_goto (tgt := 39) dX4_alike_35 (by decide) ?_
      exact s_zret dX4_alike_39 rfl ⟨Nat.le_refl _, Nat.le_refl _⟩ (by decide) H
set_option maxHeartbeats 4000000 in
set_option maxRecDepth 100000 in
theorem vX4_factor_0 {l : Launch} {d : Nat} {G : GS} {h : HP} {Q : Int → GS → HP → Prop} (a0 a1 a2 a3 : Int) (H : (ty G a0 = 4) ∧ R l MX4_rowOf d 0 0 [vR a0, vI a1, vI a2] G h (fun r2 G3 h4 => (ty G3 (h a0 0) = 1) ∧ R l MX1_first d 0 0 [vR (h a0 0), vI r2] G3 h4 (fun r5 G6 h7 => (ty G6 a0 = 4) ∧ R l MX4_rowOf d 0 0 [vR a0, vI a1, vI a3] G6 h7 (fun r10 G11 h12 => (ty G11 (h7 a0 0) = 1) ∧ R l MX1_first d 0 0 [vR (h7 a0 0), vI r10] G11 h12 (fun r13 G14 h15 => (ty G14 a0 = 4) ∧ (ty G14 (h15 a0 0) = 1) ∧ (inA G14 10 (h15 (h15 a0 0) 2) r5) ∧ (dvR (r13 * (h15 (h15 (h15 a0 0) 2) r5)) (h15 (h15 a0 0) 0)) ∧ Q ((r13 * (h15 (h15 (h15 a0 0) 2) r5)) % (h15 (h15 a0 0) 0)) G14 h15))))) : S l MX4_factor (d + 1, 0, 0, 0, 0) 0 [some (vR a0), some (vI a1), some (vI a2), some (vI a3), none, none] [] G h Q := by
  refine s_aload_n dX4_factor_0 rfl rfl ?_
  have f1 := H.1
  replace H := H.2
  refine s_getf (c := 4) (k := 0) (t := 2) (j := 0) dX4_factor_1 fl_X4_27 (by decide) (by decide) rfl rfl f1 ?_
  refine s_aload_n dX4_factor_4 rfl rfl ?_
  refine s_iload_n dX4_factor_5 rfl rfl ?_
  refine s_iload_n dX4_factor_6 rfl rfl ?_
  refine s_callV (M' := MX4_rowOf) (As := [vI a1, vI a2]) (a := a0) (st := [vR (h a0 0)]) dX4_factor_7 ml_X4_95 cv_X4_rowOf rfl rfl (Nat.le_of_ble_eq_true rfl) ⟨Nat.le_refl _, Nat.le_refl _⟩ f1 (R_mono (fun r2 G3 h4 H => ?_) H)
  show S l MX4_factor (d + 1, 0, 0, 0, 0) 10 [some (vR a0), some (vI a1), some (vI a2), some (vI a3), none, none] [vI r2, vR (h a0 0)] G3 h4 Q
  have f8 := H.1
  replace H := H.2
  refine s_callV (M' := MX1_first) (As := [vI r2]) (a := h a0 0) (st := []) dX4_factor_10 ml_X4_98 cv_X1_first rfl rfl (Nat.le_of_ble_eq_true rfl) ⟨Nat.le_refl _, Nat.le_refl _⟩ f8 (R_mono (fun r5 G6 h7 H => ?_) H)
  show S l MX4_factor (d + 1, 0, 0, 0, 0) 13 [some (vR a0), some (vI a1), some (vI a2), some (vI a3), none, none] [vI r5] G6 h7 Q
  refine s_istore dX4_factor_13 (by decide) rfl ?_
  show S l MX4_factor (d + 1, 0, 0, 0, 0) 15 [some (vR a0), some (vI a1), some (vI a2), some (vI a3), some (vI r5), none] [] G6 h7 Q
  refine s_aload_n dX4_factor_15 rfl rfl ?_
  have f9 := H.1
  replace H := H.2
  refine s_getf (c := 4) (k := 0) (t := 2) (j := 0) dX4_factor_16 fl_X4_27 (by decide) (by decide) rfl rfl f9 ?_
  refine s_aload_n dX4_factor_19 rfl rfl ?_
  refine s_iload_n dX4_factor_20 rfl rfl ?_
  refine s_iload_n dX4_factor_21 rfl rfl ?_
  refine s_callV (M' := MX4_rowOf) (As := [vI a1, vI a3]) (a := a0) (st := [vR (h7 a0 0)]) dX4_factor_22 ml_X4_95 cv_X4_rowOf rfl rfl (Nat.le_of_ble_eq_true rfl) ⟨Nat.le_refl _, Nat.le_refl _⟩ f9 (R_mono (fun r10 G11 h12 H => ?_) H)
  show S l MX4_factor (d + 1, 0, 0, 0, 0) 25 [some (vR a0), some (vI a1), some (vI a2), some (vI a3), some (vI r5), none] [vI r10, vR (h7 a0 0)] G11 h12 Q
  have f16 := H.1
  replace H := H.2
  refine s_callV (M' := MX1_first) (As := [vI r10]) (a := h7 a0 0) (st := []) dX4_factor_25 ml_X4_98 cv_X1_first rfl rfl (Nat.le_of_ble_eq_true rfl) ⟨Nat.le_refl _, Nat.le_refl _⟩ f16 (R_mono (fun r13 G14 h15 H => ?_) H)
  show S l MX4_factor (d + 1, 0, 0, 0, 0) 28 [some (vR a0), some (vI a1), some (vI a2), some (vI a3), some (vI r5), none] [vI r13] G14 h15 Q
  refine s_istore dX4_factor_28 (by decide) rfl ?_
  show S l MX4_factor (d + 1, 0, 0, 0, 0) 30 [some (vR a0), some (vI a1), some (vI a2), some (vI a3), some (vI r5), some (vI r13)] [] G14 h15 Q
  refine s_iload dX4_factor_30 rfl ?_
  refine s_aload_n dX4_factor_32 rfl rfl ?_
  have f17 := H.1
  replace H := H.2
  refine s_getf (c := 4) (k := 0) (t := 2) (j := 0) dX4_factor_33 fl_X4_27 (by decide) (by decide) rfl rfl f17 ?_
  have f18 := H.1
  replace H := H.2
  refine s_getf (c := 1) (k := 2) (t := 2) (j := 2) dX4_factor_36 fl_X4_101 (by decide) (by decide) rfl rfl f18 ?_
  refine s_iload dX4_factor_39 rfl ?_
  have f19 := H.1
  replace H := H.2
  refine s_iald dX4_factor_41 f19 ?_
  refine s_imul dX4_factor_42 ?_
  refine s_aload_n dX4_factor_43 rfl rfl ?_
  refine s_getf (c := 4) (k := 0) (t := 2) (j := 0) dX4_factor_44 fl_X4_27 (by decide) (by decide) rfl rfl f17 ?_
  refine s_getf (c := 1) (k := 0) (t := 0) (j := 0) dX4_factor_47 fl_X4_104 (by decide) (by decide) rfl rfl f18 ?_
  have f20 := H.1
  replace H := H.2
  refine s_irem dX4_factor_50 f20 ?_
  exact s_iret dX4_factor_51 rfl ⟨Nat.le_refl _, Nat.le_refl _⟩ H
set_option maxHeartbeats 4000000 in
set_option maxRecDepth 100000 in
theorem vX4_line_0 {l : Launch} {d : Nat} {G : GS} {h : HP} {Q : Int → GS → HP → Prop} (a0 a1 a2 a3 : Int) (H : (inR a1) ∧ ((a1 ≠ 2 → S l MX4_line (d + 1, 0, 0, 0, 0) 18 [some (vR a0), some (vI a1), some (vI a2), some (vI a3), some (vI 0), some (vI 0), none] [] G h Q) ∧ (a1 = 2 → (ty G a0 = 4) ∧ R l MX4_fiberAt d 0 0 [vR a0, vI a2, vI a3] G h (fun r3 G4 h5 => Q r3 G4 h5)))) : S l MX4_line (d + 1, 0, 0, 0, 0) 0 [some (vR a0), some (vI a1), some (vI a2), some (vI a3), none, none, none] [] G h Q := by
  refine s_iload_n dX4_line_0 rfl rfl ?_
  refine s_iconst dX4_line_1 ?_
  have f1 := H.1
  replace H := H.2
  refine s_icmp_ne (tgt := 12) dX4_line_2 (by decide) f1 (by decide) (fun c2 => ?_) (fun c2 => ?_)
  · replace H := H.1 c2
    refine s_iconst dX4_line_12 ?_
    refine s_istore dX4_line_13 (by decide) rfl ?_
    show S l MX4_line (d + 1, 0, 0, 0, 0) 15 [some (vR a0), some (vI a1), some (vI a2), some (vI a3), some (vI 0), none, none] [] G h Q
    refine s_iconst dX4_line_15 ?_
    refine s_istore dX4_line_16 (by decide) rfl ?_
    show S l MX4_line (d + 1, 0, 0, 0, 0) 18 [some (vR a0), some (vI a1), some (vI a2), some (vI a3), some (vI 0), some (vI 0), none] [] G h Q
    exact S_cut (by first | exact ⟨rfl, ⟨rfl, ⟨rfl, ⟨rfl, ⟨rfl, ⟨rfl, trivial⟩⟩⟩⟩⟩⟩ | simp [lsub]) H
  · replace H := H.2 c2
    refine s_aload_n dX4_line_5 rfl rfl ?_
    refine s_iload_n dX4_line_6 rfl rfl ?_
    refine s_iload_n dX4_line_7 rfl rfl ?_
    have f6 := H.1
    replace H := H.2
    refine s_callV (M' := MX4_fiberAt) (As := [vI a2, vI a3]) (a := a0) (st := []) dX4_line_8 ml_X4_60 cv_X4_fiberAt rfl rfl (Nat.le_of_ble_eq_true rfl) ⟨Nat.le_refl _, Nat.le_refl _⟩ f6 (R_mono (fun r3 G4 h5 H => ?_) H)
    show S l MX4_line (d + 1, 0, 0, 0, 0) 11 [some (vR a0), some (vI a1), some (vI a2), some (vI a3), none, none, none] [vI r3] G4 h5 Q
    exact s_iret dX4_line_11 rfl ⟨Nat.le_refl _, Nat.le_refl _⟩ H
set_option maxHeartbeats 4000000 in
set_option maxRecDepth 100000 in
theorem vX4_line_18 {l : Launch} {d : Nat} {G : GS} {h : HP} {Q : Int → GS → HP → Prop} (a0 a1 a2 a3 a4 a5 : Int) (H : (ty G a0 = 4) ∧ (inA G 10 (h a0 1) a1) ∧ (inR a5) ∧ (inR (h (h a0 1) a1)) ∧ (((h (h a0 1) a1) ≤ a5 → Q a4 G h) ∧ (a5 < (h (h a0 1) a1) → (inR a1) ∧ ((a1 ≠ 0 → R l MX4_number d 0 0 [vR a0, vI a2, vI a5, vI a3] G h (fun r8 G9 h10 => (ty G9 a0 = 4) ∧ (ty G9 (h10 a0 0) = 1) ∧ (inA G9 10 (h10 (h10 a0 0) 1) a5) ∧ S l MX4_line (d + 1, 0, 0, 0, 0) 18 [some (vR a0), some (vI a1), some (vI a2), some (vI a3), some (vI (a4 + (r8 * (h10 (h10 (h10 a0 0) 1) a5)))), some (vI (a5 + 1)), none] [] G9 h10 Q)) ∧ (a1 = 0 → R l MX4_number d 0 0 [vR a0, vI a5, vI a2, vI a3] G h (fun r14 G15 h16 => (ty G15 a0 = 4) ∧ (ty G15 (h16 a0 0) = 1) ∧ (inA G15 10 (h16 (h16 a0 0) 1) a5) ∧ S l MX4_line (d + 1, 0, 0, 0, 0) 18 [some (vR a0), some (vI a1), some (vI a2), some (vI a3), some (vI (a4 + (r14 * (h16 (h16 (h16 a0 0) 1) a5)))), some (vI (a5 + 1)), none] [] G15 h16 Q)))))) : S l MX4_line (d + 1, 0, 0, 0, 0) 18 [some (vR a0), some (vI a1), some (vI a2), some (vI a3), some (vI a4), some (vI a5), none] [] G h Q := by
  refine s_iload dX4_line_18 rfl ?_
  refine s_aload_n dX4_line_20 rfl rfl ?_
  have f1 := H.1
  replace H := H.2
  refine s_getf (c := 4) (k := 1) (t := 2) (j := 1) dX4_line_21 fl_X4_9 (by decide) (by decide) rfl rfl f1 ?_
  refine s_iload_n dX4_line_24 rfl rfl ?_
  have f2 := H.1
  replace H := H.2
  refine s_iald dX4_line_25 f2 ?_
  have f3 := H.1
  replace H := H.2
  have f4 := H.1
  replace H := H.2
  refine s_icmp_ge (tgt := 78) dX4_line_26 (by decide) f3 f4 (fun c5 => ?_) (fun c5 => ?_)
  · replace H := H.1 c5
    refine s_iload dX4_line_78 rfl ?_
    exact s_iret dX4_line_80 rfl ⟨Nat.le_refl _, Nat.le_refl _⟩ H
  · replace H := H.2 c5
    refine s_iload_n dX4_line_29 rfl rfl ?_
    have f6 := H.1
    replace H := H.2
    refine s_if_ne (tgt := 44) dX4_line_30 (by decide) f6 (fun c7 => ?_) (fun c7 => ?_)
    · replace H := H.1 c7
      refine s_aload_n dX4_line_44 rfl rfl ?_
      refine s_iload_n dX4_line_45 rfl rfl ?_
      refine s_iload dX4_line_46 rfl ?_
      refine s_iload_n dX4_line_48 rfl rfl ?_
      refine s_callV (M' := MX4_number) (As := [vI a2, vI a5, vI a3]) (a := a0) (st := []) dX4_line_49 ml_X4_78 cv_X4_number rfl rfl (Nat.le_of_ble_eq_true rfl) ⟨Nat.le_refl _, Nat.le_refl _⟩ f1 (R_mono (fun r8 G9 h10 H => ?_) H)
      show S l MX4_line (d + 1, 0, 0, 0, 0) 52 [some (vR a0), some (vI a1), some (vI a2), some (vI a3), some (vI a4), some (vI a5), none] [vI r8] G9 h10 Q
      refine s_istore dX4_line_52 (by decide) rfl ?_
      show S l MX4_line (d + 1, 0, 0, 0, 0) 54 [some (vR a0), some (vI a1), some (vI a2), some (vI a3), some (vI a4), some (vI a5), some (vI r8)] [] G9 h10 Q
      refine s_iload dX4_line_54 rfl ?_
      refine s_iload dX4_line_56 rfl ?_
      refine s_aload_n dX4_line_58 rfl rfl ?_
      have f11 := H.1
      replace H := H.2
      refine s_getf (c := 4) (k := 0) (t := 2) (j := 0) dX4_line_59 fl_X4_27 (by decide) (by decide) rfl rfl f11 ?_
      have f12 := H.1
      replace H := H.2
      refine s_getf (c := 1) (k := 1) (t := 2) (j := 1) dX4_line_62 fl_X4_55 (by decide) (by decide) rfl rfl f12 ?_
      refine s_iload dX4_line_65 rfl ?_
      have f13 := H.1
      replace H := H.2
      refine s_iald dX4_line_67 f13 ?_
      refine s_imul dX4_line_68 ?_
      refine s_iadd dX4_line_69 ?_
      refine s_istore dX4_line_70 (by decide) rfl ?_
      show S l MX4_line (d + 1, 0, 0, 0, 0) 72 [some (vR a0), some (vI a1), some (vI a2), some (vI a3), some (vI (a4 + (r8 * (h10 (h10 (h10 a0 0) 1) a5)))), some (vI a5), some (vI r8)] [] G9 h10 Q
      refine s_iinc dX4_line_72 rfl (by decide) rfl ?_
      show S l MX4_line (d + 1, 0, 0, 0, 0) 75 [some (vR a0), some (vI a1), some (vI a2), some (vI a3), some (vI (a4 + (r8 * (h10 (h10 (h10 a0 0) 1) a5)))), some (vI (a5 + 1)), some (vI r8)] [] G9 h10 Q
      refine s_goto (tgt := 18) dX4_line_75 (by decide) ?_
      exact S_cut (by first | exact ⟨rfl, ⟨rfl, ⟨rfl, ⟨rfl, ⟨rfl, ⟨rfl, trivial⟩⟩⟩⟩⟩⟩ | simp [lsub]) H
    · replace H := H.2 c7
      refine s_aload_n dX4_line_33 rfl rfl ?_
      refine s_iload dX4_line_34 rfl ?_
      refine s_iload_n dX4_line_36 rfl rfl ?_
      refine s_iload_n dX4_line_37 rfl rfl ?_
      refine s_callV (M' := MX4_number) (As := [vI a5, vI a2, vI a3]) (a := a0) (st := []) dX4_line_38 ml_X4_78 cv_X4_number rfl rfl (Nat.le_of_ble_eq_true rfl) ⟨Nat.le_refl _, Nat.le_refl _⟩ f1 (R_mono (fun r14 G15 h16 H => ?_) H)
      show S l MX4_line (d + 1, 0, 0, 0, 0) 41 [some (vR a0), some (vI a1), some (vI a2), some (vI a3), some (vI a4), some (vI a5), none] [vI r14] G15 h16 Q
      refine s_goto (tgt := 52) dX4_line_41 (by decide) ?_
      refine s_istore dX4_line_52 (by decide) rfl ?_
      show S l MX4_line (d + 1, 0, 0, 0, 0) 54 [some (vR a0), some (vI a1), some (vI a2), some (vI a3), some (vI a4), some (vI a5), some (vI r14)] [] G15 h16 Q
      refine s_iload dX4_line_54 rfl ?_
      refine s_iload dX4_line_56 rfl ?_
      refine s_aload_n dX4_line_58 rfl rfl ?_
      have f17 := H.1
      replace H := H.2
      refine s_getf (c := 4) (k := 0) (t := 2) (j := 0) dX4_line_59 fl_X4_27 (by decide) (by decide) rfl rfl f17 ?_
      have f18 := H.1
      replace H := H.2
      refine s_getf (c := 1) (k := 1) (t := 2) (j := 1) dX4_line_62 fl_X4_55 (by decide) (by decide) rfl rfl f18 ?_
      refine s_iload dX4_line_65 rfl ?_
      have f19 := H.1
      replace H := H.2
      refine s_iald dX4_line_67 f19 ?_
      refine s_imul dX4_line_68 ?_
      refine s_iadd dX4_line_69 ?_
      refine s_istore dX4_line_70 (by decide) rfl ?_
      show S l MX4_line (d + 1, 0, 0, 0, 0) 72 [some (vR a0), some (vI a1), some (vI a2), some (vI a3), some (vI (a4 + (r14 * (h16 (h16 (h16 a0 0) 1) a5)))), some (vI a5), some (vI r14)] [] G15 h16 Q
      refine s_iinc dX4_line_72 rfl (by decide) rfl ?_
      show S l MX4_line (d + 1, 0, 0, 0, 0) 75 [some (vR a0), some (vI a1), some (vI a2), some (vI a3), some (vI (a4 + (r14 * (h16 (h16 (h16 a0 0) 1) a5)))), some (vI (a5 + 1)), some (vI r14)] [] G15 h16 Q
      refine s_goto (tgt := 18) dX4_line_75 (by decide) ?_
      exact S_cut (by first | exact ⟨rfl, ⟨rfl, ⟨rfl, ⟨rfl, ⟨rfl, ⟨rfl, trivial⟩⟩⟩⟩⟩⟩ | simp [lsub]) H
set_option maxHeartbeats 4000000 in
set_option maxRecDepth 100000 in
theorem vX4_addIndex_0 {l : Launch} {d : Nat} {G : GS} {h : HP} {Q : Int → GS → HP → Prop} (a0 a1 a2 a3 a4 : Int) (H : (inR a1) ∧ ((a1 ≠ 0 → S l MX4_addIndex (d + 1, 0, 0, 0, 0) 14 [some (vR a0), some (vI a1), some (vI a2), some (vI a3), some (vI a4), some (vI 0), some (vI 0)] [] G h Q) ∧ (a1 = 0 → S l MX4_addIndex (d + 1, 0, 0, 0, 0) 14 [some (vR a0), some (vI a1), some (vI a2), some (vI a3), some (vI a4), some (vI 1), some (vI 0)] [] G h Q))) : S l MX4_addIndex (d + 1, 0, 0, 0, 0) 0 [some (vR a0), some (vI a1), some (vI a2), some (vI a3), some (vI a4), none, none] [] G h Q := by
  refine s_iload_n dX4_addIndex_0 rfl rfl ?_
  have f1 := H.1
  replace H := H.2
  refine s_if_ne (tgt := 8) dX4_addIndex_1 (by decide) f1 (fun c2 => ?_) (fun c2 => ?_)
  · replace H := H.1 c2
    refine s_iconst dX4_addIndex_8 ?_
    refine s_istore dX4_addIndex_9 (by decide) rfl ?_
    show S l MX4_addIndex (d + 1, 0, 0, 0, 0) 11 [some (vR a0), some (vI a1), some (vI a2), some (vI a3), some (vI a4), some (vI 0), none] [] G h Q
    refine s_iconst dX4_addIndex_11 ?_
    refine s_istore dX4_addIndex_12 (by decide) rfl ?_
    show S l MX4_addIndex (d + 1, 0, 0, 0, 0) 14 [some (vR a0), some (vI a1), some (vI a2), some (vI a3), some (vI a4), some (vI 0), some (vI 0)] [] G h Q
    exact S_cut (by first | exact ⟨rfl, ⟨rfl, ⟨rfl, ⟨rfl, ⟨rfl, ⟨rfl, ⟨rfl, trivial⟩⟩⟩⟩⟩⟩⟩ | simp [lsub]) H
  · replace H := H.2 c2
    refine s_iconst dX4_addIndex_4 ?_
    refine s_goto (tgt := 9) dX4_addIndex_5 (by decide) ?_
    refine s_istore dX4_addIndex_9 (by decide) rfl ?_
    show S l MX4_addIndex (d + 1, 0, 0, 0, 0) 11 [some (vR a0), some (vI a1), some (vI a2), some (vI a3), some (vI a4), some (vI 1), none] [] G h Q
    refine s_iconst dX4_addIndex_11 ?_
    refine s_istore dX4_addIndex_12 (by decide) rfl ?_
    show S l MX4_addIndex (d + 1, 0, 0, 0, 0) 14 [some (vR a0), some (vI a1), some (vI a2), some (vI a3), some (vI a4), some (vI 1), some (vI 0)] [] G h Q
    exact S_cut (by first | exact ⟨rfl, ⟨rfl, ⟨rfl, ⟨rfl, ⟨rfl, ⟨rfl, ⟨rfl, trivial⟩⟩⟩⟩⟩⟩⟩ | simp [lsub]) H
set_option maxHeartbeats 4000000 in
set_option maxRecDepth 100000 in
theorem vX4_addIndex_14 {l : Launch} {d : Nat} {G : GS} {h : HP} {Q : Int → GS → HP → Prop} (a0 a1 a2 a3 a4 a5 a6 : Int) (H : (ty G a0 = 4) ∧ (inA G 10 (h a0 1) a5) ∧ (inR a6) ∧ (inR (h (h a0 1) a5)) ∧ (((h (h a0 1) a5) ≤ a6 → S l MX4_addIndex (d + 1, 0, 0, 0, 0) 120 [some (vR a0), some (vI a1), some (vI a2), some (vI a3), some (vI a4), none, some (vI 0)] [] G h Q) ∧ (a6 < (h (h a0 1) a5) → (inR a1) ∧ ((a1 ≠ 0 → ((a1 ≠ 1 → R l MX4_addIndexInFibers d 0 0 [vR a0, vI a6, vI a2, vI a3, vI a4] G h (fun r9 G10 h11 => S l MX4_addIndex (d + 1, 0, 0, 0, 0) 14 [some (vR a0), some (vI a1), some (vI a2), some (vI a3), some (vI a4), some (vI a5), some (vI (a6 + 1))] [] G10 h11 Q)) ∧ (a1 = 1 → R l MX4_fiberAt d 0 0 [vR a0, vI a6, vI a2] G h (fun r12 G13 h14 => (ty G13 a0 = 4) ∧ R l MX4_fiberAt d 0 0 [vR a0, vI a6, vI a3] G13 h14 (fun r15 G16 h17 => (ty G16 (h a0 0) = 1) ∧ R l MX1_plus d 0 0 [vR (h a0 0), vI r12, vI a4, vI r15] G16 h17 (fun r19 G20 h21 => (ty G20 a0 = 4) ∧ R l MX4_setFiber d 0 0 [vR a0, vI a6, vI a2, vI r19] G20 h21 (fun r23 G24 h25 => S l MX4_addIndex (d + 1, 0, 0, 0, 0) 14 [some (vR a0), some (vI a1), some (vI a2), some (vI a3), some (vI a4), some (vI a5), some (vI (a6 + 1))] [] G24 h25 Q))))))) ∧ (a1 = 0 → R l MX4_fiberAt d 0 0 [vR a0, vI a2, vI a6] G h (fun r27 G28 h29 => (ty G28 a0 = 4) ∧ R l MX4_fiberAt d 0 0 [vR a0, vI a3, vI a6] G28 h29 (fun r30 G31 h32 => (ty G31 (h a0 0) = 1) ∧ R l MX1_plus d 0 0 [vR (h a0 0), vI r27, vI a4, vI r30] G31 h32 (fun r34 G35 h36 => (ty G35 a0 = 4) ∧ R l MX4_setFiber d 0 0 [vR a0, vI a2, vI a6, vI r34] G35 h36 (fun r38 G39 h40 => S l MX4_addIndex (d + 1, 0, 0, 0, 0) 14 [some (vR a0), some (vI a1), some (vI a2), some (vI a3), some (vI a4), some (vI a5), some (vI (a6 + 1))] [] G39 h40 Q))))))))) : S l MX4_addIndex (d + 1, 0, 0, 0, 0) 14 [some (vR a0), some (vI a1), some (vI a2), some (vI a3), some (vI a4), some (vI a5), some (vI a6)] [] G h Q := by
  refine s_iload dX4_addIndex_14 rfl ?_
  refine s_aload_n dX4_addIndex_16 rfl rfl ?_
  have f1 := H.1
  replace H := H.2
  refine s_getf (c := 4) (k := 1) (t := 2) (j := 1) dX4_addIndex_17 fl_X4_9 (by decide) (by decide) rfl rfl f1 ?_
  refine s_iload dX4_addIndex_20 rfl ?_
  have f2 := H.1
  replace H := H.2
  refine s_iald dX4_addIndex_22 f2 ?_
  have f3 := H.1
  replace H := H.2
  have f4 := H.1
  replace H := H.2
  refine s_icmp_ge (tgt := 117) dX4_addIndex_23 (by decide) f3 f4 (fun c5 => ?_) (fun c5 => ?_)
  · replace H := H.1 c5
    refine s_iconst dX4_addIndex_117 ?_
    refine s_istore dX4_addIndex_118 (by decide) rfl ?_
    show S l MX4_addIndex (d + 1, 0, 0, 0, 0) 120 [some (vR a0), some (vI a1), some (vI a2), some (vI a3), some (vI a4), some (vI a5), some (vI 0)] [] G h Q
    exact S_cut (by first | exact ⟨rfl, ⟨rfl, ⟨rfl, ⟨rfl, ⟨rfl, ⟨rfl, trivial⟩⟩⟩⟩⟩⟩ | simp [lsub]) H
  · replace H := H.2 c5
    refine s_iload_n dX4_addIndex_26 rfl rfl ?_
    have f6 := H.1
    replace H := H.2
    refine s_if_ne (tgt := 63) dX4_addIndex_27 (by decide) f6 (fun c7 => ?_) (fun c7 => ?_)
    · replace H := H.1 c7
      refine s_iload_n dX4_addIndex_63 rfl rfl ?_
      refine s_iconst dX4_addIndex_64 ?_
      refine s_icmp_ne (tgt := 101) dX4_addIndex_65 (by decide) f6 (by decide) (fun c8 => ?_) (fun c8 => ?_)
      · replace H := H.1 c8
        refine s_aload_n dX4_addIndex_101 rfl rfl ?_
        refine s_iload dX4_addIndex_102 rfl ?_
        refine s_iload_n dX4_addIndex_104 rfl rfl ?_
        refine s_iload_n dX4_addIndex_105 rfl rfl ?_
        refine s_iload dX4_addIndex_106 rfl ?_
        refine s_callV (M' := MX4_addIndexInFibers) (As := [vI a6, vI a2, vI a3, vI a4]) (a := a0) (st := []) dX4_addIndex_108 ml_X4_110 cv_X4_addIndexInFibers rfl rfl (Nat.le_of_ble_eq_true rfl) ⟨Nat.le_refl _, Nat.le_refl _⟩ f1 (R_mono (fun r9 G10 h11 H => ?_) H)
        show S l MX4_addIndex (d + 1, 0, 0, 0, 0) 111 [some (vR a0), some (vI a1), some (vI a2), some (vI a3), some (vI a4), some (vI a5), some (vI a6)] [] G10 h11 Q
        refine s_iinc dX4_addIndex_111 rfl (by decide) rfl ?_
        show S l MX4_addIndex (d + 1, 0, 0, 0, 0) 114 [some (vR a0), some (vI a1), some (vI a2), some (vI a3), some (vI a4), some (vI a5), some (vI (a6 + 1))] [] G10 h11 Q
        refine s_goto (tgt := 14) dX4_addIndex_114 (by decide) ?_
        exact S_cut (by first | exact ⟨rfl, ⟨rfl, ⟨rfl, ⟨rfl, ⟨rfl, ⟨rfl, ⟨rfl, trivial⟩⟩⟩⟩⟩⟩⟩ | simp [lsub]) H
      · replace H := H.2 c8
        refine s_aload_n dX4_addIndex_68 rfl rfl ?_
        refine s_iload dX4_addIndex_69 rfl ?_
        refine s_iload_n dX4_addIndex_71 rfl rfl ?_
        refine s_aload_n dX4_addIndex_72 rfl rfl ?_
        refine s_getf (c := 4) (k := 0) (t := 2) (j := 0) dX4_addIndex_73 fl_X4_27 (by decide) (by decide) rfl rfl f1 ?_
        refine s_aload_n dX4_addIndex_76 rfl rfl ?_
        refine s_iload dX4_addIndex_77 rfl ?_
        refine s_iload_n dX4_addIndex_79 rfl rfl ?_
        refine s_callV (M' := MX4_fiberAt) (As := [vI a6, vI a2]) (a := a0) (st := [vR (h a0 0), vI a2, vI a6, vR a0]) dX4_addIndex_80 ml_X4_60 cv_X4_fiberAt rfl rfl (Nat.le_of_ble_eq_true rfl) ⟨Nat.le_refl _, Nat.le_refl _⟩ f1 (R_mono (fun r12 G13 h14 H => ?_) H)
        show S l MX4_addIndex (d + 1, 0, 0, 0, 0) 83 [some (vR a0), some (vI a1), some (vI a2), some (vI a3), some (vI a4), some (vI a5), some (vI a6)] [vI r12, vR (h a0 0), vI a2, vI a6, vR a0] G13 h14 Q
        refine s_iload dX4_addIndex_83 rfl ?_
        refine s_aload_n dX4_addIndex_85 rfl rfl ?_
        refine s_iload dX4_addIndex_86 rfl ?_
        refine s_iload_n dX4_addIndex_88 rfl rfl ?_
        have f18 := H.1
        replace H := H.2
        refine s_callV (M' := MX4_fiberAt) (As := [vI a6, vI a3]) (a := a0) (st := [vI a4, vI r12, vR (h a0 0), vI a2, vI a6, vR a0]) dX4_addIndex_89 ml_X4_60 cv_X4_fiberAt rfl rfl (Nat.le_of_ble_eq_true rfl) ⟨Nat.le_refl _, Nat.le_refl _⟩ f18 (R_mono (fun r15 G16 h17 H => ?_) H)
        show S l MX4_addIndex (d + 1, 0, 0, 0, 0) 92 [some (vR a0), some (vI a1), some (vI a2), some (vI a3), some (vI a4), some (vI a5), some (vI a6)] [vI r15, vI a4, vI r12, vR (h a0 0), vI a2, vI a6, vR a0] G16 h17 Q
        have f22 := H.1
        replace H := H.2
        refine s_callV (M' := MX1_plus) (As := [vI r12, vI a4, vI r15]) (a := h a0 0) (st := [vI a2, vI a6, vR a0]) dX4_addIndex_92 ml_X4_107 cv_X1_plus rfl rfl (Nat.le_of_ble_eq_true rfl) ⟨Nat.le_refl _, Nat.le_refl _⟩ f22 (R_mono (fun r19 G20 h21 H => ?_) H)
        show S l MX4_addIndex (d + 1, 0, 0, 0, 0) 95 [some (vR a0), some (vI a1), some (vI a2), some (vI a3), some (vI a4), some (vI a5), some (vI a6)] [vI r19, vI a2, vI a6, vR a0] G20 h21 Q
        have f26 := H.1
        replace H := H.2
        refine s_callV (M' := MX4_setFiber) (As := [vI a6, vI a2, vI r19]) (a := a0) (st := []) dX4_addIndex_95 ml_X4_71 cv_X4_setFiber rfl rfl (Nat.le_of_ble_eq_true rfl) ⟨Nat.le_refl _, Nat.le_refl _⟩ f26 (R_mono (fun r23 G24 h25 H => ?_) H)
        show S l MX4_addIndex (d + 1, 0, 0, 0, 0) 98 [some (vR a0), some (vI a1), some (vI a2), some (vI a3), some (vI a4), some (vI a5), some (vI a6)] [] G24 h25 Q
        refine s_goto (tgt := 111) dX4_addIndex_98 (by decide) ?_
        refine s_iinc dX4_addIndex_111 rfl (by decide) rfl ?_
        show S l MX4_addIndex (d + 1, 0, 0, 0, 0) 114 [some (vR a0), some (vI a1), some (vI a2), some (vI a3), some (vI a4), some (vI a5), some (vI (a6 + 1))] [] G24 h25 Q
        refine s_goto (tgt := 14) dX4_addIndex_114 (by decide) ?_
        exact S_cut (by first | exact ⟨rfl, ⟨rfl, ⟨rfl, ⟨rfl, ⟨rfl, ⟨rfl, ⟨rfl, trivial⟩⟩⟩⟩⟩⟩⟩ | simp [lsub]) H
    · replace H := H.2 c7
      refine s_aload_n dX4_addIndex_30 rfl rfl ?_
      refine s_iload_n dX4_addIndex_31 rfl rfl ?_
      refine s_iload dX4_addIndex_32 rfl ?_
      refine s_aload_n dX4_addIndex_34 rfl rfl ?_
      refine s_getf (c := 4) (k := 0) (t := 2) (j := 0) dX4_addIndex_35 fl_X4_27 (by decide) (by decide) rfl rfl f1 ?_
      refine s_aload_n dX4_addIndex_38 rfl rfl ?_
      refine s_iload_n dX4_addIndex_39 rfl rfl ?_
      refine s_iload dX4_addIndex_40 rfl ?_
      refine s_callV (M' := MX4_fiberAt) (As := [vI a2, vI a6]) (a := a0) (st := [vR (h a0 0), vI a6, vI a2, vR a0]) dX4_addIndex_42 ml_X4_60 cv_X4_fiberAt rfl rfl (Nat.le_of_ble_eq_true rfl) ⟨Nat.le_refl _, Nat.le_refl _⟩ f1 (R_mono (fun r27 G28 h29 H => ?_) H)
      show S l MX4_addIndex (d + 1, 0, 0, 0, 0) 45 [some (vR a0), some (vI a1), some (vI a2), some (vI a3), some (vI a4), some (vI a5), some (vI a6)] [vI r27, vR (h a0 0), vI a6, vI a2, vR a0] G28 h29 Q
      refine s_iload dX4_addIndex_45 rfl ?_
      refine s_aload_n dX4_addIndex_47 rfl rfl ?_
      refine s_iload_n dX4_addIndex_48 rfl rfl ?_
      refine s_iload dX4_addIndex_49 rfl ?_
      have f33 := H.1
      replace H := H.2
      refine s_callV (M' := MX4_fiberAt) (As := [vI a3, vI a6]) (a := a0) (st := [vI a4, vI r27, vR (h a0 0), vI a6, vI a2, vR a0]) dX4_addIndex_51 ml_X4_60 cv_X4_fiberAt rfl rfl (Nat.le_of_ble_eq_true rfl) ⟨Nat.le_refl _, Nat.le_refl _⟩ f33 (R_mono (fun r30 G31 h32 H => ?_) H)
      show S l MX4_addIndex (d + 1, 0, 0, 0, 0) 54 [some (vR a0), some (vI a1), some (vI a2), some (vI a3), some (vI a4), some (vI a5), some (vI a6)] [vI r30, vI a4, vI r27, vR (h a0 0), vI a6, vI a2, vR a0] G31 h32 Q
      have f37 := H.1
      replace H := H.2
      refine s_callV (M' := MX1_plus) (As := [vI r27, vI a4, vI r30]) (a := h a0 0) (st := [vI a6, vI a2, vR a0]) dX4_addIndex_54 ml_X4_107 cv_X1_plus rfl rfl (Nat.le_of_ble_eq_true rfl) ⟨Nat.le_refl _, Nat.le_refl _⟩ f37 (R_mono (fun r34 G35 h36 H => ?_) H)
      show S l MX4_addIndex (d + 1, 0, 0, 0, 0) 57 [some (vR a0), some (vI a1), some (vI a2), some (vI a3), some (vI a4), some (vI a5), some (vI a6)] [vI r34, vI a6, vI a2, vR a0] G35 h36 Q
      have f41 := H.1
      replace H := H.2
      refine s_callV (M' := MX4_setFiber) (As := [vI a2, vI a6, vI r34]) (a := a0) (st := []) dX4_addIndex_57 ml_X4_71 cv_X4_setFiber rfl rfl (Nat.le_of_ble_eq_true rfl) ⟨Nat.le_refl _, Nat.le_refl _⟩ f41 (R_mono (fun r38 G39 h40 H => ?_) H)
      show S l MX4_addIndex (d + 1, 0, 0, 0, 0) 60 [some (vR a0), some (vI a1), some (vI a2), some (vI a3), some (vI a4), some (vI a5), some (vI a6)] [] G39 h40 Q
      refine s_goto (tgt := 111) dX4_addIndex_60 (by decide) ?_
      refine s_iinc dX4_addIndex_111 rfl (by decide) rfl ?_
      show S l MX4_addIndex (d + 1, 0, 0, 0, 0) 114 [some (vR a0), some (vI a1), some (vI a2), some (vI a3), some (vI a4), some (vI a5), some (vI (a6 + 1))] [] G39 h40 Q
      refine s_goto (tgt := 14) dX4_addIndex_114 (by decide) ?_
      exact S_cut (by first | exact ⟨rfl, ⟨rfl, ⟨rfl, ⟨rfl, ⟨rfl, ⟨rfl, ⟨rfl, trivial⟩⟩⟩⟩⟩⟩⟩ | simp [lsub]) H
set_option maxHeartbeats 4000000 in
set_option maxRecDepth 100000 in
theorem vX4_addIndex_120 {l : Launch} {d : Nat} {G : GS} {h : HP} {Q : Int → GS → HP → Prop} (a0 a1 a2 a3 a4 a6 : Int) (H : (ty G a0 = 4) ∧ (inR a6) ∧ (inR (h a0 6)) ∧ (((h a0 6) ≤ a6 → Q 0 G h) ∧ (a6 < (h a0 6) → R l MX4_rowOf d 0 0 [vR a0, vI a1, vI a6] G h (fun r5 G6 h7 => (ty G6 a0 = 4) ∧ R l MX4_addedInRow d 0 0 [vR a0, vI r5, vI a2, vI a3, vI a4] G6 h7 (fun r8 G9 h10 => (ty G9 a0 = 4) ∧ R l MX4_put d 0 0 [vR a0, vI a1, vI a6, vI r8] G9 h10 (fun r12 G13 h14 => S l MX4_addIndex (d + 1, 0, 0, 0, 0) 120 [some (vR a0), some (vI a1), some (vI a2), some (vI a3), some (vI a4), none, some (vI (a6 + 1))] [] G13 h14 Q)))))) : S l MX4_addIndex (d + 1, 0, 0, 0, 0) 120 [some (vR a0), some (vI a1), some (vI a2), some (vI a3), some (vI a4), none, some (vI a6)] [] G h Q := by
  refine s_iload dX4_addIndex_120 rfl ?_
  refine s_aload_n dX4_addIndex_122 rfl rfl ?_
  have f1 := H.1
  replace H := H.2
  refine s_getf (c := 4) (k := 6) (t := 0) (j := 6) dX4_addIndex_123 fl_X4_41 (by decide) (by decide) rfl rfl f1 ?_
  have f2 := H.1
  replace H := H.2
  have f3 := H.1
  replace H := H.2
  refine s_icmp_ge (tgt := 157) dX4_addIndex_126 (by decide) f2 f3 (fun c4 => ?_) (fun c4 => ?_)
  · replace H := H.1 c4
    exact s_vret dX4_addIndex_157 rfl ⟨Nat.le_refl _, Nat.le_refl _⟩ H
  · replace H := H.2 c4
    refine s_aload_n dX4_addIndex_129 rfl rfl ?_
    refine s_iload_n dX4_addIndex_130 rfl rfl ?_
    refine s_iload dX4_addIndex_131 rfl ?_
    refine s_aload_n dX4_addIndex_133 rfl rfl ?_
    refine s_aload_n dX4_addIndex_134 rfl rfl ?_
    refine s_iload_n dX4_addIndex_135 rfl rfl ?_
    refine s_iload dX4_addIndex_136 rfl ?_
    refine s_callV (M' := MX4_rowOf) (As := [vI a1, vI a6]) (a := a0) (st := [vR a0, vI a6, vI a1, vR a0]) dX4_addIndex_138 ml_X4_95 cv_X4_rowOf rfl rfl (Nat.le_of_ble_eq_true rfl) ⟨Nat.le_refl _, Nat.le_refl _⟩ f1 (R_mono (fun r5 G6 h7 H => ?_) H)
    show S l MX4_addIndex (d + 1, 0, 0, 0, 0) 141 [some (vR a0), some (vI a1), some (vI a2), some (vI a3), some (vI a4), none, some (vI a6)] [vI r5, vR a0, vI a6, vI a1, vR a0] G6 h7 Q
    refine s_iload_n dX4_addIndex_141 rfl rfl ?_
    refine s_iload_n dX4_addIndex_142 rfl rfl ?_
    refine s_iload dX4_addIndex_143 rfl ?_
    have f11 := H.1
    replace H := H.2
    refine s_callV (M' := MX4_addedInRow) (As := [vI r5, vI a2, vI a3, vI a4]) (a := a0) (st := [vI a6, vI a1, vR a0]) dX4_addIndex_145 ml_X4_114 cv_X4_addedInRow rfl rfl (Nat.le_of_ble_eq_true rfl) ⟨Nat.le_refl _, Nat.le_refl _⟩ f11 (R_mono (fun r8 G9 h10 H => ?_) H)
    show S l MX4_addIndex (d + 1, 0, 0, 0, 0) 148 [some (vR a0), some (vI a1), some (vI a2), some (vI a3), some (vI a4), none, some (vI a6)] [vI r8, vI a6, vI a1, vR a0] G9 h10 Q
    have f15 := H.1
    replace H := H.2
    refine s_callV (M' := MX4_put) (As := [vI a1, vI a6, vI r8]) (a := a0) (st := []) dX4_addIndex_148 ml_X4_85 cv_X4_put rfl rfl (Nat.le_of_ble_eq_true rfl) ⟨Nat.le_refl _, Nat.le_refl _⟩ f15 (R_mono (fun r12 G13 h14 H => ?_) H)
    show S l MX4_addIndex (d + 1, 0, 0, 0, 0) 151 [some (vR a0), some (vI a1), some (vI a2), some (vI a3), some (vI a4), none, some (vI a6)] [] G13 h14 Q
    refine s_iinc dX4_addIndex_151 rfl (by decide) rfl ?_
    show S l MX4_addIndex (d + 1, 0, 0, 0, 0) 154 [some (vR a0), some (vI a1), some (vI a2), some (vI a3), some (vI a4), none, some (vI (a6 + 1))] [] G13 h14 Q
    refine s_goto (tgt := 120) dX4_addIndex_154 (by decide) ?_
    exact S_cut (by first | exact ⟨rfl, ⟨rfl, ⟨rfl, ⟨rfl, ⟨rfl, ⟨rfl, trivial⟩⟩⟩⟩⟩⟩ | simp [lsub]) H
set_option maxHeartbeats 4000000 in
set_option maxRecDepth 100000 in
theorem vX4_addIndexInFibers_0 {l : Launch} {d : Nat} {G : GS} {h : HP} {Q : Int → GS → HP → Prop} (a0 a1 a2 a3 a4 : Int) (H : S l MX4_addIndexInFibers (d + 1, 0, 0, 0, 0) 3 [some (vR a0), some (vI a1), some (vI a2), some (vI a3), some (vI a4), some (vI 0)] [] G h Q) : S l MX4_addIndexInFibers (d + 1, 0, 0, 0, 0) 0 [some (vR a0), some (vI a1), some (vI a2), some (vI a3), some (vI a4), none] [] G h Q := by
  refine s_iconst dX4_addIndexInFibers_0 ?_
  refine s_istore dX4_addIndexInFibers_1 (by decide) rfl ?_
  show S l MX4_addIndexInFibers (d + 1, 0, 0, 0, 0) 3 [some (vR a0), some (vI a1), some (vI a2), some (vI a3), some (vI a4), some (vI 0)] [] G h Q
  exact S_cut (by first | exact ⟨rfl, ⟨rfl, ⟨rfl, ⟨rfl, ⟨rfl, ⟨rfl, trivial⟩⟩⟩⟩⟩⟩ | simp [lsub]) H
set_option maxHeartbeats 4000000 in
set_option maxRecDepth 100000 in
theorem vX4_addIndexInFibers_3 {l : Launch} {d : Nat} {G : GS} {h : HP} {Q : Int → GS → HP → Prop} (a0 a1 a2 a3 a4 a5 : Int) (H : (ty G a0 = 4) ∧ (inA G 10 (h a0 1) 1) ∧ (inR a5) ∧ (inR (h (h a0 1) 1)) ∧ (((h (h a0 1) 1) ≤ a5 → Q 0 G h) ∧ (a5 < (h (h a0 1) 1) → R l MX4_fiberAt d 0 0 [vR a0, vI a1, vI a5] G h (fun r6 G7 h8 => (ty G7 a0 = 4) ∧ R l MX4_addedInRow d 0 0 [vR a0, vI r6, vI a2, vI a3, vI a4] G7 h8 (fun r9 G10 h11 => (ty G10 a0 = 4) ∧ R l MX4_setFiber d 0 0 [vR a0, vI a1, vI a5, vI r9] G10 h11 (fun r13 G14 h15 => S l MX4_addIndexInFibers (d + 1, 0, 0, 0, 0) 3 [some (vR a0), some (vI a1), some (vI a2), some (vI a3), some (vI a4), some (vI (a5 + 1))] [] G14 h15 Q)))))) : S l MX4_addIndexInFibers (d + 1, 0, 0, 0, 0) 3 [some (vR a0), some (vI a1), some (vI a2), some (vI a3), some (vI a4), some (vI a5)] [] G h Q := by
  refine s_iload dX4_addIndexInFibers_3 rfl ?_
  refine s_aload_n dX4_addIndexInFibers_5 rfl rfl ?_
  have f1 := H.1
  replace H := H.2
  refine s_getf (c := 4) (k := 1) (t := 2) (j := 1) dX4_addIndexInFibers_6 fl_X4_9 (by decide) (by decide) rfl rfl f1 ?_
  refine s_iconst dX4_addIndexInFibers_9 ?_
  have f2 := H.1
  replace H := H.2
  refine s_iald dX4_addIndexInFibers_10 f2 ?_
  have f3 := H.1
  replace H := H.2
  have f4 := H.1
  replace H := H.2
  refine s_icmp_ge (tgt := 42) dX4_addIndexInFibers_11 (by decide) f3 f4 (fun c5 => ?_) (fun c5 => ?_)
  · replace H := H.1 c5
    exact s_vret dX4_addIndexInFibers_42 rfl ⟨Nat.le_refl _, Nat.le_refl _⟩ H
  · replace H := H.2 c5
    refine s_aload_n dX4_addIndexInFibers_14 rfl rfl ?_
    refine s_iload_n dX4_addIndexInFibers_15 rfl rfl ?_
    refine s_iload dX4_addIndexInFibers_16 rfl ?_
    refine s_aload_n dX4_addIndexInFibers_18 rfl rfl ?_
    refine s_aload_n dX4_addIndexInFibers_19 rfl rfl ?_
    refine s_iload_n dX4_addIndexInFibers_20 rfl rfl ?_
    refine s_iload dX4_addIndexInFibers_21 rfl ?_
    refine s_callV (M' := MX4_fiberAt) (As := [vI a1, vI a5]) (a := a0) (st := [vR a0, vI a5, vI a1, vR a0]) dX4_addIndexInFibers_23 ml_X4_60 cv_X4_fiberAt rfl rfl (Nat.le_of_ble_eq_true rfl) ⟨Nat.le_refl _, Nat.le_refl _⟩ f1 (R_mono (fun r6 G7 h8 H => ?_) H)
    show S l MX4_addIndexInFibers (d + 1, 0, 0, 0, 0) 26 [some (vR a0), some (vI a1), some (vI a2), some (vI a3), some (vI a4), some (vI a5)] [vI r6, vR a0, vI a5, vI a1, vR a0] G7 h8 Q
    refine s_iload_n dX4_addIndexInFibers_26 rfl rfl ?_
    refine s_iload_n dX4_addIndexInFibers_27 rfl rfl ?_
    refine s_iload dX4_addIndexInFibers_28 rfl ?_
    have f12 := H.1
    replace H := H.2
    refine s_callV (M' := MX4_addedInRow) (As := [vI r6, vI a2, vI a3, vI a4]) (a := a0) (st := [vI a5, vI a1, vR a0]) dX4_addIndexInFibers_30 ml_X4_114 cv_X4_addedInRow rfl rfl (Nat.le_of_ble_eq_true rfl) ⟨Nat.le_refl _, Nat.le_refl _⟩ f12 (R_mono (fun r9 G10 h11 H => ?_) H)
    show S l MX4_addIndexInFibers (d + 1, 0, 0, 0, 0) 33 [some (vR a0), some (vI a1), some (vI a2), some (vI a3), some (vI a4), some (vI a5)] [vI r9, vI a5, vI a1, vR a0] G10 h11 Q
    have f16 := H.1
    replace H := H.2
    refine s_callV (M' := MX4_setFiber) (As := [vI a1, vI a5, vI r9]) (a := a0) (st := []) dX4_addIndexInFibers_33 ml_X4_71 cv_X4_setFiber rfl rfl (Nat.le_of_ble_eq_true rfl) ⟨Nat.le_refl _, Nat.le_refl _⟩ f16 (R_mono (fun r13 G14 h15 H => ?_) H)
    show S l MX4_addIndexInFibers (d + 1, 0, 0, 0, 0) 36 [some (vR a0), some (vI a1), some (vI a2), some (vI a3), some (vI a4), some (vI a5)] [] G14 h15 Q
    refine s_iinc dX4_addIndexInFibers_36 rfl (by decide) rfl ?_
    show S l MX4_addIndexInFibers (d + 1, 0, 0, 0, 0) 39 [some (vR a0), some (vI a1), some (vI a2), some (vI a3), some (vI a4), some (vI (a5 + 1))] [] G14 h15 Q
    refine s_goto (tgt := 3) dX4_addIndexInFibers_39 (by decide) ?_
    exact S_cut (by first | exact ⟨rfl, ⟨rfl, ⟨rfl, ⟨rfl, ⟨rfl, ⟨rfl, trivial⟩⟩⟩⟩⟩⟩ | simp [lsub]) H
set_option maxHeartbeats 4000000 in
set_option maxRecDepth 100000 in
theorem vX4_addedInRow_0 {l : Launch} {d : Nat} {G : GS} {h : HP} {Q : Int → GS → HP → Prop} (a0 a1 a2 a3 a4 : Int) (H : (ty G a0 = 4) ∧ (ty G (h a0 0) = 1) ∧ R l MX1_number d 0 0 [vR (h a0 0), vI a1, vI a2] G h (fun r2 G3 h4 => (ty G3 a0 = 4) ∧ (ty G3 (h4 a0 0) = 1) ∧ R l MX1_number d 0 0 [vR (h4 a0 0), vI a1, vI a3] G3 h4 (fun r7 G8 h9 => (ty G8 a0 = 4) ∧ (ty G8 (h9 a0 0) = 1) ∧ (dvR (r2 + (a4 * r7)) (h9 (h9 a0 0) 0)) ∧ R l MX1_withNumber d 0 0 [vR (h9 a0 0), vI a1, vI a2, vI ((r2 + (a4 * r7)) % (h9 (h9 a0 0) 0))] G8 h9 (fun r14 G15 h16 => Q r14 G15 h16)))) : S l MX4_addedInRow (d + 1, 0, 0, 0, 0) 0 [some (vR a0), some (vI a1), some (vI a2), some (vI a3), some (vI a4), none] [] G h Q := by
  refine s_aload_n dX4_addedInRow_0 rfl rfl ?_
  have f1 := H.1
  replace H := H.2
  refine s_getf (c := 4) (k := 0) (t := 2) (j := 0) dX4_addedInRow_1 fl_X4_27 (by decide) (by decide) rfl rfl f1 ?_
  refine s_iload_n dX4_addedInRow_4 rfl rfl ?_
  refine s_iload_n dX4_addedInRow_5 rfl rfl ?_
  have f5 := H.1
  replace H := H.2
  refine s_callV (M' := MX1_number) (As := [vI a1, vI a2]) (a := h a0 0) (st := []) dX4_addedInRow_6 ml_X4_64 cv_X1_number rfl rfl (Nat.le_of_ble_eq_true rfl) ⟨Nat.le_refl _, Nat.le_refl _⟩ f5 (R_mono (fun r2 G3 h4 H => ?_) H)
  show S l MX4_addedInRow (d + 1, 0, 0, 0, 0) 9 [some (vR a0), some (vI a1), some (vI a2), some (vI a3), some (vI a4), none] [vI r2] G3 h4 Q
  refine s_iload dX4_addedInRow_9 rfl ?_
  refine s_aload_n dX4_addedInRow_11 rfl rfl ?_
  have f6 := H.1
  replace H := H.2
  refine s_getf (c := 4) (k := 0) (t := 2) (j := 0) dX4_addedInRow_12 fl_X4_27 (by decide) (by decide) rfl rfl f6 ?_
  refine s_iload_n dX4_addedInRow_15 rfl rfl ?_
  refine s_iload_n dX4_addedInRow_16 rfl rfl ?_
  have f10 := H.1
  replace H := H.2
  refine s_callV (M' := MX1_number) (As := [vI a1, vI a3]) (a := h4 a0 0) (st := [vI a4, vI r2]) dX4_addedInRow_17 ml_X4_64 cv_X1_number rfl rfl (Nat.le_of_ble_eq_true rfl) ⟨Nat.le_refl _, Nat.le_refl _⟩ f10 (R_mono (fun r7 G8 h9 H => ?_) H)
  show S l MX4_addedInRow (d + 1, 0, 0, 0, 0) 20 [some (vR a0), some (vI a1), some (vI a2), some (vI a3), some (vI a4), none] [vI r7, vI a4, vI r2] G8 h9 Q
  refine s_imul dX4_addedInRow_20 ?_
  refine s_iadd dX4_addedInRow_21 ?_
  refine s_aload_n dX4_addedInRow_22 rfl rfl ?_
  have f11 := H.1
  replace H := H.2
  refine s_getf (c := 4) (k := 0) (t := 2) (j := 0) dX4_addedInRow_23 fl_X4_27 (by decide) (by decide) rfl rfl f11 ?_
  have f12 := H.1
  replace H := H.2
  refine s_getf (c := 1) (k := 0) (t := 0) (j := 0) dX4_addedInRow_26 fl_X4_104 (by decide) (by decide) rfl rfl f12 ?_
  have f13 := H.1
  replace H := H.2
  refine s_irem dX4_addedInRow_29 f13 ?_
  refine s_istore dX4_addedInRow_30 (by decide) rfl ?_
  show S l MX4_addedInRow (d + 1, 0, 0, 0, 0) 32 [some (vR a0), some (vI a1), some (vI a2), some (vI a3), some (vI a4), some (vI ((r2 + (a4 * r7)) % (h9 (h9 a0 0) 0)))] [] G8 h9 Q
  refine s_aload_n dX4_addedInRow_32 rfl rfl ?_
  refine s_getf (c := 4) (k := 0) (t := 2) (j := 0) dX4_addedInRow_33 fl_X4_27 (by decide) (by decide) rfl rfl f11 ?_
  refine s_iload_n dX4_addedInRow_36 rfl rfl ?_
  refine s_iload_n dX4_addedInRow_37 rfl rfl ?_
  refine s_iload dX4_addedInRow_38 rfl ?_
  refine s_callV (M' := MX1_withNumber) (As := [vI a1, vI a2, vI ((r2 + (a4 * r7)) % (h9 (h9 a0 0) 0))]) (a := h9 a0 0) (st := []) dX4_addedInRow_40 ml_X4_67 cv_X1_withNumber rfl rfl (Nat.le_of_ble_eq_true rfl) ⟨Nat.le_refl _, Nat.le_refl _⟩ f12 (R_mono (fun r14 G15 h16 H => ?_) H)
  show S l MX4_addedInRow (d + 1, 0, 0, 0, 0) 43 [some (vR a0), some (vI a1), some (vI a2), some (vI a3), some (vI a4), some (vI ((r2 + (a4 * r7)) % (h9 (h9 a0 0) 0)))] [vI r14] G15 h16 Q
  exact s_iret dX4_addedInRow_43 rfl ⟨Nat.le_refl _, Nat.le_refl _⟩ H
set_option maxHeartbeats 4000000 in
set_option maxRecDepth 100000 in
theorem vX4_copyFrom_0 {l : Launch} {d : Nat} {G : GS} {h : HP} {Q : Int → GS → HP → Prop} (a0 a1 : Int) (H : (ty G a1 = 4) ∧ (ty G a0 = 4) ∧ (cpA G (h a1 1) 0 (h a0 1) 0 3) ∧ ∀ h4 : HP, h4 = hcopy h (h a1 1) 0 (h a0 1) 0 3 → (cpA G (h4 a1 2) 0 (h4 a0 2) 0 81) ∧ ∀ h6 : HP, h6 = hcopy h4 (h4 a1 2) 0 (h4 a0 2) 0 81 → (cpA G (h6 a1 3) 0 (h6 a0 3) 0 120) ∧ ∀ h8 : HP, h8 = hcopy h6 (h6 a1 3) 0 (h6 a0 3) 0 120 → (cpA G (h8 a1 4) 0 (h8 a0 4) 0 120) ∧ ∀ h10 : HP, h10 = hcopy h8 (h8 a1 4) 0 (h8 a0 4) 0 120 → (cpA G (h10 a1 5) 0 (h10 a0 5) 0 120) ∧ ∀ h12 : HP, h12 = hcopy h10 (h10 a1 5) 0 (h10 a0 5) 0 120 → ∀ h13 : HP, h13 = hset h12 a0 6 (h12 a1 6) → Q 0 G h13) : S l MX4_copyFrom (d + 1, 0, 0, 0, 0) 0 [some (vR a0), some (vR a1)] [] G h Q := by
  refine s_aload_n dX4_copyFrom_0 rfl rfl ?_
  have f1 := H.1
  replace H := H.2
  refine s_getf (c := 4) (k := 1) (t := 2) (j := 1) dX4_copyFrom_1 fl_X4_9 (by decide) (by decide) rfl rfl f1 ?_
  refine s_iconst dX4_copyFrom_4 ?_
  refine s_aload_n dX4_copyFrom_5 rfl rfl ?_
  have f2 := H.1
  replace H := H.2
  refine s_getf (c := 4) (k := 1) (t := 2) (j := 1) dX4_copyFrom_6 fl_X4_9 (by decide) (by decide) rfl rfl f2 ?_
  refine s_iconst dX4_copyFrom_9 ?_
  refine s_iconst dX4_copyFrom_10 ?_
  have f3 := H.1
  replace H := H.2
  refine s_copy dX4_copyFrom_11 ml_X4_45 ac_native ac_static ac_init (Nat.succ_le_succ (Nat.zero_le _)) (Nat.le_of_ble_eq_true rfl) f3 (fun h4 eh4 => ?_)
  replace H := H h4 eh4
  refine s_aload_n dX4_copyFrom_14 rfl rfl ?_
  refine s_getf (c := 4) (k := 2) (t := 2) (j := 2) dX4_copyFrom_15 fl_X4_15 (by decide) (by decide) rfl rfl f1 ?_
  refine s_iconst dX4_copyFrom_18 ?_
  refine s_aload_n dX4_copyFrom_19 rfl rfl ?_
  refine s_getf (c := 4) (k := 2) (t := 2) (j := 2) dX4_copyFrom_20 fl_X4_15 (by decide) (by decide) rfl rfl f2 ?_
  refine s_iconst dX4_copyFrom_23 ?_
  refine s_bipush dX4_copyFrom_24 (by decide) ?_
  have f5 := H.1
  replace H := H.2
  refine s_copy dX4_copyFrom_26 ml_X4_45 ac_native ac_static ac_init (Nat.succ_le_succ (Nat.zero_le _)) (Nat.le_of_ble_eq_true rfl) f5 (fun h6 eh6 => ?_)
  replace H := H h6 eh6
  refine s_aload_n dX4_copyFrom_29 rfl rfl ?_
  refine s_getf (c := 4) (k := 3) (t := 2) (j := 3) dX4_copyFrom_30 fl_X4_18 (by decide) (by decide) rfl rfl f1 ?_
  refine s_iconst dX4_copyFrom_33 ?_
  refine s_aload_n dX4_copyFrom_34 rfl rfl ?_
  refine s_getf (c := 4) (k := 3) (t := 2) (j := 3) dX4_copyFrom_35 fl_X4_18 (by decide) (by decide) rfl rfl f2 ?_
  refine s_iconst dX4_copyFrom_38 ?_
  refine s_bipush dX4_copyFrom_39 (by decide) ?_
  have f7 := H.1
  replace H := H.2
  refine s_copy dX4_copyFrom_41 ml_X4_45 ac_native ac_static ac_init (Nat.succ_le_succ (Nat.zero_le _)) (Nat.le_of_ble_eq_true rfl) f7 (fun h8 eh8 => ?_)
  replace H := H h8 eh8
  refine s_aload_n dX4_copyFrom_44 rfl rfl ?_
  refine s_getf (c := 4) (k := 4) (t := 2) (j := 4) dX4_copyFrom_45 fl_X4_21 (by decide) (by decide) rfl rfl f1 ?_
  refine s_iconst dX4_copyFrom_48 ?_
  refine s_aload_n dX4_copyFrom_49 rfl rfl ?_
  refine s_getf (c := 4) (k := 4) (t := 2) (j := 4) dX4_copyFrom_50 fl_X4_21 (by decide) (by decide) rfl rfl f2 ?_
  refine s_iconst dX4_copyFrom_53 ?_
  refine s_bipush dX4_copyFrom_54 (by decide) ?_
  have f9 := H.1
  replace H := H.2
  refine s_copy dX4_copyFrom_56 ml_X4_45 ac_native ac_static ac_init (Nat.succ_le_succ (Nat.zero_le _)) (Nat.le_of_ble_eq_true rfl) f9 (fun h10 eh10 => ?_)
  replace H := H h10 eh10
  refine s_aload_n dX4_copyFrom_59 rfl rfl ?_
  refine s_getf (c := 4) (k := 5) (t := 2) (j := 5) dX4_copyFrom_60 fl_X4_24 (by decide) (by decide) rfl rfl f1 ?_
  refine s_iconst dX4_copyFrom_63 ?_
  refine s_aload_n dX4_copyFrom_64 rfl rfl ?_
  refine s_getf (c := 4) (k := 5) (t := 2) (j := 5) dX4_copyFrom_65 fl_X4_24 (by decide) (by decide) rfl rfl f2 ?_
  refine s_iconst dX4_copyFrom_68 ?_
  refine s_bipush dX4_copyFrom_69 (by decide) ?_
  have f11 := H.1
  replace H := H.2
  refine s_copy dX4_copyFrom_71 ml_X4_45 ac_native ac_static ac_init (Nat.succ_le_succ (Nat.zero_le _)) (Nat.le_of_ble_eq_true rfl) f11 (fun h12 eh12 => ?_)
  replace H := H h12 eh12
  refine s_aload_n dX4_copyFrom_74 rfl rfl ?_
  refine s_aload_n dX4_copyFrom_75 rfl rfl ?_
  refine s_getf (c := 4) (k := 6) (t := 0) (j := 6) dX4_copyFrom_76 fl_X4_41 (by decide) (by decide) rfl rfl f1 ?_
  refine s_putI (c := 4) (k := 6) (j := 6) dX4_copyFrom_79 fl_X4_41 (by decide) (by decide) rfl rfl rfl f2 (fun h13 eh13 => ?_)
  replace H := H h13 eh13
  exact s_vret dX4_copyFrom_82 rfl ⟨Nat.le_refl _, Nat.le_refl _⟩ H
