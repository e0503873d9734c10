set_option maxHeartbeats 4000000 in
set_option maxRecDepth 100000 in
theorem vX1_init_0 {l : Launch} {d : Nat} {mc ms cu su : Nat} {G : GS} {h : HP} {Q : Int → GS → HP → Prop} (a0 : Int) (H : (0 ≤ a0) ∧ (cu + 1 ≤ mc ∧ su + 10 ≤ ms) ∧ ∀ (G2 : GS) (h3 : HP), G2 = G ++ [(10, 10)] → h3 = hcl h (G.length : Int) (fun _ => 0) → (ty G2 a0 = 1) ∧ ∀ h6 : HP, h6 = hset h3 a0 1 ((G.length : Int)) → (cu + 1 + 1 ≤ mc ∧ su + 10 + 7 ≤ ms) ∧ ∀ (G7 : GS) (h8 : HP), G7 = G2 ++ [(10, 7)] → h8 = hcl h6 (G2.length : Int) (fun _ => 0) → (ty G7 a0 = 1) ∧ ∀ h11 : HP, h11 = hset h8 a0 2 ((G2.length : Int)) → R l MX1_become d 0 0 [vR a0, vI 2] G7 h11 (fun r12 G13 h14 => (cu + 1 + 1 ≤ mc ∧ su + 10 + 7 ≤ ms) ∧ Q 0 G13 h14)) : S l MX1_init (d + 1, mc, ms, cu, su) 0 [some (vR a0)] [] G h Q := by
  refine s_aload_n dX1_init_0 rfl rfl ?_
  have f1 := H.1
  replace H := H.2
  refine s_objInit dX1_init_1 ml_X1_3 oi_inst oi_code f1 (Nat.le_of_ble_eq_true rfl) ?_
  refine s_aload_n dX1_init_4 rfl rfl ?_
  refine s_bipush dX1_init_5 (by decide) ?_
  have f4 := H.1
  replace H := H.2
  refine s_newIH (n := 10) dX1_init_7 ka_int (by decide) f4 (fun G2 h3 egG2 eh3 => ?_)
  replace H := H G2 h3 egG2 eh3
  show S l MX1_init (d + 1, mc, ms, cu + 1, su + 10) 9 [some (vR a0)] [vR ((G.length : Int)), vR a0] G2 h3 Q
  have f5 := H.1
  replace H := H.2
  refine s_putFR (c := 1) (k := 1) (j := 1) dX1_init_9 fl_X1_9 (by decide) (by decide) rfl rfl rfl (Or.inr ⟨_, rfl⟩) rfl rfl f5 (fun h6 eh6 => ?_)
  replace H := H h6 eh6
  refine s_aload_n dX1_init_12 rfl rfl ?_
  refine s_bipush dX1_init_13 (by decide) ?_
  have f9 := H.1
  replace H := H.2
  refine s_newIH (n := 7) dX1_init_15 ka_int (by decide) f9 (fun G7 h8 egG7 eh8 => ?_)
  replace H := H G7 h8 egG7 eh8
  show S l MX1_init (d + 1, mc, ms, cu + 1 + 1, su + 10 + 7) 17 [some (vR a0)] [vR ((G2.length : Int)), vR a0] G7 h8 Q
  have f10 := H.1
  replace H := H.2
  refine s_putFR (c := 1) (k := 2) (j := 2) dX1_init_17 fl_X1_15 (by decide) (by decide) rfl rfl rfl (Or.inr ⟨_, rfl⟩) rfl rfl f10 (fun h11 eh11 => ?_)
  replace H := H h11 eh11
  refine s_aload_n dX1_init_20 rfl rfl ?_
  refine s_iconst dX1_init_21 ?_
  refine s_callV (M' := MX1_become) (As := [vI 2]) (a := a0) (st := []) dX1_init_22 ml_X1_18 cv_X1_become rfl rfl (Nat.le_of_ble_eq_true rfl) f9 f10 (R_mono (fun r12 G13 h14 H => ?_) H)
  show S l MX1_init (d + 1, mc, ms, cu + 1 + 1, su + 10 + 7) 25 [some (vR a0)] [] G13 h14 Q
  have f15 := H.1
  replace H := H.2
  exact s_vret dX1_init_25 rfl f15 H
set_option maxHeartbeats 4000000 in
set_option maxRecDepth 100000 in
theorem vX4_init_0 {l : Launch} {d : Nat} {mc ms cu su : Nat} {G : GS} {h : HP} {Q : Int → GS → HP → Prop} (a0 a1 : Int) (H : (0 ≤ a0) ∧ (cu + 1 ≤ mc ∧ su + 3 ≤ ms) ∧ ∀ (G2 : GS) (h3 : HP), G2 = G ++ [(10, 3)] → h3 = hcl h (G.length : Int) (fun _ => 0) → (ty G2 a0 = 4) ∧ ∀ h6 : HP, h6 = hset h3 a0 1 ((G.length : Int)) → (cu + 1 + 1 ≤ mc ∧ su + 3 + 81 ≤ ms) ∧ ∀ (G7 : GS) (h8 : HP), G7 = G2 ++ [(10, 81)] → h8 = hcl h6 (G2.length : Int) (fun _ => 0) → (ty G7 a0 = 4) ∧ ∀ h11 : HP, h11 = hset h8 a0 2 ((G2.length : Int)) → (cu + 1 + 1 + 1 ≤ mc ∧ su + 3 + 81 + 120 ≤ ms) ∧ ∀ (G12 : GS) (h13 : HP), G12 = G7 ++ [(10, 120)] → h13 = hcl h11 (G7.length : Int) (fun _ => 0) → (ty G12 a0 = 4) ∧ ∀ h16 : HP, h16 = hset h13 a0 3 ((G7.length : Int)) → (cu + 1 + 1 + 1 + 1 ≤ mc ∧ su + 3 + 81 + 120 + 120 ≤ ms) ∧ ∀ (G17 : GS) (h18 : HP), G17 = G12 ++ [(10, 120)] → h18 = hcl h16 (G12.length : Int) (fun _ => 0) → (ty G17 a0 = 4) ∧ ∀ h21 : HP, h21 = hset h18 a0 4 ((G12.length : Int)) → (cu + 1 + 1 + 1 + 1 + 1 ≤ mc ∧ su + 3 + 81 + 120 + 120 + 120 ≤ ms) ∧ ∀ (G22 : GS) (h23 : HP), G22 = G17 ++ [(10, 120)] → h23 = hcl h21 (G17.length : Int) (fun _ => 0) → (ty G22 a0 = 4) ∧ ∀ h26 : HP, h26 = hset h23 a0 5 ((G17.length : Int)) → ∀ h27 : HP, h27 = hset h26 a0 0 a1 → R l MX4_start d 0 0 [vR a0, vI 1, vI 1, vI 1] G22 h27 (fun r28 G29 h30 => (cu + 1 + 1 + 1 + 1 + 1 ≤ mc ∧ su + 3 + 81 + 120 + 120 + 120 ≤ ms) ∧ Q 0 G29 h30)) : S l MX4_init (d + 1, mc, ms, cu, su) 0 [some (vR a0), some (vR a1)] [] G h Q := by
  refine s_aload_n dX4_init_0 rfl rfl ?_
  have f1 := H.1
  replace H := H.2
  refine s_objInit dX4_init_1 ml_X4_3 oi_inst oi_code f1 (Nat.le_of_ble_eq_true rfl) ?_
  refine s_aload_n dX4_init_4 rfl rfl ?_
  refine s_iconst dX4_init_5 ?_
  have f4 := H.1
  replace H := H.2
  refine s_newIH (n := 3) dX4_init_6 ka_int (by decide) f4 (fun G2 h3 egG2 eh3 => ?_)
  replace H := H G2 h3 egG2 eh3
  show S l MX4_init (d + 1, mc, ms, cu + 1, su + 3) 8 [some (vR a0), some (vR a1)] [vR ((G.length : Int)), vR a0] G2 h3 Q
  have f5 := H.1
  replace H := H.2
  refine s_putFR (c := 4) (k := 1) (j := 1) dX4_init_8 fl_X4_9 (by decide) (by decide) rfl rfl rfl (Or.inr ⟨_, rfl⟩) rfl rfl f5 (fun h6 eh6 => ?_)
  replace H := H h6 eh6
  refine s_aload_n dX4_init_11 rfl rfl ?_
  refine s_bipush dX4_init_12 (by decide) ?_
  have f9 := H.1
  replace H := H.2
  refine s_newIH (n := 81) dX4_init_14 ka_int (by decide) f9 (fun G7 h8 egG7 eh8 => ?_)
  replace H := H G7 h8 egG7 eh8
  show S l MX4_init (d + 1, mc, ms, cu + 1 + 1, su + 3 + 81) 16 [some (vR a0), some (vR a1)] [vR ((G2.length : Int)), vR a0] G7 h8 Q
  have f10 := H.1
  replace H := H.2
  refine s_putFR (c := 4) (k := 2) (j := 2) dX4_init_16 fl_X4_15 (by decide) (by decide) rfl rfl rfl (Or.inr ⟨_, rfl⟩) rfl rfl f10 (fun h11 eh11 => ?_)
  replace H := H h11 eh11
  refine s_aload_n dX4_init_19 rfl rfl ?_
  refine s_bipush dX4_init_20 (by decide) ?_
  have f14 := H.1
  replace H := H.2
  refine s_newIH (n := 120) dX4_init_22 ka_int (by decide) f14 (fun G12 h13 egG12 eh13 => ?_)
  replace H := H G12 h13 egG12 eh13
  show S l MX4_init (d + 1, mc, ms, cu + 1 + 1 + 1, su + 3 + 81 + 120) 24 [some (vR a0), some (vR a1)] [vR ((G7.length : Int)), vR a0] G12 h13 Q
  have f15 := H.1
  replace H := H.2
  refine s_putFR (c := 4) (k := 3) (j := 3) dX4_init_24 fl_X4_18 (by decide) (by decide) rfl rfl rfl (Or.inr ⟨_, rfl⟩) rfl rfl f15 (fun h16 eh16 => ?_)
  replace H := H h16 eh16
  refine s_aload_n dX4_init_27 rfl rfl ?_
  refine s_bipush dX4_init_28 (by decide) ?_
  have f19 := H.1
  replace H := H.2
  refine s_newIH (n := 120) dX4_init_30 ka_int (by decide) f19 (fun G17 h18 egG17 eh18 => ?_)
  replace H := H G17 h18 egG17 eh18
  show S l MX4_init (d + 1, mc, ms, cu + 1 + 1 + 1 + 1, su + 3 + 81 + 120 + 120) 32 [some (vR a0), some (vR a1)] [vR ((G12.length : Int)), vR a0] G17 h18 Q
  have f20 := H.1
  replace H := H.2
  refine s_putFR (c := 4) (k := 4) (j := 4) dX4_init_32 fl_X4_21 (by decide) (by decide) rfl rfl rfl (Or.inr ⟨_, rfl⟩) rfl rfl f20 (fun h21 eh21 => ?_)
  replace H := H h21 eh21
  refine s_aload_n dX4_init_35 rfl rfl ?_
  refine s_bipush dX4_init_36 (by decide) ?_
  have f24 := H.1
  replace H := H.2
  refine s_newIH (n := 120) dX4_init_38 ka_int (by decide) f24 (fun G22 h23 egG22 eh23 => ?_)
  replace H := H G22 h23 egG22 eh23
  show S l MX4_init (d + 1, mc, ms, cu + 1 + 1 + 1 + 1 + 1, su + 3 + 81 + 120 + 120 + 120) 40 [some (vR a0), some (vR a1)] [vR ((G17.length : Int)), vR a0] G22 h23 Q
  have f25 := H.1
  replace H := H.2
  refine s_putFR (c := 4) (k := 5) (j := 5) dX4_init_40 fl_X4_24 (by decide) (by decide) rfl rfl rfl (Or.inr ⟨_, rfl⟩) rfl rfl f25 (fun h26 eh26 => ?_)
  replace H := H h26 eh26
  refine s_aload_n dX4_init_43 rfl rfl ?_
  refine s_aload_n dX4_init_44 rfl rfl ?_
  refine s_putFR (c := 4) (k := 0) (j := 0) dX4_init_45 fl_X4_27 (by decide) (by decide) rfl rfl rfl (Or.inl ⟨_, rfl⟩) rfl rfl f25 (fun h27 eh27 => ?_)
  replace H := H h27 eh27
  refine s_aload_n dX4_init_48 rfl rfl ?_
  refine s_iconst dX4_init_49 ?_
  refine s_iconst dX4_init_50 ?_
  refine s_iconst dX4_init_51 ?_
  refine s_callV (M' := MX4_start) (As := [vI 1, vI 1, vI 1]) (a := a0) (st := []) dX4_init_52 ml_X4_31 cv_X4_start rfl rfl (Nat.le_of_ble_eq_true rfl) f24 f25 (R_mono (fun r28 G29 h30 H => ?_) H)
  show S l MX4_init (d + 1, mc, ms, cu + 1 + 1 + 1 + 1 + 1, su + 3 + 81 + 120 + 120 + 120) 55 [some (vR a0), some (vR a1)] [] G29 h30 Q
  have f31 := H.1
  replace H := H.2
  exact s_vret dX4_init_55 rfl f31 H
set_option maxHeartbeats 4000000 in
set_option maxRecDepth 100000 in
theorem vX3_init_0 {l : Launch} {d : Nat} {mc ms cu su : Nat} {G : GS} {h : HP} {Q : Int → GS → HP → Prop} (a0 a1 : Int) (H : (0 ≤ a0) ∧ (ty G a0 = 3) ∧ ∀ h3 : HP, h3 = hset h a0 0 a1 → (cu ≤ mc ∧ su ≤ ms) ∧ Q 0 G h3) : S l MX3_init (d + 1, mc, ms, cu, su) 0 [some (vR a0), some (vR a1)] [] G h Q := by
  refine s_aload_n dX3_init_0 rfl rfl ?_
  have f1 := H.1
  replace H := H.2
  refine s_objInit dX3_init_1 ml_X3_3 oi_inst oi_code f1 (Nat.le_of_ble_eq_true rfl) ?_
  refine s_aload_n dX3_init_4 rfl rfl ?_
  refine s_aload_n dX3_init_5 rfl rfl ?_
  have f2 := H.1
  replace H := H.2
  refine s_putFR (c := 3) (k := 0) (j := 0) dX3_init_6 fl_X3_9 (by decide) (by decide) rfl rfl rfl (Or.inl ⟨_, rfl⟩) rfl rfl f2 (fun h3 eh3 => ?_)
  replace H := H h3 eh3
  have f4 := H.1
  replace H := H.2
  exact s_vret dX3_init_9 rfl f4 H
set_option maxHeartbeats 4000000 in
set_option maxRecDepth 100000 in
theorem vX2_init_0 {l : Launch} {d : Nat} {mc ms cu su : Nat} {G : GS} {h : HP} {Q : Int → GS → HP → Prop} (a0 a1 : Int) (H : (0 ≤ a0) ∧ (ty G a0 = 2) ∧ ∀ h3 : HP, h3 = hset h a0 0 a1 → (cu ≤ mc ∧ su ≤ ms) ∧ Q 0 G h3) : S l MX2_init (d + 1, mc, ms, cu, su) 0 [some (vR a0), some (vR a1)] [] G h Q := by
  refine s_aload_n dX2_init_0 rfl rfl ?_
  have f1 := H.1
  replace H := H.2
  refine s_objInit dX2_init_1 ml_X2_3 oi_inst oi_code f1 (Nat.le_of_ble_eq_true rfl) ?_
  refine s_aload_n dX2_init_4 rfl rfl ?_
  refine s_aload_n dX2_init_5 rfl rfl ?_
  have f2 := H.1
  replace H := H.2
  refine s_putFR (c := 2) (k := 0) (j := 0) dX2_init_6 fl_X2_9 (by decide) (by decide) rfl rfl rfl (Or.inl ⟨_, rfl⟩) rfl rfl f2 (fun h3 eh3 => ?_)
  replace H := H h3 eh3
  have f4 := H.1
  replace H := H.2
  exact s_vret dX2_init_9 rfl f4 H
set_option maxHeartbeats 4000000 in
set_option maxRecDepth 100000 in
theorem vX5_init_0 {l : Launch} {d : Nat} {mc ms cu su : Nat} {G : GS} {h : HP} {Q : Int → GS → HP → Prop} (a0 a1 : Int) (H : (0 ≤ a0) ∧ (cu + 1 ≤ mc ∧ su + 81 ≤ ms) ∧ ∀ (G2 : GS) (h3 : HP), G2 = G ++ [(10, 81)] → h3 = hcl h (G.length : Int) (fun _ => 0) → (ty G2 a0 = 5) ∧ ∀ h6 : HP, h6 = hset h3 a0 1 ((G.length : Int)) → ∀ h7 : HP, h7 = hset h6 a0 0 a1 → Q 0 G2 h7) : S l MX5_init (d + 1, mc, ms, cu, su) 0 [some (vR a0), some (vR a1)] [] G h Q := by
  refine s_aload_n dX5_init_0 rfl rfl ?_
  have f1 := H.1
  replace H := H.2
  refine s_objInit dX5_init_1 ml_X5_3 oi_inst oi_code f1 (Nat.le_of_ble_eq_true rfl) ?_
  refine s_aload_n dX5_init_4 rfl rfl ?_
  refine s_bipush dX5_init_5 (by decide) ?_
  have f4 := H.1
  replace H := H.2
  refine s_newIH (n := 81) dX5_init_7 ka_int (by decide) f4 (fun G2 h3 egG2 eh3 => ?_)
  replace H := H G2 h3 egG2 eh3
  show S l MX5_init (d + 1, mc, ms, cu + 1, su + 81) 9 [some (vR a0), some (vR a1)] [vR ((G.length : Int)), vR a0] G2 h3 Q
  have f5 := H.1
  replace H := H.2
  refine s_putFR (c := 5) (k := 1) (j := 1) dX5_init_9 fl_X5_9 (by decide) (by decide) rfl rfl rfl (Or.inr ⟨_, rfl⟩) rfl rfl f5 (fun h6 eh6 => ?_)
  replace H := H h6 eh6
  refine s_aload_n dX5_init_12 rfl rfl ?_
  refine s_aload_n dX5_init_13 rfl rfl ?_
  refine s_putFR (c := 5) (k := 0) (j := 0) dX5_init_14 fl_X5_15 (by decide) (by decide) rfl rfl rfl (Or.inl ⟨_, rfl⟩) rfl rfl f5 (fun h7 eh7 => ?_)
  replace H := H h7 eh7
  exact s_vret dX5_init_17 rfl f4 H
set_option maxHeartbeats 4000000 in
set_option maxRecDepth 100000 in
theorem vX0_init_0 {l : Launch} {d : Nat} {mc ms cu su : Nat} {G : GS} {h : HP} {Q : Int → GS → HP → Prop} (a0 a1 : Int) (H : (0 ≤ a0) ∧ (cu + 1 ≤ mc ∧ su + 9 ≤ ms) ∧ ∀ (G2 : GS) (h3 : HP), G2 = G ++ [(10, 9)] → h3 = hcl h (G.length : Int) (fun _ => 0) → (ty G2 a0 = 0) ∧ ∀ h6 : HP, h6 = hset h3 a0 1 ((G.length : Int)) → (cu + 1 + 1 ≤ mc ∧ su + 9 + 9 ≤ ms) ∧ ∀ (G7 : GS) (h8 : HP), G7 = G2 ++ [(10, 9)] → h8 = hcl h6 (G2.length : Int) (fun _ => 0) → (ty G7 a0 = 0) ∧ ∀ h11 : HP, h11 = hset h8 a0 2 ((G2.length : Int)) → (cu + 1 + 1 + 1 ≤ mc ∧ su + 9 + 9 + 9 ≤ ms) ∧ ∀ (G12 : GS) (h13 : HP), G12 = G7 ++ [(10, 9)] → h13 = hcl h11 (G7.length : Int) (fun _ => 0) → (ty G12 a0 = 0) ∧ ∀ h16 : HP, h16 = hset h13 a0 3 ((G7.length : Int)) → ∀ h17 : HP, h17 = hset h16 a0 0 a1 → Q 0 G12 h17) : S l MX0_init (d + 1, mc, ms, cu, su) 0 [some (vR a0), some (vR a1)] [] G h Q := by
  refine s_aload_n dX0_init_0 rfl rfl ?_
  have f1 := H.1
  replace H := H.2
  refine s_objInit dX0_init_1 ml_X0_3 oi_inst oi_code f1 (Nat.le_of_ble_eq_true rfl) ?_
  refine s_aload_n dX0_init_4 rfl rfl ?_
  refine s_bipush dX0_init_5 (by decide) ?_
  have f4 := H.1
  replace H := H.2
  refine s_newIH (n := 9) dX0_init_7 ka_int (by decide) f4 (fun G2 h3 egG2 eh3 => ?_)
  replace H := H G2 h3 egG2 eh3
  show S l MX0_init (d + 1, mc, ms, cu + 1, su + 9) 9 [some (vR a0), some (vR a1)] [vR ((G.length : Int)), vR a0] G2 h3 Q
  have f5 := H.1
  replace H := H.2
  refine s_putFR (c := 0) (k := 1) (j := 1) dX0_init_9 fl_X0_9 (by decide) (by decide) rfl rfl rfl (Or.inr ⟨_, rfl⟩) rfl rfl f5 (fun h6 eh6 => ?_)
  replace H := H h6 eh6
  refine s_aload_n dX0_init_12 rfl rfl ?_
  refine s_bipush dX0_init_13 (by decide) ?_
  have f9 := H.1
  replace H := H.2
  refine s_newIH (n := 9) dX0_init_15 ka_int (by decide) f9 (fun G7 h8 egG7 eh8 => ?_)
  replace H := H G7 h8 egG7 eh8
  show S l MX0_init (d + 1, mc, ms, cu + 1 + 1, su + 9 + 9) 17 [some (vR a0), some (vR a1)] [vR ((G2.length : Int)), vR a0] G7 h8 Q
  have f10 := H.1
  replace H := H.2
  refine s_putFR (c := 0) (k := 2) (j := 2) dX0_init_17 fl_X0_15 (by decide) (by decide) rfl rfl rfl (Or.inr ⟨_, rfl⟩) rfl rfl f10 (fun h11 eh11 => ?_)
  replace H := H h11 eh11
  refine s_aload_n dX0_init_20 rfl rfl ?_
  refine s_bipush dX0_init_21 (by decide) ?_
  have f14 := H.1
  replace H := H.2
  refine s_newIH (n := 9) dX0_init_23 ka_int (by decide) f14 (fun G12 h13 egG12 eh13 => ?_)
  replace H := H G12 h13 egG12 eh13
  show S l MX0_init (d + 1, mc, ms, cu + 1 + 1 + 1, su + 9 + 9 + 9) 25 [some (vR a0), some (vR a1)] [vR ((G7.length : Int)), vR a0] G12 h13 Q
  have f15 := H.1
  replace H := H.2
  refine s_putFR (c := 0) (k := 3) (j := 3) dX0_init_25 fl_X0_18 (by decide) (by decide) rfl rfl rfl (Or.inr ⟨_, rfl⟩) rfl rfl f15 (fun h16 eh16 => ?_)
  replace H := H h16 eh16
  refine s_aload_n dX0_init_28 rfl rfl ?_
  refine s_aload_n dX0_init_29 rfl rfl ?_
  refine s_putFR (c := 0) (k := 0) (j := 0) dX0_init_30 fl_X0_21 (by decide) (by decide) rfl rfl rfl (Or.inl ⟨_, rfl⟩) rfl rfl f15 (fun h17 eh17 => ?_)
  replace H := H h17 eh17
  exact s_vret dX0_init_33 rfl f14 H
set_option maxHeartbeats 4000000 in
set_option maxRecDepth 100000 in
theorem vX6_init_0 {l : Launch} {d : Nat} {mc ms cu su : Nat} {G : GS} {h : HP} {Q : Int → GS → HP → Prop} (a0 a1 : Int) (H : (0 ≤ a0) ∧ (cu + 1 ≤ mc ∧ su + 60 ≤ ms) ∧ ∀ (G2 : GS) (h3 : HP), G2 = G ++ [(10, 60)] → h3 = hcl h (G.length : Int) (fun _ => 0) → (ty G2 a0 = 6) ∧ ∀ h6 : HP, h6 = hset h3 a0 3 ((G.length : Int)) → (cu + 1 + 1 ≤ mc ∧ su + 60 + 60 ≤ ms) ∧ ∀ (G7 : GS) (h8 : HP), G7 = G2 ++ [(10, 60)] → h8 = hcl h6 (G2.length : Int) (fun _ => 0) → (ty G7 a0 = 6) ∧ ∀ h11 : HP, h11 = hset h8 a0 4 ((G2.length : Int)) → (cu + 1 + 1 + 1 ≤ mc ∧ su + 60 + 60 + 60 ≤ ms) ∧ ∀ (G12 : GS) (h13 : HP), G12 = G7 ++ [(10, 60)] → h13 = hcl h11 (G7.length : Int) (fun _ => 0) → (ty G12 a0 = 6) ∧ ∀ h16 : HP, h16 = hset h13 a0 5 ((G7.length : Int)) → (cu + 1 + 1 + 1 + (1 + 5) ≤ mc ∧ su + 60 + 60 + 60 + (5 + 5 * 60) ≤ ms) ∧ ∀ (G17 : GS) (h18 : HP), G17 = G12 ++ ((13, 5) :: List.replicate 5 (10, 60)) → h18 = hmul h16 G12.length 5 → (ty G17 a0 = 6) ∧ ∀ h21 : HP, h21 = hset h18 a0 6 ((G12.length : Int)) → (cu + 1 + 1 + 1 + 1 + 5 + 1 ≤ mc ∧ su + 60 + 60 + 60 + 5 + 5 * 60 + 4 ≤ ms) ∧ ∀ (G22 : GS) (h23 : HP), G22 = G17 ++ [(10, 4)] → h23 = hcl h21 (G17.length : Int) (fun _ => 0) → (ty G22 a0 = 6) ∧ ∀ h26 : HP, h26 = hset h23 a0 7 ((G17.length : Int)) → ∀ h27 : HP, h27 = hset h26 a0 0 a1 → (cu + 1 + 1 + 1 + 1 + 5 + 1 + 1 ≤ mc ∧ su + 60 + 60 + 60 + 5 + 5 * 60 + 4 + 5 ≤ ms) ∧ ∀ (G28 : GS) (h29 : HP), G28 = G22 ++ [(0, 5)] → h29 = hcl h27 (G22.length : Int) (dfo 0) → (cu + 1 + 1 + 1 + 1 + 5 + 1 + 1 + 3 ≤ mc ∧ su + 60 + 60 + 60 + 5 + 5 * 60 + 4 + 5 + 27 ≤ ms) ∧ (0 ≤ ((G22.length : Int))) ∧ R l MX0_init d 3 27 [vR ((G22.length : Int)), vR a1] G28 h29 (fun r31 G32 h33 => (ty G32 a0 = 6) ∧ ∀ h37 : HP, h37 = hset h33 a0 1 ((G22.length : Int)) → (cu + 1 + 1 + 1 + 1 + 5 + 1 + 1 + 3 + 1 ≤ mc ∧ su + 60 + 60 + 60 + 5 + 5 * 60 + 4 + 5 + 27 + 5 ≤ ms) ∧ ∀ (G38 : GS) (h39 : HP), G38 = G32 ++ [(0, 5)] → h39 = hcl h37 (G32.length : Int) (dfo 0) → (cu + 1 + 1 + 1 + 1 + 5 + 1 + 1 + 3 + 1 + 3 ≤ mc ∧ su + 60 + 60 + 60 + 5 + 5 * 60 + 4 + 5 + 27 + 5 + 27 ≤ ms) ∧ (0 ≤ ((G32.length : Int))) ∧ R l MX0_init d 3 27 [vR ((G32.length : Int)), vR a1] G38 h39 (fun r41 G42 h43 => (ty G42 a0 = 6) ∧ ∀ h47 : HP, h47 = hset h43 a0 2 ((G32.length : Int)) → (cu + 1 + 1 + 1 + 1 + 5 + 1 + 1 + 3 + 1 + 3 ≤ mc ∧ su + 60 + 60 + 60 + 5 + 5 * 60 + 4 + 5 + 27 + 5 + 27 ≤ ms) ∧ Q 0 G42 h47))) : S l MX6_init (d + 1, mc, ms, cu, su) 0 [some (vR a0), some (vR a1)] [] G h Q := by
  refine s_aload_n dX6_init_0 rfl rfl ?_
  have f1 := H.1
  replace H := H.2
  refine s_objInit dX6_init_1 ml_X6_3 oi_inst oi_code f1 (Nat.le_of_ble_eq_true rfl) ?_
  refine s_aload_n dX6_init_4 rfl rfl ?_
  refine s_bipush dX6_init_5 (by decide) ?_
  have f4 := H.1
  replace H := H.2
  refine s_newIH (n := 60) dX6_init_7 ka_int (by decide) f4 (fun G2 h3 egG2 eh3 => ?_)
  replace H := H G2 h3 egG2 eh3
  show S l MX6_init (d + 1, mc, ms, cu + 1, su + 60) 9 [some (vR a0), some (vR a1)] [vR ((G.length : Int)), vR a0] G2 h3 Q
  have f5 := H.1
  replace H := H.2
  refine s_putFR (c := 6) (k := 3) (j := 3) dX6_init_9 fl_X6_9 (by decide) (by decide) rfl rfl rfl (Or.inr ⟨_, rfl⟩) rfl rfl f5 (fun h6 eh6 => ?_)
  replace H := H h6 eh6
  refine s_aload_n dX6_init_12 rfl rfl ?_
  refine s_bipush dX6_init_13 (by decide) ?_
  have f9 := H.1
  replace H := H.2
  refine s_newIH (n := 60) dX6_init_15 ka_int (by decide) f9 (fun G7 h8 egG7 eh8 => ?_)
  replace H := H G7 h8 egG7 eh8
  show S l MX6_init (d + 1, mc, ms, cu + 1 + 1, su + 60 + 60) 17 [some (vR a0), some (vR a1)] [vR ((G2.length : Int)), vR a0] G7 h8 Q
  have f10 := H.1
  replace H := H.2
  refine s_putFR (c := 6) (k := 4) (j := 4) dX6_init_17 fl_X6_15 (by decide) (by decide) rfl rfl rfl (Or.inr ⟨_, rfl⟩) rfl rfl f10 (fun h11 eh11 => ?_)
  replace H := H h11 eh11
  refine s_aload_n dX6_init_20 rfl rfl ?_
  refine s_bipush dX6_init_21 (by decide) ?_
  have f14 := H.1
  replace H := H.2
  refine s_newIH (n := 60) dX6_init_23 ka_int (by decide) f14 (fun G12 h13 egG12 eh13 => ?_)
  replace H := H G12 h13 egG12 eh13
  show S l MX6_init (d + 1, mc, ms, cu + 1 + 1 + 1, su + 60 + 60 + 60) 25 [some (vR a0), some (vR a1)] [vR ((G7.length : Int)), vR a0] G12 h13 Q
  have f15 := H.1
  replace H := H.2
  refine s_putFR (c := 6) (k := 5) (j := 5) dX6_init_25 fl_X6_18 (by decide) (by decide) rfl rfl rfl (Or.inr ⟨_, rfl⟩) rfl rfl f15 (fun h16 eh16 => ?_)
  replace H := H h16 eh16
  refine s_aload_n dX6_init_28 rfl rfl ?_
  refine s_iconst dX6_init_29 ?_
  refine s_bipush dX6_init_30 (by decide) ?_
  have f19 := H.1
  replace H := H.2
  refine s_multiH (n := 5) (k := 60) dX6_init_32 kl_X6_21 ko_int ka_int (by decide) (by decide) f19 (fun G17 h18 egG17 eh18 => ?_)
  replace H := H G17 h18 egG17 eh18
  show S l MX6_init (d + 1, mc, ms, cu + 1 + 1 + 1 + 1 + 5, su + 60 + 60 + 60 + 5 + 5 * 60) 36 [some (vR a0), some (vR a1)] [vR ((G12.length : Int)), vR a0] G17 h18 Q
  have f20 := H.1
  replace H := H.2
  refine s_putFR (c := 6) (k := 6) (j := 6) dX6_init_36 fl_X6_23 (by decide) (by decide) rfl rfl rfl (Or.inr ⟨_, rfl⟩) rfl rfl f20 (fun h21 eh21 => ?_)
  replace H := H h21 eh21
  refine s_aload_n dX6_init_39 rfl rfl ?_
  refine s_iconst dX6_init_40 ?_
  have f24 := H.1
  replace H := H.2
  refine s_newIH (n := 4) dX6_init_41 ka_int (by decide) f24 (fun G22 h23 egG22 eh23 => ?_)
  replace H := H G22 h23 egG22 eh23
  show S l MX6_init (d + 1, mc, ms, cu + 1 + 1 + 1 + 1 + 5 + 1, su + 60 + 60 + 60 + 5 + 5 * 60 + 4) 43 [some (vR a0), some (vR a1)] [vR ((G17.length : Int)), vR a0] G22 h23 Q
  have f25 := H.1
  replace H := H.2
  refine s_putFR (c := 6) (k := 7) (j := 7) dX6_init_43 fl_X6_26 (by decide) (by decide) rfl rfl rfl (Or.inr ⟨_, rfl⟩) rfl rfl f25 (fun h26 eh26 => ?_)
  replace H := H h26 eh26
  refine s_aload_n dX6_init_46 rfl rfl ?_
  refine s_aload_n dX6_init_47 rfl rfl ?_
  refine s_putFR (c := 6) (k := 0) (j := 0) dX6_init_48 fl_X6_29 (by decide) (by decide) rfl rfl rfl (Or.inl ⟨_, rfl⟩) rfl rfl f25 (fun h27 eh27 => ?_)
  replace H := H h27 eh27
  refine s_aload_n dX6_init_51 rfl rfl ?_
  have f30 := H.1
  replace H := H.2
  refine s_newH (c := 0) dX6_init_52 kl_X6_33 ki_0 kn_0 (by decide) f30 (fun G28 h29 egG28 eh29 => ?_)
  replace H := H G28 h29 egG28 eh29
  show S l MX6_init (d + 1, mc, ms, cu + 1 + 1 + 1 + 1 + 5 + 1 + 1, su + 60 + 60 + 60 + 5 + 5 * 60 + 4 + 5) 55 [some (vR a0), some (vR a1)] [vR ((G22.length : Int)), vR a0] G28 h29 Q
  refine s_dup dX6_init_55 rfl ?_
  refine s_aload_n dX6_init_56 rfl rfl ?_
  have f34 := H.1
  replace H := H.2
  have f35 := H.1
  replace H := H.2
  refine s_callI (M' := MX0_init) (mc' := 3) (ms' := 27) (As := [vR a1]) (a := (G22.length : Int)) (st := [vR ((G22.length : Int)), vR a0]) dX6_init_57 ml_X6_35 cn_X0_init rfl rfl (Nat.le_of_ble_eq_true rfl) f35 f34 (R_mono (fun r31 G32 h33 H => ?_) H)
  show S l MX6_init (d + 1, mc, ms, cu + 1 + 1 + 1 + 1 + 5 + 1 + 1 + 3, su + 60 + 60 + 60 + 5 + 5 * 60 + 4 + 5 + 27) 60 [some (vR a0), some (vR a1)] [vR ((G22.length : Int)), vR a0] G32 h33 Q
  have f36 := H.1
  replace H := H.2
  refine s_putFR (c := 6) (k := 1) (j := 1) dX6_init_60 fl_X6_38 (by decide) (by decide) rfl rfl rfl (Or.inl ⟨_, rfl⟩) rfl rfl f36 (fun h37 eh37 => ?_)
  replace H := H h37 eh37
  refine s_aload_n dX6_init_63 rfl rfl ?_
  have f40 := H.1
  replace H := H.2
  refine s_newH (c := 0) dX6_init_64 kl_X6_33 ki_0 kn_0 (by decide) f40 (fun G38 h39 egG38 eh39 => ?_)
  replace H := H G38 h39 egG38 eh39
  show S l MX6_init (d + 1, mc, ms, cu + 1 + 1 + 1 + 1 + 5 + 1 + 1 + 3 + 1, su + 60 + 60 + 60 + 5 + 5 * 60 + 4 + 5 + 27 + 5) 67 [some (vR a0), some (vR a1)] [vR ((G32.length : Int)), vR a0] G38 h39 Q
  refine s_dup dX6_init_67 rfl ?_
  refine s_aload_n dX6_init_68 rfl rfl ?_
  have f44 := H.1
  replace H := H.2
  have f45 := H.1
  replace H := H.2
  refine s_callI (M' := MX0_init) (mc' := 3) (ms' := 27) (As := [vR a1]) (a := (G32.length : Int)) (st := [vR ((G32.length : Int)), vR a0]) dX6_init_69 ml_X6_35 cn_X0_init rfl rfl (Nat.le_of_ble_eq_true rfl) f45 f44 (R_mono (fun r41 G42 h43 H => ?_) H)
  show S l MX6_init (d + 1, mc, ms, cu + 1 + 1 + 1 + 1 + 5 + 1 + 1 + 3 + 1 + 3, su + 60 + 60 + 60 + 5 + 5 * 60 + 4 + 5 + 27 + 5 + 27) 72 [some (vR a0), some (vR a1)] [vR ((G32.length : Int)), vR a0] G42 h43 Q
  have f46 := H.1
  replace H := H.2
  refine s_putFR (c := 6) (k := 2) (j := 2) dX6_init_72 fl_X6_42 (by decide) (by decide) rfl rfl rfl (Or.inl ⟨_, rfl⟩) rfl rfl f46 (fun h47 eh47 => ?_)
  replace H := H h47 eh47
  have f48 := H.1
  replace H := H.2
  exact s_vret dX6_init_75 rfl f48 H
set_option maxHeartbeats 4000000 in
set_option maxRecDepth 100000 in
theorem vX7_init_0 {l : Launch} {d : Nat} {mc ms cu su : Nat} {G : GS} {h : HP} {Q : Int → GS → HP → Prop} (a0 a1 : Int) (H : (0 ≤ a0) ∧ (cu + 1 ≤ mc ∧ su + 360 ≤ ms) ∧ ∀ (G2 : GS) (h3 : HP), G2 = G ++ [(10, 360)] → h3 = hcl h (G.length : Int) (fun _ => 0) → (ty G2 a0 = 7) ∧ ∀ h6 : HP, h6 = hset h3 a0 1 ((G.length : Int)) → (cu + 1 + 1 ≤ mc ∧ su + 360 + 360 ≤ ms) ∧ ∀ (G7 : GS) (h8 : HP), G7 = G2 ++ [(10, 360)] → h8 = hcl h6 (G2.length : Int) (fun _ => 0) → (ty G7 a0 = 7) ∧ ∀ h11 : HP, h11 = hset h8 a0 2 ((G2.length : Int)) → (cu + 1 + 1 + 1 ≤ mc ∧ su + 360 + 360 + 40 ≤ ms) ∧ ∀ (G12 : GS) (h13 : HP), G12 = G7 ++ [(10, 40)] → h13 = hcl h11 (G7.length : Int) (fun _ => 0) → (ty G12 a0 = 7) ∧ ∀ h16 : HP, h16 = hset h13 a0 3 ((G7.length : Int)) → (cu + 1 + 1 + 1 + 1 ≤ mc ∧ su + 360 + 360 + 40 + 343 ≤ ms) ∧ ∀ (G17 : GS) (h18 : HP), G17 = G12 ++ [(10, 343)] → h18 = hcl h16 (G12.length : Int) (fun _ => 0) → (ty G17 a0 = 7) ∧ ∀ h21 : HP, h21 = hset h18 a0 4 ((G12.length : Int)) → ∀ h22 : HP, h22 = hset h21 a0 0 a1 → Q 0 G17 h22) : S l MX7_init (d + 1, mc, ms, cu, su) 0 [some (vR a0), some (vR a1)] [] G h Q := by
  refine s_aload_n dX7_init_0 rfl rfl ?_
  have f1 := H.1
  replace H := H.2
  refine s_objInit dX7_init_1 ml_X7_3 oi_inst oi_code f1 (Nat.le_of_ble_eq_true rfl) ?_
  refine s_aload_n dX7_init_4 rfl rfl ?_
  refine s_sipush dX7_init_5 (by decide) ?_
  have f4 := H.1
  replace H := H.2
  refine s_newIH (n := 360) dX7_init_8 ka_int (by decide) f4 (fun G2 h3 egG2 eh3 => ?_)
  replace H := H G2 h3 egG2 eh3
  show S l MX7_init (d + 1, mc, ms, cu + 1, su + 360) 10 [some (vR a0), some (vR a1)] [vR ((G.length : Int)), vR a0] G2 h3 Q
  have f5 := H.1
  replace H := H.2
  refine s_putFR (c := 7) (k := 1) (j := 1) dX7_init_10 fl_X7_9 (by decide) (by decide) rfl rfl rfl (Or.inr ⟨_, rfl⟩) rfl rfl f5 (fun h6 eh6 => ?_)
  replace H := H h6 eh6
  refine s_aload_n dX7_init_13 rfl rfl ?_
  refine s_sipush dX7_init_14 (by decide) ?_
  have f9 := H.1
  replace H := H.2
  refine s_newIH (n := 360) dX7_init_17 ka_int (by decide) f9 (fun G7 h8 egG7 eh8 => ?_)
  replace H := H G7 h8 egG7 eh8
  show S l MX7_init (d + 1, mc, ms, cu + 1 + 1, su + 360 + 360) 19 [some (vR a0), some (vR a1)] [vR ((G2.length : Int)), vR a0] G7 h8 Q
  have f10 := H.1
  replace H := H.2
  refine s_putFR (c := 7) (k := 2) (j := 2) dX7_init_19 fl_X7_15 (by decide) (by decide) rfl rfl rfl (Or.inr ⟨_, rfl⟩) rfl rfl f10 (fun h11 eh11 => ?_)
  replace H := H h11 eh11
  refine s_aload_n dX7_init_22 rfl rfl ?_
  refine s_bipush dX7_init_23 (by decide) ?_
  have f14 := H.1
  replace H := H.2
  refine s_newIH (n := 40) dX7_init_25 ka_int (by decide) f14 (fun G12 h13 egG12 eh13 => ?_)
  replace H := H G12 h13 egG12 eh13
  show S l MX7_init (d + 1, mc, ms, cu + 1 + 1 + 1, su + 360 + 360 + 40) 27 [some (vR a0), some (vR a1)] [vR ((G7.length : Int)), vR a0] G12 h13 Q
  have f15 := H.1
  replace H := H.2
  refine s_putFR (c := 7) (k := 3) (j := 3) dX7_init_27 fl_X7_18 (by decide) (by decide) rfl rfl rfl (Or.inr ⟨_, rfl⟩) rfl rfl f15 (fun h16 eh16 => ?_)
  replace H := H h16 eh16
  refine s_aload_n dX7_init_30 rfl rfl ?_
  refine s_sipush dX7_init_31 (by decide) ?_
  have f19 := H.1
  replace H := H.2
  refine s_newIH (n := 343) dX7_init_34 ka_int (by decide) f19 (fun G17 h18 egG17 eh18 => ?_)
  replace H := H G17 h18 egG17 eh18
  show S l MX7_init (d + 1, mc, ms, cu + 1 + 1 + 1 + 1, su + 360 + 360 + 40 + 343) 36 [some (vR a0), some (vR a1)] [vR ((G12.length : Int)), vR a0] G17 h18 Q
  have f20 := H.1
  replace H := H.2
  refine s_putFR (c := 7) (k := 4) (j := 4) dX7_init_36 fl_X7_21 (by decide) (by decide) rfl rfl rfl (Or.inr ⟨_, rfl⟩) rfl rfl f20 (fun h21 eh21 => ?_)
  replace H := H h21 eh21
  refine s_aload_n dX7_init_39 rfl rfl ?_
  refine s_aload_n dX7_init_40 rfl rfl ?_
  refine s_putFR (c := 7) (k := 0) (j := 0) dX7_init_41 fl_X7_24 (by decide) (by decide) rfl rfl rfl (Or.inl ⟨_, rfl⟩) rfl rfl f20 (fun h22 eh22 => ?_)
  replace H := H h22 eh22
  exact s_vret dX7_init_44 rfl f19 H
set_option maxHeartbeats 4000000 in
set_option maxRecDepth 100000 in
theorem vX8_init_0 {l : Launch} {d : Nat} {mc ms cu su : Nat} {G : GS} {h : HP} {Q : Int → GS → HP → Prop} (a0 : Int) (H : (0 ≤ a0) ∧ (cu + 1 ≤ mc ∧ su + 3 ≤ ms) ∧ ∀ (G2 : GS) (h3 : HP), G2 = G ++ [(1, 3)] → h3 = hcl h (G.length : Int) (dfo 1) → (cu + 1 + 2 ≤ mc ∧ su + 3 + 17 ≤ ms) ∧ (0 ≤ ((G.length : Int))) ∧ R l MX1_init d 2 17 [vR ((G.length : Int))] G2 h3 (fun r5 G6 h7 => (ty G6 a0 = 8) ∧ ∀ h11 : HP, h11 = hset h7 a0 0 ((G.length : Int)) → (cu + 1 + 2 + 1 ≤ mc ∧ su + 3 + 17 + 7 ≤ ms) ∧ ∀ (G12 : GS) (h13 : HP), G12 = G6 ++ [(4, 7)] → h13 = hcl h11 (G6.length : Int) (dfo 4) → (ty G12 a0 = 8) ∧ (cu + 1 + 2 + 1 + 5 ≤ mc ∧ su + 3 + 17 + 7 + 444 ≤ ms) ∧ (0 ≤ ((G6.length : Int))) ∧ R l MX4_init d 5 444 [vR ((G6.length : Int)), vR (h13 a0 0)] G12 h13 (fun r16 G17 h18 => (ty G17 a0 = 8) ∧ ∀ h22 : HP, h22 = hset h18 a0 10 ((G6.length : Int)) → (cu + 1 + 2 + 1 + 5 + 1 ≤ mc ∧ su + 3 + 17 + 7 + 444 + 7 ≤ ms) ∧ ∀ (G23 : GS) (h24 : HP), G23 = G17 ++ [(4, 7)] → h24 = hcl h22 (G17.length : Int) (dfo 4) → (ty G23 a0 = 8) ∧ (cu + 1 + 2 + 1 + 5 + 1 + 5 ≤ mc ∧ su + 3 + 17 + 7 + 444 + 7 + 444 ≤ ms) ∧ (0 ≤ ((G17.length : Int))) ∧ R l MX4_init d 5 444 [vR ((G17.length : Int)), vR (h24 a0 0)] G23 h24 (fun r27 G28 h29 => (ty G28 a0 = 8) ∧ ∀ h33 : HP, h33 = hset h29 a0 11 ((G17.length : Int)) → (cu + 1 + 2 + 1 + 5 + 1 + 5 + 1 ≤ mc ∧ su + 3 + 17 + 7 + 444 + 7 + 444 + 4 ≤ ms) ∧ ∀ (G34 : GS) (h35 : HP), G34 = G28 ++ [(12, 4)] → h35 = hcl h33 (G28.length : Int) (fun _ => -1) → (ty G34 a0 = 8) ∧ ∀ h38 : HP, h38 = hset h35 a0 1 ((G28.length : Int)) → S l MX8_init (d + 1, mc, ms, cu + 1 + 2 + 1 + 5 + 1 + 5 + 1, su + 3 + 17 + 7 + 444 + 7 + 444 + 4) 55 [some (vR a0), some (vI 0)] [] G34 h38 Q)))) : S l MX8_init (d + 1, mc, ms, cu, su) 0 [some (vR a0), none] [] G h Q := by
  refine s_aload_n dX8_init_0 rfl rfl ?_
  have f1 := H.1
  replace H := H.2
  refine s_objInit dX8_init_1 ml_X8_3 oi_inst oi_code f1 (Nat.le_of_ble_eq_true rfl) ?_
  refine s_aload_n dX8_init_4 rfl rfl ?_
  have f4 := H.1
  replace H := H.2
  refine s_newH (c := 1) dX8_init_5 kl_X8_9 ki_1 kn_1 (by decide) f4 (fun G2 h3 egG2 eh3 => ?_)
  replace H := H G2 h3 egG2 eh3
  show S l MX8_init (d + 1, mc, ms, cu + 1, su + 3) 8 [some (vR a0), none] [vR ((G.length : Int)), vR a0] G2 h3 Q
  refine s_dup dX8_init_8 rfl ?_
  have f8 := H.1
  replace H := H.2
  have f9 := H.1
  replace H := H.2
  refine s_callI (M' := MX1_init) (mc' := 2) (ms' := 17) (As := []) (a := (G.length : Int)) (st := [vR ((G.length : Int)), vR a0]) dX8_init_9 ml_X8_11 cn_X1_init rfl rfl (Nat.le_of_ble_eq_true rfl) f9 f8 (R_mono (fun r5 G6 h7 H => ?_) H)
  show S l MX8_init (d + 1, mc, ms, cu + 1 + 2, su + 3 + 17) 12 [some (vR a0), none] [vR ((G.length : Int)), vR a0] G6 h7 Q
  have f10 := H.1
  replace H := H.2
  refine s_putFR (c := 8) (k := 0) (j := 0) dX8_init_12 fl_X8_12 (by decide) (by decide) rfl rfl rfl (Or.inl ⟨_, rfl⟩) rfl rfl f10 (fun h11 eh11 => ?_)
  replace H := H h11 eh11
  refine s_aload_n dX8_init_15 rfl rfl ?_
  have f14 := H.1
  replace H := H.2
  refine s_newH (c := 4) dX8_init_16 kl_X8_16 ki_4 kn_4 (by decide) f14 (fun G12 h13 egG12 eh13 => ?_)
  replace H := H G12 h13 egG12 eh13
  show S l MX8_init (d + 1, mc, ms, cu + 1 + 2 + 1, su + 3 + 17 + 7) 19 [some (vR a0), none] [vR ((G6.length : Int)), vR a0] G12 h13 Q
  refine s_dup dX8_init_19 rfl ?_
  refine s_aload_n dX8_init_20 rfl rfl ?_
  have f15 := H.1
  replace H := H.2
  refine s_getf (c := 8) (k := 0) (t := 2) (j := 0) dX8_init_21 fl_X8_12 (by decide) (by decide) rfl rfl f15 ?_
  have f19 := H.1
  replace H := H.2
  have f20 := H.1
  replace H := H.2
  refine s_callI (M' := MX4_init) (mc' := 5) (ms' := 444) (As := [vR (h13 a0 0)]) (a := (G6.length : Int)) (st := [vR ((G6.length : Int)), vR a0]) dX8_init_24 ml_X8_18 cn_X4_init rfl rfl (Nat.le_of_ble_eq_true rfl) f20 f19 (R_mono (fun r16 G17 h18 H => ?_) H)
  show S l MX8_init (d + 1, mc, ms, cu + 1 + 2 + 1 + 5, su + 3 + 17 + 7 + 444) 27 [some (vR a0), none] [vR ((G6.length : Int)), vR a0] G17 h18 Q
  have f21 := H.1
  replace H := H.2
  refine s_putR (c := 8) (k := 10) (j := 10) dX8_init_27 fl_X8_21 (by decide) (by decide) rfl (Or.inl ⟨_, rfl⟩) rfl rfl f21 (fun h22 eh22 => ?_)
  replace H := H h22 eh22
  refine s_aload_n dX8_init_30 rfl rfl ?_
  have f25 := H.1
  replace H := H.2
  refine s_newH (c := 4) dX8_init_31 kl_X8_16 ki_4 kn_4 (by decide) f25 (fun G23 h24 egG23 eh24 => ?_)
  replace H := H G23 h24 egG23 eh24
  show S l MX8_init (d + 1, mc, ms, cu + 1 + 2 + 1 + 5 + 1, su + 3 + 17 + 7 + 444 + 7) 34 [some (vR a0), none] [vR ((G17.length : Int)), vR a0] G23 h24 Q
  refine s_dup dX8_init_34 rfl ?_
  refine s_aload_n dX8_init_35 rfl rfl ?_
  have f26 := H.1
  replace H := H.2
  refine s_getf (c := 8) (k := 0) (t := 2) (j := 0) dX8_init_36 fl_X8_12 (by decide) (by decide) rfl rfl f26 ?_
  have f30 := H.1
  replace H := H.2
  have f31 := H.1
  replace H := H.2
  refine s_callI (M' := MX4_init) (mc' := 5) (ms' := 444) (As := [vR (h24 a0 0)]) (a := (G17.length : Int)) (st := [vR ((G17.length : Int)), vR a0]) dX8_init_39 ml_X8_18 cn_X4_init rfl rfl (Nat.le_of_ble_eq_true rfl) f31 f30 (R_mono (fun r27 G28 h29 H => ?_) H)
  show S l MX8_init (d + 1, mc, ms, cu + 1 + 2 + 1 + 5 + 1 + 5, su + 3 + 17 + 7 + 444 + 7 + 444) 42 [some (vR a0), none] [vR ((G17.length : Int)), vR a0] G28 h29 Q
  have f32 := H.1
  replace H := H.2
  refine s_putR (c := 8) (k := 11) (j := 11) dX8_init_42 fl_X8_25 (by decide) (by decide) rfl (Or.inl ⟨_, rfl⟩) rfl rfl f32 (fun h33 eh33 => ?_)
  replace H := H h33 eh33
  refine s_aload_n dX8_init_45 rfl rfl ?_
  refine s_iconst dX8_init_46 ?_
  have f36 := H.1
  replace H := H.2
  refine s_anewPH (n := 4) dX8_init_47 kl_X8_16 ko_piece (by decide) f36 (fun G34 h35 egG34 eh35 => ?_)
  replace H := H G34 h35 egG34 eh35
  show S l MX8_init (d + 1, mc, ms, cu + 1 + 2 + 1 + 5 + 1 + 5 + 1, su + 3 + 17 + 7 + 444 + 7 + 444 + 4) 50 [some (vR a0), none] [vR ((G28.length : Int)), vR a0] G34 h35 Q
  have f37 := H.1
  replace H := H.2
  refine s_putFR (c := 8) (k := 1) (j := 1) dX8_init_50 fl_X8_28 (by decide) (by decide) rfl rfl rfl (Or.inr ⟨_, rfl⟩) rfl rfl f37 (fun h38 eh38 => ?_)
  replace H := H h38 eh38
  refine s_iconst dX8_init_53 ?_
  refine s_istore_n dX8_init_54 rfl (by decide) rfl ?_
  show S l MX8_init (d + 1, mc, ms, cu + 1 + 2 + 1 + 5 + 1 + 5 + 1, su + 3 + 17 + 7 + 444 + 7 + 444 + 4) 55 [some (vR a0), some (vI 0)] [] G34 h38 Q
  exact S_cut (by first | exact ⟨rfl, ⟨rfl, trivial⟩⟩ | simp [lsub]) H
set_option maxHeartbeats 4000000 in
set_option maxRecDepth 100000 in
theorem vX8_init_55 {l : Launch} {d : Nat} {mc ms cu su : Nat} {G : GS} {h : HP} {Q : Int → GS → HP → Prop} (a0 a1 : Int) (H : (inR a1) ∧ ((4 ≤ a1 → (cu + 1 ≤ mc ∧ su + 4 ≤ ms) ∧ ∀ (G3 : GS) (h4 : HP), G3 = G ++ [(11, 4)] → h4 = hcl h (G.length : Int) (fun _ => 0) → (ty G3 a0 = 8) ∧ ∀ h7 : HP, h7 = hset h4 a0 2 ((G.length : Int)) → (cu + 1 + 1 ≤ mc ∧ su + 4 + 2 ≤ ms) ∧ ∀ (G8 : GS) (h9 : HP), G8 = G3 ++ [(10, 2)] → h9 = hcl h7 (G3.length : Int) (fun _ => 0) → (ty G8 a0 = 8) ∧ ∀ h12 : HP, h12 = hset h9 a0 3 ((G3.length : Int)) → (cu + 1 + 1 + 1 ≤ mc ∧ su + 4 + 2 + 1 ≤ ms) ∧ ∀ (G13 : GS) (h14 : HP), G13 = G8 ++ [(3, 1)] → h14 = hcl h12 (G8.length : Int) (dfo 3) → (ty G13 a0 = 8) ∧ (cu + 1 + 1 + 1 + 0 ≤ mc ∧ su + 4 + 2 + 1 + 0 ≤ ms) ∧ (0 ≤ ((G8.length : Int))) ∧ R l MX3_init d 0 0 [vR ((G8.length : Int)), vR (h14 a0 0)] G13 h14 (fun r17 G18 h19 => (ty G18 a0 = 8) ∧ ∀ h23 : HP, h23 = hset h19 a0 4 ((G8.length : Int)) → (cu + 1 + 1 + 1 + 0 + 1 ≤ mc ∧ su + 4 + 2 + 1 + 0 + 1 ≤ ms) ∧ ∀ (G24 : GS) (h25 : HP), G24 = G18 ++ [(2, 1)] → h25 = hcl h23 (G18.length : Int) (dfo 2) → (ty G24 a0 = 8) ∧ (cu + 1 + 1 + 1 + 0 + 1 + 0 ≤ mc ∧ su + 4 + 2 + 1 + 0 + 1 + 0 ≤ ms) ∧ (0 ≤ ((G18.length : Int))) ∧ R l MX2_init d 0 0 [vR ((G18.length : Int)), vR (h25 a0 0)] G24 h25 (fun r28 G29 h30 => (ty G29 a0 = 8) ∧ ∀ h34 : HP, h34 = hset h30 a0 5 ((G18.length : Int)) → (cu + 1 + 1 + 1 + 0 + 1 + 0 + 1 ≤ mc ∧ su + 4 + 2 + 1 + 0 + 1 + 0 + 2 ≤ ms) ∧ ∀ (G35 : GS) (h36 : HP), G35 = G29 ++ [(5, 2)] → h36 = hcl h34 (G29.length : Int) (dfo 5) → (ty G35 a0 = 8) ∧ (cu + 1 + 1 + 1 + 0 + 1 + 0 + 1 + 1 ≤ mc ∧ su + 4 + 2 + 1 + 0 + 1 + 0 + 2 + 81 ≤ ms) ∧ (0 ≤ ((G29.length : Int))) ∧ R l MX5_init d 1 81 [vR ((G29.length : Int)), vR (h36 a0 0)] G35 h36 (fun r39 G40 h41 => (ty G40 a0 = 8) ∧ ∀ h45 : HP, h45 = hset h41 a0 6 ((G29.length : Int)) → (cu + 1 + 1 + 1 + 0 + 1 + 0 + 1 + 1 + 1 ≤ mc ∧ su + 4 + 2 + 1 + 0 + 1 + 0 + 2 + 81 + 5 ≤ ms) ∧ ∀ (G46 : GS) (h47 : HP), G46 = G40 ++ [(0, 5)] → h47 = hcl h45 (G40.length : Int) (dfo 0) → (ty G46 a0 = 8) ∧ (cu + 1 + 1 + 1 + 0 + 1 + 0 + 1 + 1 + 1 + 3 ≤ mc ∧ su + 4 + 2 + 1 + 0 + 1 + 0 + 2 + 81 + 5 + 27 ≤ ms) ∧ (0 ≤ ((G40.length : Int))) ∧ R l MX0_init d 3 27 [vR ((G40.length : Int)), vR (h47 a0 0)] G46 h47 (fun r50 G51 h52 => (ty G51 a0 = 8) ∧ ∀ h56 : HP, h56 = hset h52 a0 7 ((G40.length : Int)) → (cu + 1 + 1 + 1 + 0 + 1 + 0 + 1 + 1 + 1 + 3 + 1 ≤ mc ∧ su + 4 + 2 + 1 + 0 + 1 + 0 + 2 + 81 + 5 + 27 + 11 ≤ ms) ∧ ∀ (G57 : GS) (h58 : HP), G57 = G51 ++ [(6, 11)] → h58 = hcl h56 (G51.length : Int) (dfo 6) → (ty G57 a0 = 8) ∧ (cu + 1 + 1 + 1 + 0 + 1 + 0 + 1 + 1 + 1 + 3 + 1 + 18 ≤ mc ∧ su + 4 + 2 + 1 + 0 + 1 + 0 + 2 + 81 + 5 + 27 + 11 + 553 ≤ ms) ∧ (0 ≤ ((G51.length : Int))) ∧ R l MX6_init d 18 553 [vR ((G51.length : Int)), vR (h58 a0 0)] G57 h58 (fun r61 G62 h63 => (ty G62 a0 = 8) ∧ ∀ h67 : HP, h67 = hset h63 a0 8 ((G51.length : Int)) → (cu + 1 + 1 + 1 + 0 + 1 + 0 + 1 + 1 + 1 + 3 + 1 + 18 + 1 ≤ mc ∧ su + 4 + 2 + 1 + 0 + 1 + 0 + 2 + 81 + 5 + 27 + 11 + 553 + 10 ≤ ms) ∧ ∀ (G68 : GS) (h69 : HP), G68 = G62 ++ [(7, 10)] → h69 = hcl h67 (G62.length : Int) (dfo 7) → (ty G68 a0 = 8) ∧ (cu + 1 + 1 + 1 + 0 + 1 + 0 + 1 + 1 + 1 + 3 + 1 + 18 + 1 + 4 ≤ mc ∧ su + 4 + 2 + 1 + 0 + 1 + 0 + 2 + 81 + 5 + 27 + 11 + 553 + 10 + 1103 ≤ ms) ∧ (0 ≤ ((G62.length : Int))) ∧ R l MX7_init d 4 1103 [vR ((G62.length : Int)), vR (h69 a0 0)] G68 h69 (fun r72 G73 h74 => (ty G73 a0 = 8) ∧ ∀ h78 : HP, h78 = hset h74 a0 9 ((G62.length : Int)) → (cu + 1 + 1 + 1 + 0 + 1 + 0 + 1 + 1 + 1 + 3 + 1 + 18 + 1 + 4 ≤ mc ∧ su + 4 + 2 + 1 + 0 + 1 + 0 + 2 + 81 + 5 + 27 + 11 + 553 + 10 + 1103 ≤ ms) ∧ Q 0 G73 h78))))))) ∧ (a1 < 4 → (ty G a0 = 8) ∧ (cu + 1 ≤ mc ∧ su + 7 ≤ ms) ∧ ∀ (G81 : GS) (h82 : HP), G81 = G ++ [(4, 7)] → h82 = hcl h (G.length : Int) (dfo 4) → (ty G81 a0 = 8) ∧ (cu + 1 + 5 ≤ mc ∧ su + 7 + 444 ≤ ms) ∧ (0 ≤ ((G.length : Int))) ∧ R l MX4_init d 5 444 [vR ((G.length : Int)), vR (h82 a0 0)] G81 h82 (fun r85 G86 h87 => (inA G86 12 (h a0 1) a1) ∧ (ty G86 ((G.length : Int)) = 4) ∧ ∀ h92 : HP, h92 = hset h87 (h a0 1) a1 ((G.length : Int)) → S l MX8_init (d + 1, mc, ms, cu + 1 + 5, su + 7 + 444) 55 [some (vR a0), some (vI (a1 + 1))] [] G86 h92 Q)))) : S l MX8_init (d + 1, mc, ms, cu, su) 55 [some (vR a0), some (vI a1)] [] G h Q := by
  refine s_iload_n dX8_init_55 rfl rfl ?_
  refine s_iconst dX8_init_56 ?_
  have f1 := H.1
  replace H := H.2
  refine s_icmp_ge (tgt := 83) dX8_init_57 (by decide) f1 (by decide) (fun c2 => ?_) (fun c2 => ?_)
  · replace H := H.1 c2
    refine s_aload_n dX8_init_83 rfl rfl ?_
    refine s_iconst dX8_init_84 ?_
    have f5 := H.1
    replace H := H.2
    refine s_newZH (n := 4) dX8_init_85 ka_bool (by decide) f5 (fun G3 h4 egG3 eh4 => ?_)
    replace H := H G3 h4 egG3 eh4
    show S l MX8_init (d + 1, mc, ms, cu + 1, su + 4) 87 [some (vR a0), some (vI a1)] [vR ((G.length : Int)), vR a0] G3 h4 Q
    have f6 := H.1
    replace H := H.2
    refine s_putFR (c := 8) (k := 2) (j := 2) dX8_init_87 fl_X8_32 (by decide) (by decide) rfl rfl rfl (Or.inr ⟨_, rfl⟩) rfl rfl f6 (fun h7 eh7 => ?_)
    replace H := H h7 eh7
    refine s_aload_n dX8_init_90 rfl rfl ?_
    refine s_iconst dX8_init_91 ?_
    have f10 := H.1
    replace H := H.2
    refine s_newIH (n := 2) dX8_init_92 ka_int (by decide) f10 (fun G8 h9 egG8 eh9 => ?_)
    replace H := H G8 h9 egG8 eh9
    show S l MX8_init (d + 1, mc, ms, cu + 1 + 1, su + 4 + 2) 94 [some (vR a0), some (vI a1)] [vR ((G3.length : Int)), vR a0] G8 h9 Q
    have f11 := H.1
    replace H := H.2
    refine s_putFR (c := 8) (k := 3) (j := 3) dX8_init_94 fl_X8_36 (by decide) (by decide) rfl rfl rfl (Or.inr ⟨_, rfl⟩) rfl rfl f11 (fun h12 eh12 => ?_)
    replace H := H h12 eh12
    refine s_aload_n dX8_init_97 rfl rfl ?_
    have f15 := H.1
    replace H := H.2
    refine s_newH (c := 3) dX8_init_98 kl_X8_40 ki_3 kn_3 (by decide) f15 (fun G13 h14 egG13 eh14 => ?_)
    replace H := H G13 h14 egG13 eh14
    show S l MX8_init (d + 1, mc, ms, cu + 1 + 1 + 1, su + 4 + 2 + 1) 101 [some (vR a0), some (vI a1)] [vR ((G8.length : Int)), vR a0] G13 h14 Q
    refine s_dup dX8_init_101 rfl ?_
    refine s_aload_n dX8_init_102 rfl rfl ?_
    have f16 := H.1
    replace H := H.2
    refine s_getf (c := 8) (k := 0) (t := 2) (j := 0) dX8_init_103 fl_X8_12 (by decide) (by decide) rfl rfl f16 ?_
    have f20 := H.1
    replace H := H.2
    have f21 := H.1
    replace H := H.2
    refine s_callI (M' := MX3_init) (mc' := 0) (ms' := 0) (As := [vR (h14 a0 0)]) (a := (G8.length : Int)) (st := [vR ((G8.length : Int)), vR a0]) dX8_init_106 ml_X8_42 cn_X3_init rfl rfl (Nat.le_of_ble_eq_true rfl) f21 f20 (R_mono (fun r17 G18 h19 H => ?_) H)
    show S l MX8_init (d + 1, mc, ms, cu + 1 + 1 + 1 + 0, su + 4 + 2 + 1 + 0) 109 [some (vR a0), some (vI a1)] [vR ((G8.length : Int)), vR a0] G18 h19 Q
    have f22 := H.1
    replace H := H.2
    refine s_putFR (c := 8) (k := 4) (j := 4) dX8_init_109 fl_X8_43 (by decide) (by decide) rfl rfl rfl (Or.inl ⟨_, rfl⟩) rfl rfl f22 (fun h23 eh23 => ?_)
    replace H := H h23 eh23
    refine s_aload_n dX8_init_112 rfl rfl ?_
    have f26 := H.1
    replace H := H.2
    refine s_newH (c := 2) dX8_init_113 kl_X8_47 ki_2 kn_2 (by decide) f26 (fun G24 h25 egG24 eh25 => ?_)
    replace H := H G24 h25 egG24 eh25
    show S l MX8_init (d + 1, mc, ms, cu + 1 + 1 + 1 + 0 + 1, su + 4 + 2 + 1 + 0 + 1) 116 [some (vR a0), some (vI a1)] [vR ((G18.length : Int)), vR a0] G24 h25 Q
    refine s_dup dX8_init_116 rfl ?_
    refine s_aload_n dX8_init_117 rfl rfl ?_
    have f27 := H.1
    replace H := H.2
    refine s_getf (c := 8) (k := 0) (t := 2) (j := 0) dX8_init_118 fl_X8_12 (by decide) (by decide) rfl rfl f27 ?_
    have f31 := H.1
    replace H := H.2
    have f32 := H.1
    replace H := H.2
    refine s_callI (M' := MX2_init) (mc' := 0) (ms' := 0) (As := [vR (h25 a0 0)]) (a := (G18.length : Int)) (st := [vR ((G18.length : Int)), vR a0]) dX8_init_121 ml_X8_49 cn_X2_init rfl rfl (Nat.le_of_ble_eq_true rfl) f32 f31 (R_mono (fun r28 G29 h30 H => ?_) H)
    show S l MX8_init (d + 1, mc, ms, cu + 1 + 1 + 1 + 0 + 1 + 0, su + 4 + 2 + 1 + 0 + 1 + 0) 124 [some (vR a0), some (vI a1)] [vR ((G18.length : Int)), vR a0] G29 h30 Q
    have f33 := H.1
    replace H := H.2
    refine s_putFR (c := 8) (k := 5) (j := 5) dX8_init_124 fl_X8_50 (by decide) (by decide) rfl rfl rfl (Or.inl ⟨_, rfl⟩) rfl rfl f33 (fun h34 eh34 => ?_)
    replace H := H h34 eh34
    refine s_aload_n dX8_init_127 rfl rfl ?_
    have f37 := H.1
    replace H := H.2
    refine s_newH (c := 5) dX8_init_128 kl_X8_54 ki_5 kn_5 (by decide) f37 (fun G35 h36 egG35 eh36 => ?_)
    replace H := H G35 h36 egG35 eh36
    show S l MX8_init (d + 1, mc, ms, cu + 1 + 1 + 1 + 0 + 1 + 0 + 1, su + 4 + 2 + 1 + 0 + 1 + 0 + 2) 131 [some (vR a0), some (vI a1)] [vR ((G29.length : Int)), vR a0] G35 h36 Q
    refine s_dup dX8_init_131 rfl ?_
    refine s_aload_n dX8_init_132 rfl rfl ?_
    have f38 := H.1
    replace H := H.2
    refine s_getf (c := 8) (k := 0) (t := 2) (j := 0) dX8_init_133 fl_X8_12 (by decide) (by decide) rfl rfl f38 ?_
    have f42 := H.1
    replace H := H.2
    have f43 := H.1
    replace H := H.2
    refine s_callI (M' := MX5_init) (mc' := 1) (ms' := 81) (As := [vR (h36 a0 0)]) (a := (G29.length : Int)) (st := [vR ((G29.length : Int)), vR a0]) dX8_init_136 ml_X8_56 cn_X5_init rfl rfl (Nat.le_of_ble_eq_true rfl) f43 f42 (R_mono (fun r39 G40 h41 H => ?_) H)
    show S l MX8_init (d + 1, mc, ms, cu + 1 + 1 + 1 + 0 + 1 + 0 + 1 + 1, su + 4 + 2 + 1 + 0 + 1 + 0 + 2 + 81) 139 [some (vR a0), some (vI a1)] [vR ((G29.length : Int)), vR a0] G40 h41 Q
    have f44 := H.1
    replace H := H.2
    refine s_putFR (c := 8) (k := 6) (j := 6) dX8_init_139 fl_X8_57 (by decide) (by decide) rfl rfl rfl (Or.inl ⟨_, rfl⟩) rfl rfl f44 (fun h45 eh45 => ?_)
    replace H := H h45 eh45
    refine s_aload_n dX8_init_142 rfl rfl ?_
    have f48 := H.1
    replace H := H.2
    refine s_newH (c := 0) dX8_init_143 kl_X8_61 ki_0 kn_0 (by decide) f48 (fun G46 h47 egG46 eh47 => ?_)
    replace H := H G46 h47 egG46 eh47
    show S l MX8_init (d + 1, mc, ms, cu + 1 + 1 + 1 + 0 + 1 + 0 + 1 + 1 + 1, su + 4 + 2 + 1 + 0 + 1 + 0 + 2 + 81 + 5) 146 [some (vR a0), some (vI a1)] [vR ((G40.length : Int)), vR a0] G46 h47 Q
    refine s_dup dX8_init_146 rfl ?_
    refine s_aload_n dX8_init_147 rfl rfl ?_
    have f49 := H.1
    replace H := H.2
    refine s_getf (c := 8) (k := 0) (t := 2) (j := 0) dX8_init_148 fl_X8_12 (by decide) (by decide) rfl rfl f49 ?_
    have f53 := H.1
    replace H := H.2
    have f54 := H.1
    replace H := H.2
    refine s_callI (M' := MX0_init) (mc' := 3) (ms' := 27) (As := [vR (h47 a0 0)]) (a := (G40.length : Int)) (st := [vR ((G40.length : Int)), vR a0]) dX8_init_151 ml_X8_63 cn_X0_init rfl rfl (Nat.le_of_ble_eq_true rfl) f54 f53 (R_mono (fun r50 G51 h52 H => ?_) H)
    show S l MX8_init (d + 1, mc, ms, cu + 1 + 1 + 1 + 0 + 1 + 0 + 1 + 1 + 1 + 3, su + 4 + 2 + 1 + 0 + 1 + 0 + 2 + 81 + 5 + 27) 154 [some (vR a0), some (vI a1)] [vR ((G40.length : Int)), vR a0] G51 h52 Q
    have f55 := H.1
    replace H := H.2
    refine s_putFR (c := 8) (k := 7) (j := 7) dX8_init_154 fl_X8_64 (by decide) (by decide) rfl rfl rfl (Or.inl ⟨_, rfl⟩) rfl rfl f55 (fun h56 eh56 => ?_)
    replace H := H h56 eh56
    refine s_aload_n dX8_init_157 rfl rfl ?_
    have f59 := H.1
    replace H := H.2
    refine s_newH (c := 6) dX8_init_158 kl_X8_68 ki_6 kn_6 (by decide) f59 (fun G57 h58 egG57 eh58 => ?_)
    replace H := H G57 h58 egG57 eh58
    show S l MX8_init (d + 1, mc, ms, cu + 1 + 1 + 1 + 0 + 1 + 0 + 1 + 1 + 1 + 3 + 1, su + 4 + 2 + 1 + 0 + 1 + 0 + 2 + 81 + 5 + 27 + 11) 161 [some (vR a0), some (vI a1)] [vR ((G51.length : Int)), vR a0] G57 h58 Q
    refine s_dup dX8_init_161 rfl ?_
    refine s_aload_n dX8_init_162 rfl rfl ?_
    have f60 := H.1
    replace H := H.2
    refine s_getf (c := 8) (k := 0) (t := 2) (j := 0) dX8_init_163 fl_X8_12 (by decide) (by decide) rfl rfl f60 ?_
    have f64 := H.1
    replace H := H.2
    have f65 := H.1
    replace H := H.2
    refine s_callI (M' := MX6_init) (mc' := 18) (ms' := 553) (As := [vR (h58 a0 0)]) (a := (G51.length : Int)) (st := [vR ((G51.length : Int)), vR a0]) dX8_init_166 ml_X8_70 cn_X6_init rfl rfl (Nat.le_of_ble_eq_true rfl) f65 f64 (R_mono (fun r61 G62 h63 H => ?_) H)
    show S l MX8_init (d + 1, mc, ms, cu + 1 + 1 + 1 + 0 + 1 + 0 + 1 + 1 + 1 + 3 + 1 + 18, su + 4 + 2 + 1 + 0 + 1 + 0 + 2 + 81 + 5 + 27 + 11 + 553) 169 [some (vR a0), some (vI a1)] [vR ((G51.length : Int)), vR a0] G62 h63 Q
    have f66 := H.1
    replace H := H.2
    refine s_putFR (c := 8) (k := 8) (j := 8) dX8_init_169 fl_X8_71 (by decide) (by decide) rfl rfl rfl (Or.inl ⟨_, rfl⟩) rfl rfl f66 (fun h67 eh67 => ?_)
    replace H := H h67 eh67
    refine s_aload_n dX8_init_172 rfl rfl ?_
    have f70 := H.1
    replace H := H.2
    refine s_newH (c := 7) dX8_init_173 kl_X8_75 ki_7 kn_7 (by decide) f70 (fun G68 h69 egG68 eh69 => ?_)
    replace H := H G68 h69 egG68 eh69
    show S l MX8_init (d + 1, mc, ms, cu + 1 + 1 + 1 + 0 + 1 + 0 + 1 + 1 + 1 + 3 + 1 + 18 + 1, su + 4 + 2 + 1 + 0 + 1 + 0 + 2 + 81 + 5 + 27 + 11 + 553 + 10) 176 [some (vR a0), some (vI a1)] [vR ((G62.length : Int)), vR a0] G68 h69 Q
    refine s_dup dX8_init_176 rfl ?_
    refine s_aload_n dX8_init_177 rfl rfl ?_
    have f71 := H.1
    replace H := H.2
    refine s_getf (c := 8) (k := 0) (t := 2) (j := 0) dX8_init_178 fl_X8_12 (by decide) (by decide) rfl rfl f71 ?_
    have f75 := H.1
    replace H := H.2
    have f76 := H.1
    replace H := H.2
    refine s_callI (M' := MX7_init) (mc' := 4) (ms' := 1103) (As := [vR (h69 a0 0)]) (a := (G62.length : Int)) (st := [vR ((G62.length : Int)), vR a0]) dX8_init_181 ml_X8_77 cn_X7_init rfl rfl (Nat.le_of_ble_eq_true rfl) f76 f75 (R_mono (fun r72 G73 h74 H => ?_) H)
    show S l MX8_init (d + 1, mc, ms, cu + 1 + 1 + 1 + 0 + 1 + 0 + 1 + 1 + 1 + 3 + 1 + 18 + 1 + 4, su + 4 + 2 + 1 + 0 + 1 + 0 + 2 + 81 + 5 + 27 + 11 + 553 + 10 + 1103) 184 [some (vR a0), some (vI a1)] [vR ((G62.length : Int)), vR a0] G73 h74 Q
    have f77 := H.1
    replace H := H.2
    refine s_putFR (c := 8) (k := 9) (j := 9) dX8_init_184 fl_X8_78 (by decide) (by decide) rfl rfl rfl (Or.inl ⟨_, rfl⟩) rfl rfl f77 (fun h78 eh78 => ?_)
    replace H := H h78 eh78
    have f79 := H.1
    replace H := H.2
    exact s_vret dX8_init_187 rfl f79 H
  · replace H := H.2 c2
    refine s_aload_n dX8_init_60 rfl rfl ?_
    have f80 := H.1
    replace H := H.2
    refine s_getf (c := 8) (k := 1) (t := 2) (j := 1) dX8_init_61 fl_X8_28 (by decide) (by decide) rfl rfl f80 ?_
    refine s_iload_n dX8_init_64 rfl rfl ?_
    have f83 := H.1
    replace H := H.2
    refine s_newH (c := 4) dX8_init_65 kl_X8_16 ki_4 kn_4 (by decide) f83 (fun G81 h82 egG81 eh82 => ?_)
    replace H := H G81 h82 egG81 eh82
    show S l MX8_init (d + 1, mc, ms, cu + 1, su + 7) 68 [some (vR a0), some (vI a1)] [vR ((G.length : Int)), vI a1, vR (h a0 1)] G81 h82 Q
    refine s_dup dX8_init_68 rfl ?_
    refine s_aload_n dX8_init_69 rfl rfl ?_
    have f84 := H.1
    replace H := H.2
    refine s_getf (c := 8) (k := 0) (t := 2) (j := 0) dX8_init_70 fl_X8_12 (by decide) (by decide) rfl rfl f84 ?_
    have f88 := H.1
    replace H := H.2
    have f89 := H.1
    replace H := H.2
    refine s_callI (M' := MX4_init) (mc' := 5) (ms' := 444) (As := [vR (h82 a0 0)]) (a := (G.length : Int)) (st := [vR ((G.length : Int)), vI a1, vR (h a0 1)]) dX8_init_73 ml_X8_18 cn_X4_init rfl rfl (Nat.le_of_ble_eq_true rfl) f89 f88 (R_mono (fun r85 G86 h87 H => ?_) H)
    show S l MX8_init (d + 1, mc, ms, cu + 1 + 5, su + 7 + 444) 76 [some (vR a0), some (vI a1)] [vR ((G.length : Int)), vI a1, vR (h a0 1)] G86 h87 Q
    have f90 := H.1
    replace H := H.2
    have f91 := H.1
    replace H := H.2
    refine s_aastPH dX8_init_76 f90 f91 (fun h92 eh92 => ?_)
    replace H := H h92 eh92
    refine s_iinc dX8_init_77 rfl (by decide) rfl ?_
    show S l MX8_init (d + 1, mc, ms, cu + 1 + 5, su + 7 + 444) 80 [some (vR a0), some (vI (a1 + 1))] [] G86 h92 Q
    refine s_goto (tgt := 55) dX8_init_80 (by decide) ?_
    exact S_cut (by first | exact ⟨rfl, ⟨rfl, trivial⟩⟩ | simp [lsub]) H
set_option maxHeartbeats 4000000 in
set_option maxRecDepth 100000 in
theorem vX9_init_0 {l : Launch} {d : Nat} {mc ms cu su : Nat} {G : GS} {h : HP} {Q : Int → GS → HP → Prop} (a0 : Int) (H : (0 ≤ a0) ∧ (ty G a0 = 9) ∧ ∀ h3 : HP, h3 = hset h a0 0 2 → (cu + 1 ≤ mc ∧ su + 3 ≤ ms) ∧ ∀ (G4 : GS) (h5 : HP), G4 = G ++ [(10, 3)] → h5 = hcl h3 (G.length : Int) (fun _ => 0) → (ty G4 a0 = 9) ∧ ∀ h8 : HP, h8 = hset h5 a0 1 ((G.length : Int)) → (cu + 1 + 1 ≤ mc ∧ su + 3 + 729 ≤ ms) ∧ ∀ (G9 : GS) (h10 : HP), G9 = G4 ++ [(10, 729)] → h10 = hcl h8 (G4.length : Int) (fun _ => 0) → (ty G9 a0 = 9) ∧ ∀ h13 : HP, h13 = hset h10 a0 2 ((G4.length : Int)) → (cu + 1 + 1 + 1 ≤ mc ∧ su + 3 + 729 + 1080 ≤ ms) ∧ ∀ (G14 : GS) (h15 : HP), G14 = G9 ++ [(10, 1080)] → h15 = hcl h13 (G9.length : Int) (fun _ => 0) → (ty G14 a0 = 9) ∧ ∀ h18 : HP, h18 = hset h15 a0 3 ((G9.length : Int)) → (cu + 1 + 1 + 1 + 1 ≤ mc ∧ su + 3 + 729 + 1080 + 18 ≤ ms) ∧ ∀ (G19 : GS) (h20 : HP), G19 = G14 ++ [(10, 18)] → h20 = hcl h18 (G14.length : Int) (fun _ => 0) → (ty G19 a0 = 9) ∧ ∀ h23 : HP, h23 = hset h20 a0 5 ((G14.length : Int)) → (cu + 1 + 1 + 1 + 1 + 1 ≤ mc ∧ su + 3 + 729 + 1080 + 18 + 4 ≤ ms) ∧ ∀ (G24 : GS) (h25 : HP), G24 = G19 ++ [(11, 4)] → h25 = hcl h23 (G19.length : Int) (fun _ => 0) → (ty G24 a0 = 9) ∧ ∀ h28 : HP, h28 = hset h25 a0 6 ((G19.length : Int)) → (cu + 1 + 1 + 1 + 1 + 1 + 1 ≤ mc ∧ su + 3 + 729 + 1080 + 18 + 4 + 12 ≤ ms) ∧ ∀ (G29 : GS) (h30 : HP), G29 = G24 ++ [(10, 12)] → h30 = hcl h28 (G24.length : Int) (fun _ => 0) → (ty G29 a0 = 9) ∧ ∀ h33 : HP, h33 = hset h30 a0 7 ((G24.length : Int)) → (cu + 1 + 1 + 1 + 1 + 1 + 1 + 1 ≤ mc ∧ su + 3 + 729 + 1080 + 18 + 4 + 12 + 2916 ≤ ms) ∧ ∀ (G34 : GS) (h35 : HP), G34 = G29 ++ [(10, 2916)] → h35 = hcl h33 (G29.length : Int) (fun _ => 0) → (ty G34 a0 = 9) ∧ ∀ h38 : HP, h38 = hset h35 a0 8 ((G29.length : Int)) → (cu + 1 + 1 + 1 + 1 + 1 + 1 + 1 + 1 ≤ mc ∧ su + 3 + 729 + 1080 + 18 + 4 + 12 + 2916 + 4320 ≤ ms) ∧ ∀ (G39 : GS) (h40 : HP), G39 = G34 ++ [(10, 4320)] → h40 = hcl h38 (G34.length : Int) (fun _ => 0) → (ty G39 a0 = 9) ∧ ∀ h43 : HP, h43 = hset h40 a0 9 ((G34.length : Int)) → (cu + 1 + 1 + 1 + 1 + 1 + 1 + 1 + 1 + 1 ≤ mc ∧ su + 3 + 729 + 1080 + 18 + 4 + 12 + 2916 + 4320 + 4 ≤ ms) ∧ ∀ (G44 : GS) (h45 : HP), G44 = G39 ++ [(10, 4)] → h45 = hcl h43 (G39.length : Int) (fun _ => 0) → (ty G44 a0 = 9) ∧ ∀ h48 : HP, h48 = hset h45 a0 10 ((G39.length : Int)) → (cu + 1 + 1 + 1 + 1 + 1 + 1 + 1 + 1 + 1 + 1 ≤ mc ∧ su + 3 + 729 + 1080 + 18 + 4 + 12 + 2916 + 4320 + 4 + 3 ≤ ms) ∧ ∀ (G49 : GS) (h50 : HP), G49 = G44 ++ [(10, 3)] → h50 = hcl h48 (G44.length : Int) (fun _ => 0) → (ty G49 a0 = 9) ∧ ∀ h53 : HP, h53 = hset h50 a0 11 ((G44.length : Int)) → (cu + 1 + 1 + 1 + 1 + 1 + 1 + 1 + 1 + 1 + 1 + 1 ≤ mc ∧ su + 3 + 729 + 1080 + 18 + 4 + 12 + 2916 + 4320 + 4 + 3 + 729 ≤ ms) ∧ ∀ (G54 : GS) (h55 : HP), G54 = G49 ++ [(10, 729)] → h55 = hcl h53 (G49.length : Int) (fun _ => 0) → (ty G54 a0 = 9) ∧ ∀ h58 : HP, h58 = hset h55 a0 12 ((G49.length : Int)) → (cu + 1 + 1 + 1 + 1 + 1 + 1 + 1 + 1 + 1 + 1 + 1 + 1 ≤ mc ∧ su + 3 + 729 + 1080 + 18 + 4 + 12 + 2916 + 4320 + 4 + 3 + 729 + 1080 ≤ ms) ∧ ∀ (G59 : GS) (h60 : HP), G59 = G54 ++ [(10, 1080)] → h60 = hcl h58 (G54.length : Int) (fun _ => 0) → (ty G59 a0 = 9) ∧ ∀ h63 : HP, h63 = hset h60 a0 13 ((G54.length : Int)) → (cu + 1 + 1 + 1 + 1 + 1 + 1 + 1 + 1 + 1 + 1 + 1 + 1 + 1 ≤ mc ∧ su + 3 + 729 + 1080 + 18 + 4 + 12 + 2916 + 4320 + 4 + 3 + 729 + 1080 + 729 ≤ ms) ∧ ∀ (G64 : GS) (h65 : HP), G64 = G59 ++ [(10, 729)] → h65 = hcl h63 (G59.length : Int) (fun _ => 0) → (ty G64 a0 = 9) ∧ ∀ h68 : HP, h68 = hset h65 a0 14 ((G59.length : Int)) → (cu + 1 + 1 + 1 + 1 + 1 + 1 + 1 + 1 + 1 + 1 + 1 + 1 + 1 + 1 ≤ mc ∧ su + 3 + 729 + 1080 + 18 + 4 + 12 + 2916 + 4320 + 4 + 3 + 729 + 1080 + 729 + 60 ≤ ms) ∧ ∀ (G69 : GS) (h70 : HP), G69 = G64 ++ [(10, 60)] → h70 = hcl h68 (G64.length : Int) (fun _ => 0) → (ty G69 a0 = 9) ∧ ∀ h73 : HP, h73 = hset h70 a0 17 ((G64.length : Int)) → (cu + 1 + 1 + 1 + 1 + 1 + 1 + 1 + 1 + 1 + 1 + 1 + 1 + 1 + 1 + 1 ≤ mc ∧ su + 3 + 729 + 1080 + 18 + 4 + 12 + 2916 + 4320 + 4 + 3 + 729 + 1080 + 729 + 60 + 60 ≤ ms) ∧ ∀ (G74 : GS) (h75 : HP), G74 = G69 ++ [(10, 60)] → h75 = hcl h73 (G69.length : Int) (fun _ => 0) → (ty G74 a0 = 9) ∧ ∀ h78 : HP, h78 = hset h75 a0 18 ((G69.length : Int)) → (cu + 1 + 1 + 1 + 1 + 1 + 1 + 1 + 1 + 1 + 1 + 1 + 1 + 1 + 1 + 1 + 1 ≤ mc ∧ su + 3 + 729 + 1080 + 18 + 4 + 12 + 2916 + 4320 + 4 + 3 + 729 + 1080 + 729 + 60 + 60 + 4 ≤ ms) ∧ ∀ (G79 : GS) (h80 : HP), G79 = G74 ++ [(10, 4)] → h80 = hcl h78 (G74.length : Int) (fun _ => 0) → (ty G79 a0 = 9) ∧ ∀ h83 : HP, h83 = hset h80 a0 20 ((G74.length : Int)) → (cu + 1 + 1 + 1 + 1 + 1 + 1 + 1 + 1 + 1 + 1 + 1 + 1 + 1 + 1 + 1 + 1 + 1 ≤ mc ∧ su + 3 + 729 + 1080 + 18 + 4 + 12 + 2916 + 4320 + 4 + 3 + 729 + 1080 + 729 + 60 + 60 + 4 + 3645 ≤ ms) ∧ ∀ (G84 : GS) (h85 : HP), G84 = G79 ++ [(10, 3645)] → h85 = hcl h83 (G79.length : Int) (fun _ => 0) → (ty G84 a0 = 9) ∧ ∀ h88 : HP, h88 = hset h85 a0 21 ((G79.length : Int)) → (cu + 1 + 1 + 1 + 1 + 1 + 1 + 1 + 1 + 1 + 1 + 1 + 1 + 1 + 1 + 1 + 1 + 1 + 1 ≤ mc ∧ su + 3 + 729 + 1080 + 18 + 4 + 12 + 2916 + 4320 + 4 + 3 + 729 + 1080 + 729 + 60 + 60 + 4 + 3645 + 324 ≤ ms) ∧ ∀ (G89 : GS) (h90 : HP), G89 = G84 ++ [(10, 324)] → h90 = hcl h88 (G84.length : Int) (fun _ => 0) → (ty G89 a0 = 9) ∧ ∀ h93 : HP, h93 = hset h90 a0 22 ((G84.length : Int)) → (cu + 1 + 1 + 1 + 1 + 1 + 1 + 1 + 1 + 1 + 1 + 1 + 1 + 1 + 1 + 1 + 1 + 1 + 1 + 1 ≤ mc ∧ su + 3 + 729 + 1080 + 18 + 4 + 12 + 2916 + 4320 + 4 + 3 + 729 + 1080 + 729 + 60 + 60 + 4 + 3645 + 324 + 4 ≤ ms) ∧ ∀ (G94 : GS) (h95 : HP), G94 = G89 ++ [(10, 4)] → h95 = hcl h93 (G89.length : Int) (fun _ => 0) → (ty G94 a0 = 9) ∧ ∀ h98 : HP, h98 = hset h95 a0 23 ((G89.length : Int)) → (cu + 1 + 1 + 1 + 1 + 1 + 1 + 1 + 1 + 1 + 1 + 1 + 1 + 1 + 1 + 1 + 1 + 1 + 1 + 1 + 1 ≤ mc ∧ su + 3 + 729 + 1080 + 18 + 4 + 12 + 2916 + 4320 + 4 + 3 + 729 + 1080 + 729 + 60 + 60 + 4 + 3645 + 324 + 4 + 405 ≤ ms) ∧ ∀ (G99 : GS) (h100 : HP), G99 = G94 ++ [(10, 405)] → h100 = hcl h98 (G94.length : Int) (fun _ => 0) → (ty G99 a0 = 9) ∧ ∀ h103 : HP, h103 = hset h100 a0 24 ((G94.length : Int)) → (cu + 1 + 1 + 1 + 1 + 1 + 1 + 1 + 1 + 1 + 1 + 1 + 1 + 1 + 1 + 1 + 1 + 1 + 1 + 1 + 1 + 1 ≤ mc ∧ su + 3 + 729 + 1080 + 18 + 4 + 12 + 2916 + 4320 + 4 + 3 + 729 + 1080 + 729 + 60 + 60 + 4 + 3645 + 324 + 4 + 405 + 4 ≤ ms) ∧ ∀ (G104 : GS) (h105 : HP), G104 = G99 ++ [(10, 4)] → h105 = hcl h103 (G99.length : Int) (fun _ => 0) → (ty G104 a0 = 9) ∧ ∀ h108 : HP, h108 = hset h105 a0 25 ((G99.length : Int)) → (cu + 1 + 1 + 1 + 1 + 1 + 1 + 1 + 1 + 1 + 1 + 1 + 1 + 1 + 1 + 1 + 1 + 1 + 1 + 1 + 1 + 1 + 1 ≤ mc ∧ su + 3 + 729 + 1080 + 18 + 4 + 12 + 2916 + 4320 + 4 + 3 + 729 + 1080 + 729 + 60 + 60 + 4 + 3645 + 324 + 4 + 405 + 4 + 1960 ≤ ms) ∧ ∀ (G109 : GS) (h110 : HP), G109 = G104 ++ [(10, 1960)] → h110 = hcl h108 (G104.length : Int) (fun _ => 0) → (ty G109 a0 = 9) ∧ ∀ h113 : HP, h113 = hset h110 a0 26 ((G104.length : Int)) → R l MX9_fresh d 0 0 [vR a0, vI 1, vI 1, vI 1] G109 h113 (fun r114 G115 h116 => (cu + 1 + 1 + 1 + 1 + 1 + 1 + 1 + 1 + 1 + 1 + 1 + 1 + 1 + 1 + 1 + 1 + 1 + 1 + 1 + 1 + 1 + 1 ≤ mc ∧ su + 3 + 729 + 1080 + 18 + 4 + 12 + 2916 + 4320 + 4 + 3 + 729 + 1080 + 729 + 60 + 60 + 4 + 3645 + 324 + 4 + 405 + 4 + 1960 ≤ ms) ∧ Q 0 G115 h116)) : S l MX9_init (d + 1, mc, ms, cu, su) 0 [some (vR a0)] [] G h Q := by
  refine s_aload_n dX9_init_0 rfl rfl ?_
  have f1 := H.1
  replace H := H.2
  refine s_objInit dX9_init_1 ml_X9_1 oi_inst oi_code f1 (Nat.le_of_ble_eq_true rfl) ?_
  refine s_aload_n dX9_init_4 rfl rfl ?_
  refine s_iconst dX9_init_5 ?_
  have f2 := H.1
  replace H := H.2
  refine s_putI (c := 9) (k := 0) (j := 0) dX9_init_6 fl_X9_7 (by decide) (by decide) rfl rfl rfl f2 (fun h3 eh3 => ?_)
  replace H := H h3 eh3
  refine s_aload_n dX9_init_9 rfl rfl ?_
  refine s_iconst dX9_init_10 ?_
  have f6 := H.1
  replace H := H.2
  refine s_newIH (n := 3) dX9_init_11 ka_int (by decide) f6 (fun G4 h5 egG4 eh5 => ?_)
  replace H := H G4 h5 egG4 eh5
  show S l MX9_init (d + 1, mc, ms, cu + 1, su + 3) 13 [some (vR a0)] [vR ((G.length : Int)), vR a0] G4 h5 Q
  have f7 := H.1
  replace H := H.2
  refine s_putFR (c := 9) (k := 1) (j := 1) dX9_init_13 fl_X9_13 (by decide) (by decide) rfl rfl rfl (Or.inr ⟨_, rfl⟩) rfl rfl f7 (fun h8 eh8 => ?_)
  replace H := H h8 eh8
  refine s_aload_n dX9_init_16 rfl rfl ?_
  refine s_sipush dX9_init_17 (by decide) ?_
  have f11 := H.1
  replace H := H.2
  refine s_newIH (n := 729) dX9_init_20 ka_int (by decide) f11 (fun G9 h10 egG9 eh10 => ?_)
  replace H := H G9 h10 egG9 eh10
  show S l MX9_init (d + 1, mc, ms, cu + 1 + 1, su + 3 + 729) 22 [some (vR a0)] [vR ((G4.length : Int)), vR a0] G9 h10 Q
  have f12 := H.1
  replace H := H.2
  refine s_putFR (c := 9) (k := 2) (j := 2) dX9_init_22 fl_X9_17 (by decide) (by decide) rfl rfl rfl (Or.inr ⟨_, rfl⟩) rfl rfl f12 (fun h13 eh13 => ?_)
  replace H := H h13 eh13
  refine s_aload_n dX9_init_25 rfl rfl ?_
  refine s_sipush dX9_init_26 (by decide) ?_
  have f16 := H.1
  replace H := H.2
  refine s_newIH (n := 1080) dX9_init_29 ka_int (by decide) f16 (fun G14 h15 egG14 eh15 => ?_)
  replace H := H G14 h15 egG14 eh15
  show S l MX9_init (d + 1, mc, ms, cu + 1 + 1 + 1, su + 3 + 729 + 1080) 31 [some (vR a0)] [vR ((G9.length : Int)), vR a0] G14 h15 Q
  have f17 := H.1
  replace H := H.2
  refine s_putFR (c := 9) (k := 3) (j := 3) dX9_init_31 fl_X9_20 (by decide) (by decide) rfl rfl rfl (Or.inr ⟨_, rfl⟩) rfl rfl f17 (fun h18 eh18 => ?_)
  replace H := H h18 eh18
  refine s_aload_n dX9_init_34 rfl rfl ?_
  refine s_bipush dX9_init_35 (by decide) ?_
  have f21 := H.1
  replace H := H.2
  refine s_newIH (n := 18) dX9_init_37 ka_int (by decide) f21 (fun G19 h20 egG19 eh20 => ?_)
  replace H := H G19 h20 egG19 eh20
  show S l MX9_init (d + 1, mc, ms, cu + 1 + 1 + 1 + 1, su + 3 + 729 + 1080 + 18) 39 [some (vR a0)] [vR ((G14.length : Int)), vR a0] G19 h20 Q
  have f22 := H.1
  replace H := H.2
  refine s_putFR (c := 9) (k := 5) (j := 5) dX9_init_39 fl_X9_23 (by decide) (by decide) rfl rfl rfl (Or.inr ⟨_, rfl⟩) rfl rfl f22 (fun h23 eh23 => ?_)
  replace H := H h23 eh23
  refine s_aload_n dX9_init_42 rfl rfl ?_
  refine s_iconst dX9_init_43 ?_
  have f26 := H.1
  replace H := H.2
  refine s_newZH (n := 4) dX9_init_44 ka_bool (by decide) f26 (fun G24 h25 egG24 eh25 => ?_)
  replace H := H G24 h25 egG24 eh25
  show S l MX9_init (d + 1, mc, ms, cu + 1 + 1 + 1 + 1 + 1, su + 3 + 729 + 1080 + 18 + 4) 46 [some (vR a0)] [vR ((G19.length : Int)), vR a0] G24 h25 Q
  have f27 := H.1
  replace H := H.2
  refine s_putFR (c := 9) (k := 6) (j := 6) dX9_init_46 fl_X9_26 (by decide) (by decide) rfl rfl rfl (Or.inr ⟨_, rfl⟩) rfl rfl f27 (fun h28 eh28 => ?_)
  replace H := H h28 eh28
  refine s_aload_n dX9_init_49 rfl rfl ?_
  refine s_bipush dX9_init_50 (by decide) ?_
  have f31 := H.1
  replace H := H.2
  refine s_newIH (n := 12) dX9_init_52 ka_int (by decide) f31 (fun G29 h30 egG29 eh30 => ?_)
  replace H := H G29 h30 egG29 eh30
  show S l MX9_init (d + 1, mc, ms, cu + 1 + 1 + 1 + 1 + 1 + 1, su + 3 + 729 + 1080 + 18 + 4 + 12) 54 [some (vR a0)] [vR ((G24.length : Int)), vR a0] G29 h30 Q
  have f32 := H.1
  replace H := H.2
  refine s_putFR (c := 9) (k := 7) (j := 7) dX9_init_54 fl_X9_30 (by decide) (by decide) rfl rfl rfl (Or.inr ⟨_, rfl⟩) rfl rfl f32 (fun h33 eh33 => ?_)
  replace H := H h33 eh33
  refine s_aload_n dX9_init_57 rfl rfl ?_
  refine s_sipush dX9_init_58 (by decide) ?_
  have f36 := H.1
  replace H := H.2
  refine s_newIH (n := 2916) dX9_init_61 ka_int (by decide) f36 (fun G34 h35 egG34 eh35 => ?_)
  replace H := H G34 h35 egG34 eh35
  show S l MX9_init (d + 1, mc, ms, cu + 1 + 1 + 1 + 1 + 1 + 1 + 1, su + 3 + 729 + 1080 + 18 + 4 + 12 + 2916) 63 [some (vR a0)] [vR ((G29.length : Int)), vR a0] G34 h35 Q
  have f37 := H.1
  replace H := H.2
  refine s_putFR (c := 9) (k := 8) (j := 8) dX9_init_63 fl_X9_33 (by decide) (by decide) rfl rfl rfl (Or.inr ⟨_, rfl⟩) rfl rfl f37 (fun h38 eh38 => ?_)
  replace H := H h38 eh38
  refine s_aload_n dX9_init_66 rfl rfl ?_
  refine s_sipush dX9_init_67 (by decide) ?_
  have f41 := H.1
  replace H := H.2
  refine s_newIH (n := 4320) dX9_init_70 ka_int (by decide) f41 (fun G39 h40 egG39 eh40 => ?_)
  replace H := H G39 h40 egG39 eh40
  show S l MX9_init (d + 1, mc, ms, cu + 1 + 1 + 1 + 1 + 1 + 1 + 1 + 1, su + 3 + 729 + 1080 + 18 + 4 + 12 + 2916 + 4320) 72 [some (vR a0)] [vR ((G34.length : Int)), vR a0] G39 h40 Q
  have f42 := H.1
  replace H := H.2
  refine s_putFR (c := 9) (k := 9) (j := 9) dX9_init_72 fl_X9_36 (by decide) (by decide) rfl rfl rfl (Or.inr ⟨_, rfl⟩) rfl rfl f42 (fun h43 eh43 => ?_)
  replace H := H h43 eh43
  refine s_aload_n dX9_init_75 rfl rfl ?_
  refine s_iconst dX9_init_76 ?_
  have f46 := H.1
  replace H := H.2
  refine s_newIH (n := 4) dX9_init_77 ka_int (by decide) f46 (fun G44 h45 egG44 eh45 => ?_)
  replace H := H G44 h45 egG44 eh45
  show S l MX9_init (d + 1, mc, ms, cu + 1 + 1 + 1 + 1 + 1 + 1 + 1 + 1 + 1, su + 3 + 729 + 1080 + 18 + 4 + 12 + 2916 + 4320 + 4) 79 [some (vR a0)] [vR ((G39.length : Int)), vR a0] G44 h45 Q
  have f47 := H.1
  replace H := H.2
  refine s_putFR (c := 9) (k := 10) (j := 10) dX9_init_79 fl_X9_39 (by decide) (by decide) rfl rfl rfl (Or.inr ⟨_, rfl⟩) rfl rfl f47 (fun h48 eh48 => ?_)
  replace H := H h48 eh48
  refine s_aload_n dX9_init_82 rfl rfl ?_
  refine s_iconst dX9_init_83 ?_
  have f51 := H.1
  replace H := H.2
  refine s_newIH (n := 3) dX9_init_84 ka_int (by decide) f51 (fun G49 h50 egG49 eh50 => ?_)
  replace H := H G49 h50 egG49 eh50
  show S l MX9_init (d + 1, mc, ms, cu + 1 + 1 + 1 + 1 + 1 + 1 + 1 + 1 + 1 + 1, su + 3 + 729 + 1080 + 18 + 4 + 12 + 2916 + 4320 + 4 + 3) 86 [some (vR a0)] [vR ((G44.length : Int)), vR a0] G49 h50 Q
  have f52 := H.1
  replace H := H.2
  refine s_putFR (c := 9) (k := 11) (j := 11) dX9_init_86 fl_X9_42 (by decide) (by decide) rfl rfl rfl (Or.inr ⟨_, rfl⟩) rfl rfl f52 (fun h53 eh53 => ?_)
  replace H := H h53 eh53
  refine s_aload_n dX9_init_89 rfl rfl ?_
  refine s_sipush dX9_init_90 (by decide) ?_
  have f56 := H.1
  replace H := H.2
  refine s_newIH (n := 729) dX9_init_93 ka_int (by decide) f56 (fun G54 h55 egG54 eh55 => ?_)
  replace H := H G54 h55 egG54 eh55
  show S l MX9_init (d + 1, mc, ms, cu + 1 + 1 + 1 + 1 + 1 + 1 + 1 + 1 + 1 + 1 + 1, su + 3 + 729 + 1080 + 18 + 4 + 12 + 2916 + 4320 + 4 + 3 + 729) 95 [some (vR a0)] [vR ((G49.length : Int)), vR a0] G54 h55 Q
  have f57 := H.1
  replace H := H.2
  refine s_putFR (c := 9) (k := 12) (j := 12) dX9_init_95 fl_X9_45 (by decide) (by decide) rfl rfl rfl (Or.inr ⟨_, rfl⟩) rfl rfl f57 (fun h58 eh58 => ?_)
  replace H := H h58 eh58
  refine s_aload_n dX9_init_98 rfl rfl ?_
  refine s_sipush dX9_init_99 (by decide) ?_
  have f61 := H.1
  replace H := H.2
  refine s_newIH (n := 1080) dX9_init_102 ka_int (by decide) f61 (fun G59 h60 egG59 eh60 => ?_)
  replace H := H G59 h60 egG59 eh60
  show S l MX9_init (d + 1, mc, ms, cu + 1 + 1 + 1 + 1 + 1 + 1 + 1 + 1 + 1 + 1 + 1 + 1, su + 3 + 729 + 1080 + 18 + 4 + 12 + 2916 + 4320 + 4 + 3 + 729 + 1080) 104 [some (vR a0)] [vR ((G54.length : Int)), vR a0] G59 h60 Q
  have f62 := H.1
  replace H := H.2
  refine s_putFR (c := 9) (k := 13) (j := 13) dX9_init_104 fl_X9_48 (by decide) (by decide) rfl rfl rfl (Or.inr ⟨_, rfl⟩) rfl rfl f62 (fun h63 eh63 => ?_)
  replace H := H h63 eh63
  refine s_aload_n dX9_init_107 rfl rfl ?_
  refine s_sipush dX9_init_108 (by decide) ?_
  have f66 := H.1
  replace H := H.2
  refine s_newIH (n := 729) dX9_init_111 ka_int (by decide) f66 (fun G64 h65 egG64 eh65 => ?_)
  replace H := H G64 h65 egG64 eh65
  show S l MX9_init (d + 1, mc, ms, cu + 1 + 1 + 1 + 1 + 1 + 1 + 1 + 1 + 1 + 1 + 1 + 1 + 1, su + 3 + 729 + 1080 + 18 + 4 + 12 + 2916 + 4320 + 4 + 3 + 729 + 1080 + 729) 113 [some (vR a0)] [vR ((G59.length : Int)), vR a0] G64 h65 Q
  have f67 := H.1
  replace H := H.2
  refine s_putFR (c := 9) (k := 14) (j := 14) dX9_init_113 fl_X9_51 (by decide) (by decide) rfl rfl rfl (Or.inr ⟨_, rfl⟩) rfl rfl f67 (fun h68 eh68 => ?_)
  replace H := H h68 eh68
  refine s_aload_n dX9_init_116 rfl rfl ?_
  refine s_bipush dX9_init_117 (by decide) ?_
  have f71 := H.1
  replace H := H.2
  refine s_newIH (n := 60) dX9_init_119 ka_int (by decide) f71 (fun G69 h70 egG69 eh70 => ?_)
  replace H := H G69 h70 egG69 eh70
  show S l MX9_init (d + 1, mc, ms, cu + 1 + 1 + 1 + 1 + 1 + 1 + 1 + 1 + 1 + 1 + 1 + 1 + 1 + 1, su + 3 + 729 + 1080 + 18 + 4 + 12 + 2916 + 4320 + 4 + 3 + 729 + 1080 + 729 + 60) 121 [some (vR a0)] [vR ((G64.length : Int)), vR a0] G69 h70 Q
  have f72 := H.1
  replace H := H.2
  refine s_putFR (c := 9) (k := 17) (j := 17) dX9_init_121 fl_X9_54 (by decide) (by decide) rfl rfl rfl (Or.inr ⟨_, rfl⟩) rfl rfl f72 (fun h73 eh73 => ?_)
  replace H := H h73 eh73
  refine s_aload_n dX9_init_124 rfl rfl ?_
  refine s_bipush dX9_init_125 (by decide) ?_
  have f76 := H.1
  replace H := H.2
  refine s_newIH (n := 60) dX9_init_127 ka_int (by decide) f76 (fun G74 h75 egG74 eh75 => ?_)
  replace H := H G74 h75 egG74 eh75
  show S l MX9_init (d + 1, mc, ms, cu + 1 + 1 + 1 + 1 + 1 + 1 + 1 + 1 + 1 + 1 + 1 + 1 + 1 + 1 + 1, su + 3 + 729 + 1080 + 18 + 4 + 12 + 2916 + 4320 + 4 + 3 + 729 + 1080 + 729 + 60 + 60) 129 [some (vR a0)] [vR ((G69.length : Int)), vR a0] G74 h75 Q
  have f77 := H.1
  replace H := H.2
  refine s_putFR (c := 9) (k := 18) (j := 18) dX9_init_129 fl_X9_57 (by decide) (by decide) rfl rfl rfl (Or.inr ⟨_, rfl⟩) rfl rfl f77 (fun h78 eh78 => ?_)
  replace H := H h78 eh78
  refine s_aload_n dX9_init_132 rfl rfl ?_
  refine s_iconst dX9_init_133 ?_
  have f81 := H.1
  replace H := H.2
  refine s_newIH (n := 4) dX9_init_134 ka_int (by decide) f81 (fun G79 h80 egG79 eh80 => ?_)
  replace H := H G79 h80 egG79 eh80
  show S l MX9_init (d + 1, mc, ms, cu + 1 + 1 + 1 + 1 + 1 + 1 + 1 + 1 + 1 + 1 + 1 + 1 + 1 + 1 + 1 + 1, su + 3 + 729 + 1080 + 18 + 4 + 12 + 2916 + 4320 + 4 + 3 + 729 + 1080 + 729 + 60 + 60 + 4) 136 [some (vR a0)] [vR ((G74.length : Int)), vR a0] G79 h80 Q
  have f82 := H.1
  replace H := H.2
  refine s_putFR (c := 9) (k := 20) (j := 20) dX9_init_136 fl_X9_60 (by decide) (by decide) rfl rfl rfl (Or.inr ⟨_, rfl⟩) rfl rfl f82 (fun h83 eh83 => ?_)
  replace H := H h83 eh83
  refine s_aload_n dX9_init_139 rfl rfl ?_
  refine s_sipush dX9_init_140 (by decide) ?_
  have f86 := H.1
  replace H := H.2
  refine s_newIH (n := 3645) dX9_init_143 ka_int (by decide) f86 (fun G84 h85 egG84 eh85 => ?_)
  replace H := H G84 h85 egG84 eh85
  show S l MX9_init (d + 1, mc, ms, cu + 1 + 1 + 1 + 1 + 1 + 1 + 1 + 1 + 1 + 1 + 1 + 1 + 1 + 1 + 1 + 1 + 1, su + 3 + 729 + 1080 + 18 + 4 + 12 + 2916 + 4320 + 4 + 3 + 729 + 1080 + 729 + 60 + 60 + 4 + 3645) 145 [some (vR a0)] [vR ((G79.length : Int)), vR a0] G84 h85 Q
  have f87 := H.1
  replace H := H.2
  refine s_putFR (c := 9) (k := 21) (j := 21) dX9_init_145 fl_X9_63 (by decide) (by decide) rfl rfl rfl (Or.inr ⟨_, rfl⟩) rfl rfl f87 (fun h88 eh88 => ?_)
  replace H := H h88 eh88
  refine s_aload_n dX9_init_148 rfl rfl ?_
  refine s_sipush dX9_init_149 (by decide) ?_
  have f91 := H.1
  replace H := H.2
  refine s_newIH (n := 324) dX9_init_152 ka_int (by decide) f91 (fun G89 h90 egG89 eh90 => ?_)
  replace H := H G89 h90 egG89 eh90
  show S l MX9_init (d + 1, mc, ms, cu + 1 + 1 + 1 + 1 + 1 + 1 + 1 + 1 + 1 + 1 + 1 + 1 + 1 + 1 + 1 + 1 + 1 + 1, su + 3 + 729 + 1080 + 18 + 4 + 12 + 2916 + 4320 + 4 + 3 + 729 + 1080 + 729 + 60 + 60 + 4 + 3645 + 324) 154 [some (vR a0)] [vR ((G84.length : Int)), vR a0] G89 h90 Q
  have f92 := H.1
  replace H := H.2
  refine s_putFR (c := 9) (k := 22) (j := 22) dX9_init_154 fl_X9_66 (by decide) (by decide) rfl rfl rfl (Or.inr ⟨_, rfl⟩) rfl rfl f92 (fun h93 eh93 => ?_)
  replace H := H h93 eh93
  refine s_aload_n dX9_init_157 rfl rfl ?_
  refine s_iconst dX9_init_158 ?_
  have f96 := H.1
  replace H := H.2
  refine s_newIH (n := 4) dX9_init_159 ka_int (by decide) f96 (fun G94 h95 egG94 eh95 => ?_)
  replace H := H G94 h95 egG94 eh95
  show S l MX9_init (d + 1, mc, ms, cu + 1 + 1 + 1 + 1 + 1 + 1 + 1 + 1 + 1 + 1 + 1 + 1 + 1 + 1 + 1 + 1 + 1 + 1 + 1, su + 3 + 729 + 1080 + 18 + 4 + 12 + 2916 + 4320 + 4 + 3 + 729 + 1080 + 729 + 60 + 60 + 4 + 3645 + 324 + 4) 161 [some (vR a0)] [vR ((G89.length : Int)), vR a0] G94 h95 Q
  have f97 := H.1
  replace H := H.2
  refine s_putFR (c := 9) (k := 23) (j := 23) dX9_init_161 fl_X9_69 (by decide) (by decide) rfl rfl rfl (Or.inr ⟨_, rfl⟩) rfl rfl f97 (fun h98 eh98 => ?_)
  replace H := H h98 eh98
  refine s_aload_n dX9_init_164 rfl rfl ?_
  refine s_sipush dX9_init_165 (by decide) ?_
  have f101 := H.1
  replace H := H.2
  refine s_newIH (n := 405) dX9_init_168 ka_int (by decide) f101 (fun G99 h100 egG99 eh100 => ?_)
  replace H := H G99 h100 egG99 eh100
  show S l MX9_init (d + 1, mc, ms, cu + 1 + 1 + 1 + 1 + 1 + 1 + 1 + 1 + 1 + 1 + 1 + 1 + 1 + 1 + 1 + 1 + 1 + 1 + 1 + 1, su + 3 + 729 + 1080 + 18 + 4 + 12 + 2916 + 4320 + 4 + 3 + 729 + 1080 + 729 + 60 + 60 + 4 + 3645 + 324 + 4 + 405) 170 [some (vR a0)] [vR ((G94.length : Int)), vR a0] G99 h100 Q
  have f102 := H.1
  replace H := H.2
  refine s_putFR (c := 9) (k := 24) (j := 24) dX9_init_170 fl_X9_72 (by decide) (by decide) rfl rfl rfl (Or.inr ⟨_, rfl⟩) rfl rfl f102 (fun h103 eh103 => ?_)
  replace H := H h103 eh103
  refine s_aload_n dX9_init_173 rfl rfl ?_
  refine s_iconst dX9_init_174 ?_
  have f106 := H.1
  replace H := H.2
  refine s_newIH (n := 4) dX9_init_175 ka_int (by decide) f106 (fun G104 h105 egG104 eh105 => ?_)
  replace H := H G104 h105 egG104 eh105
  show S l MX9_init (d + 1, mc, ms, cu + 1 + 1 + 1 + 1 + 1 + 1 + 1 + 1 + 1 + 1 + 1 + 1 + 1 + 1 + 1 + 1 + 1 + 1 + 1 + 1 + 1, su + 3 + 729 + 1080 + 18 + 4 + 12 + 2916 + 4320 + 4 + 3 + 729 + 1080 + 729 + 60 + 60 + 4 + 3645 + 324 + 4 + 405 + 4) 177 [some (vR a0)] [vR ((G99.length : Int)), vR a0] G104 h105 Q
  have f107 := H.1
  replace H := H.2
  refine s_putFR (c := 9) (k := 25) (j := 25) dX9_init_177 fl_X9_75 (by decide) (by decide) rfl rfl rfl (Or.inr ⟨_, rfl⟩) rfl rfl f107 (fun h108 eh108 => ?_)
  replace H := H h108 eh108
  refine s_aload_n dX9_init_180 rfl rfl ?_
  refine s_sipush dX9_init_181 (by decide) ?_
  have f111 := H.1
  replace H := H.2
  refine s_newIH (n := 1960) dX9_init_184 ka_int (by decide) f111 (fun G109 h110 egG109 eh110 => ?_)
  replace H := H G109 h110 egG109 eh110
  show S l MX9_init (d + 1, mc, ms, cu + 1 + 1 + 1 + 1 + 1 + 1 + 1 + 1 + 1 + 1 + 1 + 1 + 1 + 1 + 1 + 1 + 1 + 1 + 1 + 1 + 1 + 1, su + 3 + 729 + 1080 + 18 + 4 + 12 + 2916 + 4320 + 4 + 3 + 729 + 1080 + 729 + 60 + 60 + 4 + 3645 + 324 + 4 + 405 + 4 + 1960) 186 [some (vR a0)] [vR ((G104.length : Int)), vR a0] G109 h110 Q
  have f112 := H.1
  replace H := H.2
  refine s_putFR (c := 9) (k := 26) (j := 26) dX9_init_186 fl_X9_78 (by decide) (by decide) rfl rfl rfl (Or.inr ⟨_, rfl⟩) rfl rfl f112 (fun h113 eh113 => ?_)
  replace H := H h113 eh113
  refine s_aload_n dX9_init_189 rfl rfl ?_
  refine s_iconst dX9_init_190 ?_
  refine s_iconst dX9_init_191 ?_
  refine s_iconst dX9_init_192 ?_
  refine s_callV (M' := MX9_fresh) (As := [vI 1, vI 1, vI 1]) (a := a0) (st := []) dX9_init_193 ml_X9_81 cv_X9_fresh rfl rfl (Nat.le_of_ble_eq_true rfl) f111 f112 (R_mono (fun r114 G115 h116 H => ?_) H)
  show S l MX9_init (d + 1, mc, ms, cu + 1 + 1 + 1 + 1 + 1 + 1 + 1 + 1 + 1 + 1 + 1 + 1 + 1 + 1 + 1 + 1 + 1 + 1 + 1 + 1 + 1 + 1, su + 3 + 729 + 1080 + 18 + 4 + 12 + 2916 + 4320 + 4 + 3 + 729 + 1080 + 729 + 60 + 60 + 4 + 3645 + 324 + 4 + 405 + 4 + 1960) 196 [some (vR a0)] [] G115 h116 Q
  have f117 := H.1
  replace H := H.2
  exact s_vret dX9_init_196 rfl f117 H
