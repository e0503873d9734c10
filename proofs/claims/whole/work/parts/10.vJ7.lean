set_option maxHeartbeats 4000000 in
set_option maxRecDepth 100000 in
theorem vJ7_fill_53178_0 {l : Launch} {d : Nat} {G : GS} {h : HP} {Q : Int → GS → HP → Prop} (a0 a1 : Int) (H : (ty G a0 = 10) ∧ S l MJ7_fill_53178 (d, 0, 0, 0, 0) 5 [some (vR a0), some (vI a1), some (vI 0), some (vI (ln G a0))] [] G h Q) : S l MJ7_fill_53178 (d, 0, 0, 0, 0) 0 [some (vR a0), some (vI a1), none, none] [] G h Q := by
  refine s_iconst dJ7_fill_53178_0 ?_
  refine s_istore_n dJ7_fill_53178_1 rfl (by decide) rfl ?_
  show S l MJ7_fill_53178 (d, 0, 0, 0, 0) 2 [some (vR a0), some (vI a1), some (vI 0), none] [] G h Q
  refine s_aload_n dJ7_fill_53178_2 rfl rfl ?_
  have f1 := H.1
  replace H := H.2
  refine s_alen dJ7_fill_53178_3 f1 ?_
  refine s_istore_n dJ7_fill_53178_4 rfl (by decide) rfl ?_
  show S l MJ7_fill_53178 (d, 0, 0, 0, 0) 5 [some (vR a0), some (vI a1), some (vI 0), some (vI (ln G a0))] [] G h Q
  exact S_cut (by first | exact ⟨rfl, ⟨rfl, ⟨rfl, ⟨rfl, trivial⟩⟩⟩⟩ | simp [lsub]) H
set_option maxHeartbeats 4000000 in
set_option maxRecDepth 100000 in
theorem vJ7_fill_53178_5 {l : Launch} {d : Nat} {G : GS} {h : HP} {Q : Int → GS → HP → Prop} (a0 a1 a2 a3 : Int) (H : (inR a2) ∧ (inR a3) ∧ ((a3 ≤ a2 → Q 0 G h) ∧ (a2 < a3 → (inA G 10 a0 a2) ∧ ∀ h5 : HP, h5 = hset h a0 a2 a1 → S l MJ7_fill_53178 (d, 0, 0, 0, 0) 5 [some (vR a0), some (vI a1), some (vI (a2 + 1)), some (vI a3)] [] G h5 Q))) : S l MJ7_fill_53178 (d, 0, 0, 0, 0) 5 [some (vR a0), some (vI a1), some (vI a2), some (vI a3)] [] G h Q := by
  refine s_iload_n dJ7_fill_53178_5 rfl rfl ?_
  refine s_iload_n dJ7_fill_53178_6 rfl rfl ?_
  have f1 := H.1
  replace H := H.2
  have f2 := H.1
  replace H := H.2
  refine s_icmp_ge (tgt := 20) dJ7_fill_53178_7 (by decide) f1 f2 (fun c3 => ?_) (fun c3 => ?_)
  · replace H := H.1 c3
    exact s_vret dJ7_fill_53178_20 rfl ⟨Nat.le_refl _, Nat.le_refl _⟩ H
  · replace H := H.2 c3
    refine s_aload_n dJ7_fill_53178_10 rfl rfl ?_
    refine s_iload_n dJ7_fill_53178_11 rfl rfl ?_
    refine s_iload_n dJ7_fill_53178_12 rfl rfl ?_
    have f4 := H.1
    replace H := H.2
    refine s_iastH dJ7_fill_53178_13 f4 (fun h5 eh5 => ?_)
    replace H := H h5 eh5
    refine s_iinc dJ7_fill_53178_14 rfl (by decide) rfl ?_
    show S l MJ7_fill_53178 (d, 0, 0, 0, 0) 17 [some (vR a0), some (vI a1), some (vI (a2 + 1)), some (vI a3)] [] G h5 Q
    refine s_goto (tgt := 5) dJ7_fill_53178_17 (by decide) ?_
    exact S_cut (by first | exact ⟨rfl, ⟨rfl, ⟨rfl, ⟨rfl, trivial⟩⟩⟩⟩ | simp [lsub]) H
set_option maxHeartbeats 4000000 in
set_option maxRecDepth 100000 in
theorem vJ7_fill_fda19_0 {l : Launch} {d : Nat} {G : GS} {h : HP} {Q : Int → GS → HP → Prop} (a0 a1 a2 a3 : Int) (H : (ty G a0 = 10) ∧ R l MJ7_rangeCheck_23922 d 0 0 [vI (ln G a0), vI a1, vI a2] G h (fun r2 G3 h4 => S l MJ7_fill_fda19 (d + 1, 0, 0, 0, 0) 10 [some (vR a0), none, some (vI a2), some (vI a3), some (vI a1)] [] G3 h4 Q)) : S l MJ7_fill_fda19 (d + 1, 0, 0, 0, 0) 0 [some (vR a0), some (vI a1), some (vI a2), some (vI a3), none] [] G h Q := by
  refine s_aload_n dJ7_fill_fda19_0 rfl rfl ?_
  have f1 := H.1
  replace H := H.2
  refine s_alen dJ7_fill_fda19_1 f1 ?_
  refine s_iload_n dJ7_fill_fda19_2 rfl rfl ?_
  refine s_iload_n dJ7_fill_fda19_3 rfl rfl ?_
  refine s_callS (M' := MJ7_rangeCheck_23922) (As := [vI (ln G a0), vI a1, vI a2]) (st := []) dJ7_fill_fda19_4 ml_J7_13 cs_J7_rangeCheck_23922 rfl rfl (Nat.le_of_ble_eq_true rfl) ⟨Nat.le_refl _, Nat.le_refl _⟩ (R_mono (fun r2 G3 h4 H => ?_) H)
  show S l MJ7_fill_fda19 (d + 1, 0, 0, 0, 0) 7 [some (vR a0), some (vI a1), some (vI a2), some (vI a3), none] [] G3 h4 Q
  refine s_iload_n dJ7_fill_fda19_7 rfl rfl ?_
  refine s_istore dJ7_fill_fda19_8 (by decide) rfl ?_
  show S l MJ7_fill_fda19 (d + 1, 0, 0, 0, 0) 10 [some (vR a0), some (vI a1), some (vI a2), some (vI a3), some (vI a1)] [] G3 h4 Q
  exact S_cut (by first | exact ⟨rfl, ⟨rfl, ⟨rfl, ⟨rfl, trivial⟩⟩⟩⟩ | simp [lsub]) H
set_option maxHeartbeats 4000000 in
set_option maxRecDepth 100000 in
theorem vJ7_fill_fda19_10 {l : Launch} {d : Nat} {G : GS} {h : HP} {Q : Int → GS → HP → Prop} (a0 a2 a3 a4 : Int) (H : (inR a4) ∧ (inR a2) ∧ ((a2 ≤ a4 → Q 0 G h) ∧ (a4 < a2 → (inA G 10 a0 a4) ∧ ∀ h5 : HP, h5 = hset h a0 a4 a3 → S l MJ7_fill_fda19 (d + 1, 0, 0, 0, 0) 10 [some (vR a0), none, some (vI a2), some (vI a3), some (vI (a4 + 1))] [] G h5 Q))) : S l MJ7_fill_fda19 (d + 1, 0, 0, 0, 0) 10 [some (vR a0), none, some (vI a2), some (vI a3), some (vI a4)] [] G h Q := by
  refine s_iload dJ7_fill_fda19_10 rfl ?_
  refine s_iload_n dJ7_fill_fda19_12 rfl rfl ?_
  have f1 := H.1
  replace H := H.2
  have f2 := H.1
  replace H := H.2
  refine s_icmp_ge (tgt := 27) dJ7_fill_fda19_13 (by decide) f1 f2 (fun c3 => ?_) (fun c3 => ?_)
  · replace H := H.1 c3
    exact s_vret dJ7_fill_fda19_27 rfl ⟨Nat.le_refl _, Nat.le_refl _⟩ H
  · replace H := H.2 c3
    refine s_aload_n dJ7_fill_fda19_16 rfl rfl ?_
    refine s_iload dJ7_fill_fda19_17 rfl ?_
    refine s_iload_n dJ7_fill_fda19_19 rfl rfl ?_
    have f4 := H.1
    replace H := H.2
    refine s_iastH dJ7_fill_fda19_20 f4 (fun h5 eh5 => ?_)
    replace H := H h5 eh5
    refine s_iinc dJ7_fill_fda19_21 rfl (by decide) rfl ?_
    show S l MJ7_fill_fda19 (d + 1, 0, 0, 0, 0) 24 [some (vR a0), none, some (vI a2), some (vI a3), some (vI (a4 + 1))] [] G h5 Q
    refine s_goto (tgt := 10) dJ7_fill_fda19_24 (by decide) ?_
    exact S_cut (by first | exact ⟨rfl, ⟨rfl, ⟨rfl, ⟨rfl, trivial⟩⟩⟩⟩ | simp [lsub]) H
set_option maxHeartbeats 4000000 in
set_option maxRecDepth 100000 in
theorem vJ7_rangeCheck_23922_0 {l : Launch} {d : Nat} {G : GS} {h : HP} {Q : Int → GS → HP → Prop} (a0 a1 a2 : Int) (H : (inR a1) ∧ (inR a2) ∧ ((a1 ≤ a2 → ((0 ≤ a1 → (inR a0) ∧ ((a2 ≤ a0 → Q 0 G h) ∧ (a0 < a2 → False))) ∧ (a1 < 0 → False))) ∧ (a2 < a1 → False))) : S l MJ7_rangeCheck_23922 (d + 1, 0, 0, 0, 0) 0 [some (vI a0), some (vI a1), some (vI a2)] [] G h Q := by
  refine s_iload_n dJ7_rangeCheck_23922_0 rfl rfl ?_
  refine s_iload_n dJ7_rangeCheck_23922_1 rfl rfl ?_
  have f1 := H.1
  replace H := H.2
  have f2 := H.1
  replace H := H.2
  refine s_icmp_le (tgt := 46) dJ7_rangeCheck_23922_2 (by decide) f1 f2 (fun c3 => ?_) (fun c3 => ?_)
  · replace H := H.1 c3
    refine s_iload_n dJ7_rangeCheck_23922_46 rfl rfl ?_
    refine s_if_ge (tgt := 59) dJ7_rangeCheck_23922_47 (by decide) f1 (fun c4 => ?_) (fun c4 => ?_)
    · replace H := H.1 c4
      refine s_iload_n dJ7_rangeCheck_23922_59 rfl rfl ?_
      refine s_iload_n dJ7_rangeCheck_23922_60 rfl rfl ?_
      have f5 := H.1
      replace H := H.2
      refine s_icmp_le (tgt := 73) dJ7_rangeCheck_23922_61 (by decide) f2 f5 (fun c6 => ?_) (fun c6 => ?_)
      · replace H := H.1 c6
        exact s_vret dJ7_rangeCheck_23922_73 rfl ⟨Nat.le_refl _, Nat.le_refl _⟩ H
      · replace H := H.2 c6
        exact H.elim
    · replace H := H.2 c4
      exact H.elim
  · replace H := H.2 c3
    exact H.elim
