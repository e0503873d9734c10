set_option maxHeartbeats 4000000 in
set_option maxRecDepth 100000 in
theorem vJ9_max_7cf53_0 {l : Launch} {d : Nat} {G : GS} {h : HP} {Q : Int → GS → HP → Prop} (a0 a1 : Int) (H : (inR a0) ∧ (inR a1) ∧ ((a0 < a1 → Q a1 G h) ∧ (a1 ≤ a0 → Q a0 G h))) : S l MJ9_max_7cf53 (d, 0, 0, 0, 0) 0 [some (vI a0), some (vI a1)] [] G h Q := by
  refine s_iload_n dJ9_max_7cf53_0 rfl rfl ?_
  refine s_iload_n dJ9_max_7cf53_1 rfl rfl ?_
  have f1 := H.1
  replace H := H.2
  have f2 := H.1
  replace H := H.2
  refine s_icmp_lt (tgt := 9) dJ9_max_7cf53_2 (by decide) f1 f2 (fun c3 => ?_) (fun c3 => ?_)
  · replace H := H.1 c3
    refine s_iload_n dJ9_max_7cf53_9 rfl rfl ?_
    exact s_iret dJ9_max_7cf53_10 rfl ⟨Nat.le_refl _, Nat.le_refl _⟩ H
  · replace H := H.2 c3
    refine s_iload_n dJ9_max_7cf53_5 rfl rfl ?_
    refine s_goto (tgt := 10) dJ9_max_7cf53_6 (by decide) ?_
    exact s_iret dJ9_max_7cf53_10 rfl ⟨Nat.le_refl _, Nat.le_refl _⟩ H
