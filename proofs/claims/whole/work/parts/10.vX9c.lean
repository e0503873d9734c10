set_option maxHeartbeats 4000000 in
set_option maxRecDepth 100000 in
theorem vX9_lay_268 {l : Launch} {d : Nat} {G : GS} {h : HP} {Q : Int → GS → HP → Prop} (a0 a1 a2 a3 a5 : Int) (H : (ty G a0 = 9) ∧ (inA G 10 (h a0 1) 2) ∧ (inR a5) ∧ (inR (h (h a0 1) 2)) ∧ (((h (h a0 1) 2) ≤ a5 → Q 1 G h) ∧ (a5 < (h (h a0 1) 2) → (inA G 10 (h a0 21) (((729 * a1) + (81 * a5)) + a3)) ∧ (dvR ((h a0 0) - (h (h a0 21) (((729 * a1) + (81 * a5)) + a3))) (h a0 0)) ∧ S l MX9_lay (d + 1, 0, 0, 0, 0) 316 [some (vR a0), some (vI a1), some (vI a2), some (vI a3), none, some (vI a5), some (vI ((729 * a1) + (81 * a5))), some (vI (((h a0 0) - (h (h a0 21) (((729 * a1) + (81 * a5)) + a3))) % (h a0 0))), some (vI 0)] [] G h Q))) : S l MX9_lay (d + 1, 0, 0, 0, 0) 268 [some (vR a0), some (vI a1), some (vI a2), some (vI a3), none, some (vI a5), none, none, none] [] G h Q := by
  refine s_iload dX9_lay_268 rfl ?_
  refine s_aload_n dX9_lay_270 rfl rfl ?_
  have f1 := H.1
  replace H := H.2
  refine s_getf (c := 9) (k := 1) (t := 2) (j := 1) dX9_lay_271 fl_X9_13 (by decide) (by decide) rfl rfl f1 ?_
  refine s_iconst dX9_lay_274 ?_
  have f2 := H.1
  replace H := H.2
  refine s_iald dX9_lay_275 f2 ?_
  have f3 := H.1
  replace H := H.2
  have f4 := H.1
  replace H := H.2
  refine s_icmp_ge (tgt := 377) dX9_lay_276 (by decide) f3 f4 (fun c5 => ?_) (fun c5 => ?_)
  · replace H := H.1 c5
    refine s_iconst dX9_lay_377 ?_
    exact s_zret dX9_lay_378 rfl ⟨Nat.le_refl _, Nat.le_refl _⟩ (by decide) H
  · replace H := H.2 c5
    refine s_sipush dX9_lay_279 (by decide) ?_
    refine s_iload_n dX9_lay_282 rfl rfl ?_
    refine s_imul dX9_lay_283 ?_
    refine s_bipush dX9_lay_284 (by decide) ?_
    refine s_iload dX9_lay_286 rfl ?_
    refine s_imul dX9_lay_288 ?_
    refine s_iadd dX9_lay_289 ?_
    refine s_istore dX9_lay_290 (by decide) rfl ?_
    show S l MX9_lay (d + 1, 0, 0, 0, 0) 292 [some (vR a0), some (vI a1), some (vI a2), some (vI a3), none, some (vI a5), some (vI ((729 * a1) + (81 * a5))), none, none] [] G h Q
    refine s_aload_n dX9_lay_292 rfl rfl ?_
    refine s_getf (c := 9) (k := 0) (t := 0) (j := 0) dX9_lay_293 fl_X9_7 (by decide) (by decide) rfl rfl f1 ?_
    refine s_aload_n dX9_lay_296 rfl rfl ?_
    refine s_getf (c := 9) (k := 21) (t := 2) (j := 21) dX9_lay_297 fl_X9_63 (by decide) (by decide) rfl rfl f1 ?_
    refine s_iload dX9_lay_300 rfl ?_
    refine s_iload_n dX9_lay_302 rfl rfl ?_
    refine s_iadd dX9_lay_303 ?_
    have f6 := H.1
    replace H := H.2
    refine s_iald dX9_lay_304 f6 ?_
    refine s_isub dX9_lay_305 ?_
    refine s_aload_n dX9_lay_306 rfl rfl ?_
    refine s_getf (c := 9) (k := 0) (t := 0) (j := 0) dX9_lay_307 fl_X9_7 (by decide) (by decide) rfl rfl f1 ?_
    have f7 := H.1
    replace H := H.2
    refine s_irem dX9_lay_310 f7 ?_
    refine s_istore dX9_lay_311 (by decide) rfl ?_
    show S l MX9_lay (d + 1, 0, 0, 0, 0) 313 [some (vR a0), some (vI a1), some (vI a2), some (vI a3), none, some (vI a5), some (vI ((729 * a1) + (81 * a5))), some (vI (((h a0 0) - (h (h a0 21) (((729 * a1) + (81 * a5)) + a3))) % (h a0 0))), none] [] G h Q
    refine s_iconst dX9_lay_313 ?_
    refine s_istore dX9_lay_314 (by decide) rfl ?_
    show S l MX9_lay (d + 1, 0, 0, 0, 0) 316 [some (vR a0), some (vI a1), some (vI a2), some (vI a3), none, some (vI a5), some (vI ((729 * a1) + (81 * a5))), some (vI (((h a0 0) - (h (h a0 21) (((729 * a1) + (81 * a5)) + a3))) % (h a0 0))), some (vI 0)] [] G h Q
    exact S_cut (by first | exact ⟨rfl, ⟨rfl, ⟨rfl, ⟨rfl, ⟨rfl, ⟨rfl, ⟨rfl, ⟨rfl, trivial⟩⟩⟩⟩⟩⟩⟩⟩ | simp [lsub]) H
set_option maxHeartbeats 4000000 in
set_option maxRecDepth 100000 in
theorem vX9_lay_316 {l : Launch} {d : Nat} {G : GS} {h : HP} {Q : Int → GS → HP → Prop} (a0 a1 a2 a3 a5 a6 a7 a8 : Int) (H : (inR a8) ∧ ((81 ≤ a8 → S l MX9_lay (d + 1, 0, 0, 0, 0) 268 [some (vR a0), some (vI a1), some (vI a2), some (vI a3), none, some (vI (a5 + 1)), none, none, none] [] G h Q) ∧ (a8 < 81 → (ty G a0 = 9) ∧ (inA G 10 (h a0 21) (a6 + a8)) ∧ (inA G 10 (h a0 22) (a2 + a8)) ∧ (dvR ((h (h a0 21) (a6 + a8)) + (a7 * (h (h a0 22) (a2 + a8)))) (h a0 0)) ∧ (inA G 10 (h a0 21) ((a6 + 729) + a8)) ∧ ∀ h8 : HP, h8 = hset h (h a0 21) ((a6 + 729) + a8) (((h (h a0 21) (a6 + a8)) + (a7 * (h (h a0 22) (a2 + a8)))) % (h a0 0)) → S l MX9_lay (d + 1, 0, 0, 0, 0) 316 [some (vR a0), some (vI a1), some (vI a2), some (vI a3), none, some (vI a5), some (vI a6), some (vI a7), some (vI (a8 + 1))] [] G h8 Q))) : S l MX9_lay (d + 1, 0, 0, 0, 0) 316 [some (vR a0), some (vI a1), some (vI a2), some (vI a3), none, some (vI a5), some (vI a6), some (vI a7), some (vI a8)] [] G h Q := by
  refine s_iload dX9_lay_316 rfl ?_
  refine s_bipush dX9_lay_318 (by decide) ?_
  have f1 := H.1
  replace H := H.2
  refine s_icmp_ge (tgt := 371) dX9_lay_320 (by decide) f1 (by decide) (fun c2 => ?_) (fun c2 => ?_)
  · replace H := H.1 c2
    refine s_iinc dX9_lay_371 rfl (by decide) rfl ?_
    show S l MX9_lay (d + 1, 0, 0, 0, 0) 374 [some (vR a0), some (vI a1), some (vI a2), some (vI a3), none, some (vI (a5 + 1)), some (vI a6), some (vI a7), some (vI a8)] [] G h Q
    refine s_goto (tgt := 268) dX9_lay_374 (by decide) ?_
    exact S_cut (by first | exact ⟨rfl, ⟨rfl, ⟨rfl, ⟨rfl, ⟨rfl, trivial⟩⟩⟩⟩⟩ | simp [lsub]) H
  · replace H := H.2 c2
    refine s_aload_n dX9_lay_323 rfl rfl ?_
    have f3 := H.1
    replace H := H.2
    refine s_getf (c := 9) (k := 21) (t := 2) (j := 21) dX9_lay_324 fl_X9_63 (by decide) (by decide) rfl rfl f3 ?_
    refine s_iload dX9_lay_327 rfl ?_
    refine s_sipush dX9_lay_329 (by decide) ?_
    refine s_iadd dX9_lay_332 ?_
    refine s_iload dX9_lay_333 rfl ?_
    refine s_iadd dX9_lay_335 ?_
    refine s_aload_n dX9_lay_336 rfl rfl ?_
    refine s_getf (c := 9) (k := 21) (t := 2) (j := 21) dX9_lay_337 fl_X9_63 (by decide) (by decide) rfl rfl f3 ?_
    refine s_iload dX9_lay_340 rfl ?_
    refine s_iload dX9_lay_342 rfl ?_
    refine s_iadd dX9_lay_344 ?_
    have f4 := H.1
    replace H := H.2
    refine s_iald dX9_lay_345 f4 ?_
    refine s_iload dX9_lay_346 rfl ?_
    refine s_aload_n dX9_lay_348 rfl rfl ?_
    refine s_getf (c := 9) (k := 22) (t := 2) (j := 22) dX9_lay_349 fl_X9_66 (by decide) (by decide) rfl rfl f3 ?_
    refine s_iload_n dX9_lay_352 rfl rfl ?_
    refine s_iload dX9_lay_353 rfl ?_
    refine s_iadd dX9_lay_355 ?_
    have f5 := H.1
    replace H := H.2
    refine s_iald dX9_lay_356 f5 ?_
    refine s_imul dX9_lay_357 ?_
    refine s_iadd dX9_lay_358 ?_
    refine s_aload_n dX9_lay_359 rfl rfl ?_
    refine s_getf (c := 9) (k := 0) (t := 0) (j := 0) dX9_lay_360 fl_X9_7 (by decide) (by decide) rfl rfl f3 ?_
    have f6 := H.1
    replace H := H.2
    refine s_irem dX9_lay_363 f6 ?_
    have f7 := H.1
    replace H := H.2
    refine s_iastH dX9_lay_364 f7 (fun h8 eh8 => ?_)
    replace H := H h8 eh8
    refine s_iinc dX9_lay_365 rfl (by decide) rfl ?_
    show S l MX9_lay (d + 1, 0, 0, 0, 0) 368 [some (vR a0), some (vI a1), some (vI a2), some (vI a3), none, some (vI a5), some (vI a6), some (vI a7), some (vI (a8 + 1))] [] G h8 Q
    refine s_goto (tgt := 316) dX9_lay_368 (by decide) ?_
    exact S_cut (by first | exact ⟨rfl, ⟨rfl, ⟨rfl, ⟨rfl, ⟨rfl, ⟨rfl, ⟨rfl, ⟨rfl, trivial⟩⟩⟩⟩⟩⟩⟩⟩ | simp [lsub]) H
set_option maxHeartbeats 4000000 in
set_option maxRecDepth 100000 in
theorem vX9_digit_0 {l : Launch} {d : Nat} {G : GS} {h : HP} {Q : Int → GS → HP → Prop} (a0 a1 a2 : Int) (H : S l MX9_digit (d, 0, 0, 0, 0) 5 [some (vR a0), none, some (vI a2), some (vI a1), some (vI 0)] [] G h Q) : S l MX9_digit (d, 0, 0, 0, 0) 0 [some (vR a0), some (vI a1), some (vI a2), none, none] [] G h Q := by
  refine s_iload_n dX9_digit_0 rfl rfl ?_
  refine s_istore_n dX9_digit_1 rfl (by decide) rfl ?_
  show S l MX9_digit (d, 0, 0, 0, 0) 2 [some (vR a0), some (vI a1), some (vI a2), some (vI a1), none] [] G h Q
  refine s_iconst dX9_digit_2 ?_
  refine s_istore dX9_digit_3 (by decide) rfl ?_
  show S l MX9_digit (d, 0, 0, 0, 0) 5 [some (vR a0), some (vI a1), some (vI a2), some (vI a1), some (vI 0)] [] G h Q
  exact S_cut (by first | exact ⟨rfl, ⟨rfl, ⟨rfl, ⟨rfl, trivial⟩⟩⟩⟩ | simp [lsub]) H
set_option maxHeartbeats 4000000 in
set_option maxRecDepth 100000 in
theorem vX9_digit_5 {l : Launch} {d : Nat} {G : GS} {h : HP} {Q : Int → GS → HP → Prop} (a0 a2 a3 a4 : Int) (H : (inR a4) ∧ (inR a2) ∧ ((a2 ≤ a4 → (ty G a0 = 9) ∧ (dvR a3 (h a0 0)) ∧ Q (a3 % (h a0 0)) G h) ∧ (a4 < a2 → (ty G a0 = 9) ∧ (dvR a3 (h a0 0)) ∧ S l MX9_digit (d, 0, 0, 0, 0) 5 [some (vR a0), none, some (vI a2), some (vI (a3 / (h a0 0))), some (vI (a4 + 1))] [] G h Q))) : S l MX9_digit (d, 0, 0, 0, 0) 5 [some (vR a0), none, some (vI a2), some (vI a3), some (vI a4)] [] G h Q := by
  refine s_iload dX9_digit_5 rfl ?_
  refine s_iload_n dX9_digit_7 rfl rfl ?_
  have f1 := H.1
  replace H := H.2
  have f2 := H.1
  replace H := H.2
  refine s_icmp_ge (tgt := 24) dX9_digit_8 (by decide) f1 f2 (fun c3 => ?_) (fun c3 => ?_)
  · replace H := H.1 c3
    refine s_iload_n dX9_digit_24 rfl rfl ?_
    refine s_aload_n dX9_digit_25 rfl rfl ?_
    have f4 := H.1
    replace H := H.2
    refine s_getf (c := 9) (k := 0) (t := 0) (j := 0) dX9_digit_26 fl_X9_7 (by decide) (by decide) rfl rfl f4 ?_
    have f5 := H.1
    replace H := H.2
    refine s_irem dX9_digit_29 f5 ?_
    exact s_iret dX9_digit_30 rfl ⟨Nat.le_refl _, Nat.le_refl _⟩ H
  · replace H := H.2 c3
    refine s_iload_n dX9_digit_11 rfl rfl ?_
    refine s_aload_n dX9_digit_12 rfl rfl ?_
    have f6 := H.1
    replace H := H.2
    refine s_getf (c := 9) (k := 0) (t := 0) (j := 0) dX9_digit_13 fl_X9_7 (by decide) (by decide) rfl rfl f6 ?_
    have f7 := H.1
    replace H := H.2
    refine s_idiv dX9_digit_16 f7 ?_
    refine s_istore_n dX9_digit_17 rfl (by decide) rfl ?_
    show S l MX9_digit (d, 0, 0, 0, 0) 18 [some (vR a0), none, some (vI a2), some (vI (a3 / (h a0 0))), some (vI a4)] [] G h Q
    refine s_iinc dX9_digit_18 rfl (by decide) rfl ?_
    show S l MX9_digit (d, 0, 0, 0, 0) 21 [some (vR a0), none, some (vI a2), some (vI (a3 / (h a0 0))), some (vI (a4 + 1))] [] G h Q
    refine s_goto (tgt := 5) dX9_digit_21 (by decide) ?_
    exact S_cut (by first | exact ⟨rfl, ⟨rfl, ⟨rfl, ⟨rfl, trivial⟩⟩⟩⟩ | simp [lsub]) H
set_option maxHeartbeats 4000000 in
set_option maxRecDepth 100000 in
theorem vX9_find_0 {l : Launch} {d : Nat} {G : GS} {h : HP} {Q : Int → GS → HP → Prop} (a0 : Int) (H : (ty G a0 = 9) ∧ ∀ h2 : HP, h2 = hset h a0 15 0 → R l MX9_findLeast d 0 0 [vR a0] G h2 (fun r3 G4 h5 => (inR r3) ∧ ((0 ≤ r3 → (ty G4 a0 = 9) ∧ ∀ h9 : HP, h9 = hset h5 a0 4 r3 → S l MX9_find (d + 1, 0, 0, 0, 0) 23 [some (vR a0), some (vI r3), some (vI 0), none] [] G4 h9 Q) ∧ (r3 < 0 → Q r3 G4 h5)))) : S l MX9_find (d + 1, 0, 0, 0, 0) 0 [some (vR a0), none, none, none] [] G h Q := by
  refine s_aload_n dX9_find_0 rfl rfl ?_
  refine s_iconst dX9_find_1 ?_
  have f1 := H.1
  replace H := H.2
  refine s_putZ (c := 9) (k := 15) (j := 15) dX9_find_2 fl_X9_91 (by decide) (by decide) rfl rfl rfl (by decide) f1 (fun h2 eh2 => ?_)
  replace H := H h2 eh2
  refine s_aload_n dX9_find_5 rfl rfl ?_
  refine s_callV (M' := MX9_findLeast) (As := []) (a := a0) (st := []) dX9_find_6 ml_X9_228 cv_X9_findLeast rfl rfl (Nat.le_of_ble_eq_true rfl) ⟨Nat.le_refl _, Nat.le_refl _⟩ f1 (R_mono (fun r3 G4 h5 H => ?_) H)
  show S l MX9_find (d + 1, 0, 0, 0, 0) 9 [some (vR a0), none, none, none] [vI r3] G4 h5 Q
  refine s_istore_n dX9_find_9 rfl (by decide) rfl ?_
  show S l MX9_find (d + 1, 0, 0, 0, 0) 10 [some (vR a0), some (vI r3), none, none] [] G4 h5 Q
  refine s_iload_n dX9_find_10 rfl rfl ?_
  have f6 := H.1
  replace H := H.2
  refine s_if_ge (tgt := 16) dX9_find_11 (by decide) f6 (fun c7 => ?_) (fun c7 => ?_)
  · replace H := H.1 c7
    refine s_aload_n dX9_find_16 rfl rfl ?_
    refine s_iload_n dX9_find_17 rfl rfl ?_
    have f8 := H.1
    replace H := H.2
    refine s_putI (c := 9) (k := 4) (j := 4) dX9_find_18 fl_X9_85 (by decide) (by decide) rfl rfl rfl f8 (fun h9 eh9 => ?_)
    replace H := H h9 eh9
    refine s_iconst dX9_find_21 ?_
    refine s_istore_n dX9_find_22 rfl (by decide) rfl ?_
    show S l MX9_find (d + 1, 0, 0, 0, 0) 23 [some (vR a0), some (vI r3), some (vI 0), none] [] G4 h9 Q
    exact S_cut (by first | exact ⟨rfl, ⟨rfl, ⟨rfl, trivial⟩⟩⟩ | simp [lsub]) H
  · replace H := H.2 c7
    refine s_iload_n dX9_find_14 rfl rfl ?_
    exact s_iret dX9_find_15 rfl ⟨Nat.le_refl _, Nat.le_refl _⟩ H
set_option maxHeartbeats 4000000 in
set_option maxRecDepth 100000 in
theorem vX9_find_23 {l : Launch} {d : Nat} {G : GS} {h : HP} {Q : Int → GS → HP → Prop} (a0 a1 a2 : Int) (H : (inR a2) ∧ (inR a1) ∧ ((a1 ≤ a2 → S l MX9_find (d + 1, 0, 0, 0, 0) 77 [some (vR a0), some (vI a1), some (vI 0), none] [] G h Q) ∧ (a2 < a1 → (ty G a0 = 9) ∧ (inA G 10 (h a0 20) a2) ∧ (inA G 10 (h a0 17) (h (h a0 20) a2)) ∧ R l MX9_putRow d 0 0 [vR a0, vI a2, vI 0, vI (h (h a0 17) (h (h a0 20) a2))] G h (fun r7 G8 h9 => (ty G8 a0 = 9) ∧ (inA G8 10 (h9 a0 20) a2) ∧ (inA G8 10 (h9 a0 18) (h9 (h9 a0 20) a2)) ∧ R l MX9_putRow d 0 0 [vR a0, vI a2, vI 1, vI (h9 (h9 a0 18) (h9 (h9 a0 20) a2))] G8 h9 (fun r13 G14 h15 => (ty G14 a0 = 9) ∧ R l MX9_putRow d 0 0 [vR a0, vI a2, vI 2, vI 0] G14 h15 (fun r16 G17 h18 => S l MX9_find (d + 1, 0, 0, 0, 0) 23 [some (vR a0), some (vI a1), some (vI (a2 + 1)), none] [] G17 h18 Q)))))) : S l MX9_find (d + 1, 0, 0, 0, 0) 23 [some (vR a0), some (vI a1), some (vI a2), none] [] G h Q := by
  refine s_iload_n dX9_find_23 rfl rfl ?_
  refine s_iload_n dX9_find_24 rfl rfl ?_
  have f1 := H.1
  replace H := H.2
  have f2 := H.1
  replace H := H.2
  refine s_icmp_ge (tgt := 75) dX9_find_25 (by decide) f1 f2 (fun c3 => ?_) (fun c3 => ?_)
  · replace H := H.1 c3
    refine s_iconst dX9_find_75 ?_
    refine s_istore_n dX9_find_76 rfl (by decide) rfl ?_
    show S l MX9_find (d + 1, 0, 0, 0, 0) 77 [some (vR a0), some (vI a1), some (vI 0), none] [] G h Q
    exact S_cut (by first | exact ⟨rfl, ⟨rfl, ⟨rfl, trivial⟩⟩⟩ | simp [lsub]) H
  · replace H := H.2 c3
    refine s_aload_n dX9_find_28 rfl rfl ?_
    refine s_iload_n dX9_find_29 rfl rfl ?_
    refine s_iconst dX9_find_30 ?_
    refine s_aload_n dX9_find_31 rfl rfl ?_
    have f4 := H.1
    replace H := H.2
    refine s_getf (c := 9) (k := 17) (t := 2) (j := 17) dX9_find_32 fl_X9_54 (by decide) (by decide) rfl rfl f4 ?_
    refine s_aload_n dX9_find_35 rfl rfl ?_
    refine s_getf (c := 9) (k := 20) (t := 2) (j := 20) dX9_find_36 fl_X9_60 (by decide) (by decide) rfl rfl f4 ?_
    refine s_iload_n dX9_find_39 rfl rfl ?_
    have f5 := H.1
    replace H := H.2
    refine s_iald dX9_find_40 f5 ?_
    have f6 := H.1
    replace H := H.2
    refine s_iald dX9_find_41 f6 ?_
    refine s_callV (M' := MX9_putRow) (As := [vI a2, vI 0, vI (h (h a0 17) (h (h a0 20) a2))]) (a := a0) (st := []) dX9_find_42 ml_X9_123 cv_X9_putRow rfl rfl (Nat.le_of_ble_eq_true rfl) ⟨Nat.le_refl _, Nat.le_refl _⟩ f4 (R_mono (fun r7 G8 h9 H => ?_) H)
    show S l MX9_find (d + 1, 0, 0, 0, 0) 45 [some (vR a0), some (vI a1), some (vI a2), none] [] G8 h9 Q
    refine s_aload_n dX9_find_45 rfl rfl ?_
    refine s_iload_n dX9_find_46 rfl rfl ?_
    refine s_iconst dX9_find_47 ?_
    refine s_aload_n dX9_find_48 rfl rfl ?_
    have f10 := H.1
    replace H := H.2
    refine s_getf (c := 9) (k := 18) (t := 2) (j := 18) dX9_find_49 fl_X9_57 (by decide) (by decide) rfl rfl f10 ?_
    refine s_aload_n dX9_find_52 rfl rfl ?_
    refine s_getf (c := 9) (k := 20) (t := 2) (j := 20) dX9_find_53 fl_X9_60 (by decide) (by decide) rfl rfl f10 ?_
    refine s_iload_n dX9_find_56 rfl rfl ?_
    have f11 := H.1
    replace H := H.2
    refine s_iald dX9_find_57 f11 ?_
    have f12 := H.1
    replace H := H.2
    refine s_iald dX9_find_58 f12 ?_
    refine s_callV (M' := MX9_putRow) (As := [vI a2, vI 1, vI (h9 (h9 a0 18) (h9 (h9 a0 20) a2))]) (a := a0) (st := []) dX9_find_59 ml_X9_123 cv_X9_putRow rfl rfl (Nat.le_of_ble_eq_true rfl) ⟨Nat.le_refl _, Nat.le_refl _⟩ f10 (R_mono (fun r13 G14 h15 H => ?_) H)
    show S l MX9_find (d + 1, 0, 0, 0, 0) 62 [some (vR a0), some (vI a1), some (vI a2), none] [] G14 h15 Q
    refine s_aload_n dX9_find_62 rfl rfl ?_
    refine s_iload_n dX9_find_63 rfl rfl ?_
    refine s_iconst dX9_find_64 ?_
    refine s_iconst dX9_find_65 ?_
    have f19 := H.1
    replace H := H.2
    refine s_callV (M' := MX9_putRow) (As := [vI a2, vI 2, vI 0]) (a := a0) (st := []) dX9_find_66 ml_X9_123 cv_X9_putRow rfl rfl (Nat.le_of_ble_eq_true rfl) ⟨Nat.le_refl _, Nat.le_refl _⟩ f19 (R_mono (fun r16 G17 h18 H => ?_) H)
    show S l MX9_find (d + 1, 0, 0, 0, 0) 69 [some (vR a0), some (vI a1), some (vI a2), none] [] G17 h18 Q
    refine s_iinc dX9_find_69 rfl (by decide) rfl ?_
    show S l MX9_find (d + 1, 0, 0, 0, 0) 72 [some (vR a0), some (vI a1), some (vI (a2 + 1)), none] [] G17 h18 Q
    refine s_goto (tgt := 23) dX9_find_72 (by decide) ?_
    exact S_cut (by first | exact ⟨rfl, ⟨rfl, ⟨rfl, trivial⟩⟩⟩ | simp [lsub]) H
set_option maxHeartbeats 4000000 in
set_option maxRecDepth 100000 in
theorem vX9_find_77 {l : Launch} {d : Nat} {G : GS} {h : HP} {Q : Int → GS → HP → Prop} (a0 a1 a2 : Int) (H : (ty G a0 = 9) ∧ (inA G 10 (h a0 1) 2) ∧ (inR a2) ∧ (inR (h (h a0 1) 2)) ∧ (((h (h a0 1) 2) ≤ a2 → Q a1 G h) ∧ (a2 < (h (h a0 1) 2) → R l MX9_sumTo d 0 0 [vR a0, vI a1, vI a2] G h (fun r6 G7 h8 => S l MX9_find (d + 1, 0, 0, 0, 0) 95 [some (vR a0), some (vI a1), some (vI a2), some (vI 0)] [] G7 h8 Q)))) : S l MX9_find (d + 1, 0, 0, 0, 0) 77 [some (vR a0), some (vI a1), some (vI a2), none] [] G h Q := by
  refine s_iload_n dX9_find_77 rfl rfl ?_
  refine s_aload_n dX9_find_78 rfl rfl ?_
  have f1 := H.1
  replace H := H.2
  refine s_getf (c := 9) (k := 1) (t := 2) (j := 1) dX9_find_79 fl_X9_13 (by decide) (by decide) rfl rfl f1 ?_
  refine s_iconst dX9_find_82 ?_
  have f2 := H.1
  replace H := H.2
  refine s_iald dX9_find_83 f2 ?_
  have f3 := H.1
  replace H := H.2
  have f4 := H.1
  replace H := H.2
  refine s_icmp_ge (tgt := 132) dX9_find_84 (by decide) f3 f4 (fun c5 => ?_) (fun c5 => ?_)
  · replace H := H.1 c5
    refine s_iload_n dX9_find_132 rfl rfl ?_
    exact s_iret dX9_find_133 rfl ⟨Nat.le_refl _, Nat.le_refl _⟩ H
  · replace H := H.2 c5
    refine s_aload_n dX9_find_87 rfl rfl ?_
    refine s_iload_n dX9_find_88 rfl rfl ?_
    refine s_iload_n dX9_find_89 rfl rfl ?_
    refine s_callV (M' := MX9_sumTo) (As := [vI a1, vI a2]) (a := a0) (st := []) dX9_find_90 ml_X9_231 cv_X9_sumTo rfl rfl (Nat.le_of_ble_eq_true rfl) ⟨Nat.le_refl _, Nat.le_refl _⟩ f1 (R_mono (fun r6 G7 h8 H => ?_) H)
    show S l MX9_find (d + 1, 0, 0, 0, 0) 93 [some (vR a0), some (vI a1), some (vI a2), none] [] G7 h8 Q
    refine s_iconst dX9_find_93 ?_
    refine s_istore_n dX9_find_94 rfl (by decide) rfl ?_
    show S l MX9_find (d + 1, 0, 0, 0, 0) 95 [some (vR a0), some (vI a1), some (vI a2), some (vI 0)] [] G7 h8 Q
    exact S_cut (by first | exact ⟨rfl, ⟨rfl, ⟨rfl, ⟨rfl, trivial⟩⟩⟩⟩ | simp [lsub]) H
set_option maxHeartbeats 4000000 in
set_option maxRecDepth 100000 in
theorem vX9_find_95 {l : Launch} {d : Nat} {G : GS} {h : HP} {Q : Int → GS → HP → Prop} (a0 a1 a2 a3 : Int) (H : (inR a3) ∧ (inR a1) ∧ ((a1 ≤ a3 → S l MX9_find (d + 1, 0, 0, 0, 0) 77 [some (vR a0), some (vI a1), some (vI (a2 + 1)), none] [] G h Q) ∧ (a3 < a1 → (ty G a0 = 9) ∧ (inA G 10 (h a0 25) a3) ∧ (inA G 10 (h a0 3) (((27 * a3) + 18) + a2)) ∧ ∀ h7 : HP, h7 = hset h (h a0 3) (((27 * a3) + 18) + a2) (h (h a0 25) a3) → S l MX9_find (d + 1, 0, 0, 0, 0) 95 [some (vR a0), some (vI a1), some (vI a2), some (vI (a3 + 1))] [] G h7 Q))) : S l MX9_find (d + 1, 0, 0, 0, 0) 95 [some (vR a0), some (vI a1), some (vI a2), some (vI a3)] [] G h Q := by
  refine s_iload_n dX9_find_95 rfl rfl ?_
  refine s_iload_n dX9_find_96 rfl rfl ?_
  have f1 := H.1
  replace H := H.2
  have f2 := H.1
  replace H := H.2
  refine s_icmp_ge (tgt := 126) dX9_find_97 (by decide) f1 f2 (fun c3 => ?_) (fun c3 => ?_)
  · replace H := H.1 c3
    refine s_iinc dX9_find_126 rfl (by decide) rfl ?_
    show S l MX9_find (d + 1, 0, 0, 0, 0) 129 [some (vR a0), some (vI a1), some (vI (a2 + 1)), some (vI a3)] [] G h Q
    refine s_goto (tgt := 77) dX9_find_129 (by decide) ?_
    exact S_cut (by first | exact ⟨rfl, ⟨rfl, ⟨rfl, trivial⟩⟩⟩ | simp [lsub]) H
  · replace H := H.2 c3
    refine s_aload_n dX9_find_100 rfl rfl ?_
    have f4 := H.1
    replace H := H.2
    refine s_getf (c := 9) (k := 3) (t := 2) (j := 3) dX9_find_101 fl_X9_20 (by decide) (by decide) rfl rfl f4 ?_
    refine s_bipush dX9_find_104 (by decide) ?_
    refine s_iload_n dX9_find_106 rfl rfl ?_
    refine s_imul dX9_find_107 ?_
    refine s_bipush dX9_find_108 (by decide) ?_
    refine s_iadd dX9_find_110 ?_
    refine s_iload_n dX9_find_111 rfl rfl ?_
    refine s_iadd dX9_find_112 ?_
    refine s_aload_n dX9_find_113 rfl rfl ?_
    refine s_getf (c := 9) (k := 25) (t := 2) (j := 25) dX9_find_114 fl_X9_75 (by decide) (by decide) rfl rfl f4 ?_
    refine s_iload_n dX9_find_117 rfl rfl ?_
    have f5 := H.1
    replace H := H.2
    refine s_iald dX9_find_118 f5 ?_
    have f6 := H.1
    replace H := H.2
    refine s_iastH dX9_find_119 f6 (fun h7 eh7 => ?_)
    replace H := H h7 eh7
    refine s_iinc dX9_find_120 rfl (by decide) rfl ?_
    show S l MX9_find (d + 1, 0, 0, 0, 0) 123 [some (vR a0), some (vI a1), some (vI a2), some (vI (a3 + 1))] [] G h7 Q
    refine s_goto (tgt := 95) dX9_find_123 (by decide) ?_
    exact S_cut (by first | exact ⟨rfl, ⟨rfl, ⟨rfl, ⟨rfl, trivial⟩⟩⟩⟩ | simp [lsub]) H
set_option maxHeartbeats 4000000 in
set_option maxRecDepth 100000 in
theorem vX9_sumTo_0 {l : Launch} {d : Nat} {G : GS} {h : HP} {Q : Int → GS → HP → Prop} (a0 a1 a2 : Int) (H : S l MX9_sumTo (d + 1, 0, 0, 0, 0) 2 [some (vR a0), some (vI a1), some (vI a2), some (vI 0), none, none, none, none, none] [] G h Q) : S l MX9_sumTo (d + 1, 0, 0, 0, 0) 0 [some (vR a0), some (vI a1), some (vI a2), none, none, none, none, none, none] [] G h Q := by
  refine s_iconst dX9_sumTo_0 ?_
  refine s_istore_n dX9_sumTo_1 rfl (by decide) rfl ?_
  show S l MX9_sumTo (d + 1, 0, 0, 0, 0) 2 [some (vR a0), some (vI a1), some (vI a2), some (vI 0), none, none, none, none, none] [] G h Q
  exact S_cut (by first | exact ⟨rfl, ⟨rfl, ⟨rfl, ⟨rfl, trivial⟩⟩⟩⟩ | simp [lsub]) H
set_option maxHeartbeats 4000000 in
set_option maxRecDepth 100000 in
theorem vX9_sumTo_2 {l : Launch} {d : Nat} {G : GS} {h : HP} {Q : Int → GS → HP → Prop} (a0 a1 a2 a3 : Int) (H : (inR a3) ∧ ((81 ≤ a3 → S l MX9_sumTo (d + 1, 0, 0, 0, 0) 109 [some (vR a0), some (vI a1), none, some (vI 0), none, none, none, none, none] [] G h Q) ∧ (a3 < 81 → S l MX9_sumTo (d + 1, 0, 0, 0, 0) 11 [some (vR a0), some (vI a1), some (vI a2), some (vI a3), some (vI 0), none, none, none, none] [] G h Q))) : S l MX9_sumTo (d + 1, 0, 0, 0, 0) 2 [some (vR a0), some (vI a1), some (vI a2), some (vI a3), none, none, none, none, none] [] G h Q := by
  refine s_iload_n dX9_sumTo_2 rfl rfl ?_
  refine s_bipush dX9_sumTo_3 (by decide) ?_
  have f1 := H.1
  replace H := H.2
  refine s_icmp_ge (tgt := 107) dX9_sumTo_5 (by decide) f1 (by decide) (fun c2 => ?_) (fun c2 => ?_)
  · replace H := H.1 c2
    refine s_iconst dX9_sumTo_107 ?_
    refine s_istore_n dX9_sumTo_108 rfl (by decide) rfl ?_
    show S l MX9_sumTo (d + 1, 0, 0, 0, 0) 109 [some (vR a0), some (vI a1), some (vI a2), some (vI 0), none, none, none, none, none] [] G h Q
    exact S_cut (by first | exact ⟨rfl, ⟨rfl, ⟨rfl, trivial⟩⟩⟩ | simp [lsub]) H
  · replace H := H.2 c2
    refine s_iconst dX9_sumTo_8 ?_
    refine s_istore dX9_sumTo_9 (by decide) rfl ?_
    show S l MX9_sumTo (d + 1, 0, 0, 0, 0) 11 [some (vR a0), some (vI a1), some (vI a2), some (vI a3), some (vI 0), none, none, none, none] [] G h Q
    exact S_cut (by first | exact ⟨rfl, ⟨rfl, ⟨rfl, ⟨rfl, ⟨rfl, trivial⟩⟩⟩⟩⟩ | simp [lsub]) H
set_option maxHeartbeats 4000000 in
set_option maxRecDepth 100000 in
theorem vX9_sumTo_109 {l : Launch} {d : Nat} {G : GS} {h : HP} {Q : Int → GS → HP → Prop} (a0 a1 a3 : Int) (H : (inR a3) ∧ (inR a1) ∧ ((a1 ≤ a3 → S l MX9_sumTo (d + 1, 0, 0, 0, 0) 348 [some (vR a0), some (vI a1), none, some (vI 0), none, none, none, none, none] [] G h Q) ∧ (a3 < a1 → S l MX9_sumTo (d + 1, 0, 0, 0, 0) 117 [some (vR a0), some (vI a1), none, some (vI a3), some (vI a3), none, none, none, none] [] G h Q))) : S l MX9_sumTo (d + 1, 0, 0, 0, 0) 109 [some (vR a0), some (vI a1), none, some (vI a3), none, none, none, none, none] [] G h Q := by
  refine s_iload_n dX9_sumTo_109 rfl rfl ?_
  refine s_iload_n dX9_sumTo_110 rfl rfl ?_
  have f1 := H.1
  replace H := H.2
  have f2 := H.1
  replace H := H.2
  refine s_icmp_ge (tgt := 346) dX9_sumTo_111 (by decide) f1 f2 (fun c3 => ?_) (fun c3 => ?_)
  · replace H := H.1 c3
    refine s_iconst dX9_sumTo_346 ?_
    refine s_istore_n dX9_sumTo_347 rfl (by decide) rfl ?_
    show S l MX9_sumTo (d + 1, 0, 0, 0, 0) 348 [some (vR a0), some (vI a1), none, some (vI 0), none, none, none, none, none] [] G h Q
    exact S_cut (by first | exact ⟨rfl, ⟨rfl, ⟨rfl, trivial⟩⟩⟩ | simp [lsub]) H
  · replace H := H.2 c3
    refine s_iload_n dX9_sumTo_114 rfl rfl ?_
    refine s_istore dX9_sumTo_115 (by decide) rfl ?_
    show S l MX9_sumTo (d + 1, 0, 0, 0, 0) 117 [some (vR a0), some (vI a1), none, some (vI a3), some (vI a3), none, none, none, none] [] G h Q
    exact S_cut (by first | exact ⟨rfl, ⟨rfl, ⟨rfl, ⟨rfl, trivial⟩⟩⟩⟩ | simp [lsub]) H
set_option maxHeartbeats 4000000 in
set_option maxRecDepth 100000 in
theorem vX9_sumTo_11 {l : Launch} {d : Nat} {G : GS} {h : HP} {Q : Int → GS → HP → Prop} (a0 a1 a2 a3 a4 : Int) (H : (inR a4) ∧ (inR a1) ∧ ((a1 ≤ a4 → (ty G a0 = 9) ∧ (inA G 10 (h a0 2) ((9 * a3) + a2)) ∧ (inA G 10 (h a0 24) ((5 * a3) + 4)) ∧ ∀ h7 : HP, h7 = hset h (h a0 24) ((5 * a3) + 4) (h (h a0 2) ((9 * a3) + a2)) → S l MX9_sumTo (d + 1, 0, 0, 0, 0) 2 [some (vR a0), some (vI a1), some (vI a2), some (vI (a3 + 1)), none, none, none, none, none] [] G h7 Q) ∧ (a4 < a1 → (ty G a0 = 9) ∧ (inA G 10 (h a0 20) a4) ∧ (inA G 10 (h a0 17) (h (h a0 20) a4)) ∧ (dvR a3 9) ∧ R l MX9_digit d 0 0 [vR a0, vI (h (h a0 17) (h (h a0 20) a4)), vI (a3 / 9)] G h (fun r12 G13 h14 => (ty G13 a0 = 9) ∧ (inA G13 10 (h14 a0 20) a4) ∧ (inA G13 10 (h14 a0 18) (h14 (h14 a0 20) a4)) ∧ (dvR a3 9) ∧ R l MX9_digit d 0 0 [vR a0, vI (h14 (h14 a0 18) (h14 (h14 a0 20) a4)), vI (a3 % 9)] G13 h14 (fun r19 G20 h21 => (ty G20 a0 = 9) ∧ (dvR (r12 * r19) (h21 a0 0)) ∧ (inA G20 10 (h a0 24) ((5 * a3) + a4)) ∧ ∀ h25 : HP, h25 = hset h21 (h a0 24) ((5 * a3) + a4) ((r12 * r19) % (h21 a0 0)) → S l MX9_sumTo (d + 1, 0, 0, 0, 0) 11 [some (vR a0), some (vI a1), some (vI a2), some (vI a3), some (vI (a4 + 1)), none, none, none, none] [] G20 h25 Q))))) : S l MX9_sumTo (d + 1, 0, 0, 0, 0) 11 [some (vR a0), some (vI a1), some (vI a2), some (vI a3), some (vI a4), none, none, none, none] [] G h Q := by
  refine s_iload dX9_sumTo_11 rfl ?_
  refine s_iload_n dX9_sumTo_13 rfl rfl ?_
  have f1 := H.1
  replace H := H.2
  have f2 := H.1
  replace H := H.2
  refine s_icmp_ge (tgt := 80) dX9_sumTo_14 (by decide) f1 f2 (fun c3 => ?_) (fun c3 => ?_)
  · replace H := H.1 c3
    refine s_aload_n dX9_sumTo_80 rfl rfl ?_
    have f4 := H.1
    replace H := H.2
    refine s_getf (c := 9) (k := 24) (t := 2) (j := 24) dX9_sumTo_81 fl_X9_72 (by decide) (by decide) rfl rfl f4 ?_
    refine s_iconst dX9_sumTo_84 ?_
    refine s_iload_n dX9_sumTo_85 rfl rfl ?_
    refine s_imul dX9_sumTo_86 ?_
    refine s_iconst dX9_sumTo_87 ?_
    refine s_iadd dX9_sumTo_88 ?_
    refine s_aload_n dX9_sumTo_89 rfl rfl ?_
    refine s_getf (c := 9) (k := 2) (t := 2) (j := 2) dX9_sumTo_90 fl_X9_17 (by decide) (by decide) rfl rfl f4 ?_
    refine s_bipush dX9_sumTo_93 (by decide) ?_
    refine s_iload_n dX9_sumTo_95 rfl rfl ?_
    refine s_imul dX9_sumTo_96 ?_
    refine s_iload_n dX9_sumTo_97 rfl rfl ?_
    refine s_iadd dX9_sumTo_98 ?_
    have f5 := H.1
    replace H := H.2
    refine s_iald dX9_sumTo_99 f5 ?_
    have f6 := H.1
    replace H := H.2
    refine s_iastH dX9_sumTo_100 f6 (fun h7 eh7 => ?_)
    replace H := H h7 eh7
    refine s_iinc dX9_sumTo_101 rfl (by decide) rfl ?_
    show S l MX9_sumTo (d + 1, 0, 0, 0, 0) 104 [some (vR a0), some (vI a1), some (vI a2), some (vI (a3 + 1)), some (vI a4), none, none, none, none] [] G h7 Q
    refine s_goto (tgt := 2) dX9_sumTo_104 (by decide) ?_
    exact S_cut (by first | exact ⟨rfl, ⟨rfl, ⟨rfl, ⟨rfl, trivial⟩⟩⟩⟩ | simp [lsub]) H
  · replace H := H.2 c3
    refine s_aload_n dX9_sumTo_17 rfl rfl ?_
    have f8 := H.1
    replace H := H.2
    refine s_getf (c := 9) (k := 24) (t := 2) (j := 24) dX9_sumTo_18 fl_X9_72 (by decide) (by decide) rfl rfl f8 ?_
    refine s_iconst dX9_sumTo_21 ?_
    refine s_iload_n dX9_sumTo_22 rfl rfl ?_
    refine s_imul dX9_sumTo_23 ?_
    refine s_iload dX9_sumTo_24 rfl ?_
    refine s_iadd dX9_sumTo_26 ?_
    refine s_aload_n dX9_sumTo_27 rfl rfl ?_
    refine s_aload_n dX9_sumTo_28 rfl rfl ?_
    refine s_getf (c := 9) (k := 17) (t := 2) (j := 17) dX9_sumTo_29 fl_X9_54 (by decide) (by decide) rfl rfl f8 ?_
    refine s_aload_n dX9_sumTo_32 rfl rfl ?_
    refine s_getf (c := 9) (k := 20) (t := 2) (j := 20) dX9_sumTo_33 fl_X9_60 (by decide) (by decide) rfl rfl f8 ?_
    refine s_iload dX9_sumTo_36 rfl ?_
    have f9 := H.1
    replace H := H.2
    refine s_iald dX9_sumTo_38 f9 ?_
    have f10 := H.1
    replace H := H.2
    refine s_iald dX9_sumTo_39 f10 ?_
    refine s_iload_n dX9_sumTo_40 rfl rfl ?_
    refine s_bipush dX9_sumTo_41 (by decide) ?_
    have f11 := H.1
    replace H := H.2
    refine s_idiv dX9_sumTo_43 f11 ?_
    refine s_callV (M' := MX9_digit) (As := [vI (h (h a0 17) (h (h a0 20) a4)), vI (a3 / 9)]) (a := a0) (st := [vI ((5 * a3) + a4), vR (h a0 24)]) dX9_sumTo_44 ml_X9_204 cv_X9_digit rfl rfl (Nat.le_of_ble_eq_true rfl) ⟨Nat.le_refl _, Nat.le_refl _⟩ f8 (R_mono (fun r12 G13 h14 H => ?_) H)
    show S l MX9_sumTo (d + 1, 0, 0, 0, 0) 47 [some (vR a0), some (vI a1), some (vI a2), some (vI a3), some (vI a4), none, none, none, none] [vI r12, vI ((5 * a3) + a4), vR (h a0 24)] G13 h14 Q
    refine s_aload_n dX9_sumTo_47 rfl rfl ?_
    refine s_aload_n dX9_sumTo_48 rfl rfl ?_
    have f15 := H.1
    replace H := H.2
    refine s_getf (c := 9) (k := 18) (t := 2) (j := 18) dX9_sumTo_49 fl_X9_57 (by decide) (by decide) rfl rfl f15 ?_
    refine s_aload_n dX9_sumTo_52 rfl rfl ?_
    refine s_getf (c := 9) (k := 20) (t := 2) (j := 20) dX9_sumTo_53 fl_X9_60 (by decide) (by decide) rfl rfl f15 ?_
    refine s_iload dX9_sumTo_56 rfl ?_
    have f16 := H.1
    replace H := H.2
    refine s_iald dX9_sumTo_58 f16 ?_
    have f17 := H.1
    replace H := H.2
    refine s_iald dX9_sumTo_59 f17 ?_
    refine s_iload_n dX9_sumTo_60 rfl rfl ?_
    refine s_bipush dX9_sumTo_61 (by decide) ?_
    have f18 := H.1
    replace H := H.2
    refine s_irem dX9_sumTo_63 f18 ?_
    refine s_callV (M' := MX9_digit) (As := [vI (h14 (h14 a0 18) (h14 (h14 a0 20) a4)), vI (a3 % 9)]) (a := a0) (st := [vI r12, vI ((5 * a3) + a4), vR (h a0 24)]) dX9_sumTo_64 ml_X9_204 cv_X9_digit rfl rfl (Nat.le_of_ble_eq_true rfl) ⟨Nat.le_refl _, Nat.le_refl _⟩ f15 (R_mono (fun r19 G20 h21 H => ?_) H)
    show S l MX9_sumTo (d + 1, 0, 0, 0, 0) 67 [some (vR a0), some (vI a1), some (vI a2), some (vI a3), some (vI a4), none, none, none, none] [vI r19, vI r12, vI ((5 * a3) + a4), vR (h a0 24)] G20 h21 Q
    refine s_imul dX9_sumTo_67 ?_
    refine s_aload_n dX9_sumTo_68 rfl rfl ?_
    have f22 := H.1
    replace H := H.2
    refine s_getf (c := 9) (k := 0) (t := 0) (j := 0) dX9_sumTo_69 fl_X9_7 (by decide) (by decide) rfl rfl f22 ?_
    have f23 := H.1
    replace H := H.2
    refine s_irem dX9_sumTo_72 f23 ?_
    have f24 := H.1
    replace H := H.2
    refine s_iastH dX9_sumTo_73 f24 (fun h25 eh25 => ?_)
    replace H := H h25 eh25
    refine s_iinc dX9_sumTo_74 rfl (by decide) rfl ?_
    show S l MX9_sumTo (d + 1, 0, 0, 0, 0) 77 [some (vR a0), some (vI a1), some (vI a2), some (vI a3), some (vI (a4 + 1)), none, none, none, none] [] G20 h25 Q
    refine s_goto (tgt := 11) dX9_sumTo_77 (by decide) ?_
    exact S_cut (by first | exact ⟨rfl, ⟨rfl, ⟨rfl, ⟨rfl, ⟨rfl, trivial⟩⟩⟩⟩⟩ | simp [lsub]) H
set_option maxHeartbeats 4000000 in
set_option maxRecDepth 100000 in
theorem vX9_sumTo_348 {l : Launch} {d : Nat} {G : GS} {h : HP} {Q : Int → GS → HP → Prop} (a0 a1 a3 : Int) (H : (inR a3) ∧ (inR a1) ∧ ((a1 ≤ a3 → Q 0 G h) ∧ (a3 < a1 → (ty G a0 = 9) ∧ (inA G 10 (h a0 24) ((5 * a3) + 4)) ∧ (inA G 10 (h a0 25) a3) ∧ ∀ h7 : HP, h7 = hset h (h a0 25) a3 (h (h a0 24) ((5 * a3) + 4)) → S l MX9_sumTo (d + 1, 0, 0, 0, 0) 348 [some (vR a0), some (vI a1), none, some (vI (a3 + 1)), none, none, none, none, none] [] G h7 Q))) : S l MX9_sumTo (d + 1, 0, 0, 0, 0) 348 [some (vR a0), some (vI a1), none, some (vI a3), none, none, none, none, none] [] G h Q := by
  refine s_iload_n dX9_sumTo_348 rfl rfl ?_
  refine s_iload_n dX9_sumTo_349 rfl rfl ?_
  have f1 := H.1
  replace H := H.2
  have f2 := H.1
  replace H := H.2
  refine s_icmp_ge (tgt := 375) dX9_sumTo_350 (by decide) f1 f2 (fun c3 => ?_) (fun c3 => ?_)
  · replace H := H.1 c3
    exact s_vret dX9_sumTo_375 rfl ⟨Nat.le_refl _, Nat.le_refl _⟩ H
  · replace H := H.2 c3
    refine s_aload_n dX9_sumTo_353 rfl rfl ?_
    have f4 := H.1
    replace H := H.2
    refine s_getf (c := 9) (k := 25) (t := 2) (j := 25) dX9_sumTo_354 fl_X9_75 (by decide) (by decide) rfl rfl f4 ?_
    refine s_iload_n dX9_sumTo_357 rfl rfl ?_
    refine s_aload_n dX9_sumTo_358 rfl rfl ?_
    refine s_getf (c := 9) (k := 24) (t := 2) (j := 24) dX9_sumTo_359 fl_X9_72 (by decide) (by decide) rfl rfl f4 ?_
    refine s_iconst dX9_sumTo_362 ?_
    refine s_iload_n dX9_sumTo_363 rfl rfl ?_
    refine s_imul dX9_sumTo_364 ?_
    refine s_iconst dX9_sumTo_365 ?_
    refine s_iadd dX9_sumTo_366 ?_
    have f5 := H.1
    replace H := H.2
    refine s_iald dX9_sumTo_367 f5 ?_
    have f6 := H.1
    replace H := H.2
    refine s_iastH dX9_sumTo_368 f6 (fun h7 eh7 => ?_)
    replace H := H h7 eh7
    refine s_iinc dX9_sumTo_369 rfl (by decide) rfl ?_
    show S l MX9_sumTo (d + 1, 0, 0, 0, 0) 372 [some (vR a0), some (vI a1), none, some (vI (a3 + 1)), none, none, none, none, none] [] G h7 Q
    refine s_goto (tgt := 348) dX9_sumTo_372 (by decide) ?_
    exact S_cut (by first | exact ⟨rfl, ⟨rfl, ⟨rfl, trivial⟩⟩⟩ | simp [lsub]) H
set_option maxHeartbeats 4000000 in
set_option maxRecDepth 100000 in
theorem vX9_sumTo_117 {l : Launch} {d : Nat} {G : GS} {h : HP} {Q : Int → GS → HP → Prop} (a0 a1 a3 a4 : Int) (H : (ty G a0 = 9) ∧ (inA G 10 (h a0 24) ((5 * a4) + a3)) ∧ (inR (h (h a0 24) ((5 * a4) + a3))) ∧ (((h (h a0 24) ((5 * a4) + a3)) ≠ 0 → R l MX9_inverse d 0 0 [vR a0, vI (h (h a0 24) ((5 * a4) + a3))] G h (fun r5 G6 h7 => S l MX9_sumTo (d + 1, 0, 0, 0, 0) 157 [some (vR a0), some (vI a1), none, some (vI a3), some (vI a4), some (vI r5), some (vI 0), none, none] [] G6 h7 Q)) ∧ ((h (h a0 24) ((5 * a4) + a3)) = 0 → S l MX9_sumTo (d + 1, 0, 0, 0, 0) 117 [some (vR a0), some (vI a1), none, some (vI a3), some (vI (a4 + 1)), none, none, none, none] [] G h Q))) : S l MX9_sumTo (d + 1, 0, 0, 0, 0) 117 [some (vR a0), some (vI a1), none, some (vI a3), some (vI a4), none, none, none, none] [] G h Q := by
  refine s_aload_n dX9_sumTo_117 rfl rfl ?_
  have f1 := H.1
  replace H := H.2
  refine s_getf (c := 9) (k := 24) (t := 2) (j := 24) dX9_sumTo_118 fl_X9_72 (by decide) (by decide) rfl rfl f1 ?_
  refine s_iconst dX9_sumTo_121 ?_
  refine s_iload dX9_sumTo_122 rfl ?_
  refine s_imul dX9_sumTo_124 ?_
  refine s_iload_n dX9_sumTo_125 rfl rfl ?_
  refine s_iadd dX9_sumTo_126 ?_
  have f2 := H.1
  replace H := H.2
  refine s_iald dX9_sumTo_127 f2 ?_
  have f3 := H.1
  replace H := H.2
  refine s_if_ne (tgt := 137) dX9_sumTo_128 (by decide) f3 (fun c4 => ?_) (fun c4 => ?_)
  · replace H := H.1 c4
    refine s_aload_n dX9_sumTo_137 rfl rfl ?_
    refine s_aload_n dX9_sumTo_138 rfl rfl ?_
    refine s_getf (c := 9) (k := 24) (t := 2) (j := 24) dX9_sumTo_139 fl_X9_72 (by decide) (by decide) rfl rfl f1 ?_
    refine s_iconst dX9_sumTo_142 ?_
    refine s_iload dX9_sumTo_143 rfl ?_
    refine s_imul dX9_sumTo_145 ?_
    refine s_iload_n dX9_sumTo_146 rfl rfl ?_
    refine s_iadd dX9_sumTo_147 ?_
    refine s_iald dX9_sumTo_148 f2 ?_
    refine s_callV (M' := MX9_inverse) (As := [vI (h (h a0 24) ((5 * a4) + a3))]) (a := a0) (st := []) dX9_sumTo_149 ml_X9_147 cv_X9_inverse rfl rfl (Nat.le_of_ble_eq_true rfl) ⟨Nat.le_refl _, Nat.le_refl _⟩ f1 (R_mono (fun r5 G6 h7 H => ?_) H)
    show S l MX9_sumTo (d + 1, 0, 0, 0, 0) 152 [some (vR a0), some (vI a1), none, some (vI a3), some (vI a4), none, none, none, none] [vI r5] G6 h7 Q
    refine s_istore dX9_sumTo_152 (by decide) rfl ?_
    show S l MX9_sumTo (d + 1, 0, 0, 0, 0) 154 [some (vR a0), some (vI a1), none, some (vI a3), some (vI a4), some (vI r5), none, none, none] [] G6 h7 Q
    refine s_iconst dX9_sumTo_154 ?_
    refine s_istore dX9_sumTo_155 (by decide) rfl ?_
    show S l MX9_sumTo (d + 1, 0, 0, 0, 0) 157 [some (vR a0), some (vI a1), none, some (vI a3), some (vI a4), some (vI r5), some (vI 0), none, none] [] G6 h7 Q
    exact S_cut (by first | exact ⟨rfl, ⟨rfl, ⟨rfl, ⟨rfl, ⟨rfl, ⟨rfl, trivial⟩⟩⟩⟩⟩⟩ | simp [lsub]) H
  · replace H := H.2 c4
    refine s_iinc dX9_sumTo_131 rfl (by decide) rfl ?_
    show S l MX9_sumTo (d + 1, 0, 0, 0, 0) 134 [some (vR a0), some (vI a1), none, some (vI a3), some (vI (a4 + 1)), none, none, none, none] [] G h Q
    refine s_goto (tgt := 117) dX9_sumTo_134 (by decide) ?_
    exact S_cut (by first | exact ⟨rfl, ⟨rfl, ⟨rfl, ⟨rfl, trivial⟩⟩⟩⟩ | simp [lsub]) H
set_option maxHeartbeats 4000000 in
set_option maxRecDepth 100000 in
theorem vX9_sumTo_157 {l : Launch} {d : Nat} {G : GS} {h : HP} {Q : Int → GS → HP → Prop} (a0 a1 a3 a4 a5 a6 : Int) (H : (inR a6) ∧ ((5 ≤ a6 → S l MX9_sumTo (d + 1, 0, 0, 0, 0) 230 [some (vR a0), some (vI a1), none, some (vI a3), none, none, some (vI 0), none, none] [] G h Q) ∧ (a6 < 5 → (ty G a0 = 9) ∧ (inA G 10 (h a0 24) ((5 * a4) + a6)) ∧ (dvR ((h (h a0 24) ((5 * a4) + a6)) * a5) (h a0 0)) ∧ (inA G 10 (h a0 24) ((5 * a3) + a6)) ∧ ∀ h7 : HP, h7 = hset h (h a0 24) ((5 * a4) + a6) (h (h a0 24) ((5 * a3) + a6)) → (inA G 10 (h7 a0 24) ((5 * a3) + a6)) ∧ ∀ h9 : HP, h9 = hset h7 (h7 a0 24) ((5 * a3) + a6) (((h (h a0 24) ((5 * a4) + a6)) * a5) % (h a0 0)) → S l MX9_sumTo (d + 1, 0, 0, 0, 0) 157 [some (vR a0), some (vI a1), none, some (vI a3), some (vI a4), some (vI a5), some (vI (a6 + 1)), none, none] [] G h9 Q))) : S l MX9_sumTo (d + 1, 0, 0, 0, 0) 157 [some (vR a0), some (vI a1), none, some (vI a3), some (vI a4), some (vI a5), some (vI a6), none, none] [] G h Q := by
  refine s_iload dX9_sumTo_157 rfl ?_
  refine s_iconst dX9_sumTo_159 ?_
  have f1 := H.1
  replace H := H.2
  refine s_icmp_ge (tgt := 227) dX9_sumTo_160 (by decide) f1 (by decide) (fun c2 => ?_) (fun c2 => ?_)
  · replace H := H.1 c2
    refine s_iconst dX9_sumTo_227 ?_
    refine s_istore dX9_sumTo_228 (by decide) rfl ?_
    show S l MX9_sumTo (d + 1, 0, 0, 0, 0) 230 [some (vR a0), some (vI a1), none, some (vI a3), some (vI a4), some (vI a5), some (vI 0), none, none] [] G h Q
    exact S_cut (by first | exact ⟨rfl, ⟨rfl, ⟨rfl, ⟨rfl, trivial⟩⟩⟩⟩ | simp [lsub]) H
  · replace H := H.2 c2
    refine s_aload_n dX9_sumTo_163 rfl rfl ?_
    have f3 := H.1
    replace H := H.2
    refine s_getf (c := 9) (k := 24) (t := 2) (j := 24) dX9_sumTo_164 fl_X9_72 (by decide) (by decide) rfl rfl f3 ?_
    refine s_iconst dX9_sumTo_167 ?_
    refine s_iload dX9_sumTo_168 rfl ?_
    refine s_imul dX9_sumTo_170 ?_
    refine s_iload dX9_sumTo_171 rfl ?_
    refine s_iadd dX9_sumTo_173 ?_
    have f4 := H.1
    replace H := H.2
    refine s_iald dX9_sumTo_174 f4 ?_
    refine s_iload dX9_sumTo_175 rfl ?_
    refine s_imul dX9_sumTo_177 ?_
    refine s_aload_n dX9_sumTo_178 rfl rfl ?_
    refine s_getf (c := 9) (k := 0) (t := 0) (j := 0) dX9_sumTo_179 fl_X9_7 (by decide) (by decide) rfl rfl f3 ?_
    have f5 := H.1
    replace H := H.2
    refine s_irem dX9_sumTo_182 f5 ?_
    refine s_istore dX9_sumTo_183 (by decide) rfl ?_
    show S l MX9_sumTo (d + 1, 0, 0, 0, 0) 185 [some (vR a0), some (vI a1), none, some (vI a3), some (vI a4), some (vI a5), some (vI a6), some (vI (((h (h a0 24) ((5 * a4) + a6)) * a5) % (h a0 0))), none] [] G h Q
    refine s_aload_n dX9_sumTo_185 rfl rfl ?_
    refine s_getf (c := 9) (k := 24) (t := 2) (j := 24) dX9_sumTo_186 fl_X9_72 (by decide) (by decide) rfl rfl f3 ?_
    refine s_iconst dX9_sumTo_189 ?_
    refine s_iload dX9_sumTo_190 rfl ?_
    refine s_imul dX9_sumTo_192 ?_
    refine s_iload dX9_sumTo_193 rfl ?_
    refine s_iadd dX9_sumTo_195 ?_
    refine s_aload_n dX9_sumTo_196 rfl rfl ?_
    refine s_getf (c := 9) (k := 24) (t := 2) (j := 24) dX9_sumTo_197 fl_X9_72 (by decide) (by decide) rfl rfl f3 ?_
    refine s_iconst dX9_sumTo_200 ?_
    refine s_iload_n dX9_sumTo_201 rfl rfl ?_
    refine s_imul dX9_sumTo_202 ?_
    refine s_iload dX9_sumTo_203 rfl ?_
    refine s_iadd dX9_sumTo_205 ?_
    have f6 := H.1
    replace H := H.2
    refine s_iald dX9_sumTo_206 f6 ?_
    refine s_iastH dX9_sumTo_207 f4 (fun h7 eh7 => ?_)
    replace H := H h7 eh7
    refine s_aload_n dX9_sumTo_208 rfl rfl ?_
    refine s_getf (c := 9) (k := 24) (t := 2) (j := 24) dX9_sumTo_209 fl_X9_72 (by decide) (by decide) rfl rfl f3 ?_
    refine s_iconst dX9_sumTo_212 ?_
    refine s_iload_n dX9_sumTo_213 rfl rfl ?_
    refine s_imul dX9_sumTo_214 ?_
    refine s_iload dX9_sumTo_215 rfl ?_
    refine s_iadd dX9_sumTo_217 ?_
    refine s_iload dX9_sumTo_218 rfl ?_
    have f8 := H.1
    replace H := H.2
    refine s_iastH dX9_sumTo_220 f8 (fun h9 eh9 => ?_)
    replace H := H h9 eh9
    refine s_iinc dX9_sumTo_221 rfl (by decide) rfl ?_
    show S l MX9_sumTo (d + 1, 0, 0, 0, 0) 224 [some (vR a0), some (vI a1), none, some (vI a3), some (vI a4), some (vI a5), some (vI (a6 + 1)), some (vI (((h (h a0 24) ((5 * a4) + a6)) * a5) % (h a0 0))), none] [] G h9 Q
    refine s_goto (tgt := 157) dX9_sumTo_224 (by decide) ?_
    exact S_cut (by first | exact ⟨rfl, ⟨rfl, ⟨rfl, ⟨rfl, ⟨rfl, ⟨rfl, trivial⟩⟩⟩⟩⟩⟩ | simp [lsub]) H
set_option maxHeartbeats 4000000 in
set_option maxRecDepth 100000 in
theorem vX9_sumTo_230 {l : Launch} {d : Nat} {G : GS} {h : HP} {Q : Int → GS → HP → Prop} (a0 a1 a3 a6 : Int) (H : (inR a6) ∧ ((81 ≤ a6 → S l MX9_sumTo (d + 1, 0, 0, 0, 0) 109 [some (vR a0), some (vI a1), none, some (vI (a3 + 1)), none, none, none, none, none] [] G h Q) ∧ (a6 < 81 → (inR a3) ∧ ((a6 ≠ a3 → (ty G a0 = 9) ∧ (inA G 10 (h a0 24) ((5 * a6) + a3)) ∧ (dvR ((h a0 0) - (h (h a0 24) ((5 * a6) + a3))) (h a0 0)) ∧ S l MX9_sumTo (d + 1, 0, 0, 0, 0) 273 [some (vR a0), some (vI a1), none, some (vI a3), none, none, some (vI a6), some (vI (((h a0 0) - (h (h a0 24) ((5 * a6) + a3))) % (h a0 0))), some (vI 0)] [] G h Q) ∧ (a6 = a3 → S l MX9_sumTo (d + 1, 0, 0, 0, 0) 273 [some (vR a0), some (vI a1), none, some (vI a3), none, none, some (vI a6), some (vI 0), some (vI 0)] [] G h Q))))) : S l MX9_sumTo (d + 1, 0, 0, 0, 0) 230 [some (vR a0), some (vI a1), none, some (vI a3), none, none, some (vI a6), none, none] [] G h Q := by
  refine s_iload dX9_sumTo_230 rfl ?_
  refine s_bipush dX9_sumTo_232 (by decide) ?_
  have f1 := H.1
  replace H := H.2
  refine s_icmp_ge (tgt := 340) dX9_sumTo_234 (by decide) f1 (by decide) (fun c2 => ?_) (fun c2 => ?_)
  · replace H := H.1 c2
    refine s_iinc dX9_sumTo_340 rfl (by decide) rfl ?_
    show S l MX9_sumTo (d + 1, 0, 0, 0, 0) 343 [some (vR a0), some (vI a1), none, some (vI (a3 + 1)), none, none, some (vI a6), none, none] [] G h Q
    refine s_goto (tgt := 109) dX9_sumTo_343 (by decide) ?_
    exact S_cut (by first | exact ⟨rfl, ⟨rfl, ⟨rfl, trivial⟩⟩⟩ | simp [lsub]) H
  · replace H := H.2 c2
    refine s_iload dX9_sumTo_237 rfl ?_
    refine s_iload_n dX9_sumTo_239 rfl rfl ?_
    have f3 := H.1
    replace H := H.2
    refine s_icmp_ne (tgt := 247) dX9_sumTo_240 (by decide) f1 f3 (fun c4 => ?_) (fun c4 => ?_)
    · replace H := H.1 c4
      refine s_aload_n dX9_sumTo_247 rfl rfl ?_
      have f5 := H.1
      replace H := H.2
      refine s_getf (c := 9) (k := 0) (t := 0) (j := 0) dX9_sumTo_248 fl_X9_7 (by decide) (by decide) rfl rfl f5 ?_
      refine s_aload_n dX9_sumTo_251 rfl rfl ?_
      refine s_getf (c := 9) (k := 24) (t := 2) (j := 24) dX9_sumTo_252 fl_X9_72 (by decide) (by decide) rfl rfl f5 ?_
      refine s_iconst dX9_sumTo_255 ?_
      refine s_iload dX9_sumTo_256 rfl ?_
      refine s_imul dX9_sumTo_258 ?_
      refine s_iload_n dX9_sumTo_259 rfl rfl ?_
      refine s_iadd dX9_sumTo_260 ?_
      have f6 := H.1
      replace H := H.2
      refine s_iald dX9_sumTo_261 f6 ?_
      refine s_isub dX9_sumTo_262 ?_
      refine s_aload_n dX9_sumTo_263 rfl rfl ?_
      refine s_getf (c := 9) (k := 0) (t := 0) (j := 0) dX9_sumTo_264 fl_X9_7 (by decide) (by decide) rfl rfl f5 ?_
      have f7 := H.1
      replace H := H.2
      refine s_irem dX9_sumTo_267 f7 ?_
      refine s_istore dX9_sumTo_268 (by decide) rfl ?_
      show S l MX9_sumTo (d + 1, 0, 0, 0, 0) 270 [some (vR a0), some (vI a1), none, some (vI a3), none, none, some (vI a6), some (vI (((h a0 0) - (h (h a0 24) ((5 * a6) + a3))) % (h a0 0))), none] [] G h Q
      refine s_iconst dX9_sumTo_270 ?_
      refine s_istore dX9_sumTo_271 (by decide) rfl ?_
      show S l MX9_sumTo (d + 1, 0, 0, 0, 0) 273 [some (vR a0), some (vI a1), none, some (vI a3), none, none, some (vI a6), some (vI (((h a0 0) - (h (h a0 24) ((5 * a6) + a3))) % (h a0 0))), some (vI 0)] [] G h Q
      exact S_cut (by first | exact ⟨rfl, ⟨rfl, ⟨rfl, ⟨rfl, ⟨rfl, ⟨rfl, trivial⟩⟩⟩⟩⟩⟩ | simp [lsub]) H
    · replace H := H.2 c4
      refine s_iconst dX9_sumTo_243 ?_
      refine s_goto (tgt := 268) dX9_sumTo_244 (by decide) ?_
      refine s_istore dX9_sumTo_268 (by decide) rfl ?_
      show S l MX9_sumTo (d + 1, 0, 0, 0, 0) 270 [some (vR a0), some (vI a1), none, some (vI a3), none, none, some (vI a6), some (vI 0), none] [] G h Q
      refine s_iconst dX9_sumTo_270 ?_
      refine s_istore dX9_sumTo_271 (by decide) rfl ?_
      show S l MX9_sumTo (d + 1, 0, 0, 0, 0) 273 [some (vR a0), some (vI a1), none, some (vI a3), none, none, some (vI a6), some (vI 0), some (vI 0)] [] G h Q
      exact S_cut (by first | exact ⟨rfl, ⟨rfl, ⟨rfl, ⟨rfl, ⟨rfl, ⟨rfl, trivial⟩⟩⟩⟩⟩⟩ | simp [lsub]) H
set_option maxHeartbeats 4000000 in
set_option maxRecDepth 100000 in
theorem vX9_sumTo_273 {l : Launch} {d : Nat} {G : GS} {h : HP} {Q : Int → GS → HP → Prop} (a0 a1 a3 a6 a7 a8 : Int) (H : (inR a8) ∧ ((5 ≤ a8 → S l MX9_sumTo (d + 1, 0, 0, 0, 0) 230 [some (vR a0), some (vI a1), none, some (vI a3), none, none, some (vI (a6 + 1)), none, none] [] G h Q) ∧ (a8 < 5 → (inR a7) ∧ ((a7 ≤ 0 → S l MX9_sumTo (d + 1, 0, 0, 0, 0) 230 [some (vR a0), some (vI a1), none, some (vI a3), none, none, some (vI (a6 + 1)), none, none] [] G h Q) ∧ (0 < a7 → (ty G a0 = 9) ∧ (inA G 10 (h a0 24) ((5 * a6) + a8)) ∧ (inA G 10 (h a0 24) ((5 * a3) + a8)) ∧ (dvR ((h (h a0 24) ((5 * a6) + a8)) + (a7 * (h (h a0 24) ((5 * a3) + a8)))) (h a0 0)) ∧ ∀ h9 : HP, h9 = hset h (h a0 24) ((5 * a6) + a8) (((h (h a0 24) ((5 * a6) + a8)) + (a7 * (h (h a0 24) ((5 * a3) + a8)))) % (h a0 0)) → S l MX9_sumTo (d + 1, 0, 0, 0, 0) 273 [some (vR a0), some (vI a1), none, some (vI a3), none, none, some (vI a6), some (vI a7), some (vI (a8 + 1))] [] G h9 Q))))) : S l MX9_sumTo (d + 1, 0, 0, 0, 0) 273 [some (vR a0), some (vI a1), none, some (vI a3), none, none, some (vI a6), some (vI a7), some (vI a8)] [] G h Q := by
  refine s_iload dX9_sumTo_273 rfl ?_
  refine s_iconst dX9_sumTo_275 ?_
  have f1 := H.1
  replace H := H.2
  refine s_icmp_ge (tgt := 334) dX9_sumTo_276 (by decide) f1 (by decide) (fun c2 => ?_) (fun c2 => ?_)
  · replace H := H.1 c2
    refine s_iinc dX9_sumTo_334 rfl (by decide) rfl ?_
    show S l MX9_sumTo (d + 1, 0, 0, 0, 0) 337 [some (vR a0), some (vI a1), none, some (vI a3), none, none, some (vI (a6 + 1)), some (vI a7), some (vI a8)] [] G h Q
    refine s_goto (tgt := 230) dX9_sumTo_337 (by decide) ?_
    exact S_cut (by first | exact ⟨rfl, ⟨rfl, ⟨rfl, ⟨rfl, trivial⟩⟩⟩⟩ | simp [lsub]) H
  · replace H := H.2 c2
    refine s_iload dX9_sumTo_279 rfl ?_
    have f3 := H.1
    replace H := H.2
    refine s_if_le (tgt := 334) dX9_sumTo_281 (by decide) f3 (fun c4 => ?_) (fun c4 => ?_)
    · replace H := H.1 c4
      refine s_iinc dX9_sumTo_334 rfl (by decide) rfl ?_
      show S l MX9_sumTo (d + 1, 0, 0, 0, 0) 337 [some (vR a0), some (vI a1), none, some (vI a3), none, none, some (vI (a6 + 1)), some (vI a7), some (vI a8)] [] G h Q
      refine s_goto (tgt := 230) dX9_sumTo_337 (by decide) ?_
      exact S_cut (by first | exact ⟨rfl, ⟨rfl, ⟨rfl, ⟨rfl, trivial⟩⟩⟩⟩ | simp [lsub]) H
    · replace H := H.2 c4
      refine s_aload_n dX9_sumTo_284 rfl rfl ?_
      have f5 := H.1
      replace H := H.2
      refine s_getf (c := 9) (k := 24) (t := 2) (j := 24) dX9_sumTo_285 fl_X9_72 (by decide) (by decide) rfl rfl f5 ?_
      refine s_iconst dX9_sumTo_288 ?_
      refine s_iload dX9_sumTo_289 rfl ?_
      refine s_imul dX9_sumTo_291 ?_
      refine s_iload dX9_sumTo_292 rfl ?_
      refine s_iadd dX9_sumTo_294 ?_
      refine s_aload_n dX9_sumTo_295 rfl rfl ?_
      refine s_getf (c := 9) (k := 24) (t := 2) (j := 24) dX9_sumTo_296 fl_X9_72 (by decide) (by decide) rfl rfl f5 ?_
      refine s_iconst dX9_sumTo_299 ?_
      refine s_iload dX9_sumTo_300 rfl ?_
      refine s_imul dX9_sumTo_302 ?_
      refine s_iload dX9_sumTo_303 rfl ?_
      refine s_iadd dX9_sumTo_305 ?_
      have f6 := H.1
      replace H := H.2
      refine s_iald dX9_sumTo_306 f6 ?_
      refine s_iload dX9_sumTo_307 rfl ?_
      refine s_aload_n dX9_sumTo_309 rfl rfl ?_
      refine s_getf (c := 9) (k := 24) (t := 2) (j := 24) dX9_sumTo_310 fl_X9_72 (by decide) (by decide) rfl rfl f5 ?_
      refine s_iconst dX9_sumTo_313 ?_
      refine s_iload_n dX9_sumTo_314 rfl rfl ?_
      refine s_imul dX9_sumTo_315 ?_
      refine s_iload dX9_sumTo_316 rfl ?_
      refine s_iadd dX9_sumTo_318 ?_
      have f7 := H.1
      replace H := H.2
      refine s_iald dX9_sumTo_319 f7 ?_
      refine s_imul dX9_sumTo_320 ?_
      refine s_iadd dX9_sumTo_321 ?_
      refine s_aload_n dX9_sumTo_322 rfl rfl ?_
      refine s_getf (c := 9) (k := 0) (t := 0) (j := 0) dX9_sumTo_323 fl_X9_7 (by decide) (by decide) rfl rfl f5 ?_
      have f8 := H.1
      replace H := H.2
      refine s_irem dX9_sumTo_326 f8 ?_
      refine s_iastH dX9_sumTo_327 f6 (fun h9 eh9 => ?_)
      replace H := H h9 eh9
      refine s_iinc dX9_sumTo_328 rfl (by decide) rfl ?_
      show S l MX9_sumTo (d + 1, 0, 0, 0, 0) 331 [some (vR a0), some (vI a1), none, some (vI a3), none, none, some (vI a6), some (vI a7), some (vI (a8 + 1))] [] G h9 Q
      refine s_goto (tgt := 273) dX9_sumTo_331 (by decide) ?_
      exact S_cut (by first | exact ⟨rfl, ⟨rfl, ⟨rfl, ⟨rfl, ⟨rfl, ⟨rfl, trivial⟩⟩⟩⟩⟩⟩ | simp [lsub]) H
set_option maxHeartbeats 4000000 in
set_option maxRecDepth 100000 in
theorem vX9_hand_0 {l : Launch} {d : Nat} {G : GS} {h : HP} {Q : Int → GS → HP → Prop} (a0 a1 a2 a3 : Int) (H : (inR a1) ∧ R l MX9_in d 0 0 [vL a1, vL 0, vL 1] G h (fun r2 G3 h4 => (inR r2) ∧ ((r2 = 0 → Q ((-1)) G3 h4) ∧ (r2 ≠ 0 → (inR a2) ∧ (ty G3 a0 = 9) ∧ (inA G3 10 (h4 a0 1) a1) ∧ (inR ((h4 (h4 a0 1) a1) - 1)) ∧ R l MX9_in d 0 0 [vL a2, vL 0, vL ((h4 (h4 a0 1) a1) - 1)] G3 h4 (fun r11 G12 h13 => (inR r11) ∧ ((r11 = 0 → Q ((-1)) G12 h13) ∧ (r11 ≠ 0 → (inR a3) ∧ (ty G12 a0 = 9) ∧ (inR ((h13 a0 0) - 1)) ∧ R l MX9_in d 0 0 [vL a3, vL 0, vL ((h13 a0 0) - 1)] G12 h13 (fun r19 G20 h21 => (inR r19) ∧ ((r19 ≠ 0 → (ty G20 a0 = 9) ∧ (inA G20 10 (h21 a0 5) ((9 * a1) + a2)) ∧ ∀ h26 : HP, h26 = hset h21 (h21 a0 5) ((9 * a1) + a2) a3 → Q 1 G20 h26) ∧ (r19 = 0 → Q ((-1)) G20 h21)))))))))) : S l MX9_hand (d + 1, 0, 0, 0, 0) 0 [some (vR a0), some (vI a1), some (vI a2), some (vI a3)] [] G h Q := by
  refine s_iload_n dX9_hand_0 rfl rfl ?_
  have f1 := H.1
  replace H := H.2
  refine s_i2l dX9_hand_1 f1 ?_
  refine s_lconst (v := 0) dX9_hand_2 rfl ?_
  refine s_lconst (v := 1) dX9_hand_3 rfl ?_
  refine s_callS (M' := MX9_in) (As := [vL a1, vL 0, vL 1]) (st := []) dX9_hand_4 ml_X9_97 cs_X9_in rfl rfl (Nat.le_of_ble_eq_true rfl) ⟨Nat.le_refl _, Nat.le_refl _⟩ (R_mono (fun r2 G3 h4 H => ?_) H)
  show S l MX9_hand (d + 1, 0, 0, 0, 0) 7 [some (vR a0), some (vI a1), some (vI a2), some (vI a3)] [vI r2] G3 h4 Q
  have f5 := H.1
  replace H := H.2
  refine s_if_eq (tgt := 44) dX9_hand_7 (by decide) f5 (fun c6 => ?_) (fun c6 => ?_)
  · replace H := H.1 c6
    refine s_iconst dX9_hand_44 ?_
    exact s_iret dX9_hand_45 rfl ⟨Nat.le_refl _, Nat.le_refl _⟩ H
  · replace H := H.2 c6
    refine s_iload_n dX9_hand_10 rfl rfl ?_
    have f7 := H.1
    replace H := H.2
    refine s_i2l dX9_hand_11 f7 ?_
    refine s_lconst (v := 0) dX9_hand_12 rfl ?_
    refine s_aload_n dX9_hand_13 rfl rfl ?_
    have f8 := H.1
    replace H := H.2
    refine s_getf (c := 9) (k := 1) (t := 2) (j := 1) dX9_hand_14 fl_X9_13 (by decide) (by decide) rfl rfl f8 ?_
    refine s_iload_n dX9_hand_17 rfl rfl ?_
    have f9 := H.1
    replace H := H.2
    refine s_iald dX9_hand_18 f9 ?_
    refine s_iconst dX9_hand_19 ?_
    refine s_isub dX9_hand_20 ?_
    have f10 := H.1
    replace H := H.2
    refine s_i2l dX9_hand_21 f10 ?_
    refine s_callS (M' := MX9_in) (As := [vL a2, vL 0, vL ((h4 (h4 a0 1) a1) - 1)]) (st := []) dX9_hand_22 ml_X9_97 cs_X9_in rfl rfl (Nat.le_of_ble_eq_true rfl) ⟨Nat.le_refl _, Nat.le_refl _⟩ (R_mono (fun r11 G12 h13 H => ?_) H)
    show S l MX9_hand (d + 1, 0, 0, 0, 0) 25 [some (vR a0), some (vI a1), some (vI a2), some (vI a3)] [vI r11] G12 h13 Q
    have f14 := H.1
    replace H := H.2
    refine s_if_eq (tgt := 44) dX9_hand_25 (by decide) f14 (fun c15 => ?_) (fun c15 => ?_)
    · replace H := H.1 c15
      refine s_iconst dX9_hand_44 ?_
      exact s_iret dX9_hand_45 rfl ⟨Nat.le_refl _, Nat.le_refl _⟩ H
    · replace H := H.2 c15
      refine s_iload_n dX9_hand_28 rfl rfl ?_
      have f16 := H.1
      replace H := H.2
      refine s_i2l dX9_hand_29 f16 ?_
      refine s_lconst (v := 0) dX9_hand_30 rfl ?_
      refine s_aload_n dX9_hand_31 rfl rfl ?_
      have f17 := H.1
      replace H := H.2
      refine s_getf (c := 9) (k := 0) (t := 0) (j := 0) dX9_hand_32 fl_X9_7 (by decide) (by decide) rfl rfl f17 ?_
      refine s_iconst dX9_hand_35 ?_
      refine s_isub dX9_hand_36 ?_
      have f18 := H.1
      replace H := H.2
      refine s_i2l dX9_hand_37 f18 ?_
      refine s_callS (M' := MX9_in) (As := [vL a3, vL 0, vL ((h13 a0 0) - 1)]) (st := []) dX9_hand_38 ml_X9_97 cs_X9_in rfl rfl (Nat.le_of_ble_eq_true rfl) ⟨Nat.le_refl _, Nat.le_refl _⟩ (R_mono (fun r19 G20 h21 H => ?_) H)
      show S l MX9_hand (d + 1, 0, 0, 0, 0) 41 [some (vR a0), some (vI a1), some (vI a2), some (vI a3)] [vI r19] G20 h21 Q
      have f22 := H.1
      replace H := H.2
      refine s_if_ne (tgt := 46) dX9_hand_41 (by decide) f22 (fun c23 => ?_) (fun c23 => ?_)
      · replace H := H.1 c23
        refine s_aload_n dX9_hand_46 rfl rfl ?_
        have f24 := H.1
        replace H := H.2
        refine s_getf (c := 9) (k := 5) (t := 2) (j := 5) dX9_hand_47 fl_X9_23 (by decide) (by decide) rfl rfl f24 ?_
        refine s_bipush dX9_hand_50 (by decide) ?_
        refine s_iload_n dX9_hand_52 rfl rfl ?_
        refine s_imul dX9_hand_53 ?_
        refine s_iload_n dX9_hand_54 rfl rfl ?_
        refine s_iadd dX9_hand_55 ?_
        refine s_iload_n dX9_hand_56 rfl rfl ?_
        have f25 := H.1
        replace H := H.2
        refine s_iastH dX9_hand_57 f25 (fun h26 eh26 => ?_)
        replace H := H h26 eh26
        refine s_iconst dX9_hand_58 ?_
        exact s_iret dX9_hand_59 rfl ⟨Nat.le_refl _, Nat.le_refl _⟩ H
      · replace H := H.2 c23
        refine s_iconst dX9_hand_44 ?_
        exact s_iret dX9_hand_45 rfl ⟨Nat.le_refl _, Nat.le_refl _⟩ H
set_option maxHeartbeats 4000000 in
set_option maxRecDepth 100000 in
theorem vX9_run_0 {l : Launch} {d : Nat} {G : GS} {h : HP} {Q : Int → GS → HP → Prop} (a0 a1 : Int) (H : (inR a1) ∧ R l MX9_in d 0 0 [vL a1, vL 0, vL 1] G h (fun r2 G3 h4 => (inR r2) ∧ ((r2 ≠ 0 → (ty G3 a0 = 9) ∧ (inA G3 10 (h4 a0 1) 2) ∧ S l MX9_run (d + 1, 0, 0, 0, 0) 23 [some (vR a0), some (vI a1), some (vI 0), some (vI ((h4 (h4 a0 1) 2) - 1))] [] G3 h4 Q) ∧ (r2 = 0 → Q ((-1)) G3 h4)))) : S l MX9_run (d + 1, 0, 0, 0, 0) 0 [some (vR a0), some (vI a1), none, none] [] G h Q := by
  refine s_iload_n dX9_run_0 rfl rfl ?_
  have f1 := H.1
  replace H := H.2
  refine s_i2l dX9_run_1 f1 ?_
  refine s_lconst (v := 0) dX9_run_2 rfl ?_
  refine s_lconst (v := 1) dX9_run_3 rfl ?_
  refine s_callS (M' := MX9_in) (As := [vL a1, vL 0, vL 1]) (st := []) dX9_run_4 ml_X9_97 cs_X9_in rfl rfl (Nat.le_of_ble_eq_true rfl) ⟨Nat.le_refl _, Nat.le_refl _⟩ (R_mono (fun r2 G3 h4 H => ?_) H)
  show S l MX9_run (d + 1, 0, 0, 0, 0) 7 [some (vR a0), some (vI a1), none, none] [vI r2] G3 h4 Q
  have f5 := H.1
  replace H := H.2
  refine s_if_ne (tgt := 12) dX9_run_7 (by decide) f5 (fun c6 => ?_) (fun c6 => ?_)
  · replace H := H.1 c6
    refine s_iconst dX9_run_12 ?_
    refine s_istore_n dX9_run_13 rfl (by decide) rfl ?_
    show S l MX9_run (d + 1, 0, 0, 0, 0) 14 [some (vR a0), some (vI a1), some (vI 0), none] [] G3 h4 Q
    refine s_aload_n dX9_run_14 rfl rfl ?_
    have f7 := H.1
    replace H := H.2
    refine s_getf (c := 9) (k := 1) (t := 2) (j := 1) dX9_run_15 fl_X9_13 (by decide) (by decide) rfl rfl f7 ?_
    refine s_iconst dX9_run_18 ?_
    have f8 := H.1
    replace H := H.2
    refine s_iald dX9_run_19 f8 ?_
    refine s_iconst dX9_run_20 ?_
    refine s_isub dX9_run_21 ?_
    refine s_istore_n dX9_run_22 rfl (by decide) rfl ?_
    show S l MX9_run (d + 1, 0, 0, 0, 0) 23 [some (vR a0), some (vI a1), some (vI 0), some (vI ((h4 (h4 a0 1) 2) - 1))] [] G3 h4 Q
    exact S_cut (by first | exact ⟨rfl, ⟨rfl, ⟨rfl, ⟨rfl, trivial⟩⟩⟩⟩ | simp [lsub]) H
  · replace H := H.2 c6
    refine s_iconst dX9_run_10 ?_
    exact s_iret dX9_run_11 rfl ⟨Nat.le_refl _, Nat.le_refl _⟩ H
set_option maxHeartbeats 4000000 in
set_option maxRecDepth 100000 in
theorem vX9_run_23 {l : Launch} {d : Nat} {G : GS} {h : HP} {Q : Int → GS → HP → Prop} (a0 a1 a2 a3 : Int) (H : (inR a3) ∧ ((a3 < 0 → Q a2 G h) ∧ (0 ≤ a3 → (ty G a0 = 9) ∧ (inR a1) ∧ ((a1 ≠ 0 → R l MX9_byScheme d 0 0 [vR a0, vI a3] G h (fun r6 G7 h8 => S l MX9_run (d + 1, 0, 0, 0, 0) 23 [some (vR a0), some (vI a1), some (vI ((a2 * (h a0 0)) + r6)), some (vI (a3 + (-1)))] [] G7 h8 Q)) ∧ (a1 = 0 → R l MX9_byBox d 0 0 [vR a0, vI a3] G h (fun r9 G10 h11 => S l MX9_run (d + 1, 0, 0, 0, 0) 23 [some (vR a0), some (vI a1), some (vI ((a2 * (h a0 0)) + r9)), some (vI (a3 + (-1)))] [] G10 h11 Q)))))) : S l MX9_run (d + 1, 0, 0, 0, 0) 23 [some (vR a0), some (vI a1), some (vI a2), some (vI a3)] [] G h Q := by
  refine s_iload_n dX9_run_23 rfl rfl ?_
  have f1 := H.1
  replace H := H.2
  refine s_if_lt (tgt := 58) dX9_run_24 (by decide) f1 (fun c2 => ?_) (fun c2 => ?_)
  · replace H := H.1 c2
    refine s_iload_n dX9_run_58 rfl rfl ?_
    exact s_iret dX9_run_59 rfl ⟨Nat.le_refl _, Nat.le_refl _⟩ H
  · replace H := H.2 c2
    refine s_iload_n dX9_run_27 rfl rfl ?_
    refine s_aload_n dX9_run_28 rfl rfl ?_
    have f3 := H.1
    replace H := H.2
    refine s_getf (c := 9) (k := 0) (t := 0) (j := 0) dX9_run_29 fl_X9_7 (by decide) (by decide) rfl rfl f3 ?_
    refine s_imul dX9_run_32 ?_
    refine s_iload_n dX9_run_33 rfl rfl ?_
    have f4 := H.1
    replace H := H.2
    refine s_if_ne (tgt := 45) dX9_run_34 (by decide) f4 (fun c5 => ?_) (fun c5 => ?_)
    · replace H := H.1 c5
      refine s_aload_n dX9_run_45 rfl rfl ?_
      refine s_iload_n dX9_run_46 rfl rfl ?_
      refine s_callV (M' := MX9_byScheme) (As := [vI a3]) (a := a0) (st := [vI (a2 * (h a0 0))]) dX9_run_47 ml_X9_238 cv_X9_byScheme rfl rfl (Nat.le_of_ble_eq_true rfl) ⟨Nat.le_refl _, Nat.le_refl _⟩ f3 (R_mono (fun r6 G7 h8 H => ?_) H)
      show S l MX9_run (d + 1, 0, 0, 0, 0) 50 [some (vR a0), some (vI a1), some (vI a2), some (vI a3)] [vI r6, vI (a2 * (h a0 0))] G7 h8 Q
      refine s_iadd dX9_run_50 ?_
      refine s_istore_n dX9_run_51 rfl (by decide) rfl ?_
      show S l MX9_run (d + 1, 0, 0, 0, 0) 52 [some (vR a0), some (vI a1), some (vI ((a2 * (h a0 0)) + r6)), some (vI a3)] [] G7 h8 Q
      refine s_iinc dX9_run_52 rfl (by decide) rfl ?_
      show S l MX9_run (d + 1, 0, 0, 0, 0) 55 [some (vR a0), some (vI a1), some (vI ((a2 * (h a0 0)) + r6)), some (vI (a3 + (-1)))] [] G7 h8 Q
      refine s_goto (tgt := 23) dX9_run_55 (by decide) ?_
      exact S_cut (by first | exact ⟨rfl, ⟨rfl, ⟨rfl, ⟨rfl, trivial⟩⟩⟩⟩ | simp [lsub]) H
    · replace H := H.2 c5
      refine s_aload_n dX9_run_37 rfl rfl ?_
      refine s_iload_n dX9_run_38 rfl rfl ?_
      refine s_callV (M' := MX9_byBox) (As := [vI a3]) (a := a0) (st := [vI (a2 * (h a0 0))]) dX9_run_39 ml_X9_235 cv_X9_byBox rfl rfl (Nat.le_of_ble_eq_true rfl) ⟨Nat.le_refl _, Nat.le_refl _⟩ f3 (R_mono (fun r9 G10 h11 H => ?_) H)
      show S l MX9_run (d + 1, 0, 0, 0, 0) 42 [some (vR a0), some (vI a1), some (vI a2), some (vI a3)] [vI r9, vI (a2 * (h a0 0))] G10 h11 Q
      refine s_goto (tgt := 50) dX9_run_42 (by decide) ?_
      refine s_iadd dX9_run_50 ?_
      refine s_istore_n dX9_run_51 rfl (by decide) rfl ?_
      show S l MX9_run (d + 1, 0, 0, 0, 0) 52 [some (vR a0), some (vI a1), some (vI ((a2 * (h a0 0)) + r9)), some (vI a3)] [] G10 h11 Q
      refine s_iinc dX9_run_52 rfl (by decide) rfl ?_
      show S l MX9_run (d + 1, 0, 0, 0, 0) 55 [some (vR a0), some (vI a1), some (vI ((a2 * (h a0 0)) + r9)), some (vI (a3 + (-1)))] [] G10 h11 Q
      refine s_goto (tgt := 23) dX9_run_55 (by decide) ?_
      exact S_cut (by first | exact ⟨rfl, ⟨rfl, ⟨rfl, ⟨rfl, trivial⟩⟩⟩⟩ | simp [lsub]) H
set_option maxHeartbeats 4000000 in
set_option maxRecDepth 100000 in
theorem vX9_byBox_0 {l : Launch} {d : Nat} {G : GS} {h : HP} {Q : Int → GS → HP → Prop} (a0 a1 : Int) (H : S l MX9_byBox (d, 0, 0, 0, 0) 4 [some (vR a0), some (vI a1), some (vI 0), some (vI 0), none] [] G h Q) : S l MX9_byBox (d, 0, 0, 0, 0) 0 [some (vR a0), some (vI a1), none, none, none] [] G h Q := by
  refine s_iconst dX9_byBox_0 ?_
  refine s_istore_n dX9_byBox_1 rfl (by decide) rfl ?_
  show S l MX9_byBox (d, 0, 0, 0, 0) 2 [some (vR a0), some (vI a1), some (vI 0), none, none] [] G h Q
  refine s_iconst dX9_byBox_2 ?_
  refine s_istore_n dX9_byBox_3 rfl (by decide) rfl ?_
  show S l MX9_byBox (d, 0, 0, 0, 0) 4 [some (vR a0), some (vI a1), some (vI 0), some (vI 0), none] [] G h Q
  exact S_cut (by first | exact ⟨rfl, ⟨rfl, ⟨rfl, ⟨rfl, trivial⟩⟩⟩⟩ | simp [lsub]) H
set_option maxHeartbeats 4000000 in
set_option maxRecDepth 100000 in
theorem vX9_byBox_4 {l : Launch} {d : Nat} {G : GS} {h : HP} {Q : Int → GS → HP → Prop} (a0 a1 a2 a3 : Int) (H : (inR a3) ∧ ((9 ≤ a3 → (ty G a0 = 9) ∧ (dvR a2 (h a0 0)) ∧ Q (a2 % (h a0 0)) G h) ∧ (a3 < 9 → S l MX9_byBox (d, 0, 0, 0, 0) 13 [some (vR a0), some (vI a1), some (vI a2), some (vI a3), some (vI 0)] [] G h Q))) : S l MX9_byBox (d, 0, 0, 0, 0) 4 [some (vR a0), some (vI a1), some (vI a2), some (vI a3), none] [] G h Q := by
  refine s_iload_n dX9_byBox_4 rfl rfl ?_
  refine s_bipush dX9_byBox_5 (by decide) ?_
  have f1 := H.1
  replace H := H.2
  refine s_icmp_ge (tgt := 70) dX9_byBox_7 (by decide) f1 (by decide) (fun c2 => ?_) (fun c2 => ?_)
  · replace H := H.1 c2
    refine s_iload_n dX9_byBox_70 rfl rfl ?_
    refine s_aload_n dX9_byBox_71 rfl rfl ?_
    have f3 := H.1
    replace H := H.2
    refine s_getf (c := 9) (k := 0) (t := 0) (j := 0) dX9_byBox_72 fl_X9_7 (by decide) (by decide) rfl rfl f3 ?_
    have f4 := H.1
    replace H := H.2
    refine s_irem dX9_byBox_75 f4 ?_
    exact s_iret dX9_byBox_76 rfl ⟨Nat.le_refl _, Nat.le_refl _⟩ H
  · replace H := H.2 c2
    refine s_iconst dX9_byBox_10 ?_
    refine s_istore dX9_byBox_11 (by decide) rfl ?_
    show S l MX9_byBox (d, 0, 0, 0, 0) 13 [some (vR a0), some (vI a1), some (vI a2), some (vI a3), some (vI 0)] [] G h Q
    exact S_cut (by first | exact ⟨rfl, ⟨rfl, ⟨rfl, ⟨rfl, ⟨rfl, trivial⟩⟩⟩⟩⟩ | simp [lsub]) H
set_option maxHeartbeats 4000000 in
set_option maxRecDepth 100000 in
theorem vX9_byBox_13 {l : Launch} {d : Nat} {G : GS} {h : HP} {Q : Int → GS → HP → Prop} (a0 a1 a2 a3 a4 : Int) (H : (inR a4) ∧ ((9 ≤ a4 → S l MX9_byBox (d, 0, 0, 0, 0) 4 [some (vR a0), some (vI a1), some (vI a2), some (vI (a3 + 1)), none] [] G h Q) ∧ (a4 < 9 → (ty G a0 = 9) ∧ (inA G 10 (h a0 2) (((81 * a3) + (9 * a4)) + a1)) ∧ (inA G 10 (h a0 5) a3) ∧ (inA G 10 (h a0 5) (9 + a4)) ∧ S l MX9_byBox (d, 0, 0, 0, 0) 13 [some (vR a0), some (vI a1), some (vI (a2 + (((h (h a0 2) (((81 * a3) + (9 * a4)) + a1)) * (h (h a0 5) a3)) * (h (h a0 5) (9 + a4))))), some (vI a3), some (vI (a4 + 1))] [] G h Q))) : S l MX9_byBox (d, 0, 0, 0, 0) 13 [some (vR a0), some (vI a1), some (vI a2), some (vI a3), some (vI a4)] [] G h Q := by
  refine s_iload dX9_byBox_13 rfl ?_
  refine s_bipush dX9_byBox_15 (by decide) ?_
  have f1 := H.1
  replace H := H.2
  refine s_icmp_ge (tgt := 64) dX9_byBox_17 (by decide) f1 (by decide) (fun c2 => ?_) (fun c2 => ?_)
  · replace H := H.1 c2
    refine s_iinc dX9_byBox_64 rfl (by decide) rfl ?_
    show S l MX9_byBox (d, 0, 0, 0, 0) 67 [some (vR a0), some (vI a1), some (vI a2), some (vI (a3 + 1)), some (vI a4)] [] G h Q
    refine s_goto (tgt := 4) dX9_byBox_67 (by decide) ?_
    exact S_cut (by first | exact ⟨rfl, ⟨rfl, ⟨rfl, ⟨rfl, trivial⟩⟩⟩⟩ | simp [lsub]) H
  · replace H := H.2 c2
    refine s_iload_n dX9_byBox_20 rfl rfl ?_
    refine s_aload_n dX9_byBox_21 rfl rfl ?_
    have f3 := H.1
    replace H := H.2
    refine s_getf (c := 9) (k := 2) (t := 2) (j := 2) dX9_byBox_22 fl_X9_17 (by decide) (by decide) rfl rfl f3 ?_
    refine s_bipush dX9_byBox_25 (by decide) ?_
    refine s_iload_n dX9_byBox_27 rfl rfl ?_
    refine s_imul dX9_byBox_28 ?_
    refine s_bipush dX9_byBox_29 (by decide) ?_
    refine s_iload dX9_byBox_31 rfl ?_
    refine s_imul dX9_byBox_33 ?_
    refine s_iadd dX9_byBox_34 ?_
    refine s_iload_n dX9_byBox_35 rfl rfl ?_
    refine s_iadd dX9_byBox_36 ?_
    have f4 := H.1
    replace H := H.2
    refine s_iald dX9_byBox_37 f4 ?_
    refine s_aload_n dX9_byBox_38 rfl rfl ?_
    refine s_getf (c := 9) (k := 5) (t := 2) (j := 5) dX9_byBox_39 fl_X9_23 (by decide) (by decide) rfl rfl f3 ?_
    refine s_iload_n dX9_byBox_42 rfl rfl ?_
    have f5 := H.1
    replace H := H.2
    refine s_iald dX9_byBox_43 f5 ?_
    refine s_imul dX9_byBox_44 ?_
    refine s_aload_n dX9_byBox_45 rfl rfl ?_
    refine s_getf (c := 9) (k := 5) (t := 2) (j := 5) dX9_byBox_46 fl_X9_23 (by decide) (by decide) rfl rfl f3 ?_
    refine s_bipush dX9_byBox_49 (by decide) ?_
    refine s_iload dX9_byBox_51 rfl ?_
    refine s_iadd dX9_byBox_53 ?_
    have f6 := H.1
    replace H := H.2
    refine s_iald dX9_byBox_54 f6 ?_
    refine s_imul dX9_byBox_55 ?_
    refine s_iadd dX9_byBox_56 ?_
    refine s_istore_n dX9_byBox_57 rfl (by decide) rfl ?_
    show S l MX9_byBox (d, 0, 0, 0, 0) 58 [some (vR a0), some (vI a1), some (vI (a2 + (((h (h a0 2) (((81 * a3) + (9 * a4)) + a1)) * (h (h a0 5) a3)) * (h (h a0 5) (9 + a4))))), some (vI a3), some (vI a4)] [] G h Q
    refine s_iinc dX9_byBox_58 rfl (by decide) rfl ?_
    show S l MX9_byBox (d, 0, 0, 0, 0) 61 [some (vR a0), some (vI a1), some (vI (a2 + (((h (h a0 2) (((81 * a3) + (9 * a4)) + a1)) * (h (h a0 5) a3)) * (h (h a0 5) (9 + a4))))), some (vI a3), some (vI (a4 + 1))] [] G h Q
    refine s_goto (tgt := 13) dX9_byBox_61 (by decide) ?_
    exact S_cut (by first | exact ⟨rfl, ⟨rfl, ⟨rfl, ⟨rfl, ⟨rfl, trivial⟩⟩⟩⟩⟩ | simp [lsub]) H
set_option maxHeartbeats 4000000 in
set_option maxRecDepth 100000 in
theorem vX9_byScheme_0 {l : Launch} {d : Nat} {G : GS} {h : HP} {Q : Int → GS → HP → Prop} (a0 a1 : Int) (H : S l MX9_byScheme (d, 0, 0, 0, 0) 4 [some (vR a0), some (vI a1), some (vI 0), some (vI 0), none, none, none] [] G h Q) : S l MX9_byScheme (d, 0, 0, 0, 0) 0 [some (vR a0), some (vI a1), none, none, none, none, none] [] G h Q := by
  refine s_iconst dX9_byScheme_0 ?_
  refine s_istore_n dX9_byScheme_1 rfl (by decide) rfl ?_
  show S l MX9_byScheme (d, 0, 0, 0, 0) 2 [some (vR a0), some (vI a1), some (vI 0), none, none, none, none] [] G h Q
  refine s_iconst dX9_byScheme_2 ?_
  refine s_istore_n dX9_byScheme_3 rfl (by decide) rfl ?_
  show S l MX9_byScheme (d, 0, 0, 0, 0) 4 [some (vR a0), some (vI a1), some (vI 0), some (vI 0), none, none, none] [] G h Q
  exact S_cut (by first | exact ⟨rfl, ⟨rfl, ⟨rfl, ⟨rfl, trivial⟩⟩⟩⟩ | simp [lsub]) H
set_option maxHeartbeats 4000000 in
set_option maxRecDepth 100000 in
theorem vX9_byScheme_4 {l : Launch} {d : Nat} {G : GS} {h : HP} {Q : Int → GS → HP → Prop} (a0 a1 a2 a3 : Int) (H : (ty G a0 = 9) ∧ (inR a3) ∧ (inR (h a0 4)) ∧ (((h a0 4) ≤ a3 → (dvR a2 (h a0 0)) ∧ Q (a2 % (h a0 0)) G h) ∧ (a3 < (h a0 4) → S l MX9_byScheme (d, 0, 0, 0, 0) 21 [some (vR a0), some (vI a1), some (vI a2), some (vI a3), some (vI 0), some (vI 0), some (vI 0)] [] G h Q))) : S l MX9_byScheme (d, 0, 0, 0, 0) 4 [some (vR a0), some (vI a1), some (vI a2), some (vI a3), none, none, none] [] G h Q := by
  refine s_iload_n dX9_byScheme_4 rfl rfl ?_
  refine s_aload_n dX9_byScheme_5 rfl rfl ?_
  have f1 := H.1
  replace H := H.2
  refine s_getf (c := 9) (k := 4) (t := 0) (j := 4) dX9_byScheme_6 fl_X9_85 (by decide) (by decide) rfl rfl f1 ?_
  have f2 := H.1
  replace H := H.2
  have f3 := H.1
  replace H := H.2
  refine s_icmp_ge (tgt := 129) dX9_byScheme_9 (by decide) f2 f3 (fun c4 => ?_) (fun c4 => ?_)
  · replace H := H.1 c4
    refine s_iload_n dX9_byScheme_129 rfl rfl ?_
    refine s_aload_n dX9_byScheme_130 rfl rfl ?_
    refine s_getf (c := 9) (k := 0) (t := 0) (j := 0) dX9_byScheme_131 fl_X9_7 (by decide) (by decide) rfl rfl f1 ?_
    have f5 := H.1
    replace H := H.2
    refine s_irem dX9_byScheme_134 f5 ?_
    exact s_iret dX9_byScheme_135 rfl ⟨Nat.le_refl _, Nat.le_refl _⟩ H
  · replace H := H.2 c4
    refine s_iconst dX9_byScheme_12 ?_
    refine s_istore dX9_byScheme_13 (by decide) rfl ?_
    show S l MX9_byScheme (d, 0, 0, 0, 0) 15 [some (vR a0), some (vI a1), some (vI a2), some (vI a3), some (vI 0), none, none] [] G h Q
    refine s_iconst dX9_byScheme_15 ?_
    refine s_istore dX9_byScheme_16 (by decide) rfl ?_
    show S l MX9_byScheme (d, 0, 0, 0, 0) 18 [some (vR a0), some (vI a1), some (vI a2), some (vI a3), some (vI 0), some (vI 0), none] [] G h Q
    refine s_iconst dX9_byScheme_18 ?_
    refine s_istore dX9_byScheme_19 (by decide) rfl ?_
    show S l MX9_byScheme (d, 0, 0, 0, 0) 21 [some (vR a0), some (vI a1), some (vI a2), some (vI a3), some (vI 0), some (vI 0), some (vI 0)] [] G h Q
    exact S_cut (by first | exact ⟨rfl, ⟨rfl, ⟨rfl, ⟨rfl, ⟨rfl, ⟨rfl, ⟨rfl, trivial⟩⟩⟩⟩⟩⟩⟩ | simp [lsub]) H
set_option maxHeartbeats 4000000 in
set_option maxRecDepth 100000 in
theorem vX9_byScheme_21 {l : Launch} {d : Nat} {G : GS} {h : HP} {Q : Int → GS → HP → Prop} (a0 a1 a2 a3 a4 a5 a6 : Int) (H : (inR a6) ∧ ((9 ≤ a6 → (ty G a0 = 9) ∧ (dvR a4 (h a0 0)) ∧ (dvR a5 (h a0 0)) ∧ (inA G 10 (h a0 3) (((27 * a3) + 18) + a1)) ∧ S l MX9_byScheme (d, 0, 0, 0, 0) 4 [some (vR a0), some (vI a1), some (vI (a2 + (((a4 % (h a0 0)) * (a5 % (h a0 0))) * (h (h a0 3) (((27 * a3) + 18) + a1))))), some (vI (a3 + 1)), none, none, none] [] G h Q) ∧ (a6 < 9 → (ty G a0 = 9) ∧ (inA G 10 (h a0 3) ((27 * a3) + a6)) ∧ (inA G 10 (h a0 5) a6) ∧ (inA G 10 (h a0 3) (((27 * a3) + 9) + a6)) ∧ (inA G 10 (h a0 5) (9 + a6)) ∧ S l MX9_byScheme (d, 0, 0, 0, 0) 21 [some (vR a0), some (vI a1), some (vI a2), some (vI a3), some (vI (a4 + ((h (h a0 3) ((27 * a3) + a6)) * (h (h a0 5) a6)))), some (vI (a5 + ((h (h a0 3) (((27 * a3) + 9) + a6)) * (h (h a0 5) (9 + a6))))), some (vI (a6 + 1))] [] G h Q))) : S l MX9_byScheme (d, 0, 0, 0, 0) 21 [some (vR a0), some (vI a1), some (vI a2), some (vI a3), some (vI a4), some (vI a5), some (vI a6)] [] G h Q := by
  refine s_iload dX9_byScheme_21 rfl ?_
  refine s_bipush dX9_byScheme_23 (by decide) ?_
  have f1 := H.1
  replace H := H.2
  refine s_icmp_ge (tgt := 90) dX9_byScheme_25 (by decide) f1 (by decide) (fun c2 => ?_) (fun c2 => ?_)
  · replace H := H.1 c2
    refine s_iload_n dX9_byScheme_90 rfl rfl ?_
    refine s_iload dX9_byScheme_91 rfl ?_
    refine s_aload_n dX9_byScheme_93 rfl rfl ?_
    have f3 := H.1
    replace H := H.2
    refine s_getf (c := 9) (k := 0) (t := 0) (j := 0) dX9_byScheme_94 fl_X9_7 (by decide) (by decide) rfl rfl f3 ?_
    have f4 := H.1
    replace H := H.2
    refine s_irem dX9_byScheme_97 f4 ?_
    refine s_iload dX9_byScheme_98 rfl ?_
    refine s_aload_n dX9_byScheme_100 rfl rfl ?_
    refine s_getf (c := 9) (k := 0) (t := 0) (j := 0) dX9_byScheme_101 fl_X9_7 (by decide) (by decide) rfl rfl f3 ?_
    have f5 := H.1
    replace H := H.2
    refine s_irem dX9_byScheme_104 f5 ?_
    refine s_imul dX9_byScheme_105 ?_
    refine s_aload_n dX9_byScheme_106 rfl rfl ?_
    refine s_getf (c := 9) (k := 3) (t := 2) (j := 3) dX9_byScheme_107 fl_X9_20 (by decide) (by decide) rfl rfl f3 ?_
    refine s_bipush dX9_byScheme_110 (by decide) ?_
    refine s_iload_n dX9_byScheme_112 rfl rfl ?_
    refine s_imul dX9_byScheme_113 ?_
    refine s_bipush dX9_byScheme_114 (by decide) ?_
    refine s_iadd dX9_byScheme_116 ?_
    refine s_iload_n dX9_byScheme_117 rfl rfl ?_
    refine s_iadd dX9_byScheme_118 ?_
    have f6 := H.1
    replace H := H.2
    refine s_iald dX9_byScheme_119 f6 ?_
    refine s_imul dX9_byScheme_120 ?_
    refine s_iadd dX9_byScheme_121 ?_
    refine s_istore_n dX9_byScheme_122 rfl (by decide) rfl ?_
    show S l MX9_byScheme (d, 0, 0, 0, 0) 123 [some (vR a0), some (vI a1), some (vI (a2 + (((a4 % (h a0 0)) * (a5 % (h a0 0))) * (h (h a0 3) (((27 * a3) + 18) + a1))))), some (vI a3), some (vI a4), some (vI a5), some (vI a6)] [] G h Q
    refine s_iinc dX9_byScheme_123 rfl (by decide) rfl ?_
    show S l MX9_byScheme (d, 0, 0, 0, 0) 126 [some (vR a0), some (vI a1), some (vI (a2 + (((a4 % (h a0 0)) * (a5 % (h a0 0))) * (h (h a0 3) (((27 * a3) + 18) + a1))))), some (vI (a3 + 1)), some (vI a4), some (vI a5), some (vI a6)] [] G h Q
    refine s_goto (tgt := 4) dX9_byScheme_126 (by decide) ?_
    exact S_cut (by first | exact ⟨rfl, ⟨rfl, ⟨rfl, ⟨rfl, trivial⟩⟩⟩⟩ | simp [lsub]) H
  · replace H := H.2 c2
    refine s_iload dX9_byScheme_28 rfl ?_
    refine s_aload_n dX9_byScheme_30 rfl rfl ?_
    have f7 := H.1
    replace H := H.2
    refine s_getf (c := 9) (k := 3) (t := 2) (j := 3) dX9_byScheme_31 fl_X9_20 (by decide) (by decide) rfl rfl f7 ?_
    refine s_bipush dX9_byScheme_34 (by decide) ?_
    refine s_iload_n dX9_byScheme_36 rfl rfl ?_
    refine s_imul dX9_byScheme_37 ?_
    refine s_iload dX9_byScheme_38 rfl ?_
    refine s_iadd dX9_byScheme_40 ?_
    have f8 := H.1
    replace H := H.2
    refine s_iald dX9_byScheme_41 f8 ?_
    refine s_aload_n dX9_byScheme_42 rfl rfl ?_
    refine s_getf (c := 9) (k := 5) (t := 2) (j := 5) dX9_byScheme_43 fl_X9_23 (by decide) (by decide) rfl rfl f7 ?_
    refine s_iload dX9_byScheme_46 rfl ?_
    have f9 := H.1
    replace H := H.2
    refine s_iald dX9_byScheme_48 f9 ?_
    refine s_imul dX9_byScheme_49 ?_
    refine s_iadd dX9_byScheme_50 ?_
    refine s_istore dX9_byScheme_51 (by decide) rfl ?_
    show S l MX9_byScheme (d, 0, 0, 0, 0) 53 [some (vR a0), some (vI a1), some (vI a2), some (vI a3), some (vI (a4 + ((h (h a0 3) ((27 * a3) + a6)) * (h (h a0 5) a6)))), some (vI a5), some (vI a6)] [] G h Q
    refine s_iload dX9_byScheme_53 rfl ?_
    refine s_aload_n dX9_byScheme_55 rfl rfl ?_
    refine s_getf (c := 9) (k := 3) (t := 2) (j := 3) dX9_byScheme_56 fl_X9_20 (by decide) (by decide) rfl rfl f7 ?_
    refine s_bipush dX9_byScheme_59 (by decide) ?_
    refine s_iload_n dX9_byScheme_61 rfl rfl ?_
    refine s_imul dX9_byScheme_62 ?_
    refine s_bipush dX9_byScheme_63 (by decide) ?_
    refine s_iadd dX9_byScheme_65 ?_
    refine s_iload dX9_byScheme_66 rfl ?_
    refine s_iadd dX9_byScheme_68 ?_
    have f10 := H.1
    replace H := H.2
    refine s_iald dX9_byScheme_69 f10 ?_
    refine s_aload_n dX9_byScheme_70 rfl rfl ?_
    refine s_getf (c := 9) (k := 5) (t := 2) (j := 5) dX9_byScheme_71 fl_X9_23 (by decide) (by decide) rfl rfl f7 ?_
    refine s_bipush dX9_byScheme_74 (by decide) ?_
    refine s_iload dX9_byScheme_76 rfl ?_
    refine s_iadd dX9_byScheme_78 ?_
    have f11 := H.1
    replace H := H.2
    refine s_iald dX9_byScheme_79 f11 ?_
    refine s_imul dX9_byScheme_80 ?_
    refine s_iadd dX9_byScheme_81 ?_
    refine s_istore dX9_byScheme_82 (by decide) rfl ?_
    show S l MX9_byScheme (d, 0, 0, 0, 0) 84 [some (vR a0), some (vI a1), some (vI a2), some (vI a3), some (vI (a4 + ((h (h a0 3) ((27 * a3) + a6)) * (h (h a0 5) a6)))), some (vI (a5 + ((h (h a0 3) (((27 * a3) + 9) + a6)) * (h (h a0 5) (9 + a6))))), some (vI a6)] [] G h Q
    refine s_iinc dX9_byScheme_84 rfl (by decide) rfl ?_
    show S l MX9_byScheme (d, 0, 0, 0, 0) 87 [some (vR a0), some (vI a1), some (vI a2), some (vI a3), some (vI (a4 + ((h (h a0 3) ((27 * a3) + a6)) * (h (h a0 5) a6)))), some (vI (a5 + ((h (h a0 3) (((27 * a3) + 9) + a6)) * (h (h a0 5) (9 + a6))))), some (vI (a6 + 1))] [] G h Q
    refine s_goto (tgt := 21) dX9_byScheme_87 (by decide) ?_
    exact S_cut (by first | exact ⟨rfl, ⟨rfl, ⟨rfl, ⟨rfl, ⟨rfl, ⟨rfl, ⟨rfl, trivial⟩⟩⟩⟩⟩⟩⟩ | simp [lsub]) H
set_option maxHeartbeats 4000000 in
set_option maxRecDepth 100000 in
theorem vX9_sums_0 {l : Launch} {d : Nat} {G : GS} {h : HP} {Q : Int → GS → HP → Prop} (a0 a1 a2 : Int) (H : (inR a1) ∧ R l MX9_in d 0 0 [vL a1, vL 0, vL 1] G h (fun r2 G3 h4 => (inR r2) ∧ ((r2 = 0 → Q ((-1)) G3 h4) ∧ (r2 ≠ 0 → (inR a2) ∧ R l MX9_in d 0 0 [vL a2, vL 0, vL 1] G3 h4 (fun r8 G9 h10 => (inR r8) ∧ ((r8 ≠ 0 → (ty G9 a0 = 9) ∧ (inA G9 10 (h10 a0 1) a1) ∧ ∀ h15 : HP, h15 = hset h10 a0 27 (h10 (h10 a0 1) a1) → S l MX9_sums (d + 1, 0, 0, 0, 0) 34 [some (vR a0), some (vI a1), some (vI a2), some (vI 0), none] [] G9 h15 Q) ∧ (r8 = 0 → Q ((-1)) G9 h10))))))) : S l MX9_sums (d + 1, 0, 0, 0, 0) 0 [some (vR a0), some (vI a1), some (vI a2), none, none] [] G h Q := by
  refine s_iload_n dX9_sums_0 rfl rfl ?_
  have f1 := H.1
  replace H := H.2
  refine s_i2l dX9_sums_1 f1 ?_
  refine s_lconst (v := 0) dX9_sums_2 rfl ?_
  refine s_lconst (v := 1) dX9_sums_3 rfl ?_
  refine s_callS (M' := MX9_in) (As := [vL a1, vL 0, vL 1]) (st := []) dX9_sums_4 ml_X9_97 cs_X9_in rfl rfl (Nat.le_of_ble_eq_true rfl) ⟨Nat.le_refl _, Nat.le_refl _⟩ (R_mono (fun r2 G3 h4 H => ?_) H)
  show S l MX9_sums (d + 1, 0, 0, 0, 0) 7 [some (vR a0), some (vI a1), some (vI a2), none, none] [vI r2] G3 h4 Q
  have f5 := H.1
  replace H := H.2
  refine s_if_eq (tgt := 20) dX9_sums_7 (by decide) f5 (fun c6 => ?_) (fun c6 => ?_)
  · replace H := H.1 c6
    refine s_iconst dX9_sums_20 ?_
    exact s_iret dX9_sums_21 rfl ⟨Nat.le_refl _, Nat.le_refl _⟩ H
  · replace H := H.2 c6
    refine s_iload_n dX9_sums_10 rfl rfl ?_
    have f7 := H.1
    replace H := H.2
    refine s_i2l dX9_sums_11 f7 ?_
    refine s_lconst (v := 0) dX9_sums_12 rfl ?_
    refine s_lconst (v := 1) dX9_sums_13 rfl ?_
    refine s_callS (M' := MX9_in) (As := [vL a2, vL 0, vL 1]) (st := []) dX9_sums_14 ml_X9_97 cs_X9_in rfl rfl (Nat.le_of_ble_eq_true rfl) ⟨Nat.le_refl _, Nat.le_refl _⟩ (R_mono (fun r8 G9 h10 H => ?_) H)
    show S l MX9_sums (d + 1, 0, 0, 0, 0) 17 [some (vR a0), some (vI a1), some (vI a2), none, none] [vI r8] G9 h10 Q
    have f11 := H.1
    replace H := H.2
    refine s_if_ne (tgt := 22) dX9_sums_17 (by decide) f11 (fun c12 => ?_) (fun c12 => ?_)
    · replace H := H.1 c12
      refine s_aload_n dX9_sums_22 rfl rfl ?_
      refine s_aload_n dX9_sums_23 rfl rfl ?_
      have f13 := H.1
      replace H := H.2
      refine s_getf (c := 9) (k := 1) (t := 2) (j := 1) dX9_sums_24 fl_X9_13 (by decide) (by decide) rfl rfl f13 ?_
      refine s_iload_n dX9_sums_27 rfl rfl ?_
      have f14 := H.1
      replace H := H.2
      refine s_iald dX9_sums_28 f14 ?_
      refine s_putI (c := 9) (k := 27) (j := 27) dX9_sums_29 fl_X9_245 (by decide) (by decide) rfl rfl rfl f13 (fun h15 eh15 => ?_)
      replace H := H h15 eh15
      refine s_iconst dX9_sums_32 ?_
      refine s_istore_n dX9_sums_33 rfl (by decide) rfl ?_
      show S l MX9_sums (d + 1, 0, 0, 0, 0) 34 [some (vR a0), some (vI a1), some (vI a2), some (vI 0), none] [] G9 h15 Q
      exact S_cut (by first | exact ⟨rfl, ⟨rfl, ⟨rfl, ⟨rfl, trivial⟩⟩⟩⟩ | simp [lsub]) H
    · replace H := H.2 c12
      refine s_iconst dX9_sums_20 ?_
      exact s_iret dX9_sums_21 rfl ⟨Nat.le_refl _, Nat.le_refl _⟩ H
set_option maxHeartbeats 4000000 in
set_option maxRecDepth 100000 in
theorem vX9_sums_34 {l : Launch} {d : Nat} {G : GS} {h : HP} {Q : Int → GS → HP → Prop} (a0 a1 a2 a3 : Int) (H : (ty G a0 = 9) ∧ (inR a3) ∧ (inR (h a0 4)) ∧ (((h a0 4) ≤ a3 → (inR a2) ∧ ((a2 ≠ 1 → S l MX9_sums (d + 1, 0, 0, 0, 0) 107 [some (vR a0), none, none, some (vI 0), some (vI 0)] [] G h Q) ∧ (a2 = 1 → S l MX9_sums (d + 1, 0, 0, 0, 0) 107 [some (vR a0), none, none, some (vI 0), some (vI 1)] [] G h Q))) ∧ (a3 < (h a0 4) → S l MX9_sums (d + 1, 0, 0, 0, 0) 45 [some (vR a0), some (vI a1), some (vI a2), some (vI a3), some (vI 0)] [] G h Q))) : S l MX9_sums (d + 1, 0, 0, 0, 0) 34 [some (vR a0), some (vI a1), some (vI a2), some (vI a3), none] [] G h Q := by
  refine s_iload_n dX9_sums_34 rfl rfl ?_
  refine s_aload_n dX9_sums_35 rfl rfl ?_
  have f1 := H.1
  replace H := H.2
  refine s_getf (c := 9) (k := 4) (t := 0) (j := 4) dX9_sums_36 fl_X9_85 (by decide) (by decide) rfl rfl f1 ?_
  have f2 := H.1
  replace H := H.2
  have f3 := H.1
  replace H := H.2
  refine s_icmp_ge (tgt := 93) dX9_sums_39 (by decide) f2 f3 (fun c4 => ?_) (fun c4 => ?_)
  · replace H := H.1 c4
    refine s_iconst dX9_sums_93 ?_
    refine s_istore_n dX9_sums_94 rfl (by decide) rfl ?_
    show S l MX9_sums (d + 1, 0, 0, 0, 0) 95 [some (vR a0), some (vI a1), some (vI a2), some (vI 0), none] [] G h Q
    refine s_iload_n dX9_sums_95 rfl rfl ?_
    refine s_iconst dX9_sums_96 ?_
    have f5 := H.1
    replace H := H.2
    refine s_icmp_ne (tgt := 104) dX9_sums_97 (by decide) f5 (by decide) (fun c6 => ?_) (fun c6 => ?_)
    · replace H := H.1 c6
      refine s_iconst dX9_sums_104 ?_
      refine s_istore dX9_sums_105 (by decide) rfl ?_
      show S l MX9_sums (d + 1, 0, 0, 0, 0) 107 [some (vR a0), some (vI a1), some (vI a2), some (vI 0), some (vI 0)] [] G h Q
      exact S_cut (by first | exact ⟨rfl, ⟨rfl, ⟨rfl, trivial⟩⟩⟩ | simp [lsub]) H
    · replace H := H.2 c6
      refine s_iconst dX9_sums_100 ?_
      refine s_goto (tgt := 105) dX9_sums_101 (by decide) ?_
      refine s_istore dX9_sums_105 (by decide) rfl ?_
      show S l MX9_sums (d + 1, 0, 0, 0, 0) 107 [some (vR a0), some (vI a1), some (vI a2), some (vI 0), some (vI 1)] [] G h Q
      exact S_cut (by first | exact ⟨rfl, ⟨rfl, ⟨rfl, trivial⟩⟩⟩ | simp [lsub]) H
  · replace H := H.2 c4
    refine s_iconst dX9_sums_42 ?_
    refine s_istore dX9_sums_43 (by decide) rfl ?_
    show S l MX9_sums (d + 1, 0, 0, 0, 0) 45 [some (vR a0), some (vI a1), some (vI a2), some (vI a3), some (vI 0)] [] G h Q
    exact S_cut (by first | exact ⟨rfl, ⟨rfl, ⟨rfl, ⟨rfl, ⟨rfl, trivial⟩⟩⟩⟩⟩ | simp [lsub]) H
set_option maxHeartbeats 4000000 in
set_option maxRecDepth 100000 in
theorem vX9_sums_107 {l : Launch} {d : Nat} {G : GS} {h : HP} {Q : Int → GS → HP → Prop} (a0 a3 a4 : Int) (H : (inR a4) ∧ ((a4 = 0 → (ty G a0 = 9) ∧ R l MX9_plainSums d 0 0 [vR a0, vI (h a0 27)] G h (fun r4 G5 h6 => Q (a3 + r4) G5 h6)) ∧ (a4 ≠ 0 → (inR a3) ∧ ((40 ≤ a3 → (ty G a0 = 9) ∧ R l MX9_plainSums d 0 0 [vR a0, vI (h a0 27)] G h (fun r10 G11 h12 => Q (a3 + r10) G11 h12)) ∧ (a3 < 40 → (ty G a0 = 9) ∧ R l MX9_share d 0 0 [vR a0] G h (fun r13 G14 h15 => (inR r13) ∧ ((r13 = 0 → S l MX9_sums (d + 1, 0, 0, 0, 0) 107 [some (vR a0), none, none, some (vI (a3 + 0)), some (vI r13)] [] G14 h15 Q) ∧ (r13 ≠ 0 → S l MX9_sums (d + 1, 0, 0, 0, 0) 107 [some (vR a0), none, none, some (vI (a3 + 1)), some (vI r13)] [] G14 h15 Q)))))))) : S l MX9_sums (d + 1, 0, 0, 0, 0) 107 [some (vR a0), none, none, some (vI a3), some (vI a4)] [] G h Q := by
  refine s_iload dX9_sums_107 rfl ?_
  have f1 := H.1
  replace H := H.2
  refine s_if_eq (tgt := 140) dX9_sums_109 (by decide) f1 (fun c2 => ?_) (fun c2 => ?_)
  · replace H := H.1 c2
    refine s_iload_n dX9_sums_140 rfl rfl ?_
    refine s_aload_n dX9_sums_141 rfl rfl ?_
    refine s_aload_n dX9_sums_142 rfl rfl ?_
    have f3 := H.1
    replace H := H.2
    refine s_getf (c := 9) (k := 27) (t := 0) (j := 27) dX9_sums_143 fl_X9_245 (by decide) (by decide) rfl rfl f3 ?_
    refine s_callV (M' := MX9_plainSums) (As := [vI (h a0 27)]) (a := a0) (st := [vI a3]) dX9_sums_146 ml_X9_254 cv_X9_plainSums rfl rfl (Nat.le_of_ble_eq_true rfl) ⟨Nat.le_refl _, Nat.le_refl _⟩ f3 (R_mono (fun r4 G5 h6 H => ?_) H)
    show S l MX9_sums (d + 1, 0, 0, 0, 0) 149 [some (vR a0), none, none, some (vI a3), some (vI a4)] [vI r4, vI a3] G5 h6 Q
    refine s_iadd dX9_sums_149 ?_
    exact s_iret dX9_sums_150 rfl ⟨Nat.le_refl _, Nat.le_refl _⟩ H
  · replace H := H.2 c2
    refine s_iload_n dX9_sums_112 rfl rfl ?_
    refine s_bipush dX9_sums_113 (by decide) ?_
    have f7 := H.1
    replace H := H.2
    refine s_icmp_ge (tgt := 140) dX9_sums_115 (by decide) f7 (by decide) (fun c8 => ?_) (fun c8 => ?_)
    · replace H := H.1 c8
      refine s_iload_n dX9_sums_140 rfl rfl ?_
      refine s_aload_n dX9_sums_141 rfl rfl ?_
      refine s_aload_n dX9_sums_142 rfl rfl ?_
      have f9 := H.1
      replace H := H.2
      refine s_getf (c := 9) (k := 27) (t := 0) (j := 27) dX9_sums_143 fl_X9_245 (by decide) (by decide) rfl rfl f9 ?_
      refine s_callV (M' := MX9_plainSums) (As := [vI (h a0 27)]) (a := a0) (st := [vI a3]) dX9_sums_146 ml_X9_254 cv_X9_plainSums rfl rfl (Nat.le_of_ble_eq_true rfl) ⟨Nat.le_refl _, Nat.le_refl _⟩ f9 (R_mono (fun r10 G11 h12 H => ?_) H)
      show S l MX9_sums (d + 1, 0, 0, 0, 0) 149 [some (vR a0), none, none, some (vI a3), some (vI a4)] [vI r10, vI a3] G11 h12 Q
      refine s_iadd dX9_sums_149 ?_
      exact s_iret dX9_sums_150 rfl ⟨Nat.le_refl _, Nat.le_refl _⟩ H
    · replace H := H.2 c8
      refine s_aload_n dX9_sums_118 rfl rfl ?_
      have f16 := H.1
      replace H := H.2
      refine s_callV (M' := MX9_share) (As := []) (a := a0) (st := []) dX9_sums_119 ml_X9_251 cv_X9_share rfl rfl (Nat.le_of_ble_eq_true rfl) ⟨Nat.le_refl _, Nat.le_refl _⟩ f16 (R_mono (fun r13 G14 h15 H => ?_) H)
      show S l MX9_sums (d + 1, 0, 0, 0, 0) 122 [some (vR a0), none, none, some (vI a3), some (vI a4)] [vI r13] G14 h15 Q
      refine s_istore dX9_sums_122 (by decide) rfl ?_
      show S l MX9_sums (d + 1, 0, 0, 0, 0) 124 [some (vR a0), none, none, some (vI a3), some (vI r13)] [] G14 h15 Q
      refine s_iload_n dX9_sums_124 rfl rfl ?_
      refine s_iload dX9_sums_125 rfl ?_
      have f17 := H.1
      replace H := H.2
      refine s_if_eq (tgt := 134) dX9_sums_127 (by decide) f17 (fun c18 => ?_) (fun c18 => ?_)
      · replace H := H.1 c18
        refine s_iconst dX9_sums_134 ?_
        refine s_iadd dX9_sums_135 ?_
        refine s_istore_n dX9_sums_136 rfl (by decide) rfl ?_
        show S l MX9_sums (d + 1, 0, 0, 0, 0) 137 [some (vR a0), none, none, some (vI (a3 + 0)), some (vI r13)] [] G14 h15 Q
        refine s_goto (tgt := 107) dX9_sums_137 (by decide) ?_
        exact S_cut (by first | exact ⟨rfl, ⟨rfl, ⟨rfl, trivial⟩⟩⟩ | simp [lsub]) H
      · replace H := H.2 c18
        refine s_iconst dX9_sums_130 ?_
        refine s_goto (tgt := 135) dX9_sums_131 (by decide) ?_
        refine s_iadd dX9_sums_135 ?_
        refine s_istore_n dX9_sums_136 rfl (by decide) rfl ?_
        show S l MX9_sums (d + 1, 0, 0, 0, 0) 137 [some (vR a0), none, none, some (vI (a3 + 1)), some (vI r13)] [] G14 h15 Q
        refine s_goto (tgt := 107) dX9_sums_137 (by decide) ?_
        exact S_cut (by first | exact ⟨rfl, ⟨rfl, ⟨rfl, trivial⟩⟩⟩ | simp [lsub]) H
set_option maxHeartbeats 4000000 in
set_option maxRecDepth 100000 in
theorem vX9_sums_45 {l : Launch} {d : Nat} {G : GS} {h : HP} {Q : Int → GS → HP → Prop} (a0 a1 a2 a3 a4 : Int) (H : (inR a4) ∧ ((9 ≤ a4 → S l MX9_sums (d + 1, 0, 0, 0, 0) 34 [some (vR a0), some (vI a1), some (vI a2), some (vI (a3 + 1)), none] [] G h Q) ∧ (a4 < 9 → (ty G a0 = 9) ∧ (inA G 10 (h a0 3) (((27 * a3) + (9 * a1)) + a4)) ∧ (inA G 10 (h a0 26) ((49 * a3) + a4)) ∧ ∀ h6 : HP, h6 = hset h (h a0 26) ((49 * a3) + a4) (h (h a0 3) (((27 * a3) + (9 * a1)) + a4)) → S l MX9_sums (d + 1, 0, 0, 0, 0) 45 [some (vR a0), some (vI a1), some (vI a2), some (vI a3), some (vI (a4 + 1))] [] G h6 Q))) : S l MX9_sums (d + 1, 0, 0, 0, 0) 45 [some (vR a0), some (vI a1), some (vI a2), some (vI a3), some (vI a4)] [] G h Q := by
  refine s_iload dX9_sums_45 rfl ?_
  refine s_bipush dX9_sums_47 (by decide) ?_
  have f1 := H.1
  replace H := H.2
  refine s_icmp_ge (tgt := 87) dX9_sums_49 (by decide) f1 (by decide) (fun c2 => ?_) (fun c2 => ?_)
  · replace H := H.1 c2
    refine s_iinc dX9_sums_87 rfl (by decide) rfl ?_
    show S l MX9_sums (d + 1, 0, 0, 0, 0) 90 [some (vR a0), some (vI a1), some (vI a2), some (vI (a3 + 1)), some (vI a4)] [] G h Q
    refine s_goto (tgt := 34) dX9_sums_90 (by decide) ?_
    exact S_cut (by first | exact ⟨rfl, ⟨rfl, ⟨rfl, ⟨rfl, trivial⟩⟩⟩⟩ | simp [lsub]) H
  · replace H := H.2 c2
    refine s_aload_n dX9_sums_52 rfl rfl ?_
    have f3 := H.1
    replace H := H.2
    refine s_getf (c := 9) (k := 26) (t := 2) (j := 26) dX9_sums_53 fl_X9_78 (by decide) (by decide) rfl rfl f3 ?_
    refine s_bipush dX9_sums_56 (by decide) ?_
    refine s_iload_n dX9_sums_58 rfl rfl ?_
    refine s_imul dX9_sums_59 ?_
    refine s_iload dX9_sums_60 rfl ?_
    refine s_iadd dX9_sums_62 ?_
    refine s_aload_n dX9_sums_63 rfl rfl ?_
    refine s_getf (c := 9) (k := 3) (t := 2) (j := 3) dX9_sums_64 fl_X9_20 (by decide) (by decide) rfl rfl f3 ?_
    refine s_bipush dX9_sums_67 (by decide) ?_
    refine s_iload_n dX9_sums_69 rfl rfl ?_
    refine s_imul dX9_sums_70 ?_
    refine s_bipush dX9_sums_71 (by decide) ?_
    refine s_iload_n dX9_sums_73 rfl rfl ?_
    refine s_imul dX9_sums_74 ?_
    refine s_iadd dX9_sums_75 ?_
    refine s_iload dX9_sums_76 rfl ?_
    refine s_iadd dX9_sums_78 ?_
    have f4 := H.1
    replace H := H.2
    refine s_iald dX9_sums_79 f4 ?_
    have f5 := H.1
    replace H := H.2
    refine s_iastH dX9_sums_80 f5 (fun h6 eh6 => ?_)
    replace H := H h6 eh6
    refine s_iinc dX9_sums_81 rfl (by decide) rfl ?_
    show S l MX9_sums (d + 1, 0, 0, 0, 0) 84 [some (vR a0), some (vI a1), some (vI a2), some (vI a3), some (vI (a4 + 1))] [] G h6 Q
    refine s_goto (tgt := 45) dX9_sums_84 (by decide) ?_
    exact S_cut (by first | exact ⟨rfl, ⟨rfl, ⟨rfl, ⟨rfl, ⟨rfl, trivial⟩⟩⟩⟩⟩ | simp [lsub]) H
set_option maxHeartbeats 4000000 in
set_option maxRecDepth 100000 in
theorem vX9_share_0 {l : Launch} {d : Nat} {G : GS} {h : HP} {Q : Int → GS → HP → Prop} (a0 : Int) (H : S l MX9_share (d + 1, 0, 0, 0, 0) 12 [some (vR a0), some (vI 1), some (vI 0), some (vI 0), some (vI 0), some (vI 0), none, none, none] [] G h Q) : S l MX9_share (d + 1, 0, 0, 0, 0) 0 [some (vR a0), none, none, none, none, none, none, none, none] [] G h Q := by
  refine s_iconst dX9_share_0 ?_
  refine s_istore_n dX9_share_1 rfl (by decide) rfl ?_
  show S l MX9_share (d + 1, 0, 0, 0, 0) 2 [some (vR a0), some (vI 1), none, none, none, none, none, none, none] [] G h Q
  refine s_iconst dX9_share_2 ?_
  refine s_istore_n dX9_share_3 rfl (by decide) rfl ?_
  show S l MX9_share (d + 1, 0, 0, 0, 0) 4 [some (vR a0), some (vI 1), some (vI 0), none, none, none, none, none, none] [] G h Q
  refine s_iconst dX9_share_4 ?_
  refine s_istore_n dX9_share_5 rfl (by decide) rfl ?_
  show S l MX9_share (d + 1, 0, 0, 0, 0) 6 [some (vR a0), some (vI 1), some (vI 0), some (vI 0), none, none, none, none, none] [] G h Q
  refine s_iconst dX9_share_6 ?_
  refine s_istore dX9_share_7 (by decide) rfl ?_
  show S l MX9_share (d + 1, 0, 0, 0, 0) 9 [some (vR a0), some (vI 1), some (vI 0), some (vI 0), some (vI 0), none, none, none, none] [] G h Q
  refine s_iconst dX9_share_9 ?_
  refine s_istore dX9_share_10 (by decide) rfl ?_
  show S l MX9_share (d + 1, 0, 0, 0, 0) 12 [some (vR a0), some (vI 1), some (vI 0), some (vI 0), some (vI 0), some (vI 0), none, none, none] [] G h Q
  exact S_cut (by first | exact ⟨rfl, ⟨rfl, ⟨rfl, ⟨rfl, ⟨rfl, ⟨rfl, trivial⟩⟩⟩⟩⟩⟩ | simp [lsub]) H
set_option maxHeartbeats 4000000 in
set_option maxRecDepth 100000 in
theorem vX9_share_12 {l : Launch} {d : Nat} {G : GS} {h : HP} {Q : Int → GS → HP → Prop} (a0 a1 a2 a3 a4 a5 : Int) (H : (ty G a0 = 9) ∧ (inR a5) ∧ (inR (h a0 27)) ∧ (((h a0 27) ≤ a5 → (inR a1) ∧ ((2 ≤ a1 → S l MX9_share (d + 1, 0, 0, 0, 0) 107 [some (vR a0), none, some (vI a2), some (vI a3), some (vI a4), some (vI 0), none, none, none] [] G h Q) ∧ (a1 < 2 → Q 0 G h))) ∧ (a5 < (h a0 27) → S l MX9_share (d + 1, 0, 0, 0, 0) 27 [some (vR a0), some (vI a1), some (vI a2), some (vI a3), some (vI a4), some (vI a5), some (vI (a5 + 1)), none, none] [] G h Q))) : S l MX9_share (d + 1, 0, 0, 0, 0) 12 [some (vR a0), some (vI a1), some (vI a2), some (vI a3), some (vI a4), some (vI a5), none, none, none] [] G h Q := by
  refine s_iload dX9_share_12 rfl ?_
  refine s_aload_n dX9_share_14 rfl rfl ?_
  have f1 := H.1
  replace H := H.2
  refine s_getf (c := 9) (k := 27) (t := 0) (j := 27) dX9_share_15 fl_X9_245 (by decide) (by decide) rfl rfl f1 ?_
  have f2 := H.1
  replace H := H.2
  have f3 := H.1
  replace H := H.2
  refine s_icmp_ge (tgt := 97) dX9_share_18 (by decide) f2 f3 (fun c4 => ?_) (fun c4 => ?_)
  · replace H := H.1 c4
    refine s_iload_n dX9_share_97 rfl rfl ?_
    refine s_iconst dX9_share_98 ?_
    have f5 := H.1
    replace H := H.2
    refine s_icmp_ge (tgt := 104) dX9_share_99 (by decide) f5 (by decide) (fun c6 => ?_) (fun c6 => ?_)
    · replace H := H.1 c6
      refine s_iconst dX9_share_104 ?_
      refine s_istore dX9_share_105 (by decide) rfl ?_
      show S l MX9_share (d + 1, 0, 0, 0, 0) 107 [some (vR a0), some (vI a1), some (vI a2), some (vI a3), some (vI a4), some (vI 0), none, none, none] [] G h Q
      exact S_cut (by first | exact ⟨rfl, ⟨rfl, ⟨rfl, ⟨rfl, ⟨rfl, trivial⟩⟩⟩⟩⟩ | simp [lsub]) H
    · replace H := H.2 c6
      refine s_iconst dX9_share_102 ?_
      exact s_zret dX9_share_103 rfl ⟨Nat.le_refl _, Nat.le_refl _⟩ (by decide) H
  · replace H := H.2 c4
    refine s_iload dX9_share_21 rfl ?_
    refine s_iconst dX9_share_23 ?_
    refine s_iadd dX9_share_24 ?_
    refine s_istore dX9_share_25 (by decide) rfl ?_
    show S l MX9_share (d + 1, 0, 0, 0, 0) 27 [some (vR a0), some (vI a1), some (vI a2), some (vI a3), some (vI a4), some (vI a5), some (vI (a5 + 1)), none, none] [] G h Q
    exact S_cut (by first | exact ⟨rfl, ⟨rfl, ⟨rfl, ⟨rfl, ⟨rfl, ⟨rfl, ⟨rfl, trivial⟩⟩⟩⟩⟩⟩⟩ | simp [lsub]) H
set_option maxHeartbeats 4000000 in
set_option maxRecDepth 100000 in
theorem vX9_share_107 {l : Launch} {d : Nat} {G : GS} {h : HP} {Q : Int → GS → HP → Prop} (a0 a2 a3 a4 a5 : Int) (H : (ty G a0 = 9) ∧ (inR a5) ∧ (inR (h a0 4)) ∧ (((h a0 4) ≤ a5 → ∀ h5 : HP, h5 = hset h a0 27 ((h a0 27) + 1) → Q 1 G h5) ∧ (a5 < (h a0 4) → R l MX9_hasBoth d 0 0 [vR a0, vI a5, vI a2, vI a3, vI a4] G h (fun r6 G7 h8 => (ty G7 a0 = 9) ∧ (inR r6) ∧ ((r6 = 0 → (inA G7 10 (h8 a0 26) ((49 * a5) + (h8 a0 27))) ∧ ∀ h13 : HP, h13 = hset h8 (h8 a0 26) ((49 * a5) + (h8 a0 27)) 0 → ((r6 = 0 → S l MX9_share (d + 1, 0, 0, 0, 0) 107 [some (vR a0), none, some (vI a2), some (vI a3), some (vI a4), some (vI (a5 + 1)), none, none, none] [] G7 h13 Q) ∧ (r6 ≠ 0 → (inA G7 10 (h13 a0 26) ((49 * a5) + a2)) ∧ ∀ h16 : HP, h16 = hset h13 (h13 a0 26) ((49 * a5) + a2) 0 → (inA G7 10 (h16 a0 26) ((49 * a5) + a3)) ∧ ∀ h18 : HP, h18 = hset h16 (h16 a0 26) ((49 * a5) + a3) 0 → S l MX9_share (d + 1, 0, 0, 0, 0) 107 [some (vR a0), none, some (vI a2), some (vI a3), some (vI a4), some (vI (a5 + 1)), none, none, none] [] G7 h18 Q))) ∧ (r6 ≠ 0 → (inA G7 10 (h8 a0 26) ((49 * a5) + a2)) ∧ (inA G7 10 (h8 a0 26) ((49 * a5) + (h8 a0 27))) ∧ ∀ h21 : HP, h21 = hset h8 (h8 a0 26) ((49 * a5) + (h8 a0 27)) (h8 (h8 a0 26) ((49 * a5) + a2)) → ((r6 = 0 → S l MX9_share (d + 1, 0, 0, 0, 0) 107 [some (vR a0), none, some (vI a2), some (vI a3), some (vI a4), some (vI (a5 + 1)), none, none, none] [] G7 h21 Q) ∧ (r6 ≠ 0 → (inA G7 10 (h21 a0 26) ((49 * a5) + a2)) ∧ ∀ h24 : HP, h24 = hset h21 (h21 a0 26) ((49 * a5) + a2) 0 → (inA G7 10 (h24 a0 26) ((49 * a5) + a3)) ∧ ∀ h26 : HP, h26 = hset h24 (h24 a0 26) ((49 * a5) + a3) 0 → S l MX9_share (d + 1, 0, 0, 0, 0) 107 [some (vR a0), none, some (vI a2), some (vI a3), some (vI a4), some (vI (a5 + 1)), none, none, none] [] G7 h26 Q)))))))) : S l MX9_share (d + 1, 0, 0, 0, 0) 107 [some (vR a0), none, some (vI a2), some (vI a3), some (vI a4), some (vI a5), none, none, none] [] G h Q := by
  refine s_iload dX9_share_107 rfl ?_
  refine s_aload_n dX9_share_109 rfl rfl ?_
  have f1 := H.1
  replace H := H.2
  refine s_getf (c := 9) (k := 4) (t := 0) (j := 4) dX9_share_110 fl_X9_85 (by decide) (by decide) rfl rfl f1 ?_
  have f2 := H.1
  replace H := H.2
  have f3 := H.1
  replace H := H.2
  refine s_icmp_ge (tgt := 201) dX9_share_113 (by decide) f2 f3 (fun c4 => ?_) (fun c4 => ?_)
  · replace H := H.1 c4
    refine s_aload_n dX9_share_201 rfl rfl ?_
    refine s_dup dX9_share_202 rfl ?_
    refine s_getf (c := 9) (k := 27) (t := 0) (j := 27) dX9_share_203 fl_X9_245 (by decide) (by decide) rfl rfl f1 ?_
    refine s_iconst dX9_share_206 ?_
    refine s_iadd dX9_share_207 ?_
    refine s_putI (c := 9) (k := 27) (j := 27) dX9_share_208 fl_X9_245 (by decide) (by decide) rfl rfl rfl f1 (fun h5 eh5 => ?_)
    replace H := H h5 eh5
    refine s_iconst dX9_share_211 ?_
    exact s_zret dX9_share_212 rfl ⟨Nat.le_refl _, Nat.le_refl _⟩ (by decide) H
  · replace H := H.2 c4
    refine s_aload_n dX9_share_116 rfl rfl ?_
    refine s_iload dX9_share_117 rfl ?_
    refine s_iload_n dX9_share_119 rfl rfl ?_
    refine s_iload_n dX9_share_120 rfl rfl ?_
    refine s_iload dX9_share_121 rfl ?_
    refine s_callV (M' := MX9_hasBoth) (As := [vI a5, vI a2, vI a3, vI a4]) (a := a0) (st := []) dX9_share_123 ml_X9_241 cv_X9_hasBoth rfl rfl (Nat.le_of_ble_eq_true rfl) ⟨Nat.le_refl _, Nat.le_refl _⟩ f1 (R_mono (fun r6 G7 h8 H => ?_) H)
    show S l MX9_share (d + 1, 0, 0, 0, 0) 126 [some (vR a0), none, some (vI a2), some (vI a3), some (vI a4), some (vI a5), none, none, none] [vI r6] G7 h8 Q
    refine s_istore dX9_share_126 (by decide) rfl ?_
    show S l MX9_share (d + 1, 0, 0, 0, 0) 128 [some (vR a0), none, some (vI a2), some (vI a3), some (vI a4), some (vI a5), some (vI r6), none, none] [] G7 h8 Q
    refine s_aload_n dX9_share_128 rfl rfl ?_
    have f9 := H.1
    replace H := H.2
    refine s_getf (c := 9) (k := 26) (t := 2) (j := 26) dX9_share_129 fl_X9_78 (by decide) (by decide) rfl rfl f9 ?_
    refine s_bipush dX9_share_132 (by decide) ?_
    refine s_iload dX9_share_134 rfl ?_
    refine s_imul dX9_share_136 ?_
    refine s_aload_n dX9_share_137 rfl rfl ?_
    refine s_getf (c := 9) (k := 27) (t := 0) (j := 27) dX9_share_138 fl_X9_245 (by decide) (by decide) rfl rfl f9 ?_
    refine s_iadd dX9_share_141 ?_
    refine s_iload dX9_share_142 rfl ?_
    have f10 := H.1
    replace H := H.2
    refine s_if_eq (tgt := 162) dX9_share_144 (by decide) f10 (fun c11 => ?_) (fun c11 => ?_)
    · replace H := H.1 c11
      refine s_iconst dX9_share_162 ?_
      have f12 := H.1
      replace H := H.2
      refine s_iastH dX9_share_163 f12 (fun h13 eh13 => ?_)
      replace H := H h13 eh13
      refine s_iload dX9_share_164 rfl ?_
      refine s_if_eq (tgt := 195) dX9_share_166 (by decide) f10 (fun c14 => ?_) (fun c14 => ?_)
      · replace H := H.1 c14
        refine s_iinc dX9_share_195 rfl (by decide) rfl ?_
        show S l MX9_share (d + 1, 0, 0, 0, 0) 198 [some (vR a0), none, some (vI a2), some (vI a3), some (vI a4), some (vI (a5 + 1)), some (vI r6), none, none] [] G7 h13 Q
        refine s_goto (tgt := 107) dX9_share_198 (by decide) ?_
        exact S_cut (by first | exact ⟨rfl, ⟨rfl, ⟨rfl, ⟨rfl, ⟨rfl, trivial⟩⟩⟩⟩⟩ | simp [lsub]) H
      · replace H := H.2 c14
        refine s_aload_n dX9_share_169 rfl rfl ?_
        refine s_getf (c := 9) (k := 26) (t := 2) (j := 26) dX9_share_170 fl_X9_78 (by decide) (by decide) rfl rfl f9 ?_
        refine s_bipush dX9_share_173 (by decide) ?_
        refine s_iload dX9_share_175 rfl ?_
        refine s_imul dX9_share_177 ?_
        refine s_iload_n dX9_share_178 rfl rfl ?_
        refine s_iadd dX9_share_179 ?_
        refine s_iconst dX9_share_180 ?_
        have f15 := H.1
        replace H := H.2
        refine s_iastH dX9_share_181 f15 (fun h16 eh16 => ?_)
        replace H := H h16 eh16
        refine s_aload_n dX9_share_182 rfl rfl ?_
        refine s_getf (c := 9) (k := 26) (t := 2) (j := 26) dX9_share_183 fl_X9_78 (by decide) (by decide) rfl rfl f9 ?_
        refine s_bipush dX9_share_186 (by decide) ?_
        refine s_iload dX9_share_188 rfl ?_
        refine s_imul dX9_share_190 ?_
        refine s_iload_n dX9_share_191 rfl rfl ?_
        refine s_iadd dX9_share_192 ?_
        refine s_iconst dX9_share_193 ?_
        have f17 := H.1
        replace H := H.2
        refine s_iastH dX9_share_194 f17 (fun h18 eh18 => ?_)
        replace H := H h18 eh18
        refine s_iinc dX9_share_195 rfl (by decide) rfl ?_
        show S l MX9_share (d + 1, 0, 0, 0, 0) 198 [some (vR a0), none, some (vI a2), some (vI a3), some (vI a4), some (vI (a5 + 1)), some (vI r6), none, none] [] G7 h18 Q
        refine s_goto (tgt := 107) dX9_share_198 (by decide) ?_
        exact S_cut (by first | exact ⟨rfl, ⟨rfl, ⟨rfl, ⟨rfl, ⟨rfl, trivial⟩⟩⟩⟩⟩ | simp [lsub]) H
    · replace H := H.2 c11
      refine s_aload_n dX9_share_147 rfl rfl ?_
      refine s_getf (c := 9) (k := 26) (t := 2) (j := 26) dX9_share_148 fl_X9_78 (by decide) (by decide) rfl rfl f9 ?_
      refine s_bipush dX9_share_151 (by decide) ?_
      refine s_iload dX9_share_153 rfl ?_
      refine s_imul dX9_share_155 ?_
      refine s_iload_n dX9_share_156 rfl rfl ?_
      refine s_iadd dX9_share_157 ?_
      have f19 := H.1
      replace H := H.2
      refine s_iald dX9_share_158 f19 ?_
      refine s_goto (tgt := 163) dX9_share_159 (by decide) ?_
      have f20 := H.1
      replace H := H.2
      refine s_iastH dX9_share_163 f20 (fun h21 eh21 => ?_)
      replace H := H h21 eh21
      refine s_iload dX9_share_164 rfl ?_
      refine s_if_eq (tgt := 195) dX9_share_166 (by decide) f10 (fun c22 => ?_) (fun c22 => ?_)
      · replace H := H.1 c22
        refine s_iinc dX9_share_195 rfl (by decide) rfl ?_
        show S l MX9_share (d + 1, 0, 0, 0, 0) 198 [some (vR a0), none, some (vI a2), some (vI a3), some (vI a4), some (vI (a5 + 1)), some (vI r6), none, none] [] G7 h21 Q
        refine s_goto (tgt := 107) dX9_share_198 (by decide) ?_
        exact S_cut (by first | exact ⟨rfl, ⟨rfl, ⟨rfl, ⟨rfl, ⟨rfl, trivial⟩⟩⟩⟩⟩ | simp [lsub]) H
      · replace H := H.2 c22
        refine s_aload_n dX9_share_169 rfl rfl ?_
        refine s_getf (c := 9) (k := 26) (t := 2) (j := 26) dX9_share_170 fl_X9_78 (by decide) (by decide) rfl rfl f9 ?_
        refine s_bipush dX9_share_173 (by decide) ?_
        refine s_iload dX9_share_175 rfl ?_
        refine s_imul dX9_share_177 ?_
        refine s_iload_n dX9_share_178 rfl rfl ?_
        refine s_iadd dX9_share_179 ?_
        refine s_iconst dX9_share_180 ?_
        have f23 := H.1
        replace H := H.2
        refine s_iastH dX9_share_181 f23 (fun h24 eh24 => ?_)
        replace H := H h24 eh24
        refine s_aload_n dX9_share_182 rfl rfl ?_
        refine s_getf (c := 9) (k := 26) (t := 2) (j := 26) dX9_share_183 fl_X9_78 (by decide) (by decide) rfl rfl f9 ?_
        refine s_bipush dX9_share_186 (by decide) ?_
        refine s_iload dX9_share_188 rfl ?_
        refine s_imul dX9_share_190 ?_
        refine s_iload_n dX9_share_191 rfl rfl ?_
        refine s_iadd dX9_share_192 ?_
        refine s_iconst dX9_share_193 ?_
        have f25 := H.1
        replace H := H.2
        refine s_iastH dX9_share_194 f25 (fun h26 eh26 => ?_)
        replace H := H h26 eh26
        refine s_iinc dX9_share_195 rfl (by decide) rfl ?_
        show S l MX9_share (d + 1, 0, 0, 0, 0) 198 [some (vR a0), none, some (vI a2), some (vI a3), some (vI a4), some (vI (a5 + 1)), some (vI r6), none, none] [] G7 h26 Q
        refine s_goto (tgt := 107) dX9_share_198 (by decide) ?_
        exact S_cut (by first | exact ⟨rfl, ⟨rfl, ⟨rfl, ⟨rfl, ⟨rfl, trivial⟩⟩⟩⟩⟩ | simp [lsub]) H
set_option maxHeartbeats 4000000 in
set_option maxRecDepth 100000 in
theorem vX9_share_27 {l : Launch} {d : Nat} {G : GS} {h : HP} {Q : Int → GS → HP → Prop} (a0 a1 a2 a3 a4 a5 a6 : Int) (H : (ty G a0 = 9) ∧ (inR a6) ∧ (inR (h a0 27)) ∧ (((h a0 27) ≤ a6 → S l MX9_share (d + 1, 0, 0, 0, 0) 12 [some (vR a0), some (vI a1), some (vI a2), some (vI a3), some (vI a4), some (vI (a5 + 1)), none, none, none] [] G h Q) ∧ (a6 < (h a0 27) → S l MX9_share (d + 1, 0, 0, 0, 0) 39 [some (vR a0), some (vI a1), some (vI a2), some (vI a3), some (vI a4), some (vI a5), some (vI a6), some (vI 1), none] [] G h Q))) : S l MX9_share (d + 1, 0, 0, 0, 0) 27 [some (vR a0), some (vI a1), some (vI a2), some (vI a3), some (vI a4), some (vI a5), some (vI a6), none, none] [] G h Q := by
  refine s_iload dX9_share_27 rfl ?_
  refine s_aload_n dX9_share_29 rfl rfl ?_
  have f1 := H.1
  replace H := H.2
  refine s_getf (c := 9) (k := 27) (t := 0) (j := 27) dX9_share_30 fl_X9_245 (by decide) (by decide) rfl rfl f1 ?_
  have f2 := H.1
  replace H := H.2
  have f3 := H.1
  replace H := H.2
  refine s_icmp_ge (tgt := 91) dX9_share_33 (by decide) f2 f3 (fun c4 => ?_) (fun c4 => ?_)
  · replace H := H.1 c4
    refine s_iinc dX9_share_91 rfl (by decide) rfl ?_
    show S l MX9_share (d + 1, 0, 0, 0, 0) 94 [some (vR a0), some (vI a1), some (vI a2), some (vI a3), some (vI a4), some (vI (a5 + 1)), some (vI a6), none, none] [] G h Q
    refine s_goto (tgt := 12) dX9_share_94 (by decide) ?_
    exact S_cut (by first | exact ⟨rfl, ⟨rfl, ⟨rfl, ⟨rfl, ⟨rfl, ⟨rfl, trivial⟩⟩⟩⟩⟩⟩ | simp [lsub]) H
  · replace H := H.2 c4
    refine s_iconst dX9_share_36 ?_
    refine s_istore dX9_share_37 (by decide) rfl ?_
    show S l MX9_share (d + 1, 0, 0, 0, 0) 39 [some (vR a0), some (vI a1), some (vI a2), some (vI a3), some (vI a4), some (vI a5), some (vI a6), some (vI 1), none] [] G h Q
    exact S_cut (by first | exact ⟨rfl, ⟨rfl, ⟨rfl, ⟨rfl, ⟨rfl, ⟨rfl, ⟨rfl, ⟨rfl, trivial⟩⟩⟩⟩⟩⟩⟩⟩ | simp [lsub]) H
set_option maxHeartbeats 4000000 in
set_option maxRecDepth 100000 in
theorem vX9_share_39 {l : Launch} {d : Nat} {G : GS} {h : HP} {Q : Int → GS → HP → Prop} (a0 a1 a2 a3 a4 a5 a6 a7 : Int) (H : (ty G a0 = 9) ∧ (inR a7) ∧ (inR (h a0 0)) ∧ (((h a0 0) ≤ a7 → S l MX9_share (d + 1, 0, 0, 0, 0) 27 [some (vR a0), some (vI a1), some (vI a2), some (vI a3), some (vI a4), some (vI a5), some (vI (a6 + 1)), none, none] [] G h Q) ∧ (a7 < (h a0 0) → R l MX9_rowsWith d 0 0 [vR a0, vI a5, vI a6, vI a7] G h (fun r5 G6 h7 => (inR r5) ∧ (inR a1) ∧ ((r5 ≤ a1 → S l MX9_share (d + 1, 0, 0, 0, 0) 39 [some (vR a0), some (vI a1), some (vI a2), some (vI a3), some (vI a4), some (vI a5), some (vI a6), some (vI (a7 + 1)), none] [] G6 h7 Q) ∧ (a1 < r5 → S l MX9_share (d + 1, 0, 0, 0, 0) 39 [some (vR a0), some (vI r5), some (vI a5), some (vI a6), some (vI a7), some (vI a5), some (vI a6), some (vI (a7 + 1)), none] [] G6 h7 Q)))))) : S l MX9_share (d + 1, 0, 0, 0, 0) 39 [some (vR a0), some (vI a1), some (vI a2), some (vI a3), some (vI a4), some (vI a5), some (vI a6), some (vI a7), none] [] G h Q := by
  refine s_iload dX9_share_39 rfl ?_
  refine s_aload_n dX9_share_41 rfl rfl ?_
  have f1 := H.1
  replace H := H.2
  refine s_getf (c := 9) (k := 0) (t := 0) (j := 0) dX9_share_42 fl_X9_7 (by decide) (by decide) rfl rfl f1 ?_
  have f2 := H.1
  replace H := H.2
  have f3 := H.1
  replace H := H.2
  refine s_icmp_ge (tgt := 85) dX9_share_45 (by decide) f2 f3 (fun c4 => ?_) (fun c4 => ?_)
  · replace H := H.1 c4
    refine s_iinc dX9_share_85 rfl (by decide) rfl ?_
    show S l MX9_share (d + 1, 0, 0, 0, 0) 88 [some (vR a0), some (vI a1), some (vI a2), some (vI a3), some (vI a4), some (vI a5), some (vI (a6 + 1)), some (vI a7), none] [] G h Q
    refine s_goto (tgt := 27) dX9_share_88 (by decide) ?_
    exact S_cut (by first | exact ⟨rfl, ⟨rfl, ⟨rfl, ⟨rfl, ⟨rfl, ⟨rfl, ⟨rfl, trivial⟩⟩⟩⟩⟩⟩⟩ | simp [lsub]) H
  · replace H := H.2 c4
    refine s_aload_n dX9_share_48 rfl rfl ?_
    refine s_iload dX9_share_49 rfl ?_
    refine s_iload dX9_share_51 rfl ?_
    refine s_iload dX9_share_53 rfl ?_
    refine s_callV (M' := MX9_rowsWith) (As := [vI a5, vI a6, vI a7]) (a := a0) (st := []) dX9_share_55 ml_X9_248 cv_X9_rowsWith rfl rfl (Nat.le_of_ble_eq_true rfl) ⟨Nat.le_refl _, Nat.le_refl _⟩ f1 (R_mono (fun r5 G6 h7 H => ?_) H)
    show S l MX9_share (d + 1, 0, 0, 0, 0) 58 [some (vR a0), some (vI a1), some (vI a2), some (vI a3), some (vI a4), some (vI a5), some (vI a6), some (vI a7), none] [vI r5] G6 h7 Q
    refine s_istore dX9_share_58 (by decide) rfl ?_
    show S l MX9_share (d + 1, 0, 0, 0, 0) 60 [some (vR a0), some (vI a1), some (vI a2), some (vI a3), some (vI a4), some (vI a5), some (vI a6), some (vI a7), some (vI r5)] [] G6 h7 Q
    refine s_iload dX9_share_60 rfl ?_
    refine s_iload_n dX9_share_62 rfl rfl ?_
    have f8 := H.1
    replace H := H.2
    have f9 := H.1
    replace H := H.2
    refine s_icmp_le (tgt := 79) dX9_share_63 (by decide) f8 f9 (fun c10 => ?_) (fun c10 => ?_)
    · replace H := H.1 c10
      refine s_iinc dX9_share_79 rfl (by decide) rfl ?_
      show S l MX9_share (d + 1, 0, 0, 0, 0) 82 [some (vR a0), some (vI a1), some (vI a2), some (vI a3), some (vI a4), some (vI a5), some (vI a6), some (vI (a7 + 1)), some (vI r5)] [] G6 h7 Q
      refine s_goto (tgt := 39) dX9_share_82 (by decide) ?_
      exact S_cut (by first | exact ⟨rfl, ⟨rfl, ⟨rfl, ⟨rfl, ⟨rfl, ⟨rfl, ⟨rfl, ⟨rfl, trivial⟩⟩⟩⟩⟩⟩⟩⟩ | simp [lsub]) H
    · replace H := H.2 c10
      refine s_iload dX9_share_66 rfl ?_
      refine s_istore_n dX9_share_68 rfl (by decide) rfl ?_
      show S l MX9_share (d + 1, 0, 0, 0, 0) 69 [some (vR a0), some (vI r5), some (vI a2), some (vI a3), some (vI a4), some (vI a5), some (vI a6), some (vI a7), some (vI r5)] [] G6 h7 Q
      refine s_iload dX9_share_69 rfl ?_
      refine s_istore_n dX9_share_71 rfl (by decide) rfl ?_
      show S l MX9_share (d + 1, 0, 0, 0, 0) 72 [some (vR a0), some (vI r5), some (vI a5), some (vI a3), some (vI a4), some (vI a5), some (vI a6), some (vI a7), some (vI r5)] [] G6 h7 Q
      refine s_iload dX9_share_72 rfl ?_
      refine s_istore_n dX9_share_74 rfl (by decide) rfl ?_
      show S l MX9_share (d + 1, 0, 0, 0, 0) 75 [some (vR a0), some (vI r5), some (vI a5), some (vI a6), some (vI a4), some (vI a5), some (vI a6), some (vI a7), some (vI r5)] [] G6 h7 Q
      refine s_iload dX9_share_75 rfl ?_
      refine s_istore dX9_share_77 (by decide) rfl ?_
      show S l MX9_share (d + 1, 0, 0, 0, 0) 79 [some (vR a0), some (vI r5), some (vI a5), some (vI a6), some (vI a7), some (vI a5), some (vI a6), some (vI a7), some (vI r5)] [] G6 h7 Q
      refine s_iinc dX9_share_79 rfl (by decide) rfl ?_
      show S l MX9_share (d + 1, 0, 0, 0, 0) 82 [some (vR a0), some (vI r5), some (vI a5), some (vI a6), some (vI a7), some (vI a5), some (vI a6), some (vI (a7 + 1)), some (vI r5)] [] G6 h7 Q
      refine s_goto (tgt := 39) dX9_share_82 (by decide) ?_
      exact S_cut (by first | exact ⟨rfl, ⟨rfl, ⟨rfl, ⟨rfl, ⟨rfl, ⟨rfl, ⟨rfl, ⟨rfl, trivial⟩⟩⟩⟩⟩⟩⟩⟩ | simp [lsub]) H
set_option maxHeartbeats 4000000 in
set_option maxRecDepth 100000 in
theorem vX9_rowsWith_0 {l : Launch} {d : Nat} {G : GS} {h : HP} {Q : Int → GS → HP → Prop} (a0 a1 a2 a3 : Int) (H : S l MX9_rowsWith (d + 1, 0, 0, 0, 0) 6 [some (vR a0), some (vI a1), some (vI a2), some (vI a3), some (vI 0), some (vI 0)] [] G h Q) : S l MX9_rowsWith (d + 1, 0, 0, 0, 0) 0 [some (vR a0), some (vI a1), some (vI a2), some (vI a3), none, none] [] G h Q := by
  refine s_iconst dX9_rowsWith_0 ?_
  refine s_istore dX9_rowsWith_1 (by decide) rfl ?_
  show S l MX9_rowsWith (d + 1, 0, 0, 0, 0) 3 [some (vR a0), some (vI a1), some (vI a2), some (vI a3), some (vI 0), none] [] G h Q
  refine s_iconst dX9_rowsWith_3 ?_
  refine s_istore dX9_rowsWith_4 (by decide) rfl ?_
  show S l MX9_rowsWith (d + 1, 0, 0, 0, 0) 6 [some (vR a0), some (vI a1), some (vI a2), some (vI a3), some (vI 0), some (vI 0)] [] G h Q
  exact S_cut (by first | exact ⟨rfl, ⟨rfl, ⟨rfl, ⟨rfl, ⟨rfl, ⟨rfl, trivial⟩⟩⟩⟩⟩⟩ | simp [lsub]) H
set_option maxHeartbeats 4000000 in
set_option maxRecDepth 100000 in
theorem vX9_rowsWith_6 {l : Launch} {d : Nat} {G : GS} {h : HP} {Q : Int → GS → HP → Prop} (a0 a1 a2 a3 a4 a5 : Int) (H : (ty G a0 = 9) ∧ (inR a5) ∧ (inR (h a0 4)) ∧ (((h a0 4) ≤ a5 → Q a4 G h) ∧ (a5 < (h a0 4) → R l MX9_hasBoth d 0 0 [vR a0, vI a5, vI a1, vI a2, vI a3] G h (fun r5 G6 h7 => (inR r5) ∧ ((r5 = 0 → S l MX9_rowsWith (d + 1, 0, 0, 0, 0) 6 [some (vR a0), some (vI a1), some (vI a2), some (vI a3), some (vI (a4 + 0)), some (vI (a5 + 1))] [] G6 h7 Q) ∧ (r5 ≠ 0 → S l MX9_rowsWith (d + 1, 0, 0, 0, 0) 6 [some (vR a0), some (vI a1), some (vI a2), some (vI a3), some (vI (a4 + 1)), some (vI (a5 + 1))] [] G6 h7 Q)))))) : S l MX9_rowsWith (d + 1, 0, 0, 0, 0) 6 [some (vR a0), some (vI a1), some (vI a2), some (vI a3), some (vI a4), some (vI a5)] [] G h Q := by
  refine s_iload dX9_rowsWith_6 rfl ?_
  refine s_aload_n dX9_rowsWith_8 rfl rfl ?_
  have f1 := H.1
  replace H := H.2
  refine s_getf (c := 9) (k := 4) (t := 0) (j := 4) dX9_rowsWith_9 fl_X9_85 (by decide) (by decide) rfl rfl f1 ?_
  have f2 := H.1
  replace H := H.2
  have f3 := H.1
  replace H := H.2
  refine s_icmp_ge (tgt := 43) dX9_rowsWith_12 (by decide) f2 f3 (fun c4 => ?_) (fun c4 => ?_)
  · replace H := H.1 c4
    refine s_iload dX9_rowsWith_43 rfl ?_
    exact s_iret dX9_rowsWith_45 rfl ⟨Nat.le_refl _, Nat.le_refl _⟩ H
  · replace H := H.2 c4
    refine s_iload dX9_rowsWith_15 rfl ?_
    refine s_aload_n dX9_rowsWith_17 rfl rfl ?_
    refine s_iload dX9_rowsWith_18 rfl ?_
    refine s_iload_n dX9_rowsWith_20 rfl rfl ?_
    refine s_iload_n dX9_rowsWith_21 rfl rfl ?_
    refine s_iload_n dX9_rowsWith_22 rfl rfl ?_
    refine s_callV (M' := MX9_hasBoth) (As := [vI a5, vI a1, vI a2, vI a3]) (a := a0) (st := [vI a4]) dX9_rowsWith_23 ml_X9_241 cv_X9_hasBoth rfl rfl (Nat.le_of_ble_eq_true rfl) ⟨Nat.le_refl _, Nat.le_refl _⟩ f1 (R_mono (fun r5 G6 h7 H => ?_) H)
    show S l MX9_rowsWith (d + 1, 0, 0, 0, 0) 26 [some (vR a0), some (vI a1), some (vI a2), some (vI a3), some (vI a4), some (vI a5)] [vI r5, vI a4] G6 h7 Q
    have f8 := H.1
    replace H := H.2
    refine s_if_eq (tgt := 33) dX9_rowsWith_26 (by decide) f8 (fun c9 => ?_) (fun c9 => ?_)
    · replace H := H.1 c9
      refine s_iconst dX9_rowsWith_33 ?_
      refine s_iadd dX9_rowsWith_34 ?_
      refine s_istore dX9_rowsWith_35 (by decide) rfl ?_
      show S l MX9_rowsWith (d + 1, 0, 0, 0, 0) 37 [some (vR a0), some (vI a1), some (vI a2), some (vI a3), some (vI (a4 + 0)), some (vI a5)] [] G6 h7 Q
      refine s_iinc dX9_rowsWith_37 rfl (by decide) rfl ?_
      show S l MX9_rowsWith (d + 1, 0, 0, 0, 0) 40 [some (vR a0), some (vI a1), some (vI a2), some (vI a3), some (vI (a4 + 0)), some (vI (a5 + 1))] [] G6 h7 Q
      refine s_goto (tgt := 6) dX9_rowsWith_40 (by decide) ?_
      exact S_cut (by first | exact ⟨rfl, ⟨rfl, ⟨rfl, ⟨rfl, ⟨rfl, ⟨rfl, trivial⟩⟩⟩⟩⟩⟩ | simp [lsub]) H
    · replace H := H.2 c9
      refine s_iconst dX9_rowsWith_29 ?_
      refine s_goto (tgt := 34) dX9_rowsWith_30 (by decide) ?_
      refine s_iadd dX9_rowsWith_34 ?_
      refine s_istore dX9_rowsWith_35 (by decide) rfl ?_
      show S l MX9_rowsWith (d + 1, 0, 0, 0, 0) 37 [some (vR a0), some (vI a1), some (vI a2), some (vI a3), some (vI (a4 + 1)), some (vI a5)] [] G6 h7 Q
      refine s_iinc dX9_rowsWith_37 rfl (by decide) rfl ?_
      show S l MX9_rowsWith (d + 1, 0, 0, 0, 0) 40 [some (vR a0), some (vI a1), some (vI a2), some (vI a3), some (vI (a4 + 1)), some (vI (a5 + 1))] [] G6 h7 Q
      refine s_goto (tgt := 6) dX9_rowsWith_40 (by decide) ?_
      exact S_cut (by first | exact ⟨rfl, ⟨rfl, ⟨rfl, ⟨rfl, ⟨rfl, ⟨rfl, trivial⟩⟩⟩⟩⟩⟩ | simp [lsub]) H
set_option maxHeartbeats 4000000 in
set_option maxRecDepth 100000 in
theorem vX9_hasBoth_0 {l : Launch} {d : Nat} {G : GS} {h : HP} {Q : Int → GS → HP → Prop} (a0 a1 a2 a3 a4 : Int) (H : (ty G a0 = 9) ∧ (inA G 10 (h a0 26) ((49 * a1) + a2)) ∧ (inR (h (h a0 26) ((49 * a1) + a2))) ∧ (((h (h a0 26) ((49 * a1) + a2)) = 0 → Q 0 G h) ∧ ((h (h a0 26) ((49 * a1) + a2)) ≠ 0 → (inA G 10 (h a0 26) ((49 * a1) + a3)) ∧ (dvR (a4 * (h (h a0 26) ((49 * a1) + a2))) (h a0 0)) ∧ (inR (h (h a0 26) ((49 * a1) + a3))) ∧ (inR ((a4 * (h (h a0 26) ((49 * a1) + a2))) % (h a0 0))) ∧ (((h (h a0 26) ((49 * a1) + a3)) ≠ ((a4 * (h (h a0 26) ((49 * a1) + a2))) % (h a0 0)) → Q 0 G h) ∧ ((h (h a0 26) ((49 * a1) + a3)) = ((a4 * (h (h a0 26) ((49 * a1) + a2))) % (h a0 0)) → Q 1 G h))))) : S l MX9_hasBoth (d, 0, 0, 0, 0) 0 [some (vR a0), some (vI a1), some (vI a2), some (vI a3), some (vI a4), none] [] G h Q := by
  refine s_aload_n dX9_hasBoth_0 rfl rfl ?_
  have f1 := H.1
  replace H := H.2
  refine s_getf (c := 9) (k := 26) (t := 2) (j := 26) dX9_hasBoth_1 fl_X9_78 (by decide) (by decide) rfl rfl f1 ?_
  refine s_bipush dX9_hasBoth_4 (by decide) ?_
  refine s_iload_n dX9_hasBoth_6 rfl rfl ?_
  refine s_imul dX9_hasBoth_7 ?_
  refine s_iload_n dX9_hasBoth_8 rfl rfl ?_
  refine s_iadd dX9_hasBoth_9 ?_
  have f2 := H.1
  replace H := H.2
  refine s_iald dX9_hasBoth_10 f2 ?_
  refine s_istore dX9_hasBoth_11 (by decide) rfl ?_
  show S l MX9_hasBoth (d, 0, 0, 0, 0) 13 [some (vR a0), some (vI a1), some (vI a2), some (vI a3), some (vI a4), some (vI (h (h a0 26) ((49 * a1) + a2)))] [] G h Q
  refine s_iload dX9_hasBoth_13 rfl ?_
  have f3 := H.1
  replace H := H.2
  refine s_if_eq (tgt := 46) dX9_hasBoth_15 (by decide) f3 (fun c4 => ?_) (fun c4 => ?_)
  · replace H := H.1 c4
    refine s_iconst dX9_hasBoth_46 ?_
    exact s_zret dX9_hasBoth_47 rfl ⟨Nat.le_refl _, Nat.le_refl _⟩ (by decide) H
  · replace H := H.2 c4
    refine s_aload_n dX9_hasBoth_18 rfl rfl ?_
    refine s_getf (c := 9) (k := 26) (t := 2) (j := 26) dX9_hasBoth_19 fl_X9_78 (by decide) (by decide) rfl rfl f1 ?_
    refine s_bipush dX9_hasBoth_22 (by decide) ?_
    refine s_iload_n dX9_hasBoth_24 rfl rfl ?_
    refine s_imul dX9_hasBoth_25 ?_
    refine s_iload_n dX9_hasBoth_26 rfl rfl ?_
    refine s_iadd dX9_hasBoth_27 ?_
    have f5 := H.1
    replace H := H.2
    refine s_iald dX9_hasBoth_28 f5 ?_
    refine s_iload dX9_hasBoth_29 rfl ?_
    refine s_iload dX9_hasBoth_31 rfl ?_
    refine s_imul dX9_hasBoth_33 ?_
    refine s_aload_n dX9_hasBoth_34 rfl rfl ?_
    refine s_getf (c := 9) (k := 0) (t := 0) (j := 0) dX9_hasBoth_35 fl_X9_7 (by decide) (by decide) rfl rfl f1 ?_
    have f6 := H.1
    replace H := H.2
    refine s_irem dX9_hasBoth_38 f6 ?_
    have f7 := H.1
    replace H := H.2
    have f8 := H.1
    replace H := H.2
    refine s_icmp_ne (tgt := 46) dX9_hasBoth_39 (by decide) f7 f8 (fun c9 => ?_) (fun c9 => ?_)
    · replace H := H.1 c9
      refine s_iconst dX9_hasBoth_46 ?_
      exact s_zret dX9_hasBoth_47 rfl ⟨Nat.le_refl _, Nat.le_refl _⟩ (by decide) H
    · replace H := H.2 c9
      refine s_iconst dX9_hasBoth_42 ?_
      refine s_goto (tgt := 47) dX9_hasBoth_43 (by decide) ?_
      exact s_zret dX9_hasBoth_47 rfl ⟨Nat.le_refl _, Nat.le_refl _⟩ (by decide) H
set_option maxHeartbeats 4000000 in
set_option maxRecDepth 100000 in
theorem vX9_plainSums_0 {l : Launch} {d : Nat} {G : GS} {h : HP} {Q : Int → GS → HP → Prop} (a0 a1 : Int) (H : S l MX9_plainSums (d, 0, 0, 0, 0) 4 [some (vR a0), some (vI a1), some (vI 0), some (vI 0), none, none] [] G h Q) : S l MX9_plainSums (d, 0, 0, 0, 0) 0 [some (vR a0), some (vI a1), none, none, none, none] [] G h Q := by
  refine s_iconst dX9_plainSums_0 ?_
  refine s_istore_n dX9_plainSums_1 rfl (by decide) rfl ?_
  show S l MX9_plainSums (d, 0, 0, 0, 0) 2 [some (vR a0), some (vI a1), some (vI 0), none, none, none] [] G h Q
  refine s_iconst dX9_plainSums_2 ?_
  refine s_istore_n dX9_plainSums_3 rfl (by decide) rfl ?_
  show S l MX9_plainSums (d, 0, 0, 0, 0) 4 [some (vR a0), some (vI a1), some (vI 0), some (vI 0), none, none] [] G h Q
  exact S_cut (by first | exact ⟨rfl, ⟨rfl, ⟨rfl, ⟨rfl, trivial⟩⟩⟩⟩ | simp [lsub]) H
set_option maxHeartbeats 4000000 in
set_option maxRecDepth 100000 in
theorem vX9_plainSums_4 {l : Launch} {d : Nat} {G : GS} {h : HP} {Q : Int → GS → HP → Prop} (a0 a1 a2 a3 : Int) (H : (ty G a0 = 9) ∧ (inR a3) ∧ (inR (h a0 4)) ∧ (((h a0 4) ≤ a3 → Q a2 G h) ∧ (a3 < (h a0 4) → S l MX9_plainSums (d, 0, 0, 0, 0) 18 [some (vR a0), some (vI a1), some (vI a2), some (vI a3), some (vI 0), some (vI 0)] [] G h Q))) : S l MX9_plainSums (d, 0, 0, 0, 0) 4 [some (vR a0), some (vI a1), some (vI a2), some (vI a3), none, none] [] G h Q := by
  refine s_iload_n dX9_plainSums_4 rfl rfl ?_
  refine s_aload_n dX9_plainSums_5 rfl rfl ?_
  have f1 := H.1
  replace H := H.2
  refine s_getf (c := 9) (k := 4) (t := 0) (j := 4) dX9_plainSums_6 fl_X9_85 (by decide) (by decide) rfl rfl f1 ?_
  have f2 := H.1
  replace H := H.2
  have f3 := H.1
  replace H := H.2
  refine s_icmp_ge (tgt := 77) dX9_plainSums_9 (by decide) f2 f3 (fun c4 => ?_) (fun c4 => ?_)
  · replace H := H.1 c4
    refine s_iload_n dX9_plainSums_77 rfl rfl ?_
    exact s_iret dX9_plainSums_78 rfl ⟨Nat.le_refl _, Nat.le_refl _⟩ H
  · replace H := H.2 c4
    refine s_iconst dX9_plainSums_12 ?_
    refine s_istore dX9_plainSums_13 (by decide) rfl ?_
    show S l MX9_plainSums (d, 0, 0, 0, 0) 15 [some (vR a0), some (vI a1), some (vI a2), some (vI a3), some (vI 0), none] [] G h Q
    refine s_iconst dX9_plainSums_15 ?_
    refine s_istore dX9_plainSums_16 (by decide) rfl ?_
    show S l MX9_plainSums (d, 0, 0, 0, 0) 18 [some (vR a0), some (vI a1), some (vI a2), some (vI a3), some (vI 0), some (vI 0)] [] G h Q
    exact S_cut (by first | exact ⟨rfl, ⟨rfl, ⟨rfl, ⟨rfl, ⟨rfl, ⟨rfl, trivial⟩⟩⟩⟩⟩⟩ | simp [lsub]) H
set_option maxHeartbeats 4000000 in
set_option maxRecDepth 100000 in
theorem vX9_plainSums_18 {l : Launch} {d : Nat} {G : GS} {h : HP} {Q : Int → GS → HP → Prop} (a0 a1 a2 a3 a4 a5 : Int) (H : (inR a5) ∧ (inR a1) ∧ ((a1 ≤ a5 → (inR a4) ∧ ((a4 ≤ 0 → S l MX9_plainSums (d, 0, 0, 0, 0) 4 [some (vR a0), some (vI a1), some (vI (a2 + 0)), some (vI (a3 + 1)), none, none] [] G h Q) ∧ (0 < a4 → S l MX9_plainSums (d, 0, 0, 0, 0) 4 [some (vR a0), some (vI a1), some (vI (a2 + (a4 - 1))), some (vI (a3 + 1)), none, none] [] G h Q))) ∧ (a5 < a1 → (ty G a0 = 9) ∧ (inA G 10 (h a0 26) ((49 * a3) + a5)) ∧ (inR (h (h a0 26) ((49 * a3) + a5))) ∧ (((h (h a0 26) ((49 * a3) + a5)) = 0 → S l MX9_plainSums (d, 0, 0, 0, 0) 18 [some (vR a0), some (vI a1), some (vI a2), some (vI a3), some (vI (a4 + 0)), some (vI (a5 + 1))] [] G h Q) ∧ ((h (h a0 26) ((49 * a3) + a5)) ≠ 0 → S l MX9_plainSums (d, 0, 0, 0, 0) 18 [some (vR a0), some (vI a1), some (vI a2), some (vI a3), some (vI (a4 + 1)), some (vI (a5 + 1))] [] G h Q))))) : S l MX9_plainSums (d, 0, 0, 0, 0) 18 [some (vR a0), some (vI a1), some (vI a2), some (vI a3), some (vI a4), some (vI a5)] [] G h Q := by
  refine s_iload dX9_plainSums_18 rfl ?_
  refine s_iload_n dX9_plainSums_20 rfl rfl ?_
  have f1 := H.1
  replace H := H.2
  have f2 := H.1
  replace H := H.2
  refine s_icmp_ge (tgt := 55) dX9_plainSums_21 (by decide) f1 f2 (fun c3 => ?_) (fun c3 => ?_)
  · replace H := H.1 c3
    refine s_iload_n dX9_plainSums_55 rfl rfl ?_
    refine s_iload dX9_plainSums_56 rfl ?_
    have f4 := H.1
    replace H := H.2
    refine s_if_le (tgt := 68) dX9_plainSums_58 (by decide) f4 (fun c5 => ?_) (fun c5 => ?_)
    · replace H := H.1 c5
      refine s_iconst dX9_plainSums_68 ?_
      refine s_iadd dX9_plainSums_69 ?_
      refine s_istore_n dX9_plainSums_70 rfl (by decide) rfl ?_
      show S l MX9_plainSums (d, 0, 0, 0, 0) 71 [some (vR a0), some (vI a1), some (vI (a2 + 0)), some (vI a3), some (vI a4), some (vI a5)] [] G h Q
      refine s_iinc dX9_plainSums_71 rfl (by decide) rfl ?_
      show S l MX9_plainSums (d, 0, 0, 0, 0) 74 [some (vR a0), some (vI a1), some (vI (a2 + 0)), some (vI (a3 + 1)), some (vI a4), some (vI a5)] [] G h Q
      refine s_goto (tgt := 4) dX9_plainSums_74 (by decide) ?_
      exact S_cut (by first | exact ⟨rfl, ⟨rfl, ⟨rfl, ⟨rfl, trivial⟩⟩⟩⟩ | simp [lsub]) H
    · replace H := H.2 c5
      refine s_iload dX9_plainSums_61 rfl ?_
      refine s_iconst dX9_plainSums_63 ?_
      refine s_isub dX9_plainSums_64 ?_
      refine s_goto (tgt := 69) dX9_plainSums_65 (by decide) ?_
      refine s_iadd dX9_plainSums_69 ?_
      refine s_istore_n dX9_plainSums_70 rfl (by decide) rfl ?_
      show S l MX9_plainSums (d, 0, 0, 0, 0) 71 [some (vR a0), some (vI a1), some (vI (a2 + (a4 - 1))), some (vI a3), some (vI a4), some (vI a5)] [] G h Q
      refine s_iinc dX9_plainSums_71 rfl (by decide) rfl ?_
      show S l MX9_plainSums (d, 0, 0, 0, 0) 74 [some (vR a0), some (vI a1), some (vI (a2 + (a4 - 1))), some (vI (a3 + 1)), some (vI a4), some (vI a5)] [] G h Q
      refine s_goto (tgt := 4) dX9_plainSums_74 (by decide) ?_
      exact S_cut (by first | exact ⟨rfl, ⟨rfl, ⟨rfl, ⟨rfl, trivial⟩⟩⟩⟩ | simp [lsub]) H
  · replace H := H.2 c3
    refine s_iload dX9_plainSums_24 rfl ?_
    refine s_aload_n dX9_plainSums_26 rfl rfl ?_
    have f6 := H.1
    replace H := H.2
    refine s_getf (c := 9) (k := 26) (t := 2) (j := 26) dX9_plainSums_27 fl_X9_78 (by decide) (by decide) rfl rfl f6 ?_
    refine s_bipush dX9_plainSums_30 (by decide) ?_
    refine s_iload_n dX9_plainSums_32 rfl rfl ?_
    refine s_imul dX9_plainSums_33 ?_
    refine s_iload dX9_plainSums_34 rfl ?_
    refine s_iadd dX9_plainSums_36 ?_
    have f7 := H.1
    replace H := H.2
    refine s_iald dX9_plainSums_37 f7 ?_
    have f8 := H.1
    replace H := H.2
    refine s_if_eq (tgt := 45) dX9_plainSums_38 (by decide) f8 (fun c9 => ?_) (fun c9 => ?_)
    · replace H := H.1 c9
      refine s_iconst dX9_plainSums_45 ?_
      refine s_iadd dX9_plainSums_46 ?_
      refine s_istore dX9_plainSums_47 (by decide) rfl ?_
      show S l MX9_plainSums (d, 0, 0, 0, 0) 49 [some (vR a0), some (vI a1), some (vI a2), some (vI a3), some (vI (a4 + 0)), some (vI a5)] [] G h Q
      refine s_iinc dX9_plainSums_49 rfl (by decide) rfl ?_
      show S l MX9_plainSums (d, 0, 0, 0, 0) 52 [some (vR a0), some (vI a1), some (vI a2), some (vI a3), some (vI (a4 + 0)), some (vI (a5 + 1))] [] G h Q
      refine s_goto (tgt := 18) dX9_plainSums_52 (by decide) ?_
      exact S_cut (by first | exact ⟨rfl, ⟨rfl, ⟨rfl, ⟨rfl, ⟨rfl, ⟨rfl, trivial⟩⟩⟩⟩⟩⟩ | simp [lsub]) H
    · replace H := H.2 c9
      refine s_iconst dX9_plainSums_41 ?_
      refine s_goto (tgt := 46) dX9_plainSums_42 (by decide) ?_
      refine s_iadd dX9_plainSums_46 ?_
      refine s_istore dX9_plainSums_47 (by decide) rfl ?_
      show S l MX9_plainSums (d, 0, 0, 0, 0) 49 [some (vR a0), some (vI a1), some (vI a2), some (vI a3), some (vI (a4 + 1)), some (vI a5)] [] G h Q
      refine s_iinc dX9_plainSums_49 rfl (by decide) rfl ?_
      show S l MX9_plainSums (d, 0, 0, 0, 0) 52 [some (vR a0), some (vI a1), some (vI a2), some (vI a3), some (vI (a4 + 1)), some (vI (a5 + 1))] [] G h Q
      refine s_goto (tgt := 18) dX9_plainSums_52 (by decide) ?_
      exact S_cut (by first | exact ⟨rfl, ⟨rfl, ⟨rfl, ⟨rfl, ⟨rfl, ⟨rfl, trivial⟩⟩⟩⟩⟩⟩ | simp [lsub]) H
set_option maxHeartbeats 4000000 in
set_option maxRecDepth 100000 in
theorem vX9_keep_0 {l : Launch} {d : Nat} {G : GS} {h : HP} {Q : Int → GS → HP → Prop} (a0 a1 : Int) (H : R l MX9_isKeep d 0 0 [vI a1] G h (fun r1 G2 h3 => (inR r1) ∧ ((r1 ≠ 0 → (ty G2 a0 = 9) ∧ (inA G2 11 (h3 a0 6) a1) ∧ ∀ h8 : HP, h8 = hset h3 (h3 a0 6) a1 1 → (inA G2 10 (h8 a0 10) a1) ∧ ∀ h10 : HP, h10 = hset h8 (h8 a0 10) a1 (h8 a0 4) → S l MX9_keep (d + 1, 0, 0, 0, 0) 28 [some (vR a0), some (vI a1), some (vI 0)] [] G2 h10 Q) ∧ (r1 = 0 → Q ((-1)) G2 h3)))) : S l MX9_keep (d + 1, 0, 0, 0, 0) 0 [some (vR a0), some (vI a1), none] [] G h Q := by
  refine s_iload_n dX9_keep_0 rfl rfl ?_
  refine s_callS (M' := MX9_isKeep) (As := [vI a1]) (st := []) dX9_keep_1 ml_X9_257 cs_X9_isKeep rfl rfl (Nat.le_of_ble_eq_true rfl) ⟨Nat.le_refl _, Nat.le_refl _⟩ (R_mono (fun r1 G2 h3 H => ?_) H)
  show S l MX9_keep (d + 1, 0, 0, 0, 0) 4 [some (vR a0), some (vI a1), none] [vI r1] G2 h3 Q
  have f4 := H.1
  replace H := H.2
  refine s_if_ne (tgt := 9) dX9_keep_4 (by decide) f4 (fun c5 => ?_) (fun c5 => ?_)
  · replace H := H.1 c5
    refine s_aload_n dX9_keep_9 rfl rfl ?_
    have f6 := H.1
    replace H := H.2
    refine s_getf (c := 9) (k := 6) (t := 2) (j := 6) dX9_keep_10 fl_X9_26 (by decide) (by decide) rfl rfl f6 ?_
    refine s_iload_n dX9_keep_13 rfl rfl ?_
    refine s_iconst dX9_keep_14 ?_
    have f7 := H.1
    replace H := H.2
    refine s_zastH dX9_keep_15 (by decide) f7 (fun h8 eh8 => ?_)
    replace H := H h8 eh8
    refine s_aload_n dX9_keep_16 rfl rfl ?_
    refine s_getf (c := 9) (k := 10) (t := 2) (j := 10) dX9_keep_17 fl_X9_39 (by decide) (by decide) rfl rfl f6 ?_
    refine s_iload_n dX9_keep_20 rfl rfl ?_
    refine s_aload_n dX9_keep_21 rfl rfl ?_
    refine s_getf (c := 9) (k := 4) (t := 0) (j := 4) dX9_keep_22 fl_X9_85 (by decide) (by decide) rfl rfl f6 ?_
    have f9 := H.1
    replace H := H.2
    refine s_iastH dX9_keep_25 f9 (fun h10 eh10 => ?_)
    replace H := H h10 eh10
    refine s_iconst dX9_keep_26 ?_
    refine s_istore_n dX9_keep_27 rfl (by decide) rfl ?_
    show S l MX9_keep (d + 1, 0, 0, 0, 0) 28 [some (vR a0), some (vI a1), some (vI 0)] [] G2 h10 Q
    exact S_cut (by first | exact ⟨rfl, ⟨rfl, ⟨rfl, trivial⟩⟩⟩ | simp [lsub]) H
  · replace H := H.2 c5
    refine s_iconst dX9_keep_7 ?_
    exact s_iret dX9_keep_8 rfl ⟨Nat.le_refl _, Nat.le_refl _⟩ H
set_option maxHeartbeats 4000000 in
set_option maxRecDepth 100000 in
theorem vX9_keep_28 {l : Launch} {d : Nat} {G : GS} {h : HP} {Q : Int → GS → HP → Prop} (a0 a1 a2 : Int) (H : (inR a2) ∧ ((3 ≤ a2 → S l MX9_keep (d + 1, 0, 0, 0, 0) 57 [some (vR a0), some (vI a1), some (vI 0)] [] G h Q) ∧ (a2 < 3 → (ty G a0 = 9) ∧ (inA G 10 (h a0 1) a2) ∧ (inA G 10 (h a0 7) ((3 * a1) + a2)) ∧ ∀ h6 : HP, h6 = hset h (h a0 7) ((3 * a1) + a2) (h (h a0 1) a2) → S l MX9_keep (d + 1, 0, 0, 0, 0) 28 [some (vR a0), some (vI a1), some (vI (a2 + 1))] [] G h6 Q))) : S l MX9_keep (d + 1, 0, 0, 0, 0) 28 [some (vR a0), some (vI a1), some (vI a2)] [] G h Q := by
  refine s_iload_n dX9_keep_28 rfl rfl ?_
  refine s_iconst dX9_keep_29 ?_
  have f1 := H.1
  replace H := H.2
  refine s_icmp_ge (tgt := 55) dX9_keep_30 (by decide) f1 (by decide) (fun c2 => ?_) (fun c2 => ?_)
  · replace H := H.1 c2
    refine s_iconst dX9_keep_55 ?_
    refine s_istore_n dX9_keep_56 rfl (by decide) rfl ?_
    show S l MX9_keep (d + 1, 0, 0, 0, 0) 57 [some (vR a0), some (vI a1), some (vI 0)] [] G h Q
    exact S_cut (by first | exact ⟨rfl, ⟨rfl, ⟨rfl, trivial⟩⟩⟩ | simp [lsub]) H
  · replace H := H.2 c2
    refine s_aload_n dX9_keep_33 rfl rfl ?_
    have f3 := H.1
    replace H := H.2
    refine s_getf (c := 9) (k := 7) (t := 2) (j := 7) dX9_keep_34 fl_X9_30 (by decide) (by decide) rfl rfl f3 ?_
    refine s_iconst dX9_keep_37 ?_
    refine s_iload_n dX9_keep_38 rfl rfl ?_
    refine s_imul dX9_keep_39 ?_
    refine s_iload_n dX9_keep_40 rfl rfl ?_
    refine s_iadd dX9_keep_41 ?_
    refine s_aload_n dX9_keep_42 rfl rfl ?_
    refine s_getf (c := 9) (k := 1) (t := 2) (j := 1) dX9_keep_43 fl_X9_13 (by decide) (by decide) rfl rfl f3 ?_
    refine s_iload_n dX9_keep_46 rfl rfl ?_
    have f4 := H.1
    replace H := H.2
    refine s_iald dX9_keep_47 f4 ?_
    have f5 := H.1
    replace H := H.2
    refine s_iastH dX9_keep_48 f5 (fun h6 eh6 => ?_)
    replace H := H h6 eh6
    refine s_iinc dX9_keep_49 rfl (by decide) rfl ?_
    show S l MX9_keep (d + 1, 0, 0, 0, 0) 52 [some (vR a0), some (vI a1), some (vI (a2 + 1))] [] G h6 Q
    refine s_goto (tgt := 28) dX9_keep_52 (by decide) ?_
    exact S_cut (by first | exact ⟨rfl, ⟨rfl, ⟨rfl, trivial⟩⟩⟩ | simp [lsub]) H
set_option maxHeartbeats 4000000 in
set_option maxRecDepth 100000 in
theorem vX9_keep_57 {l : Launch} {d : Nat} {G : GS} {h : HP} {Q : Int → GS → HP → Prop} (a0 a1 a2 : Int) (H : (inR a2) ∧ ((729 ≤ a2 → S l MX9_keep (d + 1, 0, 0, 0, 0) 90 [some (vR a0), some (vI a1), some (vI 0)] [] G h Q) ∧ (a2 < 729 → (ty G a0 = 9) ∧ (inA G 10 (h a0 2) a2) ∧ (inA G 10 (h a0 8) ((729 * a1) + a2)) ∧ ∀ h6 : HP, h6 = hset h (h a0 8) ((729 * a1) + a2) (h (h a0 2) a2) → S l MX9_keep (d + 1, 0, 0, 0, 0) 57 [some (vR a0), some (vI a1), some (vI (a2 + 1))] [] G h6 Q))) : S l MX9_keep (d + 1, 0, 0, 0, 0) 57 [some (vR a0), some (vI a1), some (vI a2)] [] G h Q := by
  refine s_iload_n dX9_keep_57 rfl rfl ?_
  refine s_sipush dX9_keep_58 (by decide) ?_
  have f1 := H.1
  replace H := H.2
  refine s_icmp_ge (tgt := 88) dX9_keep_61 (by decide) f1 (by decide) (fun c2 => ?_) (fun c2 => ?_)
  · replace H := H.1 c2
    refine s_iconst dX9_keep_88 ?_
    refine s_istore_n dX9_keep_89 rfl (by decide) rfl ?_
    show S l MX9_keep (d + 1, 0, 0, 0, 0) 90 [some (vR a0), some (vI a1), some (vI 0)] [] G h Q
    exact S_cut (by first | exact ⟨rfl, ⟨rfl, ⟨rfl, trivial⟩⟩⟩ | simp [lsub]) H
  · replace H := H.2 c2
    refine s_aload_n dX9_keep_64 rfl rfl ?_
    have f3 := H.1
    replace H := H.2
    refine s_getf (c := 9) (k := 8) (t := 2) (j := 8) dX9_keep_65 fl_X9_33 (by decide) (by decide) rfl rfl f3 ?_
    refine s_sipush dX9_keep_68 (by decide) ?_
    refine s_iload_n dX9_keep_71 rfl rfl ?_
    refine s_imul dX9_keep_72 ?_
    refine s_iload_n dX9_keep_73 rfl rfl ?_
    refine s_iadd dX9_keep_74 ?_
    refine s_aload_n dX9_keep_75 rfl rfl ?_
    refine s_getf (c := 9) (k := 2) (t := 2) (j := 2) dX9_keep_76 fl_X9_17 (by decide) (by decide) rfl rfl f3 ?_
    refine s_iload_n dX9_keep_79 rfl rfl ?_
    have f4 := H.1
    replace H := H.2
    refine s_iald dX9_keep_80 f4 ?_
    have f5 := H.1
    replace H := H.2
    refine s_iastH dX9_keep_81 f5 (fun h6 eh6 => ?_)
    replace H := H h6 eh6
    refine s_iinc dX9_keep_82 rfl (by decide) rfl ?_
    show S l MX9_keep (d + 1, 0, 0, 0, 0) 85 [some (vR a0), some (vI a1), some (vI (a2 + 1))] [] G h6 Q
    refine s_goto (tgt := 57) dX9_keep_85 (by decide) ?_
    exact S_cut (by first | exact ⟨rfl, ⟨rfl, ⟨rfl, trivial⟩⟩⟩ | simp [lsub]) H
set_option maxHeartbeats 4000000 in
set_option maxRecDepth 100000 in
theorem vX9_keep_90 {l : Launch} {d : Nat} {G : GS} {h : HP} {Q : Int → GS → HP → Prop} (a0 a1 a2 : Int) (H : (ty G a0 = 9) ∧ (inR a2) ∧ (inR (27 * (h a0 4))) ∧ (((27 * (h a0 4)) ≤ a2 → Q 1 G h) ∧ (a2 < (27 * (h a0 4)) → (inA G 10 (h a0 3) a2) ∧ (inA G 10 (h a0 9) ((1080 * a1) + a2)) ∧ ∀ h7 : HP, h7 = hset h (h a0 9) ((1080 * a1) + a2) (h (h a0 3) a2) → S l MX9_keep (d + 1, 0, 0, 0, 0) 90 [some (vR a0), some (vI a1), some (vI (a2 + 1))] [] G h7 Q))) : S l MX9_keep (d + 1, 0, 0, 0, 0) 90 [some (vR a0), some (vI a1), some (vI a2)] [] G h Q := by
  refine s_iload_n dX9_keep_90 rfl rfl ?_
  refine s_bipush dX9_keep_91 (by decide) ?_
  refine s_aload_n dX9_keep_93 rfl rfl ?_
  have f1 := H.1
  replace H := H.2
  refine s_getf (c := 9) (k := 4) (t := 0) (j := 4) dX9_keep_94 fl_X9_85 (by decide) (by decide) rfl rfl f1 ?_
  refine s_imul dX9_keep_97 ?_
  have f2 := H.1
  replace H := H.2
  have f3 := H.1
  replace H := H.2
  refine s_icmp_ge (tgt := 125) dX9_keep_98 (by decide) f2 f3 (fun c4 => ?_) (fun c4 => ?_)
  · replace H := H.1 c4
    refine s_iconst dX9_keep_125 ?_
    exact s_iret dX9_keep_126 rfl ⟨Nat.le_refl _, Nat.le_refl _⟩ H
  · replace H := H.2 c4
    refine s_aload_n dX9_keep_101 rfl rfl ?_
    refine s_getf (c := 9) (k := 9) (t := 2) (j := 9) dX9_keep_102 fl_X9_36 (by decide) (by decide) rfl rfl f1 ?_
    refine s_sipush dX9_keep_105 (by decide) ?_
    refine s_iload_n dX9_keep_108 rfl rfl ?_
    refine s_imul dX9_keep_109 ?_
    refine s_iload_n dX9_keep_110 rfl rfl ?_
    refine s_iadd dX9_keep_111 ?_
    refine s_aload_n dX9_keep_112 rfl rfl ?_
    refine s_getf (c := 9) (k := 3) (t := 2) (j := 3) dX9_keep_113 fl_X9_20 (by decide) (by decide) rfl rfl f1 ?_
    refine s_iload_n dX9_keep_116 rfl rfl ?_
    have f5 := H.1
    replace H := H.2
    refine s_iald dX9_keep_117 f5 ?_
    have f6 := H.1
    replace H := H.2
    refine s_iastH dX9_keep_118 f6 (fun h7 eh7 => ?_)
    replace H := H h7 eh7
    refine s_iinc dX9_keep_119 rfl (by decide) rfl ?_
    show S l MX9_keep (d + 1, 0, 0, 0, 0) 122 [some (vR a0), some (vI a1), some (vI (a2 + 1))] [] G h7 Q
    refine s_goto (tgt := 90) dX9_keep_122 (by decide) ?_
    exact S_cut (by first | exact ⟨rfl, ⟨rfl, ⟨rfl, trivial⟩⟩⟩ | simp [lsub]) H
set_option maxHeartbeats 4000000 in
set_option maxRecDepth 100000 in
theorem vX9_isKeep_0 {l : Launch} {d : Nat} {G : GS} {h : HP} {Q : Int → GS → HP → Prop} (a0 : Int) (H : (inR a0) ∧ R l MX9_in d 0 0 [vL a0, vL 0, vL 3] G h (fun r2 G3 h4 => (r2 = 0 ∨ r2 = 1) ∧ Q r2 G3 h4)) : S l MX9_isKeep (d + 1, 0, 0, 0, 0) 0 [some (vI a0)] [] G h Q := by
  refine s_iload_n dX9_isKeep_0 rfl rfl ?_
  have f1 := H.1
  replace H := H.2
  refine s_i2l dX9_isKeep_1 f1 ?_
  refine s_lconst (v := 0) dX9_isKeep_2 rfl ?_
  refine s_ldc2 (v := 3) dX9_isKeep_3 kc_X9_188 ?_
  refine s_callS (M' := MX9_in) (As := [vL a0, vL 0, vL 3]) (st := []) dX9_isKeep_6 ml_X9_97 cs_X9_in rfl rfl (Nat.le_of_ble_eq_true rfl) ⟨Nat.le_refl _, Nat.le_refl _⟩ (R_mono (fun r2 G3 h4 H => ?_) H)
  show S l MX9_isKeep (d + 1, 0, 0, 0, 0) 9 [some (vI a0)] [vI r2] G3 h4 Q
  have f5 := H.1
  replace H := H.2
  exact s_zret dX9_isKeep_9 rfl ⟨Nat.le_refl _, Nat.le_refl _⟩ f5 H
set_option maxHeartbeats 4000000 in
set_option maxRecDepth 100000 in
theorem vX9_back_0 {l : Launch} {d : Nat} {G : GS} {h : HP} {Q : Int → GS → HP → Prop} (a0 a1 : Int) (H : R l MX9_isKeep d 0 0 [vI a1] G h (fun r1 G2 h3 => (inR r1) ∧ ((r1 ≠ 0 → (ty G2 a0 = 9) ∧ (inA G2 11 (h3 a0 6) a1) ∧ (inR (h3 (h3 a0 6) a1)) ∧ (((h3 (h3 a0 6) a1) ≠ 0 → (inA G2 10 (h3 a0 7) (3 * a1)) ∧ (inA G2 10 (h3 a0 7) ((3 * a1) + 1)) ∧ (inA G2 10 (h3 a0 7) ((3 * a1) + 2)) ∧ R l MX9_fresh d 0 0 [vR a0, vI (h3 (h3 a0 7) (3 * a1)), vI (h3 (h3 a0 7) ((3 * a1) + 1)), vI (h3 (h3 a0 7) ((3 * a1) + 2))] G2 h3 (fun r13 G14 h15 => (ty G14 a0 = 9) ∧ (inA G14 10 (h15 a0 10) a1) ∧ ∀ h18 : HP, h18 = hset h15 a0 4 (h15 (h15 a0 10) a1) → S l MX9_back (d + 1, 0, 0, 0, 0) 65 [some (vR a0), some (vI a1), some (vI 0)] [] G14 h18 Q)) ∧ ((h3 (h3 a0 6) a1) = 0 → Q ((-4)) G2 h3))) ∧ (r1 = 0 → Q ((-1)) G2 h3)))) : S l MX9_back (d + 1, 0, 0, 0, 0) 0 [some (vR a0), some (vI a1), none] [] G h Q := by
  refine s_iload_n dX9_back_0 rfl rfl ?_
  refine s_callS (M' := MX9_isKeep) (As := [vI a1]) (st := []) dX9_back_1 ml_X9_257 cs_X9_isKeep rfl rfl (Nat.le_of_ble_eq_true rfl) ⟨Nat.le_refl _, Nat.le_refl _⟩ (R_mono (fun r1 G2 h3 H => ?_) H)
  show S l MX9_back (d + 1, 0, 0, 0, 0) 4 [some (vR a0), some (vI a1), none] [vI r1] G2 h3 Q
  have f4 := H.1
  replace H := H.2
  refine s_if_ne (tgt := 9) dX9_back_4 (by decide) f4 (fun c5 => ?_) (fun c5 => ?_)
  · replace H := H.1 c5
    refine s_aload_n dX9_back_9 rfl rfl ?_
    have f6 := H.1
    replace H := H.2
    refine s_getf (c := 9) (k := 6) (t := 2) (j := 6) dX9_back_10 fl_X9_26 (by decide) (by decide) rfl rfl f6 ?_
    refine s_iload_n dX9_back_13 rfl rfl ?_
    have f7 := H.1
    replace H := H.2
    refine s_zald dX9_back_14 f7 ?_
    have f8 := H.1
    replace H := H.2
    refine s_if_ne (tgt := 21) dX9_back_15 (by decide) f8 (fun c9 => ?_) (fun c9 => ?_)
    · replace H := H.1 c9
      refine s_aload_n dX9_back_21 rfl rfl ?_
      refine s_aload_n dX9_back_22 rfl rfl ?_
      refine s_getf (c := 9) (k := 7) (t := 2) (j := 7) dX9_back_23 fl_X9_30 (by decide) (by decide) rfl rfl f6 ?_
      refine s_iconst dX9_back_26 ?_
      refine s_iload_n dX9_back_27 rfl rfl ?_
      refine s_imul dX9_back_28 ?_
      have f10 := H.1
      replace H := H.2
      refine s_iald dX9_back_29 f10 ?_
      refine s_aload_n dX9_back_30 rfl rfl ?_
      refine s_getf (c := 9) (k := 7) (t := 2) (j := 7) dX9_back_31 fl_X9_30 (by decide) (by decide) rfl rfl f6 ?_
      refine s_iconst dX9_back_34 ?_
      refine s_iload_n dX9_back_35 rfl rfl ?_
      refine s_imul dX9_back_36 ?_
      refine s_iconst dX9_back_37 ?_
      refine s_iadd dX9_back_38 ?_
      have f11 := H.1
      replace H := H.2
      refine s_iald dX9_back_39 f11 ?_
      refine s_aload_n dX9_back_40 rfl rfl ?_
      refine s_getf (c := 9) (k := 7) (t := 2) (j := 7) dX9_back_41 fl_X9_30 (by decide) (by decide) rfl rfl f6 ?_
      refine s_iconst dX9_back_44 ?_
      refine s_iload_n dX9_back_45 rfl rfl ?_
      refine s_imul dX9_back_46 ?_
      refine s_iconst dX9_back_47 ?_
      refine s_iadd dX9_back_48 ?_
      have f12 := H.1
      replace H := H.2
      refine s_iald dX9_back_49 f12 ?_
      refine s_callV (M' := MX9_fresh) (As := [vI (h3 (h3 a0 7) (3 * a1)), vI (h3 (h3 a0 7) ((3 * a1) + 1)), vI (h3 (h3 a0 7) ((3 * a1) + 2))]) (a := a0) (st := []) dX9_back_50 ml_X9_81 cv_X9_fresh rfl rfl (Nat.le_of_ble_eq_true rfl) ⟨Nat.le_refl _, Nat.le_refl _⟩ f6 (R_mono (fun r13 G14 h15 H => ?_) H)
      show S l MX9_back (d + 1, 0, 0, 0, 0) 53 [some (vR a0), some (vI a1), none] [] G14 h15 Q
      refine s_aload_n dX9_back_53 rfl rfl ?_
      refine s_aload_n dX9_back_54 rfl rfl ?_
      have f16 := H.1
      replace H := H.2
      refine s_getf (c := 9) (k := 10) (t := 2) (j := 10) dX9_back_55 fl_X9_39 (by decide) (by decide) rfl rfl f16 ?_
      refine s_iload_n dX9_back_58 rfl rfl ?_
      have f17 := H.1
      replace H := H.2
      refine s_iald dX9_back_59 f17 ?_
      refine s_putI (c := 9) (k := 4) (j := 4) dX9_back_60 fl_X9_85 (by decide) (by decide) rfl rfl rfl f16 (fun h18 eh18 => ?_)
      replace H := H h18 eh18
      refine s_iconst dX9_back_63 ?_
      refine s_istore_n dX9_back_64 rfl (by decide) rfl ?_
      show S l MX9_back (d + 1, 0, 0, 0, 0) 65 [some (vR a0), some (vI a1), some (vI 0)] [] G14 h18 Q
      exact S_cut (by first | exact ⟨rfl, ⟨rfl, ⟨rfl, trivial⟩⟩⟩ | simp [lsub]) H
    · replace H := H.2 c9
      refine s_bipush dX9_back_18 (by decide) ?_
      exact s_iret dX9_back_20 rfl ⟨Nat.le_refl _, Nat.le_refl _⟩ H
  · replace H := H.2 c5
    refine s_iconst dX9_back_7 ?_
    exact s_iret dX9_back_8 rfl ⟨Nat.le_refl _, Nat.le_refl _⟩ H
set_option maxHeartbeats 4000000 in
set_option maxRecDepth 100000 in
theorem vX9_back_65 {l : Launch} {d : Nat} {G : GS} {h : HP} {Q : Int → GS → HP → Prop} (a0 a1 a2 : Int) (H : (inR a2) ∧ ((729 ≤ a2 → S l MX9_back (d + 1, 0, 0, 0, 0) 98 [some (vR a0), some (vI a1), some (vI 0)] [] G h Q) ∧ (a2 < 729 → (ty G a0 = 9) ∧ (inA G 10 (h a0 8) ((729 * a1) + a2)) ∧ (inA G 10 (h a0 2) a2) ∧ ∀ h6 : HP, h6 = hset h (h a0 2) a2 (h (h a0 8) ((729 * a1) + a2)) → S l MX9_back (d + 1, 0, 0, 0, 0) 65 [some (vR a0), some (vI a1), some (vI (a2 + 1))] [] G h6 Q))) : S l MX9_back (d + 1, 0, 0, 0, 0) 65 [some (vR a0), some (vI a1), some (vI a2)] [] G h Q := by
  refine s_iload_n dX9_back_65 rfl rfl ?_
  refine s_sipush dX9_back_66 (by decide) ?_
  have f1 := H.1
  replace H := H.2
  refine s_icmp_ge (tgt := 96) dX9_back_69 (by decide) f1 (by decide) (fun c2 => ?_) (fun c2 => ?_)
  · replace H := H.1 c2
    refine s_iconst dX9_back_96 ?_
    refine s_istore_n dX9_back_97 rfl (by decide) rfl ?_
    show S l MX9_back (d + 1, 0, 0, 0, 0) 98 [some (vR a0), some (vI a1), some (vI 0)] [] G h Q
    exact S_cut (by first | exact ⟨rfl, ⟨rfl, ⟨rfl, trivial⟩⟩⟩ | simp [lsub]) H
  · replace H := H.2 c2
    refine s_aload_n dX9_back_72 rfl rfl ?_
    have f3 := H.1
    replace H := H.2
    refine s_getf (c := 9) (k := 2) (t := 2) (j := 2) dX9_back_73 fl_X9_17 (by decide) (by decide) rfl rfl f3 ?_
    refine s_iload_n dX9_back_76 rfl rfl ?_
    refine s_aload_n dX9_back_77 rfl rfl ?_
    refine s_getf (c := 9) (k := 8) (t := 2) (j := 8) dX9_back_78 fl_X9_33 (by decide) (by decide) rfl rfl f3 ?_
    refine s_sipush dX9_back_81 (by decide) ?_
    refine s_iload_n dX9_back_84 rfl rfl ?_
    refine s_imul dX9_back_85 ?_
    refine s_iload_n dX9_back_86 rfl rfl ?_
    refine s_iadd dX9_back_87 ?_
    have f4 := H.1
    replace H := H.2
    refine s_iald dX9_back_88 f4 ?_
    have f5 := H.1
    replace H := H.2
    refine s_iastH dX9_back_89 f5 (fun h6 eh6 => ?_)
    replace H := H h6 eh6
    refine s_iinc dX9_back_90 rfl (by decide) rfl ?_
    show S l MX9_back (d + 1, 0, 0, 0, 0) 93 [some (vR a0), some (vI a1), some (vI (a2 + 1))] [] G h6 Q
    refine s_goto (tgt := 65) dX9_back_93 (by decide) ?_
    exact S_cut (by first | exact ⟨rfl, ⟨rfl, ⟨rfl, trivial⟩⟩⟩ | simp [lsub]) H
set_option maxHeartbeats 4000000 in
set_option maxRecDepth 100000 in
theorem vX9_back_98 {l : Launch} {d : Nat} {G : GS} {h : HP} {Q : Int → GS → HP → Prop} (a0 a1 a2 : Int) (H : (ty G a0 = 9) ∧ (inR a2) ∧ (inR (27 * (h a0 4))) ∧ (((27 * (h a0 4)) ≤ a2 → Q 1 G h) ∧ (a2 < (27 * (h a0 4)) → (inA G 10 (h a0 9) ((1080 * a1) + a2)) ∧ (inA G 10 (h a0 3) a2) ∧ ∀ h7 : HP, h7 = hset h (h a0 3) a2 (h (h a0 9) ((1080 * a1) + a2)) → S l MX9_back (d + 1, 0, 0, 0, 0) 98 [some (vR a0), some (vI a1), some (vI (a2 + 1))] [] G h7 Q))) : S l MX9_back (d + 1, 0, 0, 0, 0) 98 [some (vR a0), some (vI a1), some (vI a2)] [] G h Q := by
  refine s_iload_n dX9_back_98 rfl rfl ?_
  refine s_bipush dX9_back_99 (by decide) ?_
  refine s_aload_n dX9_back_101 rfl rfl ?_
  have f1 := H.1
  replace H := H.2
  refine s_getf (c := 9) (k := 4) (t := 0) (j := 4) dX9_back_102 fl_X9_85 (by decide) (by decide) rfl rfl f1 ?_
  refine s_imul dX9_back_105 ?_
  have f2 := H.1
  replace H := H.2
  have f3 := H.1
  replace H := H.2
  refine s_icmp_ge (tgt := 133) dX9_back_106 (by decide) f2 f3 (fun c4 => ?_) (fun c4 => ?_)
  · replace H := H.1 c4
    refine s_iconst dX9_back_133 ?_
    exact s_iret dX9_back_134 rfl ⟨Nat.le_refl _, Nat.le_refl _⟩ H
  · replace H := H.2 c4
    refine s_aload_n dX9_back_109 rfl rfl ?_
    refine s_getf (c := 9) (k := 3) (t := 2) (j := 3) dX9_back_110 fl_X9_20 (by decide) (by decide) rfl rfl f1 ?_
    refine s_iload_n dX9_back_113 rfl rfl ?_
    refine s_aload_n dX9_back_114 rfl rfl ?_
    refine s_getf (c := 9) (k := 9) (t := 2) (j := 9) dX9_back_115 fl_X9_36 (by decide) (by decide) rfl rfl f1 ?_
    refine s_sipush dX9_back_118 (by decide) ?_
    refine s_iload_n dX9_back_121 rfl rfl ?_
    refine s_imul dX9_back_122 ?_
    refine s_iload_n dX9_back_123 rfl rfl ?_
    refine s_iadd dX9_back_124 ?_
    have f5 := H.1
    replace H := H.2
    refine s_iald dX9_back_125 f5 ?_
    have f6 := H.1
    replace H := H.2
    refine s_iastH dX9_back_126 f6 (fun h7 eh7 => ?_)
    replace H := H h7 eh7
    refine s_iinc dX9_back_127 rfl (by decide) rfl ?_
    show S l MX9_back (d + 1, 0, 0, 0, 0) 130 [some (vR a0), some (vI a1), some (vI (a2 + 1))] [] G h7 Q
    refine s_goto (tgt := 98) dX9_back_130 (by decide) ?_
    exact S_cut (by first | exact ⟨rfl, ⟨rfl, ⟨rfl, trivial⟩⟩⟩ | simp [lsub]) H
set_option maxHeartbeats 4000000 in
set_option maxRecDepth 100000 in
theorem vX9_beside_0 {l : Launch} {d : Nat} {G : GS} {h : HP} {Q : Int → GS → HP → Prop} (a0 a1 : Int) (H : R l MX9_isKeep d 0 0 [vI a1] G h (fun r1 G2 h3 => (inR r1) ∧ ((r1 ≠ 0 → (ty G2 a0 = 9) ∧ (inA G2 11 (h3 a0 6) a1) ∧ (inR (h3 (h3 a0 6) a1)) ∧ (((h3 (h3 a0 6) a1) ≠ 0 → (0 ≤ (h3 a0 7)) ∧ (inA G2 10 (h3 a0 1) 0) ∧ (inA G2 10 (h3 a0 7) (3 * a1)) ∧ (inA G2 10 (h3 a0 1) 1) ∧ (inA G2 10 (h3 a0 7) ((3 * a1) + 1)) ∧ (inA G2 10 (h3 a0 1) 2) ∧ (inA G2 10 (h3 a0 7) ((3 * a1) + 2)) ∧ R l MX9_areSizes d 0 0 [vI ((h3 (h3 a0 1) 0) + (h3 (h3 a0 7) (3 * a1))), vI ((h3 (h3 a0 1) 1) + (h3 (h3 a0 7) ((3 * a1) + 1))), vI ((h3 (h3 a0 1) 2) + (h3 (h3 a0 7) ((3 * a1) + 2)))] G2 h3 (fun r17 G18 h19 => (inR r17) ∧ ((r17 ≠ 0 → (ty G18 a0 = 9) ∧ (inA G18 10 (h19 a0 10) a1) ∧ (inR ((h19 a0 4) + (h19 (h19 a0 10) a1))) ∧ ((((h19 a0 4) + (h19 (h19 a0 10) a1)) ≤ 40 → S l MX9_beside (d + 1, 0, 0, 0, 0) 96 [some (vR a0), some (vI a1), some (vR (h3 a0 7)), some (vI 0), none, none] [] G18 h19 Q) ∧ (40 < ((h19 a0 4) + (h19 (h19 a0 10) a1)) → Q ((-2)) G18 h19))) ∧ (r17 = 0 → Q ((-3)) G18 h19)))) ∧ ((h3 (h3 a0 6) a1) = 0 → Q ((-4)) G2 h3))) ∧ (r1 = 0 → Q ((-1)) G2 h3)))) : S l MX9_beside (d + 1, 0, 0, 0, 0) 0 [some (vR a0), some (vI a1), none, none, none, none] [] G h Q := by
  refine s_iload_n dX9_beside_0 rfl rfl ?_
  refine s_callS (M' := MX9_isKeep) (As := [vI a1]) (st := []) dX9_beside_1 ml_X9_257 cs_X9_isKeep rfl rfl (Nat.le_of_ble_eq_true rfl) ⟨Nat.le_refl _, Nat.le_refl _⟩ (R_mono (fun r1 G2 h3 H => ?_) H)
  show S l MX9_beside (d + 1, 0, 0, 0, 0) 4 [some (vR a0), some (vI a1), none, none, none, none] [vI r1] G2 h3 Q
  have f4 := H.1
  replace H := H.2
  refine s_if_ne (tgt := 9) dX9_beside_4 (by decide) f4 (fun c5 => ?_) (fun c5 => ?_)
  · replace H := H.1 c5
    refine s_aload_n dX9_beside_9 rfl rfl ?_
    have f6 := H.1
    replace H := H.2
    refine s_getf (c := 9) (k := 6) (t := 2) (j := 6) dX9_beside_10 fl_X9_26 (by decide) (by decide) rfl rfl f6 ?_
    refine s_iload_n dX9_beside_13 rfl rfl ?_
    have f7 := H.1
    replace H := H.2
    refine s_zald dX9_beside_14 f7 ?_
    have f8 := H.1
    replace H := H.2
    refine s_if_ne (tgt := 21) dX9_beside_15 (by decide) f8 (fun c9 => ?_) (fun c9 => ?_)
    · replace H := H.1 c9
      refine s_aload_n dX9_beside_21 rfl rfl ?_
      refine s_getf (c := 9) (k := 7) (t := 2) (j := 7) dX9_beside_22 fl_X9_30 (by decide) (by decide) rfl rfl f6 ?_
      have f10 := H.1
      replace H := H.2
      refine s_astore_n f10 dX9_beside_25 rfl (by decide) rfl ?_
      show S l MX9_beside (d + 1, 0, 0, 0, 0) 26 [some (vR a0), some (vI a1), some (vR (h3 a0 7)), none, none, none] [] G2 h3 Q
      refine s_aload_n dX9_beside_26 rfl rfl ?_
      refine s_getf (c := 9) (k := 1) (t := 2) (j := 1) dX9_beside_27 fl_X9_13 (by decide) (by decide) rfl rfl f6 ?_
      refine s_iconst dX9_beside_30 ?_
      have f11 := H.1
      replace H := H.2
      refine s_iald dX9_beside_31 f11 ?_
      refine s_aload_n dX9_beside_32 rfl rfl ?_
      refine s_iconst dX9_beside_33 ?_
      refine s_iload_n dX9_beside_34 rfl rfl ?_
      refine s_imul dX9_beside_35 ?_
      have f12 := H.1
      replace H := H.2
      refine s_iald dX9_beside_36 f12 ?_
      refine s_iadd dX9_beside_37 ?_
      refine s_aload_n dX9_beside_38 rfl rfl ?_
      refine s_getf (c := 9) (k := 1) (t := 2) (j := 1) dX9_beside_39 fl_X9_13 (by decide) (by decide) rfl rfl f6 ?_
      refine s_iconst dX9_beside_42 ?_
      have f13 := H.1
      replace H := H.2
      refine s_iald dX9_beside_43 f13 ?_
      refine s_aload_n dX9_beside_44 rfl rfl ?_
      refine s_iconst dX9_beside_45 ?_
      refine s_iload_n dX9_beside_46 rfl rfl ?_
      refine s_imul dX9_beside_47 ?_
      refine s_iconst dX9_beside_48 ?_
      refine s_iadd dX9_beside_49 ?_
      have f14 := H.1
      replace H := H.2
      refine s_iald dX9_beside_50 f14 ?_
      refine s_iadd dX9_beside_51 ?_
      refine s_aload_n dX9_beside_52 rfl rfl ?_
      refine s_getf (c := 9) (k := 1) (t := 2) (j := 1) dX9_beside_53 fl_X9_13 (by decide) (by decide) rfl rfl f6 ?_
      refine s_iconst dX9_beside_56 ?_
      have f15 := H.1
      replace H := H.2
      refine s_iald dX9_beside_57 f15 ?_
      refine s_aload_n dX9_beside_58 rfl rfl ?_
      refine s_iconst dX9_beside_59 ?_
      refine s_iload_n dX9_beside_60 rfl rfl ?_
      refine s_imul dX9_beside_61 ?_
      refine s_iconst dX9_beside_62 ?_
      refine s_iadd dX9_beside_63 ?_
      have f16 := H.1
      replace H := H.2
      refine s_iald dX9_beside_64 f16 ?_
      refine s_iadd dX9_beside_65 ?_
      refine s_callS (M' := MX9_areSizes) (As := [vI ((h3 (h3 a0 1) 0) + (h3 (h3 a0 7) (3 * a1))), vI ((h3 (h3 a0 1) 1) + (h3 (h3 a0 7) ((3 * a1) + 1))), vI ((h3 (h3 a0 1) 2) + (h3 (h3 a0 7) ((3 * a1) + 2)))]) (st := []) dX9_beside_66 ml_X9_101 cs_X9_areSizes rfl rfl (Nat.le_of_ble_eq_true rfl) ⟨Nat.le_refl _, Nat.le_refl _⟩ (R_mono (fun r17 G18 h19 H => ?_) H)
      show S l MX9_beside (d + 1, 0, 0, 0, 0) 69 [some (vR a0), some (vI a1), some (vR (h3 a0 7)), none, none, none] [vI r17] G18 h19 Q
      have f20 := H.1
      replace H := H.2
      refine s_if_ne (tgt := 75) dX9_beside_69 (by decide) f20 (fun c21 => ?_) (fun c21 => ?_)
      · replace H := H.1 c21
        refine s_aload_n dX9_beside_75 rfl rfl ?_
        have f22 := H.1
        replace H := H.2
        refine s_getf (c := 9) (k := 4) (t := 0) (j := 4) dX9_beside_76 fl_X9_85 (by decide) (by decide) rfl rfl f22 ?_
        refine s_aload_n dX9_beside_79 rfl rfl ?_
        refine s_getf (c := 9) (k := 10) (t := 2) (j := 10) dX9_beside_80 fl_X9_39 (by decide) (by decide) rfl rfl f22 ?_
        refine s_iload_n dX9_beside_83 rfl rfl ?_
        have f23 := H.1
        replace H := H.2
        refine s_iald dX9_beside_84 f23 ?_
        refine s_iadd dX9_beside_85 ?_
        refine s_bipush dX9_beside_86 (by decide) ?_
        have f24 := H.1
        replace H := H.2
        refine s_icmp_le (tgt := 94) dX9_beside_88 (by decide) f24 (by decide) (fun c25 => ?_) (fun c25 => ?_)
        · replace H := H.1 c25
          refine s_iconst dX9_beside_94 ?_
          refine s_istore_n dX9_beside_95 rfl (by decide) rfl ?_
          show S l MX9_beside (d + 1, 0, 0, 0, 0) 96 [some (vR a0), some (vI a1), some (vR (h3 a0 7)), some (vI 0), none, none] [] G18 h19 Q
          exact S_cut (by first | exact ⟨rfl, ⟨rfl, ⟨rfl, ⟨rfl, trivial⟩⟩⟩⟩ | simp [lsub]) H
        · replace H := H.2 c25
          refine s_bipush dX9_beside_91 (by decide) ?_
          exact s_iret dX9_beside_93 rfl ⟨Nat.le_refl _, Nat.le_refl _⟩ H
      · replace H := H.2 c21
        refine s_bipush dX9_beside_72 (by decide) ?_
        exact s_iret dX9_beside_74 rfl ⟨Nat.le_refl _, Nat.le_refl _⟩ H
    · replace H := H.2 c9
      refine s_bipush dX9_beside_18 (by decide) ?_
      exact s_iret dX9_beside_20 rfl ⟨Nat.le_refl _, Nat.le_refl _⟩ H
  · replace H := H.2 c5
    refine s_iconst dX9_beside_7 ?_
    exact s_iret dX9_beside_8 rfl ⟨Nat.le_refl _, Nat.le_refl _⟩ H
set_option maxHeartbeats 4000000 in
set_option maxRecDepth 100000 in
theorem vX9_beside_96 {l : Launch} {d : Nat} {G : GS} {h : HP} {Q : Int → GS → HP → Prop} (a0 a1 a2 a3 : Int) (H : (inA G 10 a2 (3 * a1)) ∧ (inR a3) ∧ (inR (h a2 (3 * a1))) ∧ (((h a2 (3 * a1)) ≤ a3 → S l MX9_beside (d + 1, 0, 0, 0, 0) 218 [some (vR a0), some (vI a1), some (vR a2), some (vI 0), none, none] [] G h Q) ∧ (a3 < (h a2 (3 * a1)) → S l MX9_beside (d + 1, 0, 0, 0, 0) 108 [some (vR a0), some (vI a1), some (vR a2), some (vI a3), some (vI 0), none] [] G h Q))) : S l MX9_beside (d + 1, 0, 0, 0, 0) 96 [some (vR a0), some (vI a1), some (vR a2), some (vI a3), none, none] [] G h Q := by
  refine s_iload_n dX9_beside_96 rfl rfl ?_
  refine s_aload_n dX9_beside_97 rfl rfl ?_
  refine s_iconst dX9_beside_98 ?_
  refine s_iload_n dX9_beside_99 rfl rfl ?_
  refine s_imul dX9_beside_100 ?_
  have f1 := H.1
  replace H := H.2
  refine s_iald dX9_beside_101 f1 ?_
  have f2 := H.1
  replace H := H.2
  have f3 := H.1
  replace H := H.2
  refine s_icmp_ge (tgt := 216) dX9_beside_102 (by decide) f2 f3 (fun c4 => ?_) (fun c4 => ?_)
  · replace H := H.1 c4
    refine s_iconst dX9_beside_216 ?_
    refine s_istore_n dX9_beside_217 rfl (by decide) rfl ?_
    show S l MX9_beside (d + 1, 0, 0, 0, 0) 218 [some (vR a0), some (vI a1), some (vR a2), some (vI 0), none, none] [] G h Q
    exact S_cut (by first | exact ⟨rfl, ⟨rfl, ⟨rfl, ⟨rfl, trivial⟩⟩⟩⟩ | simp [lsub]) H
  · replace H := H.2 c4
    refine s_iconst dX9_beside_105 ?_
    refine s_istore dX9_beside_106 (by decide) rfl ?_
    show S l MX9_beside (d + 1, 0, 0, 0, 0) 108 [some (vR a0), some (vI a1), some (vR a2), some (vI a3), some (vI 0), none] [] G h Q
    exact S_cut (by first | exact ⟨rfl, ⟨rfl, ⟨rfl, ⟨rfl, ⟨rfl, trivial⟩⟩⟩⟩⟩ | simp [lsub]) H
set_option maxHeartbeats 4000000 in
set_option maxRecDepth 100000 in
theorem vX9_beside_218 {l : Launch} {d : Nat} {G : GS} {h : HP} {Q : Int → GS → HP → Prop} (a0 a1 a2 a3 : Int) (H : (ty G a0 = 9) ∧ (inA G 10 (h a0 10) a1) ∧ (inR a3) ∧ (inR (h (h a0 10) a1)) ∧ (((h (h a0 10) a1) ≤ a3 → ∀ h6 : HP, h6 = hset h a0 4 ((h a0 4) + (h (h a0 10) a1)) → S l MX9_beside (d + 1, 0, 0, 0, 0) 377 [some (vR a0), some (vI a1), some (vR a2), some (vI 0), none, none] [] G h6 Q) ∧ (a3 < (h (h a0 10) a1) → S l MX9_beside (d + 1, 0, 0, 0, 0) 231 [some (vR a0), some (vI a1), some (vR a2), some (vI a3), some (vI 0), none] [] G h Q))) : S l MX9_beside (d + 1, 0, 0, 0, 0) 218 [some (vR a0), some (vI a1), some (vR a2), some (vI a3), none, none] [] G h Q := by
  refine s_iload_n dX9_beside_218 rfl rfl ?_
  refine s_aload_n dX9_beside_219 rfl rfl ?_
  have f1 := H.1
  replace H := H.2
  refine s_getf (c := 9) (k := 10) (t := 2) (j := 10) dX9_beside_220 fl_X9_39 (by decide) (by decide) rfl rfl f1 ?_
  refine s_iload_n dX9_beside_223 rfl rfl ?_
  have f2 := H.1
  replace H := H.2
  refine s_iald dX9_beside_224 f2 ?_
  have f3 := H.1
  replace H := H.2
  have f4 := H.1
  replace H := H.2
  refine s_icmp_ge (tgt := 360) dX9_beside_225 (by decide) f3 f4 (fun c5 => ?_) (fun c5 => ?_)
  · replace H := H.1 c5
    refine s_aload_n dX9_beside_360 rfl rfl ?_
    refine s_dup dX9_beside_361 rfl ?_
    refine s_getf (c := 9) (k := 4) (t := 0) (j := 4) dX9_beside_362 fl_X9_85 (by decide) (by decide) rfl rfl f1 ?_
    refine s_aload_n dX9_beside_365 rfl rfl ?_
    refine s_getf (c := 9) (k := 10) (t := 2) (j := 10) dX9_beside_366 fl_X9_39 (by decide) (by decide) rfl rfl f1 ?_
    refine s_iload_n dX9_beside_369 rfl rfl ?_
    refine s_iald dX9_beside_370 f2 ?_
    refine s_iadd dX9_beside_371 ?_
    refine s_putI (c := 9) (k := 4) (j := 4) dX9_beside_372 fl_X9_85 (by decide) (by decide) rfl rfl rfl f1 (fun h6 eh6 => ?_)
    replace H := H h6 eh6
    refine s_iconst dX9_beside_375 ?_
    refine s_istore_n dX9_beside_376 rfl (by decide) rfl ?_
    show S l MX9_beside (d + 1, 0, 0, 0, 0) 377 [some (vR a0), some (vI a1), some (vR a2), some (vI 0), none, none] [] G h6 Q
    exact S_cut (by first | exact ⟨rfl, ⟨rfl, ⟨rfl, ⟨rfl, trivial⟩⟩⟩⟩ | simp [lsub]) H
  · replace H := H.2 c5
    refine s_iconst dX9_beside_228 ?_
    refine s_istore dX9_beside_229 (by decide) rfl ?_
    show S l MX9_beside (d + 1, 0, 0, 0, 0) 231 [some (vR a0), some (vI a1), some (vR a2), some (vI a3), some (vI 0), none] [] G h Q
    exact S_cut (by first | exact ⟨rfl, ⟨rfl, ⟨rfl, ⟨rfl, ⟨rfl, trivial⟩⟩⟩⟩⟩ | simp [lsub]) H
set_option maxHeartbeats 4000000 in
set_option maxRecDepth 100000 in
theorem vX9_beside_108 {l : Launch} {d : Nat} {G : GS} {h : HP} {Q : Int → GS → HP → Prop} (a0 a1 a2 a3 a4 : Int) (H : (inA G 10 a2 ((3 * a1) + 1)) ∧ (inR a4) ∧ (inR (h a2 ((3 * a1) + 1))) ∧ (((h a2 ((3 * a1) + 1)) ≤ a4 → S l MX9_beside (d + 1, 0, 0, 0, 0) 96 [some (vR a0), some (vI a1), some (vR a2), some (vI (a3 + 1)), none, none] [] G h Q) ∧ (a4 < (h a2 ((3 * a1) + 1)) → S l MX9_beside (d + 1, 0, 0, 0, 0) 123 [some (vR a0), some (vI a1), some (vR a2), some (vI a3), some (vI a4), some (vI 0)] [] G h Q))) : S l MX9_beside (d + 1, 0, 0, 0, 0) 108 [some (vR a0), some (vI a1), some (vR a2), some (vI a3), some (vI a4), none] [] G h Q := by
  refine s_iload dX9_beside_108 rfl ?_
  refine s_aload_n dX9_beside_110 rfl rfl ?_
  refine s_iconst dX9_beside_111 ?_
  refine s_iload_n dX9_beside_112 rfl rfl ?_
  refine s_imul dX9_beside_113 ?_
  refine s_iconst dX9_beside_114 ?_
  refine s_iadd dX9_beside_115 ?_
  have f1 := H.1
  replace H := H.2
  refine s_iald dX9_beside_116 f1 ?_
  have f2 := H.1
  replace H := H.2
  have f3 := H.1
  replace H := H.2
  refine s_icmp_ge (tgt := 210) dX9_beside_117 (by decide) f2 f3 (fun c4 => ?_) (fun c4 => ?_)
  · replace H := H.1 c4
    refine s_iinc dX9_beside_210 rfl (by decide) rfl ?_
    show S l MX9_beside (d + 1, 0, 0, 0, 0) 213 [some (vR a0), some (vI a1), some (vR a2), some (vI (a3 + 1)), some (vI a4), none] [] G h Q
    refine s_goto (tgt := 96) dX9_beside_213 (by decide) ?_
    exact S_cut (by first | exact ⟨rfl, ⟨rfl, ⟨rfl, ⟨rfl, trivial⟩⟩⟩⟩ | simp [lsub]) H
  · replace H := H.2 c4
    refine s_iconst dX9_beside_120 ?_
    refine s_istore dX9_beside_121 (by decide) rfl ?_
    show S l MX9_beside (d + 1, 0, 0, 0, 0) 123 [some (vR a0), some (vI a1), some (vR a2), some (vI a3), some (vI a4), some (vI 0)] [] G h Q
    exact S_cut (by first | exact ⟨rfl, ⟨rfl, ⟨rfl, ⟨rfl, ⟨rfl, ⟨rfl, trivial⟩⟩⟩⟩⟩⟩ | simp [lsub]) H
set_option maxHeartbeats 4000000 in
set_option maxRecDepth 100000 in
theorem vX9_beside_377 {l : Launch} {d : Nat} {G : GS} {h : HP} {Q : Int → GS → HP → Prop} (a0 a1 a2 a3 : Int) (H : (inR a3) ∧ ((3 ≤ a3 → (ty G a0 = 9) ∧ R l MX9_emptyHand d 0 0 [vR a0] G h (fun r3 G4 h5 => (ty G4 a0 = 9) ∧ ∀ h8 : HP, h8 = hset h5 a0 15 0 → Q (h8 a0 4) G4 h8)) ∧ (a3 < 3 → (ty G a0 = 9) ∧ (inA G 10 (h a0 1) a3) ∧ (inA G 10 a2 ((3 * a1) + a3)) ∧ ∀ h12 : HP, h12 = hset h (h a0 1) a3 ((h (h a0 1) a3) + (h a2 ((3 * a1) + a3))) → S l MX9_beside (d + 1, 0, 0, 0, 0) 377 [some (vR a0), some (vI a1), some (vR a2), some (vI (a3 + 1)), none, none] [] G h12 Q))) : S l MX9_beside (d + 1, 0, 0, 0, 0) 377 [some (vR a0), some (vI a1), some (vR a2), some (vI a3), none, none] [] G h Q := by
  refine s_iload_n dX9_beside_377 rfl rfl ?_
  refine s_iconst dX9_beside_378 ?_
  have f1 := H.1
  replace H := H.2
  refine s_icmp_ge (tgt := 404) dX9_beside_379 (by decide) f1 (by decide) (fun c2 => ?_) (fun c2 => ?_)
  · replace H := H.1 c2
    refine s_aload_n dX9_beside_404 rfl rfl ?_
    have f6 := H.1
    replace H := H.2
    refine s_callV (M' := MX9_emptyHand) (As := []) (a := a0) (st := []) dX9_beside_405 ml_X9_88 cv_X9_emptyHand rfl rfl (Nat.le_of_ble_eq_true rfl) ⟨Nat.le_refl _, Nat.le_refl _⟩ f6 (R_mono (fun r3 G4 h5 H => ?_) H)
    show S l MX9_beside (d + 1, 0, 0, 0, 0) 408 [some (vR a0), some (vI a1), some (vR a2), some (vI a3), none, none] [] G4 h5 Q
    refine s_aload_n dX9_beside_408 rfl rfl ?_
    refine s_iconst dX9_beside_409 ?_
    have f7 := H.1
    replace H := H.2
    refine s_putZ (c := 9) (k := 15) (j := 15) dX9_beside_410 fl_X9_91 (by decide) (by decide) rfl rfl rfl (by decide) f7 (fun h8 eh8 => ?_)
    replace H := H h8 eh8
    refine s_aload_n dX9_beside_413 rfl rfl ?_
    refine s_getf (c := 9) (k := 4) (t := 0) (j := 4) dX9_beside_414 fl_X9_85 (by decide) (by decide) rfl rfl f7 ?_
    exact s_iret dX9_beside_417 rfl ⟨Nat.le_refl _, Nat.le_refl _⟩ H
  · replace H := H.2 c2
    refine s_aload_n dX9_beside_382 rfl rfl ?_
    have f9 := H.1
    replace H := H.2
    refine s_getf (c := 9) (k := 1) (t := 2) (j := 1) dX9_beside_383 fl_X9_13 (by decide) (by decide) rfl rfl f9 ?_
    refine s_iload_n dX9_beside_386 rfl rfl ?_
    refine s_dup2 dX9_beside_387 rfl rfl ?_
    have f10 := H.1
    replace H := H.2
    refine s_iald dX9_beside_388 f10 ?_
    refine s_aload_n dX9_beside_389 rfl rfl ?_
    refine s_iconst dX9_beside_390 ?_
    refine s_iload_n dX9_beside_391 rfl rfl ?_
    refine s_imul dX9_beside_392 ?_
    refine s_iload_n dX9_beside_393 rfl rfl ?_
    refine s_iadd dX9_beside_394 ?_
    have f11 := H.1
    replace H := H.2
    refine s_iald dX9_beside_395 f11 ?_
    refine s_iadd dX9_beside_396 ?_
    refine s_iastH dX9_beside_397 f10 (fun h12 eh12 => ?_)
    replace H := H h12 eh12
    refine s_iinc dX9_beside_398 rfl (by decide) rfl ?_
    show S l MX9_beside (d + 1, 0, 0, 0, 0) 401 [some (vR a0), some (vI a1), some (vR a2), some (vI (a3 + 1)), none, none] [] G h12 Q
    refine s_goto (tgt := 377) dX9_beside_401 (by decide) ?_
    exact S_cut (by first | exact ⟨rfl, ⟨rfl, ⟨rfl, ⟨rfl, trivial⟩⟩⟩⟩ | simp [lsub]) H
set_option maxHeartbeats 4000000 in
set_option maxRecDepth 100000 in
theorem vX9_beside_231 {l : Launch} {d : Nat} {G : GS} {h : HP} {Q : Int → GS → HP → Prop} (a0 a1 a2 a3 a4 : Int) (H : (inR a4) ∧ ((27 ≤ a4 → S l MX9_beside (d + 1, 0, 0, 0, 0) 265 [some (vR a0), some (vI a1), some (vR a2), some (vI a3), some (vI 0), none] [] G h Q) ∧ (a4 < 27 → (ty G a0 = 9) ∧ (inA G 10 (h a0 3) ((27 * ((h a0 4) + a3)) + a4)) ∧ ∀ h5 : HP, h5 = hset h (h a0 3) ((27 * ((h a0 4) + a3)) + a4) 0 → S l MX9_beside (d + 1, 0, 0, 0, 0) 231 [some (vR a0), some (vI a1), some (vR a2), some (vI a3), some (vI (a4 + 1)), none] [] G h5 Q))) : S l MX9_beside (d + 1, 0, 0, 0, 0) 231 [some (vR a0), some (vI a1), some (vR a2), some (vI a3), some (vI a4), none] [] G h Q := by
  refine s_iload dX9_beside_231 rfl ?_
  refine s_bipush dX9_beside_233 (by decide) ?_
  have f1 := H.1
  replace H := H.2
  refine s_icmp_ge (tgt := 262) dX9_beside_235 (by decide) f1 (by decide) (fun c2 => ?_) (fun c2 => ?_)
  · replace H := H.1 c2
    refine s_iconst dX9_beside_262 ?_
    refine s_istore dX9_beside_263 (by decide) rfl ?_
    show S l MX9_beside (d + 1, 0, 0, 0, 0) 265 [some (vR a0), some (vI a1), some (vR a2), some (vI a3), some (vI 0), none] [] G h Q
    exact S_cut (by first | exact ⟨rfl, ⟨rfl, ⟨rfl, ⟨rfl, ⟨rfl, trivial⟩⟩⟩⟩⟩ | simp [lsub]) H
  · replace H := H.2 c2
    refine s_aload_n dX9_beside_238 rfl rfl ?_
    have f3 := H.1
    replace H := H.2
    refine s_getf (c := 9) (k := 3) (t := 2) (j := 3) dX9_beside_239 fl_X9_20 (by decide) (by decide) rfl rfl f3 ?_
    refine s_bipush dX9_beside_242 (by decide) ?_
    refine s_aload_n dX9_beside_244 rfl rfl ?_
    refine s_getf (c := 9) (k := 4) (t := 0) (j := 4) dX9_beside_245 fl_X9_85 (by decide) (by decide) rfl rfl f3 ?_
    refine s_iload_n dX9_beside_248 rfl rfl ?_
    refine s_iadd dX9_beside_249 ?_
    refine s_imul dX9_beside_250 ?_
    refine s_iload dX9_beside_251 rfl ?_
    refine s_iadd dX9_beside_253 ?_
    refine s_iconst dX9_beside_254 ?_
    have f4 := H.1
    replace H := H.2
    refine s_iastH dX9_beside_255 f4 (fun h5 eh5 => ?_)
    replace H := H h5 eh5
    refine s_iinc dX9_beside_256 rfl (by decide) rfl ?_
    show S l MX9_beside (d + 1, 0, 0, 0, 0) 259 [some (vR a0), some (vI a1), some (vR a2), some (vI a3), some (vI (a4 + 1)), none] [] G h5 Q
    refine s_goto (tgt := 231) dX9_beside_259 (by decide) ?_
    exact S_cut (by first | exact ⟨rfl, ⟨rfl, ⟨rfl, ⟨rfl, ⟨rfl, trivial⟩⟩⟩⟩⟩ | simp [lsub]) H
set_option maxHeartbeats 4000000 in
set_option maxRecDepth 100000 in
theorem vX9_beside_123 {l : Launch} {d : Nat} {G : GS} {h : HP} {Q : Int → GS → HP → Prop} (a0 a1 a2 a3 a4 a5 : Int) (H : (inA G 10 a2 ((3 * a1) + 2)) ∧ (inR a5) ∧ (inR (h a2 ((3 * a1) + 2))) ∧ (((h a2 ((3 * a1) + 2)) ≤ a5 → S l MX9_beside (d + 1, 0, 0, 0, 0) 108 [some (vR a0), some (vI a1), some (vR a2), some (vI a3), some (vI (a4 + 1)), none] [] G h Q) ∧ (a5 < (h a2 ((3 * a1) + 2)) → (ty G a0 = 9) ∧ (inA G 10 (h a0 1) 0) ∧ (inA G 10 (h a0 1) 1) ∧ (inA G 10 (h a0 1) 2) ∧ (inA G 10 (h a0 8) ((((729 * a1) + (81 * a3)) + (9 * a4)) + a5)) ∧ (inA G 10 (h a0 2) ((((81 * ((h (h a0 1) 0) + a3)) + (9 * ((h (h a0 1) 1) + a4))) + (h (h a0 1) 2)) + a5)) ∧ ∀ h11 : HP, h11 = hset h (h a0 2) ((((81 * ((h (h a0 1) 0) + a3)) + (9 * ((h (h a0 1) 1) + a4))) + (h (h a0 1) 2)) + a5) (h (h a0 8) ((((729 * a1) + (81 * a3)) + (9 * a4)) + a5)) → S l MX9_beside (d + 1, 0, 0, 0, 0) 123 [some (vR a0), some (vI a1), some (vR a2), some (vI a3), some (vI a4), some (vI (a5 + 1))] [] G h11 Q))) : S l MX9_beside (d + 1, 0, 0, 0, 0) 123 [some (vR a0), some (vI a1), some (vR a2), some (vI a3), some (vI a4), some (vI a5)] [] G h Q := by
  refine s_iload dX9_beside_123 rfl ?_
  refine s_aload_n dX9_beside_125 rfl rfl ?_
  refine s_iconst dX9_beside_126 ?_
  refine s_iload_n dX9_beside_127 rfl rfl ?_
  refine s_imul dX9_beside_128 ?_
  refine s_iconst dX9_beside_129 ?_
  refine s_iadd dX9_beside_130 ?_
  have f1 := H.1
  replace H := H.2
  refine s_iald dX9_beside_131 f1 ?_
  have f2 := H.1
  replace H := H.2
  have f3 := H.1
  replace H := H.2
  refine s_icmp_ge (tgt := 204) dX9_beside_132 (by decide) f2 f3 (fun c4 => ?_) (fun c4 => ?_)
  · replace H := H.1 c4
    refine s_iinc dX9_beside_204 rfl (by decide) rfl ?_
    show S l MX9_beside (d + 1, 0, 0, 0, 0) 207 [some (vR a0), some (vI a1), some (vR a2), some (vI a3), some (vI (a4 + 1)), some (vI a5)] [] G h Q
    refine s_goto (tgt := 108) dX9_beside_207 (by decide) ?_
    exact S_cut (by first | exact ⟨rfl, ⟨rfl, ⟨rfl, ⟨rfl, ⟨rfl, trivial⟩⟩⟩⟩⟩ | simp [lsub]) H
  · replace H := H.2 c4
    refine s_aload_n dX9_beside_135 rfl rfl ?_
    have f5 := H.1
    replace H := H.2
    refine s_getf (c := 9) (k := 2) (t := 2) (j := 2) dX9_beside_136 fl_X9_17 (by decide) (by decide) rfl rfl f5 ?_
    refine s_bipush dX9_beside_139 (by decide) ?_
    refine s_aload_n dX9_beside_141 rfl rfl ?_
    refine s_getf (c := 9) (k := 1) (t := 2) (j := 1) dX9_beside_142 fl_X9_13 (by decide) (by decide) rfl rfl f5 ?_
    refine s_iconst dX9_beside_145 ?_
    have f6 := H.1
    replace H := H.2
    refine s_iald dX9_beside_146 f6 ?_
    refine s_iload_n dX9_beside_147 rfl rfl ?_
    refine s_iadd dX9_beside_148 ?_
    refine s_imul dX9_beside_149 ?_
    refine s_bipush dX9_beside_150 (by decide) ?_
    refine s_aload_n dX9_beside_152 rfl rfl ?_
    refine s_getf (c := 9) (k := 1) (t := 2) (j := 1) dX9_beside_153 fl_X9_13 (by decide) (by decide) rfl rfl f5 ?_
    refine s_iconst dX9_beside_156 ?_
    have f7 := H.1
    replace H := H.2
    refine s_iald dX9_beside_157 f7 ?_
    refine s_iload dX9_beside_158 rfl ?_
    refine s_iadd dX9_beside_160 ?_
    refine s_imul dX9_beside_161 ?_
    refine s_iadd dX9_beside_162 ?_
    refine s_aload_n dX9_beside_163 rfl rfl ?_
    refine s_getf (c := 9) (k := 1) (t := 2) (j := 1) dX9_beside_164 fl_X9_13 (by decide) (by decide) rfl rfl f5 ?_
    refine s_iconst dX9_beside_167 ?_
    have f8 := H.1
    replace H := H.2
    refine s_iald dX9_beside_168 f8 ?_
    refine s_iadd dX9_beside_169 ?_
    refine s_iload dX9_beside_170 rfl ?_
    refine s_iadd dX9_beside_172 ?_
    refine s_aload_n dX9_beside_173 rfl rfl ?_
    refine s_getf (c := 9) (k := 8) (t := 2) (j := 8) dX9_beside_174 fl_X9_33 (by decide) (by decide) rfl rfl f5 ?_
    refine s_sipush dX9_beside_177 (by decide) ?_
    refine s_iload_n dX9_beside_180 rfl rfl ?_
    refine s_imul dX9_beside_181 ?_
    refine s_bipush dX9_beside_182 (by decide) ?_
    refine s_iload_n dX9_beside_184 rfl rfl ?_
    refine s_imul dX9_beside_185 ?_
    refine s_iadd dX9_beside_186 ?_
    refine s_bipush dX9_beside_187 (by decide) ?_
    refine s_iload dX9_beside_189 rfl ?_
    refine s_imul dX9_beside_191 ?_
    refine s_iadd dX9_beside_192 ?_
    refine s_iload dX9_beside_193 rfl ?_
    refine s_iadd dX9_beside_195 ?_
    have f9 := H.1
    replace H := H.2
    refine s_iald dX9_beside_196 f9 ?_
    have f10 := H.1
    replace H := H.2
    refine s_iastH dX9_beside_197 f10 (fun h11 eh11 => ?_)
    replace H := H h11 eh11
    refine s_iinc dX9_beside_198 rfl (by decide) rfl ?_
    show S l MX9_beside (d + 1, 0, 0, 0, 0) 201 [some (vR a0), some (vI a1), some (vR a2), some (vI a3), some (vI a4), some (vI (a5 + 1))] [] G h11 Q
    refine s_goto (tgt := 123) dX9_beside_201 (by decide) ?_
    exact S_cut (by first | exact ⟨rfl, ⟨rfl, ⟨rfl, ⟨rfl, ⟨rfl, ⟨rfl, trivial⟩⟩⟩⟩⟩⟩ | simp [lsub]) H
set_option maxHeartbeats 4000000 in
set_option maxRecDepth 100000 in
theorem vX9_beside_265 {l : Launch} {d : Nat} {G : GS} {h : HP} {Q : Int → GS → HP → Prop} (a0 a1 a2 a3 a4 : Int) (H : (inR a4) ∧ ((3 ≤ a4 → S l MX9_beside (d + 1, 0, 0, 0, 0) 218 [some (vR a0), some (vI a1), some (vR a2), some (vI (a3 + 1)), none, none] [] G h Q) ∧ (a4 < 3 → S l MX9_beside (d + 1, 0, 0, 0, 0) 274 [some (vR a0), some (vI a1), some (vR a2), some (vI a3), some (vI a4), some (vI 0)] [] G h Q))) : S l MX9_beside (d + 1, 0, 0, 0, 0) 265 [some (vR a0), some (vI a1), some (vR a2), some (vI a3), some (vI a4), none] [] G h Q := by
  refine s_iload dX9_beside_265 rfl ?_
  refine s_iconst dX9_beside_267 ?_
  have f1 := H.1
  replace H := H.2
  refine s_icmp_ge (tgt := 354) dX9_beside_268 (by decide) f1 (by decide) (fun c2 => ?_) (fun c2 => ?_)
  · replace H := H.1 c2
    refine s_iinc dX9_beside_354 rfl (by decide) rfl ?_
    show S l MX9_beside (d + 1, 0, 0, 0, 0) 357 [some (vR a0), some (vI a1), some (vR a2), some (vI (a3 + 1)), some (vI a4), none] [] G h Q
    refine s_goto (tgt := 218) dX9_beside_357 (by decide) ?_
    exact S_cut (by first | exact ⟨rfl, ⟨rfl, ⟨rfl, ⟨rfl, trivial⟩⟩⟩⟩ | simp [lsub]) H
  · replace H := H.2 c2
    refine s_iconst dX9_beside_271 ?_
    refine s_istore dX9_beside_272 (by decide) rfl ?_
    show S l MX9_beside (d + 1, 0, 0, 0, 0) 274 [some (vR a0), some (vI a1), some (vR a2), some (vI a3), some (vI a4), some (vI 0)] [] G h Q
    exact S_cut (by first | exact ⟨rfl, ⟨rfl, ⟨rfl, ⟨rfl, ⟨rfl, ⟨rfl, trivial⟩⟩⟩⟩⟩⟩ | simp [lsub]) H
set_option maxHeartbeats 4000000 in
set_option maxRecDepth 100000 in
theorem vX9_beside_274 {l : Launch} {d : Nat} {G : GS} {h : HP} {Q : Int → GS → HP → Prop} (a0 a1 a2 a3 a4 a5 : Int) (H : (inA G 10 a2 ((3 * a1) + a4)) ∧ (inR a5) ∧ (inR (h a2 ((3 * a1) + a4))) ∧ (((h a2 ((3 * a1) + a4)) ≤ a5 → S l MX9_beside (d + 1, 0, 0, 0, 0) 265 [some (vR a0), some (vI a1), some (vR a2), some (vI a3), some (vI (a4 + 1)), none] [] G h Q) ∧ (a5 < (h a2 ((3 * a1) + a4)) → (ty G a0 = 9) ∧ (inA G 10 (h a0 1) a4) ∧ (inA G 10 (h a0 9) ((((1080 * a1) + (27 * a3)) + (9 * a4)) + a5)) ∧ (inA G 10 (h a0 3) ((((27 * ((h a0 4) + a3)) + (9 * a4)) + (h (h a0 1) a4)) + a5)) ∧ ∀ h9 : HP, h9 = hset h (h a0 3) ((((27 * ((h a0 4) + a3)) + (9 * a4)) + (h (h a0 1) a4)) + a5) (h (h a0 9) ((((1080 * a1) + (27 * a3)) + (9 * a4)) + a5)) → S l MX9_beside (d + 1, 0, 0, 0, 0) 274 [some (vR a0), some (vI a1), some (vR a2), some (vI a3), some (vI a4), some (vI (a5 + 1))] [] G h9 Q))) : S l MX9_beside (d + 1, 0, 0, 0, 0) 274 [some (vR a0), some (vI a1), some (vR a2), some (vI a3), some (vI a4), some (vI a5)] [] G h Q := by
  refine s_iload dX9_beside_274 rfl ?_
  refine s_aload_n dX9_beside_276 rfl rfl ?_
  refine s_iconst dX9_beside_277 ?_
  refine s_iload_n dX9_beside_278 rfl rfl ?_
  refine s_imul dX9_beside_279 ?_
  refine s_iload dX9_beside_280 rfl ?_
  refine s_iadd dX9_beside_282 ?_
  have f1 := H.1
  replace H := H.2
  refine s_iald dX9_beside_283 f1 ?_
  have f2 := H.1
  replace H := H.2
  have f3 := H.1
  replace H := H.2
  refine s_icmp_ge (tgt := 348) dX9_beside_284 (by decide) f2 f3 (fun c4 => ?_) (fun c4 => ?_)
  · replace H := H.1 c4
    refine s_iinc dX9_beside_348 rfl (by decide) rfl ?_
    show S l MX9_beside (d + 1, 0, 0, 0, 0) 351 [some (vR a0), some (vI a1), some (vR a2), some (vI a3), some (vI (a4 + 1)), some (vI a5)] [] G h Q
    refine s_goto (tgt := 265) dX9_beside_351 (by decide) ?_
    exact S_cut (by first | exact ⟨rfl, ⟨rfl, ⟨rfl, ⟨rfl, ⟨rfl, trivial⟩⟩⟩⟩⟩ | simp [lsub]) H
  · replace H := H.2 c4
    refine s_aload_n dX9_beside_287 rfl rfl ?_
    have f5 := H.1
    replace H := H.2
    refine s_getf (c := 9) (k := 3) (t := 2) (j := 3) dX9_beside_288 fl_X9_20 (by decide) (by decide) rfl rfl f5 ?_
    refine s_bipush dX9_beside_291 (by decide) ?_
    refine s_aload_n dX9_beside_293 rfl rfl ?_
    refine s_getf (c := 9) (k := 4) (t := 0) (j := 4) dX9_beside_294 fl_X9_85 (by decide) (by decide) rfl rfl f5 ?_
    refine s_iload_n dX9_beside_297 rfl rfl ?_
    refine s_iadd dX9_beside_298 ?_
    refine s_imul dX9_beside_299 ?_
    refine s_bipush dX9_beside_300 (by decide) ?_
    refine s_iload dX9_beside_302 rfl ?_
    refine s_imul dX9_beside_304 ?_
    refine s_iadd dX9_beside_305 ?_
    refine s_aload_n dX9_beside_306 rfl rfl ?_
    refine s_getf (c := 9) (k := 1) (t := 2) (j := 1) dX9_beside_307 fl_X9_13 (by decide) (by decide) rfl rfl f5 ?_
    refine s_iload dX9_beside_310 rfl ?_
    have f6 := H.1
    replace H := H.2
    refine s_iald dX9_beside_312 f6 ?_
    refine s_iadd dX9_beside_313 ?_
    refine s_iload dX9_beside_314 rfl ?_
    refine s_iadd dX9_beside_316 ?_
    refine s_aload_n dX9_beside_317 rfl rfl ?_
    refine s_getf (c := 9) (k := 9) (t := 2) (j := 9) dX9_beside_318 fl_X9_36 (by decide) (by decide) rfl rfl f5 ?_
    refine s_sipush dX9_beside_321 (by decide) ?_
    refine s_iload_n dX9_beside_324 rfl rfl ?_
    refine s_imul dX9_beside_325 ?_
    refine s_bipush dX9_beside_326 (by decide) ?_
    refine s_iload_n dX9_beside_328 rfl rfl ?_
    refine s_imul dX9_beside_329 ?_
    refine s_iadd dX9_beside_330 ?_
    refine s_bipush dX9_beside_331 (by decide) ?_
    refine s_iload dX9_beside_333 rfl ?_
    refine s_imul dX9_beside_335 ?_
    refine s_iadd dX9_beside_336 ?_
    refine s_iload dX9_beside_337 rfl ?_
    refine s_iadd dX9_beside_339 ?_
    have f7 := H.1
    replace H := H.2
    refine s_iald dX9_beside_340 f7 ?_
    have f8 := H.1
    replace H := H.2
    refine s_iastH dX9_beside_341 f8 (fun h9 eh9 => ?_)
    replace H := H h9 eh9
    refine s_iinc dX9_beside_342 rfl (by decide) rfl ?_
    show S l MX9_beside (d + 1, 0, 0, 0, 0) 345 [some (vR a0), some (vI a1), some (vR a2), some (vI a3), some (vI a4), some (vI (a5 + 1))] [] G h9 Q
    refine s_goto (tgt := 274) dX9_beside_345 (by decide) ?_
    exact S_cut (by first | exact ⟨rfl, ⟨rfl, ⟨rfl, ⟨rfl, ⟨rfl, ⟨rfl, trivial⟩⟩⟩⟩⟩⟩ | simp [lsub]) H
set_option maxHeartbeats 4000000 in
set_option maxRecDepth 100000 in
theorem vX9_within_0 {l : Launch} {d : Nat} {G : GS} {h : HP} {Q : Int → GS → HP → Prop} (a0 a1 : Int) (H : R l MX9_isKeep d 0 0 [vI a1] G h (fun r1 G2 h3 => (inR r1) ∧ ((r1 ≠ 0 → (ty G2 a0 = 9) ∧ (inA G2 11 (h3 a0 6) a1) ∧ (inR (h3 (h3 a0 6) a1)) ∧ (((h3 (h3 a0 6) a1) ≠ 0 → (inA G2 10 (h3 a0 7) (3 * a1)) ∧ (inA G2 10 (h3 a0 7) ((3 * a1) + 1)) ∧ (inA G2 10 (h3 a0 7) ((3 * a1) + 2)) ∧ (inA G2 10 (h3 a0 1) 0) ∧ (inA G2 10 (h3 a0 1) 1) ∧ (inA G2 10 (h3 a0 1) 2) ∧ R l MX9_areSizes d 0 0 [vI ((h3 (h3 a0 1) 0) * (h3 (h3 a0 7) (3 * a1))), vI ((h3 (h3 a0 1) 1) * (h3 (h3 a0 7) ((3 * a1) + 1))), vI ((h3 (h3 a0 1) 2) * (h3 (h3 a0 7) ((3 * a1) + 2)))] G2 h3 (fun r16 G17 h18 => (inR r16) ∧ ((r16 ≠ 0 → (ty G17 a0 = 9) ∧ (inA G17 10 (h18 a0 10) a1) ∧ (inR ((h18 a0 4) * (h18 (h18 a0 10) a1))) ∧ ((((h18 a0 4) * (h18 (h18 a0 10) a1)) ≤ 40 → S l MX9_within (d + 1, 0, 0, 0, 0) 109 [some (vR a0), some (vI a1), some (vI (h3 (h3 a0 7) (3 * a1))), some (vI (h3 (h3 a0 7) ((3 * a1) + 1))), some (vI (h3 (h3 a0 7) ((3 * a1) + 2))), some (vI 0), none, none, none, none] [] G17 h18 Q) ∧ (40 < ((h18 a0 4) * (h18 (h18 a0 10) a1)) → Q ((-2)) G17 h18))) ∧ (r16 = 0 → Q ((-3)) G17 h18)))) ∧ ((h3 (h3 a0 6) a1) = 0 → Q ((-4)) G2 h3))) ∧ (r1 = 0 → Q ((-1)) G2 h3)))) : S l MX9_within (d + 1, 0, 0, 0, 0) 0 [some (vR a0), some (vI a1), none, none, none, none, none, none, none, none] [] G h Q := by
  refine s_iload_n dX9_within_0 rfl rfl ?_
  refine s_callS (M' := MX9_isKeep) (As := [vI a1]) (st := []) dX9_within_1 ml_X9_257 cs_X9_isKeep rfl rfl (Nat.le_of_ble_eq_true rfl) ⟨Nat.le_refl _, Nat.le_refl _⟩ (R_mono (fun r1 G2 h3 H => ?_) H)
  show S l MX9_within (d + 1, 0, 0, 0, 0) 4 [some (vR a0), some (vI a1), none, none, none, none, none, none, none, none] [vI r1] G2 h3 Q
  have f4 := H.1
  replace H := H.2
  refine s_if_ne (tgt := 9) dX9_within_4 (by decide) f4 (fun c5 => ?_) (fun c5 => ?_)
  · replace H := H.1 c5
    refine s_aload_n dX9_within_9 rfl rfl ?_
    have f6 := H.1
    replace H := H.2
    refine s_getf (c := 9) (k := 6) (t := 2) (j := 6) dX9_within_10 fl_X9_26 (by decide) (by decide) rfl rfl f6 ?_
    refine s_iload_n dX9_within_13 rfl rfl ?_
    have f7 := H.1
    replace H := H.2
    refine s_zald dX9_within_14 f7 ?_
    have f8 := H.1
    replace H := H.2
    refine s_if_ne (tgt := 21) dX9_within_15 (by decide) f8 (fun c9 => ?_) (fun c9 => ?_)
    · replace H := H.1 c9
      refine s_aload_n dX9_within_21 rfl rfl ?_
      refine s_getf (c := 9) (k := 7) (t := 2) (j := 7) dX9_within_22 fl_X9_30 (by decide) (by decide) rfl rfl f6 ?_
      refine s_iconst dX9_within_25 ?_
      refine s_iload_n dX9_within_26 rfl rfl ?_
      refine s_imul dX9_within_27 ?_
      have f10 := H.1
      replace H := H.2
      refine s_iald dX9_within_28 f10 ?_
      refine s_istore_n dX9_within_29 rfl (by decide) rfl ?_
      show S l MX9_within (d + 1, 0, 0, 0, 0) 30 [some (vR a0), some (vI a1), some (vI (h3 (h3 a0 7) (3 * a1))), none, none, none, none, none, none, none] [] G2 h3 Q
      refine s_aload_n dX9_within_30 rfl rfl ?_
      refine s_getf (c := 9) (k := 7) (t := 2) (j := 7) dX9_within_31 fl_X9_30 (by decide) (by decide) rfl rfl f6 ?_
      refine s_iconst dX9_within_34 ?_
      refine s_iload_n dX9_within_35 rfl rfl ?_
      refine s_imul dX9_within_36 ?_
      refine s_iconst dX9_within_37 ?_
      refine s_iadd dX9_within_38 ?_
      have f11 := H.1
      replace H := H.2
      refine s_iald dX9_within_39 f11 ?_
      refine s_istore_n dX9_within_40 rfl (by decide) rfl ?_
      show S l MX9_within (d + 1, 0, 0, 0, 0) 41 [some (vR a0), some (vI a1), some (vI (h3 (h3 a0 7) (3 * a1))), some (vI (h3 (h3 a0 7) ((3 * a1) + 1))), none, none, none, none, none, none] [] G2 h3 Q
      refine s_aload_n dX9_within_41 rfl rfl ?_
      refine s_getf (c := 9) (k := 7) (t := 2) (j := 7) dX9_within_42 fl_X9_30 (by decide) (by decide) rfl rfl f6 ?_
      refine s_iconst dX9_within_45 ?_
      refine s_iload_n dX9_within_46 rfl rfl ?_
      refine s_imul dX9_within_47 ?_
      refine s_iconst dX9_within_48 ?_
      refine s_iadd dX9_within_49 ?_
      have f12 := H.1
      replace H := H.2
      refine s_iald dX9_within_50 f12 ?_
      refine s_istore dX9_within_51 (by decide) rfl ?_
      show S l MX9_within (d + 1, 0, 0, 0, 0) 53 [some (vR a0), some (vI a1), some (vI (h3 (h3 a0 7) (3 * a1))), some (vI (h3 (h3 a0 7) ((3 * a1) + 1))), some (vI (h3 (h3 a0 7) ((3 * a1) + 2))), none, none, none, none, none] [] G2 h3 Q
      refine s_aload_n dX9_within_53 rfl rfl ?_
      refine s_getf (c := 9) (k := 1) (t := 2) (j := 1) dX9_within_54 fl_X9_13 (by decide) (by decide) rfl rfl f6 ?_
      refine s_iconst dX9_within_57 ?_
      have f13 := H.1
      replace H := H.2
      refine s_iald dX9_within_58 f13 ?_
      refine s_iload_n dX9_within_59 rfl rfl ?_
      refine s_imul dX9_within_60 ?_
      refine s_aload_n dX9_within_61 rfl rfl ?_
      refine s_getf (c := 9) (k := 1) (t := 2) (j := 1) dX9_within_62 fl_X9_13 (by decide) (by decide) rfl rfl f6 ?_
      refine s_iconst dX9_within_65 ?_
      have f14 := H.1
      replace H := H.2
      refine s_iald dX9_within_66 f14 ?_
      refine s_iload_n dX9_within_67 rfl rfl ?_
      refine s_imul dX9_within_68 ?_
      refine s_aload_n dX9_within_69 rfl rfl ?_
      refine s_getf (c := 9) (k := 1) (t := 2) (j := 1) dX9_within_70 fl_X9_13 (by decide) (by decide) rfl rfl f6 ?_
      refine s_iconst dX9_within_73 ?_
      have f15 := H.1
      replace H := H.2
      refine s_iald dX9_within_74 f15 ?_
      refine s_iload dX9_within_75 rfl ?_
      refine s_imul dX9_within_77 ?_
      refine s_callS (M' := MX9_areSizes) (As := [vI ((h3 (h3 a0 1) 0) * (h3 (h3 a0 7) (3 * a1))), vI ((h3 (h3 a0 1) 1) * (h3 (h3 a0 7) ((3 * a1) + 1))), vI ((h3 (h3 a0 1) 2) * (h3 (h3 a0 7) ((3 * a1) + 2)))]) (st := []) dX9_within_78 ml_X9_101 cs_X9_areSizes rfl rfl (Nat.le_of_ble_eq_true rfl) ⟨Nat.le_refl _, Nat.le_refl _⟩ (R_mono (fun r16 G17 h18 H => ?_) H)
      show S l MX9_within (d + 1, 0, 0, 0, 0) 81 [some (vR a0), some (vI a1), some (vI (h3 (h3 a0 7) (3 * a1))), some (vI (h3 (h3 a0 7) ((3 * a1) + 1))), some (vI (h3 (h3 a0 7) ((3 * a1) + 2))), none, none, none, none, none] [vI r16] G17 h18 Q
      have f19 := H.1
      replace H := H.2
      refine s_if_ne (tgt := 87) dX9_within_81 (by decide) f19 (fun c20 => ?_) (fun c20 => ?_)
      · replace H := H.1 c20
        refine s_aload_n dX9_within_87 rfl rfl ?_
        have f21 := H.1
        replace H := H.2
        refine s_getf (c := 9) (k := 4) (t := 0) (j := 4) dX9_within_88 fl_X9_85 (by decide) (by decide) rfl rfl f21 ?_
        refine s_aload_n dX9_within_91 rfl rfl ?_
        refine s_getf (c := 9) (k := 10) (t := 2) (j := 10) dX9_within_92 fl_X9_39 (by decide) (by decide) rfl rfl f21 ?_
        refine s_iload_n dX9_within_95 rfl rfl ?_
        have f22 := H.1
        replace H := H.2
        refine s_iald dX9_within_96 f22 ?_
        refine s_imul dX9_within_97 ?_
        refine s_bipush dX9_within_98 (by decide) ?_
        have f23 := H.1
        replace H := H.2
        refine s_icmp_le (tgt := 106) dX9_within_100 (by decide) f23 (by decide) (fun c24 => ?_) (fun c24 => ?_)
        · replace H := H.1 c24
          refine s_iconst dX9_within_106 ?_
          refine s_istore dX9_within_107 (by decide) rfl ?_
          show S l MX9_within (d + 1, 0, 0, 0, 0) 109 [some (vR a0), some (vI a1), some (vI (h3 (h3 a0 7) (3 * a1))), some (vI (h3 (h3 a0 7) ((3 * a1) + 1))), some (vI (h3 (h3 a0 7) ((3 * a1) + 2))), some (vI 0), none, none, none, none] [] G17 h18 Q
          exact S_cut (by first | exact ⟨rfl, ⟨rfl, ⟨rfl, ⟨rfl, ⟨rfl, ⟨rfl, trivial⟩⟩⟩⟩⟩⟩ | simp [lsub]) H
        · replace H := H.2 c24
          refine s_bipush dX9_within_103 (by decide) ?_
          exact s_iret dX9_within_105 rfl ⟨Nat.le_refl _, Nat.le_refl _⟩ H
      · replace H := H.2 c20
        refine s_bipush dX9_within_84 (by decide) ?_
        exact s_iret dX9_within_86 rfl ⟨Nat.le_refl _, Nat.le_refl _⟩ H
    · replace H := H.2 c9
      refine s_bipush dX9_within_18 (by decide) ?_
      exact s_iret dX9_within_20 rfl ⟨Nat.le_refl _, Nat.le_refl _⟩ H
  · replace H := H.2 c5
    refine s_iconst dX9_within_7 ?_
    exact s_iret dX9_within_8 rfl ⟨Nat.le_refl _, Nat.le_refl _⟩ H
set_option maxHeartbeats 4000000 in
set_option maxRecDepth 100000 in
theorem vX9_within_109 {l : Launch} {d : Nat} {G : GS} {h : HP} {Q : Int → GS → HP → Prop} (a0 a1 a2 a3 a4 a5 : Int) (H : (inR a5) ∧ ((729 ≤ a5 → S l MX9_within (d + 1, 0, 0, 0, 0) 280 [some (vR a0), some (vI a1), none, none, none, some (vI 0), some (vI 0), none, none, none] [] G h Q) ∧ (a5 < 729 → (dvR a5 81) ∧ (dvR a5 9) ∧ (dvR (a5 / 9) 9) ∧ (ty G a0 = 9) ∧ (inA G 10 (h a0 1) 0) ∧ (inR (a5 / 81)) ∧ (inR ((h (h a0 1) 0) * a2)) ∧ ((((h (h a0 1) 0) * a2) ≤ (a5 / 81) → (inA G 10 (h a0 12) a5) ∧ ∀ h13 : HP, h13 = hset h (h a0 12) a5 0 → S l MX9_within (d + 1, 0, 0, 0, 0) 109 [some (vR a0), some (vI a1), some (vI a2), some (vI a3), some (vI a4), some (vI (a5 + 1)), none, none, none, none] [] G h13 Q) ∧ ((a5 / 81) < ((h (h a0 1) 0) * a2) → (inA G 10 (h a0 1) 1) ∧ (inR ((a5 / 9) % 9)) ∧ (inR ((h (h a0 1) 1) * a3)) ∧ ((((h (h a0 1) 1) * a3) ≤ ((a5 / 9) % 9) → (inA G 10 (h a0 12) a5) ∧ ∀ h20 : HP, h20 = hset h (h a0 12) a5 0 → S l MX9_within (d + 1, 0, 0, 0, 0) 109 [some (vR a0), some (vI a1), some (vI a2), some (vI a3), some (vI a4), some (vI (a5 + 1)), none, none, none, none] [] G h20 Q) ∧ (((a5 / 9) % 9) < ((h (h a0 1) 1) * a3) → (inA G 10 (h a0 1) 2) ∧ (inR (a5 % 9)) ∧ (inR ((h (h a0 1) 2) * a4)) ∧ ((((h (h a0 1) 2) * a4) ≤ (a5 % 9) → (inA G 10 (h a0 12) a5) ∧ ∀ h27 : HP, h27 = hset h (h a0 12) a5 0 → S l MX9_within (d + 1, 0, 0, 0, 0) 109 [some (vR a0), some (vI a1), some (vI a2), some (vI a3), some (vI a4), some (vI (a5 + 1)), none, none, none, none] [] G h27 Q) ∧ ((a5 % 9) < ((h (h a0 1) 2) * a4) → (dvR (a5 / 81) a2) ∧ (dvR ((a5 / 9) % 9) a3) ∧ (dvR (a5 % 9) a4) ∧ (inA G 10 (h a0 2) (((81 * ((a5 / 81) / a2)) + (9 * (((a5 / 9) % 9) / a3))) + ((a5 % 9) / a4))) ∧ (inA G 10 (h a0 8) ((((729 * a1) + (81 * ((a5 / 81) % a2))) + (9 * (((a5 / 9) % 9) % a3))) + ((a5 % 9) % a4))) ∧ (dvR ((h (h a0 2) (((81 * ((a5 / 81) / a2)) + (9 * (((a5 / 9) % 9) / a3))) + ((a5 % 9) / a4))) * (h (h a0 8) ((((729 * a1) + (81 * ((a5 / 81) % a2))) + (9 * (((a5 / 9) % 9) % a3))) + ((a5 % 9) % a4)))) (h a0 0)) ∧ (inA G 10 (h a0 12) a5) ∧ ∀ h36 : HP, h36 = hset h (h a0 12) a5 (((h (h a0 2) (((81 * ((a5 / 81) / a2)) + (9 * (((a5 / 9) % 9) / a3))) + ((a5 % 9) / a4))) * (h (h a0 8) ((((729 * a1) + (81 * ((a5 / 81) % a2))) + (9 * (((a5 / 9) % 9) % a3))) + ((a5 % 9) % a4)))) % (h a0 0)) → S l MX9_within (d + 1, 0, 0, 0, 0) 109 [some (vR a0), some (vI a1), some (vI a2), some (vI a3), some (vI a4), some (vI (a5 + 1)), none, none, none, none] [] G h36 Q))))))))) : S l MX9_within (d + 1, 0, 0, 0, 0) 109 [some (vR a0), some (vI a1), some (vI a2), some (vI a3), some (vI a4), some (vI a5), none, none, none, none] [] G h Q := by
  refine s_iload dX9_within_109 rfl ?_
  refine s_sipush dX9_within_111 (by decide) ?_
  have f1 := H.1
  replace H := H.2
  refine s_icmp_ge (tgt := 274) dX9_within_114 (by decide) f1 (by decide) (fun c2 => ?_) (fun c2 => ?_)
  · replace H := H.1 c2
    refine s_iconst dX9_within_274 ?_
    refine s_istore dX9_within_275 (by decide) rfl ?_
    show S l MX9_within (d + 1, 0, 0, 0, 0) 277 [some (vR a0), some (vI a1), some (vI a2), some (vI a3), some (vI a4), some (vI 0), none, none, none, none] [] G h Q
    refine s_iconst dX9_within_277 ?_
    refine s_istore dX9_within_278 (by decide) rfl ?_
    show S l MX9_within (d + 1, 0, 0, 0, 0) 280 [some (vR a0), some (vI a1), some (vI a2), some (vI a3), some (vI a4), some (vI 0), some (vI 0), none, none, none] [] G h Q
    exact S_cut (by first | exact ⟨rfl, ⟨rfl, ⟨rfl, ⟨rfl, trivial⟩⟩⟩⟩ | simp [lsub]) H
  · replace H := H.2 c2
    refine s_iload dX9_within_117 rfl ?_
    refine s_bipush dX9_within_119 (by decide) ?_
    have f3 := H.1
    replace H := H.2
    refine s_idiv dX9_within_121 f3 ?_
    refine s_istore dX9_within_122 (by decide) rfl ?_
    show S l MX9_within (d + 1, 0, 0, 0, 0) 124 [some (vR a0), some (vI a1), some (vI a2), some (vI a3), some (vI a4), some (vI a5), some (vI (a5 / 81)), none, none, none] [] G h Q
    refine s_iload dX9_within_124 rfl ?_
    refine s_bipush dX9_within_126 (by decide) ?_
    have f4 := H.1
    replace H := H.2
    refine s_idiv dX9_within_128 f4 ?_
    refine s_bipush dX9_within_129 (by decide) ?_
    have f5 := H.1
    replace H := H.2
    refine s_irem dX9_within_131 f5 ?_
    refine s_istore dX9_within_132 (by decide) rfl ?_
    show S l MX9_within (d + 1, 0, 0, 0, 0) 134 [some (vR a0), some (vI a1), some (vI a2), some (vI a3), some (vI a4), some (vI a5), some (vI (a5 / 81)), some (vI ((a5 / 9) % 9)), none, none] [] G h Q
    refine s_iload dX9_within_134 rfl ?_
    refine s_bipush dX9_within_136 (by decide) ?_
    refine s_irem dX9_within_138 f4 ?_
    refine s_istore dX9_within_139 (by decide) rfl ?_
    show S l MX9_within (d + 1, 0, 0, 0, 0) 141 [some (vR a0), some (vI a1), some (vI a2), some (vI a3), some (vI a4), some (vI a5), some (vI (a5 / 81)), some (vI ((a5 / 9) % 9)), some (vI (a5 % 9)), none] [] G h Q
    refine s_iload dX9_within_141 rfl ?_
    refine s_aload_n dX9_within_143 rfl rfl ?_
    have f6 := H.1
    replace H := H.2
    refine s_getf (c := 9) (k := 1) (t := 2) (j := 1) dX9_within_144 fl_X9_13 (by decide) (by decide) rfl rfl f6 ?_
    refine s_iconst dX9_within_147 ?_
    have f7 := H.1
    replace H := H.2
    refine s_iald dX9_within_148 f7 ?_
    refine s_iload_n dX9_within_149 rfl rfl ?_
    refine s_imul dX9_within_150 ?_
    have f8 := H.1
    replace H := H.2
    have f9 := H.1
    replace H := H.2
    refine s_icmp_ge (tgt := 185) dX9_within_151 (by decide) f8 f9 (fun c10 => ?_) (fun c10 => ?_)
    · replace H := H.1 c10
      refine s_iconst dX9_within_185 ?_
      refine s_istore dX9_within_186 (by decide) rfl ?_
      show S l MX9_within (d + 1, 0, 0, 0, 0) 188 [some (vR a0), some (vI a1), some (vI a2), some (vI a3), some (vI a4), some (vI a5), some (vI (a5 / 81)), some (vI ((a5 / 9) % 9)), some (vI (a5 % 9)), some (vI 0)] [] G h Q
      refine s_aload_n dX9_within_188 rfl rfl ?_
      refine s_getf (c := 9) (k := 12) (t := 2) (j := 12) dX9_within_189 fl_X9_45 (by decide) (by decide) rfl rfl f6 ?_
      refine s_iload dX9_within_192 rfl ?_
      refine s_iload dX9_within_194 rfl ?_
      refine s_if_ne (tgt := 203) dX9_within_196 (by decide) (by decide) (fun c11 => absurd c11 (by decide)) (fun _ => ?_)
      refine s_iconst dX9_within_199 ?_
      refine s_goto (tgt := 267) dX9_within_200 (by decide) ?_
      have f12 := H.1
      replace H := H.2
      refine s_iastH dX9_within_267 f12 (fun h13 eh13 => ?_)
      replace H := H h13 eh13
      refine s_iinc dX9_within_268 rfl (by decide) rfl ?_
      show S l MX9_within (d + 1, 0, 0, 0, 0) 271 [some (vR a0), some (vI a1), some (vI a2), some (vI a3), some (vI a4), some (vI (a5 + 1)), some (vI (a5 / 81)), some (vI ((a5 / 9) % 9)), some (vI (a5 % 9)), some (vI 0)] [] G h13 Q
      refine s_goto (tgt := 109) dX9_within_271 (by decide) ?_
      exact S_cut (by first | exact ⟨rfl, ⟨rfl, ⟨rfl, ⟨rfl, ⟨rfl, ⟨rfl, trivial⟩⟩⟩⟩⟩⟩ | simp [lsub]) H
    · replace H := H.2 c10
      refine s_iload dX9_within_154 rfl ?_
      refine s_aload_n dX9_within_156 rfl rfl ?_
      refine s_getf (c := 9) (k := 1) (t := 2) (j := 1) dX9_within_157 fl_X9_13 (by decide) (by decide) rfl rfl f6 ?_
      refine s_iconst dX9_within_160 ?_
      have f14 := H.1
      replace H := H.2
      refine s_iald dX9_within_161 f14 ?_
      refine s_iload_n dX9_within_162 rfl rfl ?_
      refine s_imul dX9_within_163 ?_
      have f15 := H.1
      replace H := H.2
      have f16 := H.1
      replace H := H.2
      refine s_icmp_ge (tgt := 185) dX9_within_164 (by decide) f15 f16 (fun c17 => ?_) (fun c17 => ?_)
      · replace H := H.1 c17
        refine s_iconst dX9_within_185 ?_
        refine s_istore dX9_within_186 (by decide) rfl ?_
        show S l MX9_within (d + 1, 0, 0, 0, 0) 188 [some (vR a0), some (vI a1), some (vI a2), some (vI a3), some (vI a4), some (vI a5), some (vI (a5 / 81)), some (vI ((a5 / 9) % 9)), some (vI (a5 % 9)), some (vI 0)] [] G h Q
        refine s_aload_n dX9_within_188 rfl rfl ?_
        refine s_getf (c := 9) (k := 12) (t := 2) (j := 12) dX9_within_189 fl_X9_45 (by decide) (by decide) rfl rfl f6 ?_
        refine s_iload dX9_within_192 rfl ?_
        refine s_iload dX9_within_194 rfl ?_
        refine s_if_ne (tgt := 203) dX9_within_196 (by decide) (by decide) (fun c18 => absurd c18 (by decide)) (fun _ => ?_)
        refine s_iconst dX9_within_199 ?_
        refine s_goto (tgt := 267) dX9_within_200 (by decide) ?_
        have f19 := H.1
        replace H := H.2
        refine s_iastH dX9_within_267 f19 (fun h20 eh20 => ?_)
        replace H := H h20 eh20
        refine s_iinc dX9_within_268 rfl (by decide) rfl ?_
        show S l MX9_within (d + 1, 0, 0, 0, 0) 271 [some (vR a0), some (vI a1), some (vI a2), some (vI a3), some (vI a4), some (vI (a5 + 1)), some (vI (a5 / 81)), some (vI ((a5 / 9) % 9)), some (vI (a5 % 9)), some (vI 0)] [] G h20 Q
        refine s_goto (tgt := 109) dX9_within_271 (by decide) ?_
        exact S_cut (by first | exact ⟨rfl, ⟨rfl, ⟨rfl, ⟨rfl, ⟨rfl, ⟨rfl, trivial⟩⟩⟩⟩⟩⟩ | simp [lsub]) H
      · replace H := H.2 c17
        refine s_iload dX9_within_167 rfl ?_
        refine s_aload_n dX9_within_169 rfl rfl ?_
        refine s_getf (c := 9) (k := 1) (t := 2) (j := 1) dX9_within_170 fl_X9_13 (by decide) (by decide) rfl rfl f6 ?_
        refine s_iconst dX9_within_173 ?_
        have f21 := H.1
        replace H := H.2
        refine s_iald dX9_within_174 f21 ?_
        refine s_iload dX9_within_175 rfl ?_
        refine s_imul dX9_within_177 ?_
        have f22 := H.1
        replace H := H.2
        have f23 := H.1
        replace H := H.2
        refine s_icmp_ge (tgt := 185) dX9_within_178 (by decide) f22 f23 (fun c24 => ?_) (fun c24 => ?_)
        · replace H := H.1 c24
          refine s_iconst dX9_within_185 ?_
          refine s_istore dX9_within_186 (by decide) rfl ?_
          show S l MX9_within (d + 1, 0, 0, 0, 0) 188 [some (vR a0), some (vI a1), some (vI a2), some (vI a3), some (vI a4), some (vI a5), some (vI (a5 / 81)), some (vI ((a5 / 9) % 9)), some (vI (a5 % 9)), some (vI 0)] [] G h Q
          refine s_aload_n dX9_within_188 rfl rfl ?_
          refine s_getf (c := 9) (k := 12) (t := 2) (j := 12) dX9_within_189 fl_X9_45 (by decide) (by decide) rfl rfl f6 ?_
          refine s_iload dX9_within_192 rfl ?_
          refine s_iload dX9_within_194 rfl ?_
          refine s_if_ne (tgt := 203) dX9_within_196 (by decide) (by decide) (fun c25 => absurd c25 (by decide)) (fun _ => ?_)
          refine s_iconst dX9_within_199 ?_
          refine s_goto (tgt := 267) dX9_within_200 (by decide) ?_
          have f26 := H.1
          replace H := H.2
          refine s_iastH dX9_within_267 f26 (fun h27 eh27 => ?_)
          replace H := H h27 eh27
          refine s_iinc dX9_within_268 rfl (by decide) rfl ?_
          show S l MX9_within (d + 1, 0, 0, 0, 0) 271 [some (vR a0), some (vI a1), some (vI a2), some (vI a3), some (vI a4), some (vI (a5 + 1)), some (vI (a5 / 81)), some (vI ((a5 / 9) % 9)), some (vI (a5 % 9)), some (vI 0)] [] G h27 Q
          refine s_goto (tgt := 109) dX9_within_271 (by decide) ?_
          exact S_cut (by first | exact ⟨rfl, ⟨rfl, ⟨rfl, ⟨rfl, ⟨rfl, ⟨rfl, trivial⟩⟩⟩⟩⟩⟩ | simp [lsub]) H
        · replace H := H.2 c24
          refine s_iconst dX9_within_181 ?_
          refine s_goto (tgt := 186) dX9_within_182 (by decide) ?_
          refine s_istore dX9_within_186 (by decide) rfl ?_
          show S l MX9_within (d + 1, 0, 0, 0, 0) 188 [some (vR a0), some (vI a1), some (vI a2), some (vI a3), some (vI a4), some (vI a5), some (vI (a5 / 81)), some (vI ((a5 / 9) % 9)), some (vI (a5 % 9)), some (vI 1)] [] G h Q
          refine s_aload_n dX9_within_188 rfl rfl ?_
          refine s_getf (c := 9) (k := 12) (t := 2) (j := 12) dX9_within_189 fl_X9_45 (by decide) (by decide) rfl rfl f6 ?_
          refine s_iload dX9_within_192 rfl ?_
          refine s_iload dX9_within_194 rfl ?_
          refine s_if_ne (tgt := 203) dX9_within_196 (by decide) (by decide) (fun _ => ?_) (fun c28 => absurd c28 (by decide))
          refine s_aload_n dX9_within_203 rfl rfl ?_
          refine s_getf (c := 9) (k := 2) (t := 2) (j := 2) dX9_within_204 fl_X9_17 (by decide) (by decide) rfl rfl f6 ?_
          refine s_bipush dX9_within_207 (by decide) ?_
          refine s_iload dX9_within_209 rfl ?_
          refine s_iload_n dX9_within_211 rfl rfl ?_
          have f29 := H.1
          replace H := H.2
          refine s_idiv dX9_within_212 f29 ?_
          refine s_imul dX9_within_213 ?_
          refine s_bipush dX9_within_214 (by decide) ?_
          refine s_iload dX9_within_216 rfl ?_
          refine s_iload_n dX9_within_218 rfl rfl ?_
          have f30 := H.1
          replace H := H.2
          refine s_idiv dX9_within_219 f30 ?_
          refine s_imul dX9_within_220 ?_
          refine s_iadd dX9_within_221 ?_
          refine s_iload dX9_within_222 rfl ?_
          refine s_iload dX9_within_224 rfl ?_
          have f31 := H.1
          replace H := H.2
          refine s_idiv dX9_within_226 f31 ?_
          refine s_iadd dX9_within_227 ?_
          have f32 := H.1
          replace H := H.2
          refine s_iald dX9_within_228 f32 ?_
          refine s_aload_n dX9_within_229 rfl rfl ?_
          refine s_getf (c := 9) (k := 8) (t := 2) (j := 8) dX9_within_230 fl_X9_33 (by decide) (by decide) rfl rfl f6 ?_
          refine s_sipush dX9_within_233 (by decide) ?_
          refine s_iload_n dX9_within_236 rfl rfl ?_
          refine s_imul dX9_within_237 ?_
          refine s_bipush dX9_within_238 (by decide) ?_
          refine s_iload dX9_within_240 rfl ?_
          refine s_iload_n dX9_within_242 rfl rfl ?_
          refine s_irem dX9_within_243 f29 ?_
          refine s_imul dX9_within_244 ?_
          refine s_iadd dX9_within_245 ?_
          refine s_bipush dX9_within_246 (by decide) ?_
          refine s_iload dX9_within_248 rfl ?_
          refine s_iload_n dX9_within_250 rfl rfl ?_
          refine s_irem dX9_within_251 f30 ?_
          refine s_imul dX9_within_252 ?_
          refine s_iadd dX9_within_253 ?_
          refine s_iload dX9_within_254 rfl ?_
          refine s_iload dX9_within_256 rfl ?_
          refine s_irem dX9_within_258 f31 ?_
          refine s_iadd dX9_within_259 ?_
          have f33 := H.1
          replace H := H.2
          refine s_iald dX9_within_260 f33 ?_
          refine s_imul dX9_within_261 ?_
          refine s_aload_n dX9_within_262 rfl rfl ?_
          refine s_getf (c := 9) (k := 0) (t := 0) (j := 0) dX9_within_263 fl_X9_7 (by decide) (by decide) rfl rfl f6 ?_
          have f34 := H.1
          replace H := H.2
          refine s_irem dX9_within_266 f34 ?_
          have f35 := H.1
          replace H := H.2
          refine s_iastH dX9_within_267 f35 (fun h36 eh36 => ?_)
          replace H := H h36 eh36
          refine s_iinc dX9_within_268 rfl (by decide) rfl ?_
          show S l MX9_within (d + 1, 0, 0, 0, 0) 271 [some (vR a0), some (vI a1), some (vI a2), some (vI a3), some (vI a4), some (vI (a5 + 1)), some (vI (a5 / 81)), some (vI ((a5 / 9) % 9)), some (vI (a5 % 9)), some (vI 1)] [] G h36 Q
          refine s_goto (tgt := 109) dX9_within_271 (by decide) ?_
          exact S_cut (by first | exact ⟨rfl, ⟨rfl, ⟨rfl, ⟨rfl, ⟨rfl, ⟨rfl, trivial⟩⟩⟩⟩⟩⟩ | simp [lsub]) H
