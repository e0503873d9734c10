set_option maxHeartbeats 4000000 in
set_option maxRecDepth 100000 in
theorem vX9_within_280 {l : Launch} {d : Nat} {G : GS} {h : HP} {Q : Int → GS → HP → Prop} (a0 a1 a5 a6 : Int) (H : (ty G a0 = 9) ∧ (inR a6) ∧ (inR (h a0 4)) ∧ (((h a0 4) ≤ a6 → ∀ h5 : HP, h5 = hset h a0 4 a5 → S l MX9_within (d + 1, 0, 0, 0, 0) 375 [some (vR a0), some (vI a1), none, none, none, some (vI a5), some (vI 0), none, none, none] [] G h5 Q) ∧ (a6 < (h a0 4) → S l MX9_within (d + 1, 0, 0, 0, 0) 292 [some (vR a0), some (vI a1), none, none, none, some (vI a5), some (vI a6), some (vI 0), none, none] [] G h Q))) : S l MX9_within (d + 1, 0, 0, 0, 0) 280 [some (vR a0), some (vI a1), none, none, none, some (vI a5), some (vI a6), none, none, none] [] G h Q := by
  refine s_iload dX9_within_280 rfl ?_
  refine s_aload_n dX9_within_282 rfl rfl ?_
  have f1 := H.1
  replace H := H.2
  refine s_getf (c := 9) (k := 4) (t := 0) (j := 4) dX9_within_283 fl_X9_85 (by decide) (by decide) rfl rfl f1 ?_
  have f2 := H.1
  replace H := H.2
  have f3 := H.1
  replace H := H.2
  refine s_icmp_ge (tgt := 366) dX9_within_286 (by decide) f2 f3 (fun c4 => ?_) (fun c4 => ?_)
  · replace H := H.1 c4
    refine s_aload_n dX9_within_366 rfl rfl ?_
    refine s_iload dX9_within_367 rfl ?_
    refine s_putI (c := 9) (k := 4) (j := 4) dX9_within_369 fl_X9_85 (by decide) (by decide) rfl rfl rfl f1 (fun h5 eh5 => ?_)
    replace H := H h5 eh5
    refine s_iconst dX9_within_372 ?_
    refine s_istore dX9_within_373 (by decide) rfl ?_
    show S l MX9_within (d + 1, 0, 0, 0, 0) 375 [some (vR a0), some (vI a1), none, none, none, some (vI a5), some (vI 0), none, none, none] [] G h5 Q
    exact S_cut (by first | exact ⟨rfl, ⟨rfl, ⟨rfl, ⟨rfl, trivial⟩⟩⟩⟩ | simp [lsub]) H
  · replace H := H.2 c4
    refine s_iconst dX9_within_289 ?_
    refine s_istore dX9_within_290 (by decide) rfl ?_
    show S l MX9_within (d + 1, 0, 0, 0, 0) 292 [some (vR a0), some (vI a1), none, none, none, some (vI a5), some (vI a6), some (vI 0), none, none] [] G h Q
    exact S_cut (by first | exact ⟨rfl, ⟨rfl, ⟨rfl, ⟨rfl, ⟨rfl, trivial⟩⟩⟩⟩⟩ | simp [lsub]) H
set_option maxHeartbeats 4000000 in
set_option maxRecDepth 100000 in
theorem vX9_within_375 {l : Launch} {d : Nat} {G : GS} {h : HP} {Q : Int → GS → HP → Prop} (a0 a1 a5 a6 : Int) (H : (inR a6) ∧ ((729 ≤ a6 → S l MX9_within (d + 1, 0, 0, 0, 0) 406 [some (vR a0), some (vI a1), none, none, none, some (vI a5), some (vI 0), none, none, none] [] G h Q) ∧ (a6 < 729 → (ty G a0 = 9) ∧ (inA G 10 (h a0 12) a6) ∧ (inA G 10 (h a0 2) a6) ∧ ∀ h6 : HP, h6 = hset h (h a0 2) a6 (h (h a0 12) a6) → S l MX9_within (d + 1, 0, 0, 0, 0) 375 [some (vR a0), some (vI a1), none, none, none, some (vI a5), some (vI (a6 + 1)), none, none, none] [] G h6 Q))) : S l MX9_within (d + 1, 0, 0, 0, 0) 375 [some (vR a0), some (vI a1), none, none, none, some (vI a5), some (vI a6), none, none, none] [] G h Q := by
  refine s_iload dX9_within_375 rfl ?_
  refine s_sipush dX9_within_377 (by decide) ?_
  have f1 := H.1
  replace H := H.2
  refine s_icmp_ge (tgt := 403) dX9_within_380 (by decide) f1 (by decide) (fun c2 => ?_) (fun c2 => ?_)
  · replace H := H.1 c2
    refine s_iconst dX9_within_403 ?_
    refine s_istore dX9_within_404 (by decide) rfl ?_
    show S l MX9_within (d + 1, 0, 0, 0, 0) 406 [some (vR a0), some (vI a1), none, none, none, some (vI a5), some (vI 0), none, none, none] [] G h Q
    exact S_cut (by first | exact ⟨rfl, ⟨rfl, ⟨rfl, ⟨rfl, trivial⟩⟩⟩⟩ | simp [lsub]) H
  · replace H := H.2 c2
    refine s_aload_n dX9_within_383 rfl rfl ?_
    have f3 := H.1
    replace H := H.2
    refine s_getf (c := 9) (k := 2) (t := 2) (j := 2) dX9_within_384 fl_X9_17 (by decide) (by decide) rfl rfl f3 ?_
    refine s_iload dX9_within_387 rfl ?_
    refine s_aload_n dX9_within_389 rfl rfl ?_
    refine s_getf (c := 9) (k := 12) (t := 2) (j := 12) dX9_within_390 fl_X9_45 (by decide) (by decide) rfl rfl f3 ?_
    refine s_iload dX9_within_393 rfl ?_
    have f4 := H.1
    replace H := H.2
    refine s_iald dX9_within_395 f4 ?_
    have f5 := H.1
    replace H := H.2
    refine s_iastH dX9_within_396 f5 (fun h6 eh6 => ?_)
    replace H := H h6 eh6
    refine s_iinc dX9_within_397 rfl (by decide) rfl ?_
    show S l MX9_within (d + 1, 0, 0, 0, 0) 400 [some (vR a0), some (vI a1), none, none, none, some (vI a5), some (vI (a6 + 1)), none, none, none] [] G h6 Q
    refine s_goto (tgt := 375) dX9_within_400 (by decide) ?_
    exact S_cut (by first | exact ⟨rfl, ⟨rfl, ⟨rfl, ⟨rfl, trivial⟩⟩⟩⟩ | simp [lsub]) H
set_option maxHeartbeats 4000000 in
set_option maxRecDepth 100000 in
theorem vX9_within_292 {l : Launch} {d : Nat} {G : GS} {h : HP} {Q : Int → GS → HP → Prop} (a0 a1 a5 a6 a7 : Int) (H : (ty G a0 = 9) ∧ (inA G 10 (h a0 10) a1) ∧ (inR a7) ∧ (inR (h (h a0 10) a1)) ∧ (((h (h a0 10) a1) ≤ a7 → S l MX9_within (d + 1, 0, 0, 0, 0) 280 [some (vR a0), some (vI a1), none, none, none, some (vI a5), some (vI (a6 + 1)), none, none, none] [] G h Q) ∧ (a7 < (h (h a0 10) a1) → S l MX9_within (d + 1, 0, 0, 0, 0) 306 [some (vR a0), some (vI a1), none, none, none, some (vI a5), some (vI a6), some (vI a7), some (vI 0), none] [] G h Q))) : S l MX9_within (d + 1, 0, 0, 0, 0) 292 [some (vR a0), some (vI a1), none, none, none, some (vI a5), some (vI a6), some (vI a7), none, none] [] G h Q := by
  refine s_iload dX9_within_292 rfl ?_
  refine s_aload_n dX9_within_294 rfl rfl ?_
  have f1 := H.1
  replace H := H.2
  refine s_getf (c := 9) (k := 10) (t := 2) (j := 10) dX9_within_295 fl_X9_39 (by decide) (by decide) rfl rfl f1 ?_
  refine s_iload_n dX9_within_298 rfl rfl ?_
  have f2 := H.1
  replace H := H.2
  refine s_iald dX9_within_299 f2 ?_
  have f3 := H.1
  replace H := H.2
  have f4 := H.1
  replace H := H.2
  refine s_icmp_ge (tgt := 360) dX9_within_300 (by decide) f3 f4 (fun c5 => ?_) (fun c5 => ?_)
  · replace H := H.1 c5
    refine s_iinc dX9_within_360 rfl (by decide) rfl ?_
    show S l MX9_within (d + 1, 0, 0, 0, 0) 363 [some (vR a0), some (vI a1), none, none, none, some (vI a5), some (vI (a6 + 1)), some (vI a7), none, none] [] G h Q
    refine s_goto (tgt := 280) dX9_within_363 (by decide) ?_
    exact S_cut (by first | exact ⟨rfl, ⟨rfl, ⟨rfl, ⟨rfl, trivial⟩⟩⟩⟩ | simp [lsub]) H
  · replace H := H.2 c5
    refine s_iconst dX9_within_303 ?_
    refine s_istore dX9_within_304 (by decide) rfl ?_
    show S l MX9_within (d + 1, 0, 0, 0, 0) 306 [some (vR a0), some (vI a1), none, none, none, some (vI a5), some (vI a6), some (vI a7), some (vI 0), none] [] G h Q
    exact S_cut (by first | exact ⟨rfl, ⟨rfl, ⟨rfl, ⟨rfl, ⟨rfl, ⟨rfl, trivial⟩⟩⟩⟩⟩⟩ | simp [lsub]) H
set_option maxHeartbeats 4000000 in
set_option maxRecDepth 100000 in
theorem vX9_within_406 {l : Launch} {d : Nat} {G : GS} {h : HP} {Q : Int → GS → HP → Prop} (a0 a1 a5 a6 : Int) (H : (inR a6) ∧ (inR (27 * a5)) ∧ (((27 * a5) ≤ a6 → S l MX9_within (d + 1, 0, 0, 0, 0) 439 [some (vR a0), some (vI a1), none, none, none, none, some (vI 0), none, none, none] [] G h Q) ∧ (a6 < (27 * a5) → (ty G a0 = 9) ∧ (inA G 10 (h a0 13) a6) ∧ (inA G 10 (h a0 3) a6) ∧ ∀ h7 : HP, h7 = hset h (h a0 3) a6 (h (h a0 13) a6) → S l MX9_within (d + 1, 0, 0, 0, 0) 406 [some (vR a0), some (vI a1), none, none, none, some (vI a5), some (vI (a6 + 1)), none, none, none] [] G h7 Q))) : S l MX9_within (d + 1, 0, 0, 0, 0) 406 [some (vR a0), some (vI a1), none, none, none, some (vI a5), some (vI a6), none, none, none] [] G h Q := by
  refine s_iload dX9_within_406 rfl ?_
  refine s_bipush dX9_within_408 (by decide) ?_
  refine s_iload dX9_within_410 rfl ?_
  refine s_imul dX9_within_412 ?_
  have f1 := H.1
  replace H := H.2
  have f2 := H.1
  replace H := H.2
  refine s_icmp_ge (tgt := 436) dX9_within_413 (by decide) f1 f2 (fun c3 => ?_) (fun c3 => ?_)
  · replace H := H.1 c3
    refine s_iconst dX9_within_436 ?_
    refine s_istore dX9_within_437 (by decide) rfl ?_
    show S l MX9_within (d + 1, 0, 0, 0, 0) 439 [some (vR a0), some (vI a1), none, none, none, some (vI a5), some (vI 0), none, none, none] [] G h Q
    exact S_cut (by first | exact ⟨rfl, ⟨rfl, ⟨rfl, trivial⟩⟩⟩ | simp [lsub]) H
  · replace H := H.2 c3
    refine s_aload_n dX9_within_416 rfl rfl ?_
    have f4 := H.1
    replace H := H.2
    refine s_getf (c := 9) (k := 3) (t := 2) (j := 3) dX9_within_417 fl_X9_20 (by decide) (by decide) rfl rfl f4 ?_
    refine s_iload dX9_within_420 rfl ?_
    refine s_aload_n dX9_within_422 rfl rfl ?_
    refine s_getf (c := 9) (k := 13) (t := 2) (j := 13) dX9_within_423 fl_X9_48 (by decide) (by decide) rfl rfl f4 ?_
    refine s_iload dX9_within_426 rfl ?_
    have f5 := H.1
    replace H := H.2
    refine s_iald dX9_within_428 f5 ?_
    have f6 := H.1
    replace H := H.2
    refine s_iastH dX9_within_429 f6 (fun h7 eh7 => ?_)
    replace H := H h7 eh7
    refine s_iinc dX9_within_430 rfl (by decide) rfl ?_
    show S l MX9_within (d + 1, 0, 0, 0, 0) 433 [some (vR a0), some (vI a1), none, none, none, some (vI a5), some (vI (a6 + 1)), none, none, none] [] G h7 Q
    refine s_goto (tgt := 406) dX9_within_433 (by decide) ?_
    exact S_cut (by first | exact ⟨rfl, ⟨rfl, ⟨rfl, ⟨rfl, trivial⟩⟩⟩⟩ | simp [lsub]) H
set_option maxHeartbeats 4000000 in
set_option maxRecDepth 100000 in
theorem vX9_within_306 {l : Launch} {d : Nat} {G : GS} {h : HP} {Q : Int → GS → HP → Prop} (a0 a1 a5 a6 a7 a8 : Int) (H : (inR a8) ∧ ((27 ≤ a8 → S l MX9_within (d + 1, 0, 0, 0, 0) 292 [some (vR a0), some (vI a1), none, none, none, some (vI (a5 + 1)), some (vI a6), some (vI (a7 + 1)), none, none] [] G h Q) ∧ (a8 < 27 → (ty G a0 = 9) ∧ (dvR a8 9) ∧ R l MX9_productAt d 0 0 [vR a0, vI a1, vI a6, vI a7, vI (a8 / 9), vI (a8 % 9)] G h (fun r5 G6 h7 => (inA G6 10 (h a0 13) ((27 * a5) + a8)) ∧ ∀ h9 : HP, h9 = hset h7 (h a0 13) ((27 * a5) + a8) r5 → S l MX9_within (d + 1, 0, 0, 0, 0) 306 [some (vR a0), some (vI a1), none, none, none, some (vI a5), some (vI a6), some (vI a7), some (vI (a8 + 1)), none] [] G6 h9 Q)))) : S l MX9_within (d + 1, 0, 0, 0, 0) 306 [some (vR a0), some (vI a1), none, none, none, some (vI a5), some (vI a6), some (vI a7), some (vI a8), none] [] G h Q := by
  refine s_iload dX9_within_306 rfl ?_
  refine s_bipush dX9_within_308 (by decide) ?_
  have f1 := H.1
  replace H := H.2
  refine s_icmp_ge (tgt := 351) dX9_within_310 (by decide) f1 (by decide) (fun c2 => ?_) (fun c2 => ?_)
  · replace H := H.1 c2
    refine s_iinc dX9_within_351 rfl (by decide) rfl ?_
    show S l MX9_within (d + 1, 0, 0, 0, 0) 354 [some (vR a0), some (vI a1), none, none, none, some (vI (a5 + 1)), some (vI a6), some (vI a7), some (vI a8), none] [] G h Q
    refine s_iinc dX9_within_354 rfl (by decide) rfl ?_
    show S l MX9_within (d + 1, 0, 0, 0, 0) 357 [some (vR a0), some (vI a1), none, none, none, some (vI (a5 + 1)), some (vI a6), some (vI (a7 + 1)), some (vI a8), none] [] G h Q
    refine s_goto (tgt := 292) dX9_within_357 (by decide) ?_
    exact S_cut (by first | exact ⟨rfl, ⟨rfl, ⟨rfl, ⟨rfl, ⟨rfl, trivial⟩⟩⟩⟩⟩ | simp [lsub]) H
  · replace H := H.2 c2
    refine s_aload_n dX9_within_313 rfl rfl ?_
    have f3 := H.1
    replace H := H.2
    refine s_getf (c := 9) (k := 13) (t := 2) (j := 13) dX9_within_314 fl_X9_48 (by decide) (by decide) rfl rfl f3 ?_
    refine s_bipush dX9_within_317 (by decide) ?_
    refine s_iload dX9_within_319 rfl ?_
    refine s_imul dX9_within_321 ?_
    refine s_iload dX9_within_322 rfl ?_
    refine s_iadd dX9_within_324 ?_
    refine s_aload_n dX9_within_325 rfl rfl ?_
    refine s_iload_n dX9_within_326 rfl rfl ?_
    refine s_iload dX9_within_327 rfl ?_
    refine s_iload dX9_within_329 rfl ?_
    refine s_iload dX9_within_331 rfl ?_
    refine s_bipush dX9_within_333 (by decide) ?_
    have f4 := H.1
    replace H := H.2
    refine s_idiv dX9_within_335 f4 ?_
    refine s_iload dX9_within_336 rfl ?_
    refine s_bipush dX9_within_338 (by decide) ?_
    refine s_irem dX9_within_340 f4 ?_
    refine s_callV (M' := MX9_productAt) (As := [vI a1, vI a6, vI a7, vI (a8 / 9), vI (a8 % 9)]) (a := a0) (st := [vI ((27 * a5) + a8), vR (h a0 13)]) dX9_within_341 ml_X9_260 cv_X9_productAt rfl rfl (Nat.le_of_ble_eq_true rfl) ⟨Nat.le_refl _, Nat.le_refl _⟩ f3 (R_mono (fun r5 G6 h7 H => ?_) H)
    show S l MX9_within (d + 1, 0, 0, 0, 0) 344 [some (vR a0), some (vI a1), none, none, none, some (vI a5), some (vI a6), some (vI a7), some (vI a8), none] [vI r5, vI ((27 * a5) + a8), vR (h a0 13)] G6 h7 Q
    have f8 := H.1
    replace H := H.2
    refine s_iastH dX9_within_344 f8 (fun h9 eh9 => ?_)
    replace H := H h9 eh9
    refine s_iinc dX9_within_345 rfl (by decide) rfl ?_
    show S l MX9_within (d + 1, 0, 0, 0, 0) 348 [some (vR a0), some (vI a1), none, none, none, some (vI a5), some (vI a6), some (vI a7), some (vI (a8 + 1)), none] [] G6 h9 Q
    refine s_goto (tgt := 306) dX9_within_348 (by decide) ?_
    exact S_cut (by first | exact ⟨rfl, ⟨rfl, ⟨rfl, ⟨rfl, ⟨rfl, ⟨rfl, trivial⟩⟩⟩⟩⟩⟩ | simp [lsub]) H
set_option maxHeartbeats 4000000 in
set_option maxRecDepth 100000 in
theorem vX9_within_439 {l : Launch} {d : Nat} {G : GS} {h : HP} {Q : Int → GS → HP → Prop} (a0 a1 a6 : Int) (H : (inR a6) ∧ ((3 ≤ a6 → (ty G a0 = 9) ∧ R l MX9_emptyHand d 0 0 [vR a0] G h (fun r3 G4 h5 => (ty G4 a0 = 9) ∧ ∀ h8 : HP, h8 = hset h5 a0 15 0 → Q (h8 a0 4) G4 h8)) ∧ (a6 < 3 → (ty G a0 = 9) ∧ (inA G 10 (h a0 1) a6) ∧ (inA G 10 (h a0 7) ((3 * a1) + a6)) ∧ ∀ h12 : HP, h12 = hset h (h a0 1) a6 ((h (h a0 1) a6) * (h (h a0 7) ((3 * a1) + a6))) → S l MX9_within (d + 1, 0, 0, 0, 0) 439 [some (vR a0), some (vI a1), none, none, none, none, some (vI (a6 + 1)), none, none, none] [] G h12 Q))) : S l MX9_within (d + 1, 0, 0, 0, 0) 439 [some (vR a0), some (vI a1), none, none, none, none, some (vI a6), none, none, none] [] G h Q := by
  refine s_iload dX9_within_439 rfl ?_
  refine s_iconst dX9_within_441 ?_
  have f1 := H.1
  replace H := H.2
  refine s_icmp_ge (tgt := 472) dX9_within_442 (by decide) f1 (by decide) (fun c2 => ?_) (fun c2 => ?_)
  · replace H := H.1 c2
    refine s_aload_n dX9_within_472 rfl rfl ?_
    have f6 := H.1
    replace H := H.2
    refine s_callV (M' := MX9_emptyHand) (As := []) (a := a0) (st := []) dX9_within_473 ml_X9_88 cv_X9_emptyHand rfl rfl (Nat.le_of_ble_eq_true rfl) ⟨Nat.le_refl _, Nat.le_refl _⟩ f6 (R_mono (fun r3 G4 h5 H => ?_) H)
    show S l MX9_within (d + 1, 0, 0, 0, 0) 476 [some (vR a0), some (vI a1), none, none, none, none, some (vI a6), none, none, none] [] G4 h5 Q
    refine s_aload_n dX9_within_476 rfl rfl ?_
    refine s_iconst dX9_within_477 ?_
    have f7 := H.1
    replace H := H.2
    refine s_putZ (c := 9) (k := 15) (j := 15) dX9_within_478 fl_X9_91 (by decide) (by decide) rfl rfl rfl (by decide) f7 (fun h8 eh8 => ?_)
    replace H := H h8 eh8
    refine s_aload_n dX9_within_481 rfl rfl ?_
    refine s_getf (c := 9) (k := 4) (t := 0) (j := 4) dX9_within_482 fl_X9_85 (by decide) (by decide) rfl rfl f7 ?_
    exact s_iret dX9_within_485 rfl ⟨Nat.le_refl _, Nat.le_refl _⟩ H
  · replace H := H.2 c2
    refine s_aload_n dX9_within_445 rfl rfl ?_
    have f9 := H.1
    replace H := H.2
    refine s_getf (c := 9) (k := 1) (t := 2) (j := 1) dX9_within_446 fl_X9_13 (by decide) (by decide) rfl rfl f9 ?_
    refine s_iload dX9_within_449 rfl ?_
    refine s_dup2 dX9_within_451 rfl rfl ?_
    have f10 := H.1
    replace H := H.2
    refine s_iald dX9_within_452 f10 ?_
    refine s_aload_n dX9_within_453 rfl rfl ?_
    refine s_getf (c := 9) (k := 7) (t := 2) (j := 7) dX9_within_454 fl_X9_30 (by decide) (by decide) rfl rfl f9 ?_
    refine s_iconst dX9_within_457 ?_
    refine s_iload_n dX9_within_458 rfl rfl ?_
    refine s_imul dX9_within_459 ?_
    refine s_iload dX9_within_460 rfl ?_
    refine s_iadd dX9_within_462 ?_
    have f11 := H.1
    replace H := H.2
    refine s_iald dX9_within_463 f11 ?_
    refine s_imul dX9_within_464 ?_
    refine s_iastH dX9_within_465 f10 (fun h12 eh12 => ?_)
    replace H := H h12 eh12
    refine s_iinc dX9_within_466 rfl (by decide) rfl ?_
    show S l MX9_within (d + 1, 0, 0, 0, 0) 469 [some (vR a0), some (vI a1), none, none, none, none, some (vI (a6 + 1)), none, none, none] [] G h12 Q
    refine s_goto (tgt := 439) dX9_within_469 (by decide) ?_
    exact S_cut (by first | exact ⟨rfl, ⟨rfl, ⟨rfl, trivial⟩⟩⟩ | simp [lsub]) H
set_option maxHeartbeats 4000000 in
set_option maxRecDepth 100000 in
theorem vX9_productAt_0 {l : Launch} {d : Nat} {G : GS} {h : HP} {Q : Int → GS → HP → Prop} (a0 a1 a2 a3 a4 a5 : Int) (H : (ty G a0 = 9) ∧ (inA G 10 (h a0 7) ((3 * a1) + a4)) ∧ (inA G 10 (h a0 1) a4) ∧ (inR a5) ∧ (inR ((h (h a0 1) a4) * (h (h a0 7) ((3 * a1) + a4)))) ∧ ((a5 < ((h (h a0 1) a4) * (h (h a0 7) ((3 * a1) + a4))) → (dvR a5 (h (h a0 7) ((3 * a1) + a4))) ∧ (inA G 10 (h a0 3) (((27 * a2) + (9 * a4)) + (a5 / (h (h a0 7) ((3 * a1) + a4))))) ∧ (inA G 10 (h a0 9) ((((1080 * a1) + (27 * a3)) + (9 * a4)) + (a5 % (h (h a0 7) ((3 * a1) + a4))))) ∧ (dvR ((h (h a0 3) (((27 * a2) + (9 * a4)) + (a5 / (h (h a0 7) ((3 * a1) + a4))))) * (h (h a0 9) ((((1080 * a1) + (27 * a3)) + (9 * a4)) + (a5 % (h (h a0 7) ((3 * a1) + a4)))))) (h a0 0)) ∧ Q (((h (h a0 3) (((27 * a2) + (9 * a4)) + (a5 / (h (h a0 7) ((3 * a1) + a4))))) * (h (h a0 9) ((((1080 * a1) + (27 * a3)) + (9 * a4)) + (a5 % (h (h a0 7) ((3 * a1) + a4)))))) % (h a0 0)) G h) ∧ (((h (h a0 1) a4) * (h (h a0 7) ((3 * a1) + a4))) ≤ a5 → Q 0 G h))) : S l MX9_productAt (d, 0, 0, 0, 0) 0 [some (vR a0), some (vI a1), some (vI a2), some (vI a3), some (vI a4), some (vI a5), none] [] G h Q := by
  refine s_aload_n dX9_productAt_0 rfl rfl ?_
  have f1 := H.1
  replace H := H.2
  refine s_getf (c := 9) (k := 7) (t := 2) (j := 7) dX9_productAt_1 fl_X9_30 (by decide) (by decide) rfl rfl f1 ?_
  refine s_iconst dX9_productAt_4 ?_
  refine s_iload_n dX9_productAt_5 rfl rfl ?_
  refine s_imul dX9_productAt_6 ?_
  refine s_iload dX9_productAt_7 rfl ?_
  refine s_iadd dX9_productAt_9 ?_
  have f2 := H.1
  replace H := H.2
  refine s_iald dX9_productAt_10 f2 ?_
  refine s_istore dX9_productAt_11 (by decide) rfl ?_
  show S l MX9_productAt (d, 0, 0, 0, 0) 13 [some (vR a0), some (vI a1), some (vI a2), some (vI a3), some (vI a4), some (vI a5), some (vI (h (h a0 7) ((3 * a1) + a4)))] [] G h Q
  refine s_iload dX9_productAt_13 rfl ?_
  refine s_aload_n dX9_productAt_15 rfl rfl ?_
  refine s_getf (c := 9) (k := 1) (t := 2) (j := 1) dX9_productAt_16 fl_X9_13 (by decide) (by decide) rfl rfl f1 ?_
  refine s_iload dX9_productAt_19 rfl ?_
  have f3 := H.1
  replace H := H.2
  refine s_iald dX9_productAt_21 f3 ?_
  refine s_iload dX9_productAt_22 rfl ?_
  refine s_imul dX9_productAt_24 ?_
  have f4 := H.1
  replace H := H.2
  have f5 := H.1
  replace H := H.2
  refine s_icmp_lt (tgt := 30) dX9_productAt_25 (by decide) f4 f5 (fun c6 => ?_) (fun c6 => ?_)
  · replace H := H.1 c6
    refine s_aload_n dX9_productAt_30 rfl rfl ?_
    refine s_getf (c := 9) (k := 3) (t := 2) (j := 3) dX9_productAt_31 fl_X9_20 (by decide) (by decide) rfl rfl f1 ?_
    refine s_bipush dX9_productAt_34 (by decide) ?_
    refine s_iload_n dX9_productAt_36 rfl rfl ?_
    refine s_imul dX9_productAt_37 ?_
    refine s_bipush dX9_productAt_38 (by decide) ?_
    refine s_iload dX9_productAt_40 rfl ?_
    refine s_imul dX9_productAt_42 ?_
    refine s_iadd dX9_productAt_43 ?_
    refine s_iload dX9_productAt_44 rfl ?_
    refine s_iload dX9_productAt_46 rfl ?_
    have f7 := H.1
    replace H := H.2
    refine s_idiv dX9_productAt_48 f7 ?_
    refine s_iadd dX9_productAt_49 ?_
    have f8 := H.1
    replace H := H.2
    refine s_iald dX9_productAt_50 f8 ?_
    refine s_aload_n dX9_productAt_51 rfl rfl ?_
    refine s_getf (c := 9) (k := 9) (t := 2) (j := 9) dX9_productAt_52 fl_X9_36 (by decide) (by decide) rfl rfl f1 ?_
    refine s_sipush dX9_productAt_55 (by decide) ?_
    refine s_iload_n dX9_productAt_58 rfl rfl ?_
    refine s_imul dX9_productAt_59 ?_
    refine s_bipush dX9_productAt_60 (by decide) ?_
    refine s_iload_n dX9_productAt_62 rfl rfl ?_
    refine s_imul dX9_productAt_63 ?_
    refine s_iadd dX9_productAt_64 ?_
    refine s_bipush dX9_productAt_65 (by decide) ?_
    refine s_iload dX9_productAt_67 rfl ?_
    refine s_imul dX9_productAt_69 ?_
    refine s_iadd dX9_productAt_70 ?_
    refine s_iload dX9_productAt_71 rfl ?_
    refine s_iload dX9_productAt_73 rfl ?_
    refine s_irem dX9_productAt_75 f7 ?_
    refine s_iadd dX9_productAt_76 ?_
    have f9 := H.1
    replace H := H.2
    refine s_iald dX9_productAt_77 f9 ?_
    refine s_imul dX9_productAt_78 ?_
    refine s_aload_n dX9_productAt_79 rfl rfl ?_
    refine s_getf (c := 9) (k := 0) (t := 0) (j := 0) dX9_productAt_80 fl_X9_7 (by decide) (by decide) rfl rfl f1 ?_
    have f10 := H.1
    replace H := H.2
    refine s_irem dX9_productAt_83 f10 ?_
    exact s_iret dX9_productAt_84 rfl ⟨Nat.le_refl _, Nat.le_refl _⟩ H
  · replace H := H.2 c6
    refine s_iconst dX9_productAt_28 ?_
    exact s_iret dX9_productAt_29 rfl ⟨Nat.le_refl _, Nat.le_refl _⟩ H
