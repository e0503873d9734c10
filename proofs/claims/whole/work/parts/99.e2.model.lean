section Ctor4
variable {l : Launch} {d : Nat} {h : HP} {Q : Int → GS → HP → Prop}
set_option maxHeartbeats 4000000 in
set_option maxRecDepth 100000 in
theorem rX9_init (hc : CX h B0) (hQ : ∀ h', CX h' B0 → MX h' B0 → B95 h' → Q 0 G0 h') : R l MX9_init (d + 2) 22 18093 [vR 75] (GP 76) h Q := by
  refine eX9_init 75 (vX9_init_0 75 ⟨by decide, by decide +kernel, fun s0 es0 => ?_⟩)
  have o0 := (Own.nil (h := h)).set es0 rfl
  have f0 : ∀ b, b ≠ 75 → b < 76 → s0 b = h b := fun b b1 _ => by rw [es0, hset_oa b1]
  refine ⟨⟨by decide, by decide⟩, fun G1 t1 eG1 et1 => ?_⟩
  replace eG1 : G1 = GP 77 := eG1.trans (by decide +kernel)
  replace et1 : t1 = hcl s0 76 (fun _ => 0) := et1
  subst eG1
  refine ⟨by decide +kernel, fun s1 es1 => ?_⟩
  replace es1 : s1 = hset t1 75 1 76 := es1
  have o1 := ((o0.cl et1 (by decide +kernel))).set es1 (by decide +kernel)
  have f1 : ∀ b, b ≠ 75 → b < 76 → s1 b = h b := fun b b1 b2 => by rw [es1, hset_oa b1, et1, hcl_o (by omega), f0 b b1 b2]
  refine ⟨⟨by decide, by decide⟩, fun G2 t2 eG2 et2 => ?_⟩
  replace eG2 : G2 = GP 78 := eG2.trans (by decide +kernel)
  replace et2 : t2 = hcl s1 77 (fun _ => 0) := et2
  subst eG2
  refine ⟨by decide +kernel, fun s2 es2 => ?_⟩
  replace es2 : s2 = hset t2 75 2 77 := es2
  have o2 := ((o1.cl et2 (by decide +kernel))).set es2 (by decide +kernel)
  have f2 : ∀ b, b ≠ 75 → b < 76 → s2 b = h b := fun b b1 b2 => by rw [es2, hset_oa b1, et2, hcl_o (by omega), f1 b b1 b2]
  refine ⟨⟨by decide, by decide⟩, fun G3 t3 eG3 et3 => ?_⟩
  replace eG3 : G3 = GP 79 := eG3.trans (by decide +kernel)
  replace et3 : t3 = hcl s2 78 (fun _ => 0) := et3
  subst eG3
  refine ⟨by decide +kernel, fun s3 es3 => ?_⟩
  replace es3 : s3 = hset t3 75 3 78 := es3
  have o3 := ((o2.cl et3 (by decide +kernel))).set es3 (by decide +kernel)
  have f3 : ∀ b, b ≠ 75 → b < 76 → s3 b = h b := fun b b1 b2 => by rw [es3, hset_oa b1, et3, hcl_o (by omega), f2 b b1 b2]
  refine ⟨⟨by decide, by decide⟩, fun G4 t4 eG4 et4 => ?_⟩
  replace eG4 : G4 = GP 80 := eG4.trans (by decide +kernel)
  replace et4 : t4 = hcl s3 79 (fun _ => 0) := et4
  subst eG4
  refine ⟨by decide +kernel, fun s4 es4 => ?_⟩
  replace es4 : s4 = hset t4 75 5 79 := es4
  have o4 := ((o3.cl et4 (by decide +kernel))).set es4 (by decide +kernel)
  have f4 : ∀ b, b ≠ 75 → b < 76 → s4 b = h b := fun b b1 b2 => by rw [es4, hset_oa b1, et4, hcl_o (by omega), f3 b b1 b2]
  refine ⟨⟨by decide, by decide⟩, fun G5 t5 eG5 et5 => ?_⟩
  replace eG5 : G5 = GP 81 := eG5.trans (by decide +kernel)
  replace et5 : t5 = hcl s4 80 (fun _ => 0) := et5
  subst eG5
  refine ⟨by decide +kernel, fun s5 es5 => ?_⟩
  replace es5 : s5 = hset t5 75 6 80 := es5
  have o5 := ((o4.cl et5 (by decide +kernel)).ap (own_z (n := 4) (h := t5) (a := 80) (by rw [et5, hcl_s]))).set es5 (by decide +kernel)
  have f5 : ∀ b, b ≠ 75 → b < 76 → s5 b = h b := fun b b1 b2 => by rw [es5, hset_oa b1, et5, hcl_o (by omega), f4 b b1 b2]
  refine ⟨⟨by decide, by decide⟩, fun G6 t6 eG6 et6 => ?_⟩
  replace eG6 : G6 = GP 82 := eG6.trans (by decide +kernel)
  replace et6 : t6 = hcl s5 81 (fun _ => 0) := et6
  subst eG6
  refine ⟨by decide +kernel, fun s6 es6 => ?_⟩
  replace es6 : s6 = hset t6 75 7 81 := es6
  have o6 := ((o5.cl et6 (by decide +kernel))).set es6 (by decide +kernel)
  have f6 : ∀ b, b ≠ 75 → b < 76 → s6 b = h b := fun b b1 b2 => by rw [es6, hset_oa b1, et6, hcl_o (by omega), f5 b b1 b2]
  refine ⟨⟨by decide, by decide⟩, fun G7 t7 eG7 et7 => ?_⟩
  replace eG7 : G7 = GP 83 := eG7.trans (by decide +kernel)
  replace et7 : t7 = hcl s6 82 (fun _ => 0) := et7
  subst eG7
  refine ⟨by decide +kernel, fun s7 es7 => ?_⟩
  replace es7 : s7 = hset t7 75 8 82 := es7
  have o7 := ((o6.cl et7 (by decide +kernel))).set es7 (by decide +kernel)
  have f7 : ∀ b, b ≠ 75 → b < 76 → s7 b = h b := fun b b1 b2 => by rw [es7, hset_oa b1, et7, hcl_o (by omega), f6 b b1 b2]
  refine ⟨⟨by decide, by decide⟩, fun G8 t8 eG8 et8 => ?_⟩
  replace eG8 : G8 = GP 84 := eG8.trans (by decide +kernel)
  replace et8 : t8 = hcl s7 83 (fun _ => 0) := et8
  subst eG8
  refine ⟨by decide +kernel, fun s8 es8 => ?_⟩
  replace es8 : s8 = hset t8 75 9 83 := es8
  have o8 := ((o7.cl et8 (by decide +kernel))).set es8 (by decide +kernel)
  have f8 : ∀ b, b ≠ 75 → b < 76 → s8 b = h b := fun b b1 b2 => by rw [es8, hset_oa b1, et8, hcl_o (by omega), f7 b b1 b2]
  refine ⟨⟨by decide, by decide⟩, fun G9 t9 eG9 et9 => ?_⟩
  replace eG9 : G9 = GP 85 := eG9.trans (by decide +kernel)
  replace et9 : t9 = hcl s8 84 (fun _ => 0) := et9
  subst eG9
  refine ⟨by decide +kernel, fun s9 es9 => ?_⟩
  replace es9 : s9 = hset t9 75 10 84 := es9
  have o9 := ((o8.cl et9 (by decide +kernel))).set es9 (by decide +kernel)
  have f9 : ∀ b, b ≠ 75 → b < 76 → s9 b = h b := fun b b1 b2 => by rw [es9, hset_oa b1, et9, hcl_o (by omega), f8 b b1 b2]
  refine ⟨⟨by decide, by decide⟩, fun G10 t10 eG10 et10 => ?_⟩
  replace eG10 : G10 = GP 86 := eG10.trans (by decide +kernel)
  replace et10 : t10 = hcl s9 85 (fun _ => 0) := et10
  subst eG10
  refine ⟨by decide +kernel, fun s10 es10 => ?_⟩
  replace es10 : s10 = hset t10 75 11 85 := es10
  have o10 := ((o9.cl et10 (by decide +kernel))).set es10 (by decide +kernel)
  have f10 : ∀ b, b ≠ 75 → b < 76 → s10 b = h b := fun b b1 b2 => by rw [es10, hset_oa b1, et10, hcl_o (by omega), f9 b b1 b2]
  refine ⟨⟨by decide, by decide⟩, fun G11 t11 eG11 et11 => ?_⟩
  replace eG11 : G11 = GP 87 := eG11.trans (by decide +kernel)
  replace et11 : t11 = hcl s10 86 (fun _ => 0) := et11
  subst eG11
  refine ⟨by decide +kernel, fun s11 es11 => ?_⟩
  replace es11 : s11 = hset t11 75 12 86 := es11
  have o11 := ((o10.cl et11 (by decide +kernel))).set es11 (by decide +kernel)
  have f11 : ∀ b, b ≠ 75 → b < 76 → s11 b = h b := fun b b1 b2 => by rw [es11, hset_oa b1, et11, hcl_o (by omega), f10 b b1 b2]
  refine ⟨⟨by decide, by decide⟩, fun G12 t12 eG12 et12 => ?_⟩
  replace eG12 : G12 = GP 88 := eG12.trans (by decide +kernel)
  replace et12 : t12 = hcl s11 87 (fun _ => 0) := et12
  subst eG12
  refine ⟨by decide +kernel, fun s12 es12 => ?_⟩
  replace es12 : s12 = hset t12 75 13 87 := es12
  have o12 := ((o11.cl et12 (by decide +kernel))).set es12 (by decide +kernel)
  have f12 : ∀ b, b ≠ 75 → b < 76 → s12 b = h b := fun b b1 b2 => by rw [es12, hset_oa b1, et12, hcl_o (by omega), f11 b b1 b2]
  refine ⟨⟨by decide, by decide⟩, fun G13 t13 eG13 et13 => ?_⟩
  replace eG13 : G13 = GP 89 := eG13.trans (by decide +kernel)
  replace et13 : t13 = hcl s12 88 (fun _ => 0) := et13
  subst eG13
  refine ⟨by decide +kernel, fun s13 es13 => ?_⟩
  replace es13 : s13 = hset t13 75 14 88 := es13
  have o13 := ((o12.cl et13 (by decide +kernel))).set es13 (by decide +kernel)
  have f13 : ∀ b, b ≠ 75 → b < 76 → s13 b = h b := fun b b1 b2 => by rw [es13, hset_oa b1, et13, hcl_o (by omega), f12 b b1 b2]
  refine ⟨⟨by decide, by decide⟩, fun G14 t14 eG14 et14 => ?_⟩
  replace eG14 : G14 = GP 90 := eG14.trans (by decide +kernel)
  replace et14 : t14 = hcl s13 89 (fun _ => 0) := et14
  subst eG14
  refine ⟨by decide +kernel, fun s14 es14 => ?_⟩
  replace es14 : s14 = hset t14 75 17 89 := es14
  have o14 := ((o13.cl et14 (by decide +kernel))).set es14 (by decide +kernel)
  have f14 : ∀ b, b ≠ 75 → b < 76 → s14 b = h b := fun b b1 b2 => by rw [es14, hset_oa b1, et14, hcl_o (by omega), f13 b b1 b2]
  refine ⟨⟨by decide, by decide⟩, fun G15 t15 eG15 et15 => ?_⟩
  replace eG15 : G15 = GP 91 := eG15.trans (by decide +kernel)
  replace et15 : t15 = hcl s14 90 (fun _ => 0) := et15
  subst eG15
  refine ⟨by decide +kernel, fun s15 es15 => ?_⟩
  replace es15 : s15 = hset t15 75 18 90 := es15
  have o15 := ((o14.cl et15 (by decide +kernel))).set es15 (by decide +kernel)
  have f15 : ∀ b, b ≠ 75 → b < 76 → s15 b = h b := fun b b1 b2 => by rw [es15, hset_oa b1, et15, hcl_o (by omega), f14 b b1 b2]
  refine ⟨⟨by decide, by decide⟩, fun G16 t16 eG16 et16 => ?_⟩
  replace eG16 : G16 = GP 92 := eG16.trans (by decide +kernel)
  replace et16 : t16 = hcl s15 91 (fun _ => 0) := et16
  subst eG16
  refine ⟨by decide +kernel, fun s16 es16 => ?_⟩
  replace es16 : s16 = hset t16 75 20 91 := es16
  have o16 := ((o15.cl et16 (by decide +kernel))).set es16 (by decide +kernel)
  have f16 : ∀ b, b ≠ 75 → b < 76 → s16 b = h b := fun b b1 b2 => by rw [es16, hset_oa b1, et16, hcl_o (by omega), f15 b b1 b2]
  refine ⟨⟨by decide, by decide⟩, fun G17 t17 eG17 et17 => ?_⟩
  replace eG17 : G17 = GP 93 := eG17.trans (by decide +kernel)
  replace et17 : t17 = hcl s16 92 (fun _ => 0) := et17
  subst eG17
  refine ⟨by decide +kernel, fun s17 es17 => ?_⟩
  replace es17 : s17 = hset t17 75 21 92 := es17
  have o17 := ((o16.cl et17 (by decide +kernel))).set es17 (by decide +kernel)
  have f17 : ∀ b, b ≠ 75 → b < 76 → s17 b = h b := fun b b1 b2 => by rw [es17, hset_oa b1, et17, hcl_o (by omega), f16 b b1 b2]
  refine ⟨⟨by decide, by decide⟩, fun G18 t18 eG18 et18 => ?_⟩
  replace eG18 : G18 = GP 94 := eG18.trans (by decide +kernel)
  replace et18 : t18 = hcl s17 93 (fun _ => 0) := et18
  subst eG18
  refine ⟨by decide +kernel, fun s18 es18 => ?_⟩
  replace es18 : s18 = hset t18 75 22 93 := es18
  have o18 := ((o17.cl et18 (by decide +kernel))).set es18 (by decide +kernel)
  have f18 : ∀ b, b ≠ 75 → b < 76 → s18 b = h b := fun b b1 b2 => by rw [es18, hset_oa b1, et18, hcl_o (by omega), f17 b b1 b2]
  refine ⟨⟨by decide, by decide⟩, fun G19 t19 eG19 et19 => ?_⟩
  replace eG19 : G19 = GP 95 := eG19.trans (by decide +kernel)
  replace et19 : t19 = hcl s18 94 (fun _ => 0) := et19
  subst eG19
  refine ⟨by decide +kernel, fun s19 es19 => ?_⟩
  replace es19 : s19 = hset t19 75 23 94 := es19
  have o19 := ((o18.cl et19 (by decide +kernel))).set es19 (by decide +kernel)
  have f19 : ∀ b, b ≠ 75 → b < 76 → s19 b = h b := fun b b1 b2 => by rw [es19, hset_oa b1, et19, hcl_o (by omega), f18 b b1 b2]
  refine ⟨⟨by decide, by decide⟩, fun G20 t20 eG20 et20 => ?_⟩
  replace eG20 : G20 = GP 96 := eG20.trans (by decide +kernel)
  replace et20 : t20 = hcl s19 95 (fun _ => 0) := et20
  subst eG20
  refine ⟨by decide +kernel, fun s20 es20 => ?_⟩
  replace es20 : s20 = hset t20 75 24 95 := es20
  have o20 := ((o19.cl et20 (by decide +kernel))).set es20 (by decide +kernel)
  have f20 : ∀ b, b ≠ 75 → b < 76 → s20 b = h b := fun b b1 b2 => by rw [es20, hset_oa b1, et20, hcl_o (by omega), f19 b b1 b2]
  have y95 : s20 95 = fun _ => 0 := by rw [es20, hset_oa (by decide), et20, hcl_s]
  refine ⟨⟨by decide, by decide⟩, fun G21 t21 eG21 et21 => ?_⟩
  replace eG21 : G21 = GP 97 := eG21.trans (by decide +kernel)
  replace et21 : t21 = hcl s20 96 (fun _ => 0) := et21
  subst eG21
  refine ⟨by decide +kernel, fun s21 es21 => ?_⟩
  replace es21 : s21 = hset t21 75 25 96 := es21
  have o21 := ((o20.cl et21 (by decide +kernel))).set es21 (by decide +kernel)
  have f21 : ∀ b, b ≠ 75 → b < 76 → s21 b = h b := fun b b1 b2 => by rw [es21, hset_oa b1, et21, hcl_o (by omega), f20 b b1 b2]
  have y96 : s21 95 = fun _ => 0 := by rw [es21, hset_oa (by decide), et21, hcl_o (by decide), y95]
  refine ⟨⟨by decide, by decide⟩, fun G22 t22 eG22 et22 => ?_⟩
  replace eG22 : G22 = GP 98 := eG22.trans (by decide +kernel)
  replace et22 : t22 = hcl s21 97 (fun _ => 0) := et22
  subst eG22
  refine ⟨by decide +kernel, fun s22 es22 => ?_⟩
  replace es22 : s22 = hset t22 75 26 97 := es22
  have o22 := ((o21.cl et22 (by decide +kernel))).set es22 (by decide +kernel)
  have f22 : ∀ b, b ≠ 75 → b < 76 → s22 b = h b := fun b b1 b2 => by rw [es22, hset_oa b1, et22, hcl_o (by omega), f21 b b1 b2]
  have y97 : s22 95 = fun _ => 0 := by rw [es22, hset_oa (by decide), et22, hcl_o (by decide), y96]
  have mr : MR s22 := ⟨o22 (75, 1, 76) (by decide +kernel), o22 (75, 2, 77) (by decide +kernel), o22 (75, 3, 78) (by decide +kernel), o22 (75, 5, 79) (by decide +kernel), o22 (75, 6, 80) (by decide +kernel), o22 (75, 7, 81) (by decide +kernel), o22 (75, 8, 82) (by decide +kernel), o22 (75, 9, 83) (by decide +kernel), o22 (75, 10, 84) (by decide +kernel), o22 (75, 11, 85) (by decide +kernel), o22 (75, 12, 86) (by decide +kernel), o22 (75, 13, 87) (by decide +kernel), o22 (75, 14, 88) (by decide +kernel), o22 (75, 17, 89) (by decide +kernel), o22 (75, 18, 90) (by decide +kernel), o22 (75, 20, 91) (by decide +kernel), o22 (75, 21, 92) (by decide +kernel), o22 (75, 22, 93) (by decide +kernel), o22 (75, 23, 94) (by decide +kernel), o22 (75, 24, 95) (by decide +kernel), o22 (75, 25, 96) (by decide +kernel), o22 (75, 26, 97) (by decide +kernel)⟩
  have z80 : Own (Zr 80 4) s22 := o22.sub (by decide +kernel)
  have g0 : s22 75 0 = 2 := o22 (75, 0, 2) (by decide +kernel)
  refine rX9_fresh mr (fun h' ff mb m4 mh m15 => ⟨⟨by decide, by decide⟩, hQ h' (hc.md (fun b hb => by rw [ff.1 b (by omega) (by omega) (by omega) (by omega)]; exact f22 b (by omega) (by omega))) ?_ (fun j _ _ => by rw [ff.1 95 (by decide) (by decide) (by decide) (by decide), y97]; exact ⟨Int.le_refl (0 : Int), (by decide : (0 : Int) ≤ 6)⟩)⟩)
  refine ⟨mr.fr (fun j _ j4 j15 _ _ _ => ff.2 j j4 j15), by rw [ff.2 0 (by decide) (by decide)]; exact g0, mb 2, ⟨m4, fun k k0 k1 => ?_⟩, mh 2, fun q q0 q4 => ⟨by rw [ff.1 80 (by decide) (by decide) (by decide) (by decide)]; exact Zr_at z80 q0 q4, fun z => absurd rfl z⟩, .inl m15⟩
  have k1' : k < 27 * 0 := k1
  omega
end Ctor4
