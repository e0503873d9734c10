theorem Own.cl {X : List (Int × Int × Int)} {h h' : HP} {n : Int} {g : Int → Int} (o : Own X h) (e : h' = hcl h n g) (c : blw X n = true) : Own X h' := o.fr (fun b hb => by rw [e, hcl_o (by omega)]) c
theorem Own.nil {h : HP} : Own [] h := fun _ hq => absurd hq (List.not_mem_nil)
theorem Own.sub {X Y : List (Int × Int × Int)} {h : HP} (o : Own X h) (c : Y.all (fun q => X.contains q) = true) : Own Y h := fun q hq => o q (List.contains_iff_mem.1 (List.all_eq_true.1 c q hq))
theorem hmul_lo {h : HP} {N n : Nat} {b : Int} (hb : b < N) : hmul h N n b = h b := by
  funext j
  unfold hmul
  rw [if_neg (by omega), if_neg (by omega)]
theorem hmul_at {h : HP} {N n : Nat} {j : Int} (j0 : 0 ≤ j) (jn : j < n) : hmul h N n N j = N + 1 + j := by
  unfold hmul
  rw [if_pos rfl, if_pos ⟨j0, jn⟩]
def seX : List (Int × Int × Int) := [(51, 0, 1), (51, 1, 62), (51, 2, 66), (51, 3, 52), (51, 4, 53), (51, 5, 54), (51, 6, 55), (51, 7, 61), (55, 0, 56), (55, 1, 57), (55, 2, 58), (55, 3, 59), (55, 4, 60)] ++ (bsX 62 ++ bsX 66)
def shX : List (Int × Int × Int) := [(70, 0, 1), (70, 1, 71), (70, 2, 72), (70, 3, 73), (70, 4, 74)]
section Ctor2
variable {l : Launch} {d : Nat} {h : HP} {Q : Int → GS → HP → Prop}
theorem rX6_init (hQ : ∀ h', Own seX h' → (∀ b, b < 51 → h' b = h b) → Q 0 (GP 70) h') : R l MX6_init (d + 2) 18 553 [vR 51, vR 1] (GP 52) h Q := by
  refine eX6_init 51 1 (vX6_init_0 51 1 ⟨by decide, ⟨by decide, by decide⟩, fun G2 h3 eG2 e3 => ?_⟩)
  replace eG2 : G2 = GP 53 := eG2.trans (by decide +kernel)
  replace e3 : h3 = hcl h 52 (fun _ => 0) := e3
  subst eG2
  refine ⟨by decide +kernel, fun h6 e6 => ⟨⟨by decide, by decide⟩, fun G7 h8 eG7 e8 => ?_⟩⟩
  replace e6 : h6 = hset h3 51 3 52 := e6
  replace eG7 : G7 = GP 54 := eG7.trans (by decide +kernel)
  replace e8 : h8 = hcl h6 53 (fun _ => 0) := e8
  subst eG7
  refine ⟨by decide +kernel, fun h11 e11 => ⟨⟨by decide, by decide⟩, fun G12 h13 eG12 e13 => ?_⟩⟩
  replace e11 : h11 = hset h8 51 4 53 := e11
  replace eG12 : G12 = GP 55 := eG12.trans (by decide +kernel)
  replace e13 : h13 = hcl h11 54 (fun _ => 0) := e13
  subst eG12
  refine ⟨by decide +kernel, fun h16 e16 => ⟨⟨by decide, by decide⟩, fun G17 h18 eG17 e18 => ?_⟩⟩
  replace e16 : h16 = hset h13 51 5 54 := e16
  replace eG17 : G17 = GP 61 := eG17.trans (by decide +kernel)
  replace e18 : h18 = hmul h16 55 5 := e18
  subst eG17
  refine ⟨by decide +kernel, fun h21 e21 => ⟨⟨by decide, by decide⟩, fun G22 h23 eG22 e23 => ?_⟩⟩
  replace e21 : h21 = hset h18 51 6 55 := e21
  replace eG22 : G22 = GP 62 := eG22.trans (by decide +kernel)
  replace e23 : h23 = hcl h21 61 (fun _ => 0) := e23
  subst eG22
  refine ⟨by decide +kernel, fun h26 e26 h27 e27 => ⟨⟨by decide, by decide⟩, fun G28 h29 eG28 e29 => ?_⟩⟩
  replace e26 : h26 = hset h23 51 7 61 := e26
  replace eG28 : G28 = GP 63 := eG28.trans (by decide +kernel)
  replace e29 : h29 = hcl h27 62 (dfo 0) := e29
  subst eG28
  have o16 := ((((Own.nil (h := h3)).set e6 rfl).cl e8 (by decide +kernel)).set e11 (by decide +kernel)).cl e13 (by decide +kernel) |>.set e16 (by decide +kernel)
  have o18 : Own [(55, 0, 56), (55, 1, 57), (55, 2, 58), (55, 3, 59), (55, 4, 60)] h18 := fun q hq => by
    simp only [List.mem_cons, List.not_mem_nil, or_false] at hq
    rcases hq with rfl | rfl | rfl | rfl | rfl
    · rw [e18]; exact hmul_at (N := 55) (n := 5) (j := 0) (by decide) (by decide)
    · rw [e18]; exact hmul_at (N := 55) (n := 5) (j := 1) (by decide) (by decide)
    · rw [e18]; exact hmul_at (N := 55) (n := 5) (j := 2) (by decide) (by decide)
    · rw [e18]; exact hmul_at (N := 55) (n := 5) (j := 3) (by decide) (by decide)
    · rw [e18]; exact hmul_at (N := 55) (n := 5) (j := 4) (by decide) (by decide)
  have o29 := ((((((o16.fr (fun b hb => by rw [e18]; exact hmul_lo (by omega)) (show blw _ 55 = true by decide +kernel)).ap o18).set e21 (by decide +kernel)).cl e23 (by decide +kernel)).set e26 (by decide +kernel)).set e27 (by decide +kernel)).cl e29 (by decide +kernel)
  refine ⟨⟨by decide, by decide⟩, by decide +kernel, rX0_init (n := 63) (a := 62) (by decide +kernel) (by decide) (by decide) (fun h33 o33 f33 => ⟨by decide +kernel, fun h37 e37 => ⟨⟨by decide, by decide⟩, fun G38 h39 eG38 e39 => ?_⟩⟩)⟩
  replace e37 : h37 = hset h33 51 1 62 := e37
  replace eG38 : G38 = GP 67 := eG38.trans (by decide +kernel)
  replace e39 : h39 = hcl h37 66 (dfo 0) := e39
  subst eG38
  have o39 := (((o29.fr f33 (by decide +kernel)).ap o33).set e37 (by decide +kernel)).cl e39 (by decide +kernel)
  refine ⟨⟨by decide, by decide⟩, by decide +kernel, rX0_init (n := 67) (a := 66) (by decide +kernel) (by decide) (by decide) (fun h43 o43 f43 => ⟨by decide +kernel, fun h47 e47 => ⟨⟨by decide, by decide⟩, hQ h47 ?_ (fun b hb => ?_)⟩⟩)⟩
  · replace e47 : h47 = hset h43 51 2 66 := e47
    exact (((o39.fr f43 (by decide +kernel)).ap o43).set e47 (by decide +kernel)).sub (by decide +kernel)
  · replace e47 : h47 = hset h43 51 2 66 := e47
    rw [e47, hset_oa (by omega), f43 b (by omega), e39, hcl_o (by omega), e37, hset_oa (by omega), f33 b (by omega), e29, hcl_o (by omega), e27, hset_oa (by omega), e26, hset_oa (by omega), e23, hcl_o (by omega), e21, hset_oa (by omega), e18, hmul_lo (by omega), e16, hset_oa (by omega), e13, hcl_o (by omega), e11, hset_oa (by omega), e8, hcl_o (by omega), e6, hset_oa (by omega), e3, hcl_o (by omega)]
theorem rX7_init (hQ : ∀ h', Own shX h' → (∀ b, b < 70 → h' b = h b) → Q 0 (GP 75) h') : R l MX7_init (d + 1) 4 1103 [vR 70, vR 1] (GP 71) h Q := by
  refine eX7_init 70 1 (vX7_init_0 70 1 ⟨by decide, ⟨by decide, by decide⟩, fun G2 h3 eG2 e3 => ?_⟩)
  replace eG2 : G2 = GP 72 := eG2.trans (by decide +kernel)
  replace e3 : h3 = hcl h 71 (fun _ => 0) := e3
  subst eG2
  refine ⟨by decide +kernel, fun h6 e6 => ⟨⟨by decide, by decide⟩, fun G7 h8 eG7 e8 => ?_⟩⟩
  replace e6 : h6 = hset h3 70 1 71 := e6
  replace eG7 : G7 = GP 73 := eG7.trans (by decide +kernel)
  replace e8 : h8 = hcl h6 72 (fun _ => 0) := e8
  subst eG7
  refine ⟨by decide +kernel, fun h11 e11 => ⟨⟨by decide, by decide⟩, fun G12 h13 eG12 e13 => ?_⟩⟩
  replace e11 : h11 = hset h8 70 2 72 := e11
  replace eG12 : G12 = GP 74 := eG12.trans (by decide +kernel)
  replace e13 : h13 = hcl h11 73 (fun _ => 0) := e13
  subst eG12
  refine ⟨by decide +kernel, fun h16 e16 => ⟨⟨by decide, by decide⟩, fun G17 h18 eG17 e18 => ?_⟩⟩
  replace e16 : h16 = hset h13 70 3 73 := e16
  replace eG17 : G17 = GP 75 := eG17.trans (by decide +kernel)
  replace e18 : h18 = hcl h16 74 (fun _ => 0) := e18
  subst eG17
  refine ⟨by decide +kernel, fun h21 e21 h22 e22 => hQ h22 ?_ (fun b hb => ?_)⟩
  · replace e21 : h21 = hset h18 70 4 74 := e21
    exact ((((((((((Own.nil (h := h3)).set e6 rfl).cl e8 (by decide +kernel)).set e11 (by decide +kernel)).cl e13 (by decide +kernel)).set e16 (by decide +kernel)).cl e18 (by decide +kernel)).set e21 (by decide +kernel)).set e22 (by decide +kernel))).sub (by decide +kernel)
  · rw [e22, hset_oa (by omega), e21, hset_oa (by omega), e18, hcl_o (by omega), e16, hset_oa (by omega), e13, hcl_o (by omega), e11, hset_oa (by omega), e8, hcl_o (by omega), e6, hset_oa (by omega), e3, hcl_o (by omega)]
end Ctor2
