def B0 : BS := (2, fr0 1 1 1, 0, 0, fun _ => 0, fun _ => fr0 1 1 1)
theorem WF_B0 : WF 2 (fr0 1 1 1) := by
  refine ⟨fun w w0 w3 => ?_, fun i j _ _ _ _ => ⟨Int.le_refl 0, PW_pos (by decide) _, fun _ => rfl⟩, ⟨Int.le_refl 0, by decide⟩, fun w t _ _ t0 t1 => ?_⟩
  · show 1 ≤ sz3 1 1 1 w ∧ sz3 1 1 1 w ≤ 9
    unfold sz3
    split
    · decide
    · split <;> decide
  · have t1' : t < 0 := t1
    omega
theorem BW_0 : BW B0 := ⟨.inl rfl, WF_B0, ⟨Int.le_refl 0, PW_pos (by decide) _⟩, ⟨Int.le_refl 0, PW_pos (by decide) _⟩, fun _ _ _ => .inl rfl⟩
theorem Zr_at {h : HP} {a k : Int} {n : Nat} (o : Own (Zr a n) h) (k0 : 0 ≤ k) (kn : k < n) : h a k = 0 := o (a, k, 0) (List.mem_map.2 ⟨k.toNat, List.mem_range.2 (by omega), by rw [Int.toNat_of_nonneg k0]⟩)
def enX : List (Int × Int × Int) := [(0, 0, 1), (0, 1, 16), (0, 2, 41), (0, 3, 42), (0, 4, 43), (0, 5, 44), (0, 6, 45), (0, 7, 47), (0, 8, 51), (0, 9, 70), (0, 10, 4), (0, 11, 10)] ++ pcX 4 ++ pcX 10 ++ pcX 17 ++ pcX 23 ++ pcX 29 ++ pcX 35 ++ [(16, 0, 17), (16, 1, 23), (16, 2, 29), (16, 3, 35)] ++ Zr 41 4 ++ Zr 42 2 ++ [(43, 0, 1), (44, 0, 1), (45, 0, 1), (45, 1, 46)] ++ bsX 47 ++ seX ++ shX
theorem Pr_of {h : HP} {a : Int} (o : Own (pcX a) h) : Pr h a := by
  have m : ∀ q ∈ [(a, 0, 1), (a, 1, a + 1), (a, 2, a + 2), (a, 3, a + 3), (a, 4, a + 4), (a, 5, a + 5), (a, 6, 0), (a + 1, 0, 1), (a + 1, 1, 1), (a + 1, 2, 1)], h q.1 q.2.1 = q.2.2 := fun q hq => o q (List.mem_append.2 (.inl hq))
  exact ⟨m (a, 0, 1) (by simp), m (a, 1, a + 1) (by simp), m (a, 2, a + 2) (by simp), m (a, 3, a + 3) (by simp), m (a, 4, a + 4) (by simp), m (a, 5, a + 5) (by simp)⟩
theorem CX_B0 {X : List (Int × Int × Int)} {h : HP} (m : OG X h) (c : enX.all (fun q => X.contains q) = true) : CX h B0 := by
  have o := m.2.sub c
  have p : ∀ a, ((pcX a).all (fun q => enX.contains q)) = true → Own (pcX a) h := fun a ca => o.sub ca
  have v : ∀ a j w, enX.contains (a, j, w) = true → h a j = w := fun a j w cw => o (a, j, w) (List.contains_iff_mem.1 cw)
  have z41 : Own (Zr 41 4) h := o.sub (by decide +kernel)
  have z6 : Own (Zr 6 81) h := o.sub (by decide +kernel)
  refine ⟨4, .inl rfl, m.1, ⟨v _ _ _ (by decide +kernel), v _ _ _ (by decide +kernel), v _ _ _ (by decide +kernel), v _ _ _ (by decide +kernel), v _ _ _ (by decide +kernel), v _ _ _ (by decide +kernel), v _ _ _ (by decide +kernel), v _ _ _ (by decide +kernel), v _ _ _ (by decide +kernel), v _ _ _ (by decide +kernel), v _ _ _ (by decide +kernel), v _ _ _ (by decide +kernel)⟩, ⟨Pr_of (p 4 (by decide +kernel)), fun w w0 w3 => ?_, fun k k0 k1 => Zr_at z6 k0 k1, v 4 6 0 (by decide +kernel), fun w t _ _ t0 t1 => ?_, fun w t _ _ t0 t1 => ?_, fun w t _ _ t0 t1 => ?_⟩, ⟨v 42 0 0 (by decide +kernel), v 42 1 0 (by decide +kernel)⟩, ⟨Pr_of (p 4 (by decide +kernel)), Pr_of (p 10 (by decide +kernel))⟩, fun q q0 q4 => ?_, ⟨v _ _ _ (by decide +kernel), v _ _ _ (by decide +kernel), ⟨v _ _ _ (by decide +kernel), v _ _ _ (by decide +kernel)⟩, ⟨v 47 0 1 (by decide +kernel), v 47 1 48 (by decide +kernel), v 47 2 49 (by decide +kernel), v 47 3 50 (by decide +kernel)⟩, ⟨⟨v _ _ _ (by decide +kernel), v _ _ _ (by decide +kernel), v _ _ _ (by decide +kernel), v _ _ _ (by decide +kernel), v _ _ _ (by decide +kernel), v _ _ _ (by decide +kernel), v _ _ _ (by decide +kernel), v _ _ _ (by decide +kernel)⟩, fun i i0 i4 => ?_⟩, ⟨v 62 0 1 (by decide +kernel), v 62 1 63 (by decide +kernel), v 62 2 64 (by decide +kernel), v 62 3 65 (by decide +kernel)⟩, ⟨v 66 0 1 (by decide +kernel), v 66 1 67 (by decide +kernel), v 66 2 68 (by decide +kernel), v 66 3 69 (by decide +kernel)⟩, ⟨v _ _ _ (by decide +kernel), v _ _ _ (by decide +kernel), v _ _ _ (by decide +kernel), v _ _ _ (by decide +kernel), v _ _ _ (by decide +kernel)⟩⟩, BW_0⟩
  · have hw : w = 0 ∨ w = 1 ∨ w = 2 := by omega
    rcases hw with rfl | rfl | rfl
    · exact v 5 0 1 (by decide +kernel)
    · exact v 5 1 1 (by decide +kernel)
    · exact v 5 2 1 (by decide +kernel)
  · have t1' : t < 0 := t1
    omega
  · have t1' : t < 0 := t1
    omega
  · have t1' : t < 0 := t1
    omega
  · have hq : q = 0 ∨ q = 1 ∨ q = 2 ∨ q = 3 := by omega
    rcases hq with rfl | rfl | rfl | rfl
    · exact ⟨Pr_of (p 17 (by decide +kernel)), v 16 0 17 (by decide +kernel), Zr_at z41 (by decide) (by decide), fun z => absurd rfl z⟩
    · exact ⟨Pr_of (p 23 (by decide +kernel)), v 16 1 23 (by decide +kernel), Zr_at z41 (by decide) (by decide), fun z => absurd rfl z⟩
    · exact ⟨Pr_of (p 29 (by decide +kernel)), v 16 2 29 (by decide +kernel), Zr_at z41 (by decide) (by decide), fun z => absurd rfl z⟩
    · exact ⟨Pr_of (p 35 (by decide +kernel)), v 16 3 35 (by decide +kernel), Zr_at z41 (by decide) (by decide), fun z => absurd rfl z⟩
  · have hi : i = 0 ∨ i = 1 ∨ i = 2 ∨ i = 3 ∨ i = 4 := by omega
    rcases hi with rfl | rfl | rfl | rfl | rfl
    · exact v 55 0 56 (by decide +kernel)
    · exact v 55 1 57 (by decide +kernel)
    · exact v 55 2 58 (by decide +kernel)
    · exact v 55 3 59 (by decide +kernel)
    · exact v 55 4 60 (by decide +kernel)
section Ctor3
variable {l : Launch} {d : Nat} {h : HP} {Q : Int → GS → HP → Prop}
set_option maxHeartbeats 4000000 in
set_option maxRecDepth 100000 in
theorem rX8_init (hQ : ∀ h', CX h' B0 → Q 0 (GP 75) h') : R l MX8_init (d + 3) 74 4530 [vR 0] (GP 1) h Q := by
  refine eX8_init 0 (vX8_init_0 0 ⟨by decide, ⟨by decide, by decide⟩, fun G2 h3 eG2 e3 => ?_⟩)
  replace eG2 : G2 = GP 2 := eG2.trans (by decide +kernel)
  subst eG2
  refine ⟨⟨by decide, by decide⟩, by decide +kernel, rX1_init (fun h7 g7 f7 => ⟨by decide +kernel, fun h11 e11 => ⟨⟨by decide, by decide⟩, fun G12 h13 eG12 e13 => ?_⟩⟩)⟩
  replace e11 : h11 = hset h7 0 0 1 := e11
  replace eG12 : G12 = GP 5 := eG12.trans (by decide +kernel)
  replace e13 : h13 = hcl h11 4 (dfo 4) := e13
  subst eG12
  have o13 := ((show OG [] h7 from ⟨g7, Own.nil⟩).set e11 (.inl (by decide)) rfl).cl e13 (by decide) (by decide +kernel)
  rw [o13.at (a := 0) (j := 0) (v := 1) (by decide +kernel)]
  refine ⟨by decide +kernel, ⟨by decide, by decide⟩, by decide +kernel, rX4_init (n := 5) (a := 4) (by decide +kernel) (by decide) (by decide) (fun h18 p18 f18 => ⟨by decide +kernel, fun h22 e22 => ⟨⟨by decide, by decide⟩, fun G23 h24 eG23 e24 => ?_⟩⟩)⟩
  replace e22 : h22 = hset h18 0 10 4 := e22
  replace eG23 : G23 = GP 11 := eG23.trans (by decide +kernel)
  replace e24 : h24 = hcl h22 10 (dfo 4) := e24
  subst eG23
  have o24 := (((o13.fr f18 (by decide) (by decide +kernel)).ap p18).set e22 (.inl (by decide)) (by decide +kernel)).cl e24 (by decide) (by decide +kernel)
  rw [o24.at (a := 0) (j := 0) (v := 1) (by decide +kernel)]
  refine ⟨by decide +kernel, ⟨by decide, by decide⟩, by decide +kernel, rX4_init (n := 11) (a := 10) (by decide +kernel) (by decide) (by decide) (fun h29 p29 f29 => ⟨by decide +kernel, fun h33 e33 => ⟨⟨by decide, by decide⟩, fun G34 h35 eG34 e35 => ?_⟩⟩)⟩
  replace e33 : h33 = hset h29 0 11 10 := e33
  replace eG34 : G34 = GP 17 := eG34.trans (by decide +kernel)
  replace e35 : h35 = hcl h33 16 (fun _ => -1) := e35
  subst eG34
  refine ⟨by decide +kernel, fun h38 e38 => ?_⟩
  replace e38 : h38 = hset h35 0 1 16 := e38
  have k0 := ((((o24.fr f29 (by decide) (by decide +kernel)).ap p29).set e33 (.inl (by decide)) (by decide +kernel)).cl e35 (by decide) (by decide +kernel)).set e38 (.inl (by decide)) (by decide +kernel)
  -- the kept places
  refine vX8_init_55 0 0 ⟨by decide, fun z => absurd z (by decide), fun _ => ⟨by decide +kernel, ⟨by decide, by decide⟩, fun G81 a2 eG81 ea2 => ?_⟩⟩
  replace eG81 : G81 = GP 18 := eG81.trans (by decide +kernel)
  replace ea2 : a2 = hcl h38 17 (dfo 4) := ea2
  subst eG81
  have k1 := k0.cl ea2 (by decide) (by decide +kernel)
  rw [k1.at (a := 0) (j := 0) (v := 1) (by decide +kernel), k0.at (a := 0) (j := 1) (v := 16) (by decide +kernel)]
  refine ⟨by decide +kernel, ⟨by decide, by decide⟩, by decide +kernel, rX4_init (n := 18) (a := 17) (by decide +kernel) (by decide) (by decide) (fun a3 p3 f3 => ⟨by decide +kernel, by decide +kernel, fun a4 ea4 => ?_⟩)⟩
  replace ea4 : a4 = hset a3 16 0 17 := ea4
  have k2 := ((k1.fr f3 (by decide) (by decide +kernel)).ap p3).set ea4 (.inr (by decide)) (by decide +kernel)
  refine vX8_init_55 0 1 ⟨by decide, fun z => absurd z (by decide), fun _ => ⟨by decide +kernel, ⟨by decide, by decide⟩, fun G81 b2 eG81 eb2 => ?_⟩⟩
  replace eG81 : G81 = GP 24 := eG81.trans (by decide +kernel)
  replace eb2 : b2 = hcl a4 23 (dfo 4) := eb2
  subst eG81
  have k3 := k2.cl eb2 (by decide) (by decide +kernel)
  rw [k3.at (a := 0) (j := 0) (v := 1) (by decide +kernel), k2.at (a := 0) (j := 1) (v := 16) (by decide +kernel)]
  refine ⟨by decide +kernel, ⟨by decide, by decide⟩, by decide +kernel, rX4_init (n := 24) (a := 23) (by decide +kernel) (by decide) (by decide) (fun b3 p4 f4 => ⟨by decide +kernel, by decide +kernel, fun b4 eb4 => ?_⟩)⟩
  replace eb4 : b4 = hset b3 16 1 23 := eb4
  have k4 := ((k3.fr f4 (by decide) (by decide +kernel)).ap p4).set eb4 (.inr (by decide)) (by decide +kernel)
  refine vX8_init_55 0 2 ⟨by decide, fun z => absurd z (by decide), fun _ => ⟨by decide +kernel, ⟨by decide, by decide⟩, fun G81 c2 eG81 ec2 => ?_⟩⟩
  replace eG81 : G81 = GP 30 := eG81.trans (by decide +kernel)
  replace ec2 : c2 = hcl b4 29 (dfo 4) := ec2
  subst eG81
  have k5 := k4.cl ec2 (by decide) (by decide +kernel)
  rw [k5.at (a := 0) (j := 0) (v := 1) (by decide +kernel), k4.at (a := 0) (j := 1) (v := 16) (by decide +kernel)]
  refine ⟨by decide +kernel, ⟨by decide, by decide⟩, by decide +kernel, rX4_init (n := 30) (a := 29) (by decide +kernel) (by decide) (by decide) (fun c3 p5 f5 => ⟨by decide +kernel, by decide +kernel, fun c4 ec4 => ?_⟩)⟩
  replace ec4 : c4 = hset c3 16 2 29 := ec4
  have k6 := ((k5.fr f5 (by decide) (by decide +kernel)).ap p5).set ec4 (.inr (by decide)) (by decide +kernel)
  refine vX8_init_55 0 3 ⟨by decide, fun z => absurd z (by decide), fun _ => ⟨by decide +kernel, ⟨by decide, by decide⟩, fun G81 d2 eG81 ed2 => ?_⟩⟩
  replace eG81 : G81 = GP 36 := eG81.trans (by decide +kernel)
  replace ed2 : d2 = hcl c4 35 (dfo 4) := ed2
  subst eG81
  have k7 := k6.cl ed2 (by decide) (by decide +kernel)
  rw [k7.at (a := 0) (j := 0) (v := 1) (by decide +kernel), k6.at (a := 0) (j := 1) (v := 16) (by decide +kernel)]
  refine ⟨by decide +kernel, ⟨by decide, by decide⟩, by decide +kernel, rX4_init (n := 36) (a := 35) (by decide +kernel) (by decide) (by decide) (fun d3 p6 f6 => ⟨by decide +kernel, by decide +kernel, fun d4 ed4 => ?_⟩)⟩
  replace ed4 : d4 = hset d3 16 3 35 := ed4
  have k8 := ((k7.fr f6 (by decide) (by decide +kernel)).ap p6).set ed4 (.inr (by decide)) (by decide +kernel)
  -- the helpers
  refine vX8_init_55 0 4 ⟨by decide, fun _ => ⟨⟨by decide, by decide⟩, fun G3 h4 eG3 e4 => ?_⟩, fun z => absurd z (by decide)⟩
  replace eG3 : G3 = GP 42 := eG3.trans (by decide +kernel)
  replace e4 : h4 = hcl d4 41 (fun _ => 0) := e4
  subst eG3
  refine ⟨by decide +kernel, fun h7 e7 => ⟨⟨by decide, by decide⟩, fun G8 h9 eG8 e9 => ?_⟩⟩
  replace e7 : h7 = hset h4 0 2 41 := e7
  replace eG8 : G8 = GP 43 := eG8.trans (by decide +kernel)
  replace e9 : h9 = hcl h7 42 (fun _ => 0) := e9
  subst eG8
  refine ⟨by decide +kernel, fun h12 e12 => ⟨⟨by decide, by decide⟩, fun G13 h14 eG13 e14 => ?_⟩⟩
  replace e12 : h12 = hset h9 0 3 42 := e12
  replace eG13 : G13 = GP 44 := eG13.trans (by decide +kernel)
  replace e14 : h14 = hcl h12 43 (dfo 3) := e14
  subst eG13
  have z41 : Own (Zr 41 4) h4 := own_z (by rw [e4, hcl_s])
  have z42 : Own (Zr 42 2) h9 := own_z (by rw [e9, hcl_s])
  have m1 := (((((k8.cl e4 (by decide) (by decide +kernel)).ap z41).set e7 (.inl (by decide)) (by decide +kernel)).cl e9 (by decide) (by decide +kernel)).ap z42).set e12 (.inl (by decide)) (by decide +kernel) |>.cl e14 (by decide) (by decide +kernel)
  rw [m1.at (a := 0) (j := 0) (v := 1) (by decide +kernel)]
  refine ⟨by decide +kernel, ⟨by decide, by decide⟩, by decide +kernel, eX3_init _ _ (vX3_init_0 _ _ ⟨by decide +kernel, by decide +kernel, fun h19 e19 => ⟨⟨by decide, by decide⟩, by decide +kernel, fun h23 e23 => ⟨⟨by decide, by decide⟩, fun G24 h25 eG24 e25 => ?_⟩⟩⟩)⟩
  replace e19 : h19 = hset h14 43 0 1 := e19
  replace e23 : h23 = hset h19 0 4 43 := e23
  replace eG24 : G24 = GP 45 := eG24.trans (by decide +kernel)
  replace e25 : h25 = hcl h23 44 (dfo 2) := e25
  subst eG24
  have m2 := ((m1.set e19 (.inr (by decide)) (by decide +kernel)).set e23 (.inl (by decide)) (by decide +kernel)).cl e25 (by decide) (by decide +kernel)
  rw [m2.at (a := 0) (j := 0) (v := 1) (by decide +kernel)]
  refine ⟨by decide +kernel, ⟨by decide, by decide⟩, by decide +kernel, eX2_init _ _ (vX2_init_0 _ _ ⟨by decide +kernel, by decide +kernel, fun h30 e30 => ⟨⟨by decide, by decide⟩, by decide +kernel, fun h34 e34 => ⟨⟨by decide, by decide⟩, fun G35 h36 eG35 e36 => ?_⟩⟩⟩)⟩
  replace e30 : h30 = hset h25 44 0 1 := e30
  replace e34 : h34 = hset h30 0 5 44 := e34
  replace eG35 : G35 = GP 46 := eG35.trans (by decide +kernel)
  replace e36 : h36 = hcl h34 45 (dfo 5) := e36
  subst eG35
  have m3 := ((m2.set e30 (.inr (by decide)) (by decide +kernel)).set e34 (.inl (by decide)) (by decide +kernel)).cl e36 (by decide) (by decide +kernel)
  rw [m3.at (a := 0) (j := 0) (v := 1) (by decide +kernel)]
  refine ⟨by decide +kernel, ⟨by decide, by decide⟩, by decide +kernel, eX5_init _ _ (vX5_init_0 _ _ ⟨by decide +kernel, ⟨by decide, by decide⟩, fun G2 h37 eG2 e37 => ?_⟩)⟩
  replace eG2 : G2 = GP 47 := eG2.trans (by decide +kernel)
  replace e37 : h37 = hcl h36 46 (fun _ => 0) := e37
  subst eG2
  refine ⟨by decide +kernel, fun h39 e39 h41 e41 => ⟨by decide +kernel, fun h45 e45 => ⟨⟨by decide, by decide⟩, fun G46 h47 eG46 e47 => ?_⟩⟩⟩
  replace e39 : h39 = hset h37 45 1 46 := e39
  replace e41 : h41 = hset h39 45 0 1 := e41
  replace e45 : h45 = hset h41 0 6 45 := e45
  replace eG46 : G46 = GP 48 := eG46.trans (by decide +kernel)
  replace e47 : h47 = hcl h45 47 (dfo 0) := e47
  subst eG46
  have m4 := ((((m3.cl e37 (by decide) (by decide +kernel)).set e39 (.inr (by decide)) (by decide +kernel)).set e41 (.inr (by decide)) (by decide +kernel)).set e45 (.inl (by decide)) (by decide +kernel)).cl e47 (by decide) (by decide +kernel)
  rw [m4.at (a := 0) (j := 0) (v := 1) (by decide +kernel)]
  refine ⟨by decide +kernel, ⟨by decide, by decide⟩, by decide +kernel, rX0_init (n := 48) (a := 47) (by decide +kernel) (by decide) (by decide) (fun h52 p52 f52 => ⟨by decide +kernel, fun h56 e56 => ⟨⟨by decide, by decide⟩, fun G57 h58 eG57 e58 => ?_⟩⟩)⟩
  replace e56 : h56 = hset h52 0 7 47 := e56
  replace eG57 : G57 = GP 52 := eG57.trans (by decide +kernel)
  replace e58 : h58 = hcl h56 51 (dfo 6) := e58
  subst eG57
  have m5 := (((m4.fr f52 (by decide) (by decide +kernel)).ap p52).set e56 (.inl (by decide)) (by decide +kernel)).cl e58 (by decide) (by decide +kernel)
  rw [m5.at (a := 0) (j := 0) (v := 1) (by decide +kernel)]
  refine ⟨by decide +kernel, ⟨by decide, by decide⟩, by decide +kernel, rX6_init (fun h63 p63 f63 => ⟨by decide +kernel, fun h67 e67 => ⟨⟨by decide, by decide⟩, fun G68 h69 eG68 e69 => ?_⟩⟩)⟩
  replace e67 : h67 = hset h63 0 8 51 := e67
  replace eG68 : G68 = GP 71 := eG68.trans (by decide +kernel)
  replace e69 : h69 = hcl h67 70 (dfo 7) := e69
  subst eG68
  have m6 := (((m5.fr f63 (by decide) (by decide +kernel)).ap p63).set e67 (.inl (by decide)) (by decide +kernel)).cl e69 (by decide) (by decide +kernel)
  rw [m6.at (a := 0) (j := 0) (v := 1) (by decide +kernel)]
  refine ⟨by decide +kernel, ⟨by decide, by decide⟩, by decide +kernel, rX7_init (fun h74 p74 f74 => ⟨by decide +kernel, fun h78 e78 => ⟨⟨by decide, by decide⟩, hQ h78 ?_⟩⟩)⟩
  replace e78 : h78 = hset h74 0 9 70 := e78
  have m7 := ((m6.fr f74 (by decide) (by decide +kernel)).ap p74).set e78 (.inl (by decide)) (by decide +kernel)
  exact CX_B0 m7 (by decide +kernel)
end Ctor3
