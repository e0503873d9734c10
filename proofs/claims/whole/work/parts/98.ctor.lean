/-! the constructors: G0's first n cells; numbers known to stand in fields -/
def GP (n : Nat) : GS := G0.take n
def Own (X : List (Int × Int × Int)) (h : HP) : Prop := ∀ q ∈ X, h q.1 q.2.1 = q.2.2
def blw (X : List (Int × Int × Int)) (n : Int) : Bool := X.all (fun q => decide (q.1 < n))
def frm (X : List (Int × Int × Int)) (a j : Int) : Bool := X.all (fun q => decide (q.1 ≠ a ∨ q.2.1 ≠ j))
theorem Own.fr {X : List (Int × Int × Int)} {h h' : HP} {n : Int} (o : Own X h) (f : ∀ b, b < n → h' b = h b) (c : blw X n = true) : Own X h' := fun q hq => by
  have := List.all_eq_true.1 c q hq
  rw [f q.1 (of_decide_eq_true this)]
  exact o q hq
theorem Own.set {X : List (Int × Int × Int)} {h h' : HP} {a j v : Int} (o : Own X h) (e : h' = hset h a j v) (c : frm X a j = true) : Own ((a, j, v) :: X) h' := fun q hq => by
  rcases List.mem_cons.1 hq with z | z
  · rw [z, e, hset_s]
  · have := of_decide_eq_true (List.all_eq_true.1 c q z)
    rw [e]
    rcases this with y | y
    · rw [hset_oa y]; exact o q z
    · rw [hset_oj y]; exact o q z
theorem Own.ap {X Y : List (Int × Int × Int)} {h : HP} (o : Own X h) (o' : Own Y h) : Own (Y ++ X) h := fun q hq => (List.mem_append.1 hq).elim (o' q) (o q)
def Zr (a : Int) (n : Nat) : List (Int × Int × Int) := (List.range n).map (fun i : Nat => (a, (i : Int), (0 : Int)))
theorem own_z {h : HP} {a : Int} {n : Nat} (e : h a = fun _ => 0) : Own (Zr a n) h := fun q hq => by
  obtain ⟨i, _, rfl⟩ := List.mem_map.1 hq
  show h a i = 0
  rw [e]
def OG (X : List (Int × Int × Int)) (h : HP) : Prop := Gd h 2 ∧ Own X h
theorem OG.fr {X : List (Int × Int × Int)} {h h' : HP} {n : Int} (o : OG X h) (f : ∀ b, b < n → h' b = h b) (n4 : 3 < n) (c : blw X n = true) : OG X h' := ⟨o.1.lo (fun b _ b3 => f b (by omega)), o.2.fr f c⟩
theorem OG.cl {X : List (Int × Int × Int)} {h h' : HP} {n : Int} {g : Int → Int} (o : OG X h) (e : h' = hcl h n g) (n4 : 3 < n) (c : blw X n = true) : OG X h' := o.fr (fun b hb => by rw [e, hcl_o (by omega)]) n4 c
theorem OG.set {X : List (Int × Int × Int)} {h h' : HP} {a j v : Int} (o : OG X h) (e : h' = hset h a j v) (a4 : a < 1 ∨ 3 < a) (c : frm X a j = true) : OG ((a, j, v) :: X) h' := ⟨o.1.lo (fun b b1 b3 => by rw [e, hset_oa (by omega)]), o.2.set e c⟩
theorem OG.ap {X Y : List (Int × Int × Int)} {h : HP} (o : OG X h) (o' : Own Y h) : OG (Y ++ X) h := ⟨o.1, o.2.ap o'⟩
theorem OG.at {X : List (Int × Int × Int)} {h : HP} {a j v : Int} (o : OG X h) (m : (a, j, v) ∈ X) : h a j = v := o.2 _ m
def pcX (a : Int) : List (Int × Int × Int) := [(a, 0, 1), (a, 1, a + 1), (a, 2, a + 2), (a, 3, a + 3), (a, 4, a + 4), (a, 5, a + 5), (a, 6, 0), (a + 1, 0, 1), (a + 1, 1, 1), (a + 1, 2, 1)] ++ Zr (a + 2) 81
section Ctor
variable {l : Launch} {d : Nat} {h : HP} {Q : Int → GS → HP → Prop}
theorem rX1_init (hQ : ∀ h', Gd h' 2 → (∀ b, b < 1 ∨ 3 < b → h' b = h b) → Q 0 (GP 4) h') : R l MX1_init (d + 1) 2 17 [vR 1] (GP 2) h Q := by
  refine eX1_init 1 (vX1_init_0 1 ⟨by decide, ⟨by decide, by decide⟩, fun G2 h3 eG2 e3 => ?_⟩)
  replace eG2 : G2 = GP 3 := eG2.trans (by decide +kernel)
  replace e3 : h3 = hcl h 2 (fun _ => 0) := e3
  subst eG2
  refine ⟨by decide +kernel, fun h6 e6 => ⟨⟨by decide, by decide⟩, fun G7 h8 eG7 e8 => ?_⟩⟩
  replace eG7 : G7 = GP 4 := eG7.trans (by decide +kernel)
  replace e8 : h8 = hcl h6 3 (fun _ => 0) := e8
  replace e6 : h6 = hset h3 1 1 2 := e6
  subst eG7
  refine ⟨by decide +kernel, fun h11 e11 => ?_⟩
  replace e11 : h11 = hset h8 1 2 3 := e11
  refine rX1_become (.inl rfl) (by rw [e11, hset_oj (by decide), e8, hcl_o (by decide), e6, hset_s]) (by rw [e11, hset_s]) (by decide +kernel) (by decide +kernel) (by decide +kernel) (fun h' g f => ⟨⟨by decide, by decide⟩, hQ h' g (fun b hb => ?_)⟩)
  rw [f b (by omega) (by omega) (by omega), e11, hset_oa (by omega), e8, hcl_o (by omega), e6, hset_oa (by omega), e3, hcl_o (by omega)]
abbrev gp4 (n : Nat) : Prop := (GP n).length = n ∧ GP n ++ [(10, 3)] = GP (n + 1) ∧ GP (n + 1) ++ [(10, 81)] = GP (n + 2) ∧ GP (n + 2) ++ [(10, 120)] = GP (n + 3) ∧ GP (n + 3) ++ [(10, 120)] = GP (n + 4) ∧ GP (n + 4) ++ [(10, 120)] = GP (n + 5) ∧ ((GP (n + 1)).length = n + 1 ∧ (GP (n + 2)).length = n + 2 ∧ (GP (n + 3)).length = n + 3 ∧ (GP (n + 4)).length = n + 4) ∧ (ty (GP (n + 1)) (n - 1) = 4 ∧ ty (GP (n + 2)) (n - 1) = 4 ∧ ty (GP (n + 3)) (n - 1) = 4 ∧ ty (GP (n + 4)) (n - 1) = 4 ∧ ty (GP (n + 5)) (n - 1) = 4) ∧ (ty (GP (n + 5)) n = 10 ∧ ln (GP (n + 5)) n = 3) ∧ ty (GP (n + 5)) (n + 1) = 10 ∧ ln (GP (n + 5)) (n + 1) = 81
theorem rX4_init {n : Nat} {a : Int} (g : gp4 n) (ha : a = n - 1) (a0 : 0 ≤ a) (hQ : ∀ h', Own (pcX a) h' → (∀ b, b < a → h' b = h b) → Q 0 (GP (n + 5)) h') : R l MX4_init (d + 2) 5 444 [vR a, vR 1] (GP n) h Q := by
  obtain ⟨l0, g1, g2, g3, g4, g5, ⟨l1, l2, l3, l4⟩, ⟨t1, t2, t3, t4, t5⟩, t6, t7⟩ := g
  rw [← ha] at t1 t2 t3 t4 t5
  have en : (n : Int) = a + 1 := by omega
  refine eX4_init a 1 (vX4_init_0 a 1 ⟨a0, ⟨by decide, by decide⟩, fun G2 h3 eG2 e3 => ?_⟩)
  rw [g1] at eG2; subst eG2
  rw [l0, en] at e3
  refine ⟨t1, fun h6 e6 => ⟨⟨by decide, by decide⟩, fun G7 h8 eG7 e8 => ?_⟩⟩
  rw [g2] at eG7; subst eG7
  rw [l0, en] at e6
  rw [l1, show ((n + 1 : Nat) : Int) = a + 2 by omega] at e8
  refine ⟨t2, fun h11 e11 => ⟨⟨by decide, by decide⟩, fun G12 h13 eG12 e13 => ?_⟩⟩
  rw [g3] at eG12; subst eG12
  rw [l1, show ((n + 1 : Nat) : Int) = a + 2 by omega] at e11
  rw [l2, show ((n + 2 : Nat) : Int) = a + 3 by omega] at e13
  refine ⟨t3, fun h16 e16 => ⟨⟨by decide, by decide⟩, fun G17 h18 eG17 e18 => ?_⟩⟩
  rw [g4] at eG17; subst eG17
  rw [l2, show ((n + 2 : Nat) : Int) = a + 3 by omega] at e16
  rw [l3, show ((n + 3 : Nat) : Int) = a + 4 by omega] at e18
  refine ⟨t4, fun h21 e21 => ⟨⟨by decide, by decide⟩, fun G22 h23 eG22 e23 => ?_⟩⟩
  rw [g5] at eG22; subst eG22
  rw [l3, show ((n + 3 : Nat) : Int) = a + 4 by omega] at e21
  rw [l4, show ((n + 4 : Nat) : Int) = a + 5 by omega] at e23
  refine ⟨t5, fun h26 e26 h27 e27 => ?_⟩
  rw [l4, show ((n + 4 : Nat) : Int) = a + 5 by omega] at e26
  have pr : Pr h27 a := by
    refine ⟨by rw [e27, hset_s], ?_, ?_, ?_, ?_, ?_⟩
    · rw [e27, hset_oj (by decide), e26, hset_oj (by decide), e23, hcl_o (by omega), e21, hset_oj (by decide), e18, hcl_o (by omega), e16, hset_oj (by decide), e13, hcl_o (by omega), e11, hset_oj (by decide), e8, hcl_o (by omega), e6, hset_s]
    · rw [e27, hset_oj (by decide), e26, hset_oj (by decide), e23, hcl_o (by omega), e21, hset_oj (by decide), e18, hcl_o (by omega), e16, hset_oj (by decide), e13, hcl_o (by omega), e11, hset_s]
    · rw [e27, hset_oj (by decide), e26, hset_oj (by decide), e23, hcl_o (by omega), e21, hset_oj (by decide), e18, hcl_o (by omega), e16, hset_s]
    · rw [e27, hset_oj (by decide), e26, hset_oj (by decide), e23, hcl_o (by omega), e21, hset_s]
    · rw [e27, hset_oj (by decide), e26, hset_s]
  rw [en] at t6 t7
  refine rX4_start ⟨t5, t6, by rw [show a + 2 = a + 1 + 1 by omega]; exact t7⟩ pr (fun h' xp f => ⟨⟨by decide, by decide⟩, hQ h' ?_ (fun b hb => ?_)⟩)
  · obtain ⟨⟨p0, p1, p2, p3, p4, p5⟩, x1, x2, x3, _⟩ := xp 2 (fun _ => 0)
    intro q hq
    unfold pcX at hq
    rcases List.mem_append.1 hq with z | z
    · simp only [List.mem_cons, List.not_mem_nil, or_false] at z
      rcases z with rfl | rfl | rfl | rfl | rfl | rfl | rfl | rfl | rfl | rfl
      · exact p0
      · exact p1
      · exact p2
      · exact p3
      · exact p4
      · exact p5
      · exact x3
      · exact x1 0 (by decide) (by decide)
      · exact x1 1 (by decide) (by decide)
      · exact x1 2 (by decide) (by decide)
    · obtain ⟨i, hi, rfl⟩ := List.mem_map.1 z
      have := List.mem_range.1 hi
      exact x2 i (by omega) (by omega)
  · rw [f b (.inl hb), e27, hset_oa (by omega), e26, hset_oa (by omega), e23, hcl_o (by omega), e21, hset_oa (by omega), e18, hcl_o (by omega), e16, hset_oa (by omega), e13, hcl_o (by omega), e11, hset_oa (by omega), e8, hcl_o (by omega), e6, hset_oa (by omega), e3, hcl_o (by omega)]
/-- a basis at its place -/
def bsX (a : Int) : List (Int × Int × Int) := [(a, 0, 1), (a, 1, a + 1), (a, 2, a + 2), (a, 3, a + 3)]
abbrev gp0 (n : Nat) : Prop := (GP n).length = n ∧ GP n ++ [(10, 9)] = GP (n + 1) ∧ GP (n + 1) ++ [(10, 9)] = GP (n + 2) ∧ GP (n + 2) ++ [(10, 9)] = GP (n + 3) ∧ ((GP (n + 1)).length = n + 1 ∧ (GP (n + 2)).length = n + 2) ∧ (ty (GP (n + 1)) (n - 1) = 0 ∧ ty (GP (n + 2)) (n - 1) = 0 ∧ ty (GP (n + 3)) (n - 1) = 0)
theorem rX0_init {n : Nat} {a : Int} (g : gp0 n) (ha : a = n - 1) (a0 : 0 ≤ a) (hQ : ∀ h', Own (bsX a) h' → (∀ b, b < a → h' b = h b) → Q 0 (GP (n + 3)) h') : R l MX0_init (d + 1) 3 27 [vR a, vR 1] (GP n) h Q := by
  obtain ⟨l0, g1, g2, g3, ⟨l1, l2⟩, ⟨t1, t2, t3⟩⟩ := g
  rw [← ha] at t1 t2 t3
  have en : (n : Int) = a + 1 := by omega
  refine eX0_init a 1 (vX0_init_0 a 1 ⟨a0, ⟨by decide, by decide⟩, fun G2 h3 eG2 e3 => ?_⟩)
  rw [g1] at eG2; subst eG2
  rw [l0, en] at e3
  refine ⟨t1, fun h6 e6 => ⟨⟨by decide, by decide⟩, fun G7 h8 eG7 e8 => ?_⟩⟩
  rw [g2] at eG7; subst eG7
  rw [l0, en] at e6
  rw [l1, show ((n + 1 : Nat) : Int) = a + 2 by omega] at e8
  refine ⟨t2, fun h11 e11 => ⟨⟨by decide, by decide⟩, fun G12 h13 eG12 e13 => ?_⟩⟩
  rw [g3] at eG12; subst eG12
  rw [l1, show ((n + 1 : Nat) : Int) = a + 2 by omega] at e11
  rw [l2, show ((n + 2 : Nat) : Int) = a + 3 by omega] at e13
  refine ⟨t3, fun h16 e16 h17 e17 => hQ h17 ?_ (fun b hb => ?_)⟩
  · rw [l2, show ((n + 2 : Nat) : Int) = a + 3 by omega] at e16
    intro q hq
    unfold bsX at hq
    simp only [List.mem_cons, List.not_mem_nil, or_false] at hq
    rcases hq with rfl | rfl | rfl | rfl
    · show h17 a 0 = 1
      rw [e17, hset_s]
    · show h17 a 1 = a + 1
      rw [e17, hset_oj (by decide), e16, hset_oj (by decide), e13, hcl_o (by omega), e11, hset_oj (by decide), e8, hcl_o (by omega), e6, hset_s]
    · show h17 a 2 = a + 2
      rw [e17, hset_oj (by decide), e16, hset_oj (by decide), e13, hcl_o (by omega), e11, hset_s]
    · show h17 a 3 = a + 3
      rw [e17, hset_oj (by decide), e16, hset_s]
  · rw [e17, hset_oa (by omega), e16, hset_oa (by omega), e13, hcl_o (by omega), e11, hset_oa (by omega), e8, hcl_o (by omega), e6, hset_oa (by omega), e3, hcl_o (by omega)]
end Ctor
