/-- how many below n begin with 1 -/
def cF (p : Int) : Nat → Int
  | 0 => 0
  | n + 1 => cF p n + (if FV p n = 1 then 1 else 0)
abbrev PT : Type := Int × (Int → Int) × (Int → Int)
def pfS (p u : Int) (s : PT) (v : Int) : PT := if FV p v = 1 then (s.1 + 1, up1 s.2.1 s.1 u, up1 s.2.2 s.1 v) else s
def pfV (p u : Int) (s : PT) : Nat → PT
  | 0 => s
  | n + 1 => pfS p u (pfV p u s n) n
def pfU (p : Int) (B : Nat) : Nat → PT
  | 0 => (0, fun _ => 0, fun _ => 0)
  | n + 1 => if FV p n = 1 then pfV p n (pfU p B n) B else pfU p B n
theorem pfV_c {p u : Int} {s : PT} : ∀ n : Nat, (pfV p u s n).1 = s.1 + cF p n
  | 0 => by show s.1 = s.1 + 0; omega
  | n + 1 => by
    show (pfS p u (pfV p u s n) n).1 = s.1 + (cF p n + (if FV p n = 1 then 1 else 0))
    unfold pfS
    by_cases c : FV p n = 1
    · rw [if_pos c, if_pos c]
      show (pfV p u s n).1 + 1 = _
      rw [pfV_c n]; omega
    · rw [if_neg c, if_neg c, pfV_c n]; omega
theorem pfU_c {p : Int} {B : Nat} : ∀ n : Nat, (pfU p B n).1 = cF p n * cF p B
  | 0 => by show (0 : Int) = 0 * _; omega
  | n + 1 => by
    show (if FV p n = 1 then pfV p n (pfU p B n) B else pfU p B n).1 = (cF p n + (if FV p n = 1 then 1 else 0)) * cF p B
    by_cases c : FV p n = 1
    · rw [if_pos c, if_pos c, pfV_c, pfU_c n, Int.add_mul, Int.one_mul]
    · rw [if_neg c, if_neg c, pfU_c n, Int.add_zero]
theorem cF_nn {p : Int} : ∀ n : Nat, 0 ≤ cF p n
  | 0 => by show (0 : Int) ≤ 0; omega
  | n + 1 => by
    have := cF_nn (p := p) n
    show 0 ≤ cF p n + (if FV p n = 1 then 1 else 0)
    split <;> omega
theorem cF_mono {p : Int} : ∀ (m n : Nat), m ≤ n → cF p m ≤ cF p n := by
  intro m n h
  induction n with
  | zero => have : m = 0 := by omega
            rw [this]; omega
  | succ n ih =>
    by_cases e : m = n + 1
    · rw [e]; omega
    · have := ih (by omega)
      show cF p m ≤ cF p n + (if FV p n = 1 then 1 else 0)
      split <;> omega
theorem cF_lt {p : Int} {m n : Nat} (h : m < n) (hf : FV p m = 1) : cF p m + 1 ≤ cF p n := by
  have := cF_mono (p := p) (m + 1) n (by omega)
  have e : cF p (m + 1) = cF p m + (if FV p m = 1 then 1 else 0) := rfl
  rw [e, if_pos hf] at this
  exact this
/-- the pairs are such as they should be -/
def PV (p : Int) (A B : Int) (s : PT) : Prop := 0 ≤ s.1 ∧ ∀ t : Int, 0 ≤ t → t < s.1 → (0 ≤ s.2.1 t ∧ s.2.1 t < A ∧ FV p (s.2.1 t) = 1) ∧ 0 ≤ s.2.2 t ∧ s.2.2 t < B ∧ FV p (s.2.2 t) = 1
theorem pfV_v {p A B u : Int} {s : PT} (hs : PV p A B s) (hu : 0 ≤ u ∧ u < A ∧ FV p u = 1) : ∀ n : Nat, (n : Int) ≤ B → PV p A B (pfV p u s n)
  | 0, _ => hs
  | n + 1, h => by
    have ih := pfV_v hs hu n (by omega)
    show PV p A B (pfS p u (pfV p u s n) n)
    unfold pfS
    by_cases c : FV p n = 1
    · rw [if_pos c]
      refine ⟨by have := ih.1; show 0 ≤ (pfV p u s n).1 + 1; omega, fun t t0 t1 => ?_⟩
      have t1' : t < (pfV p u s n).1 + 1 := t1
      by_cases e : t = (pfV p u s n).1
      · rw [e]
        show (0 ≤ up1 _ _ u _ ∧ up1 _ _ u _ < A ∧ FV p (up1 _ _ u _) = 1) ∧ 0 ≤ up1 _ _ (n : Int) _ ∧ up1 _ _ (n : Int) _ < B ∧ FV p (up1 _ _ (n : Int) _) = 1
        rw [up1_s, up1_s]
        exact ⟨hu, by omega, by omega, c⟩
      · show (0 ≤ up1 _ _ u _ ∧ up1 _ _ u _ < A ∧ FV p (up1 _ _ u _) = 1) ∧ 0 ≤ up1 _ _ (n : Int) _ ∧ up1 _ _ (n : Int) _ < B ∧ FV p (up1 _ _ (n : Int) _) = 1
        rw [up1_o e, up1_o e]
        exact ih.2 t t0 (by omega)
    · rw [if_neg c]; exact ih
theorem pfU_v {p A : Int} {B : Nat} : ∀ n : Nat, (n : Int) ≤ A → PV p A B (pfU p B n)
  | 0, _ => ⟨by show (0 : Int) ≤ 0; omega, fun t t0 t1 => by have t1' : t < 0 := t1; omega⟩
  | n + 1, h => by
    have ih := pfU_v (p := p) (A := A) (B := B) n (by omega)
    show PV p A B (if FV p n = 1 then pfV p n (pfU p B n) B else pfU p B n)
    by_cases c : FV p n = 1
    · rw [if_pos c]
      exact pfV_v ih ⟨by omega, by omega, c⟩ B (by omega)
    · rw [if_neg c]; exact ih
def shs (p n : Int) : Int := (PW p n - 1) / (p - 1)
theorem sh_tab : ∀ p ∈ ([2, 3, 5, 7] : List Int), ∀ A ∈ ([1, 2, 3, 4, 5, 6, 7, 8, 9] : List Int), ∀ B ∈ ([1, 2, 3, 4, 5, 6, 7, 8, 9] : List Int), shs p A * shs p B ≤ 60 → A * B ≤ 9 ∧ cF p (PW p A).toNat = shs p A ∧ cF p (PW p B).toNat = shs p B := by decide +kernel
theorem sh_b : ∀ p ∈ ([2, 3, 5, 7] : List Int), ∀ A ∈ ([1, 2, 3, 4, 5, 6, 7, 8, 9] : List Int), 1 ≤ shs p A ∧ shs p A ≤ 40353607 := by decide +kernel
theorem mem_p {p : Int} (hp : okp p) : p ∈ ([2, 3, 5, 7] : List Int) := by rcases hp with rfl | rfl | rfl | rfl <;> decide
theorem mem_9 {A : Int} (h1 : 1 ≤ A) (h9 : A ≤ 9) : A ∈ ([1, 2, 3, 4, 5, 6, 7, 8, 9] : List Int) := by
  rcases (show A = 1 ∨ A = 2 ∨ A = 3 ∨ A = 4 ∨ A = 5 ∨ A = 6 ∨ A = 7 ∨ A = 8 ∨ A = 9 by omega) with rfl | rfl | rfl | rfl | rfl | rfl | rfl | rfl | rfl <;> decide
/-- pairs in the cells -/
def PRh (h : HP) (p B : Int) (s : PT) (v q : Int → Int) (r : Nat) : Prop := h 51 8 = s.1 ∧ ∀ t : Int, 0 ≤ t → t < s.1 → h 52 t = s.2.1 t ∧ h 53 t = s.2.2 t ∧ h 54 t = pr p (s.2.1 t) (s.2.2 t) B ∧ h 56 t = rdc p v q (pr p (s.2.1 t) (s.2.2 t) B) r
def FrL (h h' : HP) : Prop := (∀ b : Int, b < 51 ∨ 56 < b → h' b = h b) ∧ h' 55 = h 55 ∧ ∀ j, j ≠ 8 → h' 51 j = h 51 j
theorem FrL.tr {h h1 h2 : HP} (a : FrL h h1) (b : FrL h1 h2) : FrL h h2 := ⟨fun c hc => (b.1 c hc).trans (a.1 c hc), b.2.1.trans a.2.1, fun j hj => (b.2.2 j hj).trans (a.2.2 j hj)⟩
theorem FrL.sr {h h' : HP} (f : FrL h h') (sr : SR h) : SR h' := by
  unfold SR
  rw [f.2.1, f.2.2 0 (by decide), f.2.2 1 (by decide), f.2.2 2 (by decide), f.2.2 3 (by decide), f.2.2 4 (by decide), f.2.2 5 (by decide), f.2.2 6 (by decide), f.2.2 7 (by decide)]
  exact sr
theorem lt_R {p x n : Int} (hp : okp p) (h0 : 0 ≤ x) (h1 : x < PW p n) (h9 : n ≤ 9) : isR p x := ⟨h0, Int.lt_of_lt_of_le h1 (PW_le (okp_b hp).1 h9)⟩
theorem FV_b {p x : Int} (hp : okp p) : 0 ≤ FV p x ∧ FV p x < p := D_D hp
section Pairs
variable {l : Launch} {d : Nat} {h : HP} {p A B : Int} {r : Nat} {v q b : Int → Int} {Q : Int → GS → HP → Prop}
theorem rX6_listPairsOf {u : Int} {s : PT} (hg : Gd h p) (sr : SR h) (hx : XB h 62 r v q b) (hB : BV p r v q) (hr : r ≤ 9) (hA1 : 1 ≤ A) (hB1 : 1 ≤ B ∧ B ≤ 9) (hAB : A * B ≤ 9) (hu : 0 ≤ u ∧ u < PW p A) (hs0 : 0 ≤ s.1) (hP : PRh h p B s v q r) (h60 : ∀ n : Nat, n < (PW p B).toNat → FV p n = 1 → (pfV p u s n).1 < 60) (hQ : ∀ h', PRh h' p B (pfV p u s (PW p B).toNat) v q r → FrL h h' → Q 0 G0 h') : R l MX6_listPairsOf (d + 3) 0 0 [vR 51, vI u, vI B] G0 h Q := by
  have hb := okp_b hg.1
  have pB := PWm hg.1 hB1.2
  refine eX6_listPairsOf 51 u B (vX6_listPairsOf_0 51 u B ?_)
  refine lp_up (σ := HP) (fun x hh => S l MX6_listPairsOf (d + 2 + 1, 0, 0, 0, 0) 2 [some (vR 51), some (vI u), some (vI B), some (vI x)] [] G0 hh Q) (fun x hh => 1 ≤ x ∧ FrL h hh ∧ PRh hh p B (pfV p u s x.toNat) v q r) (PW p B) ?_ ?_ 1 h (by omega) ⟨by decide, ⟨fun _ _ => rfl, rfl, fun _ _ => rfl⟩, ?_⟩
  · intro x hh hx1 ⟨x0, fr, hP⟩ ih
    have sr' := fr.sr sr
    have g' : Gd hh p := hg.lo (fun b b0 b1 => fr.1 b (by omega))
    have xR := lt_R hg.1 (show 0 ≤ x by omega) hx1 hB1.2
    have fb := FV_b (x := x) hg.1
    have xN : ((x.toNat : Nat) : Int) = x := Int.toNat_of_nonneg (by omega)
    have st : pfV p u s (x + 1).toNat = pfS p u (pfV p u s x.toNat) x := by
      rw [nat_s (by omega)]
      show pfS p u (pfV p u s x.toNat) (x.toNat : Int) = _
      rw [xN]
    have s1 : 0 ≤ (pfV p u s x.toNat).1 := by rw [pfV_c]; have := cF_nn (p := p) x.toNat; omega
    have h61 := h60 x.toNat (by omega)
    rw [xN] at h61
    generalize pfV p u s x.toNat = s' at *
    refine vX6_listPairsOf_2 51 u B x ?_
    simp only [sr'.1.1, g'.2.2.1, g'.2.2.2.2.1 B (by omega) (by omega)]
    refine ⟨by decide +kernel, by decide +kernel, ⟨by decide +kernel, by omega, by rw [show ln G0 2 = 10 by decide +kernel]; omega⟩, ⟨by omega, by omega⟩, ⟨by omega, by omega⟩, fun c => by omega, fun _ => ?_⟩
    refine rX1_first g' xR ⟨⟨by omega, by omega⟩, fun hne => ih hh ⟨by omega, fr, by rw [st]; unfold pfS; rw [if_neg hne]; exact hP⟩, fun he => ?_⟩
    have hlt := h61 he
    simp only [hP.1, sr'.1.2.2.2.1]
    refine ⟨by decide +kernel, ⟨by omega, by omega⟩, fun c => by omega, fun _ => ⟨ia5x (by decide) s1 hlt, fun h16 e16 => ?_⟩⟩
    have f16 : ∀ b, b ≠ 52 → h16 b = hh b := fun b hb => by rw [e16, hset_oa hb]
    simp only [f16 51 (by decide), hP.1, sr'.1.2.2.2.2.1]
    refine ⟨ia5x (by decide) s1 hlt, fun h18 e18 => ?_⟩
    have f18 : ∀ b, b ≠ 52 → b ≠ 53 → h18 b = hh b := fun b hb hb2 => by rw [e18, hset_oa hb2, f16 b hb]
    have g18 : Gd h18 p := g'.lo (fun b b0 b1 => f18 b (by omega) (by omega))
    simp only [f18 51 (by decide) (by decide), hP.1, sr'.1.1, sr'.1.2.2.2.2.2.1]
    refine ⟨by decide +kernel, rX1_product g18 hB1 (by omega) hAB hu ⟨by omega, hx1⟩ ⟨ia5x (by decide) s1 hlt, fun h24 e24 => ?_⟩⟩
    have f24 : ∀ b, b ≠ 52 → b ≠ 53 → b ≠ 54 → h24 b = hh b := fun b hb hb2 hb3 => by rw [e24, hset_oa hb3, f18 b hb hb2]
    have g24 : Gd h24 p := g'.lo (fun b b0 b1 => f24 b (by omega) (by omega) (by omega))
    have x24 : XB h24 62 r v q b := hx.fr ⟨(f24 62 (by decide) (by decide) (by decide)).trans (fr.1 62 (by decide)), (f24 (62 + 1) (by decide) (by decide) (by decide)).trans (fr.1 _ (by decide)), (f24 (62 + 2) (by decide) (by decide) (by decide)).trans (fr.1 _ (by decide)), (f24 (62 + 3) (by decide) (by decide) (by decide)).trans (fr.1 _ (by decide))⟩
    have v24 : h24 54 s'.1 = pr p u x B := by rw [e24, hset_s]
    simp only [f24 51 (by decide) (by decide) (by decide), f24 55 (by decide) (by decide) (by decide), hP.1, sr'.1.2.1, sr'.1.2.2.2.2.2.1, sr'.1.2.2.2.2.2.2.1, sr'.2 0 (by decide) (by decide), v24]
    refine ⟨by decide +kernel, ia55 (by decide) (by decide), ia5x (by decide) s1 hlt, by decide +kernel, ?_⟩
    refine rX0_reduce g24 (.inr (.inl rfl)) x24 hB hr (pr_R hg.1) ⟨iaL (by decide) (by decide) s1 hlt, fun h33 e33 => ⟨by decide +kernel, fun h35 e35 => ?_⟩⟩
    have f33 : ∀ b, b ≠ 52 → b ≠ 53 → b ≠ 54 → b ≠ 56 → h33 b = hh b := fun b hb hb2 hb3 hb4 => by rw [e33, hset_oa (by omega), f24 b hb hb2 hb3]
    have f35 : ∀ b, b ≠ 51 → h35 b = h33 b := fun b hb => by rw [e35, hset_oa hb]
    have a51 : ∀ j, j ≠ 8 → h35 51 j = hh 51 j := fun j hj => by rw [e35, hset_oj hj, f33 51 (by decide) (by decide) (by decide) (by decide)]
    have v8 : h35 51 8 = s'.1 + 1 := by rw [e35, hset_s, f33 51 (by decide) (by decide) (by decide) (by decide), hP.1]
    refine ih h35 ⟨by omega, fr.tr ⟨fun b hb => by rw [f35 b (by omega), f33 b (by omega) (by omega) (by omega) (by omega)], by rw [f35 55 (by decide), f33 55 (by decide) (by decide) (by decide) (by decide)], a51⟩, ?_⟩
    rw [st]; unfold pfS; rw [if_pos he]
    refine ⟨v8, fun t t0 t1 => ?_⟩
    have t1' : t < s'.1 + 1 := t1
    show h35 52 t = up1 s'.2.1 s'.1 u t ∧ h35 53 t = up1 s'.2.2 s'.1 x t ∧ h35 54 t = pr p (up1 s'.2.1 s'.1 u t) (up1 s'.2.2 s'.1 x t) B ∧ h35 56 t = rdc p v q (pr p (up1 s'.2.1 s'.1 u t) (up1 s'.2.2 s'.1 x t) B) r
    have c52 : h35 52 = hset hh 52 s'.1 u 52 := by rw [f35 52 (by decide), e33, hset_oa (by decide), e24, hset_oa (by decide), e18, hset_oa (by decide), e16]
    have c53 : h35 53 = hset h16 53 s'.1 x 53 := by rw [f35 53 (by decide), e33, hset_oa (by decide), e24, hset_oa (by decide), e18]
    have c54 : h35 54 = hset h18 54 s'.1 (pr p u x B) 54 := by rw [f35 54 (by decide), e33, hset_oa (by decide), e24]
    have c56 : h35 56 = hset h24 56 s'.1 (rdc p v q (pr p u x B) r) 56 := by rw [f35 56 (by decide), e33]; rfl
    rw [c52, c53, c54, c56]
    by_cases e : t = s'.1
    · rw [e, hset_s, hset_s, hset_s, hset_s, up1_s, up1_s]
      exact ⟨rfl, rfl, rfl, rfl⟩
    · rw [hset_oj e, hset_oj e, hset_oj e, hset_oj e, up1_o e, up1_o e, f16 53 (by decide), f18 54 (by decide) (by decide), f24 56 (by decide) (by decide) (by decide)]
      exact hP.2 t t0 (by omega)
  · intro hh ⟨x0, fr, hP⟩
    have sr' := fr.sr sr
    have g' : Gd hh p := hg.lo (fun b b0 b1 => fr.1 b (by omega))
    refine vX6_listPairsOf_2 51 u B _ ?_
    simp only [sr'.1.1, g'.2.2.1, g'.2.2.2.2.1 B (by omega) (by omega)]
    refine ⟨by decide +kernel, by decide +kernel, ⟨by decide +kernel, by omega, by rw [show ln G0 2 = 10 by decide +kernel]; omega⟩, ⟨by omega, by omega⟩, ⟨by omega, by omega⟩, fun _ => hQ hh hP fr, fun c => by omega⟩
  · show PRh h p B (pfS p u s 0) v q r
    unfold pfS
    rw [FV_0, if_neg (by decide)]
    exact hP
theorem rX6_listPairs (hg : Gd h p) (sr : SR h) (hx : XB h 62 r v q b) (hB : BV p r v q) (hr : r ≤ 9) (hA1 : 1 ≤ A ∧ A ≤ 9) (hB1 : 1 ≤ B ∧ B ≤ 9) (hs : shs p A * shs p B ≤ 60) (hQ : ∀ h', PRh h' p B (pfU p (PW p B).toNat (PW p A).toNat) v q r → FrL h h' → Q 0 G0 h') : R l MX6_listPairs (d + 4) 0 0 [vR 51, vI A, vI B] G0 h Q := by
  have hb := okp_b hg.1
  have pA := PWm hg.1 hA1.2
  have tab := sh_tab p (mem_p hg.1) A (mem_9 hA1.1 hA1.2) B (mem_9 hB1.1 hB1.2) hs
  refine eX6_listPairs 51 A B (vX6_listPairs_0 51 A B ⟨by decide +kernel, fun h2 e2 => ?_⟩)
  have fr2 : FrL h h2 := ⟨fun b hb => by rw [e2, hset_oa (by omega)], by rw [e2, hset_oa (by decide)], fun j hj => by rw [e2, hset_oj hj]⟩
  refine lp_up (σ := HP) (fun x hh => S l MX6_listPairs (d + 3 + 1, 0, 0, 0, 0) 7 [some (vR 51), some (vI A), some (vI B), some (vI x)] [] G0 hh Q) (fun x hh => 1 ≤ x ∧ FrL h hh ∧ PRh hh p B (pfU p (PW p B).toNat x.toNat) v q r) (PW p A) ?_ ?_ 1 h2 (by omega) ⟨by decide, fr2, ?_⟩
  · intro x hh hx1 ⟨x0, fr, hP⟩ ih
    have sr' := fr.sr sr
    have g' : Gd hh p := hg.lo (fun b b0 b1 => fr.1 b (by omega))
    have xR := lt_R hg.1 (show 0 ≤ x by omega) hx1 hA1.2
    have fb := FV_b (x := x) hg.1
    have xN : ((x.toNat : Nat) : Int) = x := Int.toNat_of_nonneg (by omega)
    have st : pfU p (PW p B).toNat (x + 1).toNat = if FV p x = 1 then pfV p x (pfU p (PW p B).toNat x.toNat) (PW p B).toNat else pfU p (PW p B).toNat x.toNat := by
      rw [nat_s (by omega)]
      show (if FV p (x.toNat : Int) = 1 then pfV p (x.toNat : Int) (pfU p (PW p B).toNat x.toNat) (PW p B).toNat else pfU p (PW p B).toNat x.toNat) = _
      rw [xN]
    have x62 : XB hh 62 r v q b := hx.fr ⟨fr.1 _ (by decide), fr.1 _ (by decide), fr.1 _ (by decide), fr.1 _ (by decide)⟩
    refine vX6_listPairs_7 51 A B x ?_
    simp only [sr'.1.1, g'.2.2.1, g'.2.2.2.2.1 A (by omega) (by omega)]
    refine ⟨by decide +kernel, by decide +kernel, ⟨by decide +kernel, by omega, by rw [show ln G0 2 = 10 by decide +kernel]; omega⟩, ⟨by omega, by omega⟩, ⟨by omega, by omega⟩, fun c => by omega, fun _ => ?_⟩
    refine rX1_first g' xR ⟨⟨by omega, by omega⟩, fun hne => ih hh ⟨by omega, fr, by rw [st, if_neg hne]; exact hP⟩, fun he => ⟨by decide +kernel, ?_⟩⟩
    refine rX6_listPairsOf g' sr' x62 hB hr hA1.1 hB1 tab.1 ⟨by omega, hx1⟩ (by rw [pfU_c]; exact Int.mul_nonneg (cF_nn _) (cF_nn _)) hP (fun n hn hf => ?_) (fun h3 hP3 fr3 => ih h3 ⟨by omega, fr.tr fr3, by rw [st, if_pos he]; exact hP3⟩)
    rw [pfV_c, pfU_c]
    have q1 := cF_lt (p := p) (m := x.toNat) (n := (PW p A).toNat) (by omega) (by rw [xN]; exact he)
    have q2 := cF_lt (p := p) hn hf
    rw [tab.2.1] at q1
    rw [tab.2.2] at q2 ⊢
    have q3 : (cF p x.toNat + 1) * shs p B ≤ shs p A * shs p B := Int.mul_le_mul_of_nonneg_right q1 (by have := cF_nn (p := p) n; omega)
    rw [Int.add_mul, Int.one_mul] at q3
    omega
  · intro hh ⟨x0, fr, hP⟩
    have sr' := fr.sr sr
    have g' : Gd hh p := hg.lo (fun b b0 b1 => fr.1 b (by omega))
    refine vX6_listPairs_7 51 A B _ ?_
    simp only [sr'.1.1, g'.2.2.1, g'.2.2.2.2.1 A (by omega) (by omega)]
    refine ⟨by decide +kernel, by decide +kernel, ⟨by decide +kernel, by omega, by rw [show ln G0 2 = 10 by decide +kernel]; omega⟩, ⟨by omega, by omega⟩, ⟨by omega, by omega⟩, fun _ => hQ hh hP fr, fun c => by omega⟩
  · show PRh h2 p B (if FV p ((0 : Nat) : Int) = 1 then pfV p ((0 : Nat) : Int) (pfU p (PW p B).toNat 0) (PW p B).toNat else pfU p (PW p B).toNat 0) v q r
    rw [show FV p ((0 : Nat) : Int) = 0 from FV_0, if_neg (by decide)]
    exact ⟨by rw [e2, hset_s]; rfl, fun t t0 t1 => by have t1' : t < 0 := t1; omega⟩
end Pairs
