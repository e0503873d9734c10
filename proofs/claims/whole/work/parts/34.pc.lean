section Fill
variable {l : Launch} {d : Nat} {h : HP} {G : GS} {Q : Int → GS → HP → Prop}
theorem rJ7_fill {b v : Int} (hb : ty G b = 10) (hl : ln G b ≤ 1000000) (h0 : 0 ≤ ln G b) (hQ : ∀ h', (∀ c, c ≠ b → h' c = h c) → (∀ k, 0 ≤ k → k < ln G b → h' b k = v) → Q 0 G h') : R l MJ7_fill_53178 d 0 0 [vR b, vI v] G h Q := by
  refine eJ7_fill_53178 b v (vJ7_fill_53178_0 b v ⟨hb, ?_⟩)
  refine lp_up (σ := HP) (fun n hh => S l MJ7_fill_53178 (d, 0, 0, 0, 0) 5 [some (vR b), some (vI v), some (vI n), some (vI (ln G b))] [] G hh Q) (fun n hh => 0 ≤ n ∧ (∀ c, c ≠ b → hh c = h c) ∧ ∀ k, 0 ≤ k → k < n → hh b k = v) (ln G b) ?_ ?_ 0 h h0 ⟨by decide, fun _ _ => rfl, fun k k0 k1 => by omega⟩
  · intro n hh hn ⟨n0, i1, i2⟩ ih
    refine vJ7_fill_53178_5 b v n _ ⟨⟨by omega, by omega⟩, ⟨by omega, by omega⟩, fun c => by omega, fun _ => ⟨⟨hb, n0, hn⟩, fun h5 e5 => ih h5 ⟨by omega, fun c hc => by rw [e5, hset_oa hc]; exact i1 c hc, fun k k0 k1 => ?_⟩⟩⟩
    by_cases e : k = n
    · rw [e, e5, hset_s]
    · rw [e5, hset_oj e]; exact i2 k k0 (by omega)
  · intro hh ⟨n0, i1, i2⟩
    exact vJ7_fill_53178_5 b v _ _ ⟨⟨by omega, by omega⟩, ⟨by omega, by omega⟩, fun _ => hQ hh i1 i2, fun c => by omega⟩
theorem rJ7_fillR {b x y v : Int} (hb : ty G b = 10) (hl : ln G b ≤ 1000000) (h0 : 0 ≤ x) (hxy : x ≤ y) (hy : y ≤ ln G b) (hQ : ∀ h', (∀ c, c ≠ b → h' c = h c) → (∀ k, x ≤ k → k < y → h' b k = v) → (∀ k, k < x ∨ y ≤ k → h' b k = h b k) → Q 0 G h') : R l MJ7_fill_fda19 (d + 2) 0 0 [vR b, vI x, vI y, vI v] G h Q := by
  refine eJ7_fill_fda19 b x y v (vJ7_fill_fda19_0 b x y v ⟨hb, ?_⟩)
  refine eJ7_rangeCheck_23922 _ _ _ (vJ7_rangeCheck_23922_0 _ _ _ ⟨⟨by omega, by omega⟩, ⟨by omega, by omega⟩, fun _ => ⟨fun _ => ⟨⟨by omega, by omega⟩, fun _ => ?_, fun c => by omega⟩, fun c => by omega⟩, fun c => by omega⟩)
  refine lp_up (σ := HP) (fun n hh => S l MJ7_fill_fda19 (d + 1 + 1, 0, 0, 0, 0) 10 [some (vR b), none, some (vI y), some (vI v), some (vI n)] [] G hh Q) (fun n hh => x ≤ n ∧ (∀ c, c ≠ b → hh c = h c) ∧ (∀ k, x ≤ k → k < n → hh b k = v) ∧ ∀ k, k < x ∨ n ≤ k → hh b k = h b k) y ?_ ?_ x h hxy ⟨by omega, fun _ _ => rfl, fun k k0 k1 => by omega, fun _ _ => rfl⟩
  · intro n hh hn ⟨n0, i1, i2, i3⟩ ih
    refine vJ7_fill_fda19_10 b y v n ⟨⟨by omega, by omega⟩, ⟨by omega, by omega⟩, fun c => by omega, fun _ => ⟨⟨hb, by omega, by omega⟩, fun h5 e5 => ih h5 ⟨by omega, fun c hc => by rw [e5, hset_oa hc]; exact i1 c hc, fun k k0 k1 => ?_, fun k hk => by rw [e5, hset_oj (by omega)]; exact i3 k (by omega)⟩⟩⟩
    by_cases e : k = n
    · rw [e, e5, hset_s]
    · rw [e5, hset_oj e]; exact i2 k k0 (by omega)
  · intro hh ⟨n0, i1, i2, i3⟩
    exact vJ7_fill_fda19_10 b y v y ⟨⟨by omega, by omega⟩, ⟨by omega, by omega⟩, fun _ => hQ hh i1 i2 i3, fun c => by omega⟩
end Fill
def sz3 (x y z : Int) : Int → Int := fun w => if w = 0 then x else if w = 1 then y else z
section Start
variable {l : Launch} {d : Nat} {h : HP} {p a : Int} {P : PS} {Q : Int → GS → HP → Prop}
theorem rX4_start {G : GS} {x y z : Int} (hG : ty G a = 4 ∧ (ty G (a + 1) = 10 ∧ ln G (a + 1) = 3) ∧ (ty G (a + 2) = 10 ∧ ln G (a + 2) = 81)) (hr : Pr h a) (hQ : ∀ h', (∀ (p : Int) (r : Int → Int), XP h' a p (sz3 x y z, (fun _ => 0), 0, r)) → FrP a h h' → Q 0 G h') : R l MX4_start (d + 1) 0 0 [vR a, vI x, vI y, vI z] G h Q := by
  obtain ⟨g0, ⟨g1, g1'⟩, g2, g2'⟩ := hG
  refine eX4_start a x y z (vX4_start_0 a x y z ?_)
  simp only [hr.2.1]
  refine ⟨g0, ⟨g1, by decide, by rw [g1']; decide⟩, fun h3 e3 => ?_⟩
  have a3 : h3 a = h a := by rw [e3, hset_oa (by omega)]
  simp only [a3, hr.2.1]
  refine ⟨⟨g1, by decide, by rw [g1']; decide⟩, fun h5 e5 => ?_⟩
  have a5 : h5 a = h a := by rw [e5, hset_oa (by omega)]; exact a3
  simp only [a5, hr.2.1]
  refine ⟨⟨g1, by decide, by rw [g1']; decide⟩, fun h7 e7 => ?_⟩
  have a7 : h7 a = h a := by rw [e7, hset_oa (by omega)]; exact a5
  simp only [a7, hr.2.2.1]
  refine rJ7_fill g2 (by rw [g2']; decide) (by rw [g2']; decide) (fun h10 f10 k10 => ⟨g0, fun h12 e12 => ?_⟩)
  have o12 : ∀ b, b ≠ a → h12 b = h10 b := fun b hb => by rw [e12, hset_oa hb]
  have q12 : ∀ b, b ≠ a → b ≠ a + 1 → b ≠ a + 2 → h12 b = h b := fun b b0 b1 b2 => by rw [o12 b b0, f10 b b2, e7, hset_oa b1, e5, hset_oa b1, e3, hset_oa b1]
  have a12 : ∀ j, j ≠ 6 → h12 a j = h a j := fun j hj => by rw [e12, hset_oj hj, f10 a (by omega), a7]
  refine hQ h12 (fun p r => ⟨?_, fun w w0 w3 => ?_, fun k k0 k1 => ?_, by rw [e12, hset_s], fun w t _ _ t0 t1 => by have t1' : t < 0 := t1; omega, fun w t _ _ t0 t1 => by have t1' : t < 0 := t1; omega, fun w t _ _ t0 t1 => by have t1' : t < 0 := t1; omega⟩) (fun b hb => q12 b (by omega) (by omega) (by omega))
  · unfold Pr
    rw [a12 0 (by decide), a12 1 (by decide), a12 2 (by decide), a12 3 (by decide), a12 4 (by decide), a12 5 (by decide)]
    exact hr
  · rw [o12 _ (by omega), f10 _ (by omega)]
    show _ = sz3 x y z w
    unfold sz3
    rcases (show w = 0 ∨ w = 1 ∨ w = 2 by omega) with rfl | rfl | rfl
    · rw [e7, hset_oj (by decide), e5, hset_oj (by decide), e3, hset_s, if_pos rfl]
    · rw [e7, hset_oj (by decide), e5, hset_s, if_neg (by decide), if_pos rfl]
    · rw [e7, hset_s, if_neg (by decide), if_neg (by decide)]
  · rw [o12 _ (by omega)]
    exact k10 k k0 (by rw [g2']; exact k1)
theorem WF_start {x y z : Int} {r : Int → Int} (hp : okp p) (hx : 1 ≤ x ∧ x ≤ 9) (hy : 1 ≤ y ∧ y ≤ 9) (hz : 1 ≤ z ∧ z ≤ 9) : WF p (sz3 x y z, (fun _ => 0), 0, r) := by
  refine ⟨fun w w0 w3 => ?_, fun i j _ _ _ _ => ⟨by show (0 : Int) ≤ 0; omega, PW_pos (okp_b hp).1 _, fun _ => rfl⟩, ⟨by show (0 : Int) ≤ 0; omega, by show (0 : Int) ≤ 40; omega⟩, fun w t _ _ t0 t1 => by have t1' : t < 0 := t1; omega⟩
  show 1 ≤ sz3 x y z w ∧ sz3 x y z w ≤ 9
  unfold sz3
  rcases (show w = 0 ∨ w = 1 ∨ w = 2 by omega) with rfl | rfl | rfl
  · rw [if_pos rfl]; exact hx
  · rw [if_neg (by decide), if_pos rfl]; exact hy
  · rw [if_neg (by decide), if_neg (by decide)]; exact hz
theorem cp_f {h : HP} {b0 b n k : Int} (k0 : 0 ≤ k) (k1 : k < n) : hcopy h b0 0 b 0 n b k = h b0 k := by
  unfold hcopy
  rw [if_pos ⟨rfl, k0, by omega⟩]
  congr 1
  omega
theorem rX4_copyFrom {c : Int} {P' : PS} (ha : isP a) (hc : isP c) (hac : a + 5 < c ∨ c + 5 < a) (hr : Pr h a) (hX : XP h c p P') (hW : WF p P') (hQ : ∀ h', XP h' a p P' → FrP a h h' → Q 0 G0 h') : R l MX4_copyFrom (d + 1) 0 0 [vR a, vR c] G0 h Q := by
  obtain ⟨x1, x2, x3, x4, x5, x6, x7⟩ := id hX
  have T40 := hW.2.2.1
  obtain ⟨t0, ⟨t1, t1'⟩, ⟨t2, t2'⟩, ⟨t3, t3'⟩, ⟨t4, t4'⟩, t5, t5'⟩ := tP ha
  obtain ⟨s0, ⟨s1, s1'⟩, ⟨s2, s2'⟩, ⟨s3, s3'⟩, ⟨s4, s4'⟩, s5, s5'⟩ := tP hc
  refine eX4_copyFrom a c (vX4_copyFrom_0 a c ?_)
  simp only [x1.2.1, hr.2.1]
  refine ⟨s0, t0, ⟨⟨s1, t1⟩, ⟨by decide, by decide, by decide⟩, by rw [s1']; decide, by rw [t1']; decide⟩, fun h4 e4 => ?_⟩
  have a4 : h4 a = h a := by rw [e4, cp_o (by omega)]
  have c4 : h4 c = h c := by rw [e4, cp_o (by omega)]
  simp only [a4, c4, x1.2.2.1, hr.2.2.1]
  refine ⟨⟨⟨s2, t2⟩, ⟨by decide, by decide, by decide⟩, by rw [s2']; decide, by rw [t2']; decide⟩, fun h6 e6 => ?_⟩
  have a6 : h6 a = h a := by rw [e6, cp_o (by omega)]; exact a4
  have c6 : h6 c = h c := by rw [e6, cp_o (by omega)]; exact c4
  simp only [a6, c6, x1.2.2.2.1, hr.2.2.2.1]
  refine ⟨⟨⟨s3, t3⟩, ⟨by decide, by decide, by decide⟩, by rw [s3']; decide, by rw [t3']; decide⟩, fun h8 e8 => ?_⟩
  have a8 : h8 a = h a := by rw [e8, cp_o (by omega)]; exact a6
  have c8 : h8 c = h c := by rw [e8, cp_o (by omega)]; exact c6
  simp only [a8, c8, x1.2.2.2.2.1, hr.2.2.2.2.1]
  refine ⟨⟨⟨s4, t4⟩, ⟨by decide, by decide, by decide⟩, by rw [s4']; decide, by rw [t4']; decide⟩, fun h10 e10 => ?_⟩
  have a10 : h10 a = h a := by rw [e10, cp_o (by omega)]; exact a8
  have c10 : h10 c = h c := by rw [e10, cp_o (by omega)]; exact c8
  simp only [a10, c10, x1.2.2.2.2.2, hr.2.2.2.2.2]
  refine ⟨⟨⟨s5, t5⟩, ⟨by decide, by decide, by decide⟩, by rw [s5']; decide, by rw [t5']; decide⟩, fun h12 e12 => fun h13 e13 => ?_⟩
  have a12 : h12 a = h a := by rw [e12, cp_o (by omega)]; exact a10
  have c12 : h12 c = h c := by rw [e12, cp_o (by omega)]; exact c10
  have o13 : ∀ b, b ≠ a → h13 b = h12 b := fun b hb => by rw [e13, hset_oa hb]
  have a13 : ∀ j, j ≠ 6 → h13 a j = h a j := fun j hj => by rw [e13, hset_oj hj, a12]
  refine hQ h13 ⟨?_, fun w w0 w3 => ?_, fun k k0 k1 => ?_, by rw [e13, hset_s, c12]; exact x4, fun w t w0 w3 q0 q1 => ?_, fun w t w0 w3 q0 q1 => ?_, fun w t w0 w3 q0 q1 => ?_⟩ (fun b hb => by rw [o13 b (by omega), e12, cp_o (by omega), e10, cp_o (by omega), e8, cp_o (by omega), e6, cp_o (by omega), e4, cp_o (by omega)])
  · unfold Pr
    rw [a13 0 (by decide), a13 1 (by decide), a13 2 (by decide), a13 3 (by decide), a13 4 (by decide), a13 5 (by decide)]
    exact hr
  · rw [o13 _ (by omega), e12, cp_o (by omega), e10, cp_o (by omega), e8, cp_o (by omega), e6, cp_o (by omega), e4, cp_f w0 w3]
    exact x2 w w0 w3
  · rw [o13 _ (by omega), e12, cp_o (by omega), e10, cp_o (by omega), e8, cp_o (by omega), e6, cp_f k0 k1, e4, cp_o (by omega)]
    exact x3 k k0 k1
  · rw [o13 _ (by omega), e12, cp_o (by omega), e10, cp_o (by omega), e8, cp_f (by omega) (by omega), e6, cp_o (by omega), e4, cp_o (by omega)]
    exact x5 w t w0 w3 q0 q1
  · rw [o13 _ (by omega), e12, cp_o (by omega), e10, cp_f (by omega) (by omega), e8, cp_o (by omega), e6, cp_o (by omega), e4, cp_o (by omega)]
    exact x6 w t w0 w3 q0 q1
  · rw [o13 _ (by omega), e12, cp_f (by omega) (by omega), e10, cp_o (by omega), e8, cp_o (by omega), e6, cp_o (by omega), e4, cp_o (by omega)]
    exact x7 w t w0 w3 q0 q1
/-- how many numbers of the box aren't 0 -/
def fpl (p : Int) (P : PS) : Int := sm (fun i => sm (fun j => ct (D p (fb P (9 * i + j))) 9) (sz P 1).toNat) (sz P 0).toNat
theorem ct_b {f : Int → Int} : ∀ n : Nat, 0 ≤ ct f n ∧ ct f n ≤ n
  | 0 => by simp [ct]
  | n + 1 => by
    have ih := ct_b (f := f) n
    show 0 ≤ ct f n + (if f n = 0 then 0 else 1) ∧ ct f n + (if f n = 0 then 0 else 1) ≤ ((n + 1 : Nat) : Int)
    by_cases c : f n = 0
    · rw [if_pos c]; omega
    · rw [if_neg c]; omega
theorem rX4_filledPlaces (hg : Gd h p) (ha : isP a) (hX : XP h a p P) (hW : WF p P) (hQ : Q (fpl p P) G0 h) : R l MX4_filledPlaces (d + 1) 0 0 [vR a] G0 h Q := by
  have hA := hW.1 0 (by decide) (by decide)
  have hB := hW.1 1 (by decide) (by decide)
  have sA := hX.2.1 0 (by decide) (by decide)
  have sB := hX.2.1 1 (by decide) (by decide)
  refine eX4_filledPlaces a (vX4_filledPlaces_0 a ?_)
  have key := lp_up (σ := Unit) (fun i _ => S l MX4_filledPlaces (d + 1, 0, 0, 0, 0) 4 [some (vR a), some (vI (sm (fun i => sm (fun j => ct (D p (fb P (9 * i + j))) 9) (sz P 1).toNat) i.toNat)), some (vI i), none] [] G0 h Q) (fun i _ => 0 ≤ i) (sz P 0) ?_ ?_ 0 () (by omega) (by decide)
  · exact key
  · intro i _ hi i0 ih
    refine vX4_filledPlaces_4 a _ i ?_
    simp only [hX.1.2.1, sA]
    refine ⟨(tP ha).1, ia1 ha (by decide) (by decide), ⟨by omega, by omega⟩, ⟨by omega, by omega⟩, fun c => by omega, fun _ => ?_⟩
    have key2 := lp_up (σ := Unit) (fun j _ => S l MX4_filledPlaces (d + 1, 0, 0, 0, 0) 16 [some (vR a), some (vI (sm (fun i => sm (fun j => ct (D p (fb P (9 * i + j))) 9) (sz P 1).toNat) i.toNat + sm (fun j => ct (D p (fb P (9 * i + j))) 9) j.toNat)), some (vI i), some (vI j)] [] G0 h Q) (fun j _ => 0 ≤ j) (sz P 1) ?_ ?_ 0 () (by omega) (by decide)
    · rw [show sm (fun j => ct (D p (fb P (9 * i + j))) 9) (0 : Int).toNat = 0 from rfl, Int.add_zero] at key2
      exact key2
    · intro j _ hj j0 ih2
      refine vX4_filledPlaces_16 a _ i j ?_
      simp only [hX.1.1, hX.1.2.1, sB]
      refine ⟨(tP ha).1, ia1 ha (by decide) (by decide), ⟨by omega, by omega⟩, ⟨by omega, by omega⟩, fun c => by omega, fun _ => rX4_fiberAt ha hX i0 (by omega) j0 (by omega) ⟨rfl, rX1_filled hg (fibR hg.1 hW i0 (by omega) j0 (by omega)) ?_⟩⟩
      have := ih2 () (by omega)
      rw [sm_s j0, ← Int.add_assoc] at this
      exact this
    · intro _ j0
      refine vX4_filledPlaces_16 a _ i _ ?_
      simp only [hX.1.2.1, sB]
      refine ⟨(tP ha).1, ia1 ha (by decide) (by decide), ⟨by omega, by omega⟩, ⟨by omega, by omega⟩, fun _ => ?_, fun c => by omega⟩
      have := ih () (by omega)
      rw [sm_s i0] at this
      exact this
  · intro _ i0
    refine vX4_filledPlaces_4 a _ _ ?_
    simp only [hX.1.2.1, sA]
    exact ⟨(tP ha).1, ia1 ha (by decide) (by decide), ⟨by omega, by omega⟩, ⟨by omega, by omega⟩, fun _ => hQ, fun c => by omega⟩
/-- the numbers along one way -/
def lin (p : Int) (P : PS) (w m n : Int) : Int := if w = 2 then fb P (9 * m + n) else en p (fun l => if w = 0 then D p (fb P (9 * l + m)) n else D p (fb P (9 * m + l)) n) (sz P w).toNat
theorem rX4_line {w m n : Int} (hg : Gd h p) (ha : isP a) (hX : XP h a p P) (hW : WF p P) (w0 : 0 ≤ w) (w3 : w < 3) (m0 : 0 ≤ m) (m9 : m < 9) (n0 : 0 ≤ n) (n9 : n < 9) (hQ : Q (lin p P w m n) G0 h) : R l MX4_line (d + 2) 0 0 [vR a, vI w, vI m, vI n] G0 h Q := by
  refine eX4_line a w m n (vX4_line_0 a w m n ⟨⟨by omega, by omega⟩, fun c => ?_, fun c => ⟨(tP ha).1, rX4_fiberAt ha hX m0 m9 n0 n9 ?_⟩⟩)
  · unfold lin at hQ
    rw [if_neg c] at hQ
    have hS := hW.1 w w0 w3
    have sS := hX.2.1 w w0 w3
    refine lp_up (σ := Unit) (fun i _ => S l MX4_line (d + 1 + 1, 0, 0, 0, 0) 18 [some (vR a), some (vI w), some (vI m), some (vI n), some (vI (en p (fun l => if w = 0 then D p (fb P (9 * l + m)) n else D p (fb P (9 * m + l)) n) i.toNat)), some (vI i), none] [] G0 h Q) (fun i _ => 0 ≤ i) (sz P w) ?_ ?_ 0 () (by omega) (by decide)
    · intro i _ hi i0 ih
      have := ih () (by omega)
      rw [en_s i0] at this
      refine vX4_line_18 a w m n _ i ?_
      simp only [hX.1.2.1, sS]
      refine ⟨(tP ha).1, ia1 ha w0 w3, ⟨by omega, by omega⟩, ⟨by omega, by omega⟩, fun c => by omega, fun _ => ⟨⟨by omega, by omega⟩, fun c0 => ?_, fun c0 => ?_⟩⟩
      · refine rX4_number hg ha hX hW m0 m9 i0 (by omega) n0 (by omega) ?_
        simp only [hX.1.1, hg.2.2.1]
        rw [hg.2.2.2.2.1 i i0 (by omega)]
        rw [if_neg c0] at this
        exact ⟨(tP ha).1, rfl, ⟨rfl, i0, by show i < 10; omega⟩, this⟩
      · refine rX4_number hg ha hX hW i0 (by omega) m0 m9 n0 (by omega) ?_
        simp only [hX.1.1, hg.2.2.1]
        rw [hg.2.2.2.2.1 i i0 (by omega)]
        rw [if_pos c0] at this
        exact ⟨(tP ha).1, rfl, ⟨rfl, i0, by show i < 10; omega⟩, this⟩
    · intro _ i0
      refine vX4_line_18 a w m n _ _ ?_
      simp only [hX.1.2.1, sS]
      exact ⟨(tP ha).1, ia1 ha w0 w3, ⟨by omega, by omega⟩, ⟨by omega, by omega⟩, fun _ => hQ, fun c => by omega⟩
  · unfold lin at hQ
    rw [if_pos c] at hQ
    exact hQ
end Start
