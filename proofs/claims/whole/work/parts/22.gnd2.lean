theorem en_s {p : Int} {f : Int → Int} {i : Int} (hi : 0 ≤ i) : en p f (i + 1).toNat = en p f i.toNat + f i * PW p i := by
  rw [show (i + 1).toNat = i.toNat + 1 by omega]
  show en p f i.toNat + f (i.toNat : Int) * PW p (i.toNat : Int) = _
  rw [Int.toNat_of_nonneg hi]
theorem en_z {p : Int} {f : Int → Int} {i n : Int} (hi : 0 ≤ i) (hn : i ≤ n) (hz : ∀ j, i ≤ j → j < n → f j = 0) : en p f n.toNat = en p f i.toNat := by
  obtain ⟨k, hk⟩ := Int.eq_ofNat_of_zero_le (show 0 ≤ n - i by omega)
  induction k generalizing n with
  | zero => rw [show n = i by omega]
  | succ k ih =>
    rw [show n = (n - 1) + 1 by omega, en_s (by omega), ih (n := n - 1) (by omega) (fun j h1 h2 => hz j h1 (by omega)) (by omega), hz (n - 1) (by omega) (by omega)]
    simp
theorem dvp {p x i : Int} (hp : 2 ≤ p) (hx : 0 ≤ x) (hi : 0 ≤ i) : x / PW p i / p = x / PW p (i + 1) := by
  rw [dv_dv hx (PW_pos hp i) (by omega), PW_s hi]
theorem dvb {p x i : Int} (hp : 2 ≤ p) (hx : 0 ≤ x ∧ x ≤ 2147483647) : 0 ≤ x / PW p i ∧ x / PW p i ≤ 2147483647 := by
  have := Int.ediv_nonneg hx.1 (Int.le_of_lt (PW_pos hp i))
  have := Int.ediv_le_self (PW p i) hx.1
  omega
theorem ml_b {x y a b : Int} (h1 : 0 ≤ x) (h2 : x ≤ a) (h3 : 0 ≤ y) (h4 : y ≤ b) : 0 ≤ x * y ∧ x * y ≤ a * b :=
  ⟨Int.mul_nonneg h1 h3, Int.mul_le_mul h2 h4 h3 (by omega)⟩
theorem or_b {x y : Int} (hx : 0 ≤ x ∧ x ≤ 2147483647) (hy : 0 ≤ y ∧ y ≤ 2147483647) : ((x.toNat ||| y.toNat : Nat) : Int) ≤ 2147483647 := by
  have := Nat.or_lt_two_pow (x := x.toNat) (y := y.toNat) (n := 31) (by omega) (by omega)
  omega
theorem or_z {x y : Int} (hx : 0 ≤ x) (hy : 0 ≤ y) (h : ((x.toNat ||| y.toNat : Nat) : Int) = 0) : x = 0 ∧ y = 0 := by
  have h1 := Nat.left_le_or (n := x.toNat) (m := y.toNat)
  have h2 := Nat.right_le_or (n := x.toNat) (m := y.toNat)
  omega
theorem D_dz {p x i j : Int} (hp : 2 ≤ p) (hx : 0 ≤ x) (h : x / PW p i = 0) (hj : i ≤ j) : D p x j = 0 := by
  have h1 := PW_pos hp i
  have h2 : x < PW p i := by
    have := Int.emod_add_mul_ediv x (PW p i)
    rw [h, Int.mul_zero, Int.add_zero] at this
    have := Int.emod_lt_of_pos x h1
    omega
  exact D_big hx (Int.lt_of_lt_of_le h2 (PW_le hp hj))
section Gnd2
variable {l : Launch} {d : Nat} {h : HP} {p : Int} {Q : Int → GS → HP → Prop}
theorem rX1_plus {a f b : Int} (hg : Gd h p) (ha : isR p a) (hb : isR p b) (hf : isD p f) (hQ : Q (pl p a f b) G0 h) : R l MX1_plus d 0 0 [vR 1, vI a, vI f, vI b] G0 h Q := by
  have hp := okp_b hg.1
  have ha2 := isR_b hg.1 ha
  have hb2 := isR_b hg.1 hb
  have hdig : ∀ i : Int, 0 ≤ D p a i + f * D p b i ∧ D p a i + f * D p b i ≤ 42 := by
    intro i
    have h1 := D_nn (x := a) (i := i) hp.1
    have h2 := D_lt (x := a) (i := i) hp.1
    have h3 := ml_b (a := 6) (b := 6) hf.1 (by omega) (D_nn (x := b) (i := i) hp.1) (by have := D_lt (x := b) (i := i) hp.1; omega)
    omega
  have loop : S l MX1_plus (d, 0, 0, 0, 0) 30 [some (vR 1), none, some (vI f), none, some (vI 0), some (vI a), some (vI b), some (vI 0)] [] G0 h Q := by
    have key := lp_up (σ := Unit) (fun i _ => S l MX1_plus (d, 0, 0, 0, 0) 30 [some (vR 1), none, some (vI f), none, some (vI (en p (fun i => (D p a i + f * D p b i) % p) i.toNat)), some (vI (a / PW p i)), some (vI (b / PW p i)), some (vI i)] [] G0 h Q) (fun i _ => 0 ≤ i) 9 ?_ ?_ 0 () (by decide) (by decide)
    · rw [PW_0, Int.ediv_one, Int.ediv_one] at key
      exact key
    · intro i _ hi h0 ih
      have hA := dvb (i := i) hp.1 ha2
      have hB := dvb (i := i) hp.1 hb2
      refine vX1_plus_30 1 f _ _ _ i ⟨⟨by omega, by omega⟩, fun c => by omega, fun _ => ⟨hA.1, hB.1, ⟨by omega, or_b hA hB⟩, fun c => ?_, fun c => ?_⟩⟩
      · obtain ⟨z1, z2⟩ := or_z hA.1 hB.1 c
        rw [← en_z (n := 9) h0 (by omega) (fun j h1 h2 => by rw [D_dz hp.1 ha.1 z1 h1, D_dz hp.1 hb.1 z2 h1]; simp)]
        exact hQ
      · simp only [hg.2.1, hg.2.2.1]
        rw [hg.2.2.2.2.1 i h0 (by omega)]
        have hd1 := hdig i
        refine ⟨rfl, ⟨hA, by omega, by omega⟩, ⟨hB, by omega, by omega⟩, ⟨⟨hd1.1, Int.le_trans hd1.2 (by decide)⟩, by omega, by omega⟩, ⟨rfl, h0, by show i < 10; omega⟩, ?_⟩
        have := ih () (by omega)
        rw [en_s h0, ← dvp hp.1 ha.1 h0, ← dvp hp.1 hb.1 h0] at this
        exact this
    · intro _ h0
      have hA := dvb (i := 9) hp.1 ha2
      exact vX1_plus_30 1 f _ _ _ 9 ⟨⟨by decide, by decide⟩, fun _ => hQ, fun c => absurd c (by decide)⟩
  refine eX1_plus 1 a f b (vX1_plus_0 1 a f b ⟨⟨by have := hf.1; omega, by have := hf.2; omega⟩, fun c => ?_, fun c => ?_⟩)
  · simp only [hg.2.1]
    refine ⟨rfl, ⟨by omega, by omega⟩, fun _ => loop, fun c2 => ⟨ha.1, hb.1, ?_⟩⟩
    have hf1 : f = 1 := by have := hf.1; have := hf.2; omega
    have e : ((a.toNat ^^^ b.toNat : Nat) : Int) = pl p a f b := by
      subst c2
      subst hf1
      have e9 : PW 2 9 = 512 := by decide
      have ha9 := ha.2
      have hb9 := hb.2
      rw [e9] at ha9 hb9
      have hx := Nat.xor_lt_two_pow (x := a.toNat) (y := b.toNat) (n := 9) (by omega) (by omega)
      have hen := en_b (p := 2) (f := fun i => (D 2 a i + 1 * D 2 b i) % 2) (by decide) 9 (fun i _ _ => ⟨Int.emod_nonneg _ (by decide), Int.emod_lt_of_pos _ (by decide)⟩)
      refine D_inj (p := 2) (by decide) 9 ⟨by omega, by show _ < PW 2 9; omega⟩ hen (fun i h1 h2 => ?_)
      rw [xor_D ha.1 hb.1 h1]
      exact (D_en (f := fun i => (D 2 a i + 1 * D 2 b i) % 2) (p := 2) (by decide) 9 (fun i _ _ => ⟨Int.emod_nonneg _ (by decide), Int.emod_lt_of_pos _ (by decide)⟩) i h1 h2).symm
    rw [e]
    exact hQ
  · have e : pl p a f b = a := by
      subst c
      unfold pl
      rw [en_ext (g := D p a) 9 (fun i _ _ => by simp; exact Int.emod_eq_of_lt (D_nn hp.1) (D_lt hp.1))]
      exact en_full hp.1 9 ha.1 ha.2
    rw [e] at hQ
    exact hQ
theorem pl_R {a f b : Int} (hp : okp p) : isR p (pl p a f b) := en_b (okp_b hp).1 9 (fun i _ _ => ⟨Int.emod_nonneg _ (by have := okp_b hp; omega), Int.emod_lt_of_pos _ (by have := okp_b hp; omega)⟩)
theorem D_pl {a f b i : Int} (hp : okp p) (h0 : 0 ≤ i) (h9 : i < 9) : D p (pl p a f b) i = (D p a i + f * D p b i) % p := D_en (f := fun i => (D p a i + f * D p b i) % p) (okp_b hp).1 9 (fun i _ _ => ⟨Int.emod_nonneg _ (by have := okp_b hp; omega), Int.emod_lt_of_pos _ (by have := okp_b hp; omega)⟩) i h0 h9
theorem rX1_minus {a f b : Int} (hg : Gd h p) (ha : isR p a) (hb : isR p b) (hf : isD p f) (hQ : Q (pl p a ((p - f) % p) b) G0 h) : R l MX1_minus (d + 1) 0 0 [vR 1, vI a, vI f, vI b] G0 h Q := by
  have hp := okp_b hg.1
  refine eX1_minus 1 a f b (vX1_minus_0 1 a f b ?_)
  simp only [hg.2.1]
  exact ⟨rfl, ⟨⟨by have := hf.2; omega, by have := hf.1; omega⟩, by omega, by omega⟩, rX1_plus hg ha hb ⟨Int.emod_nonneg _ (by omega), Int.emod_lt_of_pos _ (by omega)⟩ hQ⟩
end Gnd2
