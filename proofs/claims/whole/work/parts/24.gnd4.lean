/-- each number of row x times row y of n numbers -/
def pr (p x y n : Int) : Int := en p (fun j => D p x (j / n) * D p y (j % n) % p) 9
theorem en_app {p : Int} {f : Int → Int} {a : Int} (ha : 0 ≤ a) : ∀ b : Nat, en p f (a + b).toNat = en p f a.toNat + en p (fun k => f (a + k)) b * PW p a
  | 0 => by simp [en]
  | b + 1 => by
    have ih := en_app (f := f) (p := p) ha b
    rw [show a + ((b + 1 : Nat) : Int) = (a + b) + 1 by omega, en_s (by omega), ih]
    show _ = en p f a.toNat + (en p (fun k => f (a + k)) b + f (a + b) * PW p b) * PW p a
    have e : PW p (a + b) = PW p b * PW p a := by
      unfold PW
      rw [← Int.pow_add]
      congr 1
      omega
    rw [e, Int.add_mul, Int.mul_assoc, Int.add_assoc]
theorem PW_add {p a b : Int} (ha : 0 ≤ a) (hb : 0 ≤ b) : PW p (a + b) = PW p a * PW p b := by
  unfold PW
  rw [← Int.pow_add]
  congr 1
  omega
section Gnd4
variable {l : Launch} {d : Nat} {h : HP} {p : Int} {Q : Int → GS → HP → Prop}
theorem rX1_product {x y n m : Int} (hg : Gd h p) (hn : 1 ≤ n ∧ n ≤ 9) (hm : 0 ≤ m) (hmn : m * n ≤ 9) (hx : 0 ≤ x ∧ x < PW p m) (hy : 0 ≤ y ∧ y < PW p n) (hQ : Q (pr p x y n) G0 h) : R l MX1_product (d + 1) 0 0 [vR 1, vI x, vI y, vI n] G0 h Q := by
  have hp := okp_b hg.1
  have hm9 : m ≤ 9 := by
    have := Int.mul_le_mul_of_nonneg_left hn.1 hm
    rw [Int.mul_one] at this
    omega
  have hx9 : isR p x := ⟨hx.1, Int.lt_of_lt_of_le hx.2 (PW_le hp.1 hm9)⟩
  have hy9 : isR p y := ⟨hy.1, Int.lt_of_lt_of_le hy.2 (PW_le hp.1 hn.2)⟩
  have hx2 := isR_b hg.1 hx9
  have hfin : ∀ i : Int, 0 ≤ i → 9 ≤ i * n → en p (fun j => D p x (j / n) * D p y (j % n) % p) (i * n).toNat = pr p x y n := by
    intro i hi hin
    unfold pr
    refine en_z (i := 9) (n := i * n) (by decide) hin (fun j h1 h2 => ?_)
    have : m ≤ j / n := Int.le_ediv_of_mul_le (by omega) (by omega)
    rw [D_big hx.1 (Int.lt_of_lt_of_le hx.2 (PW_le hp.1 this))]
    simp
  refine eX1_product 1 x y n (vX1_product_0 1 x y n ?_)
  have key := lp_up (σ := Unit) (fun i _ => S l MX1_product (d + 1, 0, 0, 0, 0) 9 [some (vR 1), none, some (vI y), some (vI n), some (vI (en p (fun j => D p x (j / n) * D p y (j % n) % p) (i * n).toNat)), some (vI (x / PW p i)), some (vI i)] [] G0 h Q) (fun i _ => 0 ≤ i) 9 ?_ ?_ 0 () (by decide) (by decide)
  · rw [PW_0, Int.ediv_one, Int.zero_mul] at key
    exact key
  · intro i _ hi h0 ih
    have hA := dvb (i := i) hp.1 hx2
    have hin := ml_b (a := 9) (b := 9) h0 (by omega) (show 0 ≤ n by omega) hn.2
    have hD1 := D_nn (x := x) (i := i) hp.1
    have hD2 := D_lt (x := x) (i := i) hp.1
    refine vX1_product_9 1 y n _ _ i ⟨⟨by omega, by omega⟩, fun c => by omega, fun _ => ⟨⟨by omega, by omega⟩, fun c => ?_, fun c => ?_⟩⟩
    · rw [hfin i h0 c]; exact hQ
    · simp only [hg.2.1, hg.2.2.1]
      refine ⟨rfl, ⟨hA, by omega, by omega⟩, rX1_plus hg ⟨by omega, PW_pos hp.1 9⟩ hy9 ⟨hD1, hD2⟩ ?_⟩
      simp only [hg.2.1, hg.2.2.1]
      refine ⟨rfl, ⟨rfl, hin.1, by show i * n < 10; omega⟩, ⟨hA, by omega, by omega⟩, ?_⟩
      rw [hg.2.2.2.2.1 (i * n) hin.1 (by omega)]
      have := ih () (by omega)
      rw [show (i + 1) * n = i * n + (n.toNat : Int) by rw [Int.add_mul, Int.one_mul, Int.toNat_of_nonneg (by omega)], en_app hin.1 n.toNat, ← dvp hp.1 hx.1 h0] at this
      have e : en p (fun k => D p x ((i * n + k) / n) * D p y ((i * n + k) % n) % p) n.toNat = pl p 0 (D p x i) y := by
        have hb1 : ∀ k : Int, 0 ≤ k → k < (n.toNat : Int) → 0 ≤ D p x ((i * n + k) / n) * D p y ((i * n + k) % n) % p ∧ D p x ((i * n + k) / n) * D p y ((i * n + k) % n) % p < p := fun k _ _ => ⟨Int.emod_nonneg _ (by omega), Int.emod_lt_of_pos _ (by omega)⟩
        have hb2 := en_b hp.1 n.toNat hb1
        have hple : PW p (n.toNat : Int) ≤ PW p 9 := PW_le hp.1 (by omega)
        refine D_inj hp.1 9 ⟨hb2.1, Int.lt_of_lt_of_le hb2.2 hple⟩ (pl_R hg.1) (fun k k1 k2 => ?_)
        rw [D_pl hg.1 k1 k2, D_z, Int.zero_add]
        by_cases ck : k < n
        · rw [D_en hp.1 n.toNat hb1 k k1 (by omega)]
          have e1 : (i * n + k) / n = i := by rw [Int.add_comm, Int.add_mul_ediv_right _ _ (by omega), Int.ediv_eq_zero_of_lt k1 ck, Int.zero_add]
          have e2 : (i * n + k) % n = k := by rw [Int.add_comm, Int.add_mul_emod_self_right, Int.emod_eq_of_lt k1 ck]
          rw [e1, e2]
        · rw [D_big hb2.1 (Int.lt_of_lt_of_le hb2.2 (PW_le hp.1 (by omega))), D_big hy.1 (Int.lt_of_lt_of_le hy.2 (PW_le hp.1 (by omega)))]
          simp
      rw [e] at this
      exact this
  · intro _ h0
    refine vX1_product_9 1 y n _ _ 9 ⟨⟨by decide, by decide⟩, fun _ => ?_, fun c => absurd c (by decide)⟩
    rw [hfin 9 (by decide) (by omega)]
    exact hQ
theorem D_pr {x y n j : Int} (hp : okp p) (h0 : 0 ≤ j) (h9 : j < 9) : D p (pr p x y n) j = D p x (j / n) * D p y (j % n) % p := D_en (f := fun j => D p x (j / n) * D p y (j % n) % p) (okp_b hp).1 9 (fun i _ _ => ⟨Int.emod_nonneg _ (by have := okp_b hp; omega), Int.emod_lt_of_pos _ (by have := okp_b hp; omega)⟩) j h0 h9
theorem pr_R {x y n : Int} (hp : okp p) : isR p (pr p x y n) := en_b (okp_b hp).1 9 (fun i _ _ => ⟨Int.emod_nonneg _ (by have := okp_b hp; omega), Int.emod_lt_of_pos _ (by have := okp_b hp; omega)⟩)
/-- heaps that are the same but at the cells of A -/
def Fr (A : Int → Prop) (h h' : HP) : Prop := ∀ a, ¬ A a → h' a = h a
theorem hset_s {h : HP} {a j v : Int} : hset h a j v a j = v := by simp [hset]
theorem hset_oj {h : HP} {a j v a' j' : Int} (hj : j' ≠ j) : hset h a j v a' j' = h a' j' := by simp [hset, hj]
theorem hset_oa {h : HP} {a j v a' : Int} (ha : a' ≠ a) : hset h a j v a' = h a' := by funext x; simp [hset, ha]
set_option maxHeartbeats 1000000 in
theorem rX1_become {q : Int} (hq : okp q) (r1 : h 1 1 = 2) (r2 : h 1 2 = 3) {G : GS} (hG1 : ty G 1 = 1) (hG2 : ty G 2 = 10 ∧ ln G 2 = 10) (hG3 : ty G 3 = 10 ∧ ln G 3 = 7) (hQ : ∀ h', Gd h' q → (∀ a, a ≠ 1 → a ≠ 2 → a ≠ 3 → h' a = h a) → Q 0 G h') : R l MX1_become d 0 0 [vR 1, vI q] G h Q := by
  have hp := okp_b hq
  have hpw : ∀ i, i ≤ 9 → 1 ≤ PW q i ∧ PW q i ≤ 40353607 := fun i hi => PWm hq hi
  refine eX1_become 1 q (vX1_become_0 1 q ⟨hG1, fun h2 e2 => ?_⟩)
  have s1 : h2 1 1 = 2 := by rw [e2, hset_oj (by decide)]; exact r1
  have s2 : h2 1 2 = 3 := by rw [e2, hset_oj (by decide)]; exact r2
  have s0 : h2 1 0 = q := by rw [e2, hset_s]
  simp only [s1]
  refine ⟨⟨hG2.1, by decide, by rw [hG2.2]; decide⟩, fun h4 e4 => ?_⟩
  -- the powers
  have inner : ∀ (a : Int) (hh : HP), 1 ≤ a → a ≤ q → (hh 1 0 = q ∧ hh 1 1 = 2 ∧ hh 1 2 = 3 ∧ (∀ i, 0 ≤ i → i ≤ 9 → hh 2 i = PW q i) ∧ (∀ b, 1 ≤ b → b < a → hh 3 b = iv q b) ∧ (∀ x, x ≠ 1 → x ≠ 2 → x ≠ 3 → hh x = h x)) → S l MX1_become (d, 0, 0, 0, 0) 47 [some (vR 1), none, some (vI a), none] [] G hh Q := by
    intro a hh h1 h2' hI
    refine lp_up (σ := HP) (fun a hh => S l MX1_become (d, 0, 0, 0, 0) 47 [some (vR 1), none, some (vI a), none] [] G hh Q) (fun a hh => 1 ≤ a ∧ hh 1 0 = q ∧ hh 1 1 = 2 ∧ hh 1 2 = 3 ∧ (∀ i, 0 ≤ i → i ≤ 9 → hh 2 i = PW q i) ∧ (∀ b, 1 ≤ b → b < a → hh 3 b = iv q b) ∧ (∀ x, x ≠ 1 → x ≠ 2 → x ≠ 3 → hh x = h x)) q ?_ ?_ a hh h2' ⟨h1, hI⟩
    · intro a hh ha ⟨a1, i0, i1, i2, i3, i4, i5⟩ ih
      refine vX1_become_47 1 a ⟨hG1, ⟨by omega, by omega⟩, by rw [i0]; exact ⟨by omega, by omega⟩, fun c => by omega, fun _ => ?_⟩
      refine lp_up (σ := HP) (fun b hh => S l MX1_become (d, 0, 0, 0, 0) 57 [some (vR 1), none, some (vI a), some (vI b)] [] G hh Q) (fun b hh => 1 ≤ b ∧ hh 1 0 = q ∧ hh 1 1 = 2 ∧ hh 1 2 = 3 ∧ (∀ i, 0 ≤ i → i ≤ 9 → hh 2 i = PW q i) ∧ (∀ c, 1 ≤ c → c < a → hh 3 c = iv q c) ∧ (∀ x, x ≠ 1 → x ≠ 2 → x ≠ 3 → hh x = h x) ∧ (iv q a < b → hh 3 a = iv q a)) q ?_ ?_ 1 hh (by omega) ⟨by decide, i0, i1, i2, i3, i4, i5, fun c => by have := iv_ok hq a1 ha; omega⟩
      · intro b hh hb ⟨b1, j0, j1, j2, j3, j4, j5, j6⟩ ih2
        have hab := ml_b (a := 6) (b := 6) (show 0 ≤ a by omega) (by omega) (show 0 ≤ b by omega) (by omega)
        refine vX1_become_57 1 a b ?_
        simp only [j0, j2]
        have hm1 := Int.emod_nonneg (a * b) (show q ≠ 0 by omega)
        have hm2 := Int.emod_lt_of_pos (a * b) (show 0 < q by omega)
        refine ⟨hG1, ⟨by omega, by omega⟩, ⟨by omega, by omega⟩, fun c => by omega, fun _ => ⟨⟨⟨hab.1, by omega⟩, by omega, by omega⟩, ⟨by omega, by omega⟩, fun c => ?_, fun c => ⟨⟨hG3.1, by omega, by rw [hG3.2]; omega⟩, fun h9 e9 => ?_⟩⟩⟩
        · refine ih2 hh ⟨by omega, j0, j1, j2, j3, j4, j5, fun c2 => j6 ?_⟩
          rcases Int.lt_or_eq_of_le (show iv q a ≤ b by omega) with z | z
          · exact z
          · exact absurd (by rw [← z]; exact (iv_ok hq a1 ha).2.2) c
        · have eb := iv_un hq a1 ha b1 hb c
          refine ih2 h9 ⟨by omega, by rw [e9, hset_oa (by decide)]; exact j0, by rw [e9, hset_oa (by decide)]; exact j1, by rw [e9, hset_oa (by decide)]; exact j2, fun i h1 h2 => by rw [e9, hset_oa (by decide)]; exact j3 i h1 h2, fun c1 h1 h2 => by rw [e9, hset_oj (by omega)]; exact j4 c1 h1 h2, fun x x1 x2 x3 => by rw [e9, hset_oa x3]; exact j5 x x1 x2 x3, fun _ => by rw [e9, hset_s]; exact eb⟩
      · intro hh ⟨b1, j0, j1, j2, j3, j4, j5, j6⟩
        refine vX1_become_57 1 a q ?_
        simp only [j0, j2]
        refine ⟨hG1, ⟨by omega, by omega⟩, ⟨by omega, by omega⟩, fun _ => ih hh ⟨by omega, j0, j1, j2, j3, fun b h1 h2 => ?_, j5⟩, fun c => by omega⟩
        by_cases e : b = a
        · rw [e]; exact j6 (iv_ok hq a1 ha).2.1
        · exact j4 b h1 (by omega)
    · intro hh ⟨a1, i0, i1, i2, i3, i4, i5⟩
      exact vX1_become_47 1 q ⟨hG1, ⟨by omega, by omega⟩, by rw [i0]; exact ⟨by omega, by omega⟩, fun _ => hQ hh ⟨hq, i0, i1, i2, i3, i4⟩ i5, fun c => by rw [i0] at c; omega⟩
  refine lp_up (σ := HP) (fun i hh => S l MX1_become (d, 0, 0, 0, 0) 14 [some (vR 1), none, some (vI i), none] [] G hh Q) (fun i hh => 1 ≤ i ∧ hh 1 0 = q ∧ hh 1 1 = 2 ∧ hh 1 2 = 3 ∧ (∀ j, 0 ≤ j → j < i → hh 2 j = PW q j) ∧ (∀ x, x ≠ 1 → x ≠ 2 → x ≠ 3 → hh x = h x)) 10 ?_ ?_ 1 h4 (by decide) ⟨by decide, by rw [e4, hset_oa (by decide)]; exact s0, by rw [e4, hset_oa (by decide)]; exact s1, by rw [e4, hset_oa (by decide)]; exact s2, fun j h1 h2 => by rw [e4, show j = 0 by omega, hset_s, PW_0], fun x x1 x2 x3 => by rw [e4, hset_oa x2, e2, hset_oa x1]⟩
  · intro i hh hi ⟨i1, j0, j1, j2, j3, j5⟩ ih
    refine vX1_become_14 1 i ⟨⟨by omega, by omega⟩, fun c => by omega, fun _ => ?_⟩
    simp only [j0, j1]
    refine ⟨hG1, ⟨hG2.1, by omega, by rw [hG2.2]; omega⟩, ⟨hG2.1, by omega, by rw [hG2.2]; omega⟩, fun h6 e6 => ?_⟩
    refine ih h6 ⟨by omega, by rw [e6, hset_oa (by decide)]; exact j0, by rw [e6, hset_oa (by decide)]; exact j1, by rw [e6, hset_oa (by decide)]; exact j2, fun j h1 h2 => ?_, fun x x1 x2 x3 => by rw [e6, hset_oa x2]; exact j5 x x1 x2 x3⟩
    by_cases e : j = i
    · subst e
      rw [e6, hset_s, j3 (j - 1) (by omega) (by omega), ← PW_s (by omega)]
      congr 1
      omega
    · rw [e6, hset_oj e]; exact j3 j h1 (by omega)
  · intro hh ⟨i1, j0, j1, j2, j3, j5⟩
    refine vX1_become_14 1 10 ⟨⟨by decide, by decide⟩, fun _ => inner 1 hh (by decide) (by omega) ⟨j0, j1, j2, fun i h1 h2 => j3 i h1 (by omega), fun b h1 h2 => by omega, j5⟩, fun c => absurd c (by decide)⟩
end Gnd4
