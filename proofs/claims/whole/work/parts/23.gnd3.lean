/-- the first index, from i on, n of them, where f isn't 0; 0 if there is none -/
def fx (f : Int → Int) : Nat → Int → Int
  | 0, _ => 0
  | n + 1, i => if f i = 0 then fx f n (i + 1) else i
def FI (p x : Int) : Int := fx (D p x) 9 0
def FV (p x : Int) : Int := D p x (FI p x)
def shp (p x : Int) : Int := pl p 0 (iv p (FV p x)) x
def ct (f : Int → Int) : Nat → Int
  | 0 => 0
  | n + 1 => ct f n + (if f n = 0 then 0 else 1)
def sm (f : Int → Int) : Nat → Int
  | 0 => 0
  | n + 1 => sm f n + f n
theorem fx_r {f : Int → Int} : ∀ (n : Nat) (i : Int), (∃ j, i ≤ j ∧ j < i + n ∧ f j ≠ 0) → i ≤ fx f n i ∧ fx f n i < i + n ∧ f (fx f n i) ≠ 0 ∧ ∀ j, i ≤ j → j < fx f n i → f j = 0
  | 0, i, ⟨j, h1, h2, _⟩ => by omega
  | n + 1, i, ⟨j, h1, h2, h3⟩ => by
    unfold fx
    by_cases c : f i = 0
    · rw [if_pos c]
      have hj : j ≠ i := fun e => h3 (by rw [e]; exact c)
      obtain ⟨q1, q2, q3, q4⟩ := fx_r n (i + 1) ⟨j, by omega, by omega, h3⟩
      refine ⟨by omega, by omega, q3, fun k k1 k2 => ?_⟩
      by_cases e : k = i
      · rw [e]; exact c
      · exact q4 k (by omega) k2
    · rw [if_neg c]
      exact ⟨by omega, by omega, c, fun k k1 k2 => by omega⟩
theorem FI_ok {p x : Int} (hp : okp p) (hx : isR p x) (h0 : x ≠ 0) : 0 ≤ FI p x ∧ FI p x < 9 ∧ D p x (FI p x) ≠ 0 ∧ ∀ j, 0 ≤ j → j < FI p x → D p x j = 0 := by
  have he : ∃ j : Int, 0 ≤ j ∧ j < 0 + ((9 : Nat) : Int) ∧ D p x j ≠ 0 := by
    apply Classical.byContradiction
    intro hn
    apply h0
    refine D_inj (okp_b hp).1 9 hx ⟨by omega, PW_pos (okp_b hp).1 9⟩ (fun i h1 h2 => ?_)
    rw [D_z]
    apply Classical.byContradiction
    intro hne
    exact hn ⟨i, h1, by omega, hne⟩
  have := fx_r 9 0 he
  unfold FI
  exact ⟨this.1, by have := this.2.1; omega, this.2.2.1, this.2.2.2⟩
theorem FV_ok {p x : Int} (hp : okp p) (hx : isR p x) (h0 : x ≠ 0) : 1 ≤ FV p x ∧ FV p x < p := by
  have h1 := FI_ok hp hx h0
  have h2 := D_nn (x := x) (i := FI p x) (okp_b hp).1
  have h3 := D_lt (x := x) (i := FI p x) (okp_b hp).1
  have h4 := h1.2.2.1
  unfold FV
  omega
theorem pl_0 {p f : Int} (hp : okp p) : pl p 0 f 0 = 0 := by
  refine D_inj (okp_b hp).1 9 (pl_R hp) ⟨by omega, PW_pos (okp_b hp).1 9⟩ (fun i h1 h2 => ?_)
  rw [D_pl hp h1 h2, D_z]
  simp
theorem pl_1 {p x : Int} (hp : okp p) (hx : isR p x) : pl p 0 1 x = x := by
  refine D_inj (okp_b hp).1 9 (pl_R hp) hx (fun i h1 h2 => ?_)
  rw [D_pl hp h1 h2, D_z]
  rw [Int.zero_add, Int.one_mul]
  exact Int.emod_eq_of_lt (D_nn (okp_b hp).1) (D_lt (okp_b hp).1)
theorem FV_0 {p : Int} : FV p 0 = 0 := by unfold FV; rw [D_z]
theorem shp_0 {p : Int} (hp : okp p) : shp p 0 = 0 := by unfold shp; exact pl_0 hp
theorem shp_2 {x : Int} (hx : isR 2 x) : shp 2 x = x := by
  have hp : okp 2 := Or.inl rfl
  by_cases c : x = 0
  · subst c; exact shp_0 hp
  · unfold shp
    have h1 := FV_ok hp hx c
    rw [show FV 2 x = 1 by omega, show iv 2 1 = 1 by decide]
    exact pl_1 hp hx
theorem ct_s {f : Int → Int} {i : Int} (hi : 0 ≤ i) : ct f (i + 1).toNat = ct f i.toNat + (if f i = 0 then 0 else 1) := by
  rw [show (i + 1).toNat = i.toNat + 1 by omega]
  show ct f i.toNat + (if f (i.toNat : Int) = 0 then 0 else 1) = _
  rw [Int.toNat_of_nonneg hi]
theorem sm_s {f : Int → Int} {i : Int} (hi : 0 ≤ i) : sm f (i + 1).toNat = sm f i.toNat + f i := by
  rw [show (i + 1).toNat = i.toNat + 1 by omega]
  show sm f i.toNat + f (i.toNat : Int) = _
  rw [Int.toNat_of_nonneg hi]
theorem ct_z {f : Int → Int} {i n : Int} (hi : 0 ≤ i) (hn : i ≤ n) (hz : ∀ j, i ≤ j → j < n → f j = 0) : ct f n.toNat = ct f i.toNat := by
  obtain ⟨k, hk⟩ := Int.eq_ofNat_of_zero_le (show 0 ≤ n - i by omega)
  induction k generalizing n with
  | zero => rw [show n = i by omega]
  | succ k ih =>
    rw [show n = (n - 1) + 1 by omega, ct_s (by omega), ih (n := n - 1) (by omega) (fun j h1 h2 => hz j h1 (by omega)) (by omega), hz (n - 1) (by omega) (by omega)]
    simp
theorem sm_z {f : Int → Int} {i n : Int} (hi : 0 ≤ i) (hn : i ≤ n) (hz : ∀ j, i ≤ j → j < n → f j = 0) : sm f n.toNat = sm f i.toNat := by
  obtain ⟨k, hk⟩ := Int.eq_ofNat_of_zero_le (show 0 ≤ n - i by omega)
  induction k generalizing n with
  | zero => rw [show n = i by omega]
  | succ k ih =>
    rw [show n = (n - 1) + 1 by omega, sm_s (by omega), ih (n := n - 1) (by omega) (fun j h1 h2 => hz j h1 (by omega)) (by omega), hz (n - 1) (by omega) (by omega)]
    simp
theorem sm_b {f : Int → Int} {M : Int} : ∀ n : Nat, (∀ i : Int, 0 ≤ i → i < n → 0 ≤ f i ∧ f i ≤ M) → 0 ≤ sm f n ∧ sm f n ≤ n * M
  | 0, _ => by simp [sm]
  | n + 1, h => by
    have ih := sm_b n (fun i h1 h2 => h i h1 (by omega))
    have hn := h n (by omega) (by omega)
    show 0 ≤ sm f n + f n ∧ sm f n + f n ≤ ((n + 1 : Nat) : Int) * M
    rw [show ((n + 1 : Nat) : Int) = (n : Int) + 1 by omega, Int.add_mul]
    omega
section Gnd3
variable {l : Launch} {d : Nat} {h : HP} {p : Int} {Q : Int → GS → HP → Prop}
theorem rX1_firstIndex {x : Int} (hg : Gd h p) (hx : isR p x) (hQ : Q (FI p x) G0 h) : R l MX1_firstIndex d 0 0 [vR 1, vI x] G0 h Q := by
  have hp := okp_b hg.1
  have hx2 := isR_b hg.1 hx
  refine eX1_firstIndex 1 x (vX1_firstIndex_0 1 x ?_)
  have key := lp_up (σ := Unit) (fun i _ => S l MX1_firstIndex (d, 0, 0, 0, 0) 4 [some (vR 1), none, some (vI (x / PW p i)), some (vI i)] [] G0 h Q) (fun i _ => 0 ≤ i ∧ Q (fx (D p x) (9 - i).toNat i) G0 h) 9 ?_ ?_ 0 () (by decide) ⟨by decide, by unfold FI at hQ; exact hQ⟩
  · rw [PW_0, Int.ediv_one] at key
    exact key
  · intro i _ hi h0 ih
    have hA := dvb (i := i) hp.1 hx2
    have h0' := h0.2
    rw [show (9 - i).toNat = (9 - (i + 1)).toNat + 1 by omega] at h0'
    unfold fx at h0'
    refine vX1_firstIndex_4 1 _ i ⟨⟨by omega, by omega⟩, fun c => by omega, fun _ => ?_⟩
    simp only [hg.2.1]
    have hD1 := D_nn (x := x) (i := i) hp.1
    have hD2 := D_lt (x := x) (i := i) hp.1
    refine ⟨rfl, ⟨hA, by omega, by omega⟩, ⟨by show _ ≤ D p x i; omega, by show D p x i ≤ _; omega⟩, fun c => ?_, fun c => ?_⟩
    · have c' : D p x i = 0 := c
      rw [if_pos c'] at h0'
      have := ih () ⟨by omega, h0'⟩
      rw [← dvp hp.1 hx.1 h0.1] at this
      exact this
    · have c' : ¬ D p x i = 0 := c
      rw [if_neg c'] at h0'
      exact h0'
  · intro _ h0
    exact vX1_firstIndex_4 1 _ 9 ⟨⟨by decide, by decide⟩, fun _ => h0.2, fun c => absurd c (by decide)⟩
theorem rX1_first {x : Int} (hg : Gd h p) (hx : isR p x) (hQ : Q (FV p x) G0 h) : R l MX1_first (d + 1) 0 0 [vR 1, vI x] G0 h Q := by
  have hx2 := isR_b hg.1 hx
  refine eX1_first 1 x (vX1_first_0 1 x ⟨⟨by omega, by omega⟩, fun c => ⟨rfl, ?_⟩, fun c => ?_⟩)
  · have h1 := FI_ok hg.1 hx c
    exact rX1_firstIndex hg hx ⟨rfl, rX1_number hg hx2 ⟨h1.1, by omega⟩ hQ⟩
  · subst c
    rw [FV_0] at hQ
    exact hQ
theorem rX1_shape {x : Int} (hg : Gd h p) (hx : isR p x) (hQ : Q (shp p x) G0 h) : R l MX1_shape (d + 1) 0 0 [vR 1, vI x] G0 h Q := by
  have hp := okp_b hg.1
  have hx2 := isR_b hg.1 hx
  refine eX1_shape 1 x (vX1_shape_0 1 x ?_)
  simp only [hg.2.1, hg.2.2.2.1]
  refine ⟨rfl, ⟨by omega, by omega⟩, fun c => ?_, fun c => ⟨⟨by omega, by omega⟩, fun c2 => ?_, fun c2 => ?_⟩⟩
  · subst c
    rw [shp_2 hx] at hQ
    exact hQ
  · have h1 := FI_ok hg.1 hx c2
    have h2 := FV_ok hg.1 hx c2
    have h3 := iv_ok hg.1 h2.1 h2.2
    refine rX1_firstIndex hg hx ⟨rfl, rX1_number hg hx2 ⟨h1.1, by omega⟩ ?_⟩
    have h2' : 1 ≤ D p x (FI p x) ∧ D p x (FI p x) < p := h2
    have e : h 3 (D p x (FI p x)) = iv p (FV p x) := hg.2.2.2.2.2 _ h2.1 h2.2
    refine ⟨⟨rfl, by omega, by show D p x (FI p x) < 7; omega⟩, rfl, ?_⟩
    rw [e]
    exact rX1_plus hg ⟨by omega, PW_pos hp.1 9⟩ hx ⟨by omega, h3.2.1⟩ hQ
  · subst c2
    rw [shp_0 hg.1] at hQ
    exact hQ
theorem rX1_filled {x : Int} (hg : Gd h p) (hx : isR p x) (hQ : Q (ct (D p x) 9) G0 h) : R l MX1_filled d 0 0 [vR 1, vI x] G0 h Q := by
  have hp := okp_b hg.1
  have hx2 := isR_b hg.1 hx
  refine eX1_filled 1 x (vX1_filled_0 1 x ?_)
  have key := lp_up (σ := Unit) (fun i _ => S l MX1_filled (d, 0, 0, 0, 0) 7 [some (vR 1), none, some (vI (ct (D p x) i.toNat)), some (vI (x / PW p i)), some (vI i)] [] G0 h Q) (fun i _ => 0 ≤ i) 9 ?_ ?_ 0 () (by decide) (by decide)
  · rw [PW_0, Int.ediv_one] at key
    exact key
  · intro i _ hi h0 ih
    have hA := dvb (i := i) hp.1 hx2
    refine vX1_filled_7 1 _ _ i ⟨⟨by omega, by omega⟩, fun c => by omega, fun _ => ⟨⟨by omega, by omega⟩, fun c => ?_, fun c => ?_⟩⟩
    · rw [← ct_z (n := 9) h0 (by omega) (fun j h1 h2 => D_dz hp.1 hx.1 c h1)]
      exact hQ
    · simp only [hg.2.1]
      have hD1 := D_nn (x := x) (i := i) hp.1
      have hD2 := D_lt (x := x) (i := i) hp.1
      have := ih () (by omega)
      rw [ct_s h0, ← dvp hp.1 hx.1 h0] at this
      refine ⟨rfl, ⟨hA, by omega, by omega⟩, ⟨by show _ ≤ D p x i; omega, by show D p x i ≤ _; omega⟩, fun c => ?_, fun c => ?_⟩
      · have c' : D p x i = 0 := c
        rw [if_pos c', Int.add_zero] at this
        exact this
      · have c' : ¬ D p x i = 0 := c
        rw [if_neg c'] at this
        exact this
  · intro _ h0
    exact vX1_filled_7 1 _ _ 9 ⟨⟨by decide, by decide⟩, fun _ => hQ, fun c => absurd c (by decide)⟩
theorem rX1_sumOfProducts {a b : Int} (hg : Gd h p) (ha : isR p a) (hb : isR p b) (hQ : Q (sm (fun i => D p a i * D p b i) 9 % p) G0 h) : R l MX1_sumOfProducts d 0 0 [vR 1, vI a, vI b] G0 h Q := by
  have hp := okp_b hg.1
  have ha2 := isR_b hg.1 ha
  have hb2 := isR_b hg.1 hb
  have hbd : ∀ n : Nat, n ≤ 9 → 0 ≤ sm (fun i => D p a i * D p b i) n ∧ sm (fun i => D p a i * D p b i) n ≤ 324 := by
    intro n hn
    have := sm_b (f := fun i => D p a i * D p b i) (M := 36) n (fun i _ _ => ml_b (a := 6) (b := 6) (D_nn hp.1) (by have := D_lt (x := a) (i := i) hp.1; omega) (D_nn hp.1) (by have := D_lt (x := b) (i := i) hp.1; omega))
    omega
  refine eX1_sumOfProducts 1 a b (vX1_sumOfProducts_0 1 a b ?_)
  have key := lp_up (σ := Unit) (fun i _ => S l MX1_sumOfProducts (d, 0, 0, 0, 0) 11 [some (vR 1), none, none, some (vI (sm (fun i => D p a i * D p b i) i.toNat)), some (vI (a / PW p i)), some (vI (b / PW p i)), some (vI i)] [] G0 h Q) (fun i _ => 0 ≤ i) 9 ?_ ?_ 0 () (by decide) (by decide)
  · rw [PW_0, Int.ediv_one, Int.ediv_one] at key
    exact key
  · intro i _ hi h0 ih
    have hA := dvb (i := i) hp.1 ha2
    have hB := dvb (i := i) hp.1 hb2
    have hs := hbd i.toNat (by omega)
    have fin : (∀ j, i ≤ j → D p a j * D p b j = 0) → ty G0 1 = 1 ∧ dvR (sm (fun i => D p a i * D p b i) i.toNat) p ∧ Q (sm (fun i => D p a i * D p b i) i.toNat % p) G0 h := by
      intro hz
      refine ⟨rfl, ⟨⟨hs.1, by omega⟩, by omega, by omega⟩, ?_⟩
      rw [← sm_z (n := 9) h0 (by omega) (fun j h1 h2 => hz j h1)]
      exact hQ
    refine vX1_sumOfProducts_11 1 _ _ _ i ?_
    simp only [hg.2.1]
    refine ⟨⟨by omega, by omega⟩, fun c => by omega, fun _ => ⟨⟨by omega, by omega⟩, fun c => fin (fun j hj => by rw [D_dz hp.1 ha.1 c hj]; simp), fun c => ⟨⟨by omega, by omega⟩, fun c2 => fin (fun j hj => by rw [D_dz hp.1 hb.1 c2 hj]; simp), fun c2 => ⟨rfl, ⟨hA, by omega, by omega⟩, ⟨hB, by omega, by omega⟩, ?_⟩⟩⟩⟩
    have := ih () (by omega)
    rw [sm_s h0, ← dvp hp.1 ha.1 h0, ← dvp hp.1 hb.1 h0] at this
    exact this
  · intro _ h0
    have hs := hbd 9 (by omega)
    refine vX1_sumOfProducts_11 1 _ _ _ 9 ?_
    simp only [hg.2.1]
    exact ⟨⟨by decide, by decide⟩, fun _ => ⟨rfl, ⟨⟨hs.1, Int.le_trans hs.2 (by decide)⟩, by omega, by omega⟩, hQ⟩, fun c => absurd c (by decide)⟩
theorem rX1_shapes {n : Int} (hg : Gd h p) (hn : 0 ≤ n ∧ n ≤ 9) (hQ : Q ((PW p n - 1) / (p - 1)) G0 h) : R l MX1_shapes d 0 0 [vR 1, vI n] G0 h Q := by
  have hp := okp_b hg.1
  have h1 := PWm hg.1 hn.2
  refine eX1_shapes 1 n (vX1_shapes_0 1 n ?_)
  simp only [hg.2.1, hg.2.2.1]
  rw [hg.2.2.2.2.1 n hn.1 hn.2]
  exact ⟨rfl, ⟨rfl, hn.1, by show n < 10; omega⟩, ⟨⟨by omega, by omega⟩, by omega, by omega⟩, hQ⟩
end Gnd3
