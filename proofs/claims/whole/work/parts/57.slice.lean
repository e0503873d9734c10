theorem ij_lt {i j A B : Int} (i0 : 0 ≤ i) (iA : i < A) (j0 : 0 ≤ j) (jB : j < B) : 0 ≤ i * B + j ∧ i * B + j < A * B := by
  have h1 : 0 ≤ i * B := Int.mul_nonneg i0 (by omega)
  have h2 : (i + 1) * B ≤ A * B := Int.mul_le_mul_of_nonneg_right (by omega) (by omega)
  rw [Int.add_mul, Int.one_mul] at h2
  omega
theorem ij_dm {i j B : Int} (j0 : 0 ≤ j) (jB : j < B) : (i * B + j) / B = i ∧ (i * B + j) % B = j := by
  constructor
  · rw [Int.add_comm, Int.add_mul_ediv_right _ _ (by omega), Int.ediv_eq_zero_of_lt j0 jB]; omega
  · rw [Int.add_comm, Int.add_mul_emod_self_right, Int.emod_eq_of_lt j0 jB]
theorem y_dm {y A B : Int} (hB : 0 < B) (y0 : 0 ≤ y) (y1 : y < A * B) : 0 ≤ y / B ∧ y / B < A ∧ 0 ≤ y % B ∧ y % B < B ∧ y / B * B + y % B = y := by
  have h1 := Int.emod_nonneg y (show B ≠ 0 by omega)
  have h2 := Int.emod_lt_of_pos y hB
  have h3 := Int.ediv_nonneg y0 (Int.le_of_lt hB)
  have h4 : y / B < A := Int.ediv_lt_of_lt_mul hB y1
  have h5 := Int.mul_ediv_add_emod y B
  rw [Int.mul_comm] at h5
  exact ⟨h3, h4, h1, h2, h5⟩
/-- the box's slice k as one number -/
def slc (p : Int) (P : PS) (k : Int) : Int := en p (fun y => D p (fb P (9 * (y / sz P 1) + y % sz P 1)) k) (sz P 0 * sz P 1).toNat
theorem slc_R {p k : Int} {P : PS} (hp : okp p) (h0 : 0 ≤ sz P 0 * sz P 1) (h9 : sz P 0 * sz P 1 ≤ 9) : 0 ≤ slc p P k ∧ slc p P k < PW p (sz P 0 * sz P 1) ∧ isR p (slc p P k) := by
  have := en_b (p := p) (f := fun y => D p (fb P (9 * (y / sz P 1) + y % sz P 1)) k) (okp_b hp).1 (sz P 0 * sz P 1).toNat (fun i _ _ => D_D hp)
  rw [Int.toNat_of_nonneg h0] at this
  exact ⟨this.1, this.2, this.1, Int.lt_of_lt_of_le this.2 (PW_le (okp_b hp).1 h9)⟩
theorem D_slc {p k y : Int} {P : PS} (hp : okp p) (h0 : 0 ≤ sz P 0 * sz P 1) (h9 : sz P 0 * sz P 1 ≤ 9) (y0 : 0 ≤ y) : D p (slc p P k) y = if y < sz P 0 * sz P 1 then D p (fb P (9 * (y / sz P 1) + y % sz P 1)) k else 0 := by
  by_cases c : y < sz P 0 * sz P 1
  · rw [if_pos c]
    exact D_en (f := fun y => D p (fb P (9 * (y / sz P 1) + y % sz P 1)) k) (okp_b hp).1 (sz P 0 * sz P 1).toNat (fun i _ _ => D_D hp) y y0 (by omega)
  · rw [if_neg c]
    have := slc_R (k := k) hp h0 h9
    exact D_sz hp ⟨this.1, this.2.1⟩ (by omega)
section Slice
variable {l : Launch} {d : Nat} {h : HP} {p a : Int} {P : PS} {Q : Int → GS → HP → Prop}
theorem rX6_sliceOf {k : Int} (hg : Gd h p) (ha : isP a) (sr : h 51 0 = 1) (hX : XP h a p P) (hW : WF p P) (h9 : sz P 0 * sz P 1 ≤ 9) (k0 : 0 ≤ k) (k9 : k ≤ 9) (hQ : Q (slc p P k) G0 h) : R l MX6_sliceOf (d + 2) 0 0 [vR 51, vR a, vI k] G0 h Q := by
  have hA := hW.1 0 (by decide) (by decide)
  have hB := hW.1 1 (by decide) (by decide)
  have sA := hX.2.1 0 (by decide) (by decide)
  have sB := hX.2.1 1 (by decide) (by decide)
  have eA : sz P 0 * sz P 1 = sz P 0 * sz P 1 := rfl
  refine eX6_sliceOf 51 a k (vX6_sliceOf_0 51 a k ?_)
  refine lp_up (σ := Int) (fun i x => S l MX6_sliceOf (d + 1 + 1, 0, 0, 0, 0) 5 [some (vR 51), some (vR a), some (vI k), some (vI x), some (vI i), none] [] G0 h Q) (fun i x => 0 ≤ i ∧ x = en p (fun y => D p (fb P (9 * (y / sz P 1) + y % sz P 1)) k) (i * sz P 1).toNat) (sz P 0) ?_ ?_ 0 0 (by omega) ⟨by decide, by rw [Int.zero_mul]; rfl⟩
  · intro i x hi ⟨i0, ex⟩ ih
    refine vX6_sliceOf_5 51 a k _ i ?_
    simp only [hX.1.2.1, sA]
    refine ⟨(tP ha).1, ia1 ha (by decide) (by decide), ⟨by omega, by omega⟩, ⟨by omega, by omega⟩, fun c => by omega, fun _ => ?_⟩
    refine lp_up (σ := Int) (fun j x => S l MX6_sliceOf (d + 1 + 1, 0, 0, 0, 0) 19 [some (vR 51), some (vR a), some (vI k), some (vI x), some (vI i), some (vI j)] [] G0 h Q) (fun j x => 0 ≤ j ∧ x = en p (fun y => D p (fb P (9 * (y / sz P 1) + y % sz P 1)) k) (i * sz P 1 + j).toNat) (sz P 1) ?_ ?_ 0 x (by omega) ⟨by decide, by rw [Int.add_zero]; exact ex⟩
    · intro j x hj ⟨j0, ex⟩ ih2
      have ij := ij_lt i0 hi j0 hj
      have dm := ij_dm (i := i) j0 hj
      refine vX6_sliceOf_19 51 a k _ i j ?_
      simp only [hX.1.2.1, sB]
      refine ⟨(tP ha).1, ia1 ha (by decide) (by decide), ⟨by omega, by omega⟩, ⟨by omega, by omega⟩, fun c => by omega, fun _ => ?_⟩
      refine rX4_number hg ha hX hW i0 (by omega) j0 (by omega) k0 k9 ?_
      simp only [hX.1.2.1, sB, sr, hg.2.2.1, hg.2.2.2.2.1 _ ij.1 (show i * sz P 1 + j ≤ 9 by omega)]
      refine ⟨by decide +kernel, by decide +kernel, (tP ha).1, ia1 ha (by decide) (by decide), ⟨by decide +kernel, ij.1, by rw [show ln G0 2 = 10 by decide +kernel]; omega⟩, ?_⟩
      refine ih2 _ ⟨by omega, ?_⟩
      rw [show i * sz P 1 + (j + 1) = i * sz P 1 + j + 1 by omega, en_s ij.1, ex]
      simp only [dm.1, dm.2]
    · intro x ⟨j0, ex⟩
      refine vX6_sliceOf_19 51 a k _ i _ ?_
      simp only [hX.1.2.1, sB]
      refine ⟨(tP ha).1, ia1 ha (by decide) (by decide), ⟨by omega, by omega⟩, ⟨by omega, by omega⟩, fun _ => ?_, fun c => by omega⟩
      refine ih _ ⟨by omega, ?_⟩
      rw [Int.add_mul, Int.one_mul]
      exact ex
  · intro x ⟨_, ex⟩
    refine vX6_sliceOf_5 51 a k _ _ ?_
    simp only [hX.1.2.1, sA]
    refine ⟨(tP ha).1, ia1 ha (by decide) (by decide), ⟨by omega, by omega⟩, ⟨by omega, by omega⟩, fun _ => by rw [ex]; exact hQ, fun c => by omega⟩
theorem rX6_takeSlices (hg : Gd h p) (ha : isP a) (sr : SR h) (hX : XP h a p P) (hW : WF p P) (h9 : sz P 0 * sz P 1 ≤ 9) (hb : h 62 0 = 1 ∧ h 62 1 = 63 ∧ h 62 2 = 64 ∧ h 62 3 = 65) (hQ : ∀ (r : Nat) (b : Int → Int) h', XS h' 62 p r b → (∀ s : Int, 0 ≤ s → s < r → Sp p 9 (sz P 2).toNat (DV p (slc p P)) (DV p b s)) → (∀ k : Int, 0 ≤ k → k < sz P 2 → Sp p 9 r (DV p b) (D p (slc p P k))) → FrB 62 h h' → Q 0 G0 h') : R l MX6_takeSlices (d + 4) 0 0 [vR 51, vR a] G0 h Q := by
  have hA := hW.1 0 (by decide) (by decide)
  have hB := hW.1 1 (by decide) (by decide)
  have hC := hW.1 2 (by decide) (by decide)
  have hAB : 0 ≤ sz P 0 * sz P 1 := Int.mul_nonneg (by omega) (by omega)
  have hab := isP_b ha
  refine eX6_takeSlices 51 a (vX6_takeSlices_0 51 a ?_)
  simp only [sr.1.2.1]
  refine ⟨by decide +kernel, by decide +kernel, rX0_clear (.inr (.inl rfl)) hb (fun h1 x1 f1 => ?_)⟩
  refine lp_up (σ := HP) (fun k hh => S l MX6_takeSlices (d + 3 + 1, 0, 0, 0, 0) 9 [some (vR 51), some (vR a), some (vI k)] [] G0 hh Q) (fun k hh => 0 ≤ k ∧ FrB 62 h hh ∧ ∃ (r : Nat) (b : Int → Int), XS hh 62 p r b ∧ (∀ s : Int, 0 ≤ s → s < r → Sp p 9 (sz P 2).toNat (DV p (slc p P)) (DV p b s)) ∧ (∀ k' : Int, 0 ≤ k' → k' < k → Sp p 9 r (DV p b) (D p (slc p P k')))) (sz P 2) ?_ ?_ 0 h1 (by omega) ⟨by decide, f1, 0, fun _ => 0, x1 p _ hg.1, fun s s0 s1 => by omega, fun s s0 s1 => by omega⟩
  · intro k hh hk ⟨k0, fr, r, b, xs, b1, b2⟩ ih
    have e51 := fr 51 (by omega)
    have X' : XP hh a p P := hX.lo (fun b b0 b1 => fr b (by omega))
    have g' : Gd hh p := hg.lo (fun b b0 b1 => fr b (by omega))
    have sR := slc_R (k := k) hg.1 hAB h9
    refine vX6_takeSlices_9 51 a k ?_
    simp only [X'.1.2.1, X'.2.1 2 (by decide) (by decide), e51, sr.1.2.1]
    refine ⟨(tP ha).1, ia1 ha (by decide) (by decide), ⟨by omega, by omega⟩, ⟨by omega, by omega⟩, fun c => by omega, fun _ => ⟨by decide +kernel, ?_⟩⟩
    refine rX6_sliceOf g' ha (by rw [e51]; exact sr.1.1) X' hW h9 k0 (by omega) ⟨by decide +kernel, ?_⟩
    refine rX0_add g' (.inr (.inl rfl)) xs sR.2.2 (fun hs => ?_) (fun hs h2 x2 f2 => ?_)
    · refine ih hh ⟨by omega, fr, r, b, xs, b1, fun k' k0' k1' => ?_⟩
      by_cases e : k' = k
      · rw [e]; exact hs
      · exact b2 k' k0' (by omega)
    · refine ih h2 ⟨by omega, fun c hc => (f2 c hc).trans (fr c hc), r + 1, _, x2, fun s s0 s1 => ?_, fun k' k0' k1' => ?_⟩
      · by_cases e : s = (r : Int)
        · subst e
          show Sp p 9 (sz P 2).toNat (DV p (slc p P)) (fun i => D p (up1 b r (slc p P k) r) i)
          rw [up1_s]
          exact Sp_self (v := DV p (slc p P)) (t := k) k0 (by omega)
        · show Sp p 9 (sz P 2).toNat (DV p (slc p P)) (fun i => D p (up1 b r (slc p P k) s) i)
          rw [up1_o e]
          exact b1 s s0 (by omega)
      · by_cases e : k' = k
        · have := Sp_self (p := p) (N := 9) (n := r + 1) (v := DV p (up1 b r (slc p P k))) (t := r) (by omega) (by omega)
          refine Sp_u this (fun i i0 i9 => ?_)
          show D p (slc p P k') i = D p (up1 b r (slc p P k) r) i
          rw [up1_s, e]
        · exact Sp_le (Sp_ext (b2 k' k0' (by omega)) (fun s i _ s1 _ _ => DVu s1)) (by omega)
  · intro hh ⟨k0, fr, r, b, xs, b1, b2⟩
    have X' : XP hh a p P := hX.lo (fun b b0 b1 => fr b (by omega))
    refine vX6_takeSlices_9 51 a _ ?_
    simp only [X'.1.2.1, X'.2.1 2 (by decide) (by decide)]
    refine ⟨(tP ha).1, ia1 ha (by decide) (by decide), ⟨by omega, by omega⟩, ⟨by omega, by omega⟩, fun _ => hQ r b hh xs b1 b2 fr, fun c => by omega⟩
end Slice
