theorem D_sh {p x n i : Int} (hp : okp p) (hx : 0 ≤ x) (n0 : 0 ≤ n) (i0 : 0 ≤ i) : D p (x * PW p n) i = if i < n then 0 else D p x (i - n) := by
  have pb := (okp_b hp).1
  unfold D
  by_cases c : i < n
  · rw [if_pos c]
    have e : PW p n = PW p (n - i - 1) * p * PW p i := by
      rw [← PW_s (show 0 ≤ n - i - 1 by omega), ← PW_add (by omega) i0, show n - i - 1 + 1 + i = n by omega]
    rw [e, ← Int.mul_assoc, ← Int.mul_assoc, Int.mul_ediv_cancel _ (by have := PW_pos pb i; omega), Int.mul_emod_left]
  · rw [if_neg c]
    have e : PW p i = PW p n * PW p (i - n) := by
      rw [← PW_add n0 (by omega), show n + (i - n) = i by omega]
    rw [e, ← dv_dv (Int.mul_nonneg hx (Int.le_of_lt (PW_pos pb n))) (PW_pos pb n) (PW_pos pb _), Int.mul_ediv_cancel _ (by have := PW_pos pb n; omega)]
section Mod15
variable {l : Launch} {d : Nat} {h : HP} {p : Int} {P P2 : PS} {B : BS} {Q : Int → GS → HP → Prop}
theorem bes_bd {x y z : Int} (hp : okp p) (hW : WF p P) (hV : WF p P2) (x0 : 0 ≤ x) (x9 : x < 9) (y0 : 0 ≤ y) (y9 : y < 9) (z0 : 0 ≤ z) (z9 : z < 9) (hs : ∀ w, 0 ≤ w → w < 3 → sz P w + sz P2 w ≤ 9) : bd p (bes p P P2) (81 * x + 9 * y + z) = if (sz P 0 ≤ x ∧ x < sz P 0 + sz P2 0) ∧ (sz P 1 ≤ y ∧ y < sz P 1 + sz P2 1) ∧ (sz P 2 ≤ z ∧ z < sz P 2 + sz P2 2) then bd p P2 (81 * (x - sz P 0) + 9 * (y - sz P 1) + (z - sz P 2)) else bd p P (81 * x + 9 * y + z) := by
  have s0 := hW.1 0 (by decide) (by decide)
  have s1 := hW.1 1 (by decide) (by decide)
  have s2 := hW.1 2 (by decide) (by decide)
  have v0 := hV.1 0 (by decide) (by decide)
  have v1 := hV.1 1 (by decide) (by decide)
  have v2 := hV.1 2 (by decide) (by decide)
  have q0 := hs 0 (by decide) (by decide)
  have q1 := hs 1 (by decide) (by decide)
  have q2 := hs 2 (by decide) (by decide)
  have hb := hW.2.1 x y x0 x9 y0 y9
  rw [bd_at z0 z9, bd_at z0 z9]
  show D p (if (9 * x + y) / 9 < sz P 0 ∧ (9 * x + y) % 9 < sz P 1 then fb P (9 * x + y) else if sz P 0 ≤ (9 * x + y) / 9 ∧ (9 * x + y) / 9 < sz P 0 + sz P2 0 ∧ sz P 1 ≤ (9 * x + y) % 9 ∧ (9 * x + y) % 9 < sz P 1 + sz P2 1 then fb P2 (9 * ((9 * x + y) / 9 - sz P 0) + ((9 * x + y) % 9 - sz P 1)) * PW p (sz P 2) else 0) z = _
  rw [show (9 * x + y) / 9 = x by omega, show (9 * x + y) % 9 = y by omega]
  by_cases c1 : x < sz P 0 ∧ y < sz P 1
  · rw [if_pos c1, if_neg (by omega)]
  · rw [if_neg c1]
    by_cases c2 : sz P 0 ≤ x ∧ x < sz P 0 + sz P2 0 ∧ sz P 1 ≤ y ∧ y < sz P 1 + sz P2 1
    · have hb2 := hV.2.1 (x - sz P 0) (y - sz P 1) (by omega) (by omega) (by omega) (by omega)
      rw [if_pos c2, D_sh hp hb2.1 (by omega) z0]
      by_cases c3 : z < sz P 2
      · rw [if_pos c3, if_neg (by omega), hb.2.2 (.inl c2.1), D_z]
      · rw [if_neg c3]
        by_cases c4 : z < sz P 2 + sz P2 2
        · rw [if_pos (by omega), bd_at (by omega) (by omega)]
        · rw [if_neg (by omega), hb.2.2 (.inl c2.1), D_z, D_sz hp ⟨hb2.1, hb2.2.1⟩ (by omega)]
    · rw [if_neg c2, if_neg (by omega), D_z, hb.2.2 (by omega), D_z]
set_option maxHeartbeats 2000000 in
theorem rX9_besideB {q : Int} {h0 : HP} (bw : BW B) (hm : MX h B) (o : okq q) (nz : bK B q ≠ 0) (hs : ∀ w, 0 ≤ w → w < 3 → sz (bP B) w + sz (bQ B q) w ≤ 9) (hQ : ∀ h', (∀ b, b ≠ 77 → h' b = h b) → (∀ k, 0 ≤ k → k < 729 → h' 77 k = bd (bp B) (bes (bp B) (bP B) (bQ B q)) k) → S l MX9_beside (d + 1 + 1, 0, 0, 0, 0) 218 [some (vR 75), some (vI q), some (vR 81), some (vI 0), none, none] [] G0 h' Q) : S l MX9_beside (d + 1 + 1, 0, 0, 0, 0) 96 [some (vR 75), some (vI q), some (vR 81), some (vI 0), none, none] [] G0 h Q := by
  have hp := bw.1
  have hW := bw.2.1
  have ho := o
  unfold okq at ho
  have mr := hm.1
  have mb := hm.2.2.1
  obtain ⟨k1, k2, k3, k5⟩ := (hm.2.2.2.2.2.1 q o.1 o.2).2 nz
  have kw : WF (bp B) (bQ B q) := by
    rcases bw.2.2.2.2 q o.1 o.2 with x | x
    · exact absurd x nz
    · exact x.2
  have s0 := hW.1 0 (by decide) (by decide)
  have s1 := hW.1 1 (by decide) (by decide)
  have s2 := hW.1 2 (by decide) (by decide)
  have v0 := kw.1 0 (by decide) (by decide)
  have v1 := kw.1 1 (by decide) (by decide)
  have v2 := kw.1 2 (by decide) (by decide)
  have q0 := hs 0 (by decide) (by decide)
  have q1 := hs 1 (by decide) (by decide)
  have q2 := hs 2 (by decide) (by decide)
  have k10 := k1 0 (by decide) (by decide)
  rw [Int.add_zero] at k10
  have k11 := k1 1 (by decide) (by decide)
  have k12 := k1 2 (by decide) (by decide)
  have m0 := mb.1 0 (by decide) (by decide)
  have m1 := mb.1 1 (by decide) (by decide)
  have m2 := mb.1 2 (by decide) (by decide)
  generalize eS0 : sz (bP B) 0 = S0 at *
  generalize eS1 : sz (bP B) 1 = S1 at *
  generalize eS2 : sz (bP B) 2 = S2 at *
  generalize eK0 : sz (bQ B q) 0 = K0 at *
  generalize eK1 : sz (bQ B q) 1 = K1 at *
  generalize eK2 : sz (bQ B q) 2 = K2 at *
  let I : Int → HP → Prop := fun N hk => (∀ b, b ≠ 77 → hk b = h b) ∧ (∀ i j k, 0 ≤ i → i < K0 → 0 ≤ j → j < K1 → 0 ≤ k → k < K2 → 81 * i + 9 * j + k < N → hk 77 (81 * (S0 + i) + 9 * (S1 + j) + (S2 + k)) = bd (bp B) (bQ B q) (81 * i + 9 * j + k)) ∧ ∀ m, 0 ≤ m → m < 729 → (∀ i j k, 0 ≤ i → i < K0 → 0 ≤ j → j < K1 → 0 ≤ k → k < K2 → 81 * i + 9 * j + k < N → m ≠ 81 * (S0 + i) + 9 * (S1 + j) + (S2 + k)) → hk 77 m = bd (bp B) (bP B) m
  have mono : ∀ N N' hk, (∀ i j k, 0 ≤ i → i < K0 → 0 ≤ j → j < K1 → 0 ≤ k → k < K2 → (81 * i + 9 * j + k < N ↔ 81 * i + 9 * j + k < N')) → I N hk → I N' hk := fun N N' hk e ⟨a, b, c⟩ => ⟨a, fun i j k i0 i1 j0 j1 k0 k1 z => b i j k i0 i1 j0 j1 k0 k1 ((e i j k i0 i1 j0 j1 k0 k1).2 z), fun m m0 m1 z => c m m0 m1 (fun i j k i0 i1 j0 j1 k0 k1 y => z i j k i0 i1 j0 j1 k0 k1 ((e i j k i0 i1 j0 j1 k0 k1).1 y))⟩
  refine lp_up (σ := HP) (fun i hk => S l MX9_beside (d + 1 + 1, 0, 0, 0, 0) 96 [some (vR 75), some (vI q), some (vR 81), some (vI i), none, none] [] G0 hk Q) (fun i hk => 0 ≤ i ∧ I (81 * i) hk) K0 ?_ ?_ 0 h (by omega) ⟨by decide, fun _ _ => rfl, fun i j k i0 _ j0 _ k0 _ z => by omega, fun m m0 m1 _ => mb.2 m m0 m1⟩
  · intro i hk hi ⟨i0, hI⟩ ih1
    have e81 := hI.1 81 (by decide)
    refine vX9_beside_96 75 q 81 i ?_
    simp only [e81, k10]
    refine ⟨i81 (by omega) (by omega), ⟨by omega, by omega⟩, ⟨by omega, by omega⟩, fun c => by omega, fun _ => ?_⟩
    refine lp_up (σ := HP) (fun j hk => S l MX9_beside (d + 1 + 1, 0, 0, 0, 0) 108 [some (vR 75), some (vI q), some (vR 81), some (vI i), some (vI j), none] [] G0 hk Q) (fun j hk => 0 ≤ j ∧ I (81 * i + 9 * j) hk) K1 ?_ ?_ 0 hk (by omega) ⟨by decide, mono _ _ hk (fun _ _ _ _ _ _ _ _ _ => by omega) hI⟩
    · intro j hk hj ⟨j0, hI⟩ ih2
      have e81 := hI.1 81 (by decide)
      refine vX9_beside_108 75 q 81 i j ?_
      simp only [e81, k11]
      refine ⟨i81 (by omega) (by omega), ⟨by omega, by omega⟩, ⟨by omega, by omega⟩, fun c => by omega, fun _ => ?_⟩
      refine lp_up (σ := HP) (fun k hk => S l MX9_beside (d + 1 + 1, 0, 0, 0, 0) 123 [some (vR 75), some (vI q), some (vR 81), some (vI i), some (vI j), some (vI k)] [] G0 hk Q) (fun k hk => 0 ≤ k ∧ I (81 * i + 9 * j + k) hk) K2 ?_ ?_ 0 hk (by omega) ⟨by decide, mono _ _ hk (fun _ _ _ _ _ _ _ _ _ => by omega) hI⟩
      · intro k hk hk1 ⟨k0, f, dn, un⟩ ih3
        have e75 := f 75 (by decide)
        have e81 := f 81 (by decide)
        have e76 := f 76 (by decide)
        have v : hk 82 (729 * q + 81 * i + 9 * j + k) = bd (bp B) (bQ B q) (81 * i + 9 * j + k) := by
          rw [f 82 (by decide), show 729 * q + 81 * i + 9 * j + k = 729 * q + (81 * i + 9 * j + k) by omega]
          exact k2 _ (by omega) (by omega)
        refine vX9_beside_123 75 q 81 i j k ?_
        simp only [e75, e81, k12, mr.sz, e76, m0, m1, m2, mr.kb, mr.bx, v]
        rw [show 81 * (S0 + i) + 9 * (S1 + j) + S2 + k = 81 * (S0 + i) + 9 * (S1 + j) + (S2 + k) by omega]
        refine ⟨i81 (by omega) (by omega), ⟨by omega, by omega⟩, ⟨by omega, by omega⟩, fun c => by omega, fun _ => ⟨t75, i76 (by decide) (by decide), i76 (by decide) (by decide), i76 (by decide) (by decide), i82 (by omega) (by omega), i77 (by omega) (by omega), fun h11 e11 => ih3 h11 ⟨by omega, fun b hb => by rw [e11, hset_oa hb]; exact f b hb, fun i' j' k' i0' i1' j0' j1' k0' k1' z => ?_, fun m m0' m1' z => ?_⟩⟩⟩
        · by_cases e : i' = i ∧ j' = j ∧ k' = k
          · obtain ⟨rfl, rfl, rfl⟩ := e
            rw [e11, hset_s]
          · rw [e11, hset_oj (by omega)]; exact dn i' j' k' i0' i1' j0' j1' k0' k1' (by omega)
        · have ne := z i j k i0 hi j0 hj k0 hk1 (by omega)
          rw [e11, hset_oj ne]
          exact un m m0' m1' (fun i' j' k' i0' i1' j0' j1' k0' k1' y => z i' j' k' i0' i1' j0' j1' k0' k1' (by omega))
      · intro hk ⟨k0, hI⟩
        have e81 := hI.1 81 (by decide)
        refine vX9_beside_123 75 q 81 i j _ ?_
        simp only [e81, k12]
        exact ⟨i81 (by omega) (by omega), ⟨by omega, by omega⟩, ⟨by omega, by omega⟩, fun _ => ih2 hk ⟨by omega, mono _ _ hk (fun _ _ _ _ _ _ _ _ _ => by omega) hI⟩, fun c => by omega⟩
    · intro hk ⟨j0, hI⟩
      have e81 := hI.1 81 (by decide)
      refine vX9_beside_108 75 q 81 i _ ?_
      simp only [e81, k11]
      exact ⟨i81 (by omega) (by omega), ⟨by omega, by omega⟩, ⟨by omega, by omega⟩, fun _ => ih1 hk ⟨by omega, mono _ _ hk (fun _ _ _ _ _ _ _ _ _ => by omega) hI⟩, fun c => by omega⟩
  · intro hk ⟨i0, f, dn, un⟩
    have e81 := f 81 (by decide)
    refine vX9_beside_96 75 q 81 _ ?_
    simp only [e81, k10]
    refine ⟨i81 (by omega) (by omega), ⟨by omega, by omega⟩, ⟨by omega, by omega⟩, fun _ => hQ hk f (fun k k0 k1 => ?_), fun c => by omega⟩
    have bb := bes_bd (p := bp B) (P := bP B) (P2 := bQ B q) (x := k / 81) (y := k / 9 % 9) (z := k % 9) hp hW kw (by omega) (by omega) (by omega) (by omega) (by omega) (by omega) hs
    rw [eS0, eS1, eS2, eK0, eK1, eK2, show 81 * (k / 81) + 9 * (k / 9 % 9) + k % 9 = k by omega] at bb
    rw [bb]
    by_cases c : (S0 ≤ k / 81 ∧ k / 81 < S0 + K0) ∧ (S1 ≤ k / 9 % 9 ∧ k / 9 % 9 < S1 + K1) ∧ (S2 ≤ k % 9 ∧ k % 9 < S2 + K2)
    · rw [if_pos c]
      have := dn (k / 81 - S0) (k / 9 % 9 - S1) (k % 9 - S2) (by omega) (by omega) (by omega) (by omega) (by omega) (by omega) (by omega)
      rw [show 81 * (S0 + (k / 81 - S0)) + 9 * (S1 + (k / 9 % 9 - S1)) + (S2 + (k % 9 - S2)) = k by omega] at this
      exact this
    · rw [if_neg c]
      exact un k k0 k1 (fun i j k' i0 i1 j0 j1 k0' k1' _ e => c (by omega))
/-- a number of the row put beside -/
def bsf (p : Int) (P P2 : PS) (t w i : Int) : Int := if i < sz P w then 0 else D p (rw' P2 (40 * w + t)) (i - sz P w)
set_option maxHeartbeats 2000000 in
theorem rX9_besideS {q : Int} {h0 : HP} (bw : BW B) (hm : MX h0 B) (f0 : ∀ b, b ≠ 77 → h b = h0 b) (o : okq q) (nz : bK B q ≠ 0) (hs : ∀ w, 0 ≤ w → w < 3 → sz (bP B) w + sz (bQ B q) w ≤ 9) (hT : tm (bP B) + tm (bQ B q) ≤ 40) (hQ : ∀ h', (∀ b, b ≠ 75 → b ≠ 78 → h' b = h b) → (∀ j, j ≠ 4 → h' 75 j = h 75 j) → MS h' (bp B) (bes (bp B) (bP B) (bQ B q)) → S l MX9_beside (d + 1 + 1, 0, 0, 0, 0) 377 [some (vR 75), some (vI q), some (vR 81), some (vI 0), none, none] [] G0 h' Q) : S l MX9_beside (d + 1 + 1, 0, 0, 0, 0) 218 [some (vR 75), some (vI q), some (vR 81), some (vI 0), none, none] [] G0 h Q := by
  have hp := bw.1
  have hW := bw.2.1
  have ho := o
  unfold okq at ho
  have e75 := f0 75 (by decide)
  have mr : MR h := hm.1.fr (fun j _ _ _ _ _ _ => by rw [e75])
  have ms : MS h (bp B) (bP B) := hm.2.2.2.1.fr (by rw [e75]) (f0 78 (by decide))
  have ms1 := ms.1
  have hz : ∀ w, 0 ≤ w → w < 3 → h 76 w = sz (bP B) w := fun w w0 w3 => by rw [f0 76 (by decide)]; exact hm.2.2.1.1 w w0 w3
  obtain ⟨k1, k2, k3, k5⟩ := (hm.2.2.2.2.2.1 q o.1 o.2).2 nz
  have kw : WF (bp B) (bQ B q) := by
    rcases bw.2.2.2.2 q o.1 o.2 with x | x
    · exact absurd x nz
    · exact x.2
  have tT := hW.2.2.1
  have tK := kw.2.2.1
  have k3' : h 84 q = tm (bQ B q) := by rw [f0 84 (by decide)]; exact k3
  have k1' : ∀ w, 0 ≤ w → w < 3 → h 81 (3 * q + w) = sz (bQ B q) w := fun w w0 w3 => by rw [f0 81 (by decide)]; exact k1 w w0 w3
  have k5' : ∀ t w i, 0 ≤ t → t < tm (bQ B q) → 0 ≤ w → w < 3 → 0 ≤ i → i < 9 → h 83 (1080 * q + 27 * t + 9 * w + i) = D (bp B) (rw' (bQ B q) (40 * w + t)) i := fun t w i t0 t1 w0 w3 i0 i9 => by
    rw [f0 83 (by decide), show 1080 * q + 27 * t + 9 * w + i = 1080 * q + (27 * t + 9 * w + i) by omega, k5 _ (by omega) (by omega), sd_at w0 w3 i0 i9]
  refine lp_up (σ := HP) (fun t hk => S l MX9_beside (d + 1 + 1, 0, 0, 0, 0) 218 [some (vR 75), some (vI q), some (vR 81), some (vI t), none, none] [] G0 hk Q) (fun t hk => 0 ≤ t ∧ (∀ b, b ≠ 78 → hk b = h b) ∧ (∀ j, j < 27 * tm (bP B) → hk 78 j = h 78 j) ∧ ∀ t' w i, 0 ≤ t' → t' < t → 0 ≤ w → w < 3 → 0 ≤ i → i < 9 → hk 78 (27 * (tm (bP B) + t') + 9 * w + i) = bsf (bp B) (bP B) (bQ B q) t' w i) (tm (bQ B q)) ?_ ?_ 0 h (by omega) ⟨by decide, fun _ _ => rfl, fun _ _ => rfl, fun t' w i t0 t1 => by omega⟩
  · intro t hk ht ⟨t0, f, lo, dn⟩ ih
    have a75 := f 75 (by decide)
    have a84 := f 84 (by decide)
    refine vX9_beside_218 75 q 81 t ?_
    simp only [a75, mr.kt, a84, k3']
    refine ⟨t75, i84 o.1 o.2, ⟨by omega, by omega⟩, ⟨by omega, by omega⟩, fun c => by omega, fun _ => ?_⟩
    refine lp_up (σ := HP) (fun z hk2 => S l MX9_beside (d + 1 + 1, 0, 0, 0, 0) 231 [some (vR 75), some (vI q), some (vR 81), some (vI t), some (vI z), none] [] G0 hk2 Q) (fun z hk2 => 0 ≤ z ∧ (∀ b, b ≠ 78 → hk2 b = h b) ∧ (∀ j, j < 27 * (tm (bP B) + t) → hk2 78 j = hk 78 j) ∧ ∀ j, 0 ≤ j → j < z → hk2 78 (27 * (tm (bP B) + t) + j) = 0) 27 ?_ ?_ 0 hk (by decide) ⟨by decide, f, fun _ _ => rfl, fun j j0 j1 => by omega⟩
    · intro z hk2 hz1 ⟨z0, f2, lo2, dn2⟩ ih2
      have b75 := f2 75 (by decide)
      refine vX9_beside_231 75 q 81 t z ?_
      simp only [b75, mr.sc, ms1]
      refine ⟨⟨by omega, by omega⟩, fun c => by omega, fun _ => ⟨t75, i78 (by omega) (by omega), fun h5 e5 => ih2 h5 ⟨by omega, fun b hb => by rw [e5, hset_oa hb]; exact f2 b hb, fun j hj => by rw [e5, hset_oj (by omega)]; exact lo2 j hj, fun j j0 j1 => ?_⟩⟩⟩
      by_cases e : j = z
      · rw [e, e5, hset_s]
      · rw [e5, hset_oj (by omega)]; exact dn2 j j0 (by omega)
    · intro hk2 ⟨z0, f2, lo2, dn2⟩
      refine vX9_beside_231 75 q 81 t 27 ⟨⟨by decide, by decide⟩, fun _ => ?_, fun c => by omega⟩
      refine lp_up (σ := HP) (fun w hk3 => S l MX9_beside (d + 1 + 1, 0, 0, 0, 0) 265 [some (vR 75), some (vI q), some (vR 81), some (vI t), some (vI w), none] [] G0 hk3 Q) (fun w hk3 => 0 ≤ w ∧ (∀ b, b ≠ 78 → hk3 b = h b) ∧ (∀ j, j < 27 * (tm (bP B) + t) → hk3 78 j = hk 78 j) ∧ ∀ w' i, 0 ≤ w' → w' < 3 → 0 ≤ i → i < 9 → hk3 78 (27 * (tm (bP B) + t) + 9 * w' + i) = if w' < w then bsf (bp B) (bP B) (bQ B q) t w' i else 0) 3 ?_ ?_ 0 hk2 (by decide) ⟨by decide, f2, lo2, fun w' i w0 w3 i0 i9 => by rw [if_neg (by omega), Int.add_assoc]; exact dn2 _ (by omega) (by omega)⟩
      · intro w hk3 hw ⟨w0, f3, lo3, dn3⟩ ih3
        have zw := hW.1 w w0 hw
        have zk := kw.1 w w0 hw
        have zs := hs w w0 hw
        refine vX9_beside_265 75 q 81 t w ⟨⟨by omega, by omega⟩, fun c => by omega, fun _ => ?_⟩
        refine lp_up (σ := HP) (fun i hk4 => S l MX9_beside (d + 1 + 1, 0, 0, 0, 0) 274 [some (vR 75), some (vI q), some (vR 81), some (vI t), some (vI w), some (vI i)] [] G0 hk4 Q) (fun i hk4 => 0 ≤ i ∧ (∀ b, b ≠ 78 → hk4 b = h b) ∧ (∀ j, j < 27 * (tm (bP B) + t) → hk4 78 j = hk 78 j) ∧ ∀ w' i', 0 ≤ w' → w' < 3 → 0 ≤ i' → i' < 9 → hk4 78 (27 * (tm (bP B) + t) + 9 * w' + i') = if w' < w ∨ (w' = w ∧ i' < sz (bP B) w + i) then bsf (bp B) (bP B) (bQ B q) t w' i' else 0) (sz (bQ B q) w) ?_ ?_ 0 hk3 (by omega) ⟨by decide, f3, lo3, fun w' i' w0' w3' i0' i9' => ?_⟩
        · intro i hk4 hi ⟨i0, f4, lo4, dn4⟩ ih4
          have b75 := f4 75 (by decide)
          have b81 := f4 81 (by decide)
          have b76 := f4 76 (by decide)
          have v : hk4 83 (1080 * q + 27 * t + 9 * w + i) = D (bp B) (rw' (bQ B q) (40 * w + t)) i := by rw [f4 83 (by decide)]; exact k5' t w i t0 ht w0 hw i0 (by omega)
          refine vX9_beside_274 75 q 81 t w i ?_
          simp only [b75, b81, b76, k1' w w0 hw, mr.sz, hz w w0 hw, mr.kc, mr.sc, ms1, v]
          refine ⟨i81 (by omega) (by omega), ⟨by omega, by omega⟩, ⟨by omega, by omega⟩, fun c => by omega, fun _ => ⟨t75, i76 w0 hw, i83 (by omega) (by omega), i78 (by omega) (by omega), fun h9 e9 => ih4 h9 ⟨by omega, fun b hb => by rw [e9, hset_oa hb]; exact f4 b hb, fun j hj => by rw [e9, hset_oj (by omega)]; exact lo4 j hj, fun w' i' w0' w3' i0' i9' => ?_⟩⟩⟩
          by_cases e : w' = w ∧ i' = sz (bP B) w + i
          · rw [e.1, e.2, if_pos (by omega), e9, show 27 * (tm (bP B) + t) + 9 * w + (sz (bP B) w + i) = 27 * (tm (bP B) + t) + 9 * w + sz (bP B) w + i by omega, hset_s]
            unfold bsf
            rw [if_neg (by omega), show sz (bP B) w + i - sz (bP B) w = i by omega]
          · rw [e9, hset_oj (by omega), dn4 w' i' w0' w3' i0' i9']
            by_cases c : w' < w ∨ (w' = w ∧ i' < sz (bP B) w + i)
            · rw [if_pos c, if_pos (by omega)]
            · rw [if_neg c, if_neg (by omega)]
        · intro hk4 ⟨i0, f4, lo4, dn4⟩
          have b81 := f4 81 (by decide)
          refine vX9_beside_274 75 q 81 t w _ ?_
          simp only [b81, k1' w w0 hw]
          refine ⟨i81 (by omega) (by omega), ⟨by omega, by omega⟩, ⟨by omega, by omega⟩, fun _ => ih3 hk4 ⟨by omega, f4, lo4, fun w' i' w0' w3' i0' i9' => ?_⟩, fun c => by omega⟩
          rw [dn4 w' i' w0' w3' i0' i9']
          by_cases c : w' < w ∨ (w' = w ∧ i' < sz (bP B) w + sz (bQ B q) w)
          · rw [if_pos c, if_pos (by omega)]
          · rw [if_neg c]
            by_cases c2 : w' < w + 1
            · rw [if_pos c2, show w' = w by omega]
              unfold bsf
              rw [if_neg (by omega), D_sz hp (kw.2.2.2 w t w0 hw t0 ht) (by omega)]
            · rw [if_neg c2]
        · rw [dn3 w' i' w0' w3' i0' i9']
          by_cases c : w' < w
          · rw [if_pos c, if_pos (.inl c)]
          · rw [if_neg c]
            by_cases c2 : w' = w ∧ i' < sz (bP B) w + 0
            · rw [if_pos (.inr c2)]
              unfold bsf
              rw [if_pos (by rw [c2.1]; omega)]
            · rw [if_neg (by omega)]
      · intro hk3 ⟨w0, f3, lo3, dn3⟩
        refine vX9_beside_265 75 q 81 t 3 ⟨⟨by decide, by decide⟩, fun _ => ih hk3 ⟨by omega, f3, fun j hj => by rw [lo3 j (by omega)]; exact lo j hj, fun t' w' i' t0' t1' w0' w3' i0' i9' => ?_⟩, fun c => by omega⟩
        by_cases e : t' = t
        · rw [e, dn3 w' i' w0' w3' i0' i9', if_pos w3']
        · rw [lo3 _ (by omega)]; exact dn t' w' i' t0' (by omega) w0' w3' i0' i9'
  · intro hk ⟨t0, f, lo, dn⟩
    have a75 := f 75 (by decide)
    have a84 := f 84 (by decide)
    refine vX9_beside_218 75 q 81 _ ?_
    simp only [a75, mr.kt, a84, k3', ms1]
    refine ⟨t75, i84 o.1 o.2, ⟨by omega, by omega⟩, ⟨by omega, by omega⟩, fun _ h6 e6 => hQ h6 (fun b b1 b2 => by rw [e6, hset_oa b1]; exact f b b2) (fun j j4 => by rw [e6, hset_oj j4, a75]) (MS_mk (by rw [e6, hset_s]; rfl) (fun t w i t0 t1 w0 w3 i0 i9 => ?_)), fun c => by omega⟩
    have t1' : t < tm (bP B) + tm (bQ B q) := t1
    rw [e6, hset_oa (by decide)]
    by_cases c : t < tm (bP B)
    · rw [lo _ (by omega), show rw' (bes (bp B) (bP B) (bQ B q)) (40 * w + t) = rw' (bP B) (40 * w + t) from besR w0 w3 tT.2 t0 c]
      exact ms.at t0 c w0 w3 i0 i9
    · have := dn (t - tm (bP B)) w i (by omega) (by omega) w0 w3 i0 i9
      rw [show tm (bP B) + (t - tm (bP B)) = t by omega] at this
      have r2 := besR2 (p := bp B) (P := bP B) (P2 := bQ B q) (w := w) (t := t - tm (bP B)) w0 w3 tT.1 hT (by omega) (by omega)
      rw [show tm (bP B) + (t - tm (bP B)) = t by omega] at r2
      rw [this, show rw' (bes (bp B) (bP B) (bQ B q)) (40 * w + t) = _ from r2, D_sh hp (kw.2.2.2 w (t - tm (bP B)) w0 w3 (by omega) (by omega)).1 (by have := (hW.1 w w0 w3).1; omega) i0]
      rfl
theorem rX9_beside {q r : Int} {B' : BS} (hq : inR q) (bw : BW B) (hm : MX h B) (hA : A_be q B r B') (hQ : ∀ h', MX h' B' → FM h h' → Q r G0 h') : R l MX9_beside (d + 2) 0 0 [vR 75, vI q] G0 h Q := by
  have r1 : inR 1 := ⟨by decide, by decide⟩
  have r0 : inR 0 := ⟨by decide, by decide⟩
  have hp := bw.1
  have hW := bw.2.1
  have mr := hm.1
  have mb := hm.2.2.1
  refine eX9_beside 75 q (vX9_beside_0 75 q (rX9_isKeep hq (fun o => ⟨r1, fun _ => ?_, fun z => by omega⟩) (fun n => ⟨r0, fun z => absurd rfl z, fun _ => ?_⟩)))
  · have ho := o
    unfold okq at ho
    have mk := hm.2.2.2.2.2.1 q o.1 o.2
    simp only [mr.ik, mk.1, mr.ks, mr.sz, mb.1 0 (by decide) (by decide), mb.1 1 (by decide) (by decide), mb.1 2 (by decide) (by decide)]
    have kb : inR (bK B q) := by rcases bw.2.2.2.2 q o.1 o.2 with x | x; rw [x]; exact r0; rw [x.1]; exact r1
    refine ⟨t75, i80 o.1 o.2, kb, fun nz => ⟨by decide, i76 (by decide) (by decide), i81 (by omega) (by omega), i76 (by decide) (by decide), i81 (by omega) (by omega), i76 (by decide) (by decide), i81 (by omega) (by omega), ?_⟩, fun z => ?_⟩
    · obtain ⟨k1, k2, k3, k5⟩ := mk.2 nz
      have kw : WF (bp B) (bQ B q) := by
        rcases bw.2.2.2.2 q o.1 o.2 with x | x
        · exact absurd x nz
        · exact x.2
      have s0 := hW.1 0 (by decide) (by decide)
      have s1 := hW.1 1 (by decide) (by decide)
      have s2 := hW.1 2 (by decide) (by decide)
      have v0 := kw.1 0 (by decide) (by decide)
      have v1 := kw.1 1 (by decide) (by decide)
      have v2 := kw.1 2 (by decide) (by decide)
      have k10 := k1 0 (by decide) (by decide)
      rw [Int.add_zero] at k10
      rw [k10, k1 1 (by decide) (by decide), k1 2 (by decide) (by decide)]
      have tT := hW.2.2.1
      have tK := kw.2.2.1
      refine rX9_areSizes ⟨by omega, by omega⟩ ⟨by omega, by omega⟩ ⟨by omega, by omega⟩ (fun oz => ⟨r1, fun _ => ?_, fun z => by omega⟩) (fun nzs => ⟨r0, fun z => absurd rfl z, fun _ => ?_⟩)
      · have hs : ∀ w, 0 ≤ w → w < 3 → sz (bP B) w + sz (bQ B q) w ≤ 9 := fun w w0 w3 => by
          have a := oz.1.2
          have b := oz.2.1.2
          have c := oz.2.2.2
          rcases (show w = 0 ∨ w = 1 ∨ w = 2 by omega) with rfl | rfl | rfl <;> assumption
        simp only [hm.2.2.2.1.1, mr.kt, k3]
        refine ⟨t75, i84 o.1 o.2, ⟨by omega, by omega⟩, fun c => ?_, fun c => ?_⟩
        · rcases hA with ⟨n, _⟩ | ⟨_, ⟨z, _⟩ | ⟨_, ⟨⟨w, ow, hlt⟩, _⟩ | ⟨_, ⟨hlt, _⟩ | ⟨_, rfl, rfl⟩⟩⟩⟩
          · exact absurd o n
          · exact absurd z nz
          · have := hs w ow.1 ow.2; omega
          · omega
          refine rX9_besideB (h0 := h) bw hm o nz hs (fun h1 f1 b1 => rX9_besideS bw hm f1 o nz hs c (fun h2 f2 f75 ms2 => ?_))
          have e75 : ∀ j, j ≠ 4 → h2 75 j = h 75 j := fun j j4 => by rw [f75 j j4, f1 75 (by decide)]
          have m2 : MR h2 := mr.fr (fun j _ j4 _ _ _ _ => e75 j j4)
          have o2 : ∀ b, b ≠ 75 → b ≠ 77 → b ≠ 78 → h2 b = h b := fun b x1 x2 x3 => by rw [f2 b x1 x3, f1 b x2]
          refine lp_up (σ := HP) (fun w hk => S l MX9_beside (d + 1 + 1, 0, 0, 0, 0) 377 [some (vR 75), some (vI q), some (vR 81), some (vI w), none, none] [] G0 hk Q) (fun w hk => 0 ≤ w ∧ (∀ b, b ≠ 76 → hk b = h2 b) ∧ ∀ w', 0 ≤ w' → w' < 3 → hk 76 w' = if w' < w then sz (bP B) w' + sz (bQ B q) w' else sz (bP B) w') 3 ?_ ?_ 0 h2 (by decide) ⟨by decide, fun _ _ => rfl, fun w' w0 w3 => by rw [if_neg (by omega), o2 76 (by decide) (by decide) (by decide)]; exact mb.1 w' w0 w3⟩
          · intro w hk hw ⟨w0, g, dn⟩ ih
            have a75 := g 75 (by decide)
            have a81 : hk 81 (3 * q + w) = sz (bQ B q) w := by rw [g 81 (by decide), o2 81 (by decide) (by decide) (by decide)]; exact k1 w w0 hw
            have a76 := dn w w0 hw
            rw [if_neg (by omega)] at a76
            refine vX9_beside_377 75 q 81 w ?_
            simp only [a75, m2.sz, a81, a76]
            refine ⟨⟨by omega, by omega⟩, fun c => by omega, fun _ => ⟨t75, i76 w0 hw, i81 (by omega) (by omega), fun h12 e12 => ih h12 ⟨by omega, fun b hb => by rw [e12, hset_oa hb]; exact g b hb, fun w' w0' w3' => ?_⟩⟩⟩
            by_cases e : w' = w
            · rw [e, e12, hset_s, if_pos (by omega)]
            · rw [e12, hset_oj e, dn w' w0' w3']
              by_cases c : w' < w
              · rw [if_pos c, if_pos (by omega)]
              · rw [if_neg c, if_neg (by omega)]
          · intro hk ⟨w0, g, dn⟩
            have a75 := g 75 (by decide)
            have mk' : MR hk := m2.fr (fun j _ _ _ _ _ _ => by rw [a75])
            refine vX9_beside_377 75 q 81 3 ⟨⟨by decide, by decide⟩, fun _ => ⟨t75, rX9_emptyHand mk' (fun h5 f5 mh => ⟨t75, fun h8 e8 => ?_⟩)⟩, fun c => by omega⟩
            have j8 : ∀ j, j ≠ 15 → h8 75 j = h2 75 j := fun j hj => by rw [e8, hset_oj hj, f5 75 (by decide), a75]
            have o8 : ∀ b, b ≠ 75 → b ≠ 79 → h8 b = hk b := fun b x1 x2 => by rw [e8, hset_oa x1, f5 b x2]
            rw [j8 4 (by decide), ms2.1]
            refine hQ h8 (hm.bsh (m2.fr (fun j _ _ j15 _ _ _ => j8 j j15)) (by rw [j8 0 (by decide)]; exact e75 0 (by decide)) ⟨fun w w0 w3 => ?_, fun k k0 k1 => ?_⟩ (ms2.fr (j8 4 (by decide)) (by rw [o8 78 (by decide) (by decide), g 78 (by decide)])) ((mh _).fr (by rw [e8, hset_oa (by decide)])) (fun b b0 b1 => by rw [o8 b (by omega) (by omega), g b (by omega), o2 b (by omega) (by omega) (by omega)]) (by rw [e8, hset_s])) (fun b hb => by rw [o8 b (by omega) (by omega), g b (by omega), o2 b (by omega) (by omega) (by omega)])
            · rw [o8 76 (by decide) (by decide), dn w w0 w3, if_pos w3]
              rcases (show w = 0 ∨ w = 1 ∨ w = 2 by omega) with rfl | rfl | rfl <;> rfl
            · rw [o8 77 (by decide) (by decide), g 77 (by decide), f2 77 (by decide) (by decide)]; exact b1 k k0 k1
        · rcases hA with ⟨n, _⟩ | ⟨_, ⟨z, _⟩ | ⟨_, ⟨⟨w, ow, hlt⟩, _⟩ | ⟨_, ⟨_, rfl, rfl⟩ | ⟨hlt, _⟩⟩⟩⟩
          · exact absurd o n
          · exact absurd z nz
          · have := hs w ow.1 ow.2; omega
          · exact hQ h hm FM.rf
          · omega
      · rcases hA with ⟨n, _⟩ | ⟨_, ⟨z, _⟩ | ⟨_, ⟨_, rfl, rfl⟩ | ⟨hle, _⟩⟩⟩
        · exact absurd o n
        · exact absurd z nz
        · exact hQ h hm FM.rf
        · exact absurd ⟨⟨by omega, hle 0 (by decide) (by decide)⟩, ⟨by omega, hle 1 (by decide) (by decide)⟩, ⟨by omega, hle 2 (by decide) (by decide)⟩⟩ nzs
    · rcases hA with ⟨n, _⟩ | ⟨_, ⟨_, rfl, rfl⟩ | ⟨nz, _⟩⟩
      · exact absurd o n
      · exact hQ h hm FM.rf
      · exact absurd z nz
  · rcases hA with ⟨_, rfl, rfl⟩ | ⟨o, _⟩
    · exact hQ h hm FM.rf
    · exact absurd o n
end Mod15
