theorem lrh_fr {h h' : HP} {t C p : Int} {m : Int → Int} (hL : LRh h t C p m) (e1 : ∀ i, 0 ≤ i → i < 9 → h' 71 (9 * t + i) = h 71 (9 * t + i) ∧ h' 72 (9 * t + i) = h 72 (9 * t + i)) (e3 : h' 73 t = h 73 t) : LRh h' t C p m := by
  show LRr _ _ (h' 73 t) C p m
  rw [e3]
  exact LRr.ext hL (fun i i0 i1 => e1 i i0 (by have := hL.1.2; omega)) (fun _ _ _ => rfl)
theorem lrh_len {h : HP} {t C p : Int} {m : Int → Int} (hC : 0 ≤ C) (hL : LRh h t C p m) : ct m C.toNat = h 73 t ∧ h 73 t ≤ C := by
  have e : LRr (fun i => h 71 (9 * t + i)) (fun i => h 72 (9 * t + i)) (h 73 t) ((C.toNat : Nat) : Int) p m := by
    rw [Int.toNat_of_nonneg hC]; exact hL
  have e1 := LRr.len C.toNat (h 73 t) e
  have e2 := ct_b (f := m) C.toNat
  exact ⟨e1, by omega⟩
/-- the Sharer holds the rows M, C columns of T rows -/
def SH (h : HP) (p : Int) (T C : Int) (M : Int → Int → Int) : Prop := HR h ∧ h 70 5 = T ∧ h 70 6 = C ∧ ∀ t, 0 ≤ t → t < T → LRh h t C p (M t)
section Shr3
variable {l : Launch} {d : Nat} {h : HP} {p C T a : Int} {P : PS} {M : Int → Int → Int} {Q : Int → GS → HP → Prop}
theorem FrH.g {h' : HP} (f : FrH h h') (hg : Gd h p) : Gd h' p := hg.lo (fun b b0 b1 => f b (by omega))
theorem FrH.x {h' : HP} (f : FrH h h') (ha : isP a) (hX : XP h a p P) : XP h' a p P := hX.lo (fun b b0 b1 => f b (by have := isP_b ha; omega))
theorem FrH.tr {h1 h2 : HP} (f : FrH h h1) (g : FrH h1 h2) : FrH h h2 := fun b hb => (g b hb).trans (f b hb)
theorem rX7_load {w : Int} (hg : Gd h p) (hr : HR h) (ha : isP a) (hX : XP h a p P) (hW : WF p P) (w0 : 0 ≤ w) (w3 : w < 3) (hQ : ∀ h', SH h' p (tm P) (sz P w) (fun t => D p (rw' P (40 * w + t))) → FrH h h' → Q 0 G0 h') : R l MX7_load (d + 1) 0 0 [vR 70, vR a, vI w] G0 h Q := by
  have ab := isP_b ha
  have hs := hW.1 w w0 w3
  have ht := hW.2.2.1
  refine eX7_load 70 a w (vX7_load_0 70 a w ⟨(tP ha).1, by decide +kernel, fun h3 e3 => ?_⟩)
  have f3 : ∀ b, b ≠ 70 → h3 b = h b := fun b hb => by rw [e3, hset_oa hb]
  simp only [f3 a (by omega), hX.1.2.1, f3 (a + 1) (by omega), hX.2.1 w w0 w3]
  refine ⟨ia1 ha w0 w3, fun h5 e5 => ?_⟩
  have f5 : FrH h h5 := fun b hb => by rw [e5, hset_oa (by omega), f3 b (by omega)]
  have a5 : ∀ j, j ≠ 5 → j ≠ 6 → h5 70 j = h 70 j := fun j j5 j6 => by rw [e5, hset_oj j6, e3, hset_oj j5]
  have r5 : HR h5 := hr.fr (fun j j0 j4 => a5 j (by omega) (by omega))
  have t5 : h5 70 5 = tm P := by rw [e5, hset_oj (by decide), e3, hset_s, hX.2.2.2.1]
  have c5 : h5 70 6 = sz P w := by rw [e5, hset_s]
  refine lp_up (σ := HP) (fun t hh => S l MX7_load (d + 1, 0, 0, 0, 0) 20 [some (vR 70), some (vR a), some (vI w), some (vI t), none, none] [] G0 hh Q) (fun t hh => 0 ≤ t ∧ HR hh ∧ hh 70 5 = tm P ∧ hh 70 6 = sz P w ∧ FrH h hh ∧ ∀ t', 0 ≤ t' → t' < t → LRh hh t' (sz P w) p (D p (rw' P (40 * w + t')))) (tm P) ?_ ?_ 0 h5 (by omega) ⟨by omega, r5, t5, c5, f5, fun t' t0 t1 => by omega⟩
  · intro t hh htT ⟨t0, hr', h5', h6', f', hL'⟩ ih
    refine vX7_load_20 70 a w t ?_
    simp only [h5', hr'.2.2.2.1]
    refine ⟨by decide +kernel, ⟨by omega, by omega⟩, ⟨by omega, by omega⟩, fun c => by omega, fun _ => ⟨ia73 t0 (by omega), fun h7 e7 => ?_⟩⟩
    have f7 : ∀ b, b ≠ 73 → h7 b = hh b := fun b hb => by rw [e7, hset_oa hb]
    refine lp_up (σ := HP) (fun i hk => S l MX7_load (d + 1, 0, 0, 0, 0) 38 [some (vR 70), some (vR a), some (vI w), some (vI t), some (vI i), none] [] G0 hk Q) (fun i hk => 0 ≤ i ∧ HR hk ∧ hk 70 5 = tm P ∧ hk 70 6 = sz P w ∧ FrH h hk ∧ (∀ t', 0 ≤ t' → t' < t → LRh hk t' (sz P w) p (D p (rw' P (40 * w + t')))) ∧ LRh hk t i p (D p (rw' P (40 * w + t)))) (sz P w) ?_ ?_ 0 h7 (by omega) ⟨by omega, hr'.fr (fun j _ _ => by rw [f7 70 (by decide)]), by rw [f7 70 (by decide)]; exact h5', by rw [f7 70 (by decide)]; exact h6', fun b hb => by rw [f7 b (by omega)]; exact f' b hb, fun t' t0' t1' => lrh_fr (hL' t' t0' t1') (fun i _ _ => by rw [f7 71 (by decide), f7 72 (by decide)]; exact ⟨rfl, rfl⟩) (by rw [e7, hset_oj (by omega)]), ?_⟩
    · intro i hk hi ⟨i0, kr, k5, k6, kf, kL, kt⟩ ih2
      have kg := kf.g hg
      have kx := kf.x ha hX
      have kb := lrh_len i0 kt
      have k9 := kt.1
      refine vX7_load_38 70 a w t i ?_
      simp only [k6]
      refine ⟨by decide +kernel, ⟨by omega, by omega⟩, ⟨by omega, by omega⟩, fun c => by omega, fun _ => ⟨(tP ha).1, rX4_rowOf ha kx hW w0 w3 t0 htT ?_⟩⟩
      simp only [kr.1]
      refine ⟨by decide +kernel, rX1_number kg (isR_b hg.1 (rowR hg.1 hW w0 w3 t0 htT)) ⟨i0, by omega⟩ ?_⟩
      have dd := D_D (x := rw' P (40 * w + t)) (i := i) hg.1
      have hb := okp_b hg.1
      refine ⟨⟨by omega, by omega⟩, fun z => ih2 hk ⟨by omega, kr, k5, k6, kf, kL, LRr.nxt kt z⟩, fun nz => ⟨by decide +kernel, rX7_append kr t0 (by omega) ⟨k9.1, by omega⟩ (fun h' g1 g2 g3 g4 => ?_)⟩⟩
      refine ih2 h' ⟨by omega, kr.fr (fun j _ _ => by rw [g1 70 (by decide) (by decide) (by decide)]), by rw [g1 70 (by decide) (by decide) (by decide)]; exact k5, by rw [g1 70 (by decide) (by decide) (by decide)]; exact k6, fun b hb => by rw [g1 b (by omega) (by omega) (by omega)]; exact kf b hb, fun t' t0' t1' => lrh_fr (kL t' t0' t1') (fun i i0 i9 => ?_) ?_, ?_⟩
      · rw [g2, g3, if_neg (by omega), if_neg (by omega)]; exact ⟨rfl, rfl⟩
      · rw [g4, if_neg (by omega)]
      · show LRr _ _ (h' 73 t) (i + 1) p _
        rw [g4 t, if_pos rfl]
        refine LRr.ext (LRr.app kt i0 (by omega) ⟨by omega, dd.2⟩) (fun j j0 j1 => ?_) (fun _ _ _ => rfl)
        simp only [g2, g3]
        by_cases e : j = hk 73 t
        · rw [if_pos (by omega), if_pos (by omega), e, up1_s, up1_s]; exact ⟨rfl, rfl⟩
        · rw [if_neg (by omega), if_neg (by omega), up1_o e, up1_o e]; exact ⟨rfl, rfl⟩
    · intro hk ⟨i0, kr, k5, k6, kf, kL, kt⟩
      refine vX7_load_38 70 a w t (sz P w) ?_
      simp only [k6]
      refine ⟨by decide +kernel, ⟨by omega, by omega⟩, ⟨by omega, by omega⟩, fun _ => ih hk ⟨by omega, kr, k5, k6, kf, fun t' t0' t1' => ?_⟩, fun c => by omega⟩
      by_cases e : t' = t
      · rw [e]; exact kt
      · exact kL t' t0' (by omega)
    · show LRr _ _ (h7 73 t) 0 p _
      rw [e7, hset_s]
      exact ⟨⟨by omega, by omega⟩, fun i i0 i1 => by omega, fun i j i0 ij j1 => by omega, fun c c0 c1 => by omega⟩
  · intro hh ⟨t0, hr', h5', h6', f', hL'⟩
    refine vX7_load_20 70 a w (tm P) ?_
    simp only [h5']
    exact ⟨by decide +kernel, ⟨by omega, by omega⟩, ⟨by omega, by omega⟩, fun _ => hQ hh ⟨hr', h5', h6', hL'⟩ f', fun c => by omega⟩
theorem rX7_sumsOfLists (hS : SH h p T C M) (hC : 0 ≤ C) (hT : 0 ≤ T ∧ T ≤ 40) (hQ : Q (sms M T.toNat C) G0 h) : R l MX7_sumsOfLists (d + 1) 0 0 [vR 70] G0 h Q := by
  obtain ⟨hr, h5, h6, hL⟩ := hS
  refine eX7_sumsOfLists 70 (vX7_sumsOfLists_0 70 ?_)
  refine lp_up (σ := Int) (fun t s => S l MX7_sumsOfLists (d + 1, 0, 0, 0, 0) 4 [some (vR 70), some (vI s), some (vI t)] [] G0 h Q) (fun t s => 0 ≤ t ∧ s = sms M t.toNat C) T ?_ ?_ 0 0 hT.1 ⟨by omega, rfl⟩
  · intro t s ht ⟨t0, es⟩ ih
    have hl := hL t t0 ht
    have hb := hl.1
    refine vX7_sumsOfLists_4 70 s t ?_
    simp only [h5, hr.2.2.2.1]
    refine ⟨by decide +kernel, ⟨by omega, by omega⟩, ⟨by omega, by omega⟩, fun c => by omega, fun _ => ⟨ia73 t0 (by omega), ⟨by omega, by omega⟩, ih _ ⟨by omega, ?_⟩⟩⟩
    unfold sms
    rw [sm_s t0, es, (lrh_len hC hl).1]
    rfl
  · intro s ⟨t0, es⟩
    refine vX7_sumsOfLists_4 70 s T ?_
    simp only [h5]
    exact ⟨by decide +kernel, ⟨by omega, by omega⟩, ⟨by omega, by omega⟩, fun _ => by rw [es]; exact hQ, fun c => by omega⟩
theorem rX7_plainSums {w : Int} (hg : Gd h p) (hr : HR h) (ha : isP a) (hX : XP h a p P) (hW : WF p P) (w0 : 0 ≤ w) (w3 : w < 3) (hQ : ∀ h', FrH h h' → HR h' → Q (sms (fun t => D p (rw' P (40 * w + t))) (tm P).toNat (sz P w)) G0 h') : R l MX7_plainSums (d + 2) 0 0 [vR 70, vR a, vI w] G0 h Q := by
  have hs := hW.1 w w0 w3
  refine eX7_plainSums 70 a w (vX7_plainSums_0 70 a w ⟨by decide +kernel, rX7_load hg hr ha hX hW w0 w3 (fun h' sh f => ⟨by decide +kernel, rX7_sumsOfLists sh (by omega) hW.2.2.1 (hQ h' f sh.1)⟩)⟩)
end Shr3
