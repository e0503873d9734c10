section Joi2
variable {l : Launch} {d : Nat} {h : HP} {p a b c : Int} {P P2 : PS} {Q : Int → GS → HP → Prop}
theorem PW_mul_lt {x m n : Int} (hp : okp p) (h0 : 0 ≤ m) (h1 : 0 ≤ n) (hx : 0 ≤ x ∧ x < PW p n) : 0 ≤ x * PW p m ∧ x * PW p m < PW p (m + n) := by
  have hm := PW_pos (okp_b hp).1 m
  rw [PW_add h0 h1, Int.mul_comm (PW p m)]
  exact ⟨Int.mul_nonneg hx.1 (Int.le_of_lt hm), Int.mul_lt_mul_of_pos_right hx.2 hm⟩
theorem WF_bes (hp : okp p) (hW : WF p P) (hV : WF p P2) (hs : ∀ w, 0 ≤ w → w < 3 → sz P w + sz P2 w ≤ 9) (hT : tm P + tm P2 ≤ 40) : WF p (bes p P P2) := by
  have sw : ∀ w, 0 ≤ w → w < 3 → sz (bes p P P2) w = sz P w + sz P2 w := fun w w0 w3 => by
    rcases (show w = 0 ∨ w = 1 ∨ w = 2 by omega) with rfl | rfl | rfl <;> rfl
  have T1 := hW.2.2.1
  have T2 := hV.2.2.1
  have hA := hW.1 0 (by decide) (by decide)
  have hB := hW.1 1 (by decide) (by decide)
  have hC := hW.1 2 (by decide) (by decide)
  have hA' := hV.1 0 (by decide) (by decide)
  have hB' := hV.1 1 (by decide) (by decide)
  have hC' := hV.1 2 (by decide) (by decide)
  refine ⟨fun w w0 w3 => ?_, fun i j i0 i9 j0 j9 => ?_, ⟨by show 0 ≤ tm P + tm P2; omega, hT⟩, fun m t m0 m1 t0 t1 => ?_⟩
  · rw [sw w w0 w3]
    have h1 := hW.1 w w0 w3
    have h2 := hV.1 w w0 w3
    exact ⟨by omega, hs w w0 w3⟩
  · rw [sw 2 (by decide) (by decide), sw 0 (by decide) (by decide), sw 1 (by decide) (by decide)]
    have q1 := hW.2.1 i j i0 i9 j0 j9
    show 0 ≤ (if (9 * i + j) / 9 < sz P 0 ∧ (9 * i + j) % 9 < sz P 1 then fb P (9 * i + j) else if sz P 0 ≤ (9 * i + j) / 9 ∧ (9 * i + j) / 9 < sz P 0 + sz P2 0 ∧ sz P 1 ≤ (9 * i + j) % 9 ∧ (9 * i + j) % 9 < sz P 1 + sz P2 1 then fb P2 (9 * ((9 * i + j) / 9 - sz P 0) + ((9 * i + j) % 9 - sz P 1)) * PW p (sz P 2) else 0) ∧ (if (9 * i + j) / 9 < sz P 0 ∧ (9 * i + j) % 9 < sz P 1 then fb P (9 * i + j) else if sz P 0 ≤ (9 * i + j) / 9 ∧ (9 * i + j) / 9 < sz P 0 + sz P2 0 ∧ sz P 1 ≤ (9 * i + j) % 9 ∧ (9 * i + j) % 9 < sz P 1 + sz P2 1 then fb P2 (9 * ((9 * i + j) / 9 - sz P 0) + ((9 * i + j) % 9 - sz P 1)) * PW p (sz P 2) else 0) < PW p (sz P 2 + sz P2 2) ∧ (sz P 0 + sz P2 0 ≤ i ∨ sz P 1 + sz P2 1 ≤ j → (if (9 * i + j) / 9 < sz P 0 ∧ (9 * i + j) % 9 < sz P 1 then fb P (9 * i + j) else if sz P 0 ≤ (9 * i + j) / 9 ∧ (9 * i + j) / 9 < sz P 0 + sz P2 0 ∧ sz P 1 ≤ (9 * i + j) % 9 ∧ (9 * i + j) % 9 < sz P 1 + sz P2 1 then fb P2 (9 * ((9 * i + j) / 9 - sz P 0) + ((9 * i + j) % 9 - sz P 1)) * PW p (sz P 2) else 0) = 0)
    rw [(fb_n ⟨j0, j9⟩).1, (fb_n ⟨j0, j9⟩).2]
    by_cases c1 : i < sz P 0 ∧ j < sz P 1
    · rw [if_pos c1]
      exact ⟨q1.1, Int.lt_of_lt_of_le q1.2.1 (PW_le (okp_b hp).1 (by omega)), fun z => by omega⟩
    · rw [if_neg c1]
      by_cases c2 : sz P 0 ≤ i ∧ i < sz P 0 + sz P2 0 ∧ sz P 1 ≤ j ∧ j < sz P 1 + sz P2 1
      · rw [if_pos c2]
        have q2 := hV.2.1 (i - sz P 0) (j - sz P 1) (by omega) (by omega) (by omega) (by omega)
        have q3 := PW_mul_lt (m := sz P 2) hp (by omega) (by omega) ⟨q2.1, q2.2.1⟩
        exact ⟨q3.1, q3.2, fun z => by omega⟩
      · rw [if_neg c2]
        exact ⟨by omega, PW_pos (okp_b hp).1 _, fun _ => rfl⟩
  · rw [sw m m0 m1]
    have t1' : t < tm P + tm P2 := t1
    have hm1 := hW.1 m m0 m1
    have hm2 := hV.1 m m0 m1
    show 0 ≤ (if (40 * m + t) % 40 < tm P then rw' P (40 * m + t) else rw' P2 (40 * ((40 * m + t) / 40) + ((40 * m + t) % 40 - tm P)) * PW p (sz P ((40 * m + t) / 40))) ∧ (if (40 * m + t) % 40 < tm P then rw' P (40 * m + t) else rw' P2 (40 * ((40 * m + t) / 40) + ((40 * m + t) % 40 - tm P)) * PW p (sz P ((40 * m + t) / 40))) < PW p (sz P m + sz P2 m)
    rw [show (40 * m + t) / 40 = m by omega, show (40 * m + t) % 40 = t by omega]
    by_cases c1 : t < tm P
    · rw [if_pos c1]
      have q := hW.2.2.2 m t m0 m1 t0 c1
      exact ⟨q.1, Int.lt_of_lt_of_le q.2 (PW_le (okp_b hp).1 (by omega))⟩
    · rw [if_neg c1]
      exact PW_mul_lt hp (by omega) (by omega) (hV.2.2.2 m (t - tm P) m0 m1 (by omega) (by omega))
theorem besR {w t : Int} (w0 : 0 ≤ w) (w3 : w < 3) (hT : tm P ≤ 40) (t0 : 0 ≤ t) (t1 : t < tm P) : (bes p P P2).2.2.2 (40 * w + t) = rw' P (40 * w + t) := by
  show (if (40 * w + t) % 40 < tm P then rw' P (40 * w + t) else _) = _
  rw [if_pos (by omega)]
theorem besR2 {w t : Int} (w0 : 0 ≤ w) (w3 : w < 3) (h0 : 0 ≤ tm P) (hT : tm P + tm P2 ≤ 40) (t0 : 0 ≤ t) (t1 : t < tm P2) : (bes p P P2).2.2.2 (40 * w + (tm P + t)) = rw' P2 (40 * w + t) * PW p (sz P w) := by
  show (if (40 * w + (tm P + t)) % 40 < tm P then _ else rw' P2 (40 * ((40 * w + (tm P + t)) / 40) + ((40 * w + (tm P + t)) % 40 - tm P)) * PW p (sz P ((40 * w + (tm P + t)) / 40))) = _
  rw [if_neg (by omega), show (40 * w + (tm P + t)) / 40 = w by omega, show (40 * w + (tm P + t)) % 40 - tm P = t by omega]
set_option maxHeartbeats 2000000 in
theorem rX2_putBeside (hg : Gd h p) (ha : isP a) (hb : isP b) (hc : isP c) (hac : apart c a) (hbc : apart c b) (hj : h 44 0 = 1) (hr : Pr h c) (hX : XP h a p P) (hW : WF p P) (hY : XP h b p P2) (hV : WF p P2) (hs : ∀ w, 0 ≤ w → w < 3 → sz P w + sz P2 w ≤ 9) (hT : tm P + tm P2 ≤ 40) (hQ : ∀ h', XP h' c p (bes p P P2) → FrP c h h' → Q 0 G0 h') : R l MX2_putBeside (d + 4) 0 0 [vR 44, vR a, vR b, vR c] G0 h Q := by
  have hA := hW.1 0 (by decide) (by decide)
  have hB := hW.1 1 (by decide) (by decide)
  have hC := hW.1 2 (by decide) (by decide)
  have hA' := hV.1 0 (by decide) (by decide)
  have hB' := hV.1 1 (by decide) (by decide)
  have hC' := hV.1 2 (by decide) (by decide)
  have sA := hs 0 (by decide) (by decide)
  have sB := hs 1 (by decide) (by decide)
  have sC := hs 2 (by decide) (by decide)
  have T1 := hW.2.2.1
  have T2 := hV.2.2.1
  have hcP := isP_b hc
  have hWt := WF_bes hg.1 hW hV hs hT
  have tc := tP hc
  have hp := okp_b hg.1
  have j9 : ∀ hh, FrP c h hh → hh 44 0 = 1 := fun hh f => by rw [f 44 (by omega)]; exact hj
  refine eX2_putBeside 44 a b c (vX2_putBeside_0 44 a b c ?_)
  simp only [hX.1.2.1, hX.2.1 0 (by decide) (by decide), hX.2.1 1 (by decide) (by decide), hX.2.1 2 (by decide) (by decide), hY.1.2.1, hY.2.1 0 (by decide) (by decide), hY.2.1 1 (by decide) (by decide), hY.2.1 2 (by decide) (by decide)]
  refine ⟨(tP ha).1, ia1 ha (by decide) (by decide), ia1 ha (by decide) (by decide), ia1 ha (by decide) (by decide), (tP hb).1, ia1 hb (by decide) (by decide), ia1 hb (by decide) (by decide), ia1 hb (by decide) (by decide), (tP hc).1, rX4_start (d := d + 2) ⟨tc.1, tc.2.1, tc.2.2.1⟩ hr (fun h7 x7 f7 => ?_)⟩
  -- the far one's times
  have farT : ∀ hh, XP hh c p ((bes p P P2).1, (bes p P P2).2.1, tm P, (bes p P P2).2.2.2) → FrP c h hh → S l MX2_putBeside (d + 3 + 1, 0, 0, 0, 0) 222 [some (vR 44), none, some (vR b), some (vR c), some (vI (sz P 0)), some (vI (sz P 1)), some (vI (sz P 2)), some (vI 0), none] [] G0 hh Q := by
    intro hh q1 q2
    refine lp_up (σ := HP) (fun t hh => S l MX2_putBeside (d + 3 + 1, 0, 0, 0, 0) 222 [some (vR 44), none, some (vR b), some (vR c), some (vI (sz P 0)), some (vI (sz P 1)), some (vI (sz P 2)), some (vI t), none] [] G0 hh Q) (fun t hh => 0 ≤ t ∧ XP hh c p ((bes p P P2).1, (bes p P P2).2.1, tm P + t, (bes p P P2).2.2.2) ∧ FrP c h hh) (tm P2) ?_ ?_ 0 hh T2.1 ⟨by decide, by rw [Int.add_zero]; exact q1, q2⟩
    · intro t hh ht ⟨t0, r1, r2⟩ ih
      have hYb := hY.fr hbc r2
      have hgh := hg.fr hcP.1 r2
      have jj := j9 hh r2
      refine vX2_putBeside_222 44 b c _ _ _ t ?_
      simp only [hYb.2.2.2.1]
      refine ⟨(tP hb).1, ⟨by omega, by omega⟩, ⟨by omega, by omega⟩, fun z => by omega, fun _ => rX4_rowOf hb hYb hV (by decide) (by decide) t0 ht ?_⟩
      simp only [jj, hgh.2.2.1]
      refine ⟨rfl, rfl, ⟨rfl, by omega, by show sz P 0 < 10; omega⟩, (tP hb).1, rX4_rowOf hb hYb hV (by decide) (by decide) t0 ht ?_⟩
      simp only [jj, hgh.2.2.1]
      refine ⟨rfl, rfl, ⟨rfl, by omega, by show sz P 1 < 10; omega⟩, (tP hb).1, rX4_rowOf hb hYb hV (by decide) (by decide) t0 ht ?_⟩
      simp only [jj, hgh.2.2.1]
      rw [hgh.2.2.2.2.1 _ (by omega) hA.2, hgh.2.2.2.2.1 _ (by omega) hB.2, hgh.2.2.2.2.1 _ (by omega) hC.2]
      refine ⟨rfl, rfl, ⟨rfl, by omega, by show sz P 2 < 10; omega⟩, (tP hc).1, ?_⟩
      have e0 := besR2 (p := p) (P := P) (P2 := P2) (w := 0) (by decide) (by decide) T1.1 hT t0 ht
      have e1 := besR2 (p := p) (P := P) (P2 := P2) (w := 1) (by decide) (by decide) T1.1 hT t0 ht
      have e2 := besR2 (p := p) (P := P) (P2 := P2) (w := 2) (by decide) (by decide) T1.1 hT t0 ht
      have k0 := PW_mul_lt (m := sz P 0) hg.1 (by omega) (by omega) (hV.2.2.2 0 t (by decide) (by decide) t0 ht)
      have k1 := PW_mul_lt (m := sz P 1) hg.1 (by omega) (by omega) (hV.2.2.2 1 t (by decide) (by decide) t0 ht)
      have k2 := PW_mul_lt (m := sz P 2) hg.1 (by omega) (by omega) (hV.2.2.2 2 t (by decide) (by decide) t0 ht)
      rw [← e0, ← e1, ← e2]
      refine rX4_append (d := d) hgh hc r1 ⟨by show 0 ≤ tm P + t; omega, by show tm P + t < 40; omega⟩ (by rw [e0]; exact ⟨k0.1, Int.lt_of_lt_of_le k0.2 (PW_le hp.1 sA)⟩) (by rw [e1]; exact ⟨k1.1, Int.lt_of_lt_of_le k1.2 (PW_le hp.1 sB)⟩) (by rw [e2]; exact ⟨k2.1, Int.lt_of_lt_of_le k2.2 (PW_le hp.1 sC)⟩) (fun h18 q18 f18 _ => ih h18 ⟨by omega, ?_, r2.tr f18⟩)
      rw [← Int.add_assoc]
      exact XP_apn ⟨by omega, by omega⟩ q18
    · intro hh ⟨t0, r1, r2⟩
      have hYb := hY.fr hbc r2
      refine vX2_putBeside_222 44 b c _ _ _ _ ?_
      simp only [hYb.2.2.2.1]
      exact ⟨(tP hb).1, ⟨by omega, by omega⟩, ⟨by omega, by omega⟩, fun _ => hQ hh r1 r2, fun z => by omega⟩
  -- the near one's times
  have nearT : ∀ hh, XP hh c p ((bes p P P2).1, (bes p P P2).2.1, 0, (bes p P P2).2.2.2) → FrP c h hh → S l MX2_putBeside (d + 3 + 1, 0, 0, 0, 0) 179 [some (vR 44), some (vR a), some (vR b), some (vR c), some (vI (sz P 0)), some (vI (sz P 1)), some (vI (sz P 2)), some (vI 0), none] [] G0 hh Q := by
    intro hh q1 q2
    refine lp_up (σ := HP) (fun t hh => S l MX2_putBeside (d + 3 + 1, 0, 0, 0, 0) 179 [some (vR 44), some (vR a), some (vR b), some (vR c), some (vI (sz P 0)), some (vI (sz P 1)), some (vI (sz P 2)), some (vI t), none] [] G0 hh Q) (fun t hh => 0 ≤ t ∧ XP hh c p ((bes p P P2).1, (bes p P P2).2.1, t, (bes p P P2).2.2.2) ∧ FrP c h hh) (tm P) ?_ ?_ 0 hh T1.1 ⟨by decide, q1, q2⟩
    · intro t hh ht ⟨t0, r1, r2⟩ ih
      have hXa := hX.fr hac r2
      refine vX2_putBeside_179 44 a b c _ _ _ t ?_
      simp only [hXa.2.2.2.1]
      have e0 := besR (p := p) (P := P) (P2 := P2) (w := 0) (by decide) (by decide) T1.2 t0 ht
      have e1 := besR (p := p) (P := P) (P2 := P2) (w := 1) (by decide) (by decide) T1.2 t0 ht
      have e2 := besR (p := p) (P := P) (P2 := P2) (w := 2) (by decide) (by decide) T1.2 t0 ht
      refine ⟨(tP ha).1, ⟨by omega, by omega⟩, ⟨by omega, by omega⟩, fun z => by omega, fun _ => rX4_rowOf ha hXa hW (by decide) (by decide) t0 ht ⟨(tP ha).1, rX4_rowOf ha hXa hW (by decide) (by decide) t0 ht ⟨(tP ha).1, rX4_rowOf ha hXa hW (by decide) (by decide) t0 ht ⟨(tP hc).1, ?_⟩⟩⟩⟩
      rw [← e0, ← e1, ← e2]
      exact rX4_append (d := d) (hg.fr hcP.1 r2) hc r1 ⟨t0, by show t < 40; omega⟩ (by rw [e0]; exact rowR hg.1 hW (by decide) (by decide) t0 ht) (by rw [e1]; exact rowR hg.1 hW (by decide) (by decide) t0 ht) (by rw [e2]; exact rowR hg.1 hW (by decide) (by decide) t0 ht) (fun h18 q18 f18 _ => ih h18 ⟨by omega, XP_apn ⟨t0, by omega⟩ q18, r2.tr f18⟩)
    · intro hh ⟨t0, r1, r2⟩
      have hXa := hX.fr hac r2
      refine vX2_putBeside_179 44 a b c _ _ _ _ ?_
      simp only [hXa.2.2.2.1]
      exact ⟨(tP ha).1, ⟨by omega, by omega⟩, ⟨by omega, by omega⟩, fun _ => farT hh r1 r2, fun z => by omega⟩
  -- the far one's box
  have farB : ∀ hh, XP hh c p ((bes p P P2).1, (fun k => if k / 9 < sz P 0 ∧ k % 9 < sz P 1 then fb P k else 0), 0, (bes p P P2).2.2.2) → FrP c h hh → S l MX2_putBeside (d + 3 + 1, 0, 0, 0, 0) 106 [some (vR 44), some (vR a), some (vR b), some (vR c), some (vI (sz P 0)), some (vI (sz P 1)), some (vI (sz P 2)), some (vI 0), none] [] G0 hh Q := by
    intro hh q1 q2
    refine lp_up (σ := HP) (fun i hh => S l MX2_putBeside (d + 3 + 1, 0, 0, 0, 0) 106 [some (vR 44), some (vR a), some (vR b), some (vR c), some (vI (sz P 0)), some (vI (sz P 1)), some (vI (sz P 2)), some (vI i), none] [] G0 hh Q) (fun i hh => 0 ≤ i ∧ XP hh c p ((bes p P P2).1, (fun k => if k / 9 < sz P 0 + i then fb (bes p P P2) k else 0), 0, (bes p P P2).2.2.2) ∧ FrP c h hh) (sz P2 0) ?_ ?_ 0 hh (by omega) ⟨by decide, XP_ext q1 (fun _ _ _ => rfl) (fun k k0 k8 => ?_) rfl (fun _ _ _ _ _ _ => rfl), q2⟩
    · intro i hh hi ⟨i0, r1, r2⟩ ih
      have hYb := hY.fr hbc r2
      refine vX2_putBeside_106 44 a b c _ _ _ i ?_
      simp only [hYb.1.2.1, hYb.2.1 0 (by decide) (by decide)]
      refine ⟨(tP hb).1, ia1 hb (by decide) (by decide), ⟨by omega, by omega⟩, ⟨by omega, by omega⟩, fun z => by omega, fun _ => ?_⟩
      refine lp_up (σ := HP) (fun j hh => S l MX2_putBeside (d + 3 + 1, 0, 0, 0, 0) 120 [some (vR 44), some (vR a), some (vR b), some (vR c), some (vI (sz P 0)), some (vI (sz P 1)), some (vI (sz P 2)), some (vI i), some (vI j)] [] G0 hh Q) (fun j hh => 0 ≤ j ∧ XP hh c p ((bes p P P2).1, (fun k => if k / 9 < sz P 0 + i ∨ k / 9 = sz P 0 + i ∧ k % 9 < sz P 1 + j then fb (bes p P P2) k else 0), 0, (bes p P P2).2.2.2) ∧ FrP c h hh) (sz P2 1) ?_ ?_ 0 hh (by omega) ⟨by decide, XP_ext r1 (fun _ _ _ => rfl) (fun k k0 k8 => ?_) rfl (fun _ _ _ _ _ _ => rfl), r2⟩
      · intro j hh hj ⟨j0, s1, s2⟩ ih2
        have hYi := hY.fr hbc s2
        have hgh := hg.fr hcP.1 s2
        have jj := j9 hh s2
        refine vX2_putBeside_120 44 a b c _ _ _ i j ?_
        simp only [hYi.1.2.1, hYi.2.1 1 (by decide) (by decide)]
        refine ⟨(tP hb).1, ia1 hb (by decide) (by decide), ⟨by omega, by omega⟩, ⟨by omega, by omega⟩, fun z => by omega, fun _ => rX4_fiberAt hb hYi i0 (by omega) j0 (by omega) ?_⟩
        simp only [jj, hgh.2.2.1]
        rw [hgh.2.2.2.2.1 _ (by omega) hC.2]
        refine ⟨rfl, rfl, ⟨rfl, by omega, by show sz P 2 < 10; omega⟩, (tP hc).1, rX4_setFiber hc s1.1.2.2.1 (by omega) (by omega) (by omega) (by omega) (ih2 _ ⟨by omega, XP_fib2 s1 (fun k k0 k8 => ?_), s2.tr (FrP.set (by omega) (by omega))⟩)⟩
        by_cases e : k = 9 * (sz P 0 + i) + (sz P 1 + j)
        · rw [if_pos e, if_pos (by omega)]
          show (if k / 9 < sz P 0 ∧ k % 9 < sz P 1 then fb P k else if sz P 0 ≤ k / 9 ∧ k / 9 < sz P 0 + sz P2 0 ∧ sz P 1 ≤ k % 9 ∧ k % 9 < sz P 1 + sz P2 1 then fb P2 (9 * (k / 9 - sz P 0) + (k % 9 - sz P 1)) * PW p (sz P 2) else 0) = _
          rw [if_neg (by omega), if_pos (by omega), show k / 9 - sz P 0 = i by omega, show k % 9 - sz P 1 = j by omega]
        · rw [if_neg e]
          by_cases e2 : k / 9 < sz P 0 + i ∨ k / 9 = sz P 0 + i ∧ k % 9 < sz P 1 + j
          · rw [if_pos e2, if_pos (by omega)]
          · rw [if_neg e2, if_neg (by omega)]
      · intro hh ⟨j0, s1, s2⟩
        have hYi := hY.fr hbc s2
        refine vX2_putBeside_120 44 a b c _ _ _ i _ ?_
        simp only [hYi.1.2.1, hYi.2.1 1 (by decide) (by decide)]
        refine ⟨(tP hb).1, ia1 hb (by decide) (by decide), ⟨by omega, by omega⟩, ⟨by omega, by omega⟩, fun _ => ih hh ⟨by omega, XP_ext s1 (fun _ _ _ => rfl) (fun k k0 k8 => ?_) rfl (fun _ _ _ _ _ _ => rfl), s2⟩, fun z => by omega⟩
        show (if k / 9 < sz P 0 + i ∨ k / 9 = sz P 0 + i ∧ k % 9 < sz P 1 + sz P2 1 then fb (bes p P P2) k else 0) = if k / 9 < sz P 0 + (i + 1) then fb (bes p P P2) k else 0
        by_cases e2 : k / 9 < sz P 0 + i ∨ k / 9 = sz P 0 + i ∧ k % 9 < sz P 1 + sz P2 1
        · rw [if_pos e2, if_pos (by omega)]
        · rw [if_neg e2]
          by_cases e3 : k / 9 < sz P 0 + (i + 1)
          · rw [if_pos e3]
            show 0 = (if k / 9 < sz P 0 ∧ k % 9 < sz P 1 then fb P k else if sz P 0 ≤ k / 9 ∧ k / 9 < sz P 0 + sz P2 0 ∧ sz P 1 ≤ k % 9 ∧ k % 9 < sz P 1 + sz P2 1 then fb P2 (9 * (k / 9 - sz P 0) + (k % 9 - sz P 1)) * PW p (sz P 2) else 0)
            rw [if_neg (by omega), if_neg (by omega)]
          · rw [if_neg e3]
      · show (if k / 9 < sz P 0 + i then fb (bes p P P2) k else 0) = if k / 9 < sz P 0 + i ∨ k / 9 = sz P 0 + i ∧ k % 9 < sz P 1 + 0 then fb (bes p P P2) k else 0
        by_cases e : k / 9 < sz P 0 + i
        · rw [if_pos e, if_pos (Or.inl e)]
        · rw [if_neg e]
          by_cases e2 : k / 9 < sz P 0 + i ∨ k / 9 = sz P 0 + i ∧ k % 9 < sz P 1 + 0
          · rw [if_pos e2]
            show 0 = (if k / 9 < sz P 0 ∧ k % 9 < sz P 1 then fb P k else if sz P 0 ≤ k / 9 ∧ k / 9 < sz P 0 + sz P2 0 ∧ sz P 1 ≤ k % 9 ∧ k % 9 < sz P 1 + sz P2 1 then fb P2 (9 * (k / 9 - sz P 0) + (k % 9 - sz P 1)) * PW p (sz P 2) else 0)
            rw [if_neg (by omega), if_neg (by omega)]
          · rw [if_neg e2]
    · intro hh ⟨i0, r1, r2⟩
      have hYb := hY.fr hbc r2
      refine vX2_putBeside_106 44 a b c _ _ _ _ ?_
      simp only [hYb.1.2.1, hYb.2.1 0 (by decide) (by decide)]
      refine ⟨(tP hb).1, ia1 hb (by decide) (by decide), ⟨by omega, by omega⟩, ⟨by omega, by omega⟩, fun _ => nearT hh (XP_ext r1 (fun _ _ _ => rfl) (fun k k0 k8 => ?_) rfl (fun _ _ _ _ _ _ => rfl)) r2, fun z => by omega⟩
      show (if k / 9 < sz P 0 + sz P2 0 then fb (bes p P P2) k else 0) = fb (bes p P P2) k
      by_cases e : k / 9 < sz P 0 + sz P2 0
      · rw [if_pos e]
      · rw [if_neg e]
        show 0 = (if k / 9 < sz P 0 ∧ k % 9 < sz P 1 then fb P k else if sz P 0 ≤ k / 9 ∧ k / 9 < sz P 0 + sz P2 0 ∧ sz P 1 ≤ k % 9 ∧ k % 9 < sz P 1 + sz P2 1 then fb P2 (9 * (k / 9 - sz P 0) + (k % 9 - sz P 1)) * PW p (sz P 2) else 0)
        rw [if_neg (by omega), if_neg (by omega)]
    · show (if k / 9 < sz P 0 ∧ k % 9 < sz P 1 then fb P k else 0) = if k / 9 < sz P 0 + 0 then fb (bes p P P2) k else 0
      by_cases e : k / 9 < sz P 0 + 0
      · rw [if_pos e]
        show _ = (if k / 9 < sz P 0 ∧ k % 9 < sz P 1 then fb P k else if sz P 0 ≤ k / 9 ∧ k / 9 < sz P 0 + sz P2 0 ∧ sz P 1 ≤ k % 9 ∧ k % 9 < sz P 1 + sz P2 1 then fb P2 (9 * (k / 9 - sz P 0) + (k % 9 - sz P 1)) * PW p (sz P 2) else 0)
        by_cases e2 : k / 9 < sz P 0 ∧ k % 9 < sz P 1
        · rw [if_pos e2, if_pos e2]
        · rw [if_neg e2, if_neg e2, if_neg (by omega)]
      · rw [if_neg e, if_neg (by omega)]
  refine lp_up (σ := HP) (fun i hh => S l MX2_putBeside (d + 3 + 1, 0, 0, 0, 0) 58 [some (vR 44), some (vR a), some (vR b), some (vR c), some (vI (sz P 0)), some (vI (sz P 1)), some (vI (sz P 2)), some (vI i), none] [] G0 hh Q) (fun i hh => 0 ≤ i ∧ XP hh c p ((bes p P P2).1, (fun k => if k / 9 < i ∧ k % 9 < sz P 1 then fb P k else 0), 0, (bes p P P2).2.2.2) ∧ FrP c h hh) (sz P 0) ?_ ?_ 0 h7 (by omega) ⟨by decide, XP_ext (x7 p (bes p P P2).2.2.2) (fun _ _ _ => rfl) (fun k k0 k1 => by show (0 : Int) = if k / 9 < 0 ∧ k % 9 < sz P 1 then _ else 0; rw [if_neg (by omega)]) rfl (fun _ _ _ _ _ _ => rfl), f7⟩
  · intro i hh hi ⟨i0, q1, q2⟩ ih
    refine vX2_putBeside_58 44 a b c _ _ _ i ⟨⟨by omega, by omega⟩, ⟨by omega, by omega⟩, fun z => by omega, fun _ => ?_⟩
    refine lp_up (σ := HP) (fun j hh => S l MX2_putBeside (d + 3 + 1, 0, 0, 0, 0) 68 [some (vR 44), some (vR a), some (vR b), some (vR c), some (vI (sz P 0)), some (vI (sz P 1)), some (vI (sz P 2)), some (vI i), some (vI j)] [] G0 hh Q) (fun j hh => 0 ≤ j ∧ XP hh c p ((bes p P P2).1, (fun k => if (k / 9 < i ∧ k % 9 < sz P 1) ∨ k / 9 = i ∧ k % 9 < j then fb P k else 0), 0, (bes p P P2).2.2.2) ∧ FrP c h hh) (sz P 1) ?_ ?_ 0 hh (by omega) ⟨by decide, XP_ext q1 (fun _ _ _ => rfl) (fun k k0 k8 => ?_) rfl (fun _ _ _ _ _ _ => rfl), q2⟩
    · intro j hh hj ⟨j0, r1, r2⟩ ih2
      have hXi := hX.fr hac r2
      refine vX2_putBeside_68 44 a b c _ _ _ i j ⟨⟨by omega, by omega⟩, ⟨by omega, by omega⟩, fun z => by omega, fun _ => ⟨(tP ha).1, rX4_fiberAt ha hXi i0 (by omega) j0 (by omega) ⟨(tP hc).1, rX4_setFiber hc r1.1.2.2.1 i0 (by omega) j0 (by omega) (ih2 _ ⟨by omega, XP_fib2 r1 (fun k k0 k8 => ?_), r2.tr (FrP.set (by omega) (by omega))⟩)⟩⟩⟩
      by_cases e : k = 9 * i + j
      · rw [if_pos e, if_pos (by omega), e]
      · rw [if_neg e]
        by_cases e2 : (k / 9 < i ∧ k % 9 < sz P 1) ∨ k / 9 = i ∧ k % 9 < j
        · rw [if_pos e2, if_pos (by omega)]
        · rw [if_neg e2, if_neg (by omega)]
    · intro hh ⟨j0, r1, r2⟩
      refine vX2_putBeside_68 44 a b c _ _ _ i _ ⟨⟨by omega, by omega⟩, ⟨by omega, by omega⟩, fun _ => ih hh ⟨by omega, XP_ext r1 (fun _ _ _ => rfl) (fun k k0 k8 => ?_) rfl (fun _ _ _ _ _ _ => rfl), r2⟩, fun z => by omega⟩
      show (if (k / 9 < i ∧ k % 9 < sz P 1) ∨ k / 9 = i ∧ k % 9 < sz P 1 then fb P k else 0) = if k / 9 < i + 1 ∧ k % 9 < sz P 1 then fb P k else 0
      by_cases e2 : (k / 9 < i ∧ k % 9 < sz P 1) ∨ k / 9 = i ∧ k % 9 < sz P 1
      · rw [if_pos e2, if_pos (by omega)]
      · rw [if_neg e2, if_neg (by omega)]
    · show (if k / 9 < i ∧ k % 9 < sz P 1 then fb P k else 0) = if (k / 9 < i ∧ k % 9 < sz P 1) ∨ k / 9 = i ∧ k % 9 < 0 then fb P k else 0
      by_cases e : k / 9 < i ∧ k % 9 < sz P 1
      · rw [if_pos e, if_pos (Or.inl e)]
      · rw [if_neg e, if_neg (by omega)]
  · intro hh ⟨i0, q1, q2⟩
    exact vX2_putBeside_58 44 a b c _ _ _ _ ⟨⟨by omega, by omega⟩, ⟨by omega, by omega⟩, fun _ => farB hh q1 q2, fun z => by omega⟩
end Joi2
