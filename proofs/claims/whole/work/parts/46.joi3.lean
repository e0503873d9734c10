def wth (p : Int) (P Q : PS) : PS := (sz3 (sz P 0 * sz Q 0) (sz P 1 * sz Q 1) (sz P 2 * sz Q 2), (fun k => if k / 9 / sz Q 0 < sz P 0 ∧ k % 9 / sz Q 1 < sz P 1 then pr p (fb P (9 * (k / 9 / sz Q 0) + k % 9 / sz Q 1)) (fb Q (9 * (k / 9 % sz Q 0) + k % 9 % sz Q 1)) (sz Q 2) else 0), tm P * tm Q, fun k => pr p (rw' P (40 * (k / 40) + k % 40 / tm Q)) (rw' Q (40 * (k / 40) + k % 40 % tm Q)) (sz Q (k / 40)))
theorem dm {i a m : Int} (m0 : 0 ≤ m) (m1 : m < a) : (i * a + m) / a = i ∧ (i * a + m) % a = m := by
  have e1 : (i * a + m) / a = i := by rw [Int.add_comm, Int.add_mul_ediv_right _ _ (by omega), Int.ediv_eq_zero_of_lt m0 m1, Int.zero_add]
  have e2 : (i * a + m) % a = m := by rw [Int.add_comm, Int.add_mul_emod_self_right, Int.emod_eq_of_lt m0 m1]
  exact ⟨e1, e2⟩
theorem dm_lt {i a m A : Int} (i0 : 0 ≤ i) (iA : i < A) (m0 : 0 ≤ m) (m1 : m < a) : 0 ≤ i * a + m ∧ i * a + m < A * a := by
  have h1 : (i + 1) * a ≤ A * a := Int.mul_le_mul_of_nonneg_right (by omega) (by omega)
  rw [Int.add_mul, Int.one_mul] at h1
  have h2 := Int.mul_nonneg i0 (show 0 ≤ a by omega)
  omega
theorem dm_eq {x a : Int} (ha : 0 < a) : x = x / a * a + x % a ∧ 0 ≤ x % a ∧ x % a < a := by
  have h1 := Int.emod_add_mul_ediv x a
  rw [Int.mul_comm] at h1
  exact ⟨by omega, Int.emod_nonneg _ (by omega), Int.emod_lt_of_pos _ ha⟩
section Joi3
variable {l : Launch} {d : Nat} {h : HP} {p a b c : Int} {P P2 : PS} {Q : Int → GS → HP → Prop}
theorem pr_sz {x y m n : Int} (hp : okp p) (hm : 0 ≤ m) (hn : 1 ≤ n) (hmn : m * n ≤ 9) (hx : 0 ≤ x ∧ x < PW p m) : 0 ≤ pr p x y n ∧ pr p x y n < PW p (m * n) := by
  have hR := pr_R (x := x) (y := y) (n := n) hp
  refine ⟨hR.1, lt_sz hp hR (Int.mul_nonneg hm (by omega)) hmn (fun i h1 h2 => ?_)⟩
  have h0 := Int.mul_nonneg hm (show 0 ≤ n by omega)
  rw [D_pr hp (by omega) h2, D_sz hp hx (Int.le_ediv_of_mul_le (by omega) h1)]
  simp
theorem sz_m1 {m n : Int} (hm : 1 ≤ m) (hn : 1 ≤ n) : 1 ≤ m * n := by
  have := Int.mul_le_mul hm hn (by decide) (by omega)
  omega
theorem wthR {w t s : Int} (t0 : 0 ≤ t) (tT : t < tm P) (s0 : 0 ≤ s) (sT : s < tm P2) (hT : tm P * tm P2 ≤ 40) : (wth p P P2).2.2.2 (40 * w + (t * tm P2 + s)) = pr p (rw' P (40 * w + t)) (rw' P2 (40 * w + s)) (sz P2 w) := by
  have hb := dm_lt (a := tm P2) t0 tT s0 sT
  have hd := dm (i := t) (a := tm P2) s0 sT
  show pr p (rw' P (40 * ((40 * w + (t * tm P2 + s)) / 40) + (40 * w + (t * tm P2 + s)) % 40 / tm P2)) (rw' P2 (40 * ((40 * w + (t * tm P2 + s)) / 40) + (40 * w + (t * tm P2 + s)) % 40 % tm P2)) (sz P2 ((40 * w + (t * tm P2 + s)) / 40)) = _
  rw [show (40 * w + (t * tm P2 + s)) / 40 = w by omega, show (40 * w + (t * tm P2 + s)) % 40 = t * tm P2 + s by omega, hd.1, hd.2]
theorem WF_wth (hp : okp p) (hW : WF p P) (hV : WF p P2) (hs : ∀ w, 0 ≤ w → w < 3 → sz P w * sz P2 w ≤ 9) (hT : tm P * tm P2 ≤ 40) : WF p (wth p P P2) := by
  have sw : ∀ w, 0 ≤ w → w < 3 → sz (wth p P P2) w = sz P w * sz P2 w := fun w w0 w3 => by
    rcases (show w = 0 ∨ w = 1 ∨ w = 2 by omega) with rfl | rfl | rfl <;> rfl
  have T1 := hW.2.2.1
  have T2 := hV.2.2.1
  have hA := hW.1 0 (by decide) (by decide)
  have hB := hW.1 1 (by decide) (by decide)
  have hC := hW.1 2 (by decide) (by decide)
  have hA' := hV.1 0 (by decide) (by decide)
  have hB' := hV.1 1 (by decide) (by decide)
  have hC' := hV.1 2 (by decide) (by decide)
  refine ⟨fun w w0 w3 => ?_, fun i j i0 i9 j0 j9 => ?_, ⟨Int.mul_nonneg T1.1 T2.1, hT⟩, fun m t m0 m1 t0 t1 => ?_⟩
  · rw [sw w w0 w3]
    exact ⟨sz_m1 (hW.1 w w0 w3).1 (hV.1 w w0 w3).1, hs w w0 w3⟩
  · rw [sw 2 (by decide) (by decide), sw 0 (by decide) (by decide), sw 1 (by decide) (by decide)]
    show 0 ≤ (if (9 * i + j) / 9 / sz P2 0 < sz P 0 ∧ (9 * i + j) % 9 / sz P2 1 < sz P 1 then pr p (fb P (9 * ((9 * i + j) / 9 / sz P2 0) + (9 * i + j) % 9 / sz P2 1)) (fb P2 (9 * ((9 * i + j) / 9 % sz P2 0) + (9 * i + j) % 9 % sz P2 1)) (sz P2 2) else 0) ∧ (if (9 * i + j) / 9 / sz P2 0 < sz P 0 ∧ (9 * i + j) % 9 / sz P2 1 < sz P 1 then pr p (fb P (9 * ((9 * i + j) / 9 / sz P2 0) + (9 * i + j) % 9 / sz P2 1)) (fb P2 (9 * ((9 * i + j) / 9 % sz P2 0) + (9 * i + j) % 9 % sz P2 1)) (sz P2 2) else 0) < PW p (sz P 2 * sz P2 2) ∧ (sz P 0 * sz P2 0 ≤ i ∨ sz P 1 * sz P2 1 ≤ j → (if (9 * i + j) / 9 / sz P2 0 < sz P 0 ∧ (9 * i + j) % 9 / sz P2 1 < sz P 1 then pr p (fb P (9 * ((9 * i + j) / 9 / sz P2 0) + (9 * i + j) % 9 / sz P2 1)) (fb P2 (9 * ((9 * i + j) / 9 % sz P2 0) + (9 * i + j) % 9 % sz P2 1)) (sz P2 2) else 0) = 0)
    rw [(fb_n ⟨j0, j9⟩).1, (fb_n ⟨j0, j9⟩).2]
    by_cases c1 : i / sz P2 0 < sz P 0 ∧ j / sz P2 1 < sz P 1
    · rw [if_pos c1]
      have i1 := Int.ediv_nonneg i0 (show 0 ≤ sz P2 0 by omega)
      have j1 := Int.ediv_nonneg j0 (show 0 ≤ sz P2 1 by omega)
      have q1 := hW.2.1 (i / sz P2 0) (j / sz P2 1) i1 (by omega) j1 (by omega)
      have q2 := pr_sz (y := fb P2 (9 * (i % sz P2 0) + j % sz P2 1)) hp (show 0 ≤ sz P 2 by omega) hC'.1 (hs 2 (by decide) (by decide)) ⟨q1.1, q1.2.1⟩
      refine ⟨q2.1, q2.2, fun z => ?_⟩
      rcases z with z | z
      · have := Int.le_ediv_of_mul_le (show 0 < sz P2 0 by omega) z
        omega
      · have := Int.le_ediv_of_mul_le (show 0 < sz P2 1 by omega) z
        omega
    · rw [if_neg c1]
      exact ⟨by omega, PW_pos (okp_b hp).1 _, fun _ => rfl⟩
  · rw [sw m m0 m1]
    have t1' : t < tm P * tm P2 := t1
    have hpos : 0 < tm P2 := by
      rcases Int.lt_or_eq_of_le T2.1 with z | z
      · exact z
      · rw [← z, Int.mul_zero] at t1'; omega
    have hde := dm_eq (x := t) hpos
    have hlt : t / tm P2 < tm P := Int.ediv_lt_of_lt_mul hpos t1'
    have hnn := Int.ediv_nonneg t0 T2.1
    have e := wthR (p := p) (P := P) (P2 := P2) (w := m) hnn hlt hde.2.1 hde.2.2 hT
    rw [← hde.1] at e
    show 0 ≤ (wth p P P2).2.2.2 (40 * m + t) ∧ (wth p P P2).2.2.2 (40 * m + t) < _
    rw [e]
    exact pr_sz hp (by have := hW.1 m m0 m1; omega) (hV.1 m m0 m1).1 (hs m m0 m1) (hW.2.2.2 m _ m0 m1 hnn hlt)
theorem rX2_rowWithin {t s w : Int} (hg : Gd h p) (ha : isP a) (hb : isP b) (hj : h 44 0 = 1) (hX : XP h a p P) (hW : WF p P) (hY : XP h b p P2) (hV : WF p P2) (w0 : 0 ≤ w) (w3 : w < 3) (t0 : 0 ≤ t) (tT : t < tm P) (s0 : 0 ≤ s) (sT : s < tm P2) (hs : sz P w * sz P2 w ≤ 9) (hQ : Q (pr p (rw' P (40 * w + t)) (rw' P2 (40 * w + s)) (sz P2 w)) G0 h) : R l MX2_rowWithin (d + 2) 0 0 [vR 44, vR a, vI t, vR b, vI s, vI w] G0 h Q := by
  refine eX2_rowWithin 44 a t b s w (vX2_rowWithin_0 44 a t b s w ⟨rfl, (tP ha).1, rX4_rowOf ha hX hW w0 w3 t0 tT ⟨(tP hb).1, rX4_rowOf hb hY hV w0 w3 s0 sT ?_⟩⟩)
  simp only [hj, hY.1.2.1, hY.2.1 w w0 w3]
  exact ⟨(tP hb).1, ia1 hb w0 w3, rfl, rX1_product (d := d) (m := sz P w) hg (hV.1 w w0 w3) (by have := hW.1 w w0 w3; omega) hs (hW.2.2.2 w t w0 w3 t0 tT) (hV.2.2.2 w s w0 w3 s0 sT) hQ⟩
set_option maxHeartbeats 1000000 in
theorem rX2_fillWithin {i j : Int} {s F R9 : Int → Int} (hg : Gd h p) (ha : isP a) (hb : isP b) (hc : isP c) (hac : apart c a) (hbc : apart c b) (hj : h 44 0 = 1) (hX : XP h a p P) (hW : WF p P) (hY : XP h b p P2) (hV : WF p P2) (hs : ∀ w, 0 ≤ w → w < 3 → sz P w * sz P2 w ≤ 9) (hZ : XP h c p (s, F, 0, R9)) (i0 : 0 ≤ i) (iA : i < sz P 0) (j0 : 0 ≤ j) (jB : j < sz P 1) (hQ : ∀ h', XP h' c p (s, (fun k => if k / 9 / sz P2 0 = i ∧ k % 9 / sz P2 1 = j then fb (wth p P P2) k else F k), 0, R9) → FrP c h h' → Q 0 G0 h') : R l MX2_fillWithin (d + 2) 0 0 [vR 44, vR a, vI i, vI j, vR b, vR c] G0 h Q := by
  have hA := hW.1 0 (by decide) (by decide)
  have hB := hW.1 1 (by decide) (by decide)
  have hC := hW.1 2 (by decide) (by decide)
  have hA' := hV.1 0 (by decide) (by decide)
  have hB' := hV.1 1 (by decide) (by decide)
  have hC' := hV.1 2 (by decide) (by decide)
  have hcP := isP_b hc
  have hbP := isP_b hb
  have q0 := hW.2.1 i j i0 (by omega) j0 (by omega)
  have j9 : ∀ hh, FrP c h hh → hh 44 0 = 1 := fun hh f => by rw [f 44 (by omega)]; exact hj
  refine eX2_fillWithin 44 a i j b c (vX2_fillWithin_0 44 a i j b c ⟨(tP ha).1, rX4_fiberAt ha hX i0 (by omega) j0 (by omega) ?_⟩)
  simp only [hY.1.2.1, hY.2.1 0 (by decide) (by decide), hY.2.1 1 (by decide) (by decide)]
  refine ⟨by omega, (tP hb).1, ia1 hb (by decide) (by decide), ia1 hb (by decide) (by decide), ?_⟩
  refine lp_up (σ := HP) (fun m hh => S l MX2_fillWithin (d + 1 + 1, 0, 0, 0, 0) 29 [some (vR 44), none, some (vI i), some (vI j), some (vR b), some (vR c), some (vI (fb P (9 * i + j))), some (vI (sz P2 0)), some (vI (sz P2 1)), some (vI m), none, none] [] G0 hh Q) (fun m hh => 0 ≤ m ∧ XP hh c p (s, (fun k => if (k / 9 / sz P2 0 = i ∧ k % 9 / sz P2 1 = j) ∧ k / 9 % sz P2 0 < m then fb (wth p P P2) k else F k), 0, R9) ∧ FrP c h hh) (sz P2 0) ?_ ?_ 0 h (by omega) ⟨by decide, XP_ext hZ (fun _ _ _ => rfl) (fun k k0 k8 => ?_) rfl (fun _ _ _ _ _ _ => rfl), FrP.rf⟩
  · intro m hh hm ⟨m0, q1, q2⟩ ih
    have hxb := dm_lt (a := sz P2 0) i0 iA m0 hm
    have hxd := dm (i := i) (a := sz P2 0) m0 hm
    have hsA := hs 0 (by decide) (by decide)
    refine vX2_fillWithin_29 44 i j b c _ _ _ m ⟨⟨by omega, by omega⟩, ⟨by omega, by omega⟩, fun z => by omega, fun _ => ?_⟩
    refine lp_up (σ := HP) (fun n hh => S l MX2_fillWithin (d + 1 + 1, 0, 0, 0, 0) 39 [some (vR 44), none, some (vI i), some (vI j), some (vR b), some (vR c), some (vI (fb P (9 * i + j))), some (vI (sz P2 0)), some (vI (sz P2 1)), some (vI m), some (vI n), none] [] G0 hh Q) (fun n hh => 0 ≤ n ∧ XP hh c p (s, (fun k => if (k / 9 / sz P2 0 = i ∧ k % 9 / sz P2 1 = j) ∧ (k / 9 % sz P2 0 < m ∨ k / 9 % sz P2 0 = m ∧ k % 9 % sz P2 1 < n) then fb (wth p P P2) k else F k), 0, R9) ∧ FrP c h hh) (sz P2 1) ?_ ?_ 0 hh (by omega) ⟨by decide, XP_ext q1 (fun _ _ _ => rfl) (fun k k0 k8 => ?_) rfl (fun _ _ _ _ _ _ => rfl), q2⟩
    · intro n hh hn ⟨n0, r1, r2⟩ ih2
      have hYi := hY.fr hbc r2
      have hgh := hg.fr hcP.1 r2
      have hyb := dm_lt (a := sz P2 1) j0 jB n0 hn
      have hyd := dm (i := j) (a := sz P2 1) n0 hn
      have hsB := hs 1 (by decide) (by decide)
      have q3 := hV.2.1 m n m0 (by omega) n0 (by omega)
      refine vX2_fillWithin_39 44 i j b c _ _ _ m n ⟨⟨by omega, by omega⟩, ⟨by omega, by omega⟩, fun z => by omega, fun _ => ⟨rfl, by omega, (tP hb).1, rX4_fiberAt hb hYi m0 (by omega) n0 (by omega) ?_⟩⟩
      simp only [j9 hh r2, hYi.1.2.1, hYi.2.1 2 (by decide) (by decide)]
      refine ⟨by omega, (tP hb).1, ia1 hb (by decide) (by decide), rfl, rX1_product (d := d) (m := sz P 2) hgh hC' (by omega) (hs 2 (by decide) (by decide)) ⟨q0.1, q0.2.1⟩ ⟨q3.1, q3.2.1⟩ ⟨by omega, (tP hc).1, rX4_setFiber hc r1.1.2.2.1 hxb.1 (by omega) hyb.1 (by omega) (ih2 _ ⟨by omega, XP_fib2 r1 (fun k k0 k8 => ?_), r2.tr (FrP.set (by omega) (by omega))⟩)⟩⟩
      by_cases e : k = 9 * (i * sz P2 0 + m) + (j * sz P2 1 + n)
      · have ex : k / 9 = i * sz P2 0 + m := by omega
        have ey : k % 9 = j * sz P2 1 + n := by omega
        rw [if_pos e, ex, ey, hxd.1, hxd.2, hyd.1, hyd.2, if_pos ⟨⟨rfl, rfl⟩, Or.inr ⟨rfl, by omega⟩⟩]
        show (if k / 9 / sz P2 0 < sz P 0 ∧ k % 9 / sz P2 1 < sz P 1 then pr p (fb P (9 * (k / 9 / sz P2 0) + k % 9 / sz P2 1)) (fb P2 (9 * (k / 9 % sz P2 0) + k % 9 % sz P2 1)) (sz P2 2) else 0) = _
        rw [ex, ey, hxd.1, hxd.2, hyd.1, hyd.2, if_pos ⟨iA, jB⟩]
      · rw [if_neg e]
        by_cases e2 : (k / 9 / sz P2 0 = i ∧ k % 9 / sz P2 1 = j) ∧ (k / 9 % sz P2 0 < m ∨ k / 9 % sz P2 0 = m ∧ k % 9 % sz P2 1 < n)
        · rw [if_pos e2, if_pos ⟨e2.1, by omega⟩]
        · rw [if_neg e2, if_neg]
          intro z
          apply e2
          refine ⟨z.1, ?_⟩
          rcases z.2 with z2 | z2
          · exact Or.inl z2
          · refine Or.inr ⟨z2.1, ?_⟩
            have d1 := dm_eq (x := k / 9) (show 0 < sz P2 0 by omega)
            have d2 := dm_eq (x := k % 9) (show 0 < sz P2 1 by omega)
            rw [z.1.1, z2.1] at d1
            rw [z.1.2] at d2
            rcases Int.lt_or_eq_of_le (show k % 9 % sz P2 1 ≤ n by omega) with z3 | z3
            · exact z3
            · exfalso
              rw [z3] at d2
              exact e (by omega)
    · intro hh ⟨n0, r1, r2⟩
      refine vX2_fillWithin_39 44 i j b c _ _ _ m _ ⟨⟨by omega, by omega⟩, ⟨by omega, by omega⟩, fun _ => ih hh ⟨by omega, XP_ext r1 (fun _ _ _ => rfl) (fun k k0 k8 => ?_) rfl (fun _ _ _ _ _ _ => rfl), r2⟩, fun z => by omega⟩
      show (if (k / 9 / sz P2 0 = i ∧ k % 9 / sz P2 1 = j) ∧ (k / 9 % sz P2 0 < m ∨ k / 9 % sz P2 0 = m ∧ k % 9 % sz P2 1 < sz P2 1) then fb (wth p P P2) k else F k) = if (k / 9 / sz P2 0 = i ∧ k % 9 / sz P2 1 = j) ∧ k / 9 % sz P2 0 < m + 1 then fb (wth p P P2) k else F k
      have d2 := dm_eq (x := k % 9) (show 0 < sz P2 1 by omega)
      by_cases e : k / 9 / sz P2 0 = i ∧ k % 9 / sz P2 1 = j
      · by_cases e2 : k / 9 % sz P2 0 < m + 1
        · rw [if_pos ⟨e, by omega⟩, if_pos ⟨e, e2⟩]
        · rw [if_neg (fun z => e2 (by omega)), if_neg (fun z => e2 z.2)]
      · rw [if_neg (fun z => e z.1), if_neg (fun z => e z.1)]
    · show (if (k / 9 / sz P2 0 = i ∧ k % 9 / sz P2 1 = j) ∧ k / 9 % sz P2 0 < m then fb (wth p P P2) k else F k) = if (k / 9 / sz P2 0 = i ∧ k % 9 / sz P2 1 = j) ∧ (k / 9 % sz P2 0 < m ∨ k / 9 % sz P2 0 = m ∧ k % 9 % sz P2 1 < 0) then fb (wth p P P2) k else F k
      have d2 := dm_eq (x := k % 9) (show 0 < sz P2 1 by omega)
      by_cases e : (k / 9 / sz P2 0 = i ∧ k % 9 / sz P2 1 = j) ∧ k / 9 % sz P2 0 < m
      · rw [if_pos e, if_pos ⟨e.1, Or.inl e.2⟩]
      · rw [if_neg e, if_neg (fun z => e ⟨z.1, by omega⟩)]
  · intro hh ⟨m0, q1, q2⟩
    refine vX2_fillWithin_29 44 i j b c _ _ _ _ ⟨⟨by omega, by omega⟩, ⟨by omega, by omega⟩, fun _ => hQ hh (XP_ext q1 (fun _ _ _ => rfl) (fun k k0 k8 => ?_) rfl (fun _ _ _ _ _ _ => rfl)) q2, fun z => by omega⟩
    show (if (k / 9 / sz P2 0 = i ∧ k % 9 / sz P2 1 = j) ∧ k / 9 % sz P2 0 < sz P2 0 then fb (wth p P P2) k else F k) = if k / 9 / sz P2 0 = i ∧ k % 9 / sz P2 1 = j then fb (wth p P P2) k else F k
    have d1 := dm_eq (x := k / 9) (show 0 < sz P2 0 by omega)
    by_cases e : k / 9 / sz P2 0 = i ∧ k % 9 / sz P2 1 = j
    · rw [if_pos ⟨e, d1.2.2⟩, if_pos e]
    · rw [if_neg (fun z => e z.1), if_neg e]
  · show F k = if (k / 9 / sz P2 0 = i ∧ k % 9 / sz P2 1 = j) ∧ k / 9 % sz P2 0 < 0 then fb (wth p P P2) k else F k
    have d1 := dm_eq (x := k / 9) (show 0 < sz P2 0 by omega)
    rw [if_neg (fun z => by omega)]
set_option maxHeartbeats 1000000 in
theorem rX2_putWithin (hg : Gd h p) (ha : isP a) (hb : isP b) (hc : isP c) (hac : apart c a) (hbc : apart c b) (hj : h 44 0 = 1) (hr : Pr h c) (hX : XP h a p P) (hW : WF p P) (hY : XP h b p P2) (hV : WF p P2) (hs : ∀ w, 0 ≤ w → w < 3 → sz P w * sz P2 w ≤ 9) (hT : tm P * tm P2 ≤ 40) (hQ : ∀ h', XP h' c p (wth p P P2) → FrP c h h' → Q 0 G0 h') : R l MX2_putWithin (d + 4) 0 0 [vR 44, vR a, vR b, vR c] G0 h Q := by
  have hA := hW.1 0 (by decide) (by decide)
  have hB := hW.1 1 (by decide) (by decide)
  have hC := hW.1 2 (by decide) (by decide)
  have hA' := hV.1 0 (by decide) (by decide)
  have hB' := hV.1 1 (by decide) (by decide)
  have hC' := hV.1 2 (by decide) (by decide)
  have T1 := hW.2.2.1
  have T2 := hV.2.2.1
  have hcP := isP_b hc
  have hWt := WF_wth hg.1 hW hV hs hT
  have tc := tP hc
  have hp := okp_b hg.1
  have j9 : ∀ hh, FrP c h hh → hh 44 0 = 1 := fun hh f => by rw [f 44 (by omega)]; exact hj
  refine eX2_putWithin 44 a b c (vX2_putWithin_0 44 a b c ?_)
  simp only [hX.1.2.1, hX.2.1 0 (by decide) (by decide), hX.2.1 1 (by decide) (by decide), hX.2.1 2 (by decide) (by decide), hY.1.2.1, hY.2.1 0 (by decide) (by decide), hY.2.1 1 (by decide) (by decide), hY.2.1 2 (by decide) (by decide)]
  refine ⟨(tP ha).1, ia1 ha (by decide) (by decide), (tP hb).1, ia1 hb (by decide) (by decide), ia1 ha (by decide) (by decide), ia1 hb (by decide) (by decide), ia1 ha (by decide) (by decide), ia1 hb (by decide) (by decide), (tP hc).1, rX4_start (d := d + 2) ⟨tc.1, tc.2.1, tc.2.2.1⟩ hr (fun h7 x7 f7 => ?_)⟩
  have times : ∀ hh, XP hh c p ((wth p P P2).1, (wth p P P2).2.1, 0, (wth p P P2).2.2.2) → FrP c h hh → S l MX2_putWithin (d + 3 + 1, 0, 0, 0, 0) 97 [some (vR 44), some (vR a), some (vR b), some (vR c), some (vI 0), none] [] G0 hh Q := by
    intro hh q1 q2
    refine lp_up (σ := HP) (fun t hh => S l MX2_putWithin (d + 3 + 1, 0, 0, 0, 0) 97 [some (vR 44), some (vR a), some (vR b), some (vR c), some (vI t), none] [] G0 hh Q) (fun t hh => 0 ≤ t ∧ XP hh c p ((wth p P P2).1, (wth p P P2).2.1, t * tm P2, (wth p P P2).2.2.2) ∧ FrP c h hh) (tm P) ?_ ?_ 0 hh T1.1 ⟨by decide, by rw [Int.zero_mul]; exact q1, q2⟩
    · intro t hh ht ⟨t0, r1, r2⟩ ih
      have hXa := hX.fr hac r2
      refine vX2_putWithin_97 44 a b c t ?_
      simp only [hXa.2.2.2.1]
      refine ⟨(tP ha).1, ⟨by omega, by omega⟩, ⟨by omega, by omega⟩, fun z => by omega, fun _ => ?_⟩
      refine lp_up (σ := HP) (fun s hh => S l MX2_putWithin (d + 3 + 1, 0, 0, 0, 0) 109 [some (vR 44), some (vR a), some (vR b), some (vR c), some (vI t), some (vI s)] [] G0 hh Q) (fun s hh => 0 ≤ s ∧ XP hh c p ((wth p P P2).1, (wth p P P2).2.1, t * tm P2 + s, (wth p P P2).2.2.2) ∧ FrP c h hh) (tm P2) ?_ ?_ 0 hh T2.1 ⟨by decide, by rw [Int.add_zero]; exact r1, r2⟩
      · intro s hh hs2 ⟨s0, u1, u2⟩ ih2
        have hXi := hX.fr hac u2
        have hYi := hY.fr hbc u2
        have hgh := hg.fr hcP.1 u2
        have jj := j9 hh u2
        have hb2 := dm_lt (a := tm P2) t0 ht s0 hs2
        have e0 := wthR (p := p) (w := 0) t0 ht s0 hs2 hT
        have e1 := wthR (p := p) (w := 1) t0 ht s0 hs2 hT
        have e2 := wthR (p := p) (w := 2) t0 ht s0 hs2 hT
        refine vX2_putWithin_109 44 a b c t s ?_
        simp only [hYi.2.2.2.1]
        refine ⟨(tP hb).1, ⟨by omega, by omega⟩, ⟨by omega, by omega⟩, fun z => by omega, fun _ => ⟨rfl, rX2_rowWithin (d := d + 1) hgh ha hb jj hXi hW hYi hV (by decide) (by decide) t0 ht s0 hs2 (hs 0 (by decide) (by decide)) ⟨rfl, rX2_rowWithin (d := d + 1) hgh ha hb jj hXi hW hYi hV (by decide) (by decide) t0 ht s0 hs2 (hs 1 (by decide) (by decide)) ⟨rfl, rX2_rowWithin (d := d + 1) hgh ha hb jj hXi hW hYi hV (by decide) (by decide) t0 ht s0 hs2 (hs 2 (by decide) (by decide)) ⟨(tP hc).1, ?_⟩⟩⟩⟩⟩
        rw [← e0, ← e1, ← e2]
        refine rX4_append (d := d) hgh hc u1 ⟨hb2.1, by show t * tm P2 + s < 40; omega⟩ (by rw [e0]; exact pr_R hg.1) (by rw [e1]; exact pr_R hg.1) (by rw [e2]; exact pr_R hg.1) (fun h18 q18 f18 _ => ih2 h18 ⟨by omega, ?_, u2.tr f18⟩)
        rw [← Int.add_assoc]
        exact XP_apn ⟨hb2.1, by omega⟩ q18
      · intro hh ⟨s0, u1, u2⟩
        have hYi := hY.fr hbc u2
        refine vX2_putWithin_109 44 a b c t _ ?_
        simp only [hYi.2.2.2.1]
        refine ⟨(tP hb).1, ⟨by omega, by omega⟩, ⟨by omega, by omega⟩, fun _ => ih hh ⟨by omega, ?_, u2⟩, fun z => by omega⟩
        rw [Int.add_mul, Int.one_mul]
        exact u1
    · intro hh ⟨t0, r1, r2⟩
      have hXa := hX.fr hac r2
      refine vX2_putWithin_97 44 a b c _ ?_
      simp only [hXa.2.2.2.1]
      exact ⟨(tP ha).1, ⟨by omega, by omega⟩, ⟨by omega, by omega⟩, fun _ => hQ hh r1 r2, fun z => by omega⟩
  refine lp_up (σ := HP) (fun i hh => S l MX2_putWithin (d + 3 + 1, 0, 0, 0, 0) 46 [some (vR 44), some (vR a), some (vR b), some (vR c), some (vI i), none] [] G0 hh Q) (fun i hh => 0 ≤ i ∧ XP hh c p ((wth p P P2).1, (fun k => if k / 9 / sz P2 0 < i then fb (wth p P P2) k else 0), 0, (wth p P P2).2.2.2) ∧ FrP c h hh) (sz P 0) ?_ ?_ 0 h7 (by omega) ⟨by decide, XP_ext (x7 p (wth p P P2).2.2.2) (fun _ _ _ => rfl) (fun k k0 k1 => ?_) rfl (fun _ _ _ _ _ _ => rfl), f7⟩
  · intro i hh hi ⟨i0, q1, q2⟩ ih
    have hXa := hX.fr hac q2
    refine vX2_putWithin_46 44 a b c i ?_
    simp only [hXa.1.2.1, hXa.2.1 0 (by decide) (by decide)]
    refine ⟨(tP ha).1, ia1 ha (by decide) (by decide), ⟨by omega, by omega⟩, ⟨by omega, by omega⟩, fun z => by omega, fun _ => ?_⟩
    refine lp_up (σ := HP) (fun j hh => S l MX2_putWithin (d + 3 + 1, 0, 0, 0, 0) 60 [some (vR 44), some (vR a), some (vR b), some (vR c), some (vI i), some (vI j)] [] G0 hh Q) (fun j hh => 0 ≤ j ∧ XP hh c p ((wth p P P2).1, (fun k => if k / 9 / sz P2 0 < i ∨ k / 9 / sz P2 0 = i ∧ k % 9 / sz P2 1 < j then fb (wth p P P2) k else 0), 0, (wth p P P2).2.2.2) ∧ FrP c h hh) (sz P 1) ?_ ?_ 0 hh (by omega) ⟨by decide, XP_ext q1 (fun _ _ _ => rfl) (fun k k0 k8 => ?_) rfl (fun _ _ _ _ _ _ => rfl), q2⟩
    · intro j hh hj2 ⟨j0, r1, r2⟩ ih2
      have hXi := hX.fr hac r2
      have hYi := hY.fr hbc r2
      refine vX2_putWithin_60 44 a b c i j ?_
      simp only [hXi.1.2.1, hXi.2.1 1 (by decide) (by decide)]
      refine ⟨(tP ha).1, ia1 ha (by decide) (by decide), ⟨by omega, by omega⟩, ⟨by omega, by omega⟩, fun z => by omega, fun _ => ⟨rfl, rX2_fillWithin (d := d + 1) (hg.fr hcP.1 r2) ha hb hc hac hbc (j9 hh r2) hXi hW hYi hV hs r1 i0 hi j0 hj2 (fun h8 q8 f8 => ih2 h8 ⟨by omega, XP_ext q8 (fun _ _ _ => rfl) (fun k k0 k8 => ?_) rfl (fun _ _ _ _ _ _ => rfl), r2.tr f8⟩)⟩⟩
      show (if k / 9 / sz P2 0 = i ∧ k % 9 / sz P2 1 = j then fb (wth p P P2) k else if k / 9 / sz P2 0 < i ∨ k / 9 / sz P2 0 = i ∧ k % 9 / sz P2 1 < j then fb (wth p P P2) k else 0) = if k / 9 / sz P2 0 < i ∨ k / 9 / sz P2 0 = i ∧ k % 9 / sz P2 1 < j + 1 then fb (wth p P P2) k else 0
      by_cases e : k / 9 / sz P2 0 = i ∧ k % 9 / sz P2 1 = j
      · rw [if_pos e, if_pos (by omega)]
      · rw [if_neg e]
        by_cases e2 : k / 9 / sz P2 0 < i ∨ k / 9 / sz P2 0 = i ∧ k % 9 / sz P2 1 < j
        · rw [if_pos e2, if_pos (by omega)]
        · rw [if_neg e2, if_neg (by omega)]
    · intro hh ⟨j0, r1, r2⟩
      have hXi := hX.fr hac r2
      refine vX2_putWithin_60 44 a b c i _ ?_
      simp only [hXi.1.2.1, hXi.2.1 1 (by decide) (by decide)]
      refine ⟨(tP ha).1, ia1 ha (by decide) (by decide), ⟨by omega, by omega⟩, ⟨by omega, by omega⟩, fun _ => ih hh ⟨by omega, XP_ext r1 (fun _ _ _ => rfl) (fun k k0 k8 => ?_) rfl (fun _ _ _ _ _ _ => rfl), r2⟩, fun z => by omega⟩
      show (if k / 9 / sz P2 0 < i ∨ k / 9 / sz P2 0 = i ∧ k % 9 / sz P2 1 < sz P 1 then fb (wth p P P2) k else 0) = if k / 9 / sz P2 0 < i + 1 then fb (wth p P P2) k else 0
      by_cases e2 : k / 9 / sz P2 0 < i ∨ k / 9 / sz P2 0 = i ∧ k % 9 / sz P2 1 < sz P 1
      · rw [if_pos e2, if_pos (by omega)]
      · rw [if_neg e2]
        by_cases e3 : k / 9 / sz P2 0 < i + 1
        · rw [if_pos e3]
          show 0 = if k / 9 / sz P2 0 < sz P 0 ∧ k % 9 / sz P2 1 < sz P 1 then _ else 0
          rw [if_neg (by omega)]
        · rw [if_neg e3]
    · show (if k / 9 / sz P2 0 < i then fb (wth p P P2) k else 0) = if k / 9 / sz P2 0 < i ∨ k / 9 / sz P2 0 = i ∧ k % 9 / sz P2 1 < 0 then fb (wth p P P2) k else 0
      have hnn := Int.ediv_nonneg (show 0 ≤ k % 9 by omega) (show 0 ≤ sz P2 1 by omega)
      by_cases e : k / 9 / sz P2 0 < i
      · rw [if_pos e, if_pos (Or.inl e)]
      · rw [if_neg e, if_neg (by omega)]
  · intro hh ⟨i0, q1, q2⟩
    have hXa := hX.fr hac q2
    refine vX2_putWithin_46 44 a b c _ ?_
    simp only [hXa.1.2.1, hXa.2.1 0 (by decide) (by decide)]
    refine ⟨(tP ha).1, ia1 ha (by decide) (by decide), ⟨by omega, by omega⟩, ⟨by omega, by omega⟩, fun _ => times hh (XP_ext q1 (fun _ _ _ => rfl) (fun k k0 k8 => ?_) rfl (fun _ _ _ _ _ _ => rfl)) q2, fun z => by omega⟩
    show (if k / 9 / sz P2 0 < sz P 0 then fb (wth p P P2) k else 0) = fb (wth p P P2) k
    by_cases e : k / 9 / sz P2 0 < sz P 0
    · rw [if_pos e]
    · rw [if_neg e]
      show 0 = if k / 9 / sz P2 0 < sz P 0 ∧ k % 9 / sz P2 1 < sz P 1 then _ else 0
      rw [if_neg (by omega)]
  · show (0 : Int) = if k / 9 / sz P2 0 < 0 then fb (wth p P P2) k else 0
    have hnn := Int.ediv_nonneg (show 0 ≤ k / 9 by omega) (show 0 ≤ sz P2 0 by omega)
    rw [if_neg (by omega)]
end Joi3
