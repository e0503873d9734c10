def apart (a b : Int) : Prop := b + 5 < a ∨ a + 5 < b
def trd (p : Int) (P : PS) : PS := (sz3 (sz P 1) (sz P 2) (sz P 0), (fun k => if k / 9 < sz P 1 ∧ k % 9 < sz P 2 then lin p P 0 (k / 9) (k % 9) else 0), tm P, fun k => rw' P (40 * ((k / 40 + 1) % 3) + k % 40))
def bes (p : Int) (P Q : PS) : PS := (sz3 (sz P 0 + sz Q 0) (sz P 1 + sz Q 1) (sz P 2 + sz Q 2), (fun k => if k / 9 < sz P 0 ∧ k % 9 < sz P 1 then fb P k else if sz P 0 ≤ k / 9 ∧ k / 9 < sz P 0 + sz Q 0 ∧ sz P 1 ≤ k % 9 ∧ k % 9 < sz P 1 + sz Q 1 then fb Q (9 * (k / 9 - sz P 0) + (k % 9 - sz P 1)) * PW p (sz P 2) else 0), tm P + tm Q, fun k => if k % 40 < tm P then rw' P k else rw' Q (40 * (k / 40) + (k % 40 - tm P)) * PW p (sz P (k / 40)))
section Joi
variable {l : Launch} {d : Nat} {h : HP} {p a b c : Int} {P P2 : PS} {Q : Int → GS → HP → Prop}
theorem XP_apn {s F R : Int → Int} {n : Int} (n0 : 0 ≤ n ∧ n < 40) (hX : XP h a p (apn (s, F, n, R) (R (40 * 0 + n)) (R (40 * 1 + n)) (R (40 * 2 + n)))) : XP h a p (s, F, n + 1, R) := by
  refine XP_ext hX (fun _ _ _ => rfl) (fun _ _ _ => rfl) rfl (fun m t m0 m1 t0 t1 => ?_)
  have t1' : t < n + 1 := t1
  show up1 (up1 (up1 R (40 * 0 + n) (R (40 * 0 + n))) (40 * 1 + n) (R (40 * 1 + n))) (40 * 2 + n) (R (40 * 2 + n)) (40 * m + t) = R (40 * m + t)
  unfold up1
  by_cases c2 : 40 * m + t = 40 * 2 + n
  · rw [if_pos c2, c2]
  · rw [if_neg c2]
    by_cases c1 : 40 * m + t = 40 * 1 + n
    · rw [if_pos c1, c1]
    · rw [if_neg c1]
      by_cases c0 : 40 * m + t = 40 * 0 + n
      · rw [if_pos c0, c0]
      · rw [if_neg c0]
theorem XP_fib2 {s F R : Int → Int} {n i j x : Int} {F' : Int → Int} (hX : XP h a p (s, F, n, R)) (hF : ∀ k, 0 ≤ k → k < 81 → F' k = if k = 9 * i + j then x else F k) : XP (hset h (a + 2) (9 * i + j) x) a p (s, F', n, R) := by
  refine XP_ext (XP_fib hX) (fun _ _ _ => rfl) (fun k k0 k1 => ?_) rfl (fun _ _ _ _ _ _ => rfl)
  rw [show fb (s, F', n, R) k = F' k from rfl, hF k k0 k1]
  rfl
theorem sz3_0 {x y z : Int} : sz3 x y z 0 = x := rfl
theorem sz3_1 {x y z : Int} : sz3 x y z 1 = y := rfl
theorem sz3_2 {x y z : Int} : sz3 x y z 2 = z := rfl
theorem lin_sz {m n : Int} (hp : okp p) (hW : WF p P) : 0 ≤ lin p P 0 m n ∧ lin p P 0 m n < PW p (sz P 0) := by
  unfold lin
  rw [if_neg (by decide)]
  have hA := hW.1 0 (by decide) (by decide)
  have := en_b (f := fun l => if (0 : Int) = 0 then D p (fb P (9 * l + m)) n else D p (fb P (9 * m + l)) n) (okp_b hp).1 (sz P 0).toNat (fun i _ _ => by rw [if_pos rfl]; exact D_D hp)
  rw [Int.toNat_of_nonneg (by omega)] at this
  exact this
theorem WF_trd (hp : okp p) (hW : WF p P) : WF p (trd p P) := by
  have hA := hW.1 0 (by decide) (by decide)
  have hB := hW.1 1 (by decide) (by decide)
  have hC := hW.1 2 (by decide) (by decide)
  refine ⟨fun w w0 w3 => ?_, fun i j i0 i9 j0 j9 => ?_, hW.2.2.1, fun m t m0 m1 t0 t1 => ?_⟩
  · show 1 ≤ sz3 (sz P 1) (sz P 2) (sz P 0) w ∧ sz3 (sz P 1) (sz P 2) (sz P 0) w ≤ 9
    rcases (show w = 0 ∨ w = 1 ∨ w = 2 by omega) with rfl | rfl | rfl
    · exact hB
    · exact hC
    · exact hA
  · show 0 ≤ (if (9 * i + j) / 9 < sz P 1 ∧ (9 * i + j) % 9 < sz P 2 then lin p P 0 ((9 * i + j) / 9) ((9 * i + j) % 9) else 0) ∧ (if (9 * i + j) / 9 < sz P 1 ∧ (9 * i + j) % 9 < sz P 2 then lin p P 0 ((9 * i + j) / 9) ((9 * i + j) % 9) else 0) < PW p (sz P 0) ∧ (sz P 1 ≤ i ∨ sz P 2 ≤ j → (if (9 * i + j) / 9 < sz P 1 ∧ (9 * i + j) % 9 < sz P 2 then lin p P 0 ((9 * i + j) / 9) ((9 * i + j) % 9) else 0) = 0)
    by_cases c : (9 * i + j) / 9 < sz P 1 ∧ (9 * i + j) % 9 < sz P 2
    · rw [if_pos c]
      have := lin_sz (m := (9 * i + j) / 9) (n := (9 * i + j) % 9) hp hW
      exact ⟨this.1, this.2, fun z => by omega⟩
    · rw [if_neg c]
      exact ⟨by omega, PW_pos (okp_b hp).1 _, fun _ => rfl⟩
  · have t1' : t < tm P := t1
    show 0 ≤ rw' P (40 * (((40 * m + t) / 40 + 1) % 3) + (40 * m + t) % 40) ∧ rw' P (40 * (((40 * m + t) / 40 + 1) % 3) + (40 * m + t) % 40) < PW p (sz3 (sz P 1) (sz P 2) (sz P 0) m)
    have hT := hW.2.2.1
    rw [show (40 * m + t) / 40 = m by omega, show (40 * m + t) % 40 = t by omega]
    rcases (show m = 0 ∨ m = 1 ∨ m = 2 by omega) with rfl | rfl | rfl
    · exact hW.2.2.2 1 t (by decide) (by decide) t0 t1'
    · exact hW.2.2.2 2 t (by decide) (by decide) t0 t1'
    · exact hW.2.2.2 0 t (by decide) (by decide) t0 t1'
set_option maxHeartbeats 1000000 in
theorem rX2_turnRound (hg : Gd h p) (ha : isP a) (hc : isP c) (hac : apart c a) (hr : Pr h c) (hX : XP h a p P) (hW : WF p P) (hQ : ∀ h', XP h' c p (trd p P) → FrP c h h' → Q 0 G0 h') : R l MX2_turnRound (d + 4) 0 0 [vR 44, vR a, vR c] G0 h Q := by
  have hA := hW.1 0 (by decide) (by decide)
  have hB := hW.1 1 (by decide) (by decide)
  have hC := hW.1 2 (by decide) (by decide)
  have hT := hW.2.2.1
  have hcP := isP_b hc
  have hWt := WF_trd hg.1 hW
  have tc := tP hc
  refine eX2_turnRound 44 a c (vX2_turnRound_0 44 a c ?_)
  simp only [hX.1.2.1, hX.2.1 0 (by decide) (by decide), hX.2.1 1 (by decide) (by decide), hX.2.1 2 (by decide) (by decide)]
  refine ⟨(tP ha).1, ia1 ha (by decide) (by decide), ia1 ha (by decide) (by decide), ia1 ha (by decide) (by decide), (tP hc).1, rX4_start (d := d + 2) ⟨tc.1, tc.2.1, tc.2.2.1⟩ hr (fun h7 x7 f7 => ?_)⟩
  -- the times
  have times : ∀ hh, XP hh c p ((trd p P).1, (trd p P).2.1, 0, (trd p P).2.2.2) → FrP c h hh → S l MX2_turnRound (d + 3 + 1, 0, 0, 0, 0) 77 [none, some (vR a), some (vR c), some (vI 0), none] [] G0 hh Q := by
    intro hh q1 q2
    refine lp_up (σ := HP) (fun t hh => S l MX2_turnRound (d + 3 + 1, 0, 0, 0, 0) 77 [none, some (vR a), some (vR c), some (vI t), none] [] G0 hh Q) (fun t hh => 0 ≤ t ∧ XP hh c p ((trd p P).1, (trd p P).2.1, t, (trd p P).2.2.2) ∧ FrP c h hh) (tm P) ?_ ?_ 0 hh hT.1 ⟨by decide, q1, q2⟩
    · intro t hh ht ⟨t0, r1, r2⟩ ih
      have hXa := hX.fr hac r2
      refine vX2_turnRound_77 a c t ?_
      simp only [hXa.2.2.2.1]
      refine ⟨(tP ha).1, ⟨by omega, by omega⟩, ⟨by omega, by omega⟩, fun z => by omega, fun _ => rX4_rowOf ha hXa hW (by decide) (by decide) t0 ht ⟨(tP ha).1, rX4_rowOf ha hXa hW (by decide) (by decide) t0 ht ⟨(tP ha).1, rX4_rowOf ha hXa hW (by decide) (by decide) t0 ht ⟨(tP hc).1, ?_⟩⟩⟩⟩
      have e0 : (trd p P).2.2.2 (40 * 0 + t) = rw' P (40 * 1 + t) := by
        show rw' P (40 * (((40 * 0 + t) / 40 + 1) % 3) + (40 * 0 + t) % 40) = _
        rw [show (40 * 0 + t) / 40 = 0 by omega, show (40 * 0 + t) % 40 = t by omega]; rfl
      have e1 : (trd p P).2.2.2 (40 * 1 + t) = rw' P (40 * 2 + t) := by
        show rw' P (40 * (((40 * 1 + t) / 40 + 1) % 3) + (40 * 1 + t) % 40) = _
        rw [show (40 * 1 + t) / 40 = 1 by omega, show (40 * 1 + t) % 40 = t by omega]; rfl
      have e2 : (trd p P).2.2.2 (40 * 2 + t) = rw' P (40 * 0 + t) := by
        show rw' P (40 * (((40 * 2 + t) / 40 + 1) % 3) + (40 * 2 + t) % 40) = _
        rw [show (40 * 2 + t) / 40 = 2 by omega, show (40 * 2 + t) % 40 = t by omega]; rfl
      rw [← e0, ← e1, ← e2]
      have R1 := rowR hg.1 hW (show (0 : Int) ≤ 1 by decide) (by decide) t0 ht
      have R2 := rowR hg.1 hW (show (0 : Int) ≤ 2 by decide) (by decide) t0 ht
      have R0' := rowR hg.1 hW (show (0 : Int) ≤ 0 by decide) (by decide) t0 ht
      refine rX4_append (d := d) (hg.fr hcP.1 r2) hc r1 ⟨t0, by show t < 40; omega⟩ (by rw [e0]; exact R1) (by rw [e1]; exact R2) (by rw [e2]; exact R0') (fun h18 q18 f18 _ => ih h18 ⟨by omega, XP_apn ⟨t0, by omega⟩ q18, r2.tr f18⟩)
    · intro hh ⟨t0, r1, r2⟩
      have hXa := hX.fr hac r2
      refine vX2_turnRound_77 a c _ ?_
      simp only [hXa.2.2.2.1]
      exact ⟨(tP ha).1, ⟨by omega, by omega⟩, ⟨by omega, by omega⟩, fun _ => hQ hh r1 r2, fun z => by omega⟩
  refine lp_up (σ := HP) (fun j hh => S l MX2_turnRound (d + 3 + 1, 0, 0, 0, 0) 24 [none, some (vR a), some (vR c), some (vI j), none] [] G0 hh Q) (fun j hh => 0 ≤ j ∧ XP hh c p ((trd p P).1, (fun q => if q / 9 < j then fb (trd p P) q else 0), 0, (trd p P).2.2.2) ∧ FrP c h hh) (sz P 1) ?_ ?_ 0 h7 (by omega) ⟨by decide, XP_ext (x7 p (trd p P).2.2.2) (fun _ _ _ => rfl) (fun k k0 k1 => by show (0 : Int) = if k / 9 < 0 then _ else 0; rw [if_neg (by omega)]) rfl (fun _ _ _ _ _ _ => rfl), f7⟩
  · intro j hh hj ⟨j0, q1, q2⟩ ih
    have hXa := hX.fr hac q2
    refine vX2_turnRound_24 a c j ?_
    simp only [hXa.1.2.1, hXa.2.1 1 (by decide) (by decide)]
    refine ⟨(tP ha).1, ia1 ha (by decide) (by decide), ⟨by omega, by omega⟩, ⟨by omega, by omega⟩, fun z => by omega, fun _ => ?_⟩
    refine lp_up (σ := HP) (fun k hh => S l MX2_turnRound (d + 3 + 1, 0, 0, 0, 0) 37 [none, some (vR a), some (vR c), some (vI j), some (vI k)] [] G0 hh Q) (fun k hh => 0 ≤ k ∧ XP hh c p ((trd p P).1, (fun q => if q / 9 < j ∨ q / 9 = j ∧ q % 9 < k then fb (trd p P) q else 0), 0, (trd p P).2.2.2) ∧ FrP c h hh) (sz P 2) ?_ ?_ 0 hh (by omega) ⟨by decide, XP_ext q1 (fun _ _ _ => rfl) (fun q q0 q8 => ?_) rfl (fun _ _ _ _ _ _ => rfl), q2⟩
    · intro k hh hk ⟨k0, r1, r2⟩ ih2
      have hXi := hX.fr hac r2
      refine vX2_turnRound_37 a c j k ?_
      simp only [hXi.1.2.1, hXi.2.1 2 (by decide) (by decide)]
      refine ⟨(tP ha).1, ia1 ha (by decide) (by decide), ⟨by omega, by omega⟩, ⟨by omega, by omega⟩, fun z => by omega, fun _ => rX4_line (d := d + 1) (hg.fr hcP.1 r2) ha hXi hW (by decide) (by decide) j0 (by omega) k0 (by omega) ⟨(tP hc).1, rX4_setFiber hc r1.1.2.2.1 j0 (by omega) k0 (by omega) (ih2 _ ⟨by omega, XP_fib2 r1 (fun q q0 q8 => ?_), r2.tr (FrP.set (by omega) (by omega))⟩)⟩⟩
      by_cases e : q = 9 * j + k
      · rw [if_pos e, if_pos (by omega), e]
        show (if (9 * j + k) / 9 < sz P 1 ∧ (9 * j + k) % 9 < sz P 2 then lin p P 0 ((9 * j + k) / 9) ((9 * j + k) % 9) else 0) = _
        rw [if_pos (by omega), show (9 * j + k) / 9 = j by omega, show (9 * j + k) % 9 = k by omega]
      · rw [if_neg e]
        by_cases e2 : q / 9 < j ∨ q / 9 = j ∧ q % 9 < k
        · rw [if_pos e2, if_pos (by omega)]
        · rw [if_neg e2, if_neg (by omega)]
    · intro hh ⟨k0, r1, r2⟩
      have hXi := hX.fr hac r2
      refine vX2_turnRound_37 a c j _ ?_
      simp only [hXi.1.2.1, hXi.2.1 2 (by decide) (by decide)]
      refine ⟨(tP ha).1, ia1 ha (by decide) (by decide), ⟨by omega, by omega⟩, ⟨by omega, by omega⟩, fun _ => ih hh ⟨by omega, XP_ext r1 (fun _ _ _ => rfl) (fun q q0 q8 => ?_) rfl (fun _ _ _ _ _ _ => rfl), r2⟩, fun z => by omega⟩
      show (if q / 9 < j ∨ q / 9 = j ∧ q % 9 < sz P 2 then fb (trd p P) q else 0) = if q / 9 < j + 1 then fb (trd p P) q else 0
      by_cases e2 : q / 9 < j ∨ q / 9 = j ∧ q % 9 < sz P 2
      · rw [if_pos e2, if_pos (by omega)]
      · rw [if_neg e2]
        by_cases e3 : q / 9 < j + 1
        · rw [if_pos e3]
          show 0 = if q / 9 < sz P 1 ∧ q % 9 < sz P 2 then _ else 0
          rw [if_neg (by omega)]
        · rw [if_neg e3]
    · show (if q / 9 < j then fb (trd p P) q else 0) = if q / 9 < j ∨ q / 9 = j ∧ q % 9 < 0 then fb (trd p P) q else 0
      by_cases e : q / 9 < j
      · rw [if_pos e, if_pos (Or.inl e)]
      · rw [if_neg e, if_neg (by omega)]
  · intro hh ⟨j0, q1, q2⟩
    have hXa := hX.fr hac q2
    refine vX2_turnRound_24 a c _ ?_
    simp only [hXa.1.2.1, hXa.2.1 1 (by decide) (by decide)]
    refine ⟨(tP ha).1, ia1 ha (by decide) (by decide), ⟨by omega, by omega⟩, ⟨by omega, by omega⟩, fun _ => times hh (XP_ext q1 (fun _ _ _ => rfl) (fun q q0 q8 => ?_) rfl (fun _ _ _ _ _ _ => rfl)) q2, fun z => by omega⟩
    show (if q / 9 < sz P 1 then fb (trd p P) q else 0) = fb (trd p P) q
    by_cases e : q / 9 < sz P 1
    · rw [if_pos e]
    · rw [if_neg e]
      show 0 = if q / 9 < sz P 1 ∧ q % 9 < sz P 2 then _ else 0
      rw [if_neg (by omega)]
end Joi
