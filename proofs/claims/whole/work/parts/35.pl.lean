theorem XP_ext {h : HP} {a p : Int} {P P' : PS} (hX : XP h a p P) (e1 : ∀ w, 0 ≤ w → w < 3 → sz P w = sz P' w) (e2 : ∀ k, 0 ≤ k → k < 81 → fb P k = fb P' k) (e3 : tm P' = tm P) (er : ∀ w t, 0 ≤ w → w < 3 → 0 ≤ t → t < tm P → rw' P (40 * w + t) = rw' P' (40 * w + t)) : XP h a p P' := by
  obtain ⟨x1, x2, x3, x4, x5, x6, x7⟩ := hX
  refine ⟨x1, fun w w0 w3 => (x2 w w0 w3).trans (e1 w w0 w3), fun k k0 k1 => (x3 k k0 k1).trans (e2 k k0 k1), by rw [e3]; exact x4, by rw [e3]; exact fun w t w0 w3 t0 tT => (x5 w t w0 w3 t0 tT).trans (er w t w0 w3 t0 tT), by rw [e3]; exact fun w t w0 w3 t0 tT => by rw [x6 w t w0 w3 t0 tT, er w t w0 w3 t0 tT], ?_⟩
  rw [e3]
  intro w t w0 w3 t0 tT
  rw [x7 w t w0 w3 t0 tT]
  unfold mcn
  rw [e3, er w t w0 w3 t0 tT, cv_ext (g' := fun j => shp p (rw' P' (40 * w + j))) _ (fun j j0 jT => by rw [er w j w0 w3 j0 (by omega)])]
theorem PW_lt {p i n : Int} (hp : 2 ≤ p) (hi : 0 ≤ i) (hn : i < n) : PW p i < PW p n := by
  have h1 := PW_pos hp i
  have h2 := PW_le hp (show i + 1 ≤ n by omega)
  rw [PW_s hi] at h2
  have h3 : PW p i * 2 ≤ PW p i * p := Int.mul_le_mul_of_nonneg_left hp (Int.le_of_lt h1)
  omega
theorem dPW_lt {p v k n : Int} (hp : 2 ≤ p) (hv : 0 ≤ v ∧ v < p) (hk : 0 ≤ k) (hn : k < n) : 0 ≤ v * PW p k ∧ v * PW p k < PW p n := by
  have h1 := PW_pos hp k
  have h2 := PW_le hp (show k + 1 ≤ n by omega)
  rw [PW_s hk] at h2
  have h3 : (v + 1) * PW p k ≤ p * PW p k := Int.mul_le_mul_of_nonneg_right (by omega) (Int.le_of_lt h1)
  rw [Int.add_mul, Int.one_mul, Int.mul_comm p] at h3
  exact ⟨Int.mul_nonneg hv.1 (Int.le_of_lt h1), by omega⟩
theorem en_up {p : Int} {f : Int → Int} {i v : Int} (hi : 0 ≤ i) : ∀ n : Nat, en p (up1 f i v) n = if i < n then en p f n + (v - f i) * PW p i else en p f n
  | 0 => by rw [if_neg (show ¬ i < ((0 : Nat) : Int) by omega)]; rfl
  | n + 1 => by
    show en p (up1 f i v) n + up1 f i v n * PW p n = _
    rw [en_up hi n]
    have e1 : en p f (n + 1) = en p f n + f n * PW p n := rfl
    by_cases e : i = (n : Int)
    · rw [if_neg (show ¬ i < (n : Int) by omega), if_pos (show i < ((n + 1 : Nat) : Int) by omega), e1, ← e, up1_s, Int.sub_mul]
      omega
    · rw [up1_o (Ne.symm e)]
      by_cases c : i < (n : Int)
      · rw [if_pos c, if_pos (show i < ((n + 1 : Nat) : Int) by omega), e1]; omega
      · rw [if_neg c, if_neg (show ¬ i < ((n + 1 : Nat) : Int) by omega), e1]
theorem wn_en {p x i v : Int} (hp : okp p) (hx : isR p x) (hi : 0 ≤ i) (h9 : i < 9) : wn p x i v = en p (up1 (D p x) i v) 9 := by
  rw [en_up hi 9, if_pos (show i < ((9 : Nat) : Int) by omega), en_full (okp_b hp).1 9 hx.1 hx.2]
  rfl
theorem wn_dg {p x i v : Int} (hp : okp p) (hv : isD p v) : ∀ k : Int, 0 ≤ k → k < ((9 : Nat) : Int) → 0 ≤ up1 (D p x) i v k ∧ up1 (D p x) i v k < p := fun k _ _ => by
  unfold up1
  by_cases e : k = i
  · rw [if_pos e]; exact hv
  · rw [if_neg e]; exact ⟨D_nn (okp_b hp).1, D_lt (okp_b hp).1⟩
theorem D_wn {p x i v k : Int} (hp : okp p) (hx : isR p x) (hi : 0 ≤ i) (h9 : i < 9) (hv : isD p v) (k0 : 0 ≤ k) (k9 : k < 9) : D p (wn p x i v) k = if k = i then v else D p x k := by
  rw [wn_en hp hx hi h9, D_en (okp_b hp).1 9 (wn_dg hp hv) k k0 k9]
  rfl
theorem wn_R {p x i v : Int} (hp : okp p) (hx : isR p x) (hi : 0 ≤ i) (h9 : i < 9) (hv : isD p v) : isR p (wn p x i v) := by
  rw [wn_en hp hx hi h9]
  exact en_b (okp_b hp).1 9 (wn_dg hp hv)
theorem lt_sz {p x n : Int} (hp : okp p) (hx : isR p x) (h0 : 0 ≤ n) (h9 : n ≤ 9) (h : ∀ i, n ≤ i → i < 9 → D p x i = 0) : x < PW p n := by
  have := lt_of_D (okp_b hp).1 9 n.toNat hx (by omega) (fun i h1 h2 => h i (by omega) h2)
  rw [Int.toNat_of_nonneg h0] at this
  exact this
theorem D_sz {p x n i : Int} (hp : okp p) (hx : 0 ≤ x ∧ x < PW p n) (hi : n ≤ i) : D p x i = 0 := D_big hx.1 (Int.lt_of_lt_of_le hx.2 (PW_le (okp_b hp).1 hi))
/-- the row with f times number b added to number a -/
def adr (p x a b f : Int) : Int := wn p x a ((D p x a + f * D p x b) % p)
theorem adr_z {p a b f : Int} : adr p 0 a b f = 0 := by
  unfold adr wn
  rw [D_z, D_z]
  simp
theorem md_D {p x : Int} (hp : okp p) : isD p (x % p) := ⟨Int.emod_nonneg _ (by have := okp_b hp; omega), Int.emod_lt_of_pos _ (by have := okp_b hp; omega)⟩
theorem adr_sz {p x a b f n : Int} (hp : okp p) (hn : n ≤ 9) (hx : 0 ≤ x ∧ x < PW p n) (ha : 0 ≤ a ∧ a < n) : 0 ≤ adr p x a b f ∧ adr p x a b f < PW p n := by
  have hxR : isR p x := ⟨hx.1, Int.lt_of_lt_of_le hx.2 (PW_le (okp_b hp).1 hn)⟩
  have hR : isR p (adr p x a b f) := wn_R hp hxR ha.1 (by omega) (md_D hp)
  refine ⟨hR.1, lt_sz hp hR (by omega) hn (fun i h1 h2 => ?_)⟩
  unfold adr
  rw [D_wn hp hxR ha.1 (by omega) (md_D hp) (by omega) h2, if_neg (show ¬ i = a by omega)]
  exact D_sz hp hx h1
theorem pl_sz {p a f b n : Int} (hp : okp p) (h0 : 0 ≤ n) (hn : n ≤ 9) (ha : 0 ≤ a ∧ a < PW p n) (hb : 0 ≤ b ∧ b < PW p n) : 0 ≤ pl p a f b ∧ pl p a f b < PW p n := by
  have hR := pl_R (a := a) (f := f) (b := b) hp
  refine ⟨hR.1, lt_sz hp hR h0 hn (fun i h1 h2 => ?_)⟩
  rw [D_pl hp (by omega) h2, D_sz hp ha h1, D_sz hp hb h1]
  simp
def pst (p i j : Int) (P : PS) (k : Int) : PS := if D p (fb P (9 * i + j)) k = 0 then P else if 40 ≤ tm P then P else apn P (PW p i) (PW p j) (D p (fb P (9 * i + j)) k * PW p k)
def plK (p i j : Int) (P : PS) : Nat → PS
  | 0 => P
  | n + 1 => pst p i j (plK p i j P n) n
def plJ (p i : Int) (C : Nat) (P : PS) : Nat → PS
  | 0 => P
  | n + 1 => plK p i n (plJ p i C P n) C
def plI (p : Int) (B C : Nat) (P : PS) : Nat → PS
  | 0 => P
  | n + 1 => plJ p n C (plI p B C P n) B
theorem WF_apn {p u v w : Int} {P : PS} (hW : WF p P) (hT : tm P < 40) (hu : 0 ≤ u ∧ u < PW p (sz P 0)) (hv : 0 ≤ v ∧ v < PW p (sz P 1)) (hw : 0 ≤ w ∧ w < PW p (sz P 2)) : WF p (apn P u v w) := by
  obtain ⟨w1, w2, w3, w4⟩ := hW
  refine ⟨w1, w2, ⟨by show 0 ≤ tm P + 1; omega, by show tm P + 1 ≤ 40; omega⟩, fun m t m0 m1 t0 t1 => ?_⟩
  have t1' : t < tm P + 1 := t1
  show 0 ≤ up1 (up1 (up1 P.2.2.2 (40 * 0 + tm P) u) (40 * 1 + tm P) v) (40 * 2 + tm P) w (40 * m + t) ∧ up1 (up1 (up1 P.2.2.2 (40 * 0 + tm P) u) (40 * 1 + tm P) v) (40 * 2 + tm P) w (40 * m + t) < PW p (sz P m)
  unfold up1
  by_cases c2 : 40 * m + t = 40 * 2 + tm P
  · rw [if_pos c2, show m = 2 by omega]; exact hw
  · rw [if_neg c2]
    by_cases c1 : 40 * m + t = 40 * 1 + tm P
    · rw [if_pos c1, show m = 1 by omega]; exact hv
    · rw [if_neg c1]
      by_cases c0 : 40 * m + t = 40 * 0 + tm P
      · rw [if_pos c0, show m = 0 by omega]; exact hu
      · rw [if_neg c0]; exact w4 m t m0 m1 t0 (by omega)
theorem pst_f {p i j k : Int} {P : PS} : sz (pst p i j P k) = sz P ∧ fb (pst p i j P k) = fb P := by
  unfold pst
  by_cases c : D p (fb P (9 * i + j)) k = 0
  · rw [if_pos c]; exact ⟨rfl, rfl⟩
  · rw [if_neg c]
    by_cases c2 : 40 ≤ tm P
    · rw [if_pos c2]; exact ⟨rfl, rfl⟩
    · rw [if_neg c2]; exact ⟨rfl, rfl⟩
theorem pst_W {p i j k : Int} {P : PS} (hp : okp p) (hW : WF p P) (i0 : 0 ≤ i ∧ i < sz P 0) (j0 : 0 ≤ j ∧ j < sz P 1) (k0 : 0 ≤ k ∧ k < sz P 2) : WF p (pst p i j P k) := by
  unfold pst
  by_cases c : D p (fb P (9 * i + j)) k = 0
  · rw [if_pos c]; exact hW
  · rw [if_neg c]
    by_cases c2 : 40 ≤ tm P
    · rw [if_pos c2]; exact hW
    · rw [if_neg c2]
      exact WF_apn hW (by omega) ⟨Int.le_of_lt (PW_pos (okp_b hp).1 i), PW_lt (okp_b hp).1 i0.1 i0.2⟩ ⟨Int.le_of_lt (PW_pos (okp_b hp).1 j), PW_lt (okp_b hp).1 j0.1 j0.2⟩ (dPW_lt (okp_b hp).1 ⟨D_nn (okp_b hp).1, D_lt (okp_b hp).1⟩ k0.1 k0.2)
theorem plK_W {p i j : Int} {P : PS} (hp : okp p) (hW : WF p P) (i0 : 0 ≤ i ∧ i < sz P 0) (j0 : 0 ≤ j ∧ j < sz P 1) : ∀ n : Nat, (n : Int) ≤ sz P 2 → WF p (plK p i j P n) ∧ sz (plK p i j P n) = sz P ∧ fb (plK p i j P n) = fb P
  | 0, _ => ⟨hW, rfl, rfl⟩
  | n + 1, h => by
    obtain ⟨q1, q2, q3⟩ := plK_W hp hW i0 j0 n (by omega)
    show WF p (pst p i j (plK p i j P n) n) ∧ sz (pst p i j (plK p i j P n) n) = sz P ∧ fb (pst p i j (plK p i j P n) n) = fb P
    obtain ⟨q4, q5⟩ := pst_f (p := p) (i := i) (j := j) (k := n) (P := plK p i j P n)
    exact ⟨pst_W hp q1 (by rw [q2]; exact i0) (by rw [q2]; exact j0) (by rw [q2]; omega), by rw [q4, q2], by rw [q5, q3]⟩
theorem plJ_W {p i : Int} {P : PS} (hp : okp p) (hW : WF p P) (i0 : 0 ≤ i ∧ i < sz P 0) : ∀ n : Nat, (n : Int) ≤ sz P 1 → WF p (plJ p i (sz P 2).toNat P n) ∧ sz (plJ p i (sz P 2).toNat P n) = sz P ∧ fb (plJ p i (sz P 2).toNat P n) = fb P
  | 0, _ => ⟨hW, rfl, rfl⟩
  | n + 1, h => by
    obtain ⟨q1, q2, q3⟩ := plJ_W hp hW i0 n (by omega)
    have h2 := hW.1 2 (by decide) (by decide)
    have := plK_W (i := i) (j := n) hp q1 (by rw [q2]; exact i0) (by rw [q2]; omega) (sz P 2).toNat (by rw [q2]; omega)
    rw [q2, q3] at this
    exact this
theorem plI_W {p : Int} {P : PS} (hp : okp p) (hW : WF p P) : ∀ n : Nat, (n : Int) ≤ sz P 0 → WF p (plI p (sz P 1).toNat (sz P 2).toNat P n) ∧ sz (plI p (sz P 1).toNat (sz P 2).toNat P n) = sz P ∧ fb (plI p (sz P 1).toNat (sz P 2).toNat P n) = fb P
  | 0, _ => ⟨hW, rfl, rfl⟩
  | n + 1, h => by
    obtain ⟨q1, q2, q3⟩ := plI_W hp hW n (by omega)
    have h2 := hW.1 1 (by decide) (by decide)
    have := plJ_W (i := n) hp q1 (by rw [q2]; omega) (sz P 1).toNat (by rw [q2]; omega)
    rw [q2, q3] at this
    exact this
section Plain
variable {l : Launch} {d : Nat} {h : HP} {p a : Int} {P : PS} {Q : Int → GS → HP → Prop}
theorem nat_s {n : Int} (h : 0 ≤ n) : (n + 1).toNat = n.toNat + 1 := by omega
theorem rX4_appendPlain {i j : Int} (hg : Gd h p) (ha : isP a) (hX : XP h a p P) (hW : WF p P) (i0 : 0 ≤ i ∧ i < sz P 0) (j0 : 0 ≤ j ∧ j < sz P 1) (hQ : ∀ h', XP h' a p (plK p i j P (sz P 2).toNat) → FrP a h h' → Q 0 G0 h') : R l MX4_appendPlain (d + 4) 0 0 [vR a, vI i, vI j] G0 h Q := by
  have hA := hW.1 0 (by decide) (by decide)
  have hB := hW.1 1 (by decide) (by decide)
  have hC := hW.1 2 (by decide) (by decide)
  have hisP := isP_b ha
  refine eX4_appendPlain a i j (vX4_appendPlain_0 a i j ?_)
  refine lp_up (σ := HP) (fun k hh => S l MX4_appendPlain (d + 3 + 1, 0, 0, 0, 0) 2 [some (vR a), some (vI i), some (vI j), some (vI k), none] [] G0 hh Q) (fun k hh => 0 ≤ k ∧ XP hh a p (plK p i j P k.toNat) ∧ FrP a h hh) (sz P 2) ?_ ?_ 0 h (by omega) ⟨by decide, hX, FrP.rf⟩
  · intro k hh hk ⟨k0, q1, q2⟩ ih
    obtain ⟨w1, w2, w3⟩ := plK_W hg.1 hW i0 j0 k.toNat (by omega)
    have hgh := hg.fr hisP.1 q2
    have sC := q1.2.1 2 (by decide) (by decide)
    rw [w2] at sC
    have hstep : plK p i j P (k + 1).toNat = pst p i j (plK p i j P k.toNat) k := by
      rw [nat_s k0]
      show pst p i j (plK p i j P k.toNat) (k.toNat : Int) = _
      rw [Int.toNat_of_nonneg k0]
    refine vX4_appendPlain_2 a i j k ?_
    simp only [q1.1.2.1, sC]
    refine ⟨(tP ha).1, ia1 ha (by decide) (by decide), ⟨by omega, by omega⟩, ⟨by omega, by omega⟩, fun c => by omega, fun _ => rX4_number (d := d + 2) hgh ha q1 w1 i0.1 (by omega) j0.1 (by omega) k0 (by omega) ?_⟩
    have hD1 := D_nn (x := fb (plK p i j P k.toNat) (9 * i + j)) (i := k) (okp_b hg.1).1
    have hD2 := D_lt (x := fb (plK p i j P k.toNat) (9 * i + j)) (i := k) (okp_b hg.1).1
    have hp7 := okp_b hg.1
    refine ⟨⟨by omega, by omega⟩, fun c => ih hh ⟨by omega, ?_, q2⟩, fun c => ?_⟩
    · rw [hstep]
      unfold pst
      rw [if_pos c]
      exact q1
    · have tT := q1.2.2.2.1
      have hTb := w1.2.2.1
      simp only [tT]
      refine ⟨(tP ha).1, ⟨by omega, by omega⟩, fun c2 => ih hh ⟨by omega, ?_, q2⟩, fun c2 => ?_⟩
      · rw [hstep]
        unfold pst
        rw [if_neg c, if_pos c2]
        exact q1
      · simp only [q1.1.1, hgh.2.2.1]
        rw [hgh.2.2.2.2.1 i i0.1 (by omega), hgh.2.2.2.2.1 j j0.1 (by omega), hgh.2.2.2.2.1 k k0 (by omega)]
        refine ⟨rfl, ⟨rfl, i0.1, by show i < 10; omega⟩, ⟨rfl, j0.1, by show j < 10; omega⟩, ⟨rfl, k0, by show k < 10; omega⟩, rX4_append (d := d) hgh ha q1 ⟨hTb.1, c2⟩ ⟨Int.le_of_lt (PW_pos hp7.1 i), PW_lt hp7.1 i0.1 (by omega)⟩ ⟨Int.le_of_lt (PW_pos hp7.1 j), PW_lt hp7.1 j0.1 (by omega)⟩ (dPW_lt hp7.1 ⟨hD1, hD2⟩ k0 (by omega)) (fun h20 q20 f20 _ => ih h20 ⟨by omega, ?_, q2.tr f20⟩)⟩
        rw [hstep]
        unfold pst
        rw [if_neg c, if_neg (show ¬ 40 ≤ tm (plK p i j P k.toNat) by omega)]
        exact q20
  · intro hh ⟨k0, q1, q2⟩
    obtain ⟨w1, w2, w3⟩ := plK_W hg.1 hW i0 j0 (sz P 2).toNat (by omega)
    have sC := q1.2.1 2 (by decide) (by decide)
    rw [w2] at sC
    refine vX4_appendPlain_2 a i j _ ?_
    simp only [q1.1.2.1, sC]
    exact ⟨(tP ha).1, ia1 ha (by decide) (by decide), ⟨by omega, by omega⟩, ⟨by omega, by omega⟩, fun _ => hQ hh q1 q2, fun c => by omega⟩
theorem WF_0 {r : Int → Int} (hW : WF p P) : WF p (P.1, P.2.1, 0, r) := ⟨hW.1, hW.2.1, ⟨by show (0 : Int) ≤ 0; omega, by show (0 : Int) ≤ 40; omega⟩, fun w t _ _ t0 t1 => by have t1' : t < 0 := t1; omega⟩
theorem XP_0 {r : Int → Int} {hh : HP} (hX : XP h a p P) (e : hh = hset h a 6 0) : XP hh a p (P.1, P.2.1, 0, r) := by
  obtain ⟨x1, x2, x3, x4, x5, x6, x7⟩ := hX
  have o4 : ∀ b, b ≠ a → hh b = h b := fun b hb => by rw [e, hset_oa hb]
  have a4 : ∀ j, j ≠ 6 → hh a j = h a j := fun j hj => by rw [e, hset_oj hj]
  refine ⟨?_, by rw [o4 _ (by omega)]; exact x2, by rw [o4 _ (by omega)]; exact x3, by rw [e, hset_s], fun w t _ _ t0 t1 => by have t1' : t < 0 := t1; omega, fun w t _ _ t0 t1 => by have t1' : t < 0 := t1; omega, fun w t _ _ t0 t1 => by have t1' : t < 0 := t1; omega⟩
  unfold Pr
  rw [a4 0 (by decide), a4 1 (by decide), a4 2 (by decide), a4 3 (by decide), a4 4 (by decide), a4 5 (by decide)]
  exact x1
def plain' (p : Int) (P : PS) : PS := plI p (sz P 1).toNat (sz P 2).toNat (P.1, P.2.1, 0, P.2.2.2) (sz P 0).toNat
theorem rX4_becomePlain (hg : Gd h p) (ha : isP a) (hX : XP h a p P) (hW : WF p P) (hQ : ∀ h', XP h' a p (plain' p P) → FrP a h h' → Q 0 G0 h') : R l MX4_becomePlain (d + 5) 0 0 [vR a] G0 h Q := by
  have hA := hW.1 0 (by decide) (by decide)
  have hB := hW.1 1 (by decide) (by decide)
  have hC := hW.1 2 (by decide) (by decide)
  have hisP := isP_b ha
  have hW0 := WF_0 (r := P.2.2.2) hW
  refine eX4_becomePlain a (vX4_becomePlain_0 a ⟨(tP ha).1, fun h2 e2 => ?_⟩)
  have hX0 := XP_0 (r := P.2.2.2) hX e2
  have fr2 : FrP a h h2 := by rw [e2]; exact FrP.set (Int.le_refl _) (by omega)
  refine lp_up (σ := HP) (fun i hh => S l MX4_becomePlain (d + 4 + 1, 0, 0, 0, 0) 7 [some (vR a), some (vI i), none] [] G0 hh Q) (fun i hh => 0 ≤ i ∧ XP hh a p (plI p (sz P 1).toNat (sz P 2).toNat (P.1, P.2.1, 0, P.2.2.2) i.toNat) ∧ FrP a h hh) (sz P 0) ?_ ?_ 0 h2 (by omega) ⟨by decide, hX0, fr2⟩
  · intro i hh hi ⟨i0, q1, q2⟩ ih
    obtain ⟨w1, w2, w3⟩ := plI_W hg.1 hW0 i.toNat (by show (i.toNat : Int) ≤ sz P 0; omega)
    have sA := q1.2.1 0 (by decide) (by decide)
    have sA' : sz (plI p (sz P 1).toNat (sz P 2).toNat (P.1, P.2.1, 0, P.2.2.2) i.toNat) = sz P := w2
    rw [sA'] at sA
    refine vX4_becomePlain_7 a i ?_
    simp only [q1.1.2.1, sA]
    refine ⟨(tP ha).1, ia1 ha (by decide) (by decide), ⟨by omega, by omega⟩, ⟨by omega, by omega⟩, fun c => by omega, fun _ => ?_⟩
    refine lp_up (σ := HP) (fun j hh => S l MX4_becomePlain (d + 4 + 1, 0, 0, 0, 0) 19 [some (vR a), some (vI i), some (vI j)] [] G0 hh Q) (fun j hh => 0 ≤ j ∧ XP hh a p (plJ p i (sz P 2).toNat (plI p (sz P 1).toNat (sz P 2).toNat (P.1, P.2.1, 0, P.2.2.2) i.toNat) j.toNat) ∧ FrP a h hh) (sz P 1) ?_ ?_ 0 hh (by omega) ⟨by decide, q1, q2⟩
    · intro j hh hj ⟨j0, r1, r2⟩ ih2
      have hw := plJ_W (i := i) hg.1 w1 (by rw [sA']; omega) j.toNat (by rw [sA']; omega)
      rw [sA'] at hw
      obtain ⟨v1, v2, v3⟩ := hw
      have sB := r1.2.1 1 (by decide) (by decide)
      rw [v2] at sB
      refine vX4_becomePlain_19 a i j ?_
      simp only [r1.1.2.1, sB]
      refine ⟨(tP ha).1, ia1 ha (by decide) (by decide), ⟨by omega, by omega⟩, ⟨by omega, by omega⟩, fun c => by omega, fun _ => rX4_appendPlain (d := d) (hg.fr hisP.1 r2) ha r1 v1 (by rw [v2]; omega) (by rw [v2]; omega) (fun h8 q8 f8 => ih2 h8 ⟨by omega, ?_, r2.tr f8⟩)⟩
      rw [nat_s j0]
      show XP h8 a p (plK p i (j.toNat : Int) (plJ p i (sz P 2).toNat _ j.toNat) (sz P 2).toNat)
      rw [Int.toNat_of_nonneg j0]
      rw [v2] at q8
      exact q8
    · intro hh ⟨j0, r1, r2⟩
      have hw := plJ_W (i := i) hg.1 w1 (by rw [sA']; omega) (sz P 1).toNat (by rw [sA']; omega)
      rw [sA'] at hw
      obtain ⟨v1, v2, v3⟩ := hw
      have sB := r1.2.1 1 (by decide) (by decide)
      rw [v2] at sB
      refine vX4_becomePlain_19 a i _ ?_
      simp only [r1.1.2.1, sB]
      refine ⟨(tP ha).1, ia1 ha (by decide) (by decide), ⟨by omega, by omega⟩, ⟨by omega, by omega⟩, fun _ => ih hh ⟨by omega, ?_, r2⟩, fun c => by omega⟩
      rw [nat_s i0]
      show XP hh a p (plJ p (i.toNat : Int) (sz P 2).toNat _ (sz P 1).toNat)
      rw [Int.toNat_of_nonneg i0]
      exact r1
  · intro hh ⟨i0, q1, q2⟩
    obtain ⟨w1, w2, w3⟩ := plI_W hg.1 hW0 (sz P 0).toNat (by show ((sz P 0).toNat : Int) ≤ sz P 0; omega)
    have sA := q1.2.1 0 (by decide) (by decide)
    have sA' : sz (plI p (sz P 1).toNat (sz P 2).toNat (P.1, P.2.1, 0, P.2.2.2) (sz P 0).toNat) = sz P := w2
    rw [sA'] at sA
    refine vX4_becomePlain_7 a _ ?_
    simp only [q1.1.2.1, sA]
    exact ⟨(tP ha).1, ia1 ha (by decide) (by decide), ⟨by omega, by omega⟩, ⟨by omega, by omega⟩, fun _ => hQ hh q1 q2, fun c => by omega⟩
end Plain
