abbrev PS : Type := (Int → Int) × (Int → Int) × Int × (Int → Int)
abbrev sz (P : PS) : Int → Int := P.1
abbrev fb (P : PS) : Int → Int := P.2.1
abbrev tm (P : PS) : Int := P.2.2.1
abbrev rw' (P : PS) : Int → Int := P.2.2.2
def up1 (f : Int → Int) (k v : Int) : Int → Int := fun j => if j = k then v else f j
theorem up1_s {f : Int → Int} {k v : Int} : up1 f k v k = v := if_pos rfl
theorem up1_o {f : Int → Int} {k v j : Int} (h : j ≠ k) : up1 f k v j = f j := if_neg h
/-- how many of g's first n are s -/
def cv (g : Int → Int) (s : Int) : Nat → Int
  | 0 => 0
  | n + 1 => cv g s n + (if g n = s then 1 else 0)
def mcn (p : Int) (P : PS) (w t : Int) : Int := if shp p (rw' P (40 * w + t)) = 0 then 0 else cv (fun j => shp p (rw' P (40 * w + j))) (shp p (rw' P (40 * w + t))) (tm P).toNat - 1
def Pr (h : HP) (a : Int) : Prop := h a 0 = 1 ∧ h a 1 = a + 1 ∧ h a 2 = a + 2 ∧ h a 3 = a + 3 ∧ h a 4 = a + 4 ∧ h a 5 = a + 5
def WF (p : Int) (P : PS) : Prop := (∀ w, 0 ≤ w → w < 3 → 1 ≤ sz P w ∧ sz P w ≤ 9) ∧ (∀ i j, 0 ≤ i → i < 9 → 0 ≤ j → j < 9 → 0 ≤ fb P (9 * i + j) ∧ fb P (9 * i + j) < PW p (sz P 2) ∧ (sz P 0 ≤ i ∨ sz P 1 ≤ j → fb P (9 * i + j) = 0)) ∧ (0 ≤ tm P ∧ tm P ≤ 40) ∧ ∀ w t, 0 ≤ w → w < 3 → 0 ≤ t → t < tm P → 0 ≤ rw' P (40 * w + t) ∧ rw' P (40 * w + t) < PW p (sz P w)
/-- the piece at cell a holds P -/
def XP (h : HP) (a p : Int) (P : PS) : Prop := Pr h a ∧ (∀ w, 0 ≤ w → w < 3 → h (a + 1) w = sz P w) ∧ (∀ k, 0 ≤ k → k < 81 → h (a + 2) k = fb P k) ∧ h a 6 = tm P ∧ (∀ w t, 0 ≤ w → w < 3 → 0 ≤ t → t < tm P → h (a + 3) (40 * w + t) = rw' P (40 * w + t)) ∧ (∀ w t, 0 ≤ w → w < 3 → 0 ≤ t → t < tm P → h (a + 4) (40 * w + t) = shp p (rw' P (40 * w + t))) ∧ ∀ w t, 0 ≤ w → w < 3 → 0 ≤ t → t < tm P → h (a + 5) (40 * w + t) = mcn p P w t
def isP (a : Int) : Prop := a = 4 ∨ a = 10 ∨ a = 17 ∨ a = 23 ∨ a = 29 ∨ a = 35
def FrP (a : Int) (h h' : HP) : Prop := ∀ b, b < a ∨ a + 5 < b → h' b = h b
theorem tP {a : Int} (ha : isP a) : ty G0 a = 4 ∧ (ty G0 (a + 1) = 10 ∧ ln G0 (a + 1) = 3) ∧ (ty G0 (a + 2) = 10 ∧ ln G0 (a + 2) = 81) ∧ (ty G0 (a + 3) = 10 ∧ ln G0 (a + 3) = 120) ∧ (ty G0 (a + 4) = 10 ∧ ln G0 (a + 4) = 120) ∧ (ty G0 (a + 5) = 10 ∧ ln G0 (a + 5) = 120) := by
  rcases ha with rfl | rfl | rfl | rfl | rfl | rfl <;> decide
theorem isP_b {a : Int} (ha : isP a) : 4 ≤ a ∧ a ≤ 35 := by unfold isP at ha; omega
theorem ia1 {a i : Int} (ha : isP a) (h0 : 0 ≤ i) (h1 : i < 3) : inA G0 10 (a + 1) i := ⟨(tP ha).2.1.1, h0, by rw [(tP ha).2.1.2]; exact h1⟩
theorem ia2 {a i : Int} (ha : isP a) (h0 : 0 ≤ i) (h1 : i < 81) : inA G0 10 (a + 2) i := ⟨(tP ha).2.2.1.1, h0, by rw [(tP ha).2.2.1.2]; exact h1⟩
theorem ia3 {a i : Int} (ha : isP a) (h0 : 0 ≤ i) (h1 : i < 120) : inA G0 10 (a + 3) i := ⟨(tP ha).2.2.2.1.1, h0, by rw [(tP ha).2.2.2.1.2]; exact h1⟩
theorem ia4 {a i : Int} (ha : isP a) (h0 : 0 ≤ i) (h1 : i < 120) : inA G0 10 (a + 4) i := ⟨(tP ha).2.2.2.2.1.1, h0, by rw [(tP ha).2.2.2.2.1.2]; exact h1⟩
theorem ia5 {a i : Int} (ha : isP a) (h0 : 0 ≤ i) (h1 : i < 120) : inA G0 10 (a + 5) i := ⟨(tP ha).2.2.2.2.2.1, h0, by rw [(tP ha).2.2.2.2.2.2]; exact h1⟩
theorem FrP.rf {a : Int} {h : HP} : FrP a h h := fun _ _ => rfl
theorem FrP.tr {a : Int} {h h1 h2 : HP} (q1 : FrP a h h1) (q2 : FrP a h1 h2) : FrP a h h2 := fun b hb => (q2 b hb).trans (q1 b hb)
theorem FrP.set {a b j v : Int} {h : HP} (h1 : a ≤ b) (h2 : b ≤ a + 5) : FrP a h (hset h b j v) := fun c hc => hset_oa (by omega)
theorem Gd.fr {h h' : HP} {p a : Int} (hg : Gd h p) (ha : 4 ≤ a) (hf : FrP a h h') : Gd h' p := by
  obtain ⟨g1, g2, g3, g4, g5, g6⟩ := hg
  have e1 := hf 1 (by omega)
  have e2 := hf 2 (by omega)
  have e3 := hf 3 (by omega)
  exact ⟨g1, by rw [e1]; exact g2, by rw [e1]; exact g3, by rw [e1]; exact g4, by rw [e2]; exact g5, by rw [e3]; exact g6⟩
theorem XP.fr {h h' : HP} {p a b : Int} {P : PS} (hX : XP h b p P) (hab : b + 5 < a ∨ a + 5 < b) (hf : FrP a h h') : XP h' b p P := by
  obtain ⟨x1, x2, x3, x4, x5, x6, x7⟩ := hX
  have e0 := hf b (by omega)
  have e1 := hf (b + 1) (by omega)
  have e2 := hf (b + 2) (by omega)
  have e3 := hf (b + 3) (by omega)
  have e4 := hf (b + 4) (by omega)
  have e5 := hf (b + 5) (by omega)
  unfold XP Pr
  rw [e0, e1, e2, e3, e4, e5]
  exact ⟨x1, x2, x3, x4, x5, x6, x7⟩
theorem rowR {p w t : Int} {P : PS} (hp : okp p) (hW : WF p P) (w0 : 0 ≤ w) (w3 : w < 3) (t0 : 0 ≤ t) (tT : t < tm P) : isR p (rw' P (40 * w + t)) := by
  have h1 := hW.2.2.2 w t w0 w3 t0 tT
  exact ⟨h1.1, Int.lt_of_lt_of_le h1.2 (PW_le (okp_b hp).1 (hW.1 w w0 w3).2)⟩
theorem fibR {p i j : Int} {P : PS} (hp : okp p) (hW : WF p P) (i0 : 0 ≤ i) (i9 : i < 9) (j0 : 0 ≤ j) (j9 : j < 9) : isR p (fb P (9 * i + j)) := by
  have h1 := hW.2.1 i j i0 i9 j0 j9
  exact ⟨h1.1, Int.lt_of_lt_of_le h1.2.1 (PW_le (okp_b hp).1 (hW.1 2 (by decide) (by decide)).2)⟩
section PieceR
variable {l : Launch} {d : Nat} {h : HP} {p a : Int} {P : PS} {Q : Int → GS → HP → Prop}
theorem rX4_fiberAt {i j : Int} (ha : isP a) (hX : XP h a p P) (i0 : 0 ≤ i) (i9 : i < 9) (j0 : 0 ≤ j) (j9 : j < 9) (hQ : Q (fb P (9 * i + j)) G0 h) : R l MX4_fiberAt d 0 0 [vR a, vI i, vI j] G0 h Q := by
  refine eX4_fiberAt a i j (vX4_fiberAt_0 a i j ?_)
  simp only [hX.1.2.2.1]
  refine ⟨(tP ha).1, ia2 ha (by omega) (by omega), ?_⟩
  rw [hX.2.2.1 _ (by omega) (by omega)]
  exact hQ
theorem rX4_setFiber {i j x : Int} (ha : isP a) (hr : h a 2 = a + 2) (i0 : 0 ≤ i) (i9 : i < 9) (j0 : 0 ≤ j) (j9 : j < 9) (hQ : Q 0 G0 (hset h (a + 2) (9 * i + j) x)) : R l MX4_setFiber d 0 0 [vR a, vI i, vI j, vI x] G0 h Q := by
  refine eX4_setFiber a i j x (vX4_setFiber_0 a i j x ?_)
  simp only [hr]
  exact ⟨(tP ha).1, ia2 ha (by omega) (by omega), fun h3 e3 => by rw [e3]; exact hQ⟩
theorem XP_fib {i j x : Int} (hX : XP h a p P) : XP (hset h (a + 2) (9 * i + j) x) a p (P.1, up1 P.2.1 (9 * i + j) x, P.2.2) := by
  obtain ⟨x1, x2, x3, x4, x5, x6, x7⟩ := hX
  have e0 : hset h (a + 2) (9 * i + j) x a = h a := hset_oa (by omega)
  have e1 : hset h (a + 2) (9 * i + j) x (a + 1) = h (a + 1) := hset_oa (by omega)
  have e3 : hset h (a + 2) (9 * i + j) x (a + 3) = h (a + 3) := hset_oa (by omega)
  have e4 : hset h (a + 2) (9 * i + j) x (a + 4) = h (a + 4) := hset_oa (by omega)
  have e5 : hset h (a + 2) (9 * i + j) x (a + 5) = h (a + 5) := hset_oa (by omega)
  unfold XP Pr
  rw [e0, e1, e3, e4, e5]
  refine ⟨x1, x2, fun k k0 k1 => ?_, x4, x5, x6, x7⟩
  by_cases e : k = 9 * i + j
  · rw [e, hset_s]; exact up1_s.symm
  · rw [hset_oj e, x3 k k0 k1]; exact (up1_o e).symm
theorem rX4_hasIndex {w i : Int} (ha : isP a) (hX : XP h a p P) (hW : WF p P) (w0 : 0 ≤ w) (w3 : w < 3) (hi : inR i) (h1 : 0 ≤ i ∧ i < sz P w → Q 1 G0 h) (h0 : ¬ (0 ≤ i ∧ i < sz P w) → Q 0 G0 h) : R l MX4_hasIndex d 0 0 [vR a, vI w, vI i] G0 h Q := by
  refine eX4_hasIndex a w i (vX4_hasIndex_0 a w i ?_)
  simp only [hX.1.2.1]
  rw [hX.2.1 w w0 w3]
  have hs := hW.1 w w0 w3
  exact ⟨hi, fun c => h0 (by omega), fun c => ⟨(tP ha).1, ia1 ha w0 w3, ⟨by omega, by omega⟩, fun c2 => h0 (by omega), fun c2 => h1 ⟨c, c2⟩⟩⟩
theorem rX4_hasPlace {i j k : Int} (ha : isP a) (hX : XP h a p P) (hW : WF p P) (hi : inR i) (hj : inR j) (hk : inR k) (h1 : (0 ≤ i ∧ i < sz P 0) ∧ (0 ≤ j ∧ j < sz P 1) ∧ (0 ≤ k ∧ k < sz P 2) → Q 1 G0 h) (h0 : ¬ ((0 ≤ i ∧ i < sz P 0) ∧ (0 ≤ j ∧ j < sz P 1) ∧ (0 ≤ k ∧ k < sz P 2)) → Q 0 G0 h) : R l MX4_hasPlace (d + 1) 0 0 [vR a, vI i, vI j, vI k] G0 h Q := by
  refine eX4_hasPlace a i j k (vX4_hasPlace_0 a i j k ⟨(tP ha).1, ?_⟩)
  refine rX4_hasIndex ha hX hW (by decide) (by decide) hi (fun c1 => ?_) (fun c1 => ⟨by decide, fun _ => h0 (fun z => c1 z.1), fun z => absurd rfl z⟩)
  refine ⟨by decide, fun z => absurd z (by decide), fun _ => ⟨(tP ha).1, rX4_hasIndex ha hX hW (by decide) (by decide) hj (fun c2 => ?_) (fun c2 => ⟨by decide, fun _ => h0 (fun z => c2 z.2.1), fun z => absurd rfl z⟩)⟩⟩
  refine ⟨by decide, fun z => absurd z (by decide), fun _ => ⟨(tP ha).1, rX4_hasIndex ha hX hW (by decide) (by decide) hk (fun c3 => ?_) (fun c3 => ⟨by decide, fun _ => h0 (fun z => c3 z.2.2), fun z => absurd rfl z⟩)⟩⟩
  exact ⟨by decide, fun z => absurd z (by decide), fun _ => h1 ⟨c1, c2, c3⟩⟩
theorem rX4_hasTime {t : Int} (ha : isP a) (hX : XP h a p P) (hW : WF p P) (hi : inR t) (h1 : 0 ≤ t ∧ t < tm P → Q 1 G0 h) (h0 : ¬ (0 ≤ t ∧ t < tm P) → Q 0 G0 h) : R l MX4_hasTime d 0 0 [vR a, vI t] G0 h Q := by
  refine eX4_hasTime a t (vX4_hasTime_0 a t ?_)
  simp only [hX.2.2.2.1]
  have hs := hW.2.2.1
  exact ⟨hi, fun c => h0 (by omega), fun c => ⟨(tP ha).1, ⟨by omega, by omega⟩, fun c2 => h0 (by omega), fun c2 => h1 ⟨c, c2⟩⟩⟩
theorem rX4_fits {w x : Int} (hg : Gd h p) (ha : isP a) (hX : XP h a p P) (hW : WF p P) (w0 : 0 ≤ w) (w3 : w < 3) (hi : inR x) (h1 : 0 ≤ x ∧ x < PW p (sz P w) → Q 1 G0 h) (h0 : ¬ (0 ≤ x ∧ x < PW p (sz P w)) → Q 0 G0 h) : R l MX4_fits d 0 0 [vR a, vI w, vI x] G0 h Q := by
  refine eX4_fits a w x (vX4_fits_0 a w x ?_)
  have hs := hW.1 w w0 w3
  have hb := PWm hg.1 hs.2
  simp only [hX.1.1, hX.1.2.1, hg.2.2.1]
  rw [hX.2.1 w w0 w3, hg.2.2.2.2.1 _ (by omega) hs.2]
  exact ⟨hi, fun c => h0 (by omega), fun c => ⟨(tP ha).1, rfl, ia1 ha w0 w3, ⟨rfl, by omega, by show sz P w < 10; omega⟩, ⟨by omega, by omega⟩, fun c2 => h0 (by omega), fun c2 => h1 ⟨c, c2⟩⟩⟩
theorem rX4_number {i j k : Int} (hg : Gd h p) (ha : isP a) (hX : XP h a p P) (hW : WF p P) (i0 : 0 ≤ i) (i9 : i < 9) (j0 : 0 ≤ j) (j9 : j < 9) (k0 : 0 ≤ k) (k9 : k ≤ 9) (hQ : Q (D p (fb P (9 * i + j)) k) G0 h) : R l MX4_number (d + 1) 0 0 [vR a, vI i, vI j, vI k] G0 h Q := by
  refine eX4_number a i j k (vX4_number_0 a i j k ⟨(tP ha).1, rX4_fiberAt ha hX i0 i9 j0 j9 ?_⟩)
  simp only [hX.1.1]
  exact ⟨rfl, rX1_number hg (isR_b hg.1 (fibR hg.1 hW i0 i9 j0 j9)) ⟨k0, k9⟩ hQ⟩
theorem rX4_setNumber {i j k v : Int} (hg : Gd h p) (ha : isP a) (hX : XP h a p P) (hW : WF p P) (i0 : 0 ≤ i) (i9 : i < 9) (j0 : 0 ≤ j) (j9 : j < 9) (k0 : 0 ≤ k) (k9 : k ≤ 9) (hQ : Q 0 G0 (hset h (a + 2) (9 * i + j) (wn p (fb P (9 * i + j)) k v))) : R l MX4_setNumber (d + 2) 0 0 [vR a, vI i, vI j, vI k, vI v] G0 h Q := by
  refine eX4_setNumber a i j k v (vX4_setNumber_0 a i j k v ⟨(tP ha).1, rX4_fiberAt ha hX i0 i9 j0 j9 ?_⟩)
  simp only [hX.1.1]
  exact ⟨rfl, rX1_withNumber hg (isR_b hg.1 (fibR hg.1 hW i0 i9 j0 j9)) ⟨k0, k9⟩ ⟨(tP ha).1, rX4_setFiber ha hX.1.2.2.1 i0 i9 j0 j9 hQ⟩⟩
theorem rX4_rowOf {w t : Int} (ha : isP a) (hX : XP h a p P) (hW : WF p P) (w0 : 0 ≤ w) (w3 : w < 3) (t0 : 0 ≤ t) (tT : t < tm P) (hQ : Q (rw' P (40 * w + t)) G0 h) : R l MX4_rowOf d 0 0 [vR a, vI w, vI t] G0 h Q := by
  refine eX4_rowOf a w t (vX4_rowOf_0 a w t ?_)
  simp only [hX.1.2.2.2.1]
  rw [hX.2.2.2.2.1 w t w0 w3 t0 tT]
  have := hW.2.2.1
  exact ⟨(tP ha).1, ia3 ha (by omega) (by omega), hQ⟩
theorem rX4_matesOf {w t : Int} (ha : isP a) (hX : XP h a p P) (hW : WF p P) (w0 : 0 ≤ w) (w3 : w < 3) (t0 : 0 ≤ t) (tT : t < tm P) (hQ : Q (mcn p P w t) G0 h) : R l MX4_matesOf d 0 0 [vR a, vI w, vI t] G0 h Q := by
  refine eX4_matesOf a w t (vX4_matesOf_0 a w t ?_)
  simp only [hX.1.2.2.2.2.2]
  rw [hX.2.2.2.2.2.2 w t w0 w3 t0 tT]
  have := hW.2.2.1
  exact ⟨(tP ha).1, ia5 ha (by omega) (by omega), hQ⟩
abbrev alk (p : Int) (P : PS) (w s t : Int) : Prop := shp p (rw' P (40 * w + s)) ≠ 0 ∧ shp p (rw' P (40 * w + s)) = shp p (rw' P (40 * w + t))
theorem shp_R {x : Int} (hp : okp p) : isR p (shp p x) := pl_R hp
theorem shp_i {x : Int} (hp : okp p) : inR (shp p x) := by
  have := isR_b hp (shp_R (x := x) hp)
  exact ⟨by omega, by omega⟩
theorem rX4_alike {w s t : Int} (hg : Gd h p) (ha : isP a) (hX : XP h a p P) (hW : WF p P) (w0 : 0 ≤ w) (w3 : w < 3) (s0 : 0 ≤ s) (sT : s < tm P) (t0 : 0 ≤ t) (tT : t < tm P) (h1 : alk p P w s t → Q 1 G0 h) (h0 : ¬ alk p P w s t → Q 0 G0 h) : R l MX4_alike d 0 0 [vR a, vI w, vI s, vI t] G0 h Q := by
  refine eX4_alike a w s t (vX4_alike_0 a w s t ?_)
  simp only [hX.1.2.2.2.2.1]
  rw [hX.2.2.2.2.2.1 w s w0 w3 s0 sT, hX.2.2.2.2.2.1 w t w0 w3 t0 tT]
  have := hW.2.2.1
  exact ⟨(tP ha).1, ia4 ha (by omega) (by omega), shp_i hg.1, fun c => h0 (fun z => z.1 c), fun c => ⟨ia4 ha (by omega) (by omega), shp_i hg.1, fun c2 => h0 (fun z => c2 z.2), fun c2 => h1 ⟨c, c2⟩⟩⟩
def fac (p : Int) (P : PS) (w s t : Int) : Int := FV p (rw' P (40 * w + t)) * iv p (FV p (rw' P (40 * w + s))) % p
theorem rX4_factor {w s t : Int} (hg : Gd h p) (ha : isP a) (hX : XP h a p P) (hW : WF p P) (w0 : 0 ≤ w) (w3 : w < 3) (s0 : 0 ≤ s) (sT : s < tm P) (t0 : 0 ≤ t) (tT : t < tm P) (hs : rw' P (40 * w + s) ≠ 0) (hQ : Q (fac p P w s t) G0 h) : R l MX4_factor (d + 2) 0 0 [vR a, vI w, vI s, vI t] G0 h Q := by
  have hp := okp_b hg.1
  refine eX4_factor a w s t (vX4_factor_0 a w s t ⟨(tP ha).1, rX4_rowOf ha hX hW w0 w3 s0 sT ?_⟩)
  simp only [hX.1.1]
  refine ⟨rfl, rX1_first hg (rowR hg.1 hW w0 w3 s0 sT) ⟨(tP ha).1, rX4_rowOf ha hX hW w0 w3 t0 tT ?_⟩⟩
  simp only [hX.1.1]
  refine ⟨rfl, rX1_first hg (rowR hg.1 hW w0 w3 t0 tT) ?_⟩
  simp only [hX.1.1, hg.2.1, hg.2.2.2.1]
  have h1 := FV_ok hg.1 (rowR hg.1 hW w0 w3 s0 sT) hs
  have h2 := iv_ok hg.1 h1.1 h1.2
  have h3 : 0 ≤ FV p (rw' P (40 * w + t)) := D_nn hp.1
  have h4 : FV p (rw' P (40 * w + t)) < p := D_lt hp.1
  rw [hg.2.2.2.2.2 _ h1.1 h1.2]
  have h5 := ml_b (a := 6) (b := 6) h3 (by omega) (show 0 ≤ iv p (FV p (rw' P (40 * w + s))) by omega) (by omega)
  exact ⟨(tP ha).1, rfl, ⟨rfl, by omega, by show FV p (rw' P (40 * w + s)) < 7; omega⟩, ⟨⟨h5.1, by omega⟩, by omega, by omega⟩, hQ⟩
end PieceR
