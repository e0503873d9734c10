theorem pl_f0 {p a b : Int} (hp : okp p) (ha : isR p a) : pl p a 0 b = a := by
  refine D_inj (okp_b hp).1 9 (pl_R hp) ha (fun i h1 h2 => ?_)
  rw [D_pl hp h1 h2, Int.zero_mul, Int.add_zero]
  exact Int.emod_eq_of_lt (D_nn (okp_b hp).1) (D_lt (okp_b hp).1)
def bbJ (p : Int) (P : PS) (x y i : Int) (z : Int) : Nat → Int
  | 0 => z
  | n + 1 => pl p (bbJ p P x y i z n) (D p x i * D p y n % p) (fb P (9 * i + n))
def bbI (p : Int) (P : PS) (x y : Int) : Nat → Int
  | 0 => 0
  | n + 1 => bbJ p P x y n (bbI p P x y n) (sz P 1).toNat
def bsT (p : Int) (P : PS) (x y : Int) : Nat → Int
  | 0 => 0
  | n + 1 => pl p (bsT p P x y n) (sm (fun i => D p (rw' P (40 * 0 + n)) i * D p x i) 9 % p * (sm (fun i => D p (rw' P (40 * 1 + n)) i * D p y i) 9 % p) % p) (rw' P (40 * 2 + n))
def adk (p : Int) (P : PS) (k : Int) : Nat → Int
  | 0 => 0
  | n + 1 => pl p (adk p P k n) (D p (rw' P (40 * 0 + n)) (k / 9) * D p (rw' P (40 * 1 + n)) (k % 9) % p) (rw' P (40 * 2 + n))
theorem R0 {p : Int} (hp : okp p) : isR p 0 := ⟨by omega, PW_pos (okp_b hp).1 9⟩
theorem adk_R {p k : Int} {P : PS} (hp : okp p) : ∀ n : Nat, isR p (adk p P k n)
  | 0 => R0 hp
  | _ + 1 => pl_R hp
theorem bbJ_R {p x y i z : Int} {P : PS} (hp : okp p) (hz : isR p z) : ∀ n : Nat, isR p (bbJ p P x y i z n)
  | 0 => hz
  | _ + 1 => pl_R hp
theorem bbI_R {p x y : Int} {P : PS} (hp : okp p) : ∀ n : Nat, isR p (bbI p P x y n)
  | 0 => R0 hp
  | n + 1 => bbJ_R hp (bbI_R hp n) _
theorem bsT_R {p x y : Int} {P : PS} (hp : okp p) : ∀ n : Nat, isR p (bsT p P x y n)
  | 0 => R0 hp
  | _ + 1 => pl_R hp
theorem adk_s {p k t : Int} {P : PS} (h : 0 ≤ t) : adk p P k (t + 1).toNat = pl p (adk p P k t.toNat) (D p (rw' P (40 * 0 + t)) (k / 9) * D p (rw' P (40 * 1 + t)) (k % 9) % p) (rw' P (40 * 2 + t)) := by
  rw [nat_s h]
  show pl p (adk p P k t.toNat) (D p (rw' P (40 * 0 + (t.toNat : Int))) (k / 9) * D p (rw' P (40 * 1 + (t.toNat : Int))) (k % 9) % p) (rw' P (40 * 2 + (t.toNat : Int))) = _
  rw [Int.toNat_of_nonneg h]
/-- the n-th index where x isn't 0 -/
def fdx (p x : Int) : Nat → Int → Int → Int
  | 0, _, _ => 0
  | n + 1, k, c => if D p x k = 0 then fdx p x n (k + 1) c else if c = 0 then k else fdx p x n (k + 1) (c + (-1))
theorem fdx_s {p x k c : Int} {n : Nat} : fdx p x (n + 1) k c = if D p x k = 0 then fdx p x n (k + 1) c else if c = 0 then k else fdx p x n (k + 1) (c + (-1)) := rfl
def ofx (p : Int) (P : PS) (k : Int) : Int := pl p (adk p P k (tm P).toNat) ((p - 1) % p) (fb P k)
def wpJ (p : Int) (P : PS) (i : Int) : Nat → Int → Int → Int ⊕ Int
  | 0, _, c => .inl c
  | n + 1, j, c => if ct (D p (ofx p P (9 * i + j))) 9 ≤ c then wpJ p P i n (j + 1) (c - ct (D p (ofx p P (9 * i + j))) 9) else .inr (100 * i + 10 * j + fdx p (ofx p P (9 * i + j)) 9 0 c)
theorem wpJ_s {p i j c : Int} {P : PS} {n : Nat} : wpJ p P i (n + 1) j c = if ct (D p (ofx p P (9 * i + j))) 9 ≤ c then wpJ p P i n (j + 1) (c - ct (D p (ofx p P (9 * i + j))) 9) else .inr (100 * i + 10 * j + fdx p (ofx p P (9 * i + j)) 9 0 c) := rfl
def wpI (p : Int) (P : PS) : Nat → Int → Int → Int
  | 0, _, _ => -1
  | n + 1, i, c => match wpJ p P i (sz P 1).toNat 0 c with
    | .inl c' => wpI p P n (i + 1) c'
    | .inr r => r
theorem wpI_s {p i c : Int} {P : PS} {n : Nat} : wpI p P (n + 1) i c = match wpJ p P i (sz P 1).toNat 0 c with
    | .inl c' => wpI p P n (i + 1) c'
    | .inr r => r := rfl
section Run
variable {l : Launch} {d : Nat} {h : HP} {p a : Int} {P : PS} {Q : Int → GS → HP → Prop}
theorem ml_dv {x y : Int} (hp : okp p) (hx : isD p x) (hy : isD p y) : dvR (x * y) p := by
  have hb := okp_b hp
  have := ml_b (a := 6) (b := 6) hx.1 (by have := hx.2; omega) hy.1 (by have := hy.2; omega)
  exact ⟨⟨this.1, by omega⟩, by omega, by omega⟩
theorem D_D {x i : Int} (hp : okp p) : isD p (D p x i) := ⟨D_nn (okp_b hp).1, D_lt (okp_b hp).1⟩
theorem rX5_byBox {x y : Int} (hg : Gd h p) (ha : isP a) (hr : h 45 0 = 1) (hX : XP h a p P) (hW : WF p P) (hx : isR p x) (hy : isR p y) (hQ : Q (bbI p P x y (sz P 0).toNat) G0 h) : R l MX5_byBox (d + 1) 0 0 [vR 45, vR a, vI x, vI y] G0 h Q := by
  have hA := hW.1 0 (by decide) (by decide)
  have hB := hW.1 1 (by decide) (by decide)
  have sA := hX.2.1 0 (by decide) (by decide)
  have sB := hX.2.1 1 (by decide) (by decide)
  have hx2 := isR_b hg.1 hx
  have hy2 := isR_b hg.1 hy
  refine eX5_byBox 45 a x y (vX5_byBox_0 45 a x y ?_)
  refine lp_up (σ := Unit) (fun i _ => S l MX5_byBox (d + 1, 0, 0, 0, 0) 6 [some (vR 45), some (vR a), some (vI x), some (vI y), some (vI (bbI p P x y i.toNat)), some (vI i), none, none] [] G0 h Q) (fun i _ => 0 ≤ i) (sz P 0) ?_ ?_ 0 () (by omega) (by decide)
  · intro i _ hi i0 ih
    refine vX5_byBox_6 45 a x y _ i ?_
    simp only [hX.1.2.1, sA]
    refine ⟨(tP ha).1, ia1 ha (by decide) (by decide), ⟨by omega, by omega⟩, ⟨by omega, by omega⟩, fun c => by omega, fun _ => ?_⟩
    refine lp_up (σ := Unit) (fun j _ => S l MX5_byBox (d + 1, 0, 0, 0, 0) 20 [some (vR 45), some (vR a), some (vI x), some (vI y), some (vI (bbJ p P x y i (bbI p P x y i.toNat) j.toNat)), some (vI i), some (vI j), none] [] G0 h Q) (fun j _ => 0 ≤ j) (sz P 1) ?_ ?_ 0 () (by omega) (by decide)
    · intro j _ hj j0 ih2
      refine vX5_byBox_20 45 a x y _ i j ?_
      simp only [hX.1.2.1, sB, hr]
      refine ⟨(tP ha).1, ia1 ha (by decide) (by decide), ⟨by omega, by omega⟩, ⟨by omega, by omega⟩, fun c => by omega, fun _ => ⟨rfl, rfl, rX1_number hg hx2 ⟨i0, by omega⟩ ?_⟩⟩
      simp only [hr]
      refine ⟨rfl, rfl, rX1_number hg hy2 ⟨j0, by omega⟩ ?_⟩
      simp only [hr, hg.2.1]
      refine ⟨rfl, rfl, ml_dv hg.1 (D_D hg.1) (D_D hg.1), (tP ha).1, rX4_fiberAt ha hX i0 (by omega) j0 (by omega) ⟨rfl, rX1_plus hg (bbJ_R hg.1 (bbI_R hg.1 _) _) (fibR hg.1 hW i0 (by omega) j0 (by omega)) (md_D hg.1) ?_⟩⟩
      have := ih2 () (by omega)
      rw [nat_s j0] at this
      have e : bbJ p P x y i (bbI p P x y i.toNat) (j.toNat + 1) = pl p (bbJ p P x y i (bbI p P x y i.toNat) j.toNat) (D p x i * D p y j % p) (fb P (9 * i + j)) := by
        show pl p _ (D p x i * D p y (j.toNat : Int) % p) (fb P (9 * i + (j.toNat : Int))) = _
        rw [Int.toNat_of_nonneg j0]
      rw [e] at this
      exact this
    · intro _ j0
      refine vX5_byBox_20 45 a x y _ i _ ?_
      simp only [hX.1.2.1, sB]
      refine ⟨(tP ha).1, ia1 ha (by decide) (by decide), ⟨by omega, by omega⟩, ⟨by omega, by omega⟩, fun _ => ?_, fun c => by omega⟩
      have := ih () (by omega)
      rw [nat_s i0] at this
      have e : bbI p P x y (i.toNat + 1) = bbJ p P x y i (bbI p P x y i.toNat) (sz P 1).toNat := by
        show bbJ p P x y (i.toNat : Int) _ _ = _
        rw [Int.toNat_of_nonneg i0]
      rw [e] at this
      exact this
  · intro _ i0
    refine vX5_byBox_6 45 a x y _ _ ?_
    simp only [hX.1.2.1, sA]
    exact ⟨(tP ha).1, ia1 ha (by decide) (by decide), ⟨by omega, by omega⟩, ⟨by omega, by omega⟩, fun _ => hQ, fun c => by omega⟩
theorem rX5_byScheme {x y : Int} (hg : Gd h p) (ha : isP a) (hr : h 45 0 = 1) (hX : XP h a p P) (hW : WF p P) (hx : isR p x) (hy : isR p y) (hQ : Q (bsT p P x y (tm P).toNat) G0 h) : R l MX5_byScheme (d + 1) 0 0 [vR 45, vR a, vI x, vI y] G0 h Q := by
  have hT := hW.2.2.1
  refine eX5_byScheme 45 a x y (vX5_byScheme_0 45 a x y ?_)
  refine lp_up (σ := Unit) (fun t _ => S l MX5_byScheme (d + 1, 0, 0, 0, 0) 6 [some (vR 45), some (vR a), some (vI x), some (vI y), some (vI (bsT p P x y t.toNat)), some (vI t), none, none] [] G0 h Q) (fun t _ => 0 ≤ t) (tm P) ?_ ?_ 0 () hT.1 (by decide)
  · intro t _ ht t0 ih
    refine vX5_byScheme_6 45 a x y _ t ?_
    simp only [hX.2.2.2.1, hr]
    refine ⟨(tP ha).1, ⟨by omega, by omega⟩, ⟨by omega, by omega⟩, fun c => by omega, fun _ => ⟨rfl, rX4_rowOf ha hX hW (by decide) (by decide) t0 ht ⟨rfl, rX1_sumOfProducts hg (rowR hg.1 hW (by decide) (by decide) t0 ht) hx ⟨rfl, (tP ha).1, rX4_rowOf ha hX hW (by decide) (by decide) t0 ht ?_⟩⟩⟩⟩
    simp only [hr]
    refine ⟨rfl, rX1_sumOfProducts hg (rowR hg.1 hW (by decide) (by decide) t0 ht) hy ?_⟩
    simp only [hr, hg.2.1]
    refine ⟨rfl, rfl, ml_dv hg.1 (md_D hg.1) (md_D hg.1), (tP ha).1, rX4_rowOf ha hX hW (by decide) (by decide) t0 ht ⟨rfl, rX1_plus hg (bsT_R hg.1 _) (rowR hg.1 hW (by decide) (by decide) t0 ht) (md_D hg.1) ?_⟩⟩
    have := ih () (by omega)
    rw [nat_s t0] at this
    have e : bsT p P x y (t.toNat + 1) = pl p (bsT p P x y t.toNat) (sm (fun i => D p (rw' P (40 * 0 + t)) i * D p x i) 9 % p * (sm (fun i => D p (rw' P (40 * 1 + t)) i * D p y i) 9 % p) % p) (rw' P (40 * 2 + t)) := by
      show pl p _ (sm (fun i => D p (rw' P (40 * 0 + (t.toNat : Int))) i * D p x i) 9 % p * (sm (fun i => D p (rw' P (40 * 1 + (t.toNat : Int))) i * D p y i) 9 % p) % p) (rw' P (40 * 2 + (t.toNat : Int))) = _
      rw [Int.toNat_of_nonneg t0]
    rw [e] at this
    exact this
  · intro _ t0
    refine vX5_byScheme_6 45 a x y _ _ ?_
    simp only [hX.2.2.2.1]
    exact ⟨(tP ha).1, ⟨by omega, by omega⟩, ⟨by omega, by omega⟩, fun _ => hQ, fun c => by omega⟩
theorem XP46 {hh : HP} (ha : isP a) (hX : XP h a p P) (hf : ∀ b, b ≠ 46 → hh b = h b) : XP hh a p P := by
  have := isP_b ha
  have e0 := hf a (by omega)
  have e1 := hf (a + 1) (by omega)
  have e2 := hf (a + 2) (by omega)
  have e3 := hf (a + 3) (by omega)
  have e4 := hf (a + 4) (by omega)
  have e5 := hf (a + 5) (by omega)
  unfold XP Pr
  rw [e0, e1, e2, e3, e4, e5]
  exact hX
theorem Gd46 {hh : HP} (hg : Gd h p) (hf : ∀ b, b ≠ 46 → hh b = h b) : Gd hh p := by
  obtain ⟨g1, g2, g3, g4, g5, g6⟩ := hg
  have e1 := hf 1 (by decide)
  have e2 := hf 2 (by decide)
  have e3 := hf 3 (by decide)
  exact ⟨g1, by rw [e1]; exact g2, by rw [e1]; exact g3, by rw [e1]; exact g4, by rw [e2]; exact g5, by rw [e3]; exact g6⟩
theorem rX5_addLine {t i f : Int} (hg : Gd h p) (ha : isP a) (hr : h 45 0 = 1 ∧ h 45 1 = 46) (hX : XP h a p P) (hW : WF p P) (t0 : 0 ≤ t) (tT : t < tm P) (i0 : 0 ≤ i) (i9 : i < 9) (hf : isD p f) (hR : ∀ k, 0 ≤ k → k < 81 → isR p (h 46 k)) (hQ : ∀ h', (∀ b, b ≠ 46 → h' b = h b) → (∀ k, 0 ≤ k → k < 81 → h' 46 k = if k / 9 = i ∧ k % 9 < sz P 1 then pl p (h 46 k) (f * D p (rw' P (40 * 1 + t)) (k % 9) % p) (rw' P (40 * 2 + t)) else h 46 k) → Q 0 G0 h') : R l MX5_addLine (d + 1) 0 0 [vR 45, vR a, vI t, vI i, vI f] G0 h Q := by
  have hB := hW.1 1 (by decide) (by decide)
  refine eX5_addLine 45 a t i f (vX5_addLine_0 45 a t i f ⟨(tP ha).1, rX4_rowOf ha hX hW (by decide) (by decide) t0 tT ⟨(tP ha).1, rX4_rowOf ha hX hW (by decide) (by decide) t0 tT ?_⟩⟩)
  refine lp_up (σ := HP) (fun j hh => S l MX5_addLine (d + 1, 0, 0, 0, 0) 19 [some (vR 45), some (vR a), none, some (vI i), some (vI f), some (vI (rw' P (40 * 1 + t))), some (vI (rw' P (40 * 2 + t))), some (vI j), none, none] [] G0 hh Q) (fun j hh => 0 ≤ j ∧ (∀ b, b ≠ 46 → hh b = h b) ∧ ∀ k, 0 ≤ k → k < 81 → hh 46 k = if k / 9 = i ∧ k % 9 < j then pl p (h 46 k) (f * D p (rw' P (40 * 1 + t)) (k % 9) % p) (rw' P (40 * 2 + t)) else h 46 k) (sz P 1) ?_ ?_ 0 h (by omega) ⟨by decide, fun _ _ => rfl, fun k k0 k1 => by rw [if_neg (by omega)]⟩
  · intro j hh hj ⟨j0, f1, k1⟩ ih
    have hXh := XP46 ha hX f1
    have hgh := Gd46 hg f1
    have sB := hXh.2.1 1 (by decide) (by decide)
    have r1 : hh 45 0 = 1 := by rw [f1 45 (by decide)]; exact hr.1
    have r2 : hh 45 1 = 46 := by rw [f1 45 (by decide)]; exact hr.2
    refine vX5_addLine_19 45 a i f _ _ j ?_
    simp only [hXh.1.2.1, sB, r1]
    refine ⟨(tP ha).1, ia1 ha (by decide) (by decide), ⟨by omega, by omega⟩, ⟨by omega, by omega⟩, fun c => by omega, fun _ => ⟨rfl, rfl, rX1_number hgh (isR_b hg.1 (rowR hg.1 hW (by decide) (by decide) t0 tT)) ⟨j0, by omega⟩ ?_⟩⟩
    simp only [r1, r2, hgh.2.1]
    have ek : hh 46 (9 * i + j) = h 46 (9 * i + j) := by rw [k1 _ (by omega) (by omega), if_neg (by omega)]
    rw [ek]
    refine ⟨rfl, rfl, ml_dv hg.1 hf (D_D hg.1), ⟨rfl, by omega, by show 9 * i + j < 81; omega⟩, rX1_plus hgh (hR _ (by omega) (by omega)) (rowR hg.1 hW (by decide) (by decide) t0 tT) (md_D hg.1) ⟨⟨rfl, by omega, by show 9 * i + j < 81; omega⟩, fun h19 e19 => ih h19 ⟨by omega, fun b hb => by rw [e19, hset_oa hb]; exact f1 b hb, fun k k0 k8 => ?_⟩⟩⟩
    rw [e19]
    by_cases e : k = 9 * i + j
    · rw [e, hset_s, if_pos (by omega), show (9 * i + j) % 9 = j by omega]
    · rw [hset_oj e, k1 k k0 k8]
      by_cases c : k / 9 = i ∧ k % 9 < j
      · rw [if_pos c, if_pos (by omega)]
      · rw [if_neg c, if_neg (by omega)]
  · intro hh ⟨j0, f1, k1⟩
    have hXh := XP46 ha hX f1
    have sB := hXh.2.1 1 (by decide) (by decide)
    refine vX5_addLine_19 45 a i f _ _ _ ?_
    simp only [hXh.1.2.1, sB]
    exact ⟨(tP ha).1, ia1 ha (by decide) (by decide), ⟨by omega, by omega⟩, ⟨by omega, by omega⟩, fun _ => hQ hh f1 k1, fun c => by omega⟩
theorem rX5_addAll (hg : Gd h p) (ha : isP a) (hr : h 45 0 = 1 ∧ h 45 1 = 46) (hX : XP h a p P) (hW : WF p P) (hQ : ∀ h', (∀ b, b ≠ 46 → h' b = h b) → (∀ k, 0 ≤ k → k < 81 → h' 46 k = adk p P k (tm P).toNat) → Q 0 G0 h') : R l MX5_addAll (d + 2) 0 0 [vR 45, vR a] G0 h Q := by
  have hA := hW.1 0 (by decide) (by decide)
  have hT := hW.2.2.1
  refine eX5_addAll 45 a (vX5_addAll_0 45 a ?_)
  simp only [hr.2]
  refine ⟨rfl, rJ7_fill rfl (by decide) (by decide) (fun h4 f4 k4 => ?_)⟩
  refine lp_up (σ := HP) (fun t hh => S l MX5_addAll (d + 1 + 1, 0, 0, 0, 0) 10 [some (vR 45), some (vR a), some (vI t), none, none, none] [] G0 hh Q) (fun t hh => 0 ≤ t ∧ (∀ b, b ≠ 46 → hh b = h b) ∧ ∀ k, 0 ≤ k → k < 81 → hh 46 k = adk p P k t.toNat) (tm P) ?_ ?_ 0 h4 hT.1 ⟨by decide, f4, fun k k0 k1 => k4 k k0 k1⟩
  · intro t hh ht ⟨t0, f1, k1⟩ ih
    have hXh := XP46 ha hX f1
    have hgh := Gd46 hg f1
    have r1 : hh 45 0 = 1 := by rw [f1 45 (by decide)]; exact hr.1
    have hu := hW.2.2.2 0 t (by decide) (by decide) t0 ht
    have hv := hW.2.2.2 1 t (by decide) (by decide) t0 ht
    have zero : ∀ k, 0 ≤ k → k < 81 → (D p (rw' P (40 * 0 + t)) (k / 9) = 0 ∨ sz P 1 ≤ k % 9) → adk p P k (t + 1).toNat = adk p P k t.toNat := fun k k0 k8 hz => by
      rw [adk_s t0]
      have e : D p (rw' P (40 * 0 + t)) (k / 9) * D p (rw' P (40 * 1 + t)) (k % 9) % p = 0 := by
        rcases hz with z | z
        · rw [z]; simp
        · rw [D_sz hg.1 hv z]; simp
      rw [e, pl_f0 hg.1 (adk_R hg.1 _)]
    refine vX5_addAll_10 45 a t ?_
    simp only [hXh.2.2.2.1]
    refine ⟨(tP ha).1, ⟨by omega, by omega⟩, ⟨by omega, by omega⟩, fun c => by omega, fun _ => rX4_rowOf ha hXh hW (by decide) (by decide) t0 ht ?_⟩
    refine lp_up (σ := HP) (fun i hh => S l MX5_addAll (d + 1 + 1, 0, 0, 0, 0) 28 [some (vR 45), some (vR a), some (vI t), some (vI (rw' P (40 * 0 + t))), some (vI i), none] [] G0 hh Q) (fun i hh => 0 ≤ i ∧ (∀ b, b ≠ 46 → hh b = h b) ∧ ∀ k, 0 ≤ k → k < 81 → hh 46 k = if k / 9 < i then adk p P k (t + 1).toNat else adk p P k t.toNat) (sz P 0) ?_ ?_ 0 hh (by omega) ⟨by decide, f1, fun k k0 k8 => by rw [if_neg (by omega)]; exact k1 k k0 k8⟩
    · intro i hh hi ⟨i0, f2, k2⟩ ih2
      have hXi := XP46 ha hX f2
      have hgi := Gd46 hg f2
      have s1 : hh 45 0 = 1 := by rw [f2 45 (by decide)]; exact hr.1
      have s2 : hh 45 1 = 46 := by rw [f2 45 (by decide)]; exact hr.2
      have sA := hXi.2.1 0 (by decide) (by decide)
      refine vX5_addAll_28 45 a t _ i ?_
      simp only [hXi.1.2.1, sA, s1]
      have dD := D_D (x := rw' P (40 * 0 + t)) (i := i) hg.1
      have hp7 := okp_b hg.1
      refine ⟨(tP ha).1, ia1 ha (by decide) (by decide), ⟨by omega, by omega⟩, ⟨by omega, by omega⟩, fun c => by omega, fun _ => ⟨rfl, rfl, rX1_number hgi (isR_b hg.1 (rowR hg.1 hW (by decide) (by decide) t0 ht)) ⟨i0, by omega⟩ ⟨⟨by omega, by omega⟩, fun c => ?_, fun c => ⟨rfl, ?_⟩⟩⟩⟩
      · refine ih2 hh ⟨by omega, f2, fun k k0 k8 => ?_⟩
        rw [k2 k k0 k8]
        by_cases e : k / 9 < i
        · rw [if_pos e, if_pos (by omega)]
        · rw [if_neg e]
          by_cases e2 : k / 9 < i + 1
          · rw [if_pos e2, zero k k0 k8 (Or.inl (by rw [show k / 9 = i by omega]; exact c))]
          · rw [if_neg e2]
      · refine rX5_addLine (d := d) hgi ha ⟨s1, s2⟩ hXi hW t0 ht i0 (by omega) dD (fun k k0 k8 => ?_) (fun h15 f15 k15 => ih2 h15 ⟨by omega, fun b hb => by rw [f15 b hb]; exact f2 b hb, fun k k0 k8 => ?_⟩)
        · rw [k2 k k0 k8]
          by_cases e : k / 9 < i
          · rw [if_pos e]; exact adk_R hg.1 _
          · rw [if_neg e]; exact adk_R hg.1 _
        · rw [k15 k k0 k8, k2 k k0 k8]
          by_cases e : k / 9 < i
          · rw [if_neg (by omega), if_pos e, if_pos (by omega)]
          · by_cases e2 : k / 9 = i
            · rw [if_neg e, if_pos (show k / 9 < i + 1 by omega)]
              by_cases e3 : k % 9 < sz P 1
              · rw [if_pos ⟨e2, e3⟩, adk_s t0, e2]
              · rw [if_neg (fun z => e3 z.2), zero k k0 k8 (Or.inr (by omega))]
            · rw [if_neg (fun z => e2 z.1), if_neg e, if_neg (by omega)]
    · intro hh ⟨i0, f2, k2⟩
      have hXi := XP46 ha hX f2
      have sA := hXi.2.1 0 (by decide) (by decide)
      refine vX5_addAll_28 45 a t _ _ ?_
      simp only [hXi.1.2.1, sA]
      refine ⟨(tP ha).1, ia1 ha (by decide) (by decide), ⟨by omega, by omega⟩, ⟨by omega, by omega⟩, fun _ => ih hh ⟨by omega, f2, fun k k0 k8 => ?_⟩, fun c => by omega⟩
      rw [k2 k k0 k8]
      by_cases e : k / 9 < sz P 0
      · rw [if_pos e]
      · rw [if_neg e, zero k k0 k8 (Or.inl (D_sz hg.1 hu (by omega)))]
  · intro hh ⟨t0, f1, k1⟩
    have hXh := XP46 ha hX f1
    refine vX5_addAll_10 45 a _ ?_
    simp only [hXh.2.2.2.1]
    exact ⟨(tP ha).1, ⟨by omega, by omega⟩, ⟨by omega, by omega⟩, fun _ => hQ hh f1 k1, fun c => by omega⟩
theorem rX5_filledIndex {x c : Int} (hg : Gd h p) (hr : h 45 0 = 1) (hx : isR p x) (hc : 0 ≤ c ∧ c ≤ 1000000) (hQ : Q (fdx p x 9 0 c) G0 h) : R l MX5_filledIndex (d + 1) 0 0 [vR 45, vI x, vI c] G0 h Q := by
  refine eX5_filledIndex 45 x c (vX5_filledIndex_0 45 x c ?_)
  refine lp_up (σ := Int) (fun k c => S l MX5_filledIndex (d + 1, 0, 0, 0, 0) 5 [some (vR 45), some (vI x), none, some (vI c), some (vI k)] [] G0 h Q) (fun k c => 0 ≤ k ∧ (0 ≤ c ∧ c ≤ 1000000) ∧ Q (fdx p x (9 - k).toNat k c) G0 h) 9 ?_ ?_ 0 c (by decide) ⟨by decide, hc, by rw [show ((9 : Int) - 0).toNat = 9 from rfl]; exact hQ⟩
  · intro k c hk ⟨k0, hc, hf⟩ ih
    rw [show (9 - k).toNat = (9 - (k + 1)).toNat + 1 by omega, fdx_s] at hf
    have dD := D_D (x := x) (i := k) hg.1
    have hp7 := okp_b hg.1
    refine vX5_filledIndex_5 45 x c k ?_
    simp only [hr]
    refine ⟨⟨by omega, by omega⟩, fun c => by omega, fun _ => ⟨rfl, rfl, rX1_number hg (isR_b hg.1 hx) ⟨k0, by omega⟩ ⟨⟨by omega, by omega⟩, fun c1 => ?_, fun c1 => ⟨⟨by omega, by omega⟩, fun c2 => ?_, fun c2 => ?_⟩⟩⟩⟩
    · rw [if_pos c1] at hf
      exact ih c ⟨by omega, hc, hf⟩
    · rw [if_neg c1, if_neg c2] at hf
      exact ih _ ⟨by omega, ⟨by omega, by omega⟩, hf⟩
    · rw [if_neg c1, if_pos c2] at hf
      exact hf
  · intro c ⟨k0, hc, hf⟩
    exact vX5_filledIndex_5 45 x c 9 ⟨by decide, fun _ => hf, fun c => absurd c (by decide)⟩
set_option maxHeartbeats 1000000 in
theorem rX5_wrongPlace {n : Int} (hg : Gd h p) (ha : isP a) (hr : h 45 0 = 1 ∧ h 45 1 = 46) (hX : XP h a p P) (hW : WF p P) (hn : 0 ≤ n ∧ n ≤ 2147483647) (hQ : ∀ h', (∀ b, b ≠ 46 → h' b = h b) → Q (wpI p P (sz P 0).toNat 0 n) G0 h') : R l MX5_wrongPlace (d + 3) 0 0 [vR 45, vR a, vI n] G0 h Q := by
  have hA := hW.1 0 (by decide) (by decide)
  have hB := hW.1 1 (by decide) (by decide)
  refine eX5_wrongPlace 45 a n (vX5_wrongPlace_0 45 a n ⟨rfl, rX5_addAll (d := d) hg ha hr hX hW (fun hh f1 k1 => ?_)⟩)
  have hXh := XP46 ha hX f1
  have hgh := Gd46 hg f1
  have r1 : hh 45 0 = 1 := by rw [f1 45 (by decide)]; exact hr.1
  have r2 : hh 45 1 = 46 := by rw [f1 45 (by decide)]; exact hr.2
  have sA := hXh.2.1 0 (by decide) (by decide)
  have sB := hXh.2.1 1 (by decide) (by decide)
  have hQ := hQ hh f1
  refine lp_up (σ := Int) (fun i c => S l MX5_wrongPlace (d + 2 + 1, 0, 0, 0, 0) 10 [some (vR 45), some (vR a), none, some (vI c), some (vI i), none, none, none] [] G0 hh Q) (fun i c => 0 ≤ i ∧ (0 ≤ c ∧ c ≤ 2147483647) ∧ Q (wpI p P (sz P 0 - i).toNat i c) G0 hh) (sz P 0) ?_ ?_ 0 n (by omega) ⟨by decide, hn, by rw [Int.sub_zero]; exact hQ⟩
  · intro i c hi ⟨i0, hc, hf⟩ ih
    rw [show (sz P 0 - i).toNat = (sz P 0 - (i + 1)).toNat + 1 by omega, wpI_s] at hf
    refine vX5_wrongPlace_10 45 a c i ?_
    simp only [hXh.1.2.1, sA]
    refine ⟨(tP ha).1, ia1 ha (by decide) (by decide), ⟨by omega, by omega⟩, ⟨by omega, by omega⟩, fun c => by omega, fun _ => ?_⟩
    generalize hF : wpJ p P i (sz P 1).toNat 0 c = F at hf
    refine lp_up (σ := Int) (fun j c => S l MX5_wrongPlace (d + 2 + 1, 0, 0, 0, 0) 24 [some (vR 45), some (vR a), none, some (vI c), some (vI i), some (vI j), none, none] [] G0 hh Q) (fun j c => 0 ≤ j ∧ (0 ≤ c ∧ c ≤ 2147483647) ∧ wpJ p P i (sz P 1 - j).toNat j c = F) (sz P 1) ?_ ?_ 0 c (by omega) ⟨by decide, hc, by rw [Int.sub_zero]; exact hF⟩
    · intro j c hj ⟨j0, hc, hfj⟩ ih2
      rw [show (sz P 1 - j).toNat = (sz P 1 - (j + 1)).toNat + 1 by omega, wpJ_s] at hfj
      have hcb := ct_b (f := D p (ofx p P (9 * i + j))) 9
      refine vX5_wrongPlace_24 45 a c i j ?_
      simp only [hXh.1.2.1, sB, r1, r2]
      refine ⟨(tP ha).1, ia1 ha (by decide) (by decide), ⟨by omega, by omega⟩, ⟨by omega, by omega⟩, fun c => by omega, fun _ => ⟨rfl, ⟨rfl, by omega, by show 9 * i + j < 81; omega⟩, rX4_fiberAt ha hXh i0 (by omega) j0 (by omega) ⟨rfl, ?_⟩⟩⟩
      rw [k1 _ (by omega) (by omega)]
      refine rX1_minus (d := d + 1) hgh (adk_R hg.1 _) (fibR hg.1 hW i0 (by omega) j0 (by omega)) ⟨by omega, by have := okp_b hg.1; omega⟩ ?_
      simp only [r1]
      refine ⟨rfl, rfl, rX1_filled hgh (pl_R hg.1) ⟨⟨Int.le_trans (by decide) hcb.1, Int.le_trans hcb.2 (by decide)⟩, ⟨by omega, by omega⟩, fun c1 => ?_, fun c1 => ⟨rfl, rX5_filledIndex (d := d + 1) hgh r1 (pl_R hg.1) ⟨hc.1, ?_⟩ ?_⟩⟩⟩
      · have c1' : ct (D p (ofx p P (9 * i + j))) 9 ≤ c := c1
        rw [if_pos c1'] at hfj
        exact ih2 _ ⟨by omega, ⟨by show 0 ≤ c - ct (D p (ofx p P (9 * i + j))) 9; omega, by show c - ct (D p (ofx p P (9 * i + j))) 9 ≤ _; omega⟩, hfj⟩
      · have c1' : c < ct (D p (ofx p P (9 * i + j))) 9 := c1
        have := hcb.2
        omega
      · have c1' : ¬ ct (D p (ofx p P (9 * i + j))) 9 ≤ c := Int.not_le.mpr c1
        rw [if_neg c1'] at hfj
        rw [← hfj] at hf
        exact hf
    · intro c ⟨j0, hc, hfj⟩
      rw [show (sz P 1 - sz P 1).toNat = 0 by omega] at hfj
      have hfj' : Sum.inl c = F := hfj
      rw [← hfj'] at hf
      refine vX5_wrongPlace_24 45 a c i _ ?_
      simp only [hXh.1.2.1, sB]
      exact ⟨(tP ha).1, ia1 ha (by decide) (by decide), ⟨by omega, by omega⟩, ⟨by omega, by omega⟩, fun _ => ih c ⟨by omega, hc, hf⟩, fun c => by omega⟩
  · intro c ⟨i0, hc, hf⟩
    rw [show (sz P 0 - sz P 0).toNat = 0 by omega] at hf
    refine vX5_wrongPlace_10 45 a c _ ?_
    simp only [hXh.1.2.1, sA]
    exact ⟨(tP ha).1, ia1 ha (by decide) (by decide), ⟨by omega, by omega⟩, ⟨by omega, by omega⟩, fun _ => hf, fun c => by omega⟩
end Run
