/-- blends b: the vectors out of the rows a, and each row out of the vectors -/
def BA (p : Int) (n : Nat) (v b a : Int → Int) : Prop := ∀ m : Nat, m < n → isR p (b m) ∧ isR p (a m) ∧ (∀ s : Int, (m : Int) < s → s < 9 → D p (b m) s = 0) ∧ (∀ i : Int, 0 ≤ i → i < 9 → p ∣ D p (v m) i - sm (fun s => D p (b m) s * D p (a s) i) (m + 1)) ∧ Sp p 9 (m + 1) (DV p v) (D p (a m))
def XB (h : HP) (e : Int) (n : Nat) (v q b : Int → Int) : Prop := (h e 0 = 1 ∧ h e 1 = e + 1 ∧ h e 2 = e + 2 ∧ h e 3 = e + 3) ∧ h e 4 = n ∧ ∀ m : Int, 0 ≤ m → m < n → h (e + 1) m = v m ∧ h (e + 2) m = q m ∧ h (e + 3) m = b m
def isB (e : Int) : Prop := e = 47 ∨ e = 62 ∨ e = 66
def FrB (e : Int) (h h' : HP) : Prop := ∀ b, b < e ∨ e + 3 < b → h' b = h b
/-- the basis at e holds the independent rows a -/
def XS (h : HP) (e p : Int) (n : Nat) (a : Int → Int) : Prop := ∃ v q b, XB h e n v q b ∧ BV p n v q ∧ BA p n v b a ∧ Ind p 9 n (DV p a) ∧ n ≤ 9
theorem tB {e : Int} (he : isB e) : ty G0 e = 0 ∧ (ty G0 (e + 1) = 10 ∧ ln G0 (e + 1) = 9) ∧ (ty G0 (e + 2) = 10 ∧ ln G0 (e + 2) = 9) ∧ (ty G0 (e + 3) = 10 ∧ ln G0 (e + 3) = 9) := by
  rcases he with rfl | rfl | rfl <;> decide +kernel
theorem XB.fr {h h' : HP} {e : Int} {n : Nat} {v q b : Int → Int} (hX : XB h e n v q b) (hf : h' e = h e ∧ h' (e + 1) = h (e + 1) ∧ h' (e + 2) = h (e + 2) ∧ h' (e + 3) = h (e + 3)) : XB h' e n v q b := by
  unfold XB
  rw [hf.1, hf.2.1, hf.2.2.1, hf.2.2.2]
  exact hX
theorem XS.fr {h h' : HP} {e p : Int} {n : Nat} {a : Int → Int} (hX : XS h e p n a) (hf : h' e = h e ∧ h' (e + 1) = h (e + 1) ∧ h' (e + 2) = h (e + 2) ∧ h' (e + 3) = h (e + 3)) : XS h' e p n a := by
  obtain ⟨v, q, b, h1, h2⟩ := hX
  exact ⟨v, q, b, h1.fr hf, h2⟩
theorem BV_le {p : Int} {n : Nat} {v q : Int → Int} (hB : BV p (n + 1) v q) : BV p n v q := fun k k0 k1 => ⟨(hB k k0 (by omega)).1, (hB k k0 (by omega)).2.1, (hB k k0 (by omega)).2.2.1, (hB k k0 (by omega)).2.2.2.1, fun j j0 j1 => (hB k k0 (by omega)).2.2.2.2 j j0 (by omega)⟩
theorem va_Sp {p : Int} {n : Nat} {v b a : Int → Int} (hA : BA p n v b a) (s : Int) (s0 : 0 ≤ s) (s1 : s < n) : Sp p 9 n (DV p a) (DV p v s) := by
  obtain ⟨m, rfl⟩ : ∃ m : Nat, s = m := ⟨s.toNat, by omega⟩
  have h1 := (hA m (by omega)).2.2.2.1
  exact Sp_le (n := m + 1) ⟨D p (b m), h1⟩ (by omega)
theorem av_Sp {p : Int} {n : Nat} {v b a : Int → Int} (hA : BA p n v b a) (s : Int) (s0 : 0 ≤ s) (s1 : s < n) : Sp p 9 n (DV p v) (DV p a s) := by
  obtain ⟨m, rfl⟩ : ∃ m : Nat, s = m := ⟨s.toNat, by omega⟩
  exact Sp_le (hA m (by omega)).2.2.2.2 (by omega)
theorem Sp_av {p : Int} {n : Nat} {v b a : Int → Int} {x : Int → Int} (hA : BA p n v b a) : Sp p 9 n (DV p v) x ↔ Sp p 9 n (DV p a) x := ⟨fun h => Sp_lin h (va_Sp hA), fun h => Sp_lin h (av_Sp hA)⟩
/-- the blend says how the part taken out comes of the rows a -/
theorem bln_c {p x : Int} {v q b a : Int → Int} (hp : okp p) : ∀ n : Nat, n ≤ 9 → BA p n v b a → (∀ s : Int, (n : Int) ≤ s → s < 9 → D p (bln p v q b x n) s = 0) ∧ ∀ i : Int, 0 ≤ i → i < 9 → p ∣ D p x i - D p (rdc p v q x n) i - sm (fun s => D p (bln p v q b x n) s * D p (a s) i) n
  | 0, _, _ => ⟨fun s _ _ => D_z, fun i _ _ => ⟨0, by show D p x i - D p x i - 0 = p * 0; omega⟩⟩
  | n + 1, hn, hA => by
    have ih := bln_c (x := x) (q := q) hp n (by omega) (fun m hm => hA m (by omega))
    have hm := hA n (by omega)
    have hz : ∀ s : Int, ((n + 1 : Nat) : Int) ≤ s → s < 9 → D p (bln p v q b x (n + 1)) s = 0 := fun s s0 s9 => by
      show D p (pl p (bln p v q b x n) (D p (rdc p v q x n) (q n)) (b n)) s = 0
      rw [D_pl hp (by omega) s9, ih.1 s (by omega) s9, hm.2.2.1 s (by omega) s9]
      simp
    refine ⟨hz, fun i i0 i9 => ?_⟩
    have h1 := ih.2 i i0 i9
    have h2 := D_mi (a := rdc p v q x n) (f := D p (rdc p v q x n) (q n)) (b := v n) hp i0 i9
    have h3 := hm.2.2.2.1 i i0 i9
    have h4 : p ∣ sm (fun s => (D p (bln p v q b x n) s + D p (rdc p v q x n) (q n) * D p (b n) s - D p (bln p v q b x (n + 1)) s) * D p (a s) i) (n + 1) := sm_dvd (n + 1) (fun s s0 s1 => Int.dvd_trans (D_pd (a := bln p v q b x n) (f := D p (rdc p v q x n) (q n)) (b := b n) hp s0 (by omega)) (Int.dvd_mul_right _ _))
    have e1 : sm (fun s => (D p (bln p v q b x n) s + D p (rdc p v q x n) (q n) * D p (b n) s - D p (bln p v q b x (n + 1)) s) * D p (a s) i) (n + 1) = sm (fun s => D p (bln p v q b x n) s * D p (a s) i) (n + 1) + (D p (rdc p v q x n) (q n) * sm (fun s => D p (b n) s * D p (a s) i) (n + 1) + (-1) * sm (fun s => D p (bln p v q b x (n + 1)) s * D p (a s) i) (n + 1)) := by
      rw [← sm_mul, ← sm_mul, ← sm_add, ← sm_add]
      exact sm_ext (n + 1) (fun s _ _ => by grind)
    have e2 : sm (fun s => D p (bln p v q b x n) s * D p (a s) i) (n + 1) = sm (fun s => D p (bln p v q b x n) s * D p (a s) i) n := by
      show sm (fun s => D p (bln p v q b x n) s * D p (a s) i) n + D p (bln p v q b x n) n * D p (a n) i = _
      rw [ih.1 n (by omega) (by omega), Int.zero_mul, Int.add_zero]
    rw [e1, e2] at h4
    obtain ⟨x1, h1⟩ := h1
    obtain ⟨x2, h2⟩ := h2
    obtain ⟨x3, h3⟩ := h3
    obtain ⟨x4, h4⟩ := h4
    refine ⟨x1 + x2 + D p (rdc p v q x n) (q n) * x3 + x4, ?_⟩
    show D p x i - D p (pl p (rdc p v q x n) ((p - D p (rdc p v q x n) (q n)) % p) (v n)) i - sm (fun s => D p (bln p v q b x (n + 1)) s * D p (a s) i) (n + 1) = _
    grind
section Bas
variable {l : Launch} {d : Nat} {h : HP} {p e : Int} {n : Nat} {Q : Int → GS → HP → Prop}
theorem iv_D {x : Int} (hp : okp p) (h1 : 1 ≤ x) (h2 : x < p) : isD p (iv p x) := ⟨by have := (iv_ok hp h1 h2).1; omega, (iv_ok hp h1 h2).2.1⟩
theorem rX0_clear (he : isB e) (hr : h e 0 = 1 ∧ h e 1 = e + 1 ∧ h e 2 = e + 2 ∧ h e 3 = e + 3) (hQ : ∀ h', (∀ p a, okp p → XS h' e p 0 a) → FrB e h h' → Q 0 G0 h') : R l MX0_clear d 0 0 [vR e] G0 h Q := by
  refine eX0_clear e (vX0_clear_0 e ⟨(tB he).1, fun h2 e2 => ?_⟩)
  subst e2
  refine hQ _ (fun p a hp => ⟨fun _ => 0, fun _ => 0, fun _ => 0, ⟨⟨?_, ?_, ?_, ?_⟩, ?_, fun m _ m1 => by omega⟩, fun m _ m1 => by omega, fun m m1 => by omega, fun c _ s _ s1 => by omega, by omega⟩) (fun b hb => hset_oa (by omega))
  · rw [hset_oj (by decide)]; exact hr.1
  · rw [hset_oj (by decide)]; exact hr.2.1
  · rw [hset_oj (by decide)]; exact hr.2.2.1
  · rw [hset_oj (by decide)]; exact hr.2.2.2
  · rw [hset_s]; rfl
theorem rX0_removeLast {a : Int → Int} (he : isB e) (hX : XS h e p (n + 1) a) (hQ : ∀ h', XS h' e p n a → FrB e h h' → Q 0 G0 h') : R l MX0_removeLast d 0 0 [vR e] G0 h Q := by
  obtain ⟨v, q, b, hx, hB, hA, hI, hn⟩ := hX
  refine eX0_removeLast e (vX0_removeLast_0 e ?_)
  simp only [hx.2.1]
  refine ⟨(tB he).1, ⟨by omega, by omega⟩, fun c => by omega, fun _ h4 e4 => ?_⟩
  subst e4
  refine hQ _ ⟨v, q, b, ⟨⟨?_, ?_, ?_, ?_⟩, ?_, fun m m0 m1 => ?_⟩, BV_le hB, fun m hm => hA m (by omega), Ind_le hI, by omega⟩ (fun b hb => hset_oa (by omega))
  · rw [hset_oj (by decide)]; exact hx.1.1
  · rw [hset_oj (by decide)]; exact hx.1.2.1
  · rw [hset_oj (by decide)]; exact hx.1.2.2.1
  · rw [hset_oj (by decide)]; exact hx.1.2.2.2
  · rw [hset_s]; omega
  · rw [hset_oa (by omega), hset_oa (by omega), hset_oa (by omega)]
    exact hx.2.2 m m0 (by omega)
theorem iaB {e i k : Int} (he : isB e) (hk : k = 1 ∨ k = 2 ∨ k = 3) (h0 : 0 ≤ i) (h1 : i < 9) : inA G0 10 (e + k) i := by
  have := tB he
  rcases hk with rfl | rfl | rfl
  · exact ⟨this.2.1.1, h0, by rw [this.2.1.2]; exact h1⟩
  · exact ⟨this.2.2.1.1, h0, by rw [this.2.2.1.2]; exact h1⟩
  · exact ⟨this.2.2.2.1, h0, by rw [this.2.2.2.2]; exact h1⟩
theorem rdc_s {p x m : Int} {v q : Int → Int} (hm : 0 ≤ m) : rdc p v q x (m + 1).toNat = pl p (rdc p v q x m.toNat) ((p - D p (rdc p v q x m.toNat) (q m)) % p) (v m) := by
  rw [nat_s hm]
  show pl p (rdc p v q x m.toNat) ((p - D p (rdc p v q x m.toNat) (q (m.toNat : Int))) % p) (v (m.toNat : Int)) = _
  rw [Int.toNat_of_nonneg hm]
theorem bln_s {p x m : Int} {v q b : Int → Int} (hm : 0 ≤ m) : bln p v q b x (m + 1).toNat = pl p (bln p v q b x m.toNat) (D p (rdc p v q x m.toNat) (q m)) (b m) := by
  rw [nat_s hm]
  show pl p (bln p v q b x m.toNat) (D p (rdc p v q x m.toNat) (q (m.toNat : Int))) (b (m.toNat : Int)) = _
  rw [Int.toNat_of_nonneg hm]
theorem rX0_reduce {x : Int} {v q b : Int → Int} (hg : Gd h p) (he : isB e) (hX : XB h e n v q b) (hB : BV p n v q) (hn : n ≤ 9) (hx : isR p x) (hQ : Q (rdc p v q x n) G0 h) : R l MX0_reduce (d + 2) 0 0 [vR e, vI x] G0 h Q := by
  refine eX0_reduce e x (vX0_reduce_0 e x ?_)
  refine lp_up (σ := Unit) (fun m _ => S l MX0_reduce (d + 1 + 1, 0, 0, 0, 0) 4 [some (vR e), none, some (vI (rdc p v q x m.toNat)), some (vI m)] [] G0 h Q) (fun m _ => 0 ≤ m) n ?_ ?_ 0 () (by omega) (by decide)
  · intro m _ hm m0 ih
    refine vX0_reduce_4 e _ m ?_
    have hv := hX.2.2 m m0 hm
    have hb := hB m m0 hm
    simp only [hX.1.1, hX.1.2.1, hX.1.2.2.1, hX.2.1, hv.1, hv.2.1]
    refine ⟨(tB he).1, ⟨by omega, by omega⟩, ⟨by omega, by omega⟩, fun c => by omega, fun _ => ⟨iaB he (by decide) m0 (by omega), by decide +kernel, ?_⟩⟩
    refine rX1_number hg (isR_b hg.1 (rdc_R hg.1 hx _)) ⟨hb.2.1, by omega⟩ ?_
    simp only [hX.1.1, hX.1.2.1, hv.1]
    refine ⟨(tB he).1, iaB he (by decide) m0 (by omega), by decide +kernel, ?_⟩
    refine rX1_minus hg (rdc_R hg.1 hx _) hb.1 (D_D hg.1) ?_
    have := ih () (by omega)
    rw [rdc_s m0] at this
    exact this
  · intro _ _
    refine vX0_reduce_4 e _ n ?_
    simp only [hX.2.1]
    refine ⟨(tB he).1, ⟨by omega, by omega⟩, ⟨by omega, by omega⟩, fun _ => ?_, fun c => by omega⟩
    rw [Int.toNat_natCast]
    exact hQ
theorem rX0_blendOf {x : Int} {v q b : Int → Int} (hg : Gd h p) (he : isB e) (hX : XB h e n v q b) (hB : BV p n v q) (hR : ∀ m : Int, 0 ≤ m → m < n → isR p (b m)) (hn : n ≤ 9) (hx : isR p x) (hQ : Q (bln p v q b x n) G0 h) : R l MX0_blendOf (d + 2) 0 0 [vR e, vI x] G0 h Q := by
  refine eX0_blendOf e x (vX0_blendOf_0 e x ?_)
  refine lp_up (σ := Unit) (fun m _ => S l MX0_blendOf (d + 1 + 1, 0, 0, 0, 0) 7 [some (vR e), none, some (vI (rdc p v q x m.toNat)), some (vI (bln p v q b x m.toNat)), some (vI m), none] [] G0 h Q) (fun m _ => 0 ≤ m) n ?_ ?_ 0 () (by omega) (by decide)
  · intro m _ hm m0 ih
    refine vX0_blendOf_7 e _ _ m ?_
    have hv := hX.2.2 m m0 hm
    have hb := hB m m0 hm
    simp only [hX.1.1, hX.1.2.1, hX.1.2.2.1, hX.2.1, hv.1, hv.2.1]
    refine ⟨(tB he).1, ⟨by omega, by omega⟩, ⟨by omega, by omega⟩, fun c => by omega, fun _ => ⟨iaB he (by decide) m0 (by omega), by decide +kernel, ?_⟩⟩
    refine rX1_number hg (isR_b hg.1 (rdc_R hg.1 hx _)) ⟨hb.2.1, by omega⟩ ?_
    simp only [hX.1.1, hX.1.2.1, hv.1]
    refine ⟨(tB he).1, iaB he (by decide) m0 (by omega), by decide +kernel, ?_⟩
    refine rX1_minus hg (rdc_R hg.1 hx _) hb.1 (D_D hg.1) ?_
    simp only [hX.1.1, hX.1.2.2.2, hv.2.2]
    refine ⟨(tB he).1, iaB he (by decide) m0 (by omega), by decide +kernel, ?_⟩
    refine rX1_plus hg (bln_R hg.1 _) (hR m m0 hm) (D_D hg.1) ?_
    have := ih () (by omega)
    rw [rdc_s m0, bln_s m0] at this
    exact this
  · intro _ _
    refine vX0_blendOf_7 e _ _ n ?_
    simp only [hX.2.1]
    refine ⟨(tB he).1, ⟨by omega, by omega⟩, ⟨by omega, by omega⟩, fun _ => ?_, fun c => by omega⟩
    rw [Int.toNat_natCast]
    exact hQ
end Bas
