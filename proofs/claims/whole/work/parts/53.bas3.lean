theorem D_PW {p n k : Int} (hp : okp p) (n0 : 0 ≤ n) (n9 : n < 9) (k0 : 0 ≤ k) (k9 : k < 9) : D p (PW p n) k = if k = n then 1 else 0 := by
  have hb := okp_b hp
  have := D_wn (x := 0) (i := n) (v := 1) (k := k) hp (R0 hp) n0 n9 ⟨by omega, by omega⟩ k0 k9
  unfold wn at this
  rw [D_z, D_z, show (0 : Int) + (1 - 0) * PW p n = PW p n by omega] at this
  exact this
theorem PW_R {p n : Int} (hp : okp p) (n0 : 0 ≤ n) (n9 : n < 9) : isR p (PW p n) := ⟨Int.le_of_lt (PW_pos (okp_b hp).1 n), PW_lt (okp_b hp).1 n0 n9⟩
theorem not_Sp {p x : Int} {n : Nat} {v q b a : Int → Int} (hp : okp p) (hB : BV p n v q) (hA : BA p n v b a) (hx : isR p x) : rdc p v q x n ≠ 0 ↔ ¬ Sp p 9 n (DV p a) (D p x) := by
  rw [← Sp_av hA, Ne, rdc_0 hp hB hx]
theorem DVu {p x : Int} {a : Int → Int} {n : Nat} {s i : Int} (h : s < n) : DV p (up1 a n x) s i = DV p a s i := by
  show D p (up1 a n x s) i = D p (a s) i
  rw [up1_o (by omega)]
theorem Ind_up {p x : Int} {n : Nat} {a : Int → Int} (hp : okp p) (hI : Ind p 9 n (DV p a)) (hx : ¬ Sp p 9 n (DV p a) (D p x)) : Ind p 9 (n + 1) (DV p (up1 a n x)) := by
  refine Ind_s hp (Ind_ext hI (fun s i _ s1 _ _ => DVu s1)) (fun hs => hx ?_)
  have e : DV p (up1 a n x) n = D p x := by
    show (fun i => D p (up1 a n x n) i) = _
    rw [up1_s]
  rw [e] at hs
  exact Sp_ext hs (fun s i _ s1 _ _ => (DVu s1).symm)
theorem bas_s {p x : Int} {n : Nat} {v q b a : Int → Int} (hp : okp p) (hB : BV p n v q) (hA : BA p n v b a) (hI : Ind p 9 n (DV p a)) (hx : isR p x) (hr : rdc p v q x n ≠ 0) :
    n < 9 ∧ BV p (n + 1) (up1 v n (pl p 0 (iv p (FV p (rdc p v q x n))) (rdc p v q x n))) (up1 q n (FI p (rdc p v q x n))) ∧
    BA p (n + 1) (up1 v n (pl p 0 (iv p (FV p (rdc p v q x n))) (rdc p v q x n))) (up1 b n (pl p 0 (iv p (FV p (rdc p v q x n))) (pl p (PW p n) ((p - 1) % p) (bln p v q b x n)))) (up1 a n x) ∧ Ind p 9 (n + 1) (DV p (up1 a n x)) := by
  have hb := okp_b hp
  have hi := Ind_up hp hI ((not_Sp hp hB hA hx).1 hr)
  have hn : n + 1 ≤ 9 := Ind_dim hp hi
  have rR := rdc_R (v := v) (q := q) hp hx n
  have fi := FI_ok hp rR hr
  have fv := FV_ok hp rR hr
  have io := iv_ok hp fv.1 fv.2
  have bl := bln_c (x := x) (q := q) hp n (by omega) hA
  have rq := rdc_q (x := x) hp n hB
  have rc := rdc_c (v := v) (q := q) (x := x) hp n
  revert rR fi fv io bl rq rc
  generalize hr0 : rdc p v q x n = r at *
  intro rR fi fv io bl rq rc
  have ivd : p ∣ FV p r * iv p (FV p r) - 1 := by
    have := md_dv (p := p) (a := FV p r * iv p (FV p r))
    rw [io.2.2] at this
    exact this
  refine ⟨by omega, fun m m0 m1 => ?_, fun m hm => ?_, hi⟩
  · by_cases e : m = (n : Int)
    · subst e
      rw [up1_s, up1_s]
      refine ⟨pl_R hp, fi.1, fi.2.1, ?_, fun k k0 k1 => by omega⟩
      rw [D_pl hp fi.1 fi.2.1, D_z, Int.zero_add, Int.mul_comm]
      exact io.2.2
    · have hm := hB m m0 (by omega)
      rw [up1_o e, up1_o e]
      refine ⟨hm.1, hm.2.1, hm.2.2.1, hm.2.2.2.1, fun k k0 k1 => ?_⟩
      by_cases e2 : k = (n : Int)
      · rw [e2, up1_s, D_pl hp hm.2.1 hm.2.2.1, D_z, rq m m0 (by omega)]
        simp
      · rw [up1_o e2]
        exact hm.2.2.2.2 k k0 (by omega)
  · by_cases e : m = n
    · subst e
      rw [up1_s, up1_s, up1_s]
      have ow : ∀ s : Int, 0 ≤ s → s < 9 → p ∣ (if s = m then 1 else 0) - D p (bln p v q b x m) s - D p (pl p (PW p m) ((p - 1) % p) (bln p v q b x m)) s := fun s s0 s9 => by
        have h1 := D_mi (a := PW p m) (f := 1) (b := bln p v q b x m) hp s0 s9
        rw [D_PW hp (by omega) (by omega) s0 s9] at h1
        rw [show ∀ a b c : Int, a - b - c = a - c - 1 * b by intro a b c; omega]
        exact h1
      have ow0 : ∀ s : Int, (m : Int) < s → s < 9 → D p (pl p (PW p m) ((p - 1) % p) (bln p v q b x m)) s = 0 := fun s s0 s9 => by
        apply dvd_D hp
        have h1 := ow s (by omega) s9
        rw [if_neg (by omega), bl.1 s (by omega) s9] at h1
        have := (Int.dvd_neg).2 h1
        rw [show ∀ b : Int, -(0 - 0 - b) = b by intro b; omega] at this
        exact this
      generalize pl p (PW p m) ((p - 1) % p) (bln p v q b x m) = own at ow ow0 ⊢
      refine ⟨pl_R hp, hx, fun s s0 s9 => ?_, fun i i0 i9 => ?_, ?_⟩
      · rw [D_pl hp (by omega) s9, D_z, ow0 s s0 s9]
        simp
      · have h1 : p ∣ sm (fun s => (iv p (FV p r) * ((if s = (m : Int) then 1 else 0) - D p (bln p v q b x m) s) - D p (pl p 0 (iv p (FV p r)) own) s) * D p (up1 a m x s) i) (m + 1) := sm_dvd (m + 1) (fun s s0 s1 => by
          refine Int.dvd_trans ?_ (Int.dvd_mul_right _ _)
          have h2 := D_pd (a := 0) (f := iv p (FV p r)) (b := own) hp s0 (show s < 9 by omega)
          rw [D_z] at h2
          obtain ⟨y, hy⟩ := h2
          obtain ⟨z, hz⟩ := ow s s0 (by omega)
          exact ⟨y + iv p (FV p r) * z, by grind⟩)
        have e1 : sm (fun s => (iv p (FV p r) * ((if s = (m : Int) then 1 else 0) - D p (bln p v q b x m) s) - D p (pl p 0 (iv p (FV p r)) own) s) * D p (up1 a m x s) i) (m + 1) = iv p (FV p r) * sm (fun s => (if s = (m : Int) then 1 else 0) * D p (up1 a m x s) i) (m + 1) + ((- iv p (FV p r)) * sm (fun s => D p (bln p v q b x m) s * D p (up1 a m x s) i) (m + 1) + (-1) * sm (fun s => D p (pl p 0 (iv p (FV p r)) own) s * D p (up1 a m x s) i) (m + 1)) := by
          rw [← sm_mul, ← sm_mul, ← sm_mul, ← sm_add, ← sm_add]
          exact sm_ext (m + 1) (fun s _ _ => by grind)
        have e2 : sm (fun s => (if s = (m : Int) then 1 else 0) * D p (up1 a m x s) i) (m + 1) = D p x i := by
          rw [sm_one (f := fun s => D p (up1 a m x s) i) (by omega) (m + 1), if_pos (by omega), up1_s]
        have e3 : sm (fun s => D p (bln p v q b x m) s * D p (up1 a m x s) i) (m + 1) = sm (fun s => D p (bln p v q b x m) s * D p (a s) i) m := by
          show sm (fun s => D p (bln p v q b x m) s * D p (up1 a m x s) i) m + D p (bln p v q b x m) m * D p (up1 a m x m) i = _
          rw [bl.1 m (by omega) (by omega), Int.zero_mul, Int.add_zero]
          exact sm_ext m (fun s s0 s1 => by rw [up1_o (by omega)])
        rw [e1, e2, e3] at h1
        have h3 := bl.2 i i0 i9
        have h4 := D_pd (a := 0) (f := iv p (FV p r)) (b := r) hp i0 i9
        rw [D_z] at h4
        obtain ⟨y1, h1⟩ := h1
        obtain ⟨y3, h3⟩ := h3
        obtain ⟨y4, h4⟩ := h4
        exact ⟨y1 - iv p (FV p r) * y3 - y4, by grind⟩
      · refine ⟨fun s => if s = m then FV p r else D p (rdc p v q x s.toNat) (q s), fun i i0 i9 => ?_⟩
        show p ∣ D p x i - (sm (fun s => (if s = (m : Int) then FV p r else D p (rdc p v q x s.toNat) (q s)) * D p (up1 v m (pl p 0 (iv p (FV p r)) r) s) i) m + (if (m : Int) = m then FV p r else D p (rdc p v q x (m : Int).toNat) (q m)) * D p (up1 v m (pl p 0 (iv p (FV p r)) r) m) i)
        rw [if_pos rfl, up1_s, sm_ext m (g := fun s => D p (rdc p v q x s.toNat) (q s) * D p (v s) i) (fun s s0 s1 => by rw [if_neg (show ¬ s = (m : Int) by omega), up1_o (by omega)])]
        have h3 := rc i i0 i9
        have h4 := D_pd (a := 0) (f := iv p (FV p r)) (b := r) hp i0 i9
        rw [D_z] at h4
        obtain ⟨y3, h3⟩ := h3
        obtain ⟨y4, h4⟩ := h4
        obtain ⟨y5, h5⟩ := ivd
        exact ⟨y3 + FV p r * y4 - D p r i * y5, by grind⟩
    · have hA' := hA m (by omega)
      rw [up1_o (by omega), up1_o (by omega), up1_o (by omega)]
      refine ⟨hA'.1, hA'.2.1, hA'.2.2.1, fun i i0 i9 => ?_, Sp_ext hA'.2.2.2.2 (fun s i s0 s1 _ _ => DVu (by omega))⟩
      rw [sm_ext (m + 1) (g := fun s => D p (b m) s * D p (a s) i) (fun s s0 s1 => by rw [up1_o (by omega)])]
      exact hA'.2.2.2.1 i i0 i9
section Bas3
variable {l : Launch} {d : Nat} {h : HP} {p e : Int} {n : Nat} {Q : Int → GS → HP → Prop}
theorem rX0_add {x : Int} {a : Int → Int} (hg : Gd h p) (he : isB e) (hX : XS h e p n a) (hx : isR p x) (h0 : Sp p 9 n (DV p a) (D p x) → Q 0 G0 h) (h1 : ¬ Sp p 9 n (DV p a) (D p x) → ∀ h', XS h' e p (n + 1) (up1 a n x) → FrB e h h' → Q 1 G0 h') : R l MX0_add (d + 3) 0 0 [vR e, vI x] G0 h Q := by
  obtain ⟨v, q, b, hx', hB, hA, hI, hn⟩ := hX
  have hbR : ∀ m : Int, 0 ≤ m → m < n → isR p (b m) := fun m m0 mn => by
    have := (hA m.toNat (by omega)).1
    rw [Int.toNat_of_nonneg m0] at this
    exact this
  refine eX0_add e x (vX0_add_0 e x ⟨(tB he).1, ?_⟩)
  have hns := not_Sp (x := x) hg.1 hB hA hx
  refine rX0_reduce hg he hx' hB hn hx ?_
  have rR := rdc_R (v := v) (q := q) hg.1 hx n
  have rb := isR_b hg.1 rR
  refine ⟨⟨by omega, by omega⟩, fun hz => h0 (Classical.byContradiction fun hc => (hns.2 hc) hz), fun hnz => ?_⟩
  have bs := bas_s hg.1 hB hA hI hx hnz
  have fi := FI_ok hg.1 rR hnz
  have fv := FV_ok hg.1 rR hnz
  have io := iv_ok hg.1 fv.1 fv.2
  have hb := okp_b hg.1
  simp only [hx'.2.1, hx'.1.1]
  refine ⟨(tB he).1, ⟨by omega, by omega⟩, fun _ => ?_, fun c => by omega⟩
  refine ⟨by decide +kernel, rX1_first hg rR ?_⟩
  simp only [hx'.1.1, hx'.2.1, hg.2.2.1, hg.2.2.2.1]
  refine ⟨⟨by decide +kernel, by omega, by rw [show ln G0 3 = 7 by decide +kernel]; omega⟩, (tB he).1, by decide +kernel, ⟨by decide +kernel, by omega, by rw [show ln G0 2 = 10 by decide +kernel]; omega⟩, ?_⟩
  refine rX0_blendOf hg he hx' hB hbR hn hx ?_
  simp only [hx'.1.1, hx'.2.1, hg.2.2.1, hg.2.2.2.1, hg.2.2.2.2.1 n (by omega) (by omega)]
  refine ⟨by decide +kernel, rX1_minus hg (PW_R hg.1 (by omega) (by omega)) (bln_R hg.1 _) ⟨by omega, by omega⟩ ?_⟩
  simp only [hx'.1.1, hx'.1.2.1, hx'.2.1, hg.2.2.2.1, hg.2.2.2.2.2 _ fv.1 fv.2]
  refine ⟨(tB he).1, by decide +kernel, rX1_plus hg (R0 hg.1) rR ⟨by omega, io.2.1⟩ ?_⟩
  refine ⟨iaB he (by decide) (by omega) (by omega), fun h31 e31 => ?_⟩
  have g31 : Gd h31 p := by
    subst e31
    exact ⟨hg.1, by rw [hset_oa (by unfold isB at he; omega)]; exact hg.2.1, by rw [hset_oa (by unfold isB at he; omega)]; exact hg.2.2.1, by rw [hset_oa (by unfold isB at he; omega)]; exact hg.2.2.2.1, by rw [hset_oa (by unfold isB at he; omega)]; exact hg.2.2.2.2.1, by rw [hset_oa (by unfold isB at he; omega)]; exact hg.2.2.2.2.2⟩
  have f31 : h31 e = h e := by subst e31; exact hset_oa (by omega)
  simp only [f31, hx'.1.1, hx'.1.2.2.1, hx'.2.1]
  refine ⟨(tB he).1, by decide +kernel, rX1_firstIndex g31 rR ⟨iaB he (by decide) (by omega) (by omega), fun h38 e38 => ?_⟩⟩
  have g38 : Gd h38 p := by
    subst e38
    exact ⟨hg.1, by rw [hset_oa (by unfold isB at he; omega)]; exact g31.2.1, by rw [hset_oa (by unfold isB at he; omega)]; exact g31.2.2.1, by rw [hset_oa (by unfold isB at he; omega)]; exact g31.2.2.2.1, by rw [hset_oa (by unfold isB at he; omega)]; exact g31.2.2.2.2.1, by rw [hset_oa (by unfold isB at he; omega)]; exact g31.2.2.2.2.2⟩
  have f38 : h38 e = h e := by subst e38; rw [hset_oa (by omega)]; exact f31
  simp only [f38, hx'.1.1, hx'.1.2.2.2, hx'.2.1]
  refine ⟨(tB he).1, by decide +kernel, rX1_plus g38 (R0 hg.1) (pl_R hg.1) ⟨by omega, io.2.1⟩ ⟨iaB he (by decide) (by omega) (by omega), fun h45 e45 => ?_⟩⟩
  have f45 : h45 e = h e := by subst e45; rw [hset_oa (by omega)]; exact f38
  simp only [f45, hx'.2.1]
  refine ⟨(tB he).1, fun h47 e47 => ?_⟩
  have A1 : h47 e = hset h45 e 4 (↑n + 1) e := by rw [e47]
  have A2 : h47 (e + 1) = hset h (e + 1) n (pl p 0 (iv p (FV p (rdc p v q x n))) (rdc p v q x n)) (e + 1) := by
    rw [e47, hset_oa (by omega), e45, hset_oa (by omega), e38, hset_oa (by omega), e31]
  have A3 : h47 (e + 2) = hset h31 (e + 2) n (FI p (rdc p v q x n)) (e + 2) := by
    rw [e47, hset_oa (by omega), e45, hset_oa (by omega), e38]
  have A4 : h47 (e + 3) = hset h38 (e + 3) n (pl p 0 (iv p (FV p (rdc p v q x n))) (pl p (PW p n) ((p - 1) % p) (bln p v q b x n))) (e + 3) := by
    rw [e47, hset_oa (by omega), e45]
  have B3 : h31 (e + 2) = h (e + 2) := by rw [e31, hset_oa (by omega)]
  have B4 : h38 (e + 3) = h (e + 3) := by rw [e38, hset_oa (by omega), e31, hset_oa (by omega)]
  refine h1 (hns.1 hnz) _ ⟨_, _, _, ⟨⟨?_, ?_, ?_, ?_⟩, ?_, fun m m0 m1 => ?_⟩, bs.2.1, bs.2.2.1, bs.2.2.2, by omega⟩ (fun c hc => ?_)
  · rw [A1, hset_oj (by decide), f45]; exact hx'.1.1
  · rw [A1, hset_oj (by decide), f45]; exact hx'.1.2.1
  · rw [A1, hset_oj (by decide), f45]; exact hx'.1.2.2.1
  · rw [A1, hset_oj (by decide), f45]; exact hx'.1.2.2.2
  · rw [A1, hset_s]; omega
  · rw [A2, A3, A4]
    by_cases em : m = (n : Int)
    · subst em
      rw [hset_s, hset_s, hset_s, up1_s, up1_s, up1_s]
      exact ⟨rfl, rfl, rfl⟩
    · rw [hset_oj em, hset_oj em, hset_oj em, up1_o em, up1_o em, up1_o em, B3, B4]
      exact hx'.2.2 m m0 (by omega)
  · rw [e47, hset_oa (by omega), e45, hset_oa (by omega), e38, hset_oa (by omega), e31, hset_oa (by omega)]
end Bas3
