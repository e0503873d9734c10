def plF (p : Int) (P : PS) : Nat → PS
  | 0 => (P.1, P.2.1, 0, P.2.2.2)
  | n + 1 => pst p ((n : Int) / 81) ((n : Int) / 9 % 9) (plF p P n) ((n : Int) % 9)
theorem plF_f {p : Int} {P : PS} : ∀ n : Nat, (plF p P n).1 = P.1 ∧ (plF p P n).2.1 = P.2.1
  | 0 => ⟨rfl, rfl⟩
  | n + 1 => by
    have ih := plF_f (p := p) (P := P) n
    have := pst_f (p := p) (i := (n : Int) / 81) (j := (n : Int) / 9 % 9) (k := (n : Int) % 9) (P := plF p P n)
    exact ⟨this.1.trans ih.1, this.2.trans ih.2⟩
theorem pst_bd {p : Int} {P R : PS} {n : Int} (hf : R.2.1 = P.2.1) : D p (fb R (9 * (n / 81) + n / 9 % 9)) (n % 9) = bd p P n := by
  unfold bd fb
  rw [hf, show 9 * (n / 81) + n / 9 % 9 = n / 9 by omega]
theorem plF_t {p : Int} {P : PS} : ∀ n : Nat, ct (bd p P) n ≤ 40 → tm (plF p P n) = ct (bd p P) n
  | 0, _ => rfl
  | n + 1, h => by
    have h' : ct (bd p P) n + (if bd p P n = 0 then 0 else 1) ≤ 40 := h
    have cb := ct_b (f := bd p P) n
    show tm (pst p ((n : Int) / 81) ((n : Int) / 9 % 9) (plF p P n) ((n : Int) % 9)) = ct (bd p P) n + (if bd p P n = 0 then 0 else 1)
    unfold pst
    rw [pst_bd (plF_f n).2]
    by_cases c : bd p P n = 0
    · rw [if_pos c] at h' ⊢
      rw [if_pos c, plF_t n (by omega)]; omega
    · rw [if_neg c] at h' ⊢
      have ih := plF_t (p := p) (P := P) n (by omega)
      rw [if_neg c, if_neg (by omega)]
      show tm (plF p P n) + 1 = _
      rw [ih]
theorem plK_f {p i j : Int} {P : PS} : ∀ n : Nat, (plK p i j P n).2.1 = P.2.1
  | 0 => rfl
  | n + 1 => (pst_f (p := p) (i := i) (j := j) (k := n) (P := plK p i j P n)).2.trans (plK_f n)
theorem plJ_f {p i : Int} {C : Nat} {P : PS} : ∀ n : Nat, (plJ p i C P n).2.1 = P.2.1
  | 0 => rfl
  | n + 1 => (plK_f (p := p) (i := i) (j := n) (P := plJ p i C P n) C).trans (plJ_f n)
theorem plI_f {p : Int} {B C : Nat} {P : PS} : ∀ n : Nat, (plI p B C P n).2.1 = P.2.1
  | 0 => rfl
  | n + 1 => (plJ_f (p := p) (i := n) (C := C) (P := plI p B C P n) B).trans (plI_f n)
theorem plK_z {p i j : Int} {P : PS} {n : Nat} : ∀ m : Nat, (∀ k : Int, (n : Int) ≤ k → D p (fb P (9 * i + j)) k = 0) → plK p i j P (n + m) = plK p i j P n
  | 0, _ => rfl
  | m + 1, h => by
    show pst p i j (plK p i j P (n + m)) ((n + m : Nat) : Int) = _
    unfold pst
    rw [show fb (plK p i j P (n + m)) = fb P from plK_f (n + m), if_pos (h _ (by omega)), plK_z m h]
theorem plJ_z {p i : Int} {C : Nat} {P : PS} {n : Nat} : ∀ m : Nat, (∀ j : Int, (n : Int) ≤ j → j < ((n + m : Nat) : Int) → fb P (9 * i + j) = 0) → plJ p i C P (n + m) = plJ p i C P n
  | 0, _ => rfl
  | m + 1, h => by
    show plK p i ((n + m : Nat) : Int) (plJ p i C P (n + m)) C = _
    have := plK_z (p := p) (i := i) (j := ((n + m : Nat) : Int)) (P := plJ p i C P (n + m)) (n := 0) C (fun k _ => by
      rw [show fb (plJ p i C P (n + m)) = fb P from plJ_f (n + m), h _ (by omega) (by omega), D_z])
    rw [Nat.zero_add] at this
    rw [this]
    exact plJ_z m (fun j h1 h2 => h j h1 (by omega))
theorem plI_z {p : Int} {B C : Nat} {P : PS} {n : Nat} : ∀ m : Nat, (∀ i j : Int, (n : Int) ≤ i → i < ((n + m : Nat) : Int) → 0 ≤ j → j < B → fb P (9 * i + j) = 0) → plI p B C P (n + m) = plI p B C P n
  | 0, _ => rfl
  | m + 1, h => by
    show plJ p ((n + m : Nat) : Int) C (plI p B C P (n + m)) B = _
    have := plJ_z (p := p) (i := ((n + m : Nat) : Int)) (C := C) (P := plI p B C P (n + m)) (n := 0) B (fun j j0 j1 => by
      rw [show fb (plI p B C P (n + m)) = fb P from plI_f (n + m)]
      exact h _ j (by omega) (by omega) (by omega) (by omega))
    rw [Nat.zero_add] at this
    rw [this]
    exact plI_z m (fun i j h1 h2 => h i j h1 (by omega))
theorem plJ_c {p i : Int} {C C' : Nat} {P : PS} : ∀ n : Nat, (∀ j : Int, 0 ≤ j → j < n → ∀ k : Int, (C : Int) ≤ k → D p (fb P (9 * i + j)) k = 0) → plJ p i (C + C') P n = plJ p i C P n
  | 0, _ => rfl
  | n + 1, h => by
    show plK p i n (plJ p i (C + C') P n) (C + C') = plK p i n (plJ p i C P n) C
    rw [plJ_c n (fun j j0 j1 => h j j0 (by omega))]
    exact plK_z C' (fun k hk => by rw [show fb (plJ p i C P n) = fb P from plJ_f n]; exact h n (by omega) (by omega) k hk)
theorem plF_K {p : Int} {P : PS} {i j : Nat} (hj : j < 9) : ∀ k : Nat, k ≤ 9 → plF p P (81 * i + 9 * j + k) = plK p i j (plF p P (81 * i + 9 * j)) k
  | 0, _ => rfl
  | k + 1, h => by
    show pst p (((81 * i + 9 * j + k : Nat) : Int) / 81) (((81 * i + 9 * j + k : Nat) : Int) / 9 % 9) (plF p P (81 * i + 9 * j + k)) (((81 * i + 9 * j + k : Nat) : Int) % 9) = pst p i j (plK p i j (plF p P (81 * i + 9 * j)) k) k
    rw [plF_K hj k (by omega), show ((81 * i + 9 * j + k : Nat) : Int) / 81 = i by omega, show ((81 * i + 9 * j + k : Nat) : Int) / 9 % 9 = j by omega, show ((81 * i + 9 * j + k : Nat) : Int) % 9 = k by omega]
theorem plF_J {p : Int} {P : PS} {i : Nat} : ∀ j : Nat, j ≤ 9 → plF p P (81 * i + 9 * j) = plJ p i 9 (plF p P (81 * i)) j
  | 0, _ => rfl
  | j + 1, h => by
    show plF p P (81 * i + 9 * (j + 1)) = plK p i j (plJ p i 9 (plF p P (81 * i)) j) 9
    rw [show 81 * i + 9 * (j + 1) = 81 * i + 9 * j + 9 by omega, plF_K (by omega) 9 (by omega), plF_J j (by omega)]
theorem plF_I {p : Int} {P : PS} : ∀ i : Nat, plF p P (81 * i) = plI p 9 9 (plF p P 0) i
  | 0 => rfl
  | i + 1 => by
    show plF p P (81 * (i + 1)) = plJ p i 9 (plI p 9 9 (plF p P 0) i) 9
    rw [show 81 * (i + 1) = 81 * i + 9 * 9 by omega, plF_J 9 (by omega), plF_I i]
theorem plain_plF {p : Int} {P : PS} (hp : okp p) (hW : WF p P) : plain' p P = plF p P 729 := by
  have s0 := hW.1 0 (by decide) (by decide)
  have s1 := hW.1 1 (by decide) (by decide)
  have s2 := hW.1 2 (by decide) (by decide)
  rw [show (729 : Nat) = 81 * 9 from rfl, plF_I 9]
  have hz : ∀ i j : Int, 0 ≤ i → i < 9 → 0 ≤ j → j < 9 → ∀ k : Int, sz P 2 ≤ k → D p (fb P (9 * i + j)) k = 0 := fun i j i0 i9 j0 j9 k hk => D_sz hp ⟨(hW.2.1 i j i0 i9 j0 j9).1, (hW.2.1 i j i0 i9 j0 j9).2.1⟩ hk
  have key : ∀ n : Nat, n ≤ 9 → plI p 9 9 (plF p P 0) n = plI p (sz P 1).toNat (sz P 2).toNat (plF p P 0) n := fun n => by
    induction n with
    | zero => intro _; rfl
    | succ n ih =>
      intro hn
      show plJ p n 9 (plI p 9 9 (plF p P 0) n) 9 = plJ p n (sz P 2).toNat (plI p (sz P 1).toNat (sz P 2).toNat (plF p P 0) n) (sz P 1).toNat
      rw [ih (by omega)]
      have ef : fb (plI p (sz P 1).toNat (sz P 2).toNat (plF p P 0) n) = fb P := plI_f n
      have e1 := plJ_z (p := p) (i := n) (C := 9) (P := plI p (sz P 1).toNat (sz P 2).toNat (plF p P 0) n) (n := (sz P 1).toNat) (9 - (sz P 1).toNat) (fun j h1 h2 => by
        rw [ef]
        exact (hW.2.1 n j (by omega) (by omega) (by omega) (by omega)).2.2 (.inr (by omega)))
      rw [show (sz P 1).toNat + (9 - (sz P 1).toNat) = 9 by omega] at e1
      rw [e1]
      have e2 := plJ_c (p := p) (i := n) (C := (sz P 2).toNat) (C' := 9 - (sz P 2).toNat) (P := plI p (sz P 1).toNat (sz P 2).toNat (plF p P 0) n) (sz P 1).toNat (fun j j0 j1 k hk => by
        rw [ef]
        exact hz n j (by omega) (by omega) j0 (by omega) k (by omega))
      rw [show (sz P 2).toNat + (9 - (sz P 2).toNat) = 9 by omega] at e2
      exact e2
  rw [key 9 (by omega)]
  have e3 := plI_z (p := p) (B := (sz P 1).toNat) (C := (sz P 2).toNat) (P := plF p P 0) (n := (sz P 0).toNat) (9 - (sz P 0).toNat) (fun i j h1 h2 j0 j1 => (hW.2.1 i j (by omega) (by omega) j0 (by omega)).2.2 (.inl (by omega)))
  rw [show (sz P 0).toNat + (9 - (sz P 0).toNat) = 9 by omega] at e3
  rw [e3]
  rfl
theorem ct_mono {f : Int → Int} {a : Nat} : ∀ n : Nat, ct f a ≤ ct f (a + n)
  | 0 => Int.le_refl _
  | n + 1 => by
    have := ct_mono (f := f) (a := a) n
    show ct f a ≤ ct f (a + n) + (if f ((a + n : Nat) : Int) = 0 then 0 else 1)
    split <;> omega
theorem D_vPW {p v k i : Int} (hp : okp p) (hv : isD p v) (k0 : 0 ≤ k) (k9 : k < 9) (i0 : 0 ≤ i) (i9 : i < 9) : D p (v * PW p k) i = if i = k then v else 0 := by
  have e : v * PW p k = wn p 0 k v := by
    unfold wn
    rw [D_z, Int.sub_zero, Int.zero_add]
  rw [e, D_wn hp (R0 hp) k0 k9 hv i0 i9, D_z]
section Mod5
variable {l : Launch} {d : Nat} {h : HP} {p : Int} {P : PS} {B : BS} {Q : Int → GS → HP → Prop}
set_option maxHeartbeats 1000000 in
theorem rX9_plain {r : Int} {B' : BS} (bw : BW B) (hm : MX h B) (hA : A_pl B r B') (hQ : ∀ h', MX h' B' → FM h h' → Q r G0 h') : R l MX9_plain (d + 1) 0 0 [vR 75] G0 h Q := by
  have hp := bw.1
  have hW := bw.2.1
  have fb' := fpl_b hW
  refine eX9_plain 75 (vX9_plain_0 75 ⟨t75, rX9_filled hm.1 hp hm.2.2.1 hW ⟨⟨by omega, by omega⟩, fun c => ⟨t75, fun h8 e8 => ?_⟩, fun c => ?_⟩⟩)
  · have hc : ct (bd (bp B) (bP B)) 729 ≤ 40 := by rw [fpl_ct hW]; exact c
    have hle : ∀ k : Int, 0 ≤ k → k < 729 → ct (bd (bp B) (bP B)) (k.toNat + 1) ≤ 40 := fun k k0 k1 => by
      have := ct_mono (f := bd (bp B) (bP B)) (a := k.toNat + 1) (729 - (k.toNat + 1))
      rw [show k.toNat + 1 + (729 - (k.toNat + 1)) = 729 by omega] at this
      omega
    have mr8 : MR h8 := hm.1.fr (fun j _ j4 _ _ _ _ => by rw [e8, hset_oj j4])
    refine lp_up (σ := HP) (fun k hh => S l MX9_plain (d + 1, 0, 0, 0, 0) 19 [some (vR 75), some (vI k), none] [] G0 hh Q) (fun k hh => 0 ≤ k ∧ (∀ b, b ≠ 75 → b ≠ 78 → hh b = h b) ∧ (∀ j, j ≠ 4 → hh 75 j = h 75 j) ∧ MS hh (bp B) (plF (bp B) (bP B) k.toNat)) 729 ?_ ?_ 0 h8 (by decide) ⟨by decide, fun b b1 b2 => by rw [e8, hset_oa b1], fun j j4 => by rw [e8, hset_oj j4], ⟨by rw [e8, hset_s]; rfl, fun k k0 k1 => by have k1' : k < 27 * 0 := k1; omega⟩⟩
    · intro k hh hk ⟨k0, f, f75, ms⟩ ih
      have mr : MR hh := hm.1.fr (fun j _ j4 _ _ _ _ => f75 j j4)
      have hb : hh 77 k = bd (bp B) (bP B) k := by rw [f 77 (by decide) (by decide)]; exact hm.2.2.1.2 k k0 hk
      have bD := bd_D (P := bP B) (k := k) hp
      have pb := okp_b hp
      have c1 := hle k k0 hk
      have c1' : ct (bd (bp B) (bP B)) k.toNat + (if bd (bp B) (bP B) (k.toNat : Int) = 0 then 0 else 1) ≤ 40 := c1
      rw [Int.toNat_of_nonneg k0] at c1'
      have step : plF (bp B) (bP B) (k + 1).toNat = pst (bp B) (k / 81) (k / 9 % 9) (plF (bp B) (bP B) k.toNat) (k % 9) := by
        rw [nat_s k0]
        show pst _ ((k.toNat : Int) / 81) ((k.toNat : Int) / 9 % 9) _ ((k.toNat : Int) % 9) = _
        rw [Int.toNat_of_nonneg k0]
      unfold pst at step
      rw [pst_bd (plF_f k.toNat).2] at step
      refine vX9_plain_19 75 k ?_
      simp only [mr.bx, hb]
      refine ⟨⟨by omega, by omega⟩, fun c => by omega, fun _ => ⟨t75, i77 k0 hk, ⟨by omega, by omega⟩, fun z => ih hh ⟨by omega, f, f75, by rw [step, if_pos z]; exact ms⟩, fun nz => ?_⟩⟩
      rw [if_neg nz] at c1' step
      have ht := plF_t (p := bp B) (P := bP B) k.toNat (by omega)
      have cb := ct_b (f := bd (bp B) (bP B)) k.toNat
      rw [if_neg (by omega)] at step
      obtain ⟨T, eT⟩ : ∃ T, T = tm (plF (bp B) (bP B) k.toNat) := ⟨_, rfl⟩
      have T0 : 0 ≤ T ∧ T < 40 := by omega
      have e4 : hh 75 4 = T := by rw [eT]; exact ms.1
      refine lp_up (σ := HP) (fun q hk' => S l MX9_plain (d + 1, 0, 0, 0, 0) 37 [some (vR 75), some (vI k), some (vI q)] [] G0 hk' Q) (fun q hk' => 0 ≤ q ∧ (∀ b, b ≠ 78 → hk' b = hh b) ∧ (∀ x, x < 27 * T → hk' 78 x = hh 78 x) ∧ ∀ x, 0 ≤ x → x < q → hk' 78 (27 * T + x) = 0) 27 ?_ ?_ 0 hh (by decide) ⟨by decide, fun _ _ => rfl, fun _ _ => rfl, fun x x0 x1 => by omega⟩
      · intro q hk' hq ⟨q0, g1, g2, g3⟩ ih2
        have e75 := g1 75 (by decide)
        refine vX9_plain_37 75 k q ?_
        simp only [e75, e4, mr.sc]
        refine ⟨⟨by omega, by omega⟩, fun c => by omega, fun _ => ⟨t75, i78 (by omega) (by omega), fun h17 e17 => ih2 h17 ⟨by omega, fun b hb => by rw [e17, hset_oa hb]; exact g1 b hb, fun x hx => by rw [e17, hset_oj (by omega)]; exact g2 x hx, fun x x0 x1 => ?_⟩⟩⟩
        by_cases e : x = q
        · rw [e, e17, hset_s]
        · rw [e17, hset_oj (by omega)]; exact g3 x x0 (by omega)
      · intro hk' ⟨q0, g1, g2, g3⟩
        have e75 := g1 75 (by decide)
        refine vX9_plain_37 75 k 27 ?_
        simp only [e75, e4, mr.sc]
        refine ⟨⟨by decide, by decide⟩, fun _ => ⟨t75, ⟨⟨by omega, by omega⟩, by decide, by decide⟩, i78 (by omega) (by omega), fun h6 e6 => ?_⟩, fun c => by omega⟩
        have e6' : h6 75 = hh 75 := by rw [e6, hset_oa (by decide), e75]
        simp only [e6', e4, mr.sc]
        refine ⟨⟨⟨by omega, by omega⟩, by decide, by decide⟩, ⟨⟨by omega, by omega⟩, by decide, by decide⟩, i78 (by omega) (by omega), fun h10 e10 => ?_⟩
        have e10' : h10 75 = hh 75 := by rw [e10, hset_oa (by decide), e6']
        have b10 : h10 77 = hh 77 := by rw [e10, hset_oa (by decide), e6, hset_oa (by decide), g1 77 (by decide)]
        simp only [e10', e4, mr.sc, mr.bx, b10, hb]
        refine ⟨i77 k0 hk, i78 (by omega) (by omega), fun h13 e13 h14 e14 => ?_⟩
        have e13' : h13 75 4 = T := by rw [e13, hset_oa (by decide), e10', e4]
        rw [e13'] at e14
        refine ih h14 ⟨by omega, fun b b1 b2 => by rw [e14, hset_oa b1, e13, hset_oa b2, e10, hset_oa b2, e6, hset_oa b2, g1 b b2]; exact f b b1 b2, fun j j4 => by rw [e14, hset_oj j4, e13, hset_oa (by decide), e10']; exact f75 j j4, ?_⟩
        rw [step]
        refine MS_mk (by rw [e14, hset_s, eT]; rfl) (fun t w i t0 t1 w0 w3 i0 i9 => ?_)
        have t1' : t < T + 1 := by rw [eT]; exact t1
        rw [e14, hset_oa (by decide), e13]
        show _ = D (bp B) (up1 (up1 (up1 (plF (bp B) (bP B) k.toNat).2.2.2 (40 * 0 + (plF (bp B) (bP B) k.toNat).2.2.1) _) (40 * 1 + (plF (bp B) (bP B) k.toNat).2.2.1) _) (40 * 2 + (plF (bp B) (bP B) k.toNat).2.2.1) _ (40 * w + t)) i
        rw [show (plF (bp B) (bP B) k.toNat).2.2.1 = T from eT.symm]
        by_cases e : t = T
        · rw [e]
          rcases (show w = 0 ∨ w = 1 ∨ w = 2 by omega) with rfl | rfl | rfl
          · rw [up1_o (by omega), up1_o (by omega), up1_s, D_PW hp (by omega) (by omega) i0 i9, hset_oj (by omega), e10, hset_oj (by omega), e6]
            by_cases ei : i = k / 81
            · rw [if_pos ei, show 27 * T + 9 * 0 + i = 27 * T + k / 81 by omega, hset_s]
            · rw [if_neg ei, hset_oj (by omega), show 27 * T + 9 * 0 + i = 27 * T + i by omega]; exact g3 i i0 (by omega)
          · rw [up1_o (by omega), up1_s, D_PW hp (by omega) (by omega) i0 i9, hset_oj (by omega), e10]
            by_cases ei : i = k / 9 % 9
            · rw [if_pos ei, show 27 * T + 9 * 1 + i = 27 * T + 9 + k / 9 % 9 by omega, hset_s]
            · rw [if_neg ei, hset_oj (by omega), e6, hset_oj (by omega), show 27 * T + 9 * 1 + i = 27 * T + (9 + i) by omega]; exact g3 (9 + i) (by omega) (by omega)
          · rw [up1_s, D_vPW hp bD (by omega) (by omega) i0 i9]
            by_cases ei : i = k % 9
            · rw [if_pos ei, show 27 * T + 9 * 2 + i = 27 * T + 18 + k % 9 by omega, hset_s]
            · rw [if_neg ei, hset_oj (by omega), e10, hset_oj (by omega), e6, hset_oj (by omega), show 27 * T + 9 * 2 + i = 27 * T + (18 + i) by omega]; exact g3 (18 + i) (by omega) (by omega)
        · rw [up1_o (by omega), up1_o (by omega), up1_o (by omega), hset_oj (by omega), e10, hset_oj (by omega), e6, hset_oj (by omega), g2 _ (by omega)]
          exact ms.at t0 (by omega) w0 w3 i0 i9
    · intro hh ⟨k0, f, f75, ms⟩
      rw [show (729 : Int).toNat = 729 from rfl, ← plain_plF hp hW] at ms
      rcases hA with ⟨_, rfl, rfl⟩ | ⟨n, _⟩
      · refine vX9_plain_19 75 729 ⟨⟨by decide, by decide⟩, fun _ => ⟨t75, ?_⟩, fun c => by omega⟩
        have pw := plain_W hp hW
        rw [ms.1]
        exact hQ hh (hm.sc pw.2.1 pw.2.2 ms (fun b b0 b8 b4 => f b (by omega) b8) f75) (fun b hb => f b (by omega) (by omega))
      · omega
  · rcases hA with ⟨o, _⟩ | ⟨_, rfl, rfl⟩
    · omega
    · exact hQ h hm FM.rf
end Mod5
