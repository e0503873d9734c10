section Mod11
variable {l : Launch} {d : Nat} {h : HP} {p : Int} {P : PS} {B : BS} {Q : Int → GS → HP → Prop}
theorem trd_bd {i j k : Int} (hp : okp p) (hW : WF p P) (i0 : 0 ≤ i) (i9 : i < 9) (j0 : 0 ≤ j) (j9 : j < 9) (k0 : 0 ≤ k) (k9 : k < 9) : bd p (trd p P) (81 * j + 9 * k + i) = bd p P (81 * i + 9 * j + k) := by
  rw [bd_at i0 i9, bd_at k0 k9]
  show D p (if (9 * j + k) / 9 < sz P 1 ∧ (9 * j + k) % 9 < sz P 2 then lin p P 0 ((9 * j + k) / 9) ((9 * j + k) % 9) else 0) i = _
  by_cases c : (9 * j + k) / 9 < sz P 1 ∧ (9 * j + k) % 9 < sz P 2
  · rw [if_pos c, D_lin hp hW (by decide) (by decide) (by omega) (by omega) i0 i9]
    unfold cl
    rw [if_pos rfl, show (9 * j + k) / 9 = j by omega, show (9 * j + k) % 9 = k by omega]
  · rw [if_neg c, D_z]
    have hb := hW.2.1 i j i0 i9 j0 j9
    by_cases c1 : sz P 1 ≤ j
    · rw [hb.2.2 (.inr c1), D_z]
    · rw [D_sz hp ⟨hb.1, hb.2.1⟩ (show sz P 2 ≤ k by omega)]
theorem rX9_around {r : Int} {B' : BS} (bw : BW B) (hm : MX h B) (hA : A_ar B r B') (hQ : ∀ h', MX h' B' → FM h h' → Q r G0 h') : R l MX9_around (d + 1) 0 0 [vR 75] G0 h Q := by
  obtain ⟨rfl, rfl⟩ := hA
  have hp := bw.1
  have hW := bw.2.1
  have h40 := hW.2.2.1
  have mr := hm.1
  have ms := hm.2.2.2.1
  have mb := hm.2.2.1
  refine eX9_around 75 (vX9_around_0 75 ?_)
  have key : ∀ hh : HP, (∀ b, b ≠ 77 → b ≠ 86 → hh b = h b) → (∀ i j k, 0 ≤ i → i < 9 → 0 ≤ j → j < 9 → 0 ≤ k → k < 9 → hh 77 (81 * j + 9 * k + i) = h 77 (81 * i + 9 * j + k)) → S l MX9_around (d + 1, 0, 0, 0, 0) 103 [some (vR 75), some (vI 0), none, none] [] G0 hh Q := fun hh f bx => by
    refine lp_up (σ := HP) (fun t hk => S l MX9_around (d + 1, 0, 0, 0, 0) 103 [some (vR 75), some (vI t), none, none] [] G0 hk Q) (fun t hk => 0 ≤ t ∧ (∀ b, b ≠ 78 → hk b = hh b) ∧ ∀ t' w i, 0 ≤ t' → t' < tm (bP B) → 0 ≤ w → w < 3 → 0 ≤ i → i < 9 → hk 78 (27 * t' + 9 * w + i) = D (bp B) (rw' (bP B) (40 * (if t' < t then (w + 1) % 3 else w) + t')) i) (tm (bP B)) ?_ ?_ 0 hh h40.1 ⟨by decide, fun _ _ => rfl, fun t' w i t0 t1 w0 w3 i0 i9 => by rw [if_neg (by omega), f 78 (by decide) (by decide)]; exact ms.at t0 t1 w0 w3 i0 i9⟩
    · intro t hk ht ⟨t0, g, dn⟩ ih
      have e75 : hk 75 = h 75 := (g 75 (by decide)).trans (f 75 (by decide) (by decide))
      refine vX9_around_103 75 t ?_
      simp only [e75, ms.1]
      refine ⟨t75, ⟨by omega, by omega⟩, ⟨by omega, by omega⟩, fun c => by omega, fun _ => ?_⟩
      refine lp_up (σ := HP) (fun i hk2 => S l MX9_around (d + 1, 0, 0, 0, 0) 113 [some (vR 75), some (vI t), some (vI i), none] [] G0 hk2 Q) (fun i hk2 => 0 ≤ i ∧ (∀ b, b ≠ 78 → hk2 b = hh b) ∧ ∀ t' w i', 0 ≤ t' → t' < tm (bP B) → 0 ≤ w → w < 3 → 0 ≤ i' → i' < 9 → hk2 78 (27 * t' + 9 * w + i') = D (bp B) (rw' (bP B) (40 * (if t' < t ∨ (t' = t ∧ i' < i) then (w + 1) % 3 else w) + t')) i') 9 ?_ ?_ 0 hk (by decide) ⟨by decide, g, fun t' w i' t0' t1' w0 w3 i0 i9 => ?_⟩
      · intro i hk2 hi ⟨i0, g2, dn2⟩ ih2
        have e75' : hk2 75 = h 75 := (g2 75 (by decide)).trans (f 75 (by decide) (by decide))
        have d0 := dn2 t 0 i t0 ht (by decide) (by decide) i0 hi
        have d1 := dn2 t 1 i t0 ht (by decide) (by decide) i0 hi
        have d2 := dn2 t 2 i t0 ht (by decide) (by decide) i0 hi
        rw [if_neg (by omega)] at d0 d1 d2
        rw [show 27 * t + 9 * 0 + i = 27 * t + i by omega] at d0
        rw [show 27 * t + 9 * 1 + i = 27 * t + 9 + i by omega] at d1
        rw [show 27 * t + 9 * 2 + i = 27 * t + 18 + i by omega] at d2
        refine vX9_around_113 75 t i ?_
        simp only [e75', mr.sc, d0, d1]
        refine ⟨⟨by omega, by omega⟩, fun c => by omega, fun _ => ⟨t75, i78 (by omega) (by omega), i78 (by omega) (by omega), fun h6 e6 => ?_⟩⟩
        have a6 : h6 75 = h 75 := by rw [e6, hset_oa (by decide), e75']
        have b6 : h6 78 (27 * t + 18 + i) = D (bp B) (rw' (bP B) (40 * 2 + t)) i := by rw [e6, hset_oj (by omega)]; exact d2
        simp only [a6, mr.sc, b6]
        refine ⟨i78 (by omega) (by omega), i78 (by omega) (by omega), fun h9 e9 => ?_⟩
        have a9 : h9 75 = h 75 := by rw [e9, hset_oa (by decide), a6]
        simp only [a9, mr.sc]
        refine ⟨i78 (by omega) (by omega), fun h11 e11 => ih2 h11 ⟨by omega, fun b hb => by rw [e11, hset_oa hb, e9, hset_oa hb, e6, hset_oa hb]; exact g2 b hb, fun t' w i' t0' t1' w0 w3 i0' i9' => ?_⟩⟩
        by_cases c : t' = t ∧ i' = i
        · rw [if_pos (by omega), c.1, c.2]
          rcases (show w = 0 ∨ w = 1 ∨ w = 2 by omega) with rfl | rfl | rfl
          · rw [e11, hset_oj (by omega), e9, hset_oj (by omega), e6, show 27 * t + 9 * 0 + i = 27 * t + i by omega, hset_s]; rfl
          · rw [e11, hset_oj (by omega), e9, show 27 * t + 9 * 1 + i = 27 * t + 9 + i by omega, hset_s]; rfl
          · rw [e11, show 27 * t + 9 * 2 + i = 27 * t + 18 + i by omega, hset_s]; rfl
        · rw [e11, hset_oj (by omega), e9, hset_oj (by omega), e6, hset_oj (by omega), dn2 t' w i' t0' t1' w0 w3 i0' i9']
          by_cases c2 : t' < t ∨ (t' = t ∧ i' < i)
          · rw [if_pos c2, if_pos (by omega)]
          · rw [if_neg c2, if_neg (by omega)]
      · intro hk2 ⟨i0, g2, dn2⟩
        refine vX9_around_113 75 t 9 ⟨⟨by decide, by decide⟩, fun _ => ih hk2 ⟨by omega, g2, fun t' w i' t0' t1' w0 w3 i0' i9' => ?_⟩, fun c => by omega⟩
        rw [dn2 t' w i' t0' t1' w0 w3 i0' i9']
        by_cases c2 : t' < t + 1
        · rw [if_pos (by omega), if_pos c2]
        · rw [if_neg (by omega), if_neg c2]
      · rw [dn t' w i' t0' t1' w0 w3 i0 i9]
        by_cases c2 : t' < t
        · rw [if_pos c2, if_pos (.inl c2)]
        · rw [if_neg c2, if_neg (by omega)]
    · intro hk ⟨t0, g, dn⟩
      have e75 : hk 75 = h 75 := (g 75 (by decide)).trans (f 75 (by decide) (by decide))
      have e76 : hk 76 = h 76 := (g 76 (by decide)).trans (f 76 (by decide) (by decide))
      refine vX9_around_103 75 _ ?_
      simp only [e75, ms.1, mr.sz, e76]
      refine ⟨t75, ⟨by omega, by omega⟩, ⟨by omega, by omega⟩, fun _ => ⟨i76 (by decide) (by decide), i76 (by decide) (by decide), fun h7 e7 => ?_⟩, fun c => by omega⟩
      have a7 : h7 75 = h 75 := by rw [e7, hset_oa (by decide), e75]
      simp only [a7, mr.sz]
      refine ⟨i76 (by decide) (by decide), i76 (by decide) (by decide), fun h10 e10 => ?_⟩
      have a10 : h10 75 = h 75 := by rw [e10, hset_oa (by decide), a7]
      simp only [a10, mr.sz]
      refine ⟨i76 (by decide) (by decide), fun h12 e12 => ?_⟩
      have a12 : h12 75 = h 75 := by rw [e12, hset_oa (by decide), a10]
      have o12 : ∀ b, b ≠ 76 → h12 b = hk b := fun b hb => by rw [e12, hset_oa hb, e10, hset_oa hb, e7, hset_oa hb]
      refine rX9_emptyHand (mr.fr (fun j _ _ _ _ _ _ => by rw [a12])) (fun h15 f15 mh => ⟨t75, fun h17 e17 => ?_⟩)
      have j17 : ∀ j, j ≠ 15 → h17 75 j = h 75 j := fun j hj => by rw [e17, hset_oj hj, f15 75 (by decide), a12]
      have o17 : ∀ b, b ≠ 75 → b ≠ 76 → b ≠ 79 → h17 b = hk b := fun b b1 b2 b3 => by rw [e17, hset_oa b1, f15 b b3, o12 b b2]
      have all : ∀ b, b ≠ 75 → b ≠ 76 → b ≠ 77 → b ≠ 78 → b ≠ 79 → b ≠ 86 → h17 b = h b := fun b b1 b2 b3 b4 b5 b6 => by rw [o17 b b1 b2 b5, g b b4, f b b3 b6]
      refine hQ h17 (hm.bsh (mr.fr (fun j _ _ j15 _ _ _ => j17 j j15)) (j17 0 (by decide)) ⟨fun w w0 w3 => ?_, fun k k0 k1 => ?_⟩ (MS_mk (by rw [j17 4 (by decide)]; exact ms.1) (fun t w i t0 t1 w0 w3 i0 i9 => ?_)) ((mh _).fr (by rw [e17, hset_oa (by decide)])) (fun b b0 b1 => all b (by omega) (by omega) (by omega) (by omega) (by omega) (by omega)) (by rw [e17, hset_s])) (fun b hb => all b (by omega) (by omega) (by omega) (by omega) (by omega) (by omega))
      · rw [e17, hset_oa (by decide), f15 76 (by decide)]
        rcases (show w = 0 ∨ w = 1 ∨ w = 2 by omega) with rfl | rfl | rfl
        · rw [e12, hset_oj (by decide), e10, hset_oj (by decide), e7, hset_s]; exact mb.1 1 (by decide) (by decide)
        · rw [e12, hset_oj (by decide), e10, hset_s, e7, hset_oj (by decide), e76]; exact mb.1 2 (by decide) (by decide)
        · rw [e12, hset_s]; exact mb.1 0 (by decide) (by decide)
      · rw [o17 77 (by decide) (by decide) (by decide), g 77 (by decide)]
        have b1 := bx (k % 9) (k / 81) (k / 9 % 9) (by omega) (by omega) (by omega) (by omega) (by omega) (by omega)
        have b2 := trd_bd (p := bp B) (P := bP B) (i := k % 9) (j := k / 81) (k := k / 9 % 9) hp hW (by omega) (by omega) (by omega) (by omega) (by omega) (by omega)
        rw [show 81 * (k / 81) + 9 * (k / 9 % 9) + k % 9 = k by omega] at b1 b2
        rw [b1, mb.2 _ (by omega) (by omega), b2]
      · have t1' : t < tm (bP B) := t1
        rw [o17 78 (by decide) (by decide) (by decide), dn t w i t0 t1' w0 w3 i0 i9, if_pos t1']
        show _ = D (bp B) (rw' (bP B) (40 * (((40 * w + t) / 40 + 1) % 3) + (40 * w + t) % 40)) i
        rw [show (40 * w + t) / 40 = w by omega, show (40 * w + t) % 40 = t by omega]
  have key2 : ∀ hh : HP, (∀ b, b ≠ 86 → hh b = h b) → (∀ i j k, 0 ≤ i → i < 9 → 0 ≤ j → j < 9 → 0 ≤ k → k < 9 → hh 86 (81 * j + 9 * k + i) = h 77 (81 * i + 9 * j + k)) → S l MX9_around (d + 1, 0, 0, 0, 0) 76 [some (vR 75), some (vI 0), none, none] [] G0 hh Q := fun hh f bx => by
    refine lp_up (σ := HP) (fun k hk => S l MX9_around (d + 1, 0, 0, 0, 0) 76 [some (vR 75), some (vI k), none, none] [] G0 hk Q) (fun k hk => 0 ≤ k ∧ (∀ b, b ≠ 77 → hk b = hh b) ∧ ∀ j, 0 ≤ j → j < k → hk 77 j = hh 86 j) 729 ?_ ?_ 0 hh (by decide) ⟨by decide, fun _ _ => rfl, fun j j0 j1 => by omega⟩
    · intro k hk hk1 ⟨k0, g, dn⟩ ih
      have e75 : hk 75 = h 75 := (g 75 (by decide)).trans (f 75 (by decide))
      refine vX9_around_76 75 k ?_
      simp only [e75, mr.wb, mr.bx]
      refine ⟨⟨by omega, by omega⟩, fun c => by omega, fun _ => ⟨t75, i86 k0 hk1, i77 k0 hk1, fun h6 e6 => ih h6 ⟨by omega, fun b hb => by rw [e6, hset_oa hb]; exact g b hb, fun j j0 j1 => ?_⟩⟩⟩
      by_cases e : j = k
      · rw [e, e6, hset_s, g 86 (by decide)]
      · rw [e6, hset_oj e]; exact dn j j0 (by omega)
    · intro hk ⟨k0, g, dn⟩
      refine vX9_around_76 75 729 ⟨⟨by decide, by decide⟩, fun _ => key hk (fun b b1 b2 => by rw [g b b1]; exact f b b2) (fun i j k i0 i9 j0 j9 k0 k9 => ?_), fun c => by omega⟩
      rw [dn _ (by omega) (by omega)]
      exact bx i j k i0 i9 j0 j9 k0 k9
  refine lp_up (σ := HP) (fun i hk => S l MX9_around (d + 1, 0, 0, 0, 0) 2 [some (vR 75), some (vI i), none, none] [] G0 hk Q) (fun i hk => 0 ≤ i ∧ (∀ b, b ≠ 86 → hk b = h b) ∧ ∀ i' j' k', 0 ≤ i' → i' < 9 → 0 ≤ j' → j' < 9 → 0 ≤ k' → k' < 9 → 81 * i' + 9 * j' + k' < 81 * i → hk 86 (81 * j' + 9 * k' + i') = h 77 (81 * i' + 9 * j' + k')) 9 ?_ ?_ 0 h (by decide) ⟨by decide, fun _ _ => rfl, fun i' j' k' i0 i9 j0 j9 k0 k9 z => by omega⟩
  · intro i hk hi ⟨i0, f1, d1⟩ ih1
    refine vX9_around_2 75 i ⟨⟨by omega, by omega⟩, fun c => by omega, fun _ => ?_⟩
    refine lp_up (σ := HP) (fun j hk => S l MX9_around (d + 1, 0, 0, 0, 0) 10 [some (vR 75), some (vI i), some (vI j), none] [] G0 hk Q) (fun j hk => 0 ≤ j ∧ (∀ b, b ≠ 86 → hk b = h b) ∧ ∀ i' j' k', 0 ≤ i' → i' < 9 → 0 ≤ j' → j' < 9 → 0 ≤ k' → k' < 9 → 81 * i' + 9 * j' + k' < 81 * i + 9 * j → hk 86 (81 * j' + 9 * k' + i') = h 77 (81 * i' + 9 * j' + k')) 9 ?_ ?_ 0 hk (by decide) ⟨by decide, f1, fun i' j' k' a1 a2 a3 a4 a5 a6 z => d1 i' j' k' a1 a2 a3 a4 a5 a6 (by omega)⟩
    · intro j hk hj ⟨j0, f2, d2⟩ ih2
      refine vX9_around_10 75 i j ⟨⟨by omega, by omega⟩, fun c => by omega, fun _ => ?_⟩
      refine lp_up (σ := HP) (fun k hk => S l MX9_around (d + 1, 0, 0, 0, 0) 18 [some (vR 75), some (vI i), some (vI j), some (vI k)] [] G0 hk Q) (fun k hk => 0 ≤ k ∧ (∀ b, b ≠ 86 → hk b = h b) ∧ ∀ i' j' k', 0 ≤ i' → i' < 9 → 0 ≤ j' → j' < 9 → 0 ≤ k' → k' < 9 → 81 * i' + 9 * j' + k' < 81 * i + 9 * j + k → hk 86 (81 * j' + 9 * k' + i') = h 77 (81 * i' + 9 * j' + k')) 9 ?_ ?_ 0 hk (by decide) ⟨by decide, f2, fun i' j' k' a1 a2 a3 a4 a5 a6 z => d2 i' j' k' a1 a2 a3 a4 a5 a6 (by omega)⟩
      · intro k hk hk1 ⟨k0, f3, d3⟩ ih3
        refine vX9_around_18 75 i j k ?_
        simp only [f3 75 (by decide), mr.bx, mr.wb]
        refine ⟨⟨by omega, by omega⟩, fun c => by omega, fun _ => ⟨t75, i77 (by omega) (by omega), i86 (by omega) (by omega), fun h6 e6 => ih3 h6 ⟨by omega, fun b hb => by rw [e6, hset_oa hb]; exact f3 b hb, fun i' j' k' a1 a2 a3 a4 a5 a6 z => ?_⟩⟩⟩
        by_cases e : 81 * i' + 9 * j' + k' = 81 * i + 9 * j + k
        · rw [show i' = i by omega, show j' = j by omega, show k' = k by omega, e6, hset_s, f3 77 (by decide)]
        · rw [e6, hset_oj (by omega)]; exact d3 i' j' k' a1 a2 a3 a4 a5 a6 (by omega)
      · intro hk ⟨k0, f3, d3⟩
        exact vX9_around_18 75 i j 9 ⟨⟨by decide, by decide⟩, fun _ => ih2 hk ⟨by omega, f3, fun i' j' k' a1 a2 a3 a4 a5 a6 z => d3 i' j' k' a1 a2 a3 a4 a5 a6 (by omega)⟩, fun c => by omega⟩
    · intro hk ⟨j0, f2, d2⟩
      exact vX9_around_10 75 i 9 ⟨⟨by decide, by decide⟩, fun _ => ih1 hk ⟨by omega, f2, fun i' j' k' a1 a2 a3 a4 a5 a6 z => d2 i' j' k' a1 a2 a3 a4 a5 a6 (by omega)⟩, fun c => by omega⟩
  · intro hk ⟨i0, f1, d1⟩
    exact vX9_around_2 75 9 ⟨⟨by decide, by decide⟩, fun _ => key2 hk f1 (fun i j k i0 i9 j0 j9 k0 k9 => d1 i j k i0 i9 j0 j9 k0 k9 (by omega)), fun c => by omega⟩
theorem adr_D {x a b f i : Int} (hp : okp p) (hx : isR p x) (ha : 0 ≤ a ∧ a < 9) (i0 : 0 ≤ i) (i9 : i < 9) : D p (adr p x a b f) i = if i = a then (D p x a + f * D p x b) % p else D p x i := by
  unfold adr
  exact D_wn hp hx ha.1 ha.2 (md_D hp) i0 i9
def tst (w : Int) : Int := if w = 0 then 81 else if w = 1 then 9 else 1
theorem tfb_0 {a b f k : Int} : tfb p P 0 a b f k = if k / 9 = a then pl p (fb P k) f (fb P (9 * b + k % 9)) else fb P k := rfl
theorem tfb_1 {a b f k : Int} : tfb p P 1 a b f k = if k % 9 = a then pl p (fb P k) f (fb P (9 * (k / 9) + b)) else fb P k := rfl
theorem tfb_2 {a b f k : Int} : tfb p P 2 a b f k = adr p (fb P k) a b f := rfl
theorem trn_bd {w a b f k : Int} (hp : okp p) (hW : WF p P) (hw : okw w) (ha : 0 ≤ a ∧ a < 9) (hb : 0 ≤ b ∧ b < 9) (k0 : 0 ≤ k) (k1 : k < 729) : bd p (trn p P w a b f) k = if k / tst w % 9 = a then (bd p P k + f * bd p P (k + (b - a) * tst w)) % p else bd p P k := by
  unfold okw at hw
  have fR := fibR (i := k / 81) (j := k / 9 % 9) hp hW (by omega) (by omega) (by omega) (by omega)
  rw [show 9 * (k / 81) + k / 9 % 9 = k / 9 by omega] at fR
  show D p (tfb p P w a b f (k / 9)) (k % 9) = _
  rcases (show w = 0 ∨ w = 1 ∨ w = 2 by omega) with rfl | rfl | rfl
  · rw [tfb_0, show tst 0 = 81 from rfl]
    by_cases c : k / 9 / 9 = a
    · rw [if_pos c, if_pos (by omega), D_pl hp (by omega) (by omega)]
      unfold bd
      rw [show (k + (b - a) * 81) / 9 = 9 * b + k / 9 % 9 by omega, show (k + (b - a) * 81) % 9 = k % 9 by omega]
    · rw [if_neg c, if_neg (by omega)]
  · rw [tfb_1, show tst 1 = 9 from rfl]
    by_cases c : k / 9 % 9 = a
    · rw [if_pos c, if_pos c, D_pl hp (by omega) (by omega)]
      unfold bd
      rw [show (k + (b - a) * 9) / 9 = 9 * (k / 9 / 9) + b by omega, show (k + (b - a) * 9) % 9 = k % 9 by omega]
    · rw [if_neg c, if_neg c]
  · rw [tfb_2, show tst 2 = 1 from rfl, adr_D hp fR ha (by omega) (by omega)]
    by_cases c : k % 9 = a
    · rw [if_pos c, if_pos (by omega)]
      unfold bd
      rw [show (k + (b - a) * 1) / 9 = k / 9 by omega, show (k + (b - a) * 1) % 9 = b by omega, c]
    · rw [if_neg c, if_neg (by omega)]
theorem rX9_turnLoop {w a b f : Int} (bw : BW B) (hm : MX h B) (hw : okw w) (oa : 0 ≤ a ∧ a < sz (bP B) w) (ob : 0 ≤ b ∧ b < sz (bP B) w) (hne : a ≠ b) (hf : isD (bp B) f) (hQ : ∀ h', MX h' (bst B (trn (bp B) (bP B) w a b f)) → FM h h' → Q 1 G0 h') : S l MX9_turn (d + 1, 0, 0, 0, 0) 97 [some (vR 75), some (vI w), some (vI a), some (vI b), some (vI f), some (vI (tst w)), some (vI 0), none] [] G0 h Q := by
  have hp := bw.1
  have pb := okp_b hp
  have hW := bw.2.1
  have h40 := hW.2.2.1
  have mr := hm.1
  have ms := hm.2.2.2.1
  have mb := hm.2.2.1
  have zw := hW.1 w hw.1 hw.2
  have oa' : 0 ≤ a ∧ a < 9 := ⟨oa.1, by omega⟩
  have ob' : 0 ≤ b ∧ b < 9 := ⟨ob.1, by omega⟩
  have tw : tst w = 81 ∨ tst w = 9 ∨ tst w = 1 := by
    unfold tst
    split
    · exact .inl rfl
    · split
      · exact .inr (.inl rfl)
      · exact .inr (.inr rfl)
  have fb7 : f ≤ 7 := by have := hf.2; omega
  have key : ∀ hh : HP, (∀ c, c ≠ 77 → hh c = h c) → (∀ k, 0 ≤ k → k < 729 → hh 77 k = bd (bp B) (trn (bp B) (bP B) w a b f) k) → S l MX9_turn (d + 1, 0, 0, 0, 0) 163 [some (vR 75), some (vI w), some (vI a), some (vI b), some (vI f), none, some (vI 0), none] [] G0 hh Q := fun hh f1 bx => by
    refine lp_up (σ := HP) (fun t hk => S l MX9_turn (d + 1, 0, 0, 0, 0) 163 [some (vR 75), some (vI w), some (vI a), some (vI b), some (vI f), none, some (vI t), none] [] G0 hk Q) (fun t hk => 0 ≤ t ∧ (∀ c, c ≠ 78 → hk c = hh c) ∧ ∀ t' w' i, 0 ≤ t' → t' < tm (bP B) → 0 ≤ w' → w' < 3 → 0 ≤ i → i < 9 → hk 78 (27 * t' + 9 * w' + i) = D (bp B) (if t' < t ∧ w' = w then adr (bp B) (rw' (bP B) (40 * w' + t')) a b f else rw' (bP B) (40 * w' + t')) i) (tm (bP B)) ?_ ?_ 0 hh h40.1 ⟨by decide, fun _ _ => rfl, fun t' w' i t0 t1 w0 w3 i0 i9 => by rw [if_neg (by omega), f1 78 (by decide)]; exact ms.at t0 t1 w0 w3 i0 i9⟩
    · intro t hk ht ⟨t0, g, dn⟩ ih
      have e75 : hk 75 = h 75 := (g 75 (by decide)).trans (f1 75 (by decide))
      have da := dn t w a t0 ht hw.1 hw.2 oa'.1 oa'.2
      have db := dn t w b t0 ht hw.1 hw.2 ob'.1 ob'.2
      rw [if_neg (by omega)] at da db
      have hw' := hw
      unfold okw at hw'
      have d1 := D_D (x := rw' (bP B) (40 * w + t)) (i := a) hp
      have d2 := D_D (x := rw' (bP B) (40 * w + t)) (i := b) hp
      have m := ml_b hf.1 fb7 d2.1 (show D (bp B) (rw' (bP B) (40 * w + t)) b ≤ 7 by omega)
      have rR := rowR hp hW hw.1 hw.2 t0 ht
      refine vX9_turn_163 75 w a b f t ?_
      simp only [e75, ms.1, mr.sc, hm.2.1, da, db]
      refine ⟨t75, ⟨by omega, by omega⟩, ⟨by omega, by omega⟩, fun c => by omega, fun _ => ⟨i78 (by omega) (by omega), i78 (by omega) (by omega), ⟨⟨by omega, by omega⟩, by omega, by omega⟩, fun h9 e9 => ih h9 ⟨by omega, fun c hc => by rw [e9, hset_oa hc]; exact g c hc, fun t' w' i t0' t1' w0 w3 i0 i9 => ?_⟩⟩⟩
      by_cases c : t' = t ∧ w' = w
      · rw [c.1, c.2, if_pos (by omega), adr_D hp rR oa' i0 i9]
        by_cases ei : i = a
        · rw [if_pos ei, ei, e9, hset_s]
        · rw [if_neg ei, e9, hset_oj (by omega), dn t w i t0 ht hw.1 hw.2 i0 i9, if_neg (by omega)]
      · rw [e9, hset_oj (by omega), dn t' w' i t0' t1' w0 w3 i0 i9]
        by_cases c2 : t' < t ∧ w' = w
        · rw [if_pos c2, if_pos (by omega)]
        · rw [if_neg c2, if_neg (by omega)]
    · intro hk ⟨t0, g, dn⟩
      have e75 : hk 75 = h 75 := (g 75 (by decide)).trans (f1 75 (by decide))
      refine vX9_turn_163 75 w a b f _ ?_
      simp only [e75, ms.1]
      refine ⟨t75, ⟨by omega, by omega⟩, ⟨by omega, by omega⟩, fun _ h5 e5 => ?_, fun c => by omega⟩
      have j5 : ∀ j, j ≠ 15 → h5 75 j = h 75 j := fun j hj => by rw [e5, hset_oj hj, e75]
      have o5 : ∀ c, c ≠ 75 → c ≠ 77 → c ≠ 78 → h5 c = h c := fun c c1 c2 c3 => by rw [e5, hset_oa c1, g c c3, f1 c c2]
      refine hQ h5 ⟨mr.fr (fun j _ _ j15 _ _ _ => j5 j j15), by rw [j5 0 (by decide)]; exact hm.2.1, ⟨fun w w0 w3 => by rw [o5 76 (by decide) (by decide) (by decide)]; exact mb.1 w w0 w3, fun k k0 k1 => by rw [e5, hset_oa (by decide), g 77 (by decide)]; exact bx k k0 k1⟩, MS_mk (by rw [j5 4 (by decide)]; exact ms.1) (fun t w' i t0 t1 w0 w3 i0 i9 => ?_), hm.2.2.2.2.1.fr (o5 79 (by decide) (by decide) (by decide)), hm.2.2.2.2.2.1.fr (fun c c0 c1 => o5 c (by omega) (by omega) (by omega)), .inl (by rw [e5, hset_s])⟩ (fun c hc => o5 c (by omega) (by omega) (by omega))
      have t1' : t < tm (bP B) := t1
      rw [e5, hset_oa (by decide), dn t w' i t0 t1' w0 w3 i0 i9]
      show _ = D (bp B) (if (40 * w' + t) / 40 = w then adr (bp B) (rw' (bP B) (40 * w' + t)) a b f else rw' (bP B) (40 * w' + t)) i
      rw [show (40 * w' + t) / 40 = w' by omega]
      by_cases c : w' = w
      · rw [if_pos ⟨t1', c⟩, if_pos c]
      · rw [if_neg (fun z => c z.2), if_neg c]
  refine lp_up (σ := HP) (fun k hk => S l MX9_turn (d + 1, 0, 0, 0, 0) 97 [some (vR 75), some (vI w), some (vI a), some (vI b), some (vI f), some (vI (tst w)), some (vI k), none] [] G0 hk Q) (fun k hk => 0 ≤ k ∧ (∀ c, c ≠ 77 → hk c = h c) ∧ (∀ j, 0 ≤ j → j < k → hk 77 j = bd (bp B) (trn (bp B) (bP B) w a b f) j) ∧ ∀ j, 0 ≤ j → j < 729 → (k ≤ j ∨ j / tst w % 9 ≠ a) → hk 77 j = bd (bp B) (bP B) j) 729 ?_ ?_ 0 h (by decide) ⟨by decide, fun _ _ => rfl, fun j j0 j1 => by omega, fun j j0 j1 _ => mb.2 j j0 j1⟩
  · intro k hk hk1 ⟨k0, f1, dn, un⟩ ih
    have e75 := f1 75 (by decide)
    have tb := trn_bd (f := f) hp hW hw oa' ob' k0 hk1
    refine vX9_turn_97 75 w a b f (tst w) k ?_
    simp only [e75, mr.bx, hm.2.1]
    have q0 : 0 ≤ k / tst w := by rcases tw with e | e | e <;> rw [e] <;> omega
    have q1 : k / tst w ≤ 729 := by rcases tw with e | e | e <;> rw [e] <;> omega
    refine ⟨⟨by omega, by omega⟩, fun c => by omega, fun _ => ⟨⟨⟨by omega, by omega⟩, by omega, by omega⟩, ⟨⟨q0, by omega⟩, by decide, by decide⟩, ⟨by omega, by omega⟩, ⟨by omega, by omega⟩, fun ne => ih hk ⟨by omega, f1, fun j j0 j1 => ?_, fun j j0 j1 hj => un j j0 j1 (by omega)⟩, fun e => ?_⟩⟩
    · by_cases ej : j = k
      · rw [ej, tb, if_neg ne]; exact un k k0 hk1 (.inl (Int.le_refl k))
      · exact dn j j0 (by omega)
    · rw [if_pos e] at tb
      have r0 : 0 ≤ k + (b - a) * tst w ∧ k + (b - a) * tst w < 729 ∧ (k + (b - a) * tst w) / tst w % 9 ≠ a := by rcases tw with e1 | e1 | e1 <;> rw [e1] at e ⊢ <;> omega
      have v1 := un k k0 hk1 (.inl (Int.le_refl k))
      have v2 := un (k + (b - a) * tst w) r0.1 r0.2.1 (.inr r0.2.2)
      have d1 := bd_D (P := bP B) (k := k) hp
      have d2 := bd_D (P := bP B) (k := k + (b - a) * tst w) hp
      have m := ml_b hf.1 fb7 d2.1 (show bd (bp B) (bP B) (k + (b - a) * tst w) ≤ 7 by omega)
      rw [v1, v2]
      refine ⟨t75, i77 k0 hk1, i77 r0.1 r0.2.1, ⟨⟨by omega, by omega⟩, by omega, by omega⟩, fun h12 e12 => ih h12 ⟨by omega, fun c hc => by rw [e12, hset_oa hc]; exact f1 c hc, fun j j0 j1 => ?_, fun j j0 j1 hj => ?_⟩⟩
      · by_cases ej : j = k
        · rw [ej, e12, hset_s, tb]
        · rw [e12, hset_oj ej]; exact dn j j0 (by omega)
      · have ej : j ≠ k := fun z => by rw [z] at hj; omega
        rw [e12, hset_oj ej]; exact un j j0 j1 (by omega)
  · intro hk ⟨k0, f1, dn, un⟩
    exact vX9_turn_97 75 w a b f (tst w) 729 ⟨⟨by decide, by decide⟩, fun _ => key hk f1 dn, fun c => by omega⟩
theorem rX9_turn {w a b f r : Int} {B' : BS} (hw : inR w) (ha : inR a) (hb : inR b) (hf : inR f) (bw : BW B) (hm : MX h B) (hA : A_tn w a b f B r B') (hQ : ∀ h', MX h' B' → FM h h' → Q r G0 h') : R l MX9_turn (d + 1) 0 0 [vR 75, vI w, vI a, vI b, vI f] G0 h Q := by
  have L : ∀ v, inR v → inL v := fun v hv => ⟨by have := hv.1; omega, by have := hv.2; omega⟩
  have r1 : inR 1 := ⟨by decide, by decide⟩
  have r0 : inR 0 := ⟨by decide, by decide⟩
  have pb := okp_b bw.1
  have no : ¬ (okw w ∧ (0 ≤ a ∧ a < sz (bP B) w) ∧ (0 ≤ b ∧ b < sz (bP B) w) ∧ a ≠ b ∧ isD (bp B) f) → Q (-1) G0 h := fun n => by
    rcases hA with ⟨o, _⟩ | ⟨_, rfl, rfl⟩
    · exact absurd o n
    · exact hQ h hm FM.rf
  refine eX9_turn 75 w a b f (vX9_turn_0 75 w a b f ⟨hw, rX9_in (L w hw) (by decide) (by decide) (fun o1 => ⟨r1, fun z => by omega, fun _ => ?_⟩) (fun n => ⟨r0, fun _ => no (fun q => n (by have := q.1; unfold okw at this; omega)), fun z => absurd rfl z⟩)⟩)
  have ow : okw w := ⟨o1.1, by omega⟩
  have zw := bw.2.1.1 w ow.1 ow.2
  simp only [hm.1.sz, hm.2.2.1.1 w ow.1 ow.2]
  refine ⟨ha, t75, i76 ow.1 ow.2, ⟨by omega, by omega⟩, rX9_in (L a ha) (by decide) ⟨by omega, by omega⟩ (fun o2 => ⟨r1, fun z => by omega, fun _ => ?_⟩) (fun n => ⟨r0, fun _ => no (fun q => n (by have := q.2.1; omega)), fun z => absurd rfl z⟩)⟩
  simp only [hm.1.sz, hm.2.2.1.1 w ow.1 ow.2]
  refine ⟨hb, t75, i76 ow.1 ow.2, ⟨by omega, by omega⟩, rX9_in (L b hb) (by decide) ⟨by omega, by omega⟩ (fun o3 => ⟨r1, fun z => by omega, fun _ => ⟨ha, hb, fun e => no (fun q => q.2.2.2.1 e), fun ne => ?_⟩⟩) (fun n => ⟨r0, fun _ => no (fun q => n (by have := q.2.2.1; omega)), fun z => absurd rfl z⟩)⟩
  simp only [hm.2.1]
  refine ⟨hf, t75, ⟨by omega, by omega⟩, rX9_in (L f hf) (by decide) ⟨by omega, by omega⟩ (fun o4 => ⟨r1, fun _ => ?_, fun z => by omega⟩) (fun n => ⟨r0, fun z => absurd rfl z, fun _ => no (fun q => n (by have := q.2.2.2.2; unfold isD at this; omega))⟩)⟩
  have oa : 0 ≤ a ∧ a < sz (bP B) w := by omega
  have ob : 0 ≤ b ∧ b < sz (bP B) w := by omega
  have of' : isD (bp B) f := ⟨by omega, by omega⟩
  rcases hA with ⟨_, rfl, rfl⟩ | ⟨n, _⟩
  · have tl := rX9_turnLoop (l := l) (d := d) (Q := Q) bw hm ow oa ob ne of' hQ
    unfold tst at tl
    refine ⟨hw, fun c => ⟨fun c2 => ?_, fun c2 => ?_⟩, fun c => ?_⟩
    · rw [if_neg c, if_neg c2] at tl; exact tl
    · rw [if_neg c, if_pos c2] at tl; exact tl
    · rw [if_pos c] at tl; exact tl
  · exact absurd ⟨ow, oa, ob, ne, of'⟩ n
end Mod11
