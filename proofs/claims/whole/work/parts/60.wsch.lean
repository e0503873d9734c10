def wsP (P : PS) (n : Int) (u v w : Int → Int) : PS := (P.1, P.2.1, n, fun k => if k < 40 then u k else if k < 80 then v (k - 40) else w (k - 80))
theorem wsP_0 {P : PS} {n t : Int} {u v w : Int → Int} (t1 : t < 40) : rw' (wsP P n u v w) (40 * 0 + t) = u t := by
  show (if 40 * 0 + t < 40 then u (40 * 0 + t) else if 40 * 0 + t < 80 then v (40 * 0 + t - 40) else w (40 * 0 + t - 80)) = _
  rw [if_pos (by omega), show (40 : Int) * 0 + t = t by omega]
theorem wsP_1 {P : PS} {n t : Int} {u v w : Int → Int} (t0 : 0 ≤ t) (t1 : t < 40) : rw' (wsP P n u v w) (40 * 1 + t) = v t := by
  show (if 40 * 1 + t < 40 then u (40 * 1 + t) else if 40 * 1 + t < 80 then v (40 * 1 + t - 40) else w (40 * 1 + t - 80)) = _
  rw [if_neg (by omega), if_pos (by omega), show (40 : Int) * 1 + t - 40 = t by omega]
theorem wsP_2 {P : PS} {n t : Int} {u v w : Int → Int} (t0 : 0 ≤ t) : rw' (wsP P n u v w) (40 * 2 + t) = w t := by
  show (if 40 * 2 + t < 40 then u (40 * 2 + t) else if 40 * 2 + t < 80 then v (40 * 2 + t - 40) else w (40 * 2 + t - 80)) = _
  rw [if_neg (by omega), if_neg (by omega), show (40 : Int) * 2 + t - 80 = t by omega]
theorem rows3 {A B : Int → Int} {T : Int} (h0 : ∀ t, 0 ≤ t → t < T → A (40 * 0 + t) = B (40 * 0 + t)) (h1 : ∀ t, 0 ≤ t → t < T → A (40 * 1 + t) = B (40 * 1 + t)) (h2 : ∀ t, 0 ≤ t → t < T → A (40 * 2 + t) = B (40 * 2 + t)) : ∀ w t, 0 ≤ w → w < 3 → 0 ≤ t → t < T → A (40 * w + t) = B (40 * w + t) := by
  intro w t w0 w3 t0 t1
  rcases (show w = 0 ∨ w = 1 ∨ w = 2 by omega) with rfl | rfl | rfl
  · exact h0 t t0 t1
  · exact h1 t t0 t1
  · exact h2 t t0 t1
theorem WF_ws {p n : Int} {P : PS} {u v w : Int → Int} (hW : WF p P) (hn : 0 ≤ n ∧ n ≤ 40) (hu : ∀ t, 0 ≤ t → t < n → 0 ≤ u t ∧ u t < PW p (sz P 0)) (hv : ∀ t, 0 ≤ t → t < n → 0 ≤ v t ∧ v t < PW p (sz P 1)) (hw : ∀ t, 0 ≤ t → t < n → 0 ≤ w t ∧ w t < PW p (sz P 2)) : WF p (wsP P n u v w) := by
  refine ⟨hW.1, hW.2.1, hn, fun x t x0 x3 t0 t1 => ?_⟩
  have t1' : t < n := t1
  rcases (show x = 0 ∨ x = 1 ∨ x = 2 by omega) with rfl | rfl | rfl
  · rw [wsP_0 (by omega)]; exact hu t t0 t1'
  · rw [wsP_1 t0 (by omega)]; exact hv t t0 t1'
  · rw [wsP_2 t0]; exact hw t t0 t1'
section Wsch
variable {l : Launch} {d : Nat} {h : HP} {p a : Int} {P : PS} {Q : Int → GS → HP → Prop}
theorem ws_ap {n : Int} {u v w : Int → Int} {hh : HP} (n0 : 0 ≤ n) (n4 : n < 40) (hX : XP hh a p (apn (wsP P n u v w) (u n) (v n) (w n))) : XP hh a p (wsP P (n + 1) u v w) := by
  refine XP_ext hX (fun _ _ _ => rfl) (fun _ _ _ => rfl) rfl (rows3 (fun t t0 t1 => ?_) (fun t t0 t1 => ?_) (fun t t0 t1 => ?_))
  all_goals have t1' : t < n + 1 := t1
  · show up1 (up1 (up1 (wsP P n u v w).2.2.2 (40 * 0 + n) (u n)) (40 * 1 + n) (v n)) (40 * 2 + n) (w n) (40 * 0 + t) = _
    rw [up1_o (by omega), up1_o (by omega), wsP_0 (by omega)]
    by_cases e : t = n
    · rw [e, up1_s]
    · rw [up1_o (by omega)]; exact wsP_0 (by omega)
  · show up1 (up1 (up1 (wsP P n u v w).2.2.2 (40 * 0 + n) (u n)) (40 * 1 + n) (v n)) (40 * 2 + n) (w n) (40 * 1 + t) = _
    rw [up1_o (by omega), wsP_1 t0 (by omega)]
    by_cases e : t = n
    · rw [e, up1_s]
    · rw [up1_o (by omega), up1_o (by omega)]; exact wsP_1 t0 (by omega)
  · show up1 (up1 (up1 (wsP P n u v w).2.2.2 (40 * 0 + n) (u n)) (40 * 1 + n) (v n)) (40 * 2 + n) (w n) (40 * 2 + t) = _
    rw [wsP_2 t0]
    by_cases e : t = n
    · rw [e, up1_s]
    · rw [up1_o (by omega), up1_o (by omega), up1_o (by omega)]; exact wsP_2 t0
theorem ws_pr {n s x : Int} {u v w : Int → Int} {hh : HP} (n4 : n ≤ 40) (hs : 0 ≤ s) (hX : XP hh a p (prw (wsP P n u v w) 2 s x)) : XP hh a p (wsP P n u v (up1 w s x)) := by
  refine XP_ext hX (fun _ _ _ => rfl) (fun _ _ _ => rfl) rfl (rows3 (fun t t0 t1 => ?_) (fun t t0 t1 => ?_) (fun t t0 t1 => ?_))
  all_goals have t1' : t < n := t1
  · show up1 (wsP P n u v w).2.2.2 (40 * 2 + s) x (40 * 0 + t) = _
    rw [up1_o (by omega), wsP_0 (by omega)]; exact wsP_0 (by omega)
  · show up1 (wsP P n u v w).2.2.2 (40 * 2 + s) x (40 * 1 + t) = _
    rw [up1_o (by omega), wsP_1 t0 (by omega)]; exact wsP_1 t0 (by omega)
  · show up1 (wsP P n u v w).2.2.2 (40 * 2 + s) x (40 * 2 + t) = _
    rw [wsP_2 t0]
    by_cases e : t = s
    · rw [e, up1_s, up1_s]
    · rw [up1_o (by omega), up1_o e]; exact wsP_2 t0
theorem rX6_writeScheme {n : Nat} {c : Int → Int} (hg : Gd h p) (ha : isP a) (sr : SR h) (hX : XP h a p P) (hW : WF p P) (h9 : sz P 0 * sz P 1 ≤ 9) (hK : (prs p P).1 ≤ 60) (n4 : n ≤ 4) (hc : CanC p P n c) (xs : XS h 66 p n (fun s => tbl p P (c s))) (pk : ∀ s, 0 ≤ s → s < n → h 61 s = c s) (hUV : ∀ t, 0 ≤ t → t < (prs p P).1 → h 52 t = (prs p P).2.1 t ∧ h 53 t = (prs p P).2.2 t)
    (hQ : ∀ h' (W : Int → Int), XP h' a p (wsP P n (fun s => (prs p P).2.1 (c s)) (fun s => (prs p P).2.2 (c s)) W) → WF p (wsP P n (fun s => (prs p P).2.1 (c s)) (fun s => (prs p P).2.2 (c s)) W) → (∀ k : Int, 0 ≤ k → k < sz P 2 → ∀ i : Int, 0 ≤ i → i < 9 → p ∣ D p (slc p P k) i - sm (fun s => D p (W s) k * D p (tbl p P (c s)) i) n) → FrP a h h' → Q 0 G0 h') :
    R l MX6_writeScheme (d + 4) 0 0 [vR 51, vR a, vI n] G0 h Q := by
  have hA := hW.1 0 (by decide) (by decide)
  have hB := hW.1 1 (by decide) (by decide)
  have hC := hW.1 2 (by decide) (by decide)
  have hAB : 0 ≤ sz P 0 * sz P 1 := Int.mul_nonneg (by omega) (by omega)
  have hab := isP_b ha
  have hp := hg.1
  have pk : ∀ s : Int, 0 ≤ s → s < n → h 61 s = c s := fun s s0 s1 => by
    have := pk s.toNat (by omega) (by omega)
    rw [Int.toNat_of_nonneg s0] at this
    exact this
  obtain ⟨v, q, b, xb, hBV, hBA, hI, hn9⟩ := xs
  have pA : (((PW p (sz P 0)).toNat : Nat) : Int) = PW p (sz P 0) := Int.toNat_of_nonneg (Int.le_of_lt (PW_pos (okp_b hp).1 _))
  have pB : (((PW p (sz P 1)).toNat : Nat) : Int) = PW p (sz P 1) := Int.toNat_of_nonneg (Int.le_of_lt (PW_pos (okp_b hp).1 _))
  have hpv : PV p (PW p (sz P 0)) (PW p (sz P 1)) (prs p P) := by
    have := pfU_v (p := p) (A := PW p (sz P 0)) (B := (PW p (sz P 1)).toNat) (PW p (sz P 0)).toNat (by omega)
    rw [pB] at this
    exact this
  have hcu : ∀ s : Int, 0 ≤ s → s < n → 0 ≤ c s ∧ c s < (prs p P).1 := hc.2.1
  have hu : ∀ s : Int, 0 ≤ s → s < n → 0 ≤ (prs p P).2.1 (c s) ∧ (prs p P).2.1 (c s) < PW p (sz P 0) := fun s s0 s1 => ⟨(hpv.2 _ (hcu s s0 s1).1 (hcu s s0 s1).2).1.1, (hpv.2 _ (hcu s s0 s1).1 (hcu s s0 s1).2).1.2.1⟩
  have hv : ∀ s : Int, 0 ≤ s → s < n → 0 ≤ (prs p P).2.2 (c s) ∧ (prs p P).2.2 (c s) < PW p (sz P 1) := fun s s0 s1 => ⟨(hpv.2 _ (hcu s s0 s1).1 (hcu s s0 s1).2).2.1, (hpv.2 _ (hcu s s0 s1).1 (hcu s s0 s1).2).2.2.1⟩
  have hbR : ∀ m : Int, 0 ≤ m → m < n → isR p (b m) := fun m m0 mn => by
    have := (hBA m.toNat (by omega)).1
    rw [Int.toNat_of_nonneg m0] at this
    exact this
  refine eX6_writeScheme 51 a n (vX6_writeScheme_0 51 a n ⟨(tP ha).1, fun h2 e2 => ?_⟩)
  have f2 : FrP a h h2 := by rw [e2]; exact FrP.set (by omega) (by omega)
  refine lp_up (σ := HP) (fun s hh => S l MX6_writeScheme (d + 3 + 1, 0, 0, 0, 0) 7 [some (vR 51), some (vR a), some (vI n), some (vI s), none, none, none] [] G0 hh Q) (fun s hh => 0 ≤ s ∧ FrP a h hh ∧ XP hh a p (wsP P s (fun s => (prs p P).2.1 (c s)) (fun s => (prs p P).2.2 (c s)) (fun _ => 0))) n ?_ ?_ 0 h2 (by omega) ⟨by decide, f2, XP_0 hX e2⟩
  · intro s hh hs ⟨s0, fr, X'⟩ ih
    have cs := hcu s s0 hs
    have g' : Gd hh p := hg.fr (by omega) fr
    have k' : ∀ b, 41 ≤ b → hh b = h b := fun b hb => fr b (by omega)
    refine vX6_writeScheme_7 51 a n s ?_
    simp only [k' 51 (by decide), k' 52 (by decide), k' 53 (by decide), k' 61 (by decide), sr.1.2.2.2.1, sr.1.2.2.2.2.1, sr.1.2.2.2.2.2.2.2, pk s s0 hs, (hUV _ cs.1 cs.2).1, (hUV _ cs.1 cs.2).2]
    refine ⟨⟨by omega, by omega⟩, ⟨by omega, by omega⟩, fun c => by omega, fun _ => ⟨by decide +kernel, ⟨by decide +kernel, s0, by rw [show ln G0 61 = 4 by decide +kernel]; omega⟩, ia5x (by decide) cs.1 (by omega), ia5x (by decide) cs.1 (by omega), (tP ha).1, ?_⟩⟩
    exact rX4_append g' ha X' ⟨s0, by show s < 40; omega⟩ (lt_R hp (hu s s0 hs).1 (hu s s0 hs).2 hA.2) (lt_R hp (hv s s0 hs).1 (hv s s0 hs).2 hB.2) (R0 hp) (fun h3 x3 f3 _ => ih h3 ⟨by omega, fr.tr f3, ws_ap s0 (by omega) x3⟩)
  · intro hh ⟨s0, fr, X'⟩
    refine vX6_writeScheme_7 51 a n n ⟨⟨by omega, by omega⟩, ⟨by omega, by omega⟩, fun _ => ?_, fun c => by omega⟩
    -- by k
    refine lp_up (σ := HP) (fun k hh => S l MX6_writeScheme (d + 3 + 1, 0, 0, 0, 0) 47 [some (vR 51), some (vR a), some (vI n), some (vI k), none, none, none] [] G0 hh Q) (fun k hh => 0 ≤ k ∧ FrP a h hh ∧ ∃ W : Int → Int, XP hh a p (wsP P n (fun s => (prs p P).2.1 (c s)) (fun s => (prs p P).2.2 (c s)) W) ∧ ∀ s : Int, 0 ≤ s → s < n → isR p (W s) ∧ ∀ j, 0 ≤ j → j < 9 → D p (W s) j = if j < k then D p (bln p v q b (slc p P j) n) s else 0) (sz P 2) ?_ ?_ 0 hh (by omega) ⟨by decide, fr, fun _ => 0, X', fun s _ _ => ⟨R0 hp, fun j j0 _ => by rw [D_z, if_neg (by omega)]⟩⟩
    · intro k hh hk ⟨k0, fr, W, X', hWd⟩ ih
      have g' : Gd hh p := hg.fr (by omega) fr
      have k' : ∀ b, 41 ≤ b → hh b = h b := fun b hb => fr b (by omega)
      have WFk : ∀ W' : Int → Int, (∀ s : Int, 0 ≤ s → s < n → isR p (W' s) ∧ ∀ j, sz P 2 ≤ j → j < 9 → D p (W' s) j = 0) → WF p (wsP P n (fun s => (prs p P).2.1 (c s)) (fun s => (prs p P).2.2 (c s)) W') := fun W' hW' => WF_ws hW ⟨by omega, by omega⟩ hu hv (fun t t0 t1 => ⟨(hW' t t0 t1).1.1, lt_sz hp (hW' t t0 t1).1 (by omega) hC.2 (hW' t t0 t1).2⟩)
      have WF1 := WFk W (fun s s0 s1 => ⟨(hWd s s0 s1).1, fun j j0 j9 => by rw [(hWd s s0 s1).2 j (by omega) j9, if_neg (by omega)]⟩)
      have sR := slc_R (k := k) hp hAB h9
      have xb' : XB hh 66 n v q b := xb.fr ⟨k' _ (by decide), k' _ (by decide), k' _ (by decide), k' _ (by decide)⟩
      refine vX6_writeScheme_47 51 a n k ?_
      have s2 : hh (a + 1) 2 = sz P 2 := X'.2.1 2 (by decide) (by decide)
      simp only [X'.1.2.1, s2, k' 51 (by decide), sr.1.2.2.1]
      refine ⟨(tP ha).1, ia1 ha (by decide) (by decide), ⟨by omega, by omega⟩, ⟨by omega, by omega⟩, fun c => by omega, fun _ => ⟨by decide +kernel, ?_⟩⟩
      refine rX6_sliceOf g' ha (by rw [k' 51 (by decide)]; exact sr.1.1) X' WF1 h9 k0 (by omega) ⟨by decide +kernel, ?_⟩
      refine rX0_blendOf g' (.inr (.inr rfl)) xb' hBV hbR hn9 sR.2.2 ?_
      have bR := bln_R (v := v) (q := q) (b := b) (x := slc p P k) hp n
      show S l MX6_writeScheme (d + 3 + 1, 0, 0, 0, 0) 75 [some (vR 51), some (vR a), some (vI n), some (vI k), some (vI (bln p v q b (slc p P k) n)), some (vI 0), none] [] G0 hh Q
      refine lp_up (σ := HP) (fun s hh => S l MX6_writeScheme (d + 3 + 1, 0, 0, 0, 0) 75 [some (vR 51), some (vR a), some (vI n), some (vI k), some (vI (bln p v q b (slc p P k) n)), some (vI s), none] [] G0 hh Q) (fun s' hh => 0 ≤ s' ∧ FrP a h hh ∧ ∃ W : Int → Int, XP hh a p (wsP P n (fun s => (prs p P).2.1 (c s)) (fun s => (prs p P).2.2 (c s)) W) ∧ ∀ s : Int, 0 ≤ s → s < n → isR p (W s) ∧ ∀ j, 0 ≤ j → j < 9 → D p (W s) j = if j < k ∨ (j = k ∧ s < s') then D p (bln p v q b (slc p P j) n) s else 0) n ?_ ?_ 0 hh (by omega) ⟨by decide, fr, W, X', fun s s0 s1 => ⟨(hWd s s0 s1).1, fun j j0 j9 => ?_⟩⟩
      · intro s hh2 hs ⟨s0, fr2, W2, X2, hW2⟩ ih2
        have g2 : Gd hh2 p := hg.fr (by omega) fr2
        have k2 : ∀ b, 41 ≤ b → hh2 b = h b := fun b hb => fr2 b (by omega)
        have WF2 := WFk W2 (fun s s0 s1 => ⟨(hW2 s s0 s1).1, fun j j0 j9 => by rw [(hW2 s s0 s1).2 j (by omega) j9, if_neg (by omega)]⟩)
        have wR := (hW2 s s0 hs).1
        refine vX6_writeScheme_75 51 a n k _ s ?_
        simp only [k2 51 (by decide), sr.1.1]
        refine ⟨⟨by omega, by omega⟩, ⟨by omega, by omega⟩, fun c => by omega, fun _ => ⟨by decide +kernel, (tP ha).1, ?_⟩⟩
        refine rX4_rowOf ha X2 WF2 (by decide) (by decide) s0 hs ?_
        rw [wsP_2 s0]
        simp only [k2 51 (by decide), sr.1.1]
        refine ⟨by decide +kernel, by decide +kernel, rX1_number g2 (isR_b hp bR) ⟨s0, by omega⟩ ⟨by decide +kernel, ?_⟩⟩
        refine rX1_withNumber g2 (isR_b hp wR) ⟨k0, by omega⟩ ⟨(tP ha).1, ?_⟩
        have wnR := wn_R (i := k) (v := D p (bln p v q b (slc p P k) n) s) hp wR k0 (by omega) (D_D hp)
        refine rX4_put g2 ha X2 WF2 (by decide) (by decide) s0 hs wnR (fun h3 x3 f3 _ => ?_)
        refine ih2 h3 ⟨by omega, fr2.tr f3, _, ws_pr (by omega) s0 x3, fun t t0 t1 => ?_⟩
        by_cases e : t = s
        · rw [e, up1_s]
          refine ⟨wnR, fun j j0 j9 => ?_⟩
          rw [D_wn hp wR k0 (by omega) (D_D hp) j0 j9]
          by_cases ej : j = k
          · rw [if_pos ej, if_pos (.inr ⟨ej, by omega⟩), ej]
          · rw [if_neg ej, (hW2 s s0 hs).2 j j0 j9]
            by_cases ek : j < k
            · rw [if_pos (.inl ek), if_pos (.inl ek)]
            · rw [if_neg (by omega), if_neg (by omega)]
        · rw [up1_o e]
          refine ⟨(hW2 t t0 t1).1, fun j j0 j9 => ?_⟩
          rw [(hW2 t t0 t1).2 j j0 j9]
          by_cases ek : j < k ∨ (j = k ∧ t < s)
          · rw [if_pos ek, if_pos (by omega)]
          · rw [if_neg ek, if_neg (by omega)]
      · intro hh2 ⟨s0, fr2, W2, X2, hW2⟩
        refine vX6_writeScheme_75 51 a n k _ n ⟨⟨by omega, by omega⟩, ⟨by omega, by omega⟩, fun _ => ?_, fun c => by omega⟩
        refine ih hh2 ⟨by omega, fr2, W2, X2, fun s s0 s1 => ⟨(hW2 s s0 s1).1, fun j j0 j9 => ?_⟩⟩
        rw [(hW2 s s0 s1).2 j j0 j9]
        by_cases ek : j < k + 1
        · rw [if_pos ek, if_pos (by omega)]
        · rw [if_neg ek, if_neg (by omega)]
      · rw [(hWd s s0 s1).2 j j0 j9]
        by_cases ek : j < k
        · rw [if_pos ek, if_pos (.inl ek)]
        · rw [if_neg ek, if_neg (by omega)]
    · intro hh ⟨k0, fr, W, X', hWd⟩
      refine vX6_writeScheme_47 51 a n _ ?_
      have s2 : hh (a + 1) 2 = sz P 2 := X'.2.1 2 (by decide) (by decide)
      simp only [X'.1.2.1, s2]
      refine ⟨(tP ha).1, ia1 ha (by decide) (by decide), ⟨by omega, by omega⟩, ⟨by omega, by omega⟩, fun _ => ?_, fun c => by omega⟩
      refine hQ hh W X' (WF_ws hW ⟨by omega, by omega⟩ hu hv (fun t t0 t1 => ⟨(hWd t t0 t1).1.1, lt_sz hp (hWd t t0 t1).1 (by omega) hC.2 (fun j j0 j9 => by rw [(hWd t t0 t1).2 j (by omega) j9, if_neg (by omega)])⟩)) (fun k k0 k1 i i0 i9 => ?_) fr
      have sR := slc_R (k := k) hp hAB h9
      obtain ⟨w, w1, w2⟩ := hc.2.2.2
      have hsp : Sp p 9 n (DV p fun s => tbl p P (c s)) (D p (slc p P k)) := Sp_full hp hI w1 (w2 k k0 k1)
      have hz := (rdc_0 hp hBV sR.2.2).2 ((Sp_av hBA).2 hsp)
      have hbl := (bln_c (x := slc p P k) (q := q) hp n hn9 hBA).2 i i0 i9
      rw [hz, D_z, Int.sub_zero] at hbl
      rw [sm_ext n (g := fun s => D p (bln p v q b (slc p P k) n) s * D p (tbl p P (c s)) i) (fun s s0 s1 => by rw [(hWd s s0 s1).2 k k0 (by omega), if_pos k1])]
      exact hbl
end Wsch
