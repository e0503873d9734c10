theorem ls1_f {p : Int} {P P' : PS} (h : ls1 p P = some P') : P'.1 = P.1 ∧ P'.2.1 = P.2.1 := by
  unfold ls1 at h
  cases e : fz P (tm P).toNat 0 with
  | some t => rw [e] at h; cases h; exact ⟨rfl, rfl⟩
  | none =>
    rw [e] at h
    cases e2 : fjs p P (tm P).toNat 0 with
    | some q => rw [e2] at h; cases h; exact ⟨rfl, rfl⟩
    | none => rw [e2] at h; cases h
theorem lsn_f {p : Int} : ∀ (n : Nat) (P : PS), (lsn p n P).1 = P.1 ∧ (lsn p n P).2.1 = P.2.1
  | 0, _ => ⟨rfl, rfl⟩
  | n + 1, P => by
    rw [lsn_s]
    cases c : ls1 p P with
    | none => exact ⟨rfl, rfl⟩
    | some P' =>
      have h1 := lsn_f (p := p) n P'
      have h2 := ls1_f c
      exact ⟨h1.1.trans h2.1, h1.2.trans h2.2⟩
theorem lsn_t {p : Int} (hp : okp p) : ∀ (n : Nat) (P : PS), WF p P → tm (lsn p n P) ≤ tm P
  | 0, _, _ => Int.le_refl _
  | n + 1, P, h => by
    rw [lsn_s]
    cases c : ls1 p P with
    | none => exact Int.le_refl _
    | some P' =>
      have h2 := ls1_W hp h c
      have h1 := lsn_t hp n P' h2.1
      show tm (lsn p n P') ≤ tm P
      omega
theorem dnW_f {p : Int} {P : PS} : ∀ (n : Nat) (w k : Int), (dnW p P n w k).1 = P.1 ∧ (dnW p P n w k).2.1 = P.2.1 ∧ tm (dnW p P n w k) = tm P
  | 0, _, _ => ⟨rfl, rfl, rfl⟩
  | n + 1, w, k => by
    rw [dnW_s]
    cases dnS p P w (tm P).toNat 0 k with
    | inl k' => exact dnW_f n (w + 1) k'
    | inr q => exact ⟨rfl, rfl, rfl⟩
theorem dnS_r {p w : Int} {P : PS} : ∀ (n : Nat) (s k : Int), 0 ≤ k → ∀ q : Int × Int, dnS p P w n s k = .inr q → s ≤ q.1 ∧ q.1 < s + n ∧ 0 ≤ q.2 ∧ q.2 < mcn p P w q.1
  | 0, s, k, _, q, h => by cases h
  | n + 1, s, k, k0, q, h => by
    rw [dnS_s] at h
    by_cases c : mcn p P w s ≤ k
    · rw [if_pos c] at h
      have := dnS_r n (s + 1) (k - mcn p P w s) (by omega) q h
      exact ⟨by omega, by omega, this.2.2⟩
    · rw [if_neg c] at h
      cases h
      exact ⟨Int.le_refl s, by show s < s + ((n + 1 : Nat) : Int); omega, k0, by show k < mcn p P w s; omega⟩
theorem dnS_l {p w : Int} {P : PS} : ∀ (n : Nat) (s k : Int), 0 ≤ k → ∀ k', dnS p P w n s k = .inl k' → 0 ≤ k'
  | 0, s, k, k0, k', h => by cases h; exact k0
  | n + 1, s, k, k0, k', h => by
    rw [dnS_s] at h
    by_cases c : mcn p P w s ≤ k
    · rw [if_pos c] at h
      exact dnS_l n (s + 1) (k - mcn p P w s) (by omega) k' h
    · rw [if_neg c] at h; cases h
theorem dnW_W {p : Int} {P : PS} (hp : okp p) (hW : WF p P) : ∀ (n : Nat) (w k : Int), 0 ≤ w → w + n ≤ 3 → 0 ≤ k → WF p (dnW p P n w k)
  | 0, _, _, _, _, _ => hW
  | n + 1, w, k, w0, wn, k0 => by
    have ht := hW.2.2.1
    rw [dnW_s]
    cases e : dnS p P w (tm P).toNat 0 k with
    | inl k' => exact dnW_W hp hW n (w + 1) k' (by omega) (by omega) (dnS_l _ _ _ k0 k' e)
    | inr q =>
      have h1 := dnS_r _ _ _ k0 q e
      have h2 := mto_r (p := p) (P := P) (w := w) (s := q.1) (tm P).toNat 0 q.2 h1.2.2.1 (by rw [← mcn_cf (by omega) (by omega)]; exact h1.2.2.2)
      exact (mv_W hp hW w0 (by omega) (show 0 ≤ q.1 by omega) (by omega) (show 0 ≤ mto p P w q.1 (tm P).toNat 0 q.2 by omega) (by omega)).2.2.2
theorem nmv_b {p : Int} {P : PS} (hW : WF p P) : 0 ≤ nmv p P ∧ nmv p P ≤ 5000 := by
  have ht := hW.2.2.1
  unfold nmv
  have h1 := sm_b (f := fun w => sm (fun s => mcn p P w s) (tm P).toNat) (M := 1600) 3 (fun w _ _ => by
    have h2 := sm_b (f := fun s => mcn p P w s) (M := 40) (tm P).toNat (fun s s0 s1 => mcn_b hW s0 (by omega))
    refine ⟨h2.1, ?_⟩
    have : ((tm P).toNat : Int) * 40 ≤ 40 * 40 := by omega
    omega)
  refine ⟨h1.1, ?_⟩
  have := h1.2
  omega
theorem wkn_s {p x : Int} {n : Nat} {P : PS} : wkn p (n + 1) x P = if nmv p P = 0 then P else wkn p n (1103515245 * x + 12345) (lsn p (tm (dnW p P 3 0 ((1103515245 * x + 12345) % 4294967296 / 65536 % nmv p P))).toNat (dnW p P 3 0 ((1103515245 * x + 12345) % 4294967296 / 65536 % nmv p P))) := rfl
theorem wk_k {p x : Int} {P : PS} (hW : WF p P) (hn : nmv p P ≠ 0) : 0 ≤ (1103515245 * x + 12345) % 4294967296 / 65536 % nmv p P ∧ (1103515245 * x + 12345) % 4294967296 / 65536 % nmv p P ≤ 1000000 := by
  have := nmv_b hW
  have h1 := Int.emod_nonneg ((1103515245 * x + 12345) % 4294967296 / 65536) hn
  have h2 := Int.emod_lt_of_pos ((1103515245 * x + 12345) % 4294967296 / 65536) (show 0 < nmv p P by omega)
  omega
theorem wkn_W {p : Int} (hp : okp p) : ∀ (n : Nat) (x : Int) (P : PS), WF p P → WF p (wkn p n x P) ∧ (wkn p n x P).1 = P.1 ∧ (wkn p n x P).2.1 = P.2.1
  | 0, _, P, h => ⟨h, rfl, rfl⟩
  | n + 1, x, P, h => by
    rw [wkn_s]
    by_cases c : nmv p P = 0
    · rw [if_pos c]; exact ⟨h, rfl, rfl⟩
    · rw [if_neg c]
      have k := wk_k (x := x) h c
      have h1 := dnW_W hp h 3 0 _ (by decide) (by decide) k.1
      have h2 := lsn_W hp (tm (dnW p P 3 0 ((1103515245 * x + 12345) % 4294967296 / 65536 % nmv p P))).toNat _ h1
      have h3 := wkn_W hp n (1103515245 * x + 12345) _ h2
      have h4 := lsn_f (p := p) (tm (dnW p P 3 0 ((1103515245 * x + 12345) % 4294967296 / 65536 % nmv p P))).toNat (dnW p P 3 0 ((1103515245 * x + 12345) % 4294967296 / 65536 % nmv p P))
      have h5 := dnW_f (p := p) (P := P) 3 0 ((1103515245 * x + 12345) % 4294967296 / 65536 % nmv p P)
      exact ⟨h3.1, h3.2.1.trans (h4.1.trans h5.1), h3.2.2.trans (h4.2.trans h5.2.1)⟩
section Face4
variable {l : Launch} {d : Nat} {h : HP} {B : BS} {Q : Int → GS → HP → Prop}
theorem rX8_less (hc : CX h B) (hQ : ∀ r B' h', A_ls B r B' → CX h' B' → FC h h' → Q r G0 h') : R l MX8_less (d + 6) 0 0 [vR 0] G0 h Q := by
  obtain ⟨a, hc⟩ := hc
  have g := hc.2.1
  have ha := isP_a hc.1
  have hW := hc.w
  have X := hc.2.2.2.1
  refine eX8_less 0 (vX8_less_0 0 ?_)
  simp only [hc.h10, hc.2.2.1.2.2.2.2.1]
  exact ⟨by decide +kernel, by decide +kernel, rX3_lessen g ha hc.2.2.2.2.2.2.2.1.1 X hW (fun h' X' f' => hQ _ _ h' ⟨rfl, rfl⟩ ⟨a, hc.pc X' (lsn_W g.1 _ _ hW) (lsn_f _ _).1 f'⟩ (FrP.c ha f'))⟩
theorem rX8_move {w s t : Int} (hw : inR w) (hs : inR s) (ht : inR t) (hc : CX h B) (hQ : ∀ r B' h', A_mv w s t B r B' → CX h' B' → FC h h' → Q r G0 h') : R l MX8_move (d + 4) 0 0 [vR 0, vI w, vI s, vI t] G0 h Q := by
  obtain ⟨a, hc⟩ := hc
  have g := hc.2.1
  have ha := isP_a hc.1
  have hW := hc.w
  have X := hc.2.2.2.1
  have r1 : inR 1 := ⟨by decide, by decide⟩
  have r0 : inR 0 := ⟨by decide, by decide⟩
  have no : ¬ (okw w ∧ okt (bP B) s ∧ okt (bP B) t ∧ s ≠ t) → Q (-1) G0 h := fun n => hQ _ _ _ (.inl ⟨n, rfl, rfl⟩) ⟨a, hc⟩ FC.rf
  refine eX8_move 0 w s t (vX8_move_0 0 w s t (rX8_isWay hw (fun o1 => ⟨r1, fun z => by omega, fun _ => ?_⟩) (fun n => ⟨r0, fun _ => no (fun q => n q.1), fun z => absurd rfl z⟩)))
  simp only [hc.h10]
  refine ⟨by decide +kernel, (tP ha).1, rX4_hasTime ha X hW hs (fun o2 => ⟨r1, fun z => by omega, fun _ => ?_⟩) (fun n => ⟨r0, fun _ => no (fun q => n q.2.1), fun z => absurd rfl z⟩)⟩
  simp only [hc.h10]
  refine ⟨by decide +kernel, (tP ha).1, rX4_hasTime ha X hW ht (fun o3 => ⟨r1, fun z => by omega, fun _ => ⟨hs, ht, fun o4 => ?_, fun e => no (fun q => q.2.2.2 e)⟩⟩) (fun n => ⟨r0, fun _ => no (fun q => n q.2.2.1), fun z => absurd rfl z⟩)⟩
  simp only [hc.h10]
  refine ⟨by decide +kernel, (tP ha).1, rX4_alike g ha X hW o1.1 o1.2 o2.1 o2.2 o3.1 o3.2 (fun o5 => ⟨r1, fun _ => ?_, fun z => by omega⟩) (fun n => ⟨r0, fun z => absurd rfl z, fun _ => hQ _ _ _ (.inr ⟨⟨o1, o2, o3, o4⟩, .inl ⟨n, rfl, rfl⟩⟩) ⟨a, hc⟩ FC.rf⟩)⟩
  simp only [hc.h10, hc.2.2.1.2.2.2.2.1]
  exact ⟨by decide +kernel, by decide +kernel, rX3_doMove g ha hc.2.2.2.2.2.2.2.1.1 X hW o1.1 o1.2 o2.1 o2.2 o3.1 o3.2 o5 (fun h' X' f' => hQ _ _ h' (.inr ⟨⟨o1, o2, o3, o4⟩, .inr ⟨o5, rfl, rfl⟩⟩) ⟨a, hc.pc X' (mv_W g.1 hW o1.1 o1.2 o2.1 o2.2 o3.1 o3.2).2.2.2 rfl f'⟩ (FrP.c ha f'))⟩
theorem bst_bst {P P' : PS} : bst (bst B P) P' = bst B P' := rfl
theorem rX8_walkLoop {n : Int} : ∀ (m : Nat) (k x : Int) (h : HP) (B : BS) (a : Int), 0 ≤ k → n ≤ 200 → k + m = n → CXa h a B → (∀ h', CXa h' a (bst B (wkn (bp B) m x (bP B))) → FC h h' → Q (tm (wkn (bp B) m x (bP B))) G0 h') → S l MX8_walk (d + 5 + 1, 0, 0, 0, 0) 18 [some (vR 0), none, some (vI n), some (vI x), some (vI k), none] [] G0 h Q
  | 0, k, x, h, B, a, k0, n2, hk, hc, hQ => by
    have ha := isP_a hc.1
    refine vX8_walk_18 0 n x k ?_
    simp only [hc.h10, hc.2.2.2.1.2.2.2.1]
    exact ⟨⟨by omega, by omega⟩, ⟨by omega, by omega⟩, fun _ => ⟨by decide +kernel, (tP ha).1, hQ h hc FC.rf⟩, fun c => by omega⟩
  | m + 1, k, x, h, B, a, k0, n2, hk, hc, hQ => by
    have g := hc.2.1
    have ha := isP_a hc.1
    have hW := hc.w
    have X := hc.2.2.2.1
    have nb := nmv_b hW
    rw [wkn_s] at hQ
    refine vX8_walk_18 0 n x k ?_
    simp only [hc.h10, hc.2.2.1.2.2.2.2.1]
    refine ⟨⟨by omega, by omega⟩, ⟨by omega, by omega⟩, fun c => by omega, fun _ => ⟨by decide +kernel, by decide +kernel, rX3_countMoves ha X hW ⟨⟨by omega, by omega⟩, fun c => ?_, fun c => ?_⟩⟩⟩
    · rw [if_neg c] at hQ
      have kk := wk_k (x := x) hW c
      simp only [hc.h10, hc.2.2.1.2.2.2.2.1]
      refine ⟨by decide +kernel, ⟨⟨by omega, by omega⟩, by omega, by omega⟩, by decide +kernel, rX3_doNumbered g ha hc.2.2.2.2.2.2.2.1.1 X hW kk (fun h1 X1 f1 => ?_)⟩
      have dw := dnW_f (p := bp B) (P := bP B) 3 0 ((1103515245 * x + 12345) % 4294967296 / 65536 % nmv (bp B) (bP B))
      have c1 := hc.pc X1 (dnW_W g.1 hW 3 0 _ (by decide) (by decide) kk.1) dw.1 f1
      simp only [c1.h10, c1.2.2.1.2.2.2.2.1]
      refine ⟨by decide +kernel, by decide +kernel, rX3_lessen c1.2.1 ha c1.2.2.2.2.2.2.2.1.1 c1.2.2.2.1 c1.w (fun h2 X2 f2 => ?_)⟩
      have c2 := c1.pc X2 (lsn_W c1.2.1.1 _ _ c1.w) (lsn_f _ _).1 f2
      exact rX8_walkLoop m (k + 1) (1103515245 * x + 12345) h2 _ a (by omega) n2 (by omega) c2 (fun h' c' f' => hQ h' c' (fun b hb => by rw [f' b hb, FrP.c ha f2 b hb, FrP.c ha f1 b hb]))
    · rw [if_pos c] at hQ
      simp only [hc.h10, X.2.2.2.1]
      exact ⟨by decide +kernel, (tP ha).1, hQ h hc FC.rf⟩
theorem rX8_walk {x n : Int} (hn : inR n) (hc : CX h B) (hQ : ∀ r B' h', A_wk x n B r B' → CX h' B' → FC h h' → Q r G0 h') : R l MX8_walk (d + 6) 0 0 [vR 0, vI x, vI n] G0 h Q := by
  obtain ⟨a, hc⟩ := hc
  refine eX8_walk 0 x n (vX8_walk_0 0 x n ⟨hn, fun c => hQ _ _ _ (.inl ⟨.inl c, rfl, rfl⟩) ⟨a, hc⟩ FC.rf, fun c1 => ⟨fun c2 => ?_, fun c2 => hQ _ _ _ (.inl ⟨.inr c2, rfl, rfl⟩) ⟨a, hc⟩ FC.rf⟩⟩)
  exact rX8_walkLoop n.toNat 0 x h B a (by decide) c2 (by omega) hc (fun h' c' f' => hQ _ _ h' (.inr ⟨⟨c1, c2⟩, rfl, rfl⟩) ⟨a, c'⟩ f')
theorem rX8_takeSpare {a : Int} {P : PS} {h0 : HP} (hc : CXa h0 a B) (hX : XP h (14 - a) (bp B) P) (hW : WF (bp B) P) (f : FrP (14 - a) h0 h) (hQ : ∀ h', CXa h' (14 - a) (bsh B P) → FC h0 h' → Q 0 G0 h') : R l MX8_takeSpare (d + 1) 0 0 [vR 0] G0 h Q := by
  have a4 := hc.1
  have a4' : 14 - a = 4 ∨ 14 - a = 10 := by omega
  have e0 : h 0 = h0 0 := f 0 (by omega)
  have fr := hc.2.2.1
  refine eX8_takeSpare 0 (vX8_takeSpare_0 0 ?_)
  simp only [e0, hc.h10, fr.2.2.2.2.2.2.2.2.2.2.2]
  refine ⟨by decide +kernel, by omega, fun h3 e3 h4 e4 => rX8_emptyHands ?_ (fun h5 f5 z5 => hQ h5 (hc.sh a4' (hX.lo (fun b b0 b1 => ?_)) hW (fun b b0 b1 b2 => ?_) ?_ z5) (fun b hb => ?_))⟩
  · rw [e4, hset_oj (by decide), e3, hset_oj (by decide), e0]; exact fr.2.2.2.1
  · rw [f5 b (by omega), e4, hset_oa (by omega), e3, hset_oa (by omega)]
  · rw [f5 b b1, e4, hset_oa b0, e3, hset_oa b0]; exact f b b2
  · have q : ∀ j, j ≠ 10 → j ≠ 11 → h5 0 j = h0 0 j := fun j j0 j1 => by rw [f5 0 (by decide), e4, hset_oj j1, e3, hset_oj j0, e0]
    unfold FR
    rw [q 0 (by decide) (by decide), q 1 (by decide) (by decide), q 2 (by decide) (by decide), q 3 (by decide) (by decide), q 4 (by decide) (by decide), q 5 (by decide) (by decide), q 6 (by decide) (by decide), q 7 (by decide) (by decide), q 8 (by decide) (by decide), q 9 (by decide) (by decide)]
    refine ⟨fr.1, fr.2.1, fr.2.2.1, fr.2.2.2.1, fr.2.2.2.2.1, fr.2.2.2.2.2.1, fr.2.2.2.2.2.2.1, fr.2.2.2.2.2.2.2.1, fr.2.2.2.2.2.2.2.2.1, fr.2.2.2.2.2.2.2.2.2.1, ?_, ?_⟩
    · rw [f5 0 (by decide), e4, hset_oj (by decide), e3, hset_s]
    · rw [f5 0 (by decide), e4, hset_s]; omega
  · rw [f5 b (by omega), e4, hset_oa (by omega), e3, hset_oa (by omega)]; exact f b (by omega)
theorem CXa.spa {a : Int} (hc : CXa h a B) : Pr h (14 - a) ∧ isP (14 - a) ∧ apart (14 - a) a := by
  rcases hc.1 with rfl | rfl
  · exact ⟨hc.2.2.2.2.2.1.2, by unfold isP; omega, by unfold apart; omega⟩
  · exact ⟨hc.2.2.2.2.2.1.1, by unfold isP; omega, by unfold apart; omega⟩
theorem rX8_around (hc : CX h B) (hQ : ∀ r B' h', A_ar B r B' → CX h' B' → FC h h' → Q r G0 h') : R l MX8_around (d + 5) 0 0 [vR 0] G0 h Q := by
  obtain ⟨a, hc⟩ := hc
  have g := hc.2.1
  have ha := isP_a hc.1
  have hW := hc.w
  have X := hc.2.2.2.1
  obtain ⟨s1, s2, s3⟩ := hc.spa
  refine eX8_around 0 (vX8_around_0 0 ?_)
  simp only [hc.h10, hc.2.2.1.2.2.2.2.2.1, hc.2.2.1.2.2.2.2.2.2.2.2.2.2.2]
  exact ⟨by decide +kernel, by decide +kernel, rX2_turnRound g ha s2 s3 s1 X hW (fun h' X' f' => ⟨by decide +kernel, rX8_takeSpare hc X' (WF_trd g.1 hW) f' (fun h2 c2 f2 => hQ _ _ h2 ⟨rfl, rfl⟩ ⟨_, c2⟩ f2)⟩)⟩
theorem rX8_turn {w x y f : Int} (hw : inR w) (hx : inR x) (hy : inR y) (hf : inR f) (hc : CX h B) (hQ : ∀ r B' h', A_tn w x y f B r B' → CX h' B' → FC h h' → Q r G0 h') : R l MX8_turn (d + 5) 0 0 [vR 0, vI w, vI x, vI y, vI f] G0 h Q := by
  obtain ⟨a, hc⟩ := hc
  have g := hc.2.1
  have ha := isP_a hc.1
  have hW := hc.w
  have X := hc.2.2.2.1
  have r1 : inR 1 := ⟨by decide, by decide⟩
  have r0 : inR 0 := ⟨by decide, by decide⟩
  have no : ¬ (okw w ∧ (0 ≤ x ∧ x < sz (bP B) w) ∧ (0 ≤ y ∧ y < sz (bP B) w) ∧ x ≠ y ∧ isD (bp B) f) → Q (-1) G0 h := fun n => hQ _ _ _ (.inr ⟨n, rfl, rfl⟩) ⟨a, hc⟩ FC.rf
  refine eX8_turn 0 w x y f (vX8_turn_0 0 w x y f (rX8_isWay hw (fun o1 => ⟨r1, fun z => by omega, fun _ => ?_⟩) (fun n => ⟨r0, fun _ => no (fun q => n q.1), fun z => absurd rfl z⟩)))
  simp only [hc.h10]
  refine ⟨by decide +kernel, (tP ha).1, rX4_hasIndex ha X hW o1.1 o1.2 hx (fun o2 => ⟨r1, fun z => by omega, fun _ => ?_⟩) (fun n => ⟨r0, fun _ => no (fun q => n q.2.1), fun z => absurd rfl z⟩)⟩
  simp only [hc.h10]
  refine ⟨by decide +kernel, (tP ha).1, rX4_hasIndex ha X hW o1.1 o1.2 hy (fun o3 => ⟨r1, fun _ => ⟨hx, hy, fun e => no (fun q => q.2.2.2.1 e), fun o4 => ?_⟩, fun z => by omega⟩) (fun n => ⟨r0, fun z => absurd rfl z, fun _ => no (fun q => n q.2.2.1)⟩)⟩
  simp only [hc.2.2.1.1]
  refine ⟨by decide +kernel, by decide +kernel, rX1_isNumber g hf (fun o5 => ⟨r1, fun _ => ?_, fun z => by omega⟩) (fun n => ⟨r0, fun z => absurd rfl z, fun _ => no (fun q => n q.2.2.2.2)⟩)⟩
  simp only [hc.h10]
  exact ⟨by decide +kernel, (tP ha).1, rX4_addIndex g ha X hW o1.1 o1.2 o2 o3 o4 o5 (fun h' X' f' => hQ _ _ h' (.inl ⟨⟨o1, o2, o3, o4, o5⟩, rfl, rfl⟩) ⟨a, hc.pc X' (WF_trn g.1 hW o1.1 o1.2 o2 o3) rfl f'⟩ (FrP.c ha f'))⟩
theorem CXa.r47 {a : Int} {h' : HP} (hc : CXa h a B) (f : FrB 47 h h') (br : BR h' 47) : CXa h' a B := by
  refine hc.hp ?_ (fun b hb => f b (by omega))
  have hh := hc.2.2.2.2.2.2.2.1
  unfold HH SR HR at *
  rw [f 43 (by decide), f 44 (by decide), f 45 (by decide), f 51 (by decide), f 55 (by decide), f 70 (by decide)]
  have b2 : BR h' 62 := by unfold BR; rw [f 62 (by decide)]; exact hh.2.2.2.2.2.1
  have b3 : BR h' 66 := by unfold BR; rw [f 66 (by decide)]; exact hh.2.2.2.2.2.2.1
  exact ⟨hh.1, hh.2.1, hh.2.2.1, br, hh.2.2.2.2.1, b2, b3, hh.2.2.2.2.2.2.2⟩
end Face4
