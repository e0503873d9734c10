section Mod9
variable {l : Launch} {d : Nat} {h : HP} {p : Int} {P : PS} {B : BS} {Q : Int → GS → HP → Prop}
theorem rX9_lessenOnce (mr : MR h) (h0 : h 75 0 = p) (hp : okp p) (ms : MS h p P) (hW : WF p P) (hn : ls1 p P = none → ∀ h', FrL2 h h' → MS h' p P → Q 0 G0 h') (hs : ∀ P' h', ls1 p P = some P' → FrL2 h h' → MS h' p P' → Q 1 G0 h') : R l MX9_lessenOnce (d + 3) 0 0 [vR 75] G0 h Q := by
  have h40 := hW.2.2.1
  have r1 : inR 1 := ⟨by decide, by decide⟩
  have r0 : inR 0 := ⟨by decide, by decide⟩
  unfold ls1 at hn hs
  refine eX9_lessenOnce 75 (vX9_lessenOnce_0 75 ⟨t75, rX9_dropNought mr hp ms hW (fun ez => ⟨r0, fun _ => ?_, fun z => absurd rfl z⟩) (fun t h' ez f ms' => ⟨r1, fun z => by omega, fun _ => hs _ h' (by rw [ez]) f ms'⟩)⟩)
  rw [ez] at hn hs
  refine lp_up (σ := HP) (fun s hh => S l MX9_lessenOnce (d + 2 + 1, 0, 0, 0, 0) 11 [some (vR 75), some (vI s), none] [] G0 hh Q) (fun s hh => 0 ≤ s ∧ (∀ b, b ≠ 85 → hh b = h b) ∧ fjs p P (tm P).toNat 0 = fjs p P (tm P - s).toNat s) (tm P) ?_ ?_ 0 h h40.1 ⟨by decide, fun _ _ => rfl, by rw [Int.sub_zero]⟩
  · intro s hh hsT ⟨s0, f, e⟩ ih
    have e75 := f 75 (by decide)
    rw [show (tm P - s).toNat = (tm P - (s + 1)).toNat + 1 by omega, fjs_s] at e
    refine vX9_lessenOnce_11 75 s ?_
    simp only [e75, ms.1]
    refine ⟨t75, ⟨by omega, by omega⟩, ⟨by omega, by omega⟩, fun c => by omega, fun _ => ?_⟩
    refine lp_up (σ := HP) (fun t hk => S l MX9_lessenOnce (d + 2 + 1, 0, 0, 0, 0) 23 [some (vR 75), some (vI s), some (vI t)] [] G0 hk Q) (fun t hk => s + 1 ≤ t ∧ (∀ b, b ≠ 85 → hk b = h b) ∧ fjt p P s (tm P - (s + 1)).toNat (s + 1) = fjt p P s (tm P - t).toNat t) (tm P) ?_ ?_ (s + 1) hh (by omega) ⟨Int.le_refl _, f, rfl⟩
    · intro t hk htT ⟨t0, g, e2⟩ ih2
      have g75 := g 75 (by decide)
      rw [show (tm P - t).toNat = (tm P - (t + 1)).toNat + 1 by omega, fjt_s] at e2
      refine vX9_lessenOnce_23 75 s t ?_
      simp only [g75, ms.1]
      refine ⟨t75, ⟨by omega, by omega⟩, ⟨by omega, by omega⟩, fun c => by omega, fun _ => rX9_bringTogether (mr.fr (fun j _ _ _ _ _ _ => by rw [g75])) (by rw [g75]; exact h0) hp (ms.fr (by rw [g75]) (g 78 (by decide))) hW ⟨s0, hsT⟩ ⟨by omega, htT⟩ (by omega) (fun z h' f' => ⟨r0, fun _ => ih2 h' ⟨by omega, fun b hb => by rw [f' b hb]; exact g b hb, ?_⟩, fun z => absurd rfl z⟩) (fun z h' f' ms' => ⟨r1, fun z => by omega, fun _ => ?_⟩)⟩
      · rw [if_pos z] at e2; exact e2
      · rw [if_neg z] at e2
        rw [e2] at e
        exact hs _ h' (by rw [e]) ((FrL2.o85 g).tr f') ms'
    · intro hk ⟨t0, g, e2⟩
      have g75 := g 75 (by decide)
      rw [Int.sub_self] at e2
      rw [show fjt p P s (0 : Int).toNat (tm P) = none from rfl] at e2
      rw [e2] at e
      refine vX9_lessenOnce_23 75 s _ ?_
      simp only [g75, ms.1]
      exact ⟨t75, ⟨by omega, by omega⟩, ⟨by omega, by omega⟩, fun _ => ih hk ⟨by omega, g, e⟩, fun c => by omega⟩
  · intro hh ⟨s0, f, e⟩
    have e75 := f 75 (by decide)
    rw [Int.sub_self] at e
    rw [show fjs p P (0 : Int).toNat (tm P) = none from rfl] at e
    refine vX9_lessenOnce_11 75 _ ?_
    simp only [e75, ms.1]
    exact ⟨t75, ⟨by omega, by omega⟩, ⟨by omega, by omega⟩, fun _ => hn (by rw [e]) hh (FrL2.o85 f) (ms.fr (by rw [e75]) (f 78 (by decide))), fun c => by omega⟩
theorem ls1_0 (h : tm P ≤ 0) : ls1 p P = none := by
  unfold ls1
  rw [show (tm P).toNat = 0 by omega]
  rfl
theorem rX9_lessLoop {b : Int} (hp : okp p) : ∀ (n : Nat) (P : PS) (h : HP), tm P ≤ n → MR h → h 75 0 = p → MS h p P → WF p P → (∀ h', FrL2 h h' → MS h' p (lsn p n P) → Q (b - tm (lsn p n P)) G0 h') → S l MX9_less (d + 3 + 1, 0, 0, 0, 0) 7 [some (vR 75), some (vI b), some (vI 1)] [] G0 h Q
  | 0, P, h, hT, mr, h0, ms, hW, hQ => by
    refine vX9_less_7 75 b 1 ⟨⟨by decide, by decide⟩, fun z => by omega, fun _ => ⟨t75, rX9_lessenOnce mr h0 hp ms hW (fun _ h' f ms' => ?_) (fun P' h' e f ms' => ?_)⟩⟩
    · refine vX9_less_7 75 b 0 ⟨⟨by decide, by decide⟩, fun _ => ⟨t75, ?_⟩, fun z => absurd rfl z⟩
      rw [ms'.1]; exact hQ h' f ms'
    · rw [ls1_0 (by omega)] at e; cases e
  | n + 1, P, h, hT, mr, h0, ms, hW, hQ => by
    rw [lsn_s] at hQ
    refine vX9_less_7 75 b 1 ⟨⟨by decide, by decide⟩, fun z => by omega, fun _ => ⟨t75, rX9_lessenOnce mr h0 hp ms hW (fun e h' f ms' => ?_) (fun P' h' e f ms' => ?_)⟩⟩
    · rw [e] at hQ
      refine vX9_less_7 75 b 0 ⟨⟨by decide, by decide⟩, fun _ => ⟨t75, ?_⟩, fun z => absurd rfl z⟩
      rw [ms'.1]; exact hQ h' f ms'
    · rw [e] at hQ
      have lw := ls1_W hp hW e
      exact rX9_lessLoop hp n P' h' (by omega) (f.mr mr) (by rw [f.2 0 (by decide)]; exact h0) ms' lw.1 (fun h2 f2 ms2 => hQ h2 (f.tr f2) ms2)
theorem rX9_lessS (mr : MR h) (h0 : h 75 0 = p) (hp : okp p) (ms : MS h p P) (hW : WF p P) (hQ : ∀ h', FrL2 h h' → MS h' p (lsn p (tm P).toNat P) → Q (tm P - tm (lsn p (tm P).toNat P)) G0 h') : R l MX9_less (d + 4) 0 0 [vR 75] G0 h Q := by
  have h40 := hW.2.2.1
  refine eX9_less 75 (vX9_less_0 75 ⟨t75, ?_⟩)
  rw [ms.1]
  exact rX9_lessLoop hp (tm P).toNat P h (by omega) mr h0 ms hW hQ
theorem rX9_less {r : Int} {B' : BS} (bw : BW B) (hm : MX h B) (hA : A_ls B r B') (hQ : ∀ h', MX h' B' → FM h h' → Q r G0 h') : R l MX9_less (d + 4) 0 0 [vR 75] G0 h Q := by
  obtain ⟨rfl, rfl⟩ := hA
  exact rX9_lessS hm.1 hm.2.1 bw.1 hm.2.2.2.1 bw.2.1 (fun h' f ms' => hQ h' (f.x hm (lsn_f _ _).1 (lsn_f _ _).2 ms') f.m)
theorem cf_s {w s t : Int} {n : Nat} : cf p P w s (n + 1) t = (if t ≠ s ∧ alk p P w s t then 1 else 0) + cf p P w s n (t + 1) := rfl
theorem rX9_moves (mr : MR h) (h0 : h 75 0 = p) (hp : okp p) (ms : MS h p P) (hW : WF p P) (hQ : Q (nmv p P) G0 h) : R l MX9_moves (d + 2) 0 0 [vR 75] G0 h Q := by
  have h40 := hW.2.2.1
  refine eX9_moves 75 (vX9_moves_0 75 ?_)
  refine lp_up (σ := Int) (fun w n => S l MX9_moves (d + 1 + 1, 0, 0, 0, 0) 4 [some (vR 75), some (vI n), some (vI w), none, none] [] G0 h Q) (fun w n => 0 ≤ w ∧ n = sm (fun w => sm (fun s => mcn p P w s) (tm P).toNat) w.toNat) 3 ?_ ?_ 0 0 (by decide) ⟨by decide, rfl⟩
  · intro w n hw ⟨w0, en⟩ ih
    refine vX9_moves_4 75 n w ⟨⟨by omega, by omega⟩, fun c => by omega, fun _ => ?_⟩
    refine lp_up (σ := Int) (fun s m => S l MX9_moves (d + 1 + 1, 0, 0, 0, 0) 11 [some (vR 75), some (vI m), some (vI w), some (vI s), none] [] G0 h Q) (fun s m => 0 ≤ s ∧ m = n + sm (fun s => mcn p P w s) s.toNat) (tm P) ?_ ?_ 0 n h40.1 ⟨by decide, by show n = n + 0; omega⟩
    · intro s m hs ⟨s0, em⟩ ih2
      refine vX9_moves_11 75 m w s ?_
      simp only [ms.1]
      refine ⟨t75, ⟨by omega, by omega⟩, ⟨by omega, by omega⟩, fun c => by omega, fun _ => ?_⟩
      refine lp_up (σ := Int) (fun t q => S l MX9_moves (d + 1 + 1, 0, 0, 0, 0) 22 [some (vR 75), some (vI q), some (vI w), some (vI s), some (vI t)] [] G0 h Q) (fun t q => 0 ≤ t ∧ q + cf p P w s (tm P - t).toNat t = m + mcn p P w s) (tm P) ?_ ?_ 0 m h40.1 ⟨by decide, by rw [Int.sub_zero, mcn_cf s0 hs]⟩
      · intro t q ht ⟨t0, eq⟩ ih3
        rw [show (tm P - t).toNat = (tm P - (t + 1)).toNat + 1 by omega, cf_s] at eq
        have mp := mfc_pos hp (rowR hp hW w0 hw s0 hs) (rowR hp hW w0 hw t0 ht)
        have pb := okp_b hp
        refine vX9_moves_22 75 q w s t ?_
        simp only [ms.1]
        refine ⟨t75, ⟨by omega, by omega⟩, ⟨by omega, by omega⟩, fun c => by omega, fun _ => ⟨⟨by omega, by omega⟩, fun e => ih3 _ ⟨by omega, ?_⟩, fun ne => rX9_factor mr h0 hp ms hW ⟨w0, hw⟩ ⟨s0, hs⟩ ⟨t0, ht⟩ ⟨⟨by have := mp.2; omega, by have := mp.2; omega⟩, fun c => ih3 _ ⟨by omega, ?_⟩, fun c => ih3 _ ⟨by omega, ?_⟩⟩⟩⟩
        · rw [if_neg (fun z => z.1 e.symm)] at eq; omega
        · rw [if_neg (fun z => by have := mp.1.2 z.2; omega)] at eq; omega
        · rw [if_pos ⟨Ne.symm ne, mp.1.1 c⟩] at eq; omega
      · intro q ⟨t0, eq⟩
        rw [Int.sub_self, show cf p P w s (0 : Int).toNat (tm P) = 0 from rfl] at eq
        refine vX9_moves_22 75 q w s _ ?_
        simp only [ms.1]
        exact ⟨t75, ⟨by omega, by omega⟩, ⟨by omega, by omega⟩, fun _ => ih2 q ⟨by omega, by rw [sm_s s0]; omega⟩, fun c => by omega⟩
    · intro m ⟨s0, em⟩
      refine vX9_moves_11 75 m w _ ?_
      simp only [ms.1]
      exact ⟨t75, ⟨by omega, by omega⟩, ⟨by omega, by omega⟩, fun _ => ih m ⟨by omega, by rw [sm_s w0, em, en]⟩, fun c => by omega⟩
  · intro n ⟨w0, en⟩
    refine vX9_moves_4 75 n 3 ⟨⟨by decide, by decide⟩, fun _ => ?_, fun c => by omega⟩
    rw [en]; exact hQ
theorem rX9_many {n r : Int} {B' : BS} (hn : inR n) (bw : BW B) (hm : MX h B) (hA : A_mn n B r B') (hQ : ∀ h', MX h' B' → FM h h' → Q r G0 h') : R l MX9_many (d + 3) 0 0 [vR 75, vI n] G0 h Q := by
  obtain ⟨eB, hA⟩ := hA
  rw [eB] at hQ
  have q := hQ h hm FM.rf
  have sz' := hm.2.2.1.1
  refine eX9_many 75 n (vX9_many_0 75 n ?_)
  simp only [hm.2.1, hm.1.sz, hm.2.2.2.1.1]
  refine ⟨hn, fun c => ⟨t75, ?_⟩, fun c => ⟨t75, i76 (by omega) (by omega), ?_⟩, fun c => ⟨t75, i76 (by omega) (by omega), ?_⟩, fun c => ⟨t75, i76 (by omega) (by omega), ?_⟩, fun c => ⟨t75, ?_⟩, fun c => ⟨t75, rX9_filled hm.1 bw.1 hm.2.2.1 bw.2.1 ?_⟩, fun c => ⟨t75, rX9_moves hm.1 hm.2.1 bw.1 hm.2.2.2.1 bw.2.1 ?_⟩, fun c => ?_⟩
  · rw [← show r = bp B by omega]; exact q
  · rw [sz' (n - 1) (by omega) (by omega), ← show r = sz (bP B) (n - 1) by omega]; exact q
  · rw [sz' (n - 1) (by omega) (by omega), ← show r = sz (bP B) (n - 1) by omega]; exact q
  · rw [sz' (n - 1) (by omega) (by omega), ← show r = sz (bP B) (n - 1) by omega]; exact q
  · rw [← show r = tm (bP B) by omega]; exact q
  · rw [← show r = fpl (bp B) (bP B) by omega]; exact q
  · rw [← show r = nmv (bp B) (bP B) by omega]; exact q
  · rw [← show r = -1 by omega]; exact q
theorem mv_P2 {h' : HP} {w s t : Int} (hp : okp p) (ms : MS h p P) (h40 : 0 ≤ tm P ∧ tm P ≤ 40) (hw : okw w) (hs : okt P s) (ht : okt P t) (e4 : h' 75 4 = h 75 4) (f1 : ∀ i, 0 ≤ i → i < 9 → h' 78 (27 * t + 9 * w + i) = D p (rw' P (40 * w + s)) i) (f2 : ∀ i, 0 ≤ i → i < 9 → h' 78 (27 * t + 9 * ((w + 1) % 3) + i) = D p (rw' P (40 * ((w + 1) % 3) + t)) i * fac p P w s t % p) (f3 : ∀ t' w' i, 0 ≤ t' → t' < tm P → 0 ≤ w' → w' < 3 → 0 ≤ i → i < 9 → ¬ (t' = t ∧ w' = w) → ¬ (t' = t ∧ w' = (w + 1) % 3) → h' 78 (27 * t' + 9 * w' + i) = h 78 (27 * t' + 9 * w' + i)) : MS h' p (prw (prw P w t (rw' P (40 * w + s))) ((w + 1) % 3) t (pl p 0 (fac p P w s t) (rw' P (40 * ((w + 1) % 3) + t)))) := by
  have hw' := hw
  have ht' := ht
  unfold okw at hw'
  unfold okt at ht'
  refine MS_mk (e4.trans ms.1) (fun t' w' i t0 t1 w0 w3 i0 i9 => ?_)
  have t1' : t' < tm P := t1
  show _ = D p (up1 (up1 P.2.2.2 (40 * w + t) _) (40 * ((w + 1) % 3) + t) _ (40 * w' + t')) i
  by_cases c2 : t' = t ∧ w' = (w + 1) % 3
  · rw [c2.1, c2.2, up1_s, f2 i i0 i9, D_pl hp i0 i9, D_z, Int.zero_add, Int.mul_comm]
  · rw [up1_o (by omega)]
    by_cases c1 : t' = t ∧ w' = w
    · rw [c1.1, c1.2, up1_s]; exact f1 i i0 i9
    · rw [up1_o (by omega), f3 t' w' i t0 t1' w0 w3 i0 i9 c1 c2]
      exact ms.at t0 t1' w0 w3 i0 i9
set_option maxHeartbeats 1000000 in
theorem rX9_doMove {w s t : Int} (mr : MR h) (h0 : h 75 0 = p) (hp : okp p) (ms : MS h p P) (hW : WF p P) (hw : okw w) (hs : okt P s) (ht : okt P t) (hne : s ≠ t) (hn : ¬ alk p P w s t → Q 0 G0 h) (hy : alk p P w s t → ∀ h', FrL2 h h' → MS h' p (mv p P w s t) → Q 1 G0 h') : R l MX9_doMove (d + 2) 0 0 [vR 75, vI w, vI s, vI t] G0 h Q := by
  have pb := okp_b hp
  have h40 := hW.2.2.1
  have hw' := hw
  have hs' := hs
  have ht' := ht
  unfold okw at hw'
  unfold okt at hs' ht'
  have mp := mfc_pos hp (rowR hp hW hw.1 hw.2 hs.1 hs.2) (rowR hp hW hw.1 hw.2 ht.1 ht.2)
  refine eX9_doMove 75 w s t (vX9_doMove_0 75 w s t ⟨t75, rX9_factor mr h0 hp ms hW hw hs ht ⟨⟨by have := mp.2; omega, by have := mp.2; omega⟩, fun nz => ⟨⟨⟨by omega, by omega⟩, by decide, by decide⟩, ⟨⟨by omega, by omega⟩, by decide, by decide⟩, ?_⟩, fun z => hn (fun al => by have := mp.1.2 al; omega)⟩⟩)
  have al : alk p P w s t := mp.1.1 (by have := mp.2; omega)
  have ef : mfc p P w s t = fac p P w s t := if_pos al
  rw [ef]
  have fD := fac_D (P := P) (w := w) (s := s) (t := t) hp
  refine lp_up (σ := HP) (fun i hh => S l MX9_doMove (d + 1 + 1, 0, 0, 0, 0) 33 [some (vR 75), some (vI w), some (vI s), some (vI t), some (vI (fac p P w s t)), some (vI ((w + 1) % 3)), some (vI ((w + 2) % 3)), some (vI i)] [] G0 hh Q) (fun i hh => 0 ≤ i ∧ (∀ b, b ≠ 78 → hh b = h b) ∧ (∀ j, 0 ≤ j → j < i → hh 78 (27 * t + 9 * w + j) = D p (rw' P (40 * w + s)) j) ∧ (∀ j, 0 ≤ j → j < i → hh 78 (27 * t + 9 * ((w + 1) % 3) + j) = D p (rw' P (40 * ((w + 1) % 3) + t)) j * fac p P w s t % p) ∧ ∀ j, ¬ (27 * t + 9 * w ≤ j ∧ j < 27 * t + 9 * w + i) → ¬ (27 * t + 9 * ((w + 1) % 3) ≤ j ∧ j < 27 * t + 9 * ((w + 1) % 3) + i) → hh 78 j = h 78 j) 9 ?_ ?_ 0 h (by decide) ⟨by decide, fun _ _ => rfl, fun j j0 j1 => by omega, fun j j0 j1 => by omega, fun _ _ _ => rfl⟩
  · intro i hh hi ⟨i0, f, a1, a2, a3⟩ ih
    have e75 := f 75 (by decide)
    have v1 : hh 78 (27 * s + 9 * w + i) = D p (rw' P (40 * w + s)) i := by rw [a3 _ (by omega) (by omega)]; exact ms.at hs.1 hs.2 hw.1 hw.2 i0 hi
    refine vX9_doMove_33 75 w s t _ _ _ i ?_
    simp only [e75, mr.sc, v1]
    refine ⟨⟨by omega, by omega⟩, fun c => by omega, fun _ => ⟨t75, i78 (by omega) (by omega), i78 (by omega) (by omega), fun h14 e14 => ?_⟩⟩
    have g75 : h14 75 = h 75 := by rw [e14, hset_oa (by decide), e75]
    have v2 : h14 78 (27 * t + 9 * ((w + 1) % 3) + i) = D p (rw' P (40 * ((w + 1) % 3) + t)) i := by
      rw [e14, hset_oj (by omega), a3 _ (by omega) (by omega)]
      exact ms.at ht.1 ht.2 (by omega) (by omega) i0 hi
    simp only [g75, mr.sc, h0, v2]
    refine ⟨i78 (by omega) (by omega), ml_dv hp (D_D hp) fD, fun h17 e17 => ih h17 ⟨by omega, fun b hb => by rw [e17, hset_oa hb, e14, hset_oa hb]; exact f b hb, fun j j0 j1 => ?_, fun j j0 j1 => ?_, fun j c1 c2 => ?_⟩⟩
    · rw [e17, hset_oj (by omega), e14]
      by_cases e : j = i
      · rw [e, hset_s]
      · rw [hset_oj (by omega)]; exact a1 j j0 (by omega)
    · rw [e17]
      by_cases e : j = i
      · rw [e, hset_s]
      · rw [hset_oj (by omega), e14, hset_oj (by omega)]; exact a2 j j0 (by omega)
    · rw [e17, hset_oj (by omega), e14, hset_oj (by omega)]; exact a3 j (by omega) (by omega)
  · intro hh ⟨i0, f, a1, a2, a3⟩
    have e75 := f 75 (by decide)
    have mW := mv_W hp hW hw.1 hw.2 hs.1 hs.2 ht.1 ht.2
    have ms2 := mv_P2 (h' := hh) hp ms h40 hw hs ht (by rw [e75]) a1 a2 (fun t' w' i t0 t1 w0 w3 i0 i9 c1 c2 => a3 _ (by omega) (by omega))
    have mrh := mr.fr (h' := hh) (fun j _ _ _ _ _ _ => by rw [e75])
    refine vX9_doMove_33 75 w s t _ _ _ 9 ⟨⟨by decide, by decide⟩, fun _ => ⟨t75, rX9_addRow mrh (by rw [e75]; exact h0) hp ms2 h40 ⟨by omega, by omega⟩ hs ht hne (isD1 hp) (fun h5 f5 ms5 => ⟨t75, ?_⟩)⟩, fun c => by omega⟩
    have g75 : h5 75 = h 75 := (f5 75 (by decide)).trans e75
    rw [g75, h0]
    refine rX9_addRow (mr.fr (fun j _ _ _ _ _ _ => by rw [g75])) (by rw [g75]; exact h0) hp ms5 h40 ⟨by omega, by omega⟩ ht hs (Ne.symm hne) ⟨by omega, by omega⟩ (fun h8 f8 ms8 => hy al h8 (FrL2.o78 (fun b hb => by rw [f8 b hb, f5 b hb, f b hb])) ?_)
    have e1 : rw' (prw (prw P w t (rw' P (40 * w + s))) ((w + 1) % 3) t (pl p 0 (fac p P w s t) (rw' P (40 * ((w + 1) % 3) + t)))) (40 * ((w + 1) % 3) + t) = pl p 0 (fac p P w s t) (rw' P (40 * ((w + 1) % 3) + t)) := up1_s
    rw [e1] at ms8
    unfold mv
    rw [Int.emod_eq_of_lt (show 0 ≤ p - 1 by omega) (show p - 1 < p by omega)]
    exact ms8
theorem rX9_move {w s t r : Int} {B' : BS} (hw : inR w) (hs : inR s) (ht : inR t) (bw : BW B) (hm : MX h B) (hA : A_mv w s t B r B') (hQ : ∀ h', MX h' B' → FM h h' → Q r G0 h') : R l MX9_move (d + 3) 0 0 [vR 75, vI w, vI s, vI t] G0 h Q := by
  have hW := bw.2.1
  have r1 : inR 1 := ⟨by decide, by decide⟩
  have r0 : inR 0 := ⟨by decide, by decide⟩
  have no : ¬ (okw w ∧ okt (bP B) s ∧ okt (bP B) t ∧ s ≠ t) → Q (-1) G0 h := fun n => by
    rcases hA with ⟨_, rfl, rfl⟩ | ⟨o, _⟩
    · exact hQ h hm FM.rf
    · exact absurd o n
  refine eX9_move 75 w s t (vX9_move_0 75 w s t ⟨hw, rX9_in ⟨by have := hw.1; omega, by have := hw.2; omega⟩ (by decide) (by decide) (fun o1 => ⟨r1, fun z => by omega, fun _ => ⟨t75, rX9_isTime hm.2.2.2.1 hW hs (fun o2 => ⟨r1, fun z => by omega, fun _ => ⟨t75, rX9_isTime hm.2.2.2.1 hW ht (fun o3 => ⟨r1, fun z => by omega, fun _ => ⟨hs, ht, fun ne => ⟨t75, ?_⟩, fun e => no (fun q => q.2.2.2 e)⟩⟩) (fun n => ⟨r0, fun _ => no (fun q => n q.2.2.1), fun z => absurd rfl z⟩)⟩⟩) (fun n => ⟨r0, fun _ => no (fun q => n q.2.1), fun z => absurd rfl z⟩)⟩⟩) (fun n => ⟨r0, fun _ => no (fun q => n (by have := q.1; unfold okw at this; omega)), fun z => absurd rfl z⟩)⟩)
  have ow : okw w := ⟨o1.1, by omega⟩
  refine rX9_doMove hm.1 hm.2.1 bw.1 hm.2.2.2.1 hW ow o2 o3 ne (fun n => ⟨r0, fun _ => ?_, fun z => absurd rfl z⟩) (fun al h' f ms' => ⟨r1, fun z => by omega, fun _ => ?_⟩)
  · rcases hA with ⟨n', _, _⟩ | ⟨_, ⟨_, rfl, rfl⟩ | ⟨a, _, _⟩⟩
    · exact absurd ⟨ow, o2, o3, ne⟩ n'
    · exact hQ h hm FM.rf
    · exact absurd a n
  · rcases hA with ⟨n', _, _⟩ | ⟨_, ⟨a, _, _⟩ | ⟨_, rfl, rfl⟩⟩
    · exact absurd ⟨ow, o2, o3, ne⟩ n'
    · exact absurd al a
    · exact hQ h' (f.x hm rfl rfl ms') f.m
end Mod9
