section Face6
variable {l : Launch} {d : Nat} {h : HP} {B : BS} {Q : Int → GS → HP → Prop}
theorem ia16 {q : Int} (o : okq q) : inA G0 12 16 q := ⟨by decide +kernel, o.1, by rw [show ln G0 16 = 4 by decide +kernel]; exact o.2⟩
theorem ia41 {q : Int} (o : okq q) : inA G0 11 41 q := ⟨by decide +kernel, o.1, by rw [show ln G0 41 = 4 by decide +kernel]; exact o.2⟩
theorem rX8_keep {q : Int} (hq : inR q) (hc : CX h B) (hQ : ∀ r B' h', A_ke q B r B' → CX h' B' → FC h h' → Q r G0 h') : R l MX8_keep (d + 2) 0 0 [vR 0, vI q] G0 h Q := by
  obtain ⟨a, hc⟩ := hc
  have hc0 := hc
  obtain ⟨a4, g, fr, X, hd, pr, kp, hh, bw⟩ := hc0
  have ha := isP_a a4
  have r1 : inR 1 := ⟨by decide, by decide⟩
  have r0 : inR 0 := ⟨by decide, by decide⟩
  refine eX8_keep 0 q (vX8_keep_0 0 q (rX8_isPlace hq (fun o => ⟨r1, fun _ => ?_, fun z => by omega⟩) (fun n => ⟨r0, fun z => absurd rfl z, fun _ => hQ _ _ _ (.inr ⟨n, rfl, rfl⟩) ⟨a, hc⟩ FC.rf⟩)))
  obtain ⟨k1, k2, k3, k4⟩ := kp q o.1 o.2
  have hq' := isP_q o.1 o.2
  have ho := o
  unfold okq at ho
  simp only [hc.h10, fr.2.1, k2]
  refine ⟨by decide +kernel, ia16 o, (tP hq').1, rX4_copyFrom hq' ha (by omega) k1 X bw.2.1 (fun h' X' f' => ?_)⟩
  have e0 : h' 0 = h 0 := f' 0 (by omega)
  simp only [e0, fr.2.2.1]
  refine ⟨by decide +kernel, ia41 o, fun h14 e14 => hQ _ _ h14 (.inl ⟨o, rfl, rfl⟩) ⟨a, ?_⟩ (fun b hb => by rw [e14, hset_oa (by omega)]; exact f' b (by omega))⟩
  have f : ∀ b, b ≠ 41 → (b < 17 + 6 * q ∨ 17 + 6 * q + 5 < b) → h14 b = h b := fun b b4 hb => by rw [e14, hset_oa b4]; exact f' b hb
  refine ⟨a4, g.lo (fun b b0 b1 => f b (by omega) (by omega)), ?_, X.lo (fun b b0 b1 => f b (by omega) (by omega)), ?_, ?_, fun k k0 k4' => ?_, hh.fr (fun b b0 b1 => f b (by omega) (by omega)), bw.1, bw.2.1, bw.2.2.1, bw.2.2.2.1, fun k k0 k4' => ?_⟩
  · unfold FR
    rw [f 0 (by decide) (by omega)]; exact fr
  · rw [f 42 (by decide) (by omega)]; exact hd
  · unfold Pr
    rw [f 4 (by decide) (by omega), f 10 (by decide) (by omega)]; exact pr
  · show Pr h14 (17 + 6 * k) ∧ h14 16 k = 17 + 6 * k ∧ h14 41 k = up1 (bK B) q 1 k ∧ (up1 (bK B) q 1 k ≠ 0 → XP h14 (17 + 6 * k) (bp B) (if k = q then bP B else bQ B k))
    obtain ⟨j1, j2, j3, j4⟩ := kp k k0 k4'
    rw [f 16 (by decide) (by omega)]
    by_cases e : k = q
    · subst e
      rw [up1_s, if_pos rfl]
      refine ⟨?_, j2, by rw [e14, hset_s], fun _ => X'.lo (fun b b0 b1 => by rw [e14, hset_oa (by omega)])⟩
      have := X'.1
      unfold Pr at *
      rw [e14, hset_oa (by omega)]; exact this
    · rw [up1_o e, if_neg e]
      refine ⟨?_, j2, ?_, fun z => (j4 z).lo (fun b b0 b1 => f b (by omega) (by omega))⟩
      · unfold Pr
        rw [f (17 + 6 * k) (by omega) (by omega)]; exact j1
      · rw [e14, hset_oj e, f' 41 (by omega)]; exact j3
  · show up1 (bK B) q 1 k = 0 ∨ (up1 (bK B) q 1 k = 1 ∧ WF (bp B) (if k = q then bP B else bQ B k))
    by_cases e : k = q
    · rw [e, up1_s, if_pos rfl]; exact .inr ⟨rfl, bw.2.1⟩
    · rw [up1_o e, if_neg e]; exact bw.2.2.2.2 k k0 k4'
theorem rX8_faultOfPlace {a q : Int} (hq : inR q) (hc : CXa h a B) (h1 : ¬ okq q → Q (-1) G0 h) (h2 : okq q → bK B q = 0 → Q (-4) G0 h) (h0 : okq q → bK B q ≠ 0 → Q 0 G0 h) : R l MX8_faultOfPlace (d + 1) 0 0 [vR 0, vI q] G0 h Q := by
  have r1 : inR 1 := ⟨by decide, by decide⟩
  have r0 : inR 0 := ⟨by decide, by decide⟩
  refine eX8_faultOfPlace 0 q (vX8_faultOfPlace_0 0 q (rX8_isPlace hq (fun o => ⟨r1, fun _ => ?_, fun z => by omega⟩) (fun n => ⟨r0, fun z => absurd rfl z, fun _ => h1 n⟩)))
  obtain ⟨k1, k2, k3, k4⟩ := hc.2.2.2.2.2.2.1 q o.1 o.2
  have kb := hc.2.2.2.2.2.2.2.2.2.2.2.2 q o.1 o.2
  simp only [hc.2.2.1.2.2.1, k3]
  refine ⟨by decide +kernel, ia41 o, ?_, fun c => h2 o c, fun c => h0 o c⟩
  rcases kb with e | e
  · rw [e]; exact r0
  · rw [e.1]; exact r1
theorem rX8_back {q : Int} (hq : inR q) (hc : CX h B) (hQ : ∀ r B' h', A_ba q B r B' → CX h' B' → FC h h' → Q r G0 h') : R l MX8_back (d + 2) 0 0 [vR 0, vI q] G0 h Q := by
  obtain ⟨a, hc⟩ := hc
  have hc0 := hc
  obtain ⟨a4, g, fr, X, hd, pr, kp, hh, bw⟩ := hc0
  have ha := isP_a a4
  refine eX8_back 0 q (vX8_back_0 0 q ⟨by decide +kernel, rX8_faultOfPlace hq hc (fun n => ⟨⟨by decide, by decide⟩, fun z => by omega, fun _ => hQ _ _ _ (.inl ⟨n, rfl, rfl⟩) ⟨a, hc⟩ FC.rf⟩) (fun o z => ⟨⟨by decide, by decide⟩, fun z => by omega, fun _ => hQ _ _ _ (.inr ⟨o, .inl ⟨z, rfl, rfl⟩⟩) ⟨a, hc⟩ FC.rf⟩) (fun o nz => ⟨⟨by decide, by decide⟩, fun _ => ?_, fun z => absurd rfl z⟩)⟩)
  obtain ⟨k1, k2, k3, k4⟩ := kp q o.1 o.2
  have kw : WF (bp B) (bQ B q) := by
    rcases bw.2.2.2.2 q o.1 o.2 with e | e
    · exact absurd e nz
    · exact e.2
  have hq' := isP_q o.1 o.2
  have ho := o
  unfold okq at ho
  simp only [hc.h10, fr.2.1, k2]
  refine ⟨by decide +kernel, ia16 o, (tP ha).1, rX4_copyFrom ha hq' (by omega) hc.pa (k4 nz) kw (fun h' X' f' => ⟨by decide +kernel, rX8_emptyHands (by rw [f' 0 (by omega)]; exact fr.2.2.2.1) (fun h2 f2 z2 => ?_)⟩)⟩
  have f : ∀ b, b ≠ 42 → (b < a ∨ a + 5 < b) → h2 b = h b := fun b b4 hb => by rw [f2 b b4]; exact f' b hb
  exact hQ _ _ h2 (.inr ⟨o, .inr ⟨nz, rfl, rfl⟩⟩) ⟨a, hc.sb (X'.lo (fun b b0 b1 => f2 b (by omega))) kw f z2⟩ (FC_of a4 f)
theorem rX8_beside {q : Int} (hq : inR q) (hc : CX h B) (hQ : ∀ r B' h', A_be q B r B' → CX h' B' → FC h h' → Q r G0 h') : R l MX8_beside (d + 5) 0 0 [vR 0, vI q] G0 h Q := by
  obtain ⟨a, hc⟩ := hc
  have hc0 := hc
  obtain ⟨a4, g, fr, X, hd, pr, kp, hh, bw⟩ := hc0
  have ha := isP_a a4
  refine eX8_beside 0 q (vX8_beside_0 0 q ⟨by decide +kernel, rX8_faultOfPlace hq hc (fun n => ⟨⟨by decide, by decide⟩, fun z => by omega, fun _ => hQ _ _ _ (.inl ⟨n, rfl, rfl⟩) ⟨a, hc⟩ FC.rf⟩) (fun o z => ⟨⟨by decide, by decide⟩, fun z => by omega, fun _ => hQ _ _ _ (.inr ⟨o, .inl ⟨z, rfl, rfl⟩⟩) ⟨a, hc⟩ FC.rf⟩) (fun o nz => ⟨⟨by decide, by decide⟩, fun _ => ?_, fun z => absurd rfl z⟩)⟩)
  obtain ⟨k1, k2, k3, k4⟩ := kp q o.1 o.2
  have kw : WF (bp B) (bQ B q) := by
    rcases bw.2.2.2.2 q o.1 o.2 with e | e
    · exact absurd e nz
    · exact e.2
  have hq' := isP_q o.1 o.2
  have ho := o
  unfold okq at ho
  have Y := k4 nz
  have hW := bw.2.1
  obtain ⟨s1, s2, s3⟩ := hc.spa
  have t1 := hW.2.2.1
  have t2 := kw.2.2.1
  simp only [fr.2.1, k2]
  refine ⟨by decide +kernel, ia16 o, by omega, ?_⟩
  refine lp_up (σ := Unit) (fun w _ => S l MX8_beside (d + 4 + 1, 0, 0, 0, 0) 22 [some (vR 0), none, none, some (vR (17 + 6 * q)), some (vI w)] [] G0 h Q) (fun w _ => 0 ≤ w ∧ ∀ w', 0 ≤ w' → w' < w → sz (bP B) w' + sz (bQ B q) w' ≤ 9) 3 ?_ ?_ 0 () (by decide) ⟨by decide, fun w' w0 w1 => by omega⟩
  · intro w _ hw ⟨w0, hle⟩ ih
    have b1 := hW.1 w w0 hw
    have b2 := kw.1 w w0 hw
    refine vX8_beside_22 0 _ w ?_
    simp only [hc.h10, X.1.2.1, Y.1.2.1, X.2.1 w w0 hw, Y.2.1 w w0 hw]
    refine ⟨⟨by omega, by omega⟩, fun c => by omega, fun _ => ⟨by decide +kernel, (tP ha).1, ia1 ha w0 hw, (tP hq').1, ia1 hq' w0 hw, ⟨by omega, by omega⟩, fun c => ih () ⟨by omega, fun w' w0' w1' => ?_⟩, fun c => hQ _ _ _ (.inr ⟨o, .inr ⟨nz, .inl ⟨⟨w, ⟨w0, hw⟩, c⟩, rfl, rfl⟩⟩⟩) ⟨a, hc⟩ FC.rf⟩⟩
    by_cases e : w' = w
    · rw [e]; exact c
    · exact hle w' w0' (by omega)
  · intro _ ⟨_, hle⟩
    refine vX8_beside_22 0 _ 3 ?_
    simp only [hc.h10, X.2.2.2.1, Y.2.2.2.1, fr.2.2.2.2.2.1, fr.2.2.2.2.2.2.2.2.2.2.2]
    refine ⟨⟨by decide, by decide⟩, fun _ => ⟨by decide +kernel, (tP ha).1, (tP hq').1, ⟨by omega, by omega⟩, fun c => ⟨by decide +kernel, rX2_putBeside g ha hq' s2 s3 (by unfold apart; omega) hh.2.1 s1 X hW Y kw hle c (fun h' X' f' => ⟨by decide +kernel, rX8_takeSpare hc X' (WF_bes g.1 hW kw hle c) f' (fun h2 c2 f2 => ?_)⟩)⟩, fun c => hQ _ _ _ (.inr ⟨o, .inr ⟨nz, .inr ⟨hle, .inl ⟨c, rfl, rfl⟩⟩⟩⟩) ⟨a, hc⟩ FC.rf⟩, fun c => by omega⟩
    simp only [c2.h10, c2.2.2.2.1.2.2.2.1]
    exact ⟨by decide +kernel, (tP s2).1, hQ _ _ h2 (.inr ⟨o, .inr ⟨nz, .inr ⟨hle, .inr ⟨c, rfl, rfl⟩⟩⟩⟩) ⟨_, c2⟩ f2⟩
theorem rX8_within {q : Int} (hq : inR q) (hc : CX h B) (hQ : ∀ r B' h', A_wi q B r B' → CX h' B' → FC h h' → Q r G0 h') : R l MX8_within (d + 5) 0 0 [vR 0, vI q] G0 h Q := by
  obtain ⟨a, hc⟩ := hc
  have hc0 := hc
  obtain ⟨a4, g, fr, X, hd, pr, kp, hh, bw⟩ := hc0
  have ha := isP_a a4
  refine eX8_within 0 q (vX8_within_0 0 q ⟨by decide +kernel, rX8_faultOfPlace hq hc (fun n => ⟨⟨by decide, by decide⟩, fun z => by omega, fun _ => hQ _ _ _ (.inl ⟨n, rfl, rfl⟩) ⟨a, hc⟩ FC.rf⟩) (fun o z => ⟨⟨by decide, by decide⟩, fun z => by omega, fun _ => hQ _ _ _ (.inr ⟨o, .inl ⟨z, rfl, rfl⟩⟩) ⟨a, hc⟩ FC.rf⟩) (fun o nz => ⟨⟨by decide, by decide⟩, fun _ => ?_, fun z => absurd rfl z⟩)⟩)
  obtain ⟨k1, k2, k3, k4⟩ := kp q o.1 o.2
  have kw : WF (bp B) (bQ B q) := by
    rcases bw.2.2.2.2 q o.1 o.2 with e | e
    · exact absurd e nz
    · exact e.2
  have hq' := isP_q o.1 o.2
  have ho := o
  unfold okq at ho
  have Y := k4 nz
  have hW := bw.2.1
  obtain ⟨s1, s2, s3⟩ := hc.spa
  have t1 := hW.2.2.1
  have t2 := kw.2.2.1
  have t3 := ml_b t1.1 t1.2 t2.1 t2.2
  simp only [fr.2.1, k2]
  refine ⟨by decide +kernel, ia16 o, by omega, ?_⟩
  refine lp_up (σ := Unit) (fun w _ => S l MX8_within (d + 4 + 1, 0, 0, 0, 0) 22 [some (vR 0), none, none, some (vR (17 + 6 * q)), some (vI w)] [] G0 h Q) (fun w _ => 0 ≤ w ∧ ∀ w', 0 ≤ w' → w' < w → sz (bP B) w' * sz (bQ B q) w' ≤ 9) 3 ?_ ?_ 0 () (by decide) ⟨by decide, fun w' w0 w1 => by omega⟩
  · intro w _ hw ⟨w0, hle⟩ ih
    have b1 := hW.1 w w0 hw
    have b2 := kw.1 w w0 hw
    have b3 := ml_b (show 0 ≤ sz (bP B) w by omega) b1.2 (show 0 ≤ sz (bQ B q) w by omega) b2.2
    refine vX8_within_22 0 _ w ?_
    simp only [hc.h10, X.1.2.1, Y.1.2.1, X.2.1 w w0 hw, Y.2.1 w w0 hw]
    refine ⟨⟨by omega, by omega⟩, fun c => by omega, fun _ => ⟨by decide +kernel, (tP ha).1, ia1 ha w0 hw, (tP hq').1, ia1 hq' w0 hw, ⟨by omega, by omega⟩, fun c => ih () ⟨by omega, fun w' w0' w1' => ?_⟩, fun c => hQ _ _ _ (.inr ⟨o, .inr ⟨nz, .inl ⟨⟨w, ⟨w0, hw⟩, c⟩, rfl, rfl⟩⟩⟩) ⟨a, hc⟩ FC.rf⟩⟩
    by_cases e : w' = w
    · rw [e]; exact c
    · exact hle w' w0' (by omega)
  · intro _ ⟨_, hle⟩
    refine vX8_within_22 0 _ 3 ?_
    simp only [hc.h10, X.2.2.2.1, Y.2.2.2.1, fr.2.2.2.2.2.1, fr.2.2.2.2.2.2.2.2.2.2.2]
    refine ⟨⟨by decide, by decide⟩, fun _ => ⟨by decide +kernel, (tP ha).1, (tP hq').1, ⟨by omega, by omega⟩, fun c => ⟨by decide +kernel, rX2_putWithin g ha hq' s2 s3 (by unfold apart; omega) hh.2.1 s1 X hW Y kw hle c (fun h' X' f' => ⟨by decide +kernel, rX8_takeSpare hc X' (WF_wth g.1 hW kw hle c) f' (fun h2 c2 f2 => ?_)⟩)⟩, fun c => hQ _ _ _ (.inr ⟨o, .inr ⟨nz, .inr ⟨hle, .inl ⟨c, rfl, rfl⟩⟩⟩⟩) ⟨a, hc⟩ FC.rf⟩, fun c => by omega⟩
    simp only [c2.h10, c2.2.2.2.1.2.2.2.1]
    exact ⟨by decide +kernel, (tP s2).1, hQ _ _ h2 (.inr ⟨o, .inr ⟨nz, .inr ⟨hle, .inr ⟨c, rfl, rfl⟩⟩⟩⟩) ⟨_, c2⟩ f2⟩
end Face6
