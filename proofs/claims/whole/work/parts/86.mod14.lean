section Mod14
variable {l : Launch} {d : Nat} {h : HP} {p : Int} {P : PS} {B : BS} {Q : Int → GS → HP → Prop}
theorem rX9_isKeep {G : GS} {q : Int} (hq : inR q) (h1 : okq q → Q 1 G h) (h0 : ¬ okq q → Q 0 G h) : R l MX9_isKeep (d + 1) 0 0 [vI q] G h Q :=
  eX9_isKeep q (vX9_isKeep_0 q ⟨hq, rX9_in ⟨by have := hq.1; omega, by have := hq.2; omega⟩ (by decide) (by decide) (fun o => ⟨.inr rfl, h1 ⟨o.1, by omega⟩⟩) (fun n => ⟨.inl rfl, h0 (fun o => n ⟨o.1, by have := o.2; omega⟩)⟩)⟩)
theorem rX9_keep {q r : Int} {B' : BS} (hq : inR q) (bw : BW B) (hm : MX h B) (hA : A_ke q B r B') (hQ : ∀ h', MX h' B' → FM h h' → Q r G0 h') : R l MX9_keep (d + 2) 0 0 [vR 75, vI q] G0 h Q := by
  have r1 : inR 1 := ⟨by decide, by decide⟩
  have r0 : inR 0 := ⟨by decide, by decide⟩
  have mr := hm.1
  have ms := hm.2.2.2.1
  have mb := hm.2.2.1
  have h40 := bw.2.1.2.2.1
  refine eX9_keep 75 q (vX9_keep_0 75 q (rX9_isKeep hq (fun o => ⟨r1, fun _ => ?_, fun z => by omega⟩) (fun n => ⟨r0, fun z => absurd rfl z, fun _ => ?_⟩)))
  · have ho := o
    unfold okq at ho
    simp only [mr.ik]
    refine ⟨t75, i80 o.1 o.2, fun h8 e8 => ?_⟩
    have a8 : h8 75 = h 75 := by rw [e8, hset_oa (by decide)]
    simp only [a8, mr.kt, ms.1]
    refine ⟨i84 o.1 o.2, fun h10 e10 => ?_⟩
    have o10 : ∀ b, b ≠ 80 → b ≠ 84 → h10 b = h b := fun b b1 b2 => by rw [e10, hset_oa b2, e8, hset_oa b1]
    refine lp_up (σ := HP) (fun w hh => S l MX9_keep (d + 1 + 1, 0, 0, 0, 0) 28 [some (vR 75), some (vI q), some (vI w)] [] G0 hh Q) (fun w hh => 0 ≤ w ∧ (∀ b, b ≠ 81 → hh b = h10 b) ∧ (∀ j, 0 ≤ j → j < w → hh 81 (3 * q + j) = h 76 j) ∧ ∀ j, j < 3 * q ∨ 3 * q + 3 ≤ j → hh 81 j = h 81 j) 3 ?_ ?_ 0 h10 (by decide) ⟨by decide, fun _ _ => rfl, fun j j0 j1 => by omega, fun j _ => by rw [o10 81 (by decide) (by decide)]⟩
    · intro w hh hw ⟨w0, f, dn, ot⟩ ih
      have e75 : hh 75 = h 75 := (f 75 (by decide)).trans (o10 75 (by decide) (by decide))
      refine vX9_keep_28 75 q w ?_
      simp only [e75, mr.sz, mr.ks]
      refine ⟨⟨by omega, by omega⟩, fun c => by omega, fun _ => ⟨t75, i76 w0 hw, i81 (by omega) (by omega), fun h6 e6 => ih h6 ⟨by omega, fun b hb => by rw [e6, hset_oa hb]; exact f b hb, fun j j0 j1 => ?_, fun j hj => ?_⟩⟩⟩
      · by_cases e : j = w
        · rw [e, e6, hset_s, f 76 (by decide), o10 76 (by decide) (by decide)]
        · rw [e6, hset_oj (by omega)]; exact dn j j0 (by omega)
      · rw [e6, hset_oj (by omega)]; exact ot j hj
    · intro h1 ⟨w0, f1, dn1, ot1⟩
      refine vX9_keep_28 75 q 3 ⟨⟨by decide, by decide⟩, fun _ => ?_, fun c => by omega⟩
      refine lp_up (σ := HP) (fun k hh => S l MX9_keep (d + 1 + 1, 0, 0, 0, 0) 57 [some (vR 75), some (vI q), some (vI k)] [] G0 hh Q) (fun k hh => 0 ≤ k ∧ (∀ b, b ≠ 82 → hh b = h1 b) ∧ (∀ j, 0 ≤ j → j < k → hh 82 (729 * q + j) = h 77 j) ∧ ∀ j, j < 729 * q ∨ 729 * q + 729 ≤ j → hh 82 j = h 82 j) 729 ?_ ?_ 0 h1 (by decide) ⟨by decide, fun _ _ => rfl, fun j j0 j1 => by omega, fun j _ => by rw [f1 82 (by decide), o10 82 (by decide) (by decide)]⟩
      · intro k hh hk ⟨k0, f, dn, ot⟩ ih
        have e75 : hh 75 = h 75 := ((f 75 (by decide)).trans (f1 75 (by decide))).trans (o10 75 (by decide) (by decide))
        refine vX9_keep_57 75 q k ?_
        simp only [e75, mr.bx, mr.kb]
        refine ⟨⟨by omega, by omega⟩, fun c => by omega, fun _ => ⟨t75, i77 k0 hk, i82 (by omega) (by omega), fun h6 e6 => ih h6 ⟨by omega, fun b hb => by rw [e6, hset_oa hb]; exact f b hb, fun j j0 j1 => ?_, fun j hj => ?_⟩⟩⟩
        · by_cases e : j = k
          · rw [e, e6, hset_s, f 77 (by decide), f1 77 (by decide), o10 77 (by decide) (by decide)]
          · rw [e6, hset_oj (by omega)]; exact dn j j0 (by omega)
        · rw [e6, hset_oj (by omega)]; exact ot j hj
      · intro h2 ⟨k0, f2, dn2, ot2⟩
        refine vX9_keep_57 75 q 729 ⟨⟨by decide, by decide⟩, fun _ => ?_, fun c => by omega⟩
        refine lp_up (σ := HP) (fun k hh => S l MX9_keep (d + 1 + 1, 0, 0, 0, 0) 90 [some (vR 75), some (vI q), some (vI k)] [] G0 hh Q) (fun k hh => 0 ≤ k ∧ (∀ b, b ≠ 83 → hh b = h2 b) ∧ (∀ j, 0 ≤ j → j < k → hh 83 (1080 * q + j) = h 78 j) ∧ ∀ j, j < 1080 * q ∨ 1080 * q + 1080 ≤ j → hh 83 j = h 83 j) (27 * tm (bP B)) ?_ ?_ 0 h2 (by omega) ⟨by decide, fun _ _ => rfl, fun j j0 j1 => by omega, fun j _ => by rw [f2 83 (by decide), f1 83 (by decide), o10 83 (by decide) (by decide)]⟩
        · intro k hh hk ⟨k0, f, dn, ot⟩ ih
          have e75 : hh 75 = h 75 := (((f 75 (by decide)).trans (f2 75 (by decide))).trans (f1 75 (by decide))).trans (o10 75 (by decide) (by decide))
          refine vX9_keep_90 75 q k ?_
          simp only [e75, ms.1, mr.sc, mr.kc]
          refine ⟨t75, ⟨by omega, by omega⟩, ⟨by omega, by omega⟩, fun c => by omega, fun _ => ⟨i78 (by omega) (by omega), i83 (by omega) (by omega), fun h7 e7 => ih h7 ⟨by omega, fun b hb => by rw [e7, hset_oa hb]; exact f b hb, fun j j0 j1 => ?_, fun j hj => ?_⟩⟩⟩
          · by_cases e : j = k
            · rw [e, e7, hset_s, f 78 (by decide), f2 78 (by decide), f1 78 (by decide), o10 78 (by decide) (by decide)]
            · rw [e7, hset_oj (by omega)]; exact dn j j0 (by omega)
          · rw [e7, hset_oj (by omega)]; exact ot j hj
        · intro h3 ⟨k0', f3, dn3, ot3⟩
          have all : ∀ b, b ≠ 80 → b ≠ 81 → b ≠ 82 → b ≠ 83 → b ≠ 84 → h3 b = h b := fun b b0 b1 b2 b3 b4 => by rw [f3 b b3, f2 b b2, f1 b b1, o10 b b0 b4]
          have e75 := all 75 (by decide) (by decide) (by decide) (by decide) (by decide)
          have e80 : h3 80 = hset h 80 q 1 80 := by rw [f3 80 (by decide), f2 80 (by decide), f1 80 (by decide), e10, hset_oa (by decide), e8]
          have e84 : h3 84 = hset h8 84 q (tm (bP B)) 84 := by rw [f3 84 (by decide), f2 84 (by decide), f1 84 (by decide), e10]
          have e81 : h3 81 = h1 81 := by rw [f3 81 (by decide), f2 81 (by decide)]
          have e82 : h3 82 = h2 82 := by rw [f3 82 (by decide)]
          refine vX9_keep_90 75 q _ ?_
          simp only [e75, ms.1]
          refine ⟨t75, ⟨by omega, by omega⟩, ⟨by omega, by omega⟩, fun _ => ?_, fun c => by omega⟩
          rcases hA with ⟨_, rfl, rfl⟩ | ⟨n, _⟩
          · refine hQ h3 ⟨mr.fr (fun j _ _ _ _ _ _ => by rw [e75]), by rw [e75]; exact hm.2.1, mb.fr (all 76 (by decide) (by decide) (by decide) (by decide) (by decide)) (all 77 (by decide) (by decide) (by decide) (by decide) (by decide)), ms.fr (by rw [e75]) (all 78 (by decide) (by decide) (by decide) (by decide) (by decide)), hm.2.2.2.2.1.fr (all 79 (by decide) (by decide) (by decide) (by decide) (by decide)), fun k k0 k4 => ?_, hm.2.2.2.2.2.2.fr (by rw [e75]) (by rw [e75])⟩ (fun b hb => all b (by omega) (by omega) (by omega) (by omega) (by omega))
            have mk := hm.2.2.2.2.2.1 k k0 k4
            show h3 80 k = up1 (bK B) q 1 k ∧ (up1 (bK B) q 1 k ≠ 0 → (∀ w, 0 ≤ w → w < 3 → h3 81 (3 * k + w) = sz (if k = q then bP B else bQ B k) w) ∧ (∀ j, 0 ≤ j → j < 729 → h3 82 (729 * k + j) = bd (bp B) (if k = q then bP B else bQ B k) j) ∧ h3 84 k = tm (if k = q then bP B else bQ B k) ∧ ∀ j, 0 ≤ j → j < 27 * tm (if k = q then bP B else bQ B k) → h3 83 (1080 * k + j) = sd (bp B) (if k = q then bP B else bQ B k) j)
            rw [e80, e84, e81, e82]
            by_cases e : k = q
            · rw [e, hset_s, up1_s, if_pos rfl, hset_s]
              refine ⟨rfl, fun _ => ⟨fun w w0 w3 => by rw [dn1 w w0 w3]; exact mb.1 w w0 w3, fun j j0 j1 => by rw [dn2 j j0 j1]; exact mb.2 j j0 j1, rfl, fun j j0 j1 => by rw [dn3 j j0 j1]; exact ms.2 j j0 j1⟩⟩
            · rw [hset_oj e, up1_o e, if_neg e, hset_oj e, e8, hset_oa (by decide)]
              refine ⟨mk.1, fun z => ?_⟩
              obtain ⟨k1, k2, k3, k5⟩ := mk.2 z
              have t2 : tm (bQ B k) ≤ 40 := by
                rcases bw.2.2.2.2 k k0 k4 with x | x
                · exact absurd x z
                · exact x.2.2.2.1.2
              refine ⟨fun w w0 w3 => by rw [ot1 _ (by omega)]; exact k1 w w0 w3, fun j j0 j1 => by rw [ot2 _ (by omega)]; exact k2 j j0 j1, k3, fun j j0 j1 => by rw [ot3 _ (by omega)]; exact k5 j j0 j1⟩
          · exact absurd o n
  · rcases hA with ⟨o, _⟩ | ⟨_, rfl, rfl⟩
    · exact absurd o n
    · exact hQ h hm FM.rf
theorem rX9_back {q r : Int} {B' : BS} (hq : inR q) (bw : BW B) (hm : MX h B) (hA : A_ba q B r B') (hQ : ∀ h', MX h' B' → FM h h' → Q r G0 h') : R l MX9_back (d + 2) 0 0 [vR 75, vI q] G0 h Q := by
  have r1 : inR 1 := ⟨by decide, by decide⟩
  have r0 : inR 0 := ⟨by decide, by decide⟩
  have mr := hm.1
  refine eX9_back 75 q (vX9_back_0 75 q (rX9_isKeep hq (fun o => ⟨r1, fun _ => ?_, fun z => by omega⟩) (fun n => ⟨r0, fun z => absurd rfl z, fun _ => ?_⟩)))
  · have ho := o
    unfold okq at ho
    have mk := hm.2.2.2.2.2.1 q o.1 o.2
    simp only [mr.ik, mk.1, mr.ks]
    have kb : inR (bK B q) := by rcases bw.2.2.2.2 q o.1 o.2 with x | x; rw [x]; exact r0; rw [x.1]; exact r1
    refine ⟨t75, i80 o.1 o.2, kb, fun nz => ⟨i81 (by omega) (by omega), i81 (by omega) (by omega), i81 (by omega) (by omega), ?_⟩, fun z => ?_⟩
    · obtain ⟨k1, k2, k3, k5⟩ := mk.2 nz
      have kw : WF (bp B) (bQ B q) := by
        rcases bw.2.2.2.2 q o.1 o.2 with x | x
        · exact absurd x nz
        · exact x.2
      have t2 := kw.2.2.1
      refine rX9_fresh mr (fun h' f mb e5 mh e15 => ?_)
      have m' := f.mr mr
      have e84 : h' 84 = h 84 := f.1 84 (by decide) (by decide) (by decide) (by decide)
      simp only [m'.kt, e84, k3]
      refine ⟨t75, i84 o.1 o.2, fun h18 e18 => ?_⟩
      have a18 : ∀ j, j ≠ 4 → h18 75 j = h' 75 j := fun j hj => by rw [e18, hset_oj hj]
      have o18 : ∀ b, b ≠ 75 → h18 b = h' b := fun b hb => by rw [e18, hset_oa hb]
      have m18 : MR h18 := m'.fr (fun j _ j4 _ _ _ _ => a18 j j4)
      refine lp_up (σ := HP) (fun k hh => S l MX9_back (d + 1 + 1, 0, 0, 0, 0) 65 [some (vR 75), some (vI q), some (vI k)] [] G0 hh Q) (fun k hh => 0 ≤ k ∧ (∀ b, b ≠ 77 → hh b = h18 b) ∧ ∀ j, 0 ≤ j → j < k → hh 77 j = bd (bp B) (bQ B q) j) 729 ?_ ?_ 0 h18 (by decide) ⟨by decide, fun _ _ => rfl, fun j j0 j1 => by omega⟩
      · intro k hh hk ⟨k0, g, dn⟩ ih
        have e75 := g 75 (by decide)
        have v : hh 82 (729 * q + k) = bd (bp B) (bQ B q) k := by
          rw [g 82 (by decide), o18 82 (by decide), f.1 82 (by decide) (by decide) (by decide) (by decide)]
          exact k2 k k0 hk
        refine vX9_back_65 75 q k ?_
        simp only [e75, m18.kb, m18.bx, v]
        refine ⟨⟨by omega, by omega⟩, fun c => by omega, fun _ => ⟨t75, i82 (by omega) (by omega), i77 k0 hk, fun h6 e6 => ih h6 ⟨by omega, fun b hb => by rw [e6, hset_oa hb]; exact g b hb, fun j j0 j1 => ?_⟩⟩⟩
        by_cases e : j = k
        · rw [e, e6, hset_s]
        · rw [e6, hset_oj e]; exact dn j j0 (by omega)
      · intro h1 ⟨k0, g1, dn1⟩
        refine vX9_back_65 75 q 729 ⟨⟨by decide, by decide⟩, fun _ => ?_, fun c => by omega⟩
        have e4 : h18 75 4 = tm (bQ B q) := by rw [e18, hset_s]
        refine lp_up (σ := HP) (fun k hh => S l MX9_back (d + 1 + 1, 0, 0, 0, 0) 98 [some (vR 75), some (vI q), some (vI k)] [] G0 hh Q) (fun k hh => 0 ≤ k ∧ (∀ b, b ≠ 78 → hh b = h1 b) ∧ ∀ j, 0 ≤ j → j < k → hh 78 j = sd (bp B) (bQ B q) j) (27 * tm (bQ B q)) ?_ ?_ 0 h1 (by omega) ⟨by decide, fun _ _ => rfl, fun j j0 j1 => by omega⟩
        · intro k hh hk ⟨k0, g, dn⟩ ih
          have e75 : hh 75 = h18 75 := (g 75 (by decide)).trans (g1 75 (by decide))
          have v : hh 83 (1080 * q + k) = sd (bp B) (bQ B q) k := by
            rw [g 83 (by decide), g1 83 (by decide), o18 83 (by decide), f.1 83 (by decide) (by decide) (by decide) (by decide)]
            exact k5 k k0 hk
          refine vX9_back_98 75 q k ?_
          simp only [e75, e4, m18.kc, m18.sc, v]
          refine ⟨t75, ⟨by omega, by omega⟩, ⟨by omega, by omega⟩, fun c => by omega, fun _ => ⟨i83 (by omega) (by omega), i78 (by omega) (by omega), fun h7 e7 => ih h7 ⟨by omega, fun b hb => by rw [e7, hset_oa hb]; exact g b hb, fun j j0 j1 => ?_⟩⟩⟩
          by_cases e : j = k
          · rw [e, e7, hset_s]
          · rw [e7, hset_oj e]; exact dn j j0 (by omega)
        · intro h2 ⟨k0', g2, dn2⟩
          have e75 : h2 75 = h18 75 := (g2 75 (by decide)).trans (g1 75 (by decide))
          have al : ∀ b, b ≠ 75 → b ≠ 77 → b ≠ 78 → h2 b = h' b := fun b b1 b2 b3 => by rw [g2 b b3, g1 b b2, o18 b b1]
          refine vX9_back_98 75 q _ ?_
          simp only [e75, e4]
          refine ⟨t75, ⟨by omega, by omega⟩, ⟨by omega, by omega⟩, fun _ => ?_, fun c => by omega⟩
          rcases hA with ⟨n, _⟩ | ⟨_, ⟨z, _⟩ | ⟨_, rfl, rfl⟩⟩
          · exact absurd o n
          · exact absurd z nz
          · refine hQ h2 (hm.bsh (m18.fr (fun j _ _ _ _ _ _ => by rw [e75])) (by rw [e75, a18 0 (by decide)]; exact f.2 0 (by decide) (by decide)) ⟨fun w w0 w3 => ?_, fun k k0 k1 => ?_⟩ ⟨by rw [e75]; exact e4, dn2⟩ ((mh _).fr (al 79 (by decide) (by decide) (by decide))) (fun b b0 b1 => by rw [al b (by omega) (by omega) (by omega)]; exact f.1 b (by omega) (by omega) (by omega) (by omega)) (by rw [e75, a18 15 (by decide)]; exact e15)) (fun b hb => by rw [al b (by omega) (by omega) (by omega)]; exact f.m b hb)
            · rw [al 76 (by decide) (by decide) (by decide), (mb 2).1 w w0 w3]
              rcases (show w = 0 ∨ w = 1 ∨ w = 2 by omega) with rfl | rfl | rfl
              · have := k1 0 (by decide) (by decide); rw [Int.add_zero] at this; exact this
              · exact k1 1 (by decide) (by decide)
              · exact k1 2 (by decide) (by decide)
            · rw [g2 77 (by decide)]; exact dn1 k k0 k1
    · rcases hA with ⟨n, _⟩ | ⟨_, ⟨_, rfl, rfl⟩ | ⟨nz, _⟩⟩
      · exact absurd o n
      · exact hQ h hm FM.rf
      · exact absurd z nz
  · rcases hA with ⟨_, rfl, rfl⟩ | ⟨o, _⟩
    · exact hQ h hm FM.rf
    · exact absurd o n
end Mod14
