theorem dv_lt {x a s : Int} (ha : 0 < a) (x0 : 0 ≤ x) : x < s * a ↔ x / a < s := by
  constructor
  · intro h; exact (y_dm ha x0 h).2.1
  · intro h
    have := dm_eq (x := x) ha
    have m := Int.mul_le_mul_of_nonneg_right (show x / a + 1 ≤ s by omega) (Int.le_of_lt ha)
    rw [Int.add_mul, Int.one_mul] at m
    omega
section Mod16
variable {l : Launch} {d : Nat} {h : HP} {p : Int} {P P2 : PS} {B : BS} {Q : Int → GS → HP → Prop}
theorem wth_bd {x y z : Int} (hp : okp p) (hW : WF p P) (hV : WF p P2) (x0 : 0 ≤ x) (x9 : x < 9) (y0 : 0 ≤ y) (y9 : y < 9) (z0 : 0 ≤ z) (z9 : z < 9) : bd p (wth p P P2) (81 * x + 9 * y + z) = if x < sz P 0 * sz P2 0 ∧ y < sz P 1 * sz P2 1 ∧ z < sz P 2 * sz P2 2 then D p (fb P (9 * (x / sz P2 0) + y / sz P2 1)) (z / sz P2 2) * D p (fb P2 (9 * (x % sz P2 0) + y % sz P2 1)) (z % sz P2 2) % p else 0 := by
  have v0 := hV.1 0 (by decide) (by decide)
  have v1 := hV.1 1 (by decide) (by decide)
  have v2 := hV.1 2 (by decide) (by decide)
  have s0 := hW.1 0 (by decide) (by decide)
  have s1 := hW.1 1 (by decide) (by decide)
  have lx := dv_lt (s := sz P 0) (show 0 < sz P2 0 by omega) x0
  have ly := dv_lt (s := sz P 1) (show 0 < sz P2 1 by omega) y0
  have lz := dv_lt (s := sz P 2) (show 0 < sz P2 2 by omega) z0
  rw [bd_at z0 z9]
  show D p (if (9 * x + y) / 9 / sz P2 0 < sz P 0 ∧ (9 * x + y) % 9 / sz P2 1 < sz P 1 then pr p (fb P (9 * ((9 * x + y) / 9 / sz P2 0) + (9 * x + y) % 9 / sz P2 1)) (fb P2 (9 * ((9 * x + y) / 9 % sz P2 0) + (9 * x + y) % 9 % sz P2 1)) (sz P2 2) else 0) z = _
  rw [show (9 * x + y) / 9 = x by omega, show (9 * x + y) % 9 = y by omega]
  by_cases c1 : x / sz P2 0 < sz P 0 ∧ y / sz P2 1 < sz P 1
  · rw [if_pos c1, D_pr hp z0 z9]
    by_cases c2 : z / sz P2 2 < sz P 2
    · rw [if_pos ⟨lx.2 c1.1, ly.2 c1.2, lz.2 c2⟩]
    · have a0 : 0 ≤ x / sz P2 0 := Int.ediv_nonneg x0 (by omega)
      have b0 : 0 ≤ y / sz P2 1 := Int.ediv_nonneg y0 (by omega)
      have hb := hW.2.1 (x / sz P2 0) (y / sz P2 1) a0 (by omega) b0 (by omega)
      rw [if_neg (fun z => c2 (lz.1 z.2.2)), D_sz hp ⟨hb.1, hb.2.1⟩ (show sz P 2 ≤ z / sz P2 2 by omega), Int.zero_mul, Int.zero_emod]
  · rw [if_neg c1, if_neg (fun z => c1 ⟨lx.1 z.1, ly.1 z.2.1⟩), D_z]
theorem rX9_productAt {q t s w i : Int} (bw : BW B) (hm : MX h B) (o : okq q) (nz : bK B q ≠ 0) (w0 : 0 ≤ w) (w3 : w < 3) (i0 : 0 ≤ i) (i9 : i < 9) (t0 : 0 ≤ t) (tT : t < tm (bP B)) (s0 : 0 ≤ s) (sT : s < tm (bQ B q)) (hQ : Q (D (bp B) (pr (bp B) (rw' (bP B) (40 * w + t)) (rw' (bQ B q) (40 * w + s)) (sz (bQ B q) w)) i) G0 h) : R l MX9_productAt d 0 0 [vR 75, vI q, vI t, vI s, vI w, vI i] G0 h Q := by
  have hp := bw.1
  have pb := okp_b hp
  have hW := bw.2.1
  have ho := o
  unfold okq at ho
  have mr := hm.1
  have ms := hm.2.2.2.1
  obtain ⟨k1, k2, k3, k5⟩ := (hm.2.2.2.2.2.1 q o.1 o.2).2 nz
  have kw : WF (bp B) (bQ B q) := by
    rcases bw.2.2.2.2 q o.1 o.2 with x | x
    · exact absurd x nz
    · exact x.2
  have h40 := hW.2.2.1
  have k40 := kw.2.2.1
  have zw := hW.1 w w0 w3
  have zk := kw.1 w w0 w3
  have mm := ml_b (show 0 ≤ sz (bP B) w by omega) zw.2 (show 0 ≤ sz (bQ B q) w by omega) zk.2
  rw [D_pr hp i0 i9] at hQ
  have d0 : 0 ≤ i / sz (bQ B q) w := Int.ediv_nonneg i0 (by omega)
  have d1 : i / sz (bQ B q) w ≤ i := Int.ediv_le_self _ i0
  have e0 := Int.emod_nonneg i (show sz (bQ B q) w ≠ 0 by omega)
  have e1 := Int.emod_lt_of_pos i (show 0 < sz (bQ B q) w by omega)
  refine eX9_productAt 75 q t s w i (vX9_productAt_0 75 q t s w i ?_)
  simp only [mr.ks, mr.sz, k1 w w0 w3, hm.2.2.1.1 w w0 w3, mr.sc, mr.kc, hm.2.1]
  have v1 : h 78 (27 * t + 9 * w + i / sz (bQ B q) w) = D (bp B) (rw' (bP B) (40 * w + t)) (i / sz (bQ B q) w) := ms.at t0 tT w0 w3 d0 (by omega)
  have v2 : h 83 (1080 * q + 27 * s + 9 * w + i % sz (bQ B q) w) = D (bp B) (rw' (bQ B q) (40 * w + s)) (i % sz (bQ B q) w) := by
    rw [show 1080 * q + 27 * s + 9 * w + i % sz (bQ B q) w = 1080 * q + (27 * s + 9 * w + i % sz (bQ B q) w) by omega, k5 _ (by omega) (by omega), sd_at w0 w3 e0 (by omega)]
  rw [v1, v2]
  refine ⟨t75, i81 (by omega) (by omega), i76 w0 w3, ⟨by omega, by omega⟩, ⟨by omega, by omega⟩, fun c => ⟨⟨⟨by omega, by omega⟩, by omega, by omega⟩, i78 (by omega) (by omega), i83 (by omega) (by omega), ml_dv hp (D_D hp) (D_D hp), hQ⟩, fun c => ?_⟩
  have : ¬ i / sz (bQ B q) w < sz (bP B) w := fun z => by
    have := (dv_lt (s := sz (bP B) w) (show 0 < sz (bQ B q) w by omega) i0).2 z
    omega
  rw [D_sz hp (hW.2.2.2 w t w0 w3 t0 tT) (by omega), Int.zero_mul, Int.zero_emod] at hQ
  exact hQ
set_option maxHeartbeats 2000000 in
theorem rX9_within {q r : Int} {B' : BS} (hq : inR q) (bw : BW B) (hm : MX h B) (hA : A_wi q B r B') (hQ : ∀ h', MX h' B' → FM h h' → Q r G0 h') : R l MX9_within (d + 2) 0 0 [vR 75, vI q] G0 h Q := by
  have r1 : inR 1 := ⟨by decide, by decide⟩
  have r0 : inR 0 := ⟨by decide, by decide⟩
  have hp := bw.1
  have pb := okp_b hp
  have hW := bw.2.1
  have mr := hm.1
  have mb := hm.2.2.1
  have ms := hm.2.2.2.1
  refine eX9_within 75 q (vX9_within_0 75 q (rX9_isKeep hq (fun o => ⟨r1, fun _ => ?_, fun z => by omega⟩) (fun n => ⟨r0, fun z => absurd rfl z, fun _ => ?_⟩)))
  · have ho := o
    unfold okq at ho
    have mk := hm.2.2.2.2.2.1 q o.1 o.2
    simp only [mr.ik, mk.1, mr.ks, mr.sz, mb.1 0 (by decide) (by decide), mb.1 1 (by decide) (by decide), mb.1 2 (by decide) (by decide)]
    have kb : inR (bK B q) := by rcases bw.2.2.2.2 q o.1 o.2 with x | x; rw [x]; exact r0; rw [x.1]; exact r1
    refine ⟨t75, i80 o.1 o.2, kb, fun nz => ⟨i81 (by omega) (by omega), i81 (by omega) (by omega), i81 (by omega) (by omega), i76 (by decide) (by decide), i76 (by decide) (by decide), i76 (by decide) (by decide), ?_⟩, fun z => ?_⟩
    · obtain ⟨k1, k2, k3, k5⟩ := mk.2 nz
      have kw : WF (bp B) (bQ B q) := by
        rcases bw.2.2.2.2 q o.1 o.2 with x | x
        · exact absurd x nz
        · exact x.2
      have s0 := hW.1 0 (by decide) (by decide)
      have s1 := hW.1 1 (by decide) (by decide)
      have s2 := hW.1 2 (by decide) (by decide)
      have v0 := kw.1 0 (by decide) (by decide)
      have v1 := kw.1 1 (by decide) (by decide)
      have v2 := kw.1 2 (by decide) (by decide)
      have k10 := k1 0 (by decide) (by decide)
      rw [Int.add_zero] at k10
      rw [k10, k1 1 (by decide) (by decide), k1 2 (by decide) (by decide)]
      have tT := hW.2.2.1
      have tK := kw.2.2.1
      have tm2 := ml_b tT.1 tT.2 tK.1 tK.2
      have p0 := ml_b (show 0 ≤ sz (bP B) 0 by omega) s0.2 (show 0 ≤ sz (bQ B q) 0 by omega) v0.2
      have p1 := ml_b (show 0 ≤ sz (bP B) 1 by omega) s1.2 (show 0 ≤ sz (bQ B q) 1 by omega) v1.2
      have p2 := ml_b (show 0 ≤ sz (bP B) 2 by omega) s2.2 (show 0 ≤ sz (bQ B q) 2 by omega) v2.2
      refine rX9_areSizes ⟨by omega, by omega⟩ ⟨by omega, by omega⟩ ⟨by omega, by omega⟩ (fun oz => ⟨r1, fun _ => ?_, fun z => by omega⟩) (fun nzs => ⟨r0, fun z => absurd rfl z, fun _ => ?_⟩)
      · have hs : ∀ w, 0 ≤ w → w < 3 → sz (bP B) w * sz (bQ B q) w ≤ 9 := fun w w0 w3 => by
          have a := oz.1.2
          have b := oz.2.1.2
          have c := oz.2.2.2
          rcases (show w = 0 ∨ w = 1 ∨ w = 2 by omega) with rfl | rfl | rfl <;> assumption
        simp only [ms.1, mr.kt, k3]
        refine ⟨t75, i84 o.1 o.2, ⟨by omega, by omega⟩, fun c => ?_, fun c => ?_⟩
        · rcases hA with ⟨n, _⟩ | ⟨_, ⟨z, _⟩ | ⟨_, ⟨⟨w, ow, hlt⟩, _⟩ | ⟨_, ⟨hlt, _⟩ | ⟨_, rfl, rfl⟩⟩⟩⟩
          · exact absurd o n
          · exact absurd z nz
          · have := hs w ow.1 ow.2; omega
          · omega
          -- sizes
          have key4 : ∀ h4 : HP, (∀ b, b ≠ 75 → b ≠ 77 → b ≠ 78 → b ≠ 86 → b ≠ 87 → h4 b = h b) → (∀ j, j ≠ 4 → h4 75 j = h 75 j) → (∀ k, 0 ≤ k → k < 729 → h4 77 k = bd (bp B) (wth (bp B) (bP B) (bQ B q)) k) → MS h4 (bp B) (wth (bp B) (bP B) (bQ B q)) → S l MX9_within (d + 1 + 1, 0, 0, 0, 0) 439 [some (vR 75), some (vI q), none, none, none, none, some (vI 0), none, none, none] [] G0 h4 Q := fun h4 f4 f75 bx ms4 => by
            have m4 : MR h4 := mr.fr (fun j _ j4 _ _ _ _ => f75 j j4)
            refine lp_up (σ := HP) (fun w hk => S l MX9_within (d + 1 + 1, 0, 0, 0, 0) 439 [some (vR 75), some (vI q), none, none, none, none, some (vI w), none, none, none] [] G0 hk Q) (fun w hk => 0 ≤ w ∧ (∀ b, b ≠ 76 → hk b = h4 b) ∧ ∀ w', 0 ≤ w' → w' < 3 → hk 76 w' = if w' < w then sz (bP B) w' * sz (bQ B q) w' else sz (bP B) w') 3 ?_ ?_ 0 h4 (by decide) ⟨by decide, fun _ _ => rfl, fun w' w0 w3 => by rw [if_neg (by omega), f4 76 (by decide) (by decide) (by decide) (by decide) (by decide)]; exact mb.1 w' w0 w3⟩
            · intro w hk hw ⟨w0, g, dn⟩ ih
              have a75 := g 75 (by decide)
              have a81 : hk 81 (3 * q + w) = sz (bQ B q) w := by rw [g 81 (by decide), f4 81 (by decide) (by decide) (by decide) (by decide) (by decide)]; exact k1 w w0 hw
              have a76 := dn w w0 hw
              rw [if_neg (by omega)] at a76
              refine vX9_within_439 75 q w ?_
              simp only [a75, m4.sz, m4.ks, a81, a76]
              refine ⟨⟨by omega, by omega⟩, fun c => by omega, fun _ => ⟨t75, i76 w0 hw, i81 (by omega) (by omega), fun h12 e12 => ih h12 ⟨by omega, fun b hb => by rw [e12, hset_oa hb]; exact g b hb, fun w' w0' w3' => ?_⟩⟩⟩
              by_cases e : w' = w
              · rw [e, e12, hset_s, if_pos (by omega)]
              · rw [e12, hset_oj e, dn w' w0' w3']
                by_cases c : w' < w
                · rw [if_pos c, if_pos (by omega)]
                · rw [if_neg c, if_neg (by omega)]
            · intro hk ⟨w0, g, dn⟩
              have a75 := g 75 (by decide)
              have mk' : MR hk := m4.fr (fun j _ _ _ _ _ _ => by rw [a75])
              refine vX9_within_439 75 q 3 ⟨⟨by decide, by decide⟩, fun _ => ⟨t75, rX9_emptyHand mk' (fun h5 f5 mh => ⟨t75, fun h8 e8 => ?_⟩)⟩, fun c => by omega⟩
              have j8 : ∀ j, j ≠ 15 → h8 75 j = h4 75 j := fun j hj => by rw [e8, hset_oj hj, f5 75 (by decide), a75]
              have o8 : ∀ b, b ≠ 75 → b ≠ 79 → h8 b = hk b := fun b x1 x2 => by rw [e8, hset_oa x1, f5 b x2]
              rw [j8 4 (by decide), ms4.1]
              refine hQ h8 (hm.bsh (m4.fr (fun j _ _ j15 _ _ _ => j8 j j15)) (by rw [j8 0 (by decide)]; exact f75 0 (by decide)) ⟨fun w w0 w3 => ?_, fun k k0 k1 => ?_⟩ (ms4.fr (j8 4 (by decide)) (by rw [o8 78 (by decide) (by decide), g 78 (by decide)])) ((mh _).fr (by rw [e8, hset_oa (by decide)])) (fun b b0 b1 => by rw [o8 b (by omega) (by omega), g b (by omega), f4 b (by omega) (by omega) (by omega) (by omega) (by omega)]) (by rw [e8, hset_s])) (fun b hb => by rw [o8 b (by omega) (by omega), g b (by omega), f4 b (by omega) (by omega) (by omega) (by omega) (by omega)])
              · rw [o8 76 (by decide) (by decide), dn w w0 w3, if_pos w3]
                rcases (show w = 0 ∨ w = 1 ∨ w = 2 by omega) with rfl | rfl | rfl <;> rfl
              · rw [o8 77 (by decide) (by decide), g 77 (by decide)]; exact bx k k0 k1
          -- box and scheme taken from the work rows
          have key3 : ∀ h3 : HP, (∀ b, b ≠ 75 → b ≠ 86 → b ≠ 87 → h3 b = h b) → (∀ j, j ≠ 4 → h3 75 j = h 75 j) → h3 75 4 = tm (bP B) * tm (bQ B q) → (∀ k, 0 ≤ k → k < 729 → h3 86 k = bd (bp B) (wth (bp B) (bP B) (bQ B q)) k) → (∀ k, 0 ≤ k → k < 27 * (tm (bP B) * tm (bQ B q)) → h3 87 k = sd (bp B) (wth (bp B) (bP B) (bQ B q)) k) → S l MX9_within (d + 1 + 1, 0, 0, 0, 0) 375 [some (vR 75), some (vI q), none, none, none, some (vI (tm (bP B) * tm (bQ B q))), some (vI 0), none, none, none] [] G0 h3 Q := fun h3 f3 f75 e4 bx sx => by
            have m3 : MR h3 := mr.fr (fun j _ j4 _ _ _ _ => f75 j j4)
            refine lp_up (σ := HP) (fun k hk => S l MX9_within (d + 1 + 1, 0, 0, 0, 0) 375 [some (vR 75), some (vI q), none, none, none, some (vI (tm (bP B) * tm (bQ B q))), some (vI k), none, none, none] [] G0 hk Q) (fun k hk => 0 ≤ k ∧ (∀ b, b ≠ 77 → hk b = h3 b) ∧ ∀ j, 0 ≤ j → j < k → hk 77 j = bd (bp B) (wth (bp B) (bP B) (bQ B q)) j) 729 ?_ ?_ 0 h3 (by decide) ⟨by decide, fun _ _ => rfl, fun j j0 j1 => by omega⟩
            · intro k hk hk1 ⟨k0, g, dn⟩ ih
              have a75 := g 75 (by decide)
              have a86 := g 86 (by decide)
              refine vX9_within_375 75 q _ k ?_
              simp only [a75, m3.wb, m3.bx, a86, bx k k0 hk1]
              refine ⟨⟨by omega, by omega⟩, fun c => by omega, fun _ => ⟨t75, i86 k0 hk1, i77 k0 hk1, fun h6 e6 => ih h6 ⟨by omega, fun b hb => by rw [e6, hset_oa hb]; exact g b hb, fun j j0 j1 => ?_⟩⟩⟩
              by_cases e : j = k
              · rw [e, e6, hset_s]
              · rw [e6, hset_oj e]; exact dn j j0 (by omega)
            · intro h5 ⟨k0, g5, dn5⟩
              refine vX9_within_375 75 q _ 729 ⟨⟨by decide, by decide⟩, fun _ => ?_, fun c => by omega⟩
              refine lp_up (σ := HP) (fun k hk => S l MX9_within (d + 1 + 1, 0, 0, 0, 0) 406 [some (vR 75), some (vI q), none, none, none, some (vI (tm (bP B) * tm (bQ B q))), some (vI k), none, none, none] [] G0 hk Q) (fun k hk => 0 ≤ k ∧ (∀ b, b ≠ 78 → hk b = h5 b) ∧ ∀ j, 0 ≤ j → j < k → hk 78 j = sd (bp B) (wth (bp B) (bP B) (bQ B q)) j) (27 * (tm (bP B) * tm (bQ B q))) ?_ ?_ 0 h5 (by omega) ⟨by decide, fun _ _ => rfl, fun j j0 j1 => by omega⟩
              · intro k hk hk1 ⟨k0, g, dn⟩ ih
                have a75 : hk 75 = h3 75 := (g 75 (by decide)).trans (g5 75 (by decide))
                have a87 : hk 87 = h3 87 := (g 87 (by decide)).trans (g5 87 (by decide))
                refine vX9_within_406 75 q _ k ?_
                simp only [a75, m3.ws, m3.sc, a87, sx k k0 hk1]
                refine ⟨⟨by omega, by omega⟩, ⟨by omega, by omega⟩, fun c => by omega, fun _ => ⟨t75, i87 (by omega) (by omega), i78 (by omega) (by omega), fun h7 e7 => ih h7 ⟨by omega, fun b hb => by rw [e7, hset_oa hb]; exact g b hb, fun j j0 j1 => ?_⟩⟩⟩
                by_cases e : j = k
                · rw [e, e7, hset_s]
                · rw [e7, hset_oj e]; exact dn j j0 (by omega)
              · intro h6 ⟨k0', g6, dn6⟩
                refine vX9_within_406 75 q _ _ ⟨⟨by omega, by omega⟩, ⟨by omega, by omega⟩, fun _ => key4 h6 (fun b b1 b2 b3 b4 b5 => by rw [g6 b b3, g5 b b2, f3 b b1 b4 b5]) (fun j j4 => by rw [g6 75 (by decide), g5 75 (by decide)]; exact f75 j j4) (fun k k0 k1 => by rw [g6 77 (by decide)]; exact dn5 k k0 k1) ⟨by rw [g6 75 (by decide), g5 75 (by decide)]; exact e4, dn6⟩, fun c => by omega⟩
          -- the scheme's work rows
          have key2 : ∀ h2 : HP, (∀ b, b ≠ 86 → h2 b = h b) → (∀ k, 0 ≤ k → k < 729 → h2 86 k = bd (bp B) (wth (bp B) (bP B) (bQ B q)) k) → S l MX9_within (d + 1 + 1, 0, 0, 0, 0) 280 [some (vR 75), some (vI q), none, none, none, some (vI 0), some (vI 0), none, none, none] [] G0 h2 Q := fun h2 f2 bx => by
            have z0 : S l MX9_within (d + 1 + 1, 0, 0, 0, 0) 280 [some (vR 75), some (vI q), none, none, none, some (vI (0 * tm (bQ B q))), some (vI 0), none, none, none] [] G0 h2 Q → S l MX9_within (d + 1 + 1, 0, 0, 0, 0) 280 [some (vR 75), some (vI q), none, none, none, some (vI 0), some (vI 0), none, none, none] [] G0 h2 Q := fun z => by rw [Int.zero_mul] at z; exact z
            refine z0 ?_
            refine lp_up (σ := HP) (fun t hk => S l MX9_within (d + 1 + 1, 0, 0, 0, 0) 280 [some (vR 75), some (vI q), none, none, none, some (vI (t * tm (bQ B q))), some (vI t), none, none, none] [] G0 hk Q) (fun t hk => 0 ≤ t ∧ (∀ b, b ≠ 87 → hk b = h2 b) ∧ ∀ k, 0 ≤ k → k < 27 * (t * tm (bQ B q)) → hk 87 k = sd (bp B) (wth (bp B) (bP B) (bQ B q)) k) (tm (bP B)) ?_ ?_ 0 h2 tT.1 ⟨by decide, fun _ _ => rfl, fun k k0 k1 => by omega⟩
            · intro t hk ht ⟨t0, g, dn⟩ ih
              have a75 : hk 75 = h 75 := (g 75 (by decide)).trans (f2 75 (by decide))
              refine vX9_within_280 75 q _ t ?_
              simp only [a75, ms.1]
              refine ⟨t75, ⟨by omega, by omega⟩, ⟨by omega, by omega⟩, fun c => by omega, fun _ => ?_⟩
              have tl : t * tm (bQ B q) + tm (bQ B q) ≤ 40 := by
                have := Int.mul_le_mul_of_nonneg_right (show t + 1 ≤ tm (bP B) by omega) tK.1
                rw [Int.add_mul, Int.one_mul] at this
                omega
              have tn : 0 ≤ t * tm (bQ B q) := Int.mul_nonneg t0 tK.1
              have z1 : S l MX9_within (d + 1 + 1, 0, 0, 0, 0) 292 [some (vR 75), some (vI q), none, none, none, some (vI (t * tm (bQ B q) + 0)), some (vI t), some (vI 0), none, none] [] G0 hk Q → S l MX9_within (d + 1 + 1, 0, 0, 0, 0) 292 [some (vR 75), some (vI q), none, none, none, some (vI (t * tm (bQ B q))), some (vI t), some (vI 0), none, none] [] G0 hk Q := fun z => by rw [Int.add_zero] at z; exact z
              refine z1 ?_
              refine lp_up (σ := HP) (fun s hk2 => S l MX9_within (d + 1 + 1, 0, 0, 0, 0) 292 [some (vR 75), some (vI q), none, none, none, some (vI (t * tm (bQ B q) + s)), some (vI t), some (vI s), none, none] [] G0 hk2 Q) (fun s hk2 => 0 ≤ s ∧ (∀ b, b ≠ 87 → hk2 b = h2 b) ∧ ∀ k, 0 ≤ k → k < 27 * (t * tm (bQ B q) + s) → hk2 87 k = sd (bp B) (wth (bp B) (bP B) (bQ B q)) k) (tm (bQ B q)) ?_ ?_ 0 hk tK.1 ⟨by decide, g, fun k k0 k1 => dn k k0 (by omega)⟩
              · intro s hk2 hs2 ⟨sn, g2, dn2⟩ ih2
                have b75 : hk2 75 = h 75 := (g2 75 (by decide)).trans (f2 75 (by decide))
                have b84 : hk2 84 = h 84 := (g2 84 (by decide)).trans (f2 84 (by decide))
                refine vX9_within_292 75 q _ t s ?_
                simp only [b75, mr.kt, b84, k3]
                refine ⟨t75, i84 o.1 o.2, ⟨by omega, by omega⟩, ⟨by omega, by omega⟩, fun c => by omega, fun _ => ?_⟩
                refine lp_up (σ := HP) (fun i hk3 => S l MX9_within (d + 1 + 1, 0, 0, 0, 0) 306 [some (vR 75), some (vI q), none, none, none, some (vI (t * tm (bQ B q) + s)), some (vI t), some (vI s), some (vI i), none] [] G0 hk3 Q) (fun i hk3 => 0 ≤ i ∧ (∀ b, b ≠ 87 → hk3 b = h2 b) ∧ ∀ k, 0 ≤ k → k < 27 * (t * tm (bQ B q) + s) + i → hk3 87 k = sd (bp B) (wth (bp B) (bP B) (bQ B q)) k) 27 ?_ ?_ 0 hk2 (by decide) ⟨by decide, g2, fun k k0 k1 => dn2 k k0 (by omega)⟩
                · intro i hk3 hi ⟨i0, g3, dn3⟩ ih3
                  have c75 : hk3 75 = h 75 := (g3 75 (by decide)).trans (f2 75 (by decide))
                  have m3 : MX hk3 B := hm.wk (fun b b0 b1 => by rw [g3 b (by omega), f2 b (by omega)]) (fun j _ _ => by rw [c75])
                  have wr := wthR (p := bp B) (P := bP B) (P2 := bQ B q) (w := i / 9) (t := t) (s := s) t0 ht sn hs2 c
                  refine vX9_within_306 75 q _ t s i ⟨⟨by omega, by omega⟩, fun c => by omega, fun _ => ⟨t75, ⟨⟨by omega, by omega⟩, by decide, by decide⟩, rX9_productAt bw m3 o nz (by omega) (by omega) (by omega) (by omega) t0 ht sn hs2 ?_⟩⟩
                  rw [m3.1.ws]
                  refine ⟨i87 (by omega) (by omega), fun h9 e9 => ih3 h9 ⟨by omega, fun b hb => by rw [e9, hset_oa hb]; exact g3 b hb, fun k k0 k1 => ?_⟩⟩
                  by_cases e : k = 27 * (t * tm (bQ B q) + s) + i
                  · have sa := sd_at (p := bp B) (P := wth (bp B) (bP B) (bQ B q)) (t := t * tm (bQ B q) + s) (w := i / 9) (i := i % 9) (by omega) (by omega) (by omega) (by omega)
                    rw [show 27 * (t * tm (bQ B q) + s) + 9 * (i / 9) + i % 9 = k by omega] at sa
                    rw [sa, show rw' (wth (bp B) (bP B) (bQ B q)) (40 * (i / 9) + (t * tm (bQ B q) + s)) = _ from wr, e9, e, hset_s]
                  · rw [e9, hset_oj e]; exact dn3 k k0 (by omega)
                · intro hk3 ⟨i0, g3, dn3⟩
                  refine vX9_within_306 75 q _ t s 27 ⟨⟨by decide, by decide⟩, fun _ => ?_, fun c => by omega⟩
                  rw [Int.add_assoc]
                  exact ih2 hk3 ⟨by omega, g3, fun k k0 k1 => dn3 k k0 (by omega)⟩
              · intro hk2 ⟨sn, g2, dn2⟩
                have b75 : hk2 75 = h 75 := (g2 75 (by decide)).trans (f2 75 (by decide))
                have b84 : hk2 84 = h 84 := (g2 84 (by decide)).trans (f2 84 (by decide))
                refine vX9_within_292 75 q _ t _ ?_
                simp only [b75, mr.kt, b84, k3]
                refine ⟨t75, i84 o.1 o.2, ⟨by omega, by omega⟩, ⟨by omega, by omega⟩, fun _ => ?_, fun c => by omega⟩
                have e : t * tm (bQ B q) + tm (bQ B q) = (t + 1) * tm (bQ B q) := by rw [Int.add_mul, Int.one_mul]
                rw [e] at dn2 ⊢
                exact ih hk2 ⟨by omega, g2, dn2⟩
            · intro hk ⟨t0, g, dn⟩
              have a75 : hk 75 = h 75 := (g 75 (by decide)).trans (f2 75 (by decide))
              refine vX9_within_280 75 q _ _ ?_
              simp only [a75, ms.1]
              refine ⟨t75, ⟨by omega, by omega⟩, ⟨by omega, by omega⟩, fun _ h5 e5 => key3 h5 (fun b b1 b2 b3 => by rw [e5, hset_oa b1, g b b3, f2 b b2]) (fun j j4 => by rw [e5, hset_oj j4, a75]) (by rw [e5, hset_s]) (fun k k0 k1 => by rw [e5, hset_oa (by decide), g 86 (by decide)]; exact bx k k0 k1) (fun k k0 k1 => by rw [e5, hset_oa (by decide)]; exact dn k k0 k1), fun c => by omega⟩
          -- the box's work rows
          refine lp_up (σ := HP) (fun k hk => S l MX9_within (d + 1 + 1, 0, 0, 0, 0) 109 [some (vR 75), some (vI q), some (vI (sz (bQ B q) 0)), some (vI (sz (bQ B q) 1)), some (vI (sz (bQ B q) 2)), some (vI k), none, none, none, none] [] G0 hk Q) (fun k hk => 0 ≤ k ∧ (∀ b, b ≠ 86 → hk b = h b) ∧ ∀ j, 0 ≤ j → j < k → hk 86 j = bd (bp B) (wth (bp B) (bP B) (bQ B q)) j) 729 ?_ ?_ 0 h (by decide) ⟨by decide, fun _ _ => rfl, fun j j0 j1 => by omega⟩
          · intro k hk hk1 ⟨k0, g, dn⟩ ih
            have a75 := g 75 (by decide)
            have a76 := g 76 (by decide)
            have a77 := g 77 (by decide)
            have a82 := g 82 (by decide)
            have wb := wth_bd (p := bp B) (P := bP B) (P2 := bQ B q) (x := k / 81) (y := k / 9 % 9) (z := k % 9) hp hW kw (by omega) (by omega) (by omega) (by omega) (by omega) (by omega)
            rw [show 81 * (k / 81) + 9 * (k / 9 % 9) + k % 9 = k by omega] at wb
            have step : ∀ v h', v = bd (bp B) (wth (bp B) (bP B) (bQ B q)) k → h' = hset hk 86 k v → S l MX9_within (d + 1 + 1, 0, 0, 0, 0) 109 [some (vR 75), some (vI q), some (vI (sz (bQ B q) 0)), some (vI (sz (bQ B q) 1)), some (vI (sz (bQ B q) 2)), some (vI (k + 1)), none, none, none, none] [] G0 h' Q := fun v h' ev eh => ih h' ⟨by omega, fun b hb => by rw [eh, hset_oa hb]; exact g b hb, fun j j0 j1 => by
              by_cases e : j = k
              · rw [e, eh, hset_s]; exact ev
              · rw [eh, hset_oj e]; exact dn j j0 (by omega)⟩
            refine vX9_within_109 75 q _ _ _ k ?_
            simp only [a75, mr.sz, a76, mb.1 0 (by decide) (by decide), mb.1 1 (by decide) (by decide), mb.1 2 (by decide) (by decide), mr.wb, mr.bx, mr.kb, hm.2.1, a77, a82]
            refine ⟨⟨by omega, by omega⟩, fun c => by omega, fun _ => ⟨⟨⟨by omega, by omega⟩, by decide, by decide⟩, ⟨⟨by omega, by omega⟩, by decide, by decide⟩, ⟨⟨by omega, by omega⟩, by decide, by decide⟩, t75, i76 (by decide) (by decide), ⟨by omega, by omega⟩, ⟨by omega, by omega⟩, fun c1 => ⟨i86 k0 hk1, fun h' eh => step 0 h' (by rw [wb, if_neg (by omega)]) eh⟩, fun c1 => ⟨i76 (by decide) (by decide), ⟨by omega, by omega⟩, ⟨by omega, by omega⟩, fun c2 => ⟨i86 k0 hk1, fun h' eh => step 0 h' (by rw [wb, if_neg (by omega)]) eh⟩, fun c2 => ⟨i76 (by decide) (by decide), ⟨by omega, by omega⟩, ⟨by omega, by omega⟩, fun c3 => ⟨i86 k0 hk1, fun h' eh => step 0 h' (by rw [wb, if_neg (by omega)]) eh⟩, fun c3 => ?_⟩⟩⟩⟩
            rw [if_pos ⟨c1, c2, c3⟩] at wb
            have x1 := (dv_lt (s := sz (bP B) 0) (show 0 < sz (bQ B q) 0 by omega) (show 0 ≤ k / 81 by omega)).1 c1
            have y1 := (dv_lt (s := sz (bP B) 1) (show 0 < sz (bQ B q) 1 by omega) (show 0 ≤ k / 9 % 9 by omega)).1 c2
            have z1 := (dv_lt (s := sz (bP B) 2) (show 0 < sz (bQ B q) 2 by omega) (show 0 ≤ k % 9 by omega)).1 c3
            have x0 : 0 ≤ k / 81 / sz (bQ B q) 0 := Int.ediv_nonneg (by omega) (by omega)
            have y0 : 0 ≤ k / 9 % 9 / sz (bQ B q) 1 := Int.ediv_nonneg (by omega) (by omega)
            have z0 : 0 ≤ k % 9 / sz (bQ B q) 2 := Int.ediv_nonneg (by omega) (by omega)
            have x2 := Int.emod_nonneg (k / 81) (show sz (bQ B q) 0 ≠ 0 by omega)
            have x3 := Int.emod_lt_of_pos (k / 81) (show 0 < sz (bQ B q) 0 by omega)
            have y2 := Int.emod_nonneg (k / 9 % 9) (show sz (bQ B q) 1 ≠ 0 by omega)
            have y3 := Int.emod_lt_of_pos (k / 9 % 9) (show 0 < sz (bQ B q) 1 by omega)
            have z2 := Int.emod_nonneg (k % 9) (show sz (bQ B q) 2 ≠ 0 by omega)
            have z3 := Int.emod_lt_of_pos (k % 9) (show 0 < sz (bQ B q) 2 by omega)
            have u1 : h 77 (81 * (k / 81 / sz (bQ B q) 0) + 9 * (k / 9 % 9 / sz (bQ B q) 1) + k % 9 / sz (bQ B q) 2) = D (bp B) (fb (bP B) (9 * (k / 81 / sz (bQ B q) 0) + k / 9 % 9 / sz (bQ B q) 1)) (k % 9 / sz (bQ B q) 2) := by
              rw [mb.2 _ (by omega) (by omega), bd_at z0 (by omega)]
            have u2 : h 82 (729 * q + 81 * (k / 81 % sz (bQ B q) 0) + 9 * (k / 9 % 9 % sz (bQ B q) 1) + k % 9 % sz (bQ B q) 2) = D (bp B) (fb (bQ B q) (9 * (k / 81 % sz (bQ B q) 0) + k / 9 % 9 % sz (bQ B q) 1)) (k % 9 % sz (bQ B q) 2) := by
              rw [show 729 * q + 81 * (k / 81 % sz (bQ B q) 0) + 9 * (k / 9 % 9 % sz (bQ B q) 1) + k % 9 % sz (bQ B q) 2 = 729 * q + (81 * (k / 81 % sz (bQ B q) 0) + 9 * (k / 9 % 9 % sz (bQ B q) 1) + k % 9 % sz (bQ B q) 2) by omega, k2 _ (by omega) (by omega), bd_at z2 (by omega)]
            rw [u1, u2]
            exact ⟨⟨⟨by omega, by omega⟩, by omega, by omega⟩, ⟨⟨by omega, by omega⟩, by omega, by omega⟩, ⟨⟨by omega, by omega⟩, by omega, by omega⟩, i77 (by omega) (by omega), i82 (by omega) (by omega), ml_dv hp (D_D hp) (D_D hp), i86 k0 hk1, fun h' eh => step _ h' wb.symm eh⟩
          · intro hk ⟨k0, g, dn⟩
            exact vX9_within_109 75 q _ _ _ 729 ⟨⟨by decide, by decide⟩, fun _ => key2 hk g dn, fun c => by omega⟩
        · rcases hA with ⟨n, _⟩ | ⟨_, ⟨z, _⟩ | ⟨_, ⟨⟨w, ow, hlt⟩, _⟩ | ⟨_, ⟨_, rfl, rfl⟩ | ⟨hlt, _⟩⟩⟩⟩
          · exact absurd o n
          · exact absurd z nz
          · have := hs w ow.1 ow.2; omega
          · exact hQ h hm FM.rf
          · omega
      · rcases hA with ⟨n, _⟩ | ⟨_, ⟨z, _⟩ | ⟨_, ⟨_, rfl, rfl⟩ | ⟨hle, _⟩⟩⟩
        · exact absurd o n
        · exact absurd z nz
        · exact hQ h hm FM.rf
        · exact absurd ⟨⟨sz_m1 s0.1 v0.1, hle 0 (by decide) (by decide)⟩, ⟨sz_m1 s1.1 v1.1, hle 1 (by decide) (by decide)⟩, ⟨sz_m1 s2.1 v2.1, hle 2 (by decide) (by decide)⟩⟩ nzs
    · rcases hA with ⟨n, _⟩ | ⟨_, ⟨_, rfl, rfl⟩ | ⟨nz, _⟩⟩
      · exact absurd o n
      · exact hQ h hm FM.rf
      · exact absurd z nz
  · rcases hA with ⟨_, rfl, rfl⟩ | ⟨o, _⟩
    · exact hQ h hm FM.rf
    · exact absurd o n
end Mod16
