theorem isW_81 {p k : Int} {P : PS} {n : Nat} {c W : Int → Int} (hp : okp p) (hW : WF p P) (hAB : sz P 0 * sz P 1 ≤ 9) (hc : ∀ s : Int, 0 ≤ s → s < n → 0 ≤ c s ∧ c s < (prs p P).1) (h : isW p P n c W) (k0 : 0 ≤ k) (k1 : k < sz P 2) : ∀ i : Int, 0 ≤ i → i < 81 → p ∣ S81 p P k i - sm (fun s => D p (W s) k * T81 p P (c s) i) n := fun i i0 i1 => by
  have hA := hW.1 0 (by decide) (by decide)
  have hB := hW.1 1 (by decide) (by decide)
  have hS := cor_S (k := k) hp hW hAB
  by_cases q : i / 9 < sz P 0 ∧ i % 9 < sz P 1
  · have cy := cor_y hA.1 hB hAB hS i0 q
    have := h k k0 k1 (i / 9 * sz P 1 + i % 9) cy.1.1 (by have := cy.1.2; omega)
    rw [cy.2, sm_ext n (g := fun s => D p (W s) k * D p (tbl p P (c s)) (i / 9 * sz P 1 + i % 9)) (fun s s0 s1 => by rw [(cor_y hA.1 hB hAB (cor_T hp hW hAB (hc s s0 s1).1 (hc s s0 s1).2) i0 q).2])]
    exact this
  · rw [hS.2 i i0 i1 q, sm_ext n (g := fun _ => 0) (fun s s0 s1 => by rw [(cor_T hp hW hAB (hc s s0 s1).1 (hc s s0 s1).2).2 i i0 i1 q, Int.mul_zero]), sm_zero]
    exact Int.dvd_zero p
section Find9
variable {l : Launch} {D0 : Nat} {h : HP} {p : Int} {P : PS} {B : BS} {Q : Int → GS → HP → Prop}
set_option maxHeartbeats 1000000 in
theorem rX9_find {r : Int} {B' : BS} (bw : BW B) (hm : MX h B) (b95 : B95 h) (hA : A_fi B r B') (hQ : ∀ h', MX h' B' → (∀ b, b < 75 → h' b = h b) → B95 h' → Q r G0 h') : R l MX9_find (D0 + 6) 0 0 [vR 75] G0 h Q := by
  have hp := bw.1
  have hW := bw.2.1
  refine eX9_find 75 (vX9_find_0 75 ⟨t75, fun h2 e2 => ?_⟩)
  have z2 : h2 75 15 = 0 := by rw [e2, hset_s]
  have m2 : MX h2 B := ⟨hm.1.fr (fun j _ _ a _ _ _ => by rw [e2, hset_oj a]), by rw [e2, hset_oj (by decide)]; exact hm.2.1, hm.2.2.1.fr (by rw [e2, hset_oa (by decide)]) (by rw [e2, hset_oa (by decide)]), hm.2.2.2.1.fr (by rw [e2, hset_oj (by decide)]) (by rw [e2, hset_oa (by decide)]), hm.2.2.2.2.1.fr (by rw [e2, hset_oa (by decide)]), hm.2.2.2.2.2.1.fr (fun b b0 b1 => by rw [e2, hset_oa (by omega)]), .inl z2⟩
  have f2 : ∀ b, b ≠ 75 → h2 b = h b := fun b hb => by rw [e2, hset_oa hb]
  have b2 : B95 h2 := fun j j0 j1 => by rw [f2 95 (by decide)]; exact b95 j j0 j1
  refine rX9_findLeast (P := bP B) hp hW m2.1 m2.2.1 m2.2.2.1 m2.2.2.2.2.2.2 ?_ ?_ ?_ ?_ ?_
  · intro hz
    rcases hA with ⟨_, e, eB⟩ | ⟨z, _⟩ | ⟨z, _⟩
    · refine ⟨by decide, fun z => absurd z (by decide), fun _ => ?_⟩
      rw [← e]; exact hQ h2 (by rw [eB]; exact m2) (fun b hb => f2 b (by omega)) b2
    · omega
    · omega
  · intro k; rw [z2] at k; exact absurd k (by decide)
  · intro k; rw [z2] at k; exact absurd k (by decide)
  · intro hs nc h' f k k5
    rcases hA with ⟨z, _⟩ | ⟨_, _, e, eB⟩ | ⟨_, n, c, W, n4, ls, _⟩
    · omega
    · refine ⟨by decide, fun z => absurd z (by decide), fun _ => ?_⟩
      rw [← e]; exact hQ h' (by rw [eB]; exact m2.y f k ⟨hs, .inl ⟨k5, nc⟩⟩) (fun b hb => (f.1 b (by omega) (by omega)).trans (f2 b (by omega))) (fun j j0 j1 => by rw [f.1 95 (by decide) (by decide)]; exact b2 j j0 j1)
    · exact absurd ls.1 (nc n n4 c)
  · intro hs n c0 h5 n4 ls ch pm5 f5 k5 kn
    rcases hA with ⟨z, _⟩ | ⟨_, nc, _⟩ | ⟨_, n', c, W, n4', ls', hw, wf, e, eB⟩
    · omega
    · exact absurd ls.1 (nc n n4 c0)
    · have en := lst_un ls ls'
      subst en
      subst eB
      have ec : ∀ s : Int, 0 ≤ s → s < n → c0 s = c s := LE_un (ls.2.1 c ls'.1) (ls'.2.1 c0 ls.1)
      generalize hpB : bp B = p at *
      generalize hPB : bP B = P at *
      have s0 := hW.1 0 (by decide) (by decide)
      have s1 := hW.1 1 (by decide) (by decide)
      have s2 := hW.1 2 (by decide) (by decide)
      have tab := sh_tab p (mem_p hp) (sz P 0) (mem_9 s0.1 s0.2) (sz P 1) (mem_9 s1.1 s1.2) hs
      have K60 : (prs p P).1 ≤ 60 := by
        have hs' : shs p (sz P 0) * shs p (sz P 1) ≤ 60 := hs
        rw [pfU_c, tab.2.1, tab.2.2]; omega
      have ok81 := (CanC_81 hp hW tab.1).1 ls'.1
      have cb := ok81.2.1
      refine ⟨⟨by omega, by omega⟩, fun _ => ⟨t75, fun h9 e9 => ?_⟩, fun z => by omega⟩
      have m5 : MR h5 := m2.1.fr (fun j _ _ a b c _ => f5.2 j a b c)
      have mr : MR h9 := m5.fr (fun j _ j4 _ _ _ _ => by rw [e9, hset_oj j4])
      have f9 : ∀ b, b ≠ 75 → ¬ (88 ≤ b ∧ b ≤ 94) → h9 b = h b := fun b b1 b2 => by rw [e9, hset_oa b1, f5.1 b b1 b2, f2 b b1]
      have g0 : h9 75 0 = p := by rw [e9, hset_oj (by decide), f5.2 0 (by decide) (by decide) (by decide)]; exact m2.2.1.trans hpB
      have g4 : h9 75 4 = n := by rw [e9, hset_s]
      have g15 : h9 75 15 = 1 := by rw [e9, hset_oj (by decide)]; exact k5
      have g16 : h9 75 16 = n := by rw [e9, hset_oj (by decide)]; exact kn
      have pm9 : PM h9 (prs p P) := ⟨by rw [e9, hset_oj (by decide)]; exact pm5.1, fun t t0 t1 => by rw [e9, hset_oa (by decide), hset_oa (by decide)]; exact pm5.2 t t0 t1⟩
      have ch9 : ∀ s : Int, 0 ≤ s → s < n → h9 91 s = c s := fun s s0 s1 => by rw [e9, hset_oa (by decide), ch s s0 s1, ec s s0 s1]
      have mbB := hm.2.2.1
      rw [hpB, hPB] at mbB
      have z76 : h9 76 2 = sz P 2 := by rw [f9 76 (by decide) (by decide)]; exact mbB.1 2 (by decide) (by decide)
      have wrow : ∀ s : Int, 0 ≤ s → s < n → 0 ≤ W s ∧ W s < PW p (sz P 2) := fun s s0 s1 => by
        have := wf.2.2.2 2 s (by decide) (by decide) s0 s1
        have e : rw' (fiP p P n c W) (40 * 2 + s) = W s := by
          show (if 40 * 2 + s < 40 then _ else if 40 * 2 + s < 80 then _ else W (40 * 2 + s - 80)) = W s
          rw [if_neg (by omega), if_neg (by omega), show 40 * 2 + s - 80 = s by omega]
        rw [e] at this
        exact this
      -- the third rows
      have third : ∀ hh, (∀ b, b ≠ 78 → hh b = h9 b) → (∀ t i : Int, 0 ≤ t → t < n → 0 ≤ i → i < 9 → hh 78 (27 * t + i) = D p ((prs p P).2.1 (c t)) i ∧ hh 78 (27 * t + 9 + i) = D p ((prs p P).2.2 (c t)) i ∧ hh 78 (27 * t + 18 + i) = 0) → S l MX9_find (D0 + 5 + 1, 0, 0, 0, 0) 77 [some (vR 75), some (vI n), some (vI 0), none] [] G0 hh Q := fun hh f rows => by
        refine lp_up (σ := HP) (fun k hk => S l MX9_find (D0 + 5 + 1, 0, 0, 0, 0) 77 [some (vR 75), some (vI n), some (vI k), none] [] G0 hk Q) (fun k hk => 0 ≤ k ∧ (∀ b, b ≠ 78 → b ≠ 95 → b ≠ 96 → hk b = h9 b) ∧ B95 hk ∧ ∀ t i : Int, 0 ≤ t → t < n → 0 ≤ i → i < 9 → hk 78 (27 * t + i) = D p ((prs p P).2.1 (c t)) i ∧ hk 78 (27 * t + 9 + i) = D p ((prs p P).2.2 (c t)) i ∧ hk 78 (27 * t + 18 + i) = if i < k then D p (W t) i else 0) (sz P 2) ?_ ?_ 0 hh (by omega) ⟨by decide, fun b b1 _ _ => f b b1, fun j j0 j1 => by rw [f 95 (by decide), f9 95 (by decide) (by decide)]; exact b95 j j0 j1, fun t i t0 t1 i0 i9 => by rw [if_neg (by omega)]; exact rows t i t0 t1 i0 i9⟩
        · intro k hk hk1 ⟨k0, f, b5, rows⟩ ih
          have a75 : hk 75 = h9 75 := f 75 (by decide) (by decide) (by decide)
          have a76 : hk 76 = h9 76 := f 76 (by decide) (by decide) (by decide)
          refine vX9_find_77 75 n k ?_
          simp only [a75, mr.sz, a76, z76]
          refine ⟨t75, i76 (by decide) (by decide), ⟨by omega, by omega⟩, ⟨by omega, by omega⟩, fun z => by omega, fun _ => ?_⟩
          refine rX9_sumTo (β := fun s => D p (W s) k) (c := c) hp hW (mr.fr (fun j _ _ _ _ _ _ => by rw [a75])) (by rw [a75]; exact g0) (fun j j0 j1 => by rw [f 77 (by decide) (by decide) (by decide), f9 77 (by decide) (by decide)]; exact mbB.2 j j0 j1) ⟨by rw [a75]; exact pm9.1, fun t t0 t1 => by rw [f 89 (by decide) (by decide) (by decide), f 90 (by decide) (by decide) (by decide)]; exact pm9.2 t t0 t1⟩ K60 n4 (fun s s0 s1 => ⟨by rw [f 91 (by decide) (by decide) (by decide)]; exact ch9 s s0 s1, cb s s0 s1⟩) k0 (by omega) b5 ok81.2.2.1 (fun _ _ _ => D_D hp) (isW_81 hp hW tab.1 cb hw k0 hk1) ?_
          intro h8 f8 b8 v8
          refine lp_up (σ := HP) (fun s hk2 => S l MX9_find (D0 + 5 + 1, 0, 0, 0, 0) 95 [some (vR 75), some (vI n), some (vI k), some (vI s)] [] G0 hk2 Q) (fun s hk2 => 0 ≤ s ∧ (∀ b, b ≠ 78 → hk2 b = h8 b) ∧ ∀ t i : Int, 0 ≤ t → t < n → 0 ≤ i → i < 9 → hk2 78 (27 * t + i) = D p ((prs p P).2.1 (c t)) i ∧ hk2 78 (27 * t + 9 + i) = D p ((prs p P).2.2 (c t)) i ∧ hk2 78 (27 * t + 18 + i) = if i < k ∨ (i = k ∧ t < s) then D p (W t) i else 0) n ?_ ?_ 0 h8 (by omega) ⟨by decide, fun _ _ => rfl, fun t i t0 t1 i0 i9 => ?_⟩
          · intro s hk2 hs2 ⟨s0', g, rows2⟩ ih2
            have c75 : hk2 75 = h9 75 := by rw [g 75 (by decide), f8 75 (by decide) (by decide), a75]
            have v : hk2 96 s = D p (W s) k := by rw [g 96 (by decide)]; exact v8 s s0' hs2
            refine vX9_find_95 75 n k s ?_
            simp only [c75, mr.by_, mr.sc, v]
            refine ⟨⟨by omega, by omega⟩, ⟨by omega, by omega⟩, fun z => by omega, fun _ => ⟨t75, i96 (by omega) (by omega), i78 (by omega) (by omega), fun h7 e7 => ih2 h7 ⟨by omega, fun b hb => by rw [e7, hset_oa hb]; exact g b hb, fun t i t0 t1 i0 i9 => ?_⟩⟩⟩
            obtain ⟨q1, q2, q3⟩ := rows2 t i t0 t1 i0 i9
            refine ⟨by rw [e7, hset_oj (by omega)]; exact q1, by rw [e7, hset_oj (by omega)]; exact q2, ?_⟩
            by_cases e : t = s ∧ i = k
            · rw [e.1, e.2, if_pos (by omega), e7, hset_s]
            · rw [e7, hset_oj (by omega), q3]
              split <;> split <;> first | rfl | (exfalso; omega)
          · intro hk2 ⟨s0', g, rows2⟩
            refine vX9_find_95 75 n k n ⟨⟨by omega, by omega⟩, ⟨by omega, by omega⟩, fun _ => ih hk2 ⟨by omega, fun b b1 b2 b3 => by rw [g b b1, f8 b b2 b3]; exact f b b1 b2 b3, fun j j0 j1 => by rw [g 95 (by decide)]; exact b8 j j0 j1, fun t i t0 t1 i0 i9 => ?_⟩, fun z => by omega⟩
            obtain ⟨q1, q2, q3⟩ := rows2 t i t0 t1 i0 i9
            refine ⟨q1, q2, ?_⟩
            rw [q3]
            split <;> split <;> first | rfl | (exfalso; omega)
          · rw [f8 78 (by decide) (by decide)]
            obtain ⟨q1, q2, q3⟩ := rows t i t0 t1 i0 i9
            refine ⟨q1, q2, ?_⟩
            rw [q3]
            split <;> split <;> first | rfl | (exfalso; omega)
        · intro hk ⟨k0, f, b5, rows⟩
          have a75 : hk 75 = h9 75 := f 75 (by decide) (by decide) (by decide)
          have a76 : hk 76 = h9 76 := f 76 (by decide) (by decide) (by decide)
          refine vX9_find_77 75 n (sz P 2) ?_
          simp only [a75, mr.sz, a76, z76]
          refine ⟨t75, i76 (by decide) (by decide), ⟨by omega, by omega⟩, ⟨by omega, by omega⟩, fun _ => ?_, fun z => by omega⟩
          have lo : ∀ b, b ≠ 75 → b ≠ 78 → b ≠ 95 → b ≠ 96 → ¬ (88 ≤ b ∧ b ≤ 94) → hk b = h b := fun b b1 b2 b3 b4 b5 => (f b b2 b3 b4).trans (f9 b b1 b5)
          have ms : MS hk p (fiP p P n c W) := by
            refine MS_mk (by rw [a75]; exact g4) (fun t w i t0 t1 w0 w3 i0 i9 => ?_)
            have t1' : t < n := t1
            obtain ⟨q1, q2, q3⟩ := rows t i t0 t1' i0 i9
            show _ = D p (if 40 * w + t < 40 then (prs p P).2.1 (c (40 * w + t)) else if 40 * w + t < 80 then (prs p P).2.2 (c (40 * w + t - 40)) else W (40 * w + t - 80)) i
            have hw3 : w = 0 ∨ w = 1 ∨ w = 2 := by omega
            rcases hw3 with rfl | rfl | rfl
            · rw [if_pos (by omega), show 40 * 0 + t = t by omega, show 27 * t + 9 * 0 + i = 27 * t + i by omega]; exact q1
            · rw [if_neg (by omega), if_pos (by omega), show 40 * 1 + t - 40 = t by omega, show 27 * t + 9 * 1 + i = 27 * t + 9 + i by omega]; exact q2
            · rw [if_neg (by omega), if_neg (by omega), show 40 * 2 + t - 80 = t by omega, show 27 * t + 9 * 2 + i = 27 * t + 18 + i by omega, q3]
              split
              · rfl
              · exact (D_sz hp (wrow t t0 t1') (by omega)).symm
          have := hQ hk ⟨mr.fr (fun j _ _ _ _ _ _ => by rw [a75]), by rw [a75, g0]; exact hpB.symm, by
              show MB hk (bp B) (fiP p P n c W)
              rw [hpB]
              exact (MB_ext (P' := fiP p P n c W) mbB rfl rfl).fr (lo 76 (by decide) (by decide) (by decide) (by decide) (by decide)) (lo 77 (by decide) (by decide) (by decide) (by decide) (by decide)), by
              show MS hk (bp B) (fiP p P n c W)
              rw [hpB]; exact ms, hm.2.2.2.2.1.fr (lo 79 (by decide) (by decide) (by decide) (by decide) (by decide)), hm.2.2.2.2.2.1.fr (fun b b0 b1 => lo b (by omega) (by omega) (by omega) (by omega) (by omega)), .inr ⟨by rw [a75]; exact g15, by
              show knw (bp B) (fiP p P n c W) (hk 75 16)
              rw [hpB, a75, g16]
              exact knw_ext (P := P) rfl rfl ⟨hs, .inr ⟨n, c, n4, ls', rfl⟩⟩⟩⟩ (fun b hb => lo b (by omega) (by omega) (by omega) (by omega) (by omega)) b5
          rw [e] at this
          exact this
      -- the first and second rows
      refine lp_up (σ := HP) (fun s hk => S l MX9_find (D0 + 5 + 1, 0, 0, 0, 0) 23 [some (vR 75), some (vI n), some (vI s), none] [] G0 hk Q) (fun s hk => 0 ≤ s ∧ (∀ b, b ≠ 78 → hk b = h9 b) ∧ ∀ t i : Int, 0 ≤ t → t < s → 0 ≤ i → i < 9 → hk 78 (27 * t + i) = D p ((prs p P).2.1 (c t)) i ∧ hk 78 (27 * t + 9 + i) = D p ((prs p P).2.2 (c t)) i ∧ hk 78 (27 * t + 18 + i) = 0) n ?_ ?_ 0 h9 (by omega) ⟨by decide, fun _ _ => rfl, fun t i a b => by omega⟩
      · intro s hk hs1 ⟨s0', f, rows⟩ ih
        have a75 := f 75 (by decide)
        have a91 := f 91 (by decide)
        have a89 := f 89 (by decide)
        have a90 := f 90 (by decide)
        have cs := cb s s0' hs1
        have pmx := pm9.2 (c s) cs.1 cs.2
        have ub := prs_b (P := P) hp (c s) cs.1 cs.2
        have uR := lt_R hp ub.1.1 ub.1.2 s0.2
        have vR' := lt_R hp ub.2.1 ub.2.2 s1.2
        have zR : isR p 0 := ⟨by decide, PW_pos (okp_b hp).1 9⟩
        refine vX9_find_23 75 n s ?_
        simp only [a75, mr.ch, a91, ch9 s s0' hs1, mr.pu, a89, pmx.1]
        refine ⟨⟨by omega, by omega⟩, ⟨by omega, by omega⟩, fun z => by omega, fun _ => ⟨t75, i91 (by omega) (by omega), i89 (by omega) (by omega), ?_⟩⟩
        refine rX9_putRow (mr.fr (fun j _ _ _ _ _ _ => by rw [a75])) (by rw [a75]; exact g0) hp ⟨by decide, by decide⟩ s0' (by omega) uR (fun h10 f10 d10 o10 => ?_)
        have b75 := (f10 75 (by decide)).trans a75
        have b91 := (f10 91 (by decide)).trans a91
        have b90 := (f10 90 (by decide)).trans a90
        simp only [b75, mr.ch, b91, ch9 s s0' hs1, mr.pv, b90, pmx.2]
        refine ⟨t75, i91 (by omega) (by omega), i90 (by omega) (by omega), ?_⟩
        refine rX9_putRow (mr.fr (fun j _ _ _ _ _ _ => by rw [b75])) (by rw [b75]; exact g0) hp ⟨by decide, by decide⟩ s0' (by omega) vR' (fun h11 f11 d11 o11 => ?_)
        have c75 := (f11 75 (by decide)).trans b75
        refine ⟨t75, rX9_putRow (mr.fr (fun j _ _ _ _ _ _ => by rw [c75])) (by rw [c75]; exact g0) hp ⟨by decide, by decide⟩ s0' (by omega) zR (fun h12 f12 d12 o12 => ih h12 ⟨by omega, fun b hb => by rw [f12 b hb, f11 b hb, f10 b hb]; exact f b hb, fun t i t0 t1 i0 i9 => ?_⟩)⟩
        by_cases et : t = s
        · rw [et]
          refine ⟨?_, ?_, ?_⟩
          · rw [o12 _ (by omega), o11 _ (by omega), show 27 * s + i = 27 * s + 9 * 0 + i by omega]; exact d10 i i0 i9
          · rw [o12 _ (by omega), show 27 * s + 9 + i = 27 * s + 9 * 1 + i by omega]; exact d11 i i0 i9
          · rw [show 27 * s + 18 + i = 27 * s + 9 * 2 + i by omega, d12 i i0 i9]; exact D_z
        · rw [o12 _ (by omega), o12 _ (by omega), o12 _ (by omega), o11 _ (by omega), o11 _ (by omega), o11 _ (by omega), o10 _ (by omega), o10 _ (by omega), o10 _ (by omega)]
          exact rows t i t0 (by omega) i0 i9
      · intro hk ⟨s0', f, rows⟩
        exact vX9_find_23 75 n n ⟨⟨by omega, by omega⟩, ⟨by omega, by omega⟩, fun _ => third hk f rows, fun z => by omega⟩
end Find9
