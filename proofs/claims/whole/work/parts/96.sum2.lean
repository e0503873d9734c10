/-- the rows to be solved, in cell 95 -/
def B95 (h : HP) : Prop := ∀ j : Int, 0 ≤ j → j < 405 → 0 ≤ h 95 j ∧ h 95 j ≤ 6
def G5 (h : HP) (n : Nat) (M : Int → Int → Int) : Prop := B95 h ∧ ∀ r c : Int, 0 ≤ r → r < 81 → rel n c → h 95 (5 * r + c) = M r c
theorem B95.set {h h' : HP} {j v : Int} (b : B95 h) (e : h' = hset h 95 j v) (v0 : 0 ≤ v) (v6 : v ≤ 6) : B95 h' := fun i i0 i1 => by
  by_cases ei : i = j
  · rw [ei, e, hset_s]; exact ⟨v0, v6⟩
  · rw [e, hset_oj ei]; exact b i i0 i1
section Sum2
variable {l : Launch} {D0 : Nat} {h : HP} {p : Int} {P : PS} {B : BS} {Q : Int → GS → HP → Prop}
set_option maxHeartbeats 2000000 in
theorem rX9_sumTo {n : Nat} {k : Int} {c β : Int → Int} (hp : okp p) (hW : WF p P) (mr : MR h) (h0 : h 75 0 = p) (mb : ∀ j, 0 ≤ j → j < 729 → h 77 j = bd p P j) (pm : PM h (prs p P)) (K60 : (prs p P).1 ≤ 60) (n4 : n ≤ 4) (hc : ∀ s : Int, 0 ≤ s → s < n → h 91 s = c s ∧ 0 ≤ c s ∧ c s < (prs p P).1) (k0 : 0 ≤ k) (k9 : k < 9) (b95 : B95 h) (ind : Ind p 81 n (fun s => T81 p P (c s))) (hb : ∀ s : Int, 0 ≤ s → s < n → isD p (β s)) (sol : ∀ i : Int, 0 ≤ i → i < 81 → p ∣ S81 p P k i - sm (fun s => β s * T81 p P (c s) i) n)
    (hQ : ∀ h', (∀ b, b ≠ 95 → b ≠ 96 → h' b = h b) → B95 h' → (∀ s : Int, 0 ≤ s → s < n → h' 96 s = β s) → Q 0 G0 h') : R l MX9_sumTo (D0 + 1) 0 0 [vR 75, vI n, vI k] G0 h Q := by
  have pb := okp_b hp
  have s0 := hW.1 0 (by decide) (by decide)
  have s1 := hW.1 1 (by decide) (by decide)
  generalize eM : (fun (r c' : Int) => if c' = 4 then S81 p P k r else T81 p P (c c') r) = M0
  have M04 : ∀ r, M0 r 4 = S81 p P k r := fun r => by rw [← eM]; exact if_pos rfl
  have M0c : ∀ r s, s < 4 → M0 r s = T81 p P (c s) r := fun r s hs => by rw [← eM]; exact if_neg (by omega)
  have M0D : ∀ r s, isD p (M0 r s) := fun r s => by
    rw [← eM]
    show isD p (if s = 4 then S81 p P k r else T81 p P (c s) r)
    split
    · exact S81_D hp
    · exact T81_D hp
  have solG : Gs p n (fun s => if s = 4 then -1 else β s) M0 := fun r r0 r1 => by
    show p ∣ sm (fun t => M0 r t * (if t = 4 then -1 else β t)) n + M0 r 4 * (if (4 : Int) = 4 then -1 else β 4)
    rw [if_pos rfl, M04, sm_ext n (g := fun s => β s * T81 p P (c s) r) (fun s s0 s1 => by rw [if_neg (by omega), M0c r s (by omega), Int.mul_comm])]
    have := (Int.dvd_neg).2 (sol r r0 r1)
    rw [show ∀ a b : Int, -(a - b) = b + a * -1 by intro a b; omega] at this
    exact this
  have ker : ∀ x : Int → Int, x 4 = 0 → Gs p n x M0 → ∀ s : Int, 0 ≤ s → s < n → p ∣ x s := fun x x4 hx => ind x (fun i i0 i1 => by
    have h1 : p ∣ sm (fun t => M0 i t * x t) n + M0 i 4 * x 4 := hx i i0 i1
    rw [x4, Int.mul_zero, Int.add_zero, sm_ext n (g := fun s => x s * T81 p P (c s) i) (fun s s0 s1 => by rw [M0c i s (by omega), Int.mul_comm])] at h1
    exact h1)
  -- the answer
  have fin : ∀ hh M, (∀ b, b ≠ 95 → b ≠ 96 → hh b = h b) → G5 hh n M → GJ p n n M M0 → S l MX9_sumTo (D0 + 1, 0, 0, 0, 0) 348 [some (vR 75), some (vI n), none, some (vI 0), none, none, none, none, none] [] G0 hh Q := fun hh M f g gj => by
    have ans := GJ_end hp gj n4 hb solG
    refine lp_up (σ := HP) (fun s hk => S l MX9_sumTo (D0 + 1, 0, 0, 0, 0) 348 [some (vR 75), some (vI n), none, some (vI s), none, none, none, none, none] [] G0 hk Q) (fun s hk => 0 ≤ s ∧ (∀ b, b ≠ 96 → hk b = hh b) ∧ ∀ t, 0 ≤ t → t < s → hk 96 t = β t) n ?_ ?_ 0 hh (by omega) ⟨by decide, fun _ _ => rfl, fun t a b => by omega⟩
    · intro s hk hs ⟨s0', g1, dn⟩ ih
      have a75 : hk 75 = h 75 := (g1 75 (by decide)).trans (f 75 (by decide) (by decide))
      have v : hk 95 (5 * s + 4) = β s := by rw [g1 95 (by decide), g.2 s 4 s0' (by omega) (.inr rfl)]; exact ans s s0' hs
      refine vX9_sumTo_348 75 n s ?_
      simp only [a75, mr.su, mr.by_, v]
      refine ⟨⟨by omega, by omega⟩, ⟨by omega, by omega⟩, fun z => by omega, fun _ => ⟨t75, i95 (by omega) (by omega), i96 (by omega) (by omega), fun h7 e7 => ih h7 ⟨by omega, fun b hb => by rw [e7, hset_oa hb]; exact g1 b hb, fun t t0 t1 => ?_⟩⟩⟩
      by_cases e : t = s
      · rw [e, e7, hset_s]
      · rw [e7, hset_oj e]; exact dn t t0 (by omega)
    · intro hk ⟨s0', g1, dn⟩
      exact vX9_sumTo_348 75 n n ⟨⟨by omega, by omega⟩, ⟨by omega, by omega⟩, fun _ => hQ hk (fun b b1 b2 => by rw [g1 b b2]; exact f b b1 b2) (fun j j0 j1 => by rw [g1 95 (by decide)]; exact g.1 j j0 j1) dn, fun z => by omega⟩
  -- the steps
  have stp : ∀ hh M, (∀ b, b ≠ 95 → b ≠ 96 → hh b = h b) → G5 hh n M → GJ p n 0 M M0 → S l MX9_sumTo (D0 + 1, 0, 0, 0, 0) 109 [some (vR 75), some (vI n), none, some (vI 0), none, none, none, none, none] [] G0 hh Q := fun hh M f g gj => by
    refine lp_up (σ := HP) (fun d hk => S l MX9_sumTo (D0 + 1, 0, 0, 0, 0) 109 [some (vR 75), some (vI n), none, some (vI d), none, none, none, none, none] [] G0 hk Q) (fun d hk => 0 ≤ d ∧ (∀ b, b ≠ 95 → b ≠ 96 → hk b = h b) ∧ ∃ M, G5 hk n M ∧ GJ p n d M M0) n ?_ ?_ 0 hh (by omega) ⟨by decide, f, M, g, gj⟩
    · intro d hk dn ⟨d0, f, M, g, gj⟩ ih
      have a75 : hk 75 = h 75 := f 75 (by decide) (by decide)
      refine vX9_sumTo_109 75 n d ⟨⟨by omega, by omega⟩, ⟨by omega, by omega⟩, fun z => by omega, fun _ => ?_⟩
      refine lp_up (σ := Unit) (fun a _ => S l MX9_sumTo (D0 + 1, 0, 0, 0, 0) 117 [some (vR 75), some (vI n), none, some (vI d), some (vI a), none, none, none, none] [] G0 hk Q) (fun a _ => d ≤ a ∧ ∀ r, d ≤ r → r < a → M r d = 0) 81 ?_ ?_ d () (by omega) ⟨by omega, fun r a b => by omega⟩
      · intro a _ a1 ⟨ad, hz⟩ ih1
        have v : hk 95 (5 * a + d) = M a d := g.2 a d (by omega) a1 (.inl ⟨d0, dn⟩)
        have vD := gj.1 a d (by omega) a1 (.inl ⟨d0, dn⟩)
        have vD1 := vD.1
        have vD2 := vD.2
        refine vX9_sumTo_117 75 n d a ?_
        simp only [a75, mr.su, v]
        refine ⟨t75, i95 (by omega) (by omega), ⟨by omega, by omega⟩, fun nz => ?_, fun z => ih1 () ⟨by omega, fun r r0 r1 => ?_⟩⟩
        · refine rX9_inverse (by rw [a75]; exact h0) hp ⟨by omega, vD2⟩ ?_
          have io := iv_ok hp (show 1 ≤ M a d by omega) vD2
          have gj' := GJ_step hp gj d0 dn n4 ad a1 nz
          generalize iv p (M a d) = i at io gj' ⊢
          have ND := pv_D (a := a) (i := i) hp gj.1 d0 (show d < 81 by omega)
          generalize eN : pvM p M d a i = N at gj' ND
          have Nd : ∀ c, N d c = M a c * i % p := fun c => by rw [← eN]; unfold pvM; rw [if_pos rfl]
          have Na : ∀ c, a ≠ d → N a c = M d c := fun c z => by rw [← eN]; unfold pvM; rw [if_neg z, if_pos rfl]
          have No : ∀ r c, r ≠ d → r ≠ a → N r c = M r c := fun r c z1 z2 => by rw [← eN]; unfold pvM; rw [if_neg z1, if_neg z2]
          -- the others' rows
          have elim : ∀ hh, (∀ b, b ≠ 95 → b ≠ 96 → hh b = h b) → G5 hh n N → S l MX9_sumTo (D0 + 1, 0, 0, 0, 0) 230 [some (vR 75), some (vI n), none, some (vI d), none, none, some (vI 0), none, none] [] G0 hh Q := fun hh f g => by
            refine lp_up (σ := HP) (fun r hk => S l MX9_sumTo (D0 + 1, 0, 0, 0, 0) 230 [some (vR 75), some (vI n), none, some (vI d), none, none, some (vI r), none, none] [] G0 hk Q) (fun r hk => 0 ≤ r ∧ (∀ b, b ≠ 95 → b ≠ 96 → hk b = h b) ∧ B95 hk ∧ ∀ r' c : Int, 0 ≤ r' → r' < 81 → rel n c → hk 95 (5 * r' + c) = if r' < r then elM p N d r' c else N r' c) 81 ?_ ?_ 0 hh (by decide) ⟨by decide, f, g.1, fun r' c r0 r1 rc => by rw [if_neg (by omega)]; exact g.2 r' c r0 r1 rc⟩
            · intro r hk r81 ⟨r0, f, b5, hr⟩ ih2
              have a75 : hk 75 = h 75 := f 75 (by decide) (by decide)
              by_cases rd : r = d
              · -- its own row
                refine vX9_sumTo_230 75 n d r ⟨⟨by omega, by omega⟩, fun z => by omega, fun _ => ⟨⟨by omega, by omega⟩, fun z => absurd rd z, fun _ => ?_⟩⟩
                refine vX9_sumTo_273 75 n d r 0 0 ⟨by decide, fun z => absurd z (by decide), fun _ => ⟨by decide, fun _ => ih2 hk ⟨by omega, f, b5, fun r' c r0' r1' rc => ?_⟩, fun z => absurd z (by decide)⟩⟩
                rw [hr r' c r0' r1' rc]
                by_cases e : r' = r
                · rw [if_neg (by omega), if_pos (by omega), e, rd]
                  unfold elM
                  rw [if_pos rfl]
                · split <;> split <;> first | rfl | (exfalso; omega)
              · have v := hr r d r0 r81 (.inl ⟨d0, dn⟩)
                rw [if_neg (by omega)] at v
                have wD := ND r d r0 r81 (.inl ⟨d0, dn⟩)
                have wD1 := wD.1
                have wD2 := wD.2
                have fD := md_D (x := p - N r d) hp
                have fD1 := fD.1
                have fD2 := fD.2
                have el : ∀ c, elM p N d r c = (N r c + (p - N r d) % p * N d c) % p := fun c => by unfold elM; rw [if_neg rd]
                refine vX9_sumTo_230 75 n d r ?_
                simp only [a75, mr.su, h0, v]
                refine ⟨⟨by omega, by omega⟩, fun z => by omega, fun _ => ⟨⟨by omega, by omega⟩, fun _ => ⟨t75, i95 (by omega) (by omega), ⟨⟨by omega, by omega⟩, by omega, by omega⟩, ?_⟩, fun z => absurd z rd⟩⟩
                generalize (p - N r d) % p = φ at fD1 fD2 el ⊢
                by_cases fz : φ = 0
                · refine vX9_sumTo_273 75 n d r φ 0 ⟨by decide, fun z => absurd z (by decide), fun _ => ⟨⟨by omega, by omega⟩, fun _ => ih2 hk ⟨by omega, f, b5, fun r' c r0' r1' rc => ?_⟩, fun z => by omega⟩⟩
                  rw [hr r' c r0' r1' rc]
                  by_cases e : r' = r
                  · rw [if_neg (by omega), if_pos (by omega), e, el, fz, Int.zero_mul, Int.add_zero, Int.emod_eq_of_lt (ND r c r0 r81 rc).1 (ND r c r0 r81 rc).2]
                  · split <;> split <;> first | rfl | (exfalso; omega)
                · refine lp_up (σ := HP) (fun j hk2 => S l MX9_sumTo (D0 + 1, 0, 0, 0, 0) 273 [some (vR 75), some (vI n), none, some (vI d), none, none, some (vI r), some (vI φ), some (vI j)] [] G0 hk2 Q) (fun j hk2 => 0 ≤ j ∧ (∀ b, b ≠ 95 → b ≠ 96 → hk2 b = h b) ∧ B95 hk2 ∧ ∀ r' c : Int, 0 ≤ r' → r' < 81 → rel n c → hk2 95 (5 * r' + c) = if r' < r ∨ (r' = r ∧ c < j) then elM p N d r' c else N r' c) 5 ?_ ?_ 0 hk (by decide) ⟨by decide, f, b5, fun r' c r0' r1' rc => by
                    rw [hr r' c r0' r1' rc]
                    have : 0 ≤ c := by rcases rc with z | z <;> omega
                    split <;> split <;> first | rfl | (exfalso; omega)⟩
                  · intro j hk2 j5 ⟨j0, f2, b2, hr2⟩ ih3
                    have c75 : hk2 75 = h 75 := f2 75 (by decide) (by decide)
                    have x1 := b2 (5 * r + j) (by omega) (by omega)
                    have x2 := b2 (5 * d + j) (by omega) (by omega)
                    have mm := ml_b fD1 (show φ ≤ 7 by omega) x2.1 x2.2
                    have vm := md_D (x := hk2 95 (5 * r + j) + φ * hk2 95 (5 * d + j)) hp
                    have vm1 := vm.1
                    have vm2 := vm.2
                    refine vX9_sumTo_273 75 n d r φ j ?_
                    simp only [c75, mr.su, h0]
                    refine ⟨⟨by omega, by omega⟩, fun z => by omega, fun _ => ⟨⟨by omega, by omega⟩, fun z => by omega, fun _ => ⟨t75, i95 (by omega) (by omega), i95 (by omega) (by omega), ⟨⟨by omega, by omega⟩, by omega, by omega⟩, fun h9 e9 => ih3 h9 ⟨by omega, fun b b1 b2' => by rw [e9, hset_oa b1]; exact f2 b b1 b2', b2.set e9 vm1 (by omega), fun r' c r0' r1' rc => ?_⟩⟩⟩⟩
                    have c05 : 0 ≤ c ∧ c < 5 := by rcases rc with z | z <;> omega
                    by_cases e : r' = r ∧ c = j
                    · obtain ⟨e1, e2⟩ := e
                      have y1 := hr2 r' c r0' r1' rc
                      have y2 := hr2 d c d0 (by omega) rc
                      rw [if_neg (by omega)] at y1
                      have y3 : hk2 95 (5 * d + c) = N d c := by
                        rw [y2]
                        split
                        · unfold elM; rw [if_pos rfl]
                        · rfl
                      rw [e1, e2] at y1
                      rw [e2] at y3
                      rw [if_pos (by omega), e1, e2, e9, hset_s, y1, y3, el]
                    · rw [e9, hset_oj (by omega), hr2 r' c r0' r1' rc]
                      split <;> split <;> first | rfl | (exfalso; omega)
                  · intro hk2 ⟨j0, f2, b2, hr2⟩
                    refine vX9_sumTo_273 75 n d r φ 5 ⟨by decide, fun _ => ih2 hk2 ⟨by omega, f2, b2, fun r' c r0' r1' rc => ?_⟩, fun z => absurd z (by decide)⟩
                    have c05 : 0 ≤ c ∧ c < 5 := by rcases rc with z | z <;> omega
                    rw [hr2 r' c r0' r1' rc]
                    split <;> split <;> first | rfl | (exfalso; omega)
            · intro hk ⟨r0, f, b5, hr⟩
              exact vX9_sumTo_230 75 n d 81 ⟨by decide, fun _ => ih hk ⟨by omega, f, elM p N d, ⟨b5, fun r' c r0 r1 rc => by rw [hr r' c r0 r1 rc, if_pos r1]⟩, gj'⟩, fun z => absurd z (by decide)⟩
          -- changing the rows' places
          refine lp_up (σ := HP) (fun j hk2 => S l MX9_sumTo (D0 + 1, 0, 0, 0, 0) 157 [some (vR 75), some (vI n), none, some (vI d), some (vI a), some (vI i), some (vI j), none, none] [] G0 hk2 Q) (fun j hk2 => 0 ≤ j ∧ (∀ b, b ≠ 95 → b ≠ 96 → hk2 b = h b) ∧ B95 hk2 ∧ ∀ r' c : Int, 0 ≤ r' → r' < 81 → rel n c → hk2 95 (5 * r' + c) = if c < j then N r' c else M r' c) 5 ?_ ?_ 0 hk (by decide) ⟨by decide, f, g.1, fun r' c r0 r1 rc => by
            have : 0 ≤ c := by rcases rc with z | z <;> omega
            rw [if_neg (by omega)]; exact g.2 r' c r0 r1 rc⟩
          · intro j hk2 j5 ⟨j0, f2, b2, hr2⟩ ih3
            have c75 : hk2 75 = h 75 := f2 75 (by decide) (by decide)
            have x1 := b2 (5 * a + j) (by omega) (by omega)
            have x2 := b2 (5 * d + j) (by omega) (by omega)
            have io1 := io.1
            have io2 := io.2.1
            have mm := ml_b x1.1 x1.2 (show 0 ≤ i by omega) (show i ≤ 7 by omega)
            have vm := md_D (x := hk2 95 (5 * a + j) * i) hp
            have vm1 := vm.1
            have vm2 := vm.2
            refine vX9_sumTo_157 75 n d a i j ?_
            simp only [c75, mr.su, h0]
            refine ⟨⟨by omega, by omega⟩, fun z => by omega, fun _ => ⟨t75, i95 (by omega) (by omega), ⟨⟨by omega, by omega⟩, by omega, by omega⟩, i95 (by omega) (by omega), fun h7 e7 => ?_⟩⟩
            have d75 : h7 75 = h 75 := by rw [e7, hset_oa (by decide), c75]
            simp only [d75, mr.su]
            refine ⟨i95 (by omega) (by omega), fun h9 e9 => ih3 h9 ⟨by omega, fun b b1 b2' => by rw [e9, hset_oa b1, e7, hset_oa b1]; exact f2 b b1 b2', (b2.set e7 x2.1 x2.2).set e9 vm1 (by omega), fun r' c r0' r1' rc => ?_⟩⟩
            have c05 : 0 ≤ c ∧ c < 5 := by rcases rc with z | z <;> omega
            by_cases ej : c = j
            · have ya := hr2 a c (by omega) a1 rc
              have yd := hr2 d c d0 (by omega) rc
              rw [if_neg (by omega)] at ya yd
              rw [if_pos (by omega)]
              by_cases e1 : r' = d
              · rw [ej] at ya
                rw [e1, ej, e9, hset_s, ya, Nd]
              · rw [e9, hset_oj (by omega), e7]
                by_cases e2 : r' = a
                · rw [ej] at yd
                  rw [e2, ej, hset_s, yd, Na _ (by omega)]
                · rw [hset_oj (by omega), hr2 r' c r0' r1' rc, if_neg (by omega), No r' c e1 e2]
            · rw [e9, hset_oj (by omega), e7, hset_oj (by omega), hr2 r' c r0' r1' rc]
              split <;> split <;> first | rfl | (exfalso; omega)
          · intro hk2 ⟨j0, f2, b2, hr2⟩
            exact vX9_sumTo_157 75 n d a i 5 ⟨by decide, fun _ => elim hk2 f2 ⟨b2, fun r' c r0 r1 rc => by
              have c05 : 0 ≤ c ∧ c < 5 := by rcases rc with z | z <;> omega
              rw [hr2 r' c r0 r1 rc, if_pos c05.2]⟩, fun z => absurd z (by decide)⟩
        · by_cases e : r = a
          · rw [e]; exact z
          · exact hz r r0 (by omega)
      · intro _ ⟨ad, hz⟩
        exact (GJ_piv hp gj d0 dn n4 ker hz).elim
    · intro hk ⟨d0, f, M, g, gj⟩
      exact vX9_sumTo_109 75 n n ⟨⟨by omega, by omega⟩, ⟨by omega, by omega⟩, fun _ => fin hk M f g gj, fun z => by omega⟩
  -- loading
  refine eX9_sumTo 75 n k (vX9_sumTo_0 75 n k ?_)
  refine lp_up (σ := HP) (fun r hk => S l MX9_sumTo (D0 + 1, 0, 0, 0, 0) 2 [some (vR 75), some (vI n), some (vI k), some (vI r), none, none, none, none, none] [] G0 hk Q) (fun r hk => 0 ≤ r ∧ (∀ b, b ≠ 95 → hk b = h b) ∧ B95 hk ∧ ∀ r' c' : Int, 0 ≤ r' → r' < r → rel n c' → hk 95 (5 * r' + c') = M0 r' c') 81 ?_ ?_ 0 h (by decide) ⟨by decide, fun _ _ => rfl, b95, fun r' c' a b => by omega⟩
  · intro r hk r81 ⟨r0, f, b5, dn⟩ ih
    refine vX9_sumTo_2 75 n k r ⟨⟨by omega, by omega⟩, fun z => by omega, fun _ => ?_⟩
    refine lp_up (σ := HP) (fun s hk2 => S l MX9_sumTo (D0 + 1, 0, 0, 0, 0) 11 [some (vR 75), some (vI n), some (vI k), some (vI r), some (vI s), none, none, none, none] [] G0 hk2 Q) (fun s hk2 => 0 ≤ s ∧ (∀ b, b ≠ 95 → hk2 b = h b) ∧ B95 hk2 ∧ (∀ r' c' : Int, 0 ≤ r' → r' < r → rel n c' → hk2 95 (5 * r' + c') = M0 r' c') ∧ ∀ s', 0 ≤ s' → s' < s → hk2 95 (5 * r + s') = M0 r s') n ?_ ?_ 0 hk (by omega) ⟨by decide, f, b5, dn, fun s' a b => by omega⟩
    · intro s hk2 hs ⟨s0', f2, b2, dn2, dr⟩ ih2
      have a75 := f2 75 (by decide)
      have a91 := f2 91 (by decide)
      have a89 := f2 89 (by decide)
      have a90 := f2 90 (by decide)
      obtain ⟨c1, c2, c3⟩ := hc s s0' hs
      have pmx := pm.2 (c s) c2 c3
      have ub := prs_b (P := P) hp (c s) c2 c3
      have uR := lt_R hp ub.1.1 ub.1.2 s0.2
      have vR' := lt_R hp ub.2.1 ub.2.2 s1.2
      refine vX9_sumTo_11 75 n k r s ?_
      simp only [a75, mr.ch, a91, c1, mr.pu, a89, pmx.1, mr.su]
      refine ⟨⟨by omega, by omega⟩, ⟨by omega, by omega⟩, fun z => by omega, fun _ => ⟨t75, i91 (by omega) (by omega), i89 (by omega) (by omega), ⟨⟨by omega, by omega⟩, by decide, by decide⟩, rX9_digit (by rw [a75]; exact h0) hp uR (by omega) (by omega) ?_⟩⟩
      simp only [a75, mr.ch, a91, c1, mr.pv, a90, pmx.2]
      refine ⟨t75, i91 (by omega) (by omega), i90 (by omega) (by omega), ⟨⟨by omega, by omega⟩, by decide, by decide⟩, rX9_digit (by rw [a75]; exact h0) hp vR' (by omega) (by omega) ?_⟩
      simp only [a75, h0]
      have vm := md_D (x := D p ((prs p P).2.1 (c s)) (r / 9) * D p ((prs p P).2.2 (c s)) (r % 9)) hp
      have vm1 := vm.1
      have vm2 := vm.2
      refine ⟨t75, ml_dv hp (D_D hp) (D_D hp), i95 (by omega) (by omega), fun h25 e25 => ih2 h25 ⟨by omega, fun b hb => by rw [e25, hset_oa hb]; exact f2 b hb, b2.set e25 vm1 (by omega), fun r' c' r0' r1' rc => ?_, fun s' s0'' s1'' => ?_⟩⟩
      · have c05 : 0 ≤ c' ∧ c' < 5 := by rcases rc with z | z <;> omega
        rw [e25, hset_oj (by omega)]; exact dn2 r' c' r0' r1' rc
      · by_cases e : s' = s
        · rw [e, e25, hset_s, M0c r s (by omega)]; rfl
        · rw [e25, hset_oj (by omega)]; exact dr s' s0'' (by omega)
    · intro hk2 ⟨s0', f2, b2, dn2, dr⟩
      have a75 := f2 75 (by decide)
      have a77 := f2 77 (by decide)
      have v : h 77 (9 * r + k) = S81 p P k r := by
        rw [mb _ (by omega) (by omega)]
        show D p (fb P ((9 * r + k) / 9)) ((9 * r + k) % 9) = D p (fb P r) k
        rw [show (9 * r + k) / 9 = r by omega, show (9 * r + k) % 9 = k by omega]
      have vD := S81_D (t := k) (c := r) (P := P) hp
      have vD1 := vD.1
      have vD2 := vD.2
      refine vX9_sumTo_11 75 n k r n ?_
      simp only [a75, mr.bx, mr.su, a77, v]
      refine ⟨⟨by omega, by omega⟩, ⟨by omega, by omega⟩, fun _ => ⟨t75, i77 (by omega) (by omega), i95 (by omega) (by omega), fun h7 e7 => ih h7 ⟨by omega, fun b hb => by rw [e7, hset_oa hb]; exact f2 b hb, b2.set e7 vD1 (by omega), fun r' c' r0' r1' rc => ?_⟩⟩, fun z => by omega⟩
      have c05 : 0 ≤ c' ∧ c' < 5 := by rcases rc with z | z <;> omega
      by_cases e : r' = r
      · rw [e]
        rcases rc with z | z
        · rw [e7, hset_oj (by omega)]; exact dr c' z.1 z.2
        · rw [z, e7, hset_s, M04]
      · rw [e7, hset_oj (by omega)]; exact dn2 r' c' r0' (by omega) rc
  · intro hk ⟨r0, f, b5, dn⟩
    exact vX9_sumTo_2 75 n k 81 ⟨by decide, fun _ => stp hk M0 (fun b b1 _ => f b b1) ⟨b5, dn⟩ ⟨fun r c _ _ _ => M0D r c, fun r c _ _ a b => by omega, fun _ => Iff.rfl⟩, fun z => absurd z (by decide)⟩
end Sum2
