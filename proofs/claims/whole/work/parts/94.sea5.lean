/-- what findLeast may write -/
def FrY (h h' : HP) : Prop := (∀ b, b ≠ 75 → ¬ (88 ≤ b ∧ b ≤ 94) → h' b = h b) ∧ ∀ j, j ≠ 15 → j ≠ 16 → j ≠ 19 → h' 75 j = h 75 j
theorem FrY.tr {h h1 h2 : HP} (f : FrY h h1) (g : FrY h1 h2) : FrY h h2 := ⟨fun b b1 b2 => (g.1 b b1 b2).trans (f.1 b b1 b2), fun j a b c => (g.2 j a b c).trans (f.2 j a b c)⟩
theorem FrY.ofD {h h' : HP} {d : Nat} (f : FrD d h h') : FrY h h' := ⟨fun b _ b2 => f.1 b (by omega) (by omega) (by omega) (by omega) (by omega), fun j _ _ _ => by rw [f.1 75 (by decide) (by decide) (by decide) (by decide) (by decide)]⟩
theorem FrY.ofN {h h' : HP} (f : FrN h h') : FrY h h' := ⟨fun b b1 b2 => f.1 b b1 (by omega) (by omega), fun j _ _ c => f.2 j c⟩
theorem BF.y {h h' : HP} {p : Int} {P : PS} (m : BF h p P) (f : ∀ b, b = 76 ∨ b = 89 ∨ b = 90 → h' b = h b) (g : ∀ j, j ≠ 15 → j ≠ 16 → h' 75 j = h 75 j) : BF h' p P := by
  refine ⟨m.1.fr (fun j _ _ a b _ _ => g j a b), by rw [g 0 (by decide) (by decide)]; exact m.2.1, fun w w0 w3 => by rw [f 76 (.inl rfl)]; exact m.2.2.1 w w0 w3, by rw [g 19 (by decide) (by decide)]; exact m.2.2.2.1, fun t t0 t1 => ?_⟩
  rw [f 89 (.inr (.inl rfl)), f 90 (.inr (.inr rfl))]
  exact m.2.2.2.2 t t0 t1
section Sea5
variable {l : Launch} {D0 : Nat} {h : HP} {p : Int} {P : PS} {B : BS} {Q : Int → GS → HP → Prop}
theorem rX9_isDoneBy {n : Nat} (hp : okp p) (hW : WF p P) (n4 : n ≤ 4) (hs : sh2 p P ≤ 60) (bf : BF h p P) (hl : ∀ k x : Int, 0 ≤ k → k < 9 → 0 ≤ x → x < 81 → h 92 (81 * k + x) = S81 p P k x)
    (yes : ∀ h' c, CanC p P n c → (∀ c', CanC p P n c' → LE n c c') → (∀ s : Int, 0 ≤ s → s < n → h' 91 s = c s) → FrD 0 h h' → Q 1 G0 h') (no : (∀ c, ¬ CanC p P n c) → ∀ h', FrD 0 h h' → Q 0 G0 h') : R l MX9_isDoneBy (D0 + 4) 0 0 [vR 75, vI n] G0 h Q := by
  have s0 := hW.1 0 (by decide) (by decide)
  have s1 := hW.1 1 (by decide) (by decide)
  have s2 := hW.1 2 (by decide) (by decide)
  have tab := sh_tab p (mem_p hp) (sz P 0) (mem_9 s0.1 s0.2) (sz P 1) (mem_9 s1.1 s1.2) hs
  have bA := sh_b p (mem_p hp) _ (mem_9 s0.1 s0.2)
  have bB := sh_b p (mem_p hp) _ (mem_9 s1.1 s1.2)
  have bAB := ml_b (a := 40353607) (b := 40353607) (show 0 ≤ shs p (sz P 0) by omega) bA.2 (show 0 ≤ shs p (sz P 1) by omega) bB.2
  have hK : 0 ≤ (prs p P).1 ∧ (prs p P).1 ≤ 60 := by
    have hs' : shs p (sz P 0) * shs p (sz P 1) ≤ 60 := hs
    rw [pfU_c, tab.2.1, tab.2.2]
    omega
  have c81 := fun c => CanC_81 (p := p) (P := P) (n := n) (c := c) hp hW tab.1
  have V0 : V81 p 0 (fun _ _ => 0) (fun _ => 0) := fun m m0 m1 => absurd m1 (by omega)
  have L0 : LF p 0 (sz P 2) (S81 p P) (S81 p P) (fun _ _ => 0) (fun _ => 0) := fun k k0 k1 => ⟨fun _ _ _ => S81_D hp, fun m m0 m1 => absurd m1 (by omega), fun _ => 0, fun i i0 i1 => by
    show p ∣ S81 p P k i - S81 p P k i - 0
    rw [Int.sub_self, Int.sub_zero]; exact Int.dvd_zero p⟩
  refine eX9_isDoneBy 75 n (vX9_isDoneBy_0 75 n ⟨t75, ?_⟩)
  refine rX9_rankLeft (lf := S81 p P) bf.1 bf.2.1 hp (bf.2.2.1 2 (by decide) (by decide)) s2 (by decide) (by decide) (fun k x k0 k1 x0 x1 => ⟨by rw [show (729 : Int) * 0 + 81 * k + x = 81 * k + x by omega]; exact hl k x k0 (by have := s2.2; omega) x0 x1, S81_D hp⟩) ?_
  intro ρ h3 rk rn f3
  have fr3 : FrD 0 h h3 := FrD.o88 f3
  have cr := crit (n := n) (T := fun _ _ => 0) hp V0 L0 (fun m m0 m1 => absurd m1 (by omega)) (fun m m0 m1 => absurd m1 (by omega)) rk
  have s29 := s2.2
  refine ⟨⟨by omega, by omega⟩, ⟨by omega, by omega⟩, fun hle => ?_, fun hlt => no (fun c hc => ?_) h3 fr3⟩
  · have b75 : h3 75 = h 75 := f3 75 (by decide)
    simp only [b75, bf.1.ch]
    refine ⟨t75, i91 (by decide) (by decide), fun h10 e10 => ?_⟩
    have fr10 : FrD 0 h h10 := fr3.tr ⟨fun b _ b2 _ _ _ => by rw [e10, hset_oa b2], fun s hs => by rw [e10, hset_oj (by omega), hset_oa (by decide)]; exact ⟨rfl, rfl⟩, fun j _ => by rw [e10, hset_oa (by decide)], fun j _ => by rw [e10, hset_oa (by decide)]⟩
    have ts : TSt h10 p P 0 (fun _ => 0) (fun _ => 0) (fun _ _ => 0) (S81 p P) := ⟨fun s s0 s1 => absurd s1 (by omega), fun s x s0 s1 => absurd s1 (by omega), fun k x k0 k1 x0 x1 => by
      rw [show (729 : Int) * ((0 : Nat) : Int) + 81 * k + x = 81 * k + x by omega, fr10.2.2.2 _ (by omega)]
      exact hl k x k0 (by omega) x0 x1, V0, L0, fun s s0 s1 => absurd s1 (by omega), fun s s0 s1 => absurd s1 (by omega)⟩
    have E0 : ∀ c, Ext p 81 (T81 p P) (S81 p P) (sz P 2) (prs p P).1 n 0 0 (fun _ => 0) c ↔ CanC p P n c := fun c => ⟨fun hE => (c81 c).2 hE.1, fun hc => ⟨(c81 c).1 hc, fun s s0 s1 => absurd s1 (by omega), fun z => (((c81 c).1 hc).2.1 ((0 : Nat) : Int) (by omega) (by omega)).1⟩⟩
    have := srch (l := l) (D0 := D0) (Q := Q) hp hW n4 hK.2 n 0 (by omega) (prs p P).1.toNat h10 0 _ _ _ _ (bf.fr fr10) ts (by decide) (by omega) (fun _ => by
      rw [e10]
      show hset h3 91 0 (-1) 91 0 = 0 - 1
      rw [hset_s]; rfl) (fun s s0 s1 => absurd s1 (by omega)) (fun s s0 s1 => absurd s1 (by omega)) (fun _ _ s s0 s1 => absurd s1 (by omega)) (by
        obtain ⟨w, w1, w2⟩ := cr.2 (by omega)
        exact ⟨w, fun s s0 s1 => absurd s1 (by omega), w2⟩)
      (fun h' c hE mn ch g => yes h' c ((E0 c).1 hE) (fun c' hc' => mn c' ((E0 c').2 hc')) ch (fr10.tr g))
      (fun nE h' g => vX9_isDoneBy_20 75 n (((0 : Nat) : Int) - 1) ⟨⟨by omega, by omega⟩, fun _ => no (fun c hc => nE c ((E0 c).2 hc)) h' (fr10.tr g), fun z => by omega⟩)
    exact this
  · obtain ⟨w, w1, w2⟩ := ((c81 c).1 hc).2.2.2
    have := cr.1 ⟨w, fun s s0 s1 => absurd s1 (by omega), w2⟩
    omega
theorem rX9_findLeast (hp : okp p) (hW : WF p P) (mr : MR h) (h0 : h 75 0 = p) (mb : MB h p P) (mn : MN h p P)
    (h3 : 60 < sh2 p P → Q (-3) G0 h)
    (hk5 : h 75 15 = 1 → sh2 p P ≤ 60 → (∀ m : Nat, m ≤ 4 → ∀ c, ¬ CanC p P m c) → Q (-5) G0 h)
    (hkn : h 75 15 = 1 → sh2 p P ≤ 60 → ∀ (n : Nat) (c : Int → Int), n ≤ 4 → isLst p P n c → Q n G0 h)
    (hn : sh2 p P ≤ 60 → (∀ m : Nat, m ≤ 4 → ∀ c, ¬ CanC p P m c) → ∀ h', FrY h h' → h' 75 15 = 1 → h' 75 16 = 5 → Q (-5) G0 h')
    (hy : sh2 p P ≤ 60 → ∀ (n : Nat) (c : Int → Int) h', n ≤ 4 → isLst p P n c → (∀ s : Int, 0 ≤ s → s < n → h' 91 s = c s) → PM h' (prs p P) → FrY h h' → h' 75 15 = 1 → h' 75 16 = n → Q n G0 h') : R l MX9_findLeast (D0 + 5) 0 0 [vR 75] G0 h Q := by
  have s0 := hW.1 0 (by decide) (by decide)
  have s1 := hW.1 1 (by decide) (by decide)
  have bA := sh_b p (mem_p hp) _ (mem_9 s0.1 s0.2)
  have bB := sh_b p (mem_p hp) _ (mem_9 s1.1 s1.2)
  have bAB := ml_b (a := 40353607) (b := 40353607) (show 0 ≤ shs p (sz P 0) by omega) bA.2 (show 0 ≤ shs p (sz P 1) by omega) bB.2
  refine eX9_findLeast 75 (vX9_findLeast_0 75 ⟨t75, rX9_ones mr h0 hp (mb.1 0 (by decide) (by decide)) ⟨by decide, by decide⟩ s0 ⟨t75, rX9_ones mr h0 hp (mb.1 1 (by decide) (by decide)) ⟨by decide, by decide⟩ s1 ?_⟩⟩)
  have cc := cmpI_c (shs p (sz P 0) * shs p (sz P 1)) 60
  refine ⟨⟨by omega, by omega⟩, ⟨by omega, by omega⟩, fun hle => ?_, fun hlt => h3 (show 60 < shs p (sz P 0) * shs p (sz P 1) by omega)⟩
  have hs : sh2 p P ≤ 60 := by show shs p (sz P 0) * shs p (sz P 1) ≤ 60; omega
  refine ⟨t75, ?_, fun kn => ?_, fun z => ?_⟩
  · rcases mn with z | ⟨z, _⟩ <;> rw [z] <;> decide
  · rcases mn with z | ⟨z, k⟩
    · exact absurd z kn
    · rcases k.2 with ⟨e5, nc⟩ | ⟨m, c, m4, lst, em⟩
      · rw [e5]; exact ⟨by decide, fun z => absurd z (by decide), fun _ => hk5 z hs nc⟩
      · rw [em]; exact ⟨⟨by omega, by omega⟩, fun _ => hkn z hs m c m4 lst, fun z => by omega⟩
  · refine rX9_findPairs mr h0 hp mb hW hs (fun h1 f1 pm1 => ?_)
    have key : ∀ hh, BF hh p P → FrY h hh → hh 75 16 = 0 → (∀ k x : Int, 0 ≤ k → k < 9 → 0 ≤ x → x < 81 → hh 92 (81 * k + x) = S81 p P k x) → S l MX9_findLeast (D0 + 4 + 1, 0, 0, 0, 0) 87 [some (vR 75), none, none] [] G0 hh Q := fun hh bf fy e16 hl => by
      refine lp_up (σ := HP) (fun _ hk => S l MX9_findLeast (D0 + 4 + 1, 0, 0, 0, 0) 87 [some (vR 75), none, none] [] G0 hk Q) (fun k hk => 0 ≤ k ∧ BF hk p P ∧ FrY h hk ∧ hk 75 16 = k ∧ (∀ k x : Int, 0 ≤ k → k < 9 → 0 ≤ x → x < 81 → hk 92 (81 * k + x) = S81 p P k x) ∧ ∀ m : Nat, (m : Int) < k → ∀ c, ¬ CanC p P m c) 5 ?_ ?_ 0 hh (by decide) ⟨by decide, bf, fy, e16, hl, fun m hm => by omega⟩
      · intro k hk k5 ⟨k0, bf, fy, e16, hl, nc⟩ ih
        have kN : ((k.toNat : Nat) : Int) = k := Int.toNat_of_nonneg k0
        refine vX9_findLeast_87 75 ?_
        simp only [e16]
        refine ⟨t75, ⟨by omega, by omega⟩, fun z => by omega, fun _ => ?_⟩
        have := rX9_isDoneBy (l := l) (D0 := D0) (n := k.toNat) (Q := fun r7 G8 h9 => (inR r7) ∧ ((r7 ≠ 0 → (ty G8 75 = 9) ∧ ∀ h13 : HP, h13 = hset h9 75 15 1 → (inR (h13 75 16)) ∧ (((h13 75 16) ≤ 4 → Q (h13 75 16) G8 h13) ∧ (4 < (h13 75 16) → Q ((-5)) G8 h13))) ∧ (r7 = 0 → (ty G8 75 = 9) ∧ ∀ h17 : HP, h17 = hset h9 75 16 ((h9 75 16) + 1) → S l MX9_findLeast (D0 + 4 + 1, 0, 0, 0, 0) 87 [some (vR 75), none, none] [] G8 h17 Q))) hp hW (by omega) hs bf hl ?_ ?_
        · rw [kN] at this; exact this
        · intro h9 c hc mn' ch f9
          refine ⟨by decide, fun _ => ⟨t75, fun h13 e13 => ?_⟩, fun z => absurd z (by decide)⟩
          have a16 : h13 75 16 = k := by rw [e13, hset_oj (by decide), f9.1 75 (by decide) (by decide) (by decide) (by decide) (by decide)]; exact e16
          have bf9 := bf.fr f9
          have bf13 : BF h13 p P := bf9.y (fun b hb => by rw [e13, hset_oa (by omega)]) (fun j j1 _ => by rw [e13, hset_oj j1])
          rw [a16]
          refine ⟨⟨by omega, by omega⟩, fun _ => ?_, fun z => by omega⟩
          have := hy hs k.toNat c h13 (by omega) ⟨hc, mn', fun m hm => nc m (by omega)⟩ (fun s s0 s1 => by rw [e13, hset_oa (by decide)]; exact ch s s0 s1) bf13.2.2.2 ((fy.tr (FrY.ofD f9)).tr ⟨fun b b1 _ => by rw [e13, hset_oa b1], fun j j1 _ _ => by rw [e13, hset_oj j1]⟩) (by rw [e13, hset_s]) (by rw [a16, kN])
          rw [kN] at this
          exact this
        · intro nc9 h9 f9
          refine ⟨by decide, fun z => absurd rfl z, fun _ => ⟨t75, fun h17 e17 => ?_⟩⟩
          have a16 : h9 75 16 = k := by rw [f9.1 75 (by decide) (by decide) (by decide) (by decide) (by decide)]; exact e16
          rw [a16] at e17
          refine ih h17 ⟨by omega, (bf.fr f9).y (fun b hb => by rw [e17, hset_oa (by omega)]) (fun j _ j1 => by rw [e17, hset_oj j1]), (fy.tr (FrY.ofD f9)).tr ⟨fun b b1 _ => by rw [e17, hset_oa b1], fun j _ j1 _ => by rw [e17, hset_oj j1]⟩, by rw [e17, hset_s], fun k' x k0' k1' x0 x1 => by rw [e17, hset_oa (by decide), f9.2.2.2 _ (by omega)]; exact hl k' x k0' k1' x0 x1, fun m hm => ?_⟩
          by_cases em : (m : Int) = k
          · rw [show m = k.toNat by omega]; exact nc9
          · exact nc m (by omega)
      · intro hk ⟨k0, bf, fy, e16, hl, nc⟩
        refine vX9_findLeast_87 75 ?_
        simp only [e16]
        refine ⟨t75, by decide, fun _ h4 e4 => ?_, fun z => absurd z (by decide)⟩
        have a16 : h4 75 16 = 5 := by rw [e4, hset_oj (by decide)]; exact e16
        rw [a16]
        exact ⟨by decide, fun z => absurd z (by decide), fun _ => hn hs (fun m m4 => nc m (by omega)) h4 (fy.tr ⟨fun b b1 _ => by rw [e4, hset_oa b1], fun j j1 _ _ => by rw [e4, hset_oj j1]⟩) (by rw [e4, hset_s]) a16⟩
    -- loading
    have mr1 := f1.mr mr
    have v77 : ∀ k x : Int, 0 ≤ k → k < 9 → 0 ≤ x → x < 81 → h1 77 (9 * x + k) = S81 p P k x := fun k x k0 k9 x0 x1 => by
      rw [f1.1 77 (by decide) (by decide) (by decide), mb.2 _ (by omega) (by omega)]
      show D p (fb P ((9 * x + k) / 9)) ((9 * x + k) % 9) = D p (fb P x) k
      rw [show (9 * x + k) / 9 = x by omega, show (9 * x + k) % 9 = k by omega]
    have bf1 : BF h1 p P := ⟨mr1, by rw [f1.2 0 (by decide)]; exact h0, fun w w0 w3 => by rw [f1.1 76 (by decide) (by decide) (by decide)]; exact mb.1 w w0 w3, pm1⟩
    refine lp_up (σ := HP) (fun k hk => S l MX9_findLeast (D0 + 4 + 1, 0, 0, 0, 0) 34 [some (vR 75), some (vI k), none] [] G0 hk Q) (fun k hk => 0 ≤ k ∧ (∀ b, b ≠ 92 → hk b = h1 b) ∧ ∀ k' x : Int, 0 ≤ k' → k' < k → 0 ≤ x → x < 81 → hk 92 (81 * k' + x) = S81 p P k' x) 9 ?_ ?_ 0 h1 (by decide) ⟨by decide, fun _ _ => rfl, fun k' x a b => by omega⟩
    · intro k hk k9 ⟨k0, g, dn⟩ ih
      refine vX9_findLeast_34 75 k ⟨⟨by omega, by omega⟩, fun z => by omega, fun _ => ?_⟩
      refine lp_up (σ := HP) (fun x hk2 => S l MX9_findLeast (D0 + 4 + 1, 0, 0, 0, 0) 42 [some (vR 75), some (vI k), some (vI x)] [] G0 hk2 Q) (fun x hk2 => 0 ≤ x ∧ (∀ b, b ≠ 92 → hk2 b = h1 b) ∧ (∀ k' x : Int, 0 ≤ k' → k' < k → 0 ≤ x → x < 81 → hk2 92 (81 * k' + x) = S81 p P k' x) ∧ ∀ x' : Int, 0 ≤ x' → x' < x → hk2 92 (81 * k + x') = S81 p P k x') 81 ?_ ?_ 0 hk (by decide) ⟨by decide, g, dn, fun x' a b => by omega⟩
      · intro x hk2 hx ⟨x0, g2, dn2, dr⟩ ih2
        have a75 := g2 75 (by decide)
        have a77 := g2 77 (by decide)
        refine vX9_findLeast_42 75 k x ?_
        simp only [a75, mr1.bx, mr1.le, a77, v77 k x k0 k9 x0 hx]
        refine ⟨⟨by omega, by omega⟩, fun z => by omega, fun _ => ⟨t75, i77 (by omega) (by omega), i92 (by omega) (by omega), fun h6 e6 => ih2 h6 ⟨by omega, fun b hb => by rw [e6, hset_oa hb]; exact g2 b hb, fun k' y k0' k1' y0 y1 => by rw [e6, hset_oj (by omega)]; exact dn2 k' y k0' k1' y0 y1, fun y y0 y1 => ?_⟩⟩⟩
        by_cases e : y = x
        · rw [e, e6, hset_s]
        · rw [e6, hset_oj (by omega)]; exact dr y y0 (by omega)
      · intro hk2 ⟨x0, g2, dn2, dr⟩
        refine vX9_findLeast_42 75 k 81 ⟨⟨by decide, by decide⟩, fun _ => ih hk2 ⟨by omega, g2, fun k' y k0' k1' y0 y1 => ?_⟩, fun z => by omega⟩
        by_cases e : k' = k
        · rw [e]; exact dr y y0 y1
        · exact dn2 k' y k0' (by omega) y0 y1
    · intro hk ⟨k0, g, dn⟩
      refine vX9_findLeast_34 75 9 ⟨⟨by decide, by decide⟩, fun _ => ⟨t75, fun h4 e4 => ?_⟩, fun z => by omega⟩
      refine key h4 (bf1.y (fun b hb => by rw [e4, hset_oa (by omega)]; exact g b (by omega)) (fun j _ j1 => by rw [e4, hset_oj j1, g 75 (by decide)])) ((FrY.ofN f1).tr ⟨fun b b1 b2 => by rw [e4, hset_oa b1]; exact g b (by omega), fun j _ j1 _ => by rw [e4, hset_oj j1, g 75 (by decide)]⟩) (by rw [e4, hset_s]) (fun k x k0 k1 x0 x1 => by rw [e4, hset_oa (by decide)]; exact dn k x k0 k1 x0 x1)
theorem lst_un {n m : Nat} {c c' : Int → Int} (h1 : isLst p P n c) (h2 : isLst p P m c') : n = m := by
  rcases Nat.lt_trichotomy n m with z | z | z
  · exact absurd h1.1 (h2.2.2 n z c)
  · exact z
  · exact absurd h2.1 (h1.2.2 m z c')
theorem MX.y {h' : HP} (m : MX h B) (f : FrY h h') (k : h' 75 15 = 1) (kn : knw (bp B) (bP B) (h' 75 16)) : MX h' B :=
  ⟨m.1.fr (fun j _ _ a b c _ => f.2 j a b c), by rw [f.2 0 (by decide) (by decide) (by decide)]; exact m.2.1, m.2.2.1.fr (f.1 76 (by decide) (by decide)) (f.1 77 (by decide) (by decide)), m.2.2.2.1.fr (f.2 4 (by decide) (by decide) (by decide)) (f.1 78 (by decide) (by decide)), m.2.2.2.2.1.fr (f.1 79 (by decide) (by decide)), m.2.2.2.2.2.1.fr (fun b b0 b1 => f.1 b (by omega) (by omega)), .inr ⟨k, kn⟩⟩
theorem FM.y {h' : HP} (f : FrY h h') : FM h h' := fun b hb => f.1 b (by omega) (by omega)
theorem rX9_least {r : Int} {B' : BS} (bw : BW B) (hm : MX h B) (hA : A_le B r B') (hQ : ∀ h', MX h' B' → FM h h' → Q r G0 h') : R l MX9_least (D0 + 6) 0 0 [vR 75] G0 h Q := by
  obtain ⟨eB, hA⟩ := hA
  subst eB
  refine eX9_least 75 (vX9_least_0 75 ⟨t75, ?_⟩)
  refine rX9_findLeast (P := bP B') bw.1 bw.2.1 hm.1 hm.2.1 hm.2.2.1 hm.2.2.2.2.2.2 ?_ ?_ ?_ ?_ ?_
  · intro hz
    rcases hA with ⟨_, e⟩ | ⟨z, _⟩ | ⟨z, _⟩
    · rw [← e]; exact hQ h hm FM.rf
    · omega
    · omega
  · intro k hs nc
    rcases hA with ⟨z, e⟩ | ⟨_, _, e⟩ | ⟨_, n, c, n4, ls, e⟩
    · omega
    · rw [← e]; exact hQ h hm FM.rf
    · exact absurd ls.1 (nc n n4 c)
  · intro k hs n c n4 ls
    rcases hA with ⟨z, e⟩ | ⟨_, nc, e⟩ | ⟨_, n', c', n4', ls', e⟩
    · omega
    · exact absurd ls.1 (nc n n4 c)
    · rw [lst_un ls ls', ← e]; exact hQ h hm FM.rf
  · intro hs nc h' f k k5
    rcases hA with ⟨z, e⟩ | ⟨_, _, e⟩ | ⟨_, n, c, n4, ls, e⟩
    · omega
    · rw [← e]; exact hQ h' (hm.y f k ⟨hs, .inl ⟨k5, nc⟩⟩) (FM.y f)
    · exact absurd ls.1 (nc n n4 c)
  · intro hs n c h' n4 ls _ _ f k kn
    rcases hA with ⟨z, e⟩ | ⟨_, nc, e⟩ | ⟨_, n', c', n4', ls', e⟩
    · omega
    · exact absurd ls.1 (nc n n4 c)
    · have en := lst_un ls ls'
      have := hQ h' (hm.y f k ⟨hs, .inr ⟨n, c, n4, ls, kn⟩⟩) (FM.y f)
      rw [e, ← en] at this
      exact this
end Sea5
