theorem T81_D {p t c : Int} {P : PS} (hp : okp p) : isD p (T81 p P t c) := md_D hp
theorem S81_D {p t c : Int} {P : PS} (hp : okp p) : isD p (S81 p P t c) := D_D hp
/-- what the search reads and never writes -/
def BF (h : HP) (p : Int) (P : PS) : Prop := MR h ∧ h 75 0 = p ∧ (∀ w, 0 ≤ w → w < 3 → h 76 w = sz P w) ∧ PM h (prs p P)
/-- the search's level d in the cells -/
def TSt (h : HP) (p : Int) (P : PS) (d : Nat) (c q : Int → Int) (e lf : Int → Int → Int) : Prop := (∀ s : Int, 0 ≤ s → s < d → h 91 s = c s ∧ h 94 s = q s) ∧ (∀ s x : Int, 0 ≤ s → s < d → 0 ≤ x → x < 81 → h 93 (81 * s + x) = e s x) ∧ (∀ k x : Int, 0 ≤ k → k < sz P 2 → 0 ≤ x → x < 81 → h 92 (729 * d + 81 * k + x) = lf k x) ∧ V81 p d e q ∧ LF p d (sz P 2) (S81 p P) lf e q ∧ (∀ s : Int, 0 ≤ s → s < d → Sp p 81 d e (T81 p P (c s))) ∧ ∀ s : Int, 0 ≤ s → s < d → Sp p 81 d (fun s => T81 p P (c s)) (e s)
def FrD (d : Nat) (h h' : HP) : Prop := (∀ b, b ≠ 88 → b ≠ 91 → b ≠ 92 → b ≠ 93 → b ≠ 94 → h' b = h b) ∧ (∀ s : Int, s < d → h' 91 s = h 91 s ∧ h' 94 s = h 94 s) ∧ (∀ j : Int, j < 81 * d → h' 93 j = h 93 j) ∧ ∀ j : Int, j < 729 * ((d : Int) + 1) → h' 92 j = h 92 j
theorem FrD.rf {d : Nat} {h : HP} : FrD d h h := ⟨fun _ _ _ _ _ _ => rfl, fun _ _ => ⟨rfl, rfl⟩, fun _ _ => rfl, fun _ _ => rfl⟩
theorem FrD.tr {d : Nat} {h h1 h2 : HP} (f : FrD d h h1) (g : FrD d h1 h2) : FrD d h h2 := ⟨fun b b1 b2 b3 b4 b5 => (g.1 b b1 b2 b3 b4 b5).trans (f.1 b b1 b2 b3 b4 b5), fun s hs => ⟨(g.2.1 s hs).1.trans (f.2.1 s hs).1, (g.2.1 s hs).2.trans (f.2.1 s hs).2⟩, fun j hj => (g.2.2.1 j hj).trans (f.2.2.1 j hj), fun j hj => (g.2.2.2 j hj).trans (f.2.2.2 j hj)⟩
theorem FrD.le {d d' : Nat} {h h' : HP} (f : FrD d' h h') (hd : d ≤ d') : FrD d h h' := ⟨f.1, fun s hs => f.2.1 s (by omega), fun j hj => f.2.2.1 j (by omega), fun j hj => f.2.2.2 j (by omega)⟩
theorem FrD.o88 {d : Nat} {h h' : HP} (f : ∀ b, b ≠ 88 → h' b = h b) : FrD d h h' := ⟨fun b b1 _ _ _ _ => f b b1, fun s _ => by rw [f 91 (by decide), f 94 (by decide)]; exact ⟨rfl, rfl⟩, fun j _ => by rw [f 93 (by decide)], fun j _ => by rw [f 92 (by decide)]⟩
theorem BF.fr {d : Nat} {h h' : HP} {p : Int} {P : PS} (m : BF h p P) (f : FrD d h h') : BF h' p P := by
  have e75 := f.1 75 (by decide) (by decide) (by decide) (by decide) (by decide)
  refine ⟨m.1.fr (fun j _ _ _ _ _ _ => by rw [e75]), by rw [e75]; exact m.2.1, fun w w0 w3 => by rw [f.1 76 (by decide) (by decide) (by decide) (by decide) (by decide)]; exact m.2.2.1 w w0 w3, by rw [e75]; exact m.2.2.2.1, fun t t0 t1 => ?_⟩
  rw [f.1 89 (by decide) (by decide) (by decide) (by decide) (by decide), f.1 90 (by decide) (by decide) (by decide) (by decide) (by decide)]
  exact m.2.2.2.2 t t0 t1
theorem TSt.fr {d : Nat} {h h' : HP} {p : Int} {P : PS} {c q : Int → Int} {e lf : Int → Int → Int} (m : TSt h p P d c q e lf) (f : FrD d h h') (h9 : sz P 2 ≤ 9) : TSt h' p P d c q e lf := by
  obtain ⟨m1, m2, m3, m4⟩ := m
  refine ⟨fun s s0 s1 => by rw [(f.2.1 s s1).1, (f.2.1 s s1).2]; exact m1 s s0 s1, fun s x s0 s1 x0 x1 => by rw [f.2.2.1 _ (by omega)]; exact m2 s x s0 s1 x0 x1, fun k x k0 k1 x0 x1 => by rw [f.2.2.2 _ (by omega)]; exact m3 k x k0 k1 x0 x1, m4⟩
section Sea3
variable {l : Launch} {D0 : Nat} {h : HP} {p : Int} {P : PS} {B : BS} {Q : Int → GS → HP → Prop}
set_option maxHeartbeats 2000000 in
theorem rX9_lay {d : Nat} {c q : Int → Int} {e lf : Int → Int → Int} {x : Int} (hp : okp p) (hW : WF p P) (bf : BF h p P) (ts : TSt h p P d c q e lf) (d4 : d < 4) (hx : h 91 d = x) (x0 : 0 ≤ x) (xK : x < (prs p P).1) (K60 : (prs p P).1 ≤ 60)
    (h0 : (∀ i : Int, 0 ≤ i → i < 81 → rd81 p e q (T81 p P x) d i = 0) → ∀ h', FrD d h h' → h' 91 = h 91 → Q 0 G0 h')
    (h1 : ∀ col h', 0 ≤ col → col < 81 → rd81 p e q (T81 p P x) d col ≠ 0 → FrD d h h' → h' 91 = h 91 → h' 94 d = col → (∀ i : Int, 0 ≤ i → i < 81 → h' 93 (81 * d + i) = nv p e q (T81 p P x) d col i) → (∀ k i : Int, 0 ≤ k → k < sz P 2 → 0 ≤ i → i < 81 → h' 92 (729 * ((d : Int) + 1) + 81 * k + i) = nl p lf (nv p e q (T81 p P x) d col) col k i) → Q 1 G0 h') : R l MX9_lay (D0 + 1) 0 0 [vR 75, vI d] G0 h Q := by
  have pb := okp_b hp
  obtain ⟨mr, g0, gs, pm⟩ := bf
  obtain ⟨m1, m2, m3, mV, mL, m5, m6⟩ := ts
  have s0 := hW.1 0 (by decide) (by decide)
  have s1 := hW.1 1 (by decide) (by decide)
  have s2 := hW.1 2 (by decide) (by decide)
  have ub := prs_b (P := P) hp x x0 xK
  have uR := lt_R hp ub.1.1 ub.1.2 s0.2
  have vR' := lt_R hp ub.2.1 ub.2.2 s1.2
  have tD : ∀ c : Int, 0 ≤ c → c < 81 → isD p (T81 p P x c) := fun _ _ _ => T81_D hp
  have rD := rd_D (e := e) (q := q) hp tD
  refine eX9_lay 75 d (vX9_lay_0 75 d ?_)
  -- the end: rows of left
  have key4 : ∀ col hh, 0 ≤ col → col < 81 → rd81 p e q (T81 p P x) d col ≠ 0 → FrD d h hh → hh 91 = h 91 → hh 94 d = col → (∀ i : Int, 0 ≤ i → i < 81 → hh 93 (81 * d + i) = nv p e q (T81 p P x) d col i) → S l MX9_lay (D0 + 1, 0, 0, 0, 0) 268 [some (vR 75), some (vI d), some (vI (81 * d)), some (vI col), none, some (vI 0), none, none, none] [] G0 hh Q := fun col hh c0 c1 nz f e91 e94 rw93 => by
    refine lp_up (σ := HP) (fun k hk => S l MX9_lay (D0 + 1, 0, 0, 0, 0) 268 [some (vR 75), some (vI d), some (vI (81 * d)), some (vI col), none, some (vI k), none, none, none] [] G0 hk Q) (fun k hk => 0 ≤ k ∧ (∀ b, b ≠ 92 → hk b = hh b) ∧ (∀ j : Int, j < 729 * ((d : Int) + 1) → hk 92 j = h 92 j) ∧ ∀ k' i : Int, 0 ≤ k' → k' < k → 0 ≤ i → i < 81 → hk 92 (729 * ((d : Int) + 1) + 81 * k' + i) = nl p lf (nv p e q (T81 p P x) d col) col k' i) (sz P 2) ?_ ?_ 0 hh (by omega) ⟨by decide, fun _ _ => rfl, fun j hj => f.2.2.2 j hj, fun k' i k0 k1 => by omega⟩
    · intro k hk hk1 ⟨k0, g, lo, dn⟩ ih
      have e75 : hk 75 = h 75 := (g 75 (by decide)).trans (f.1 75 (by decide) (by decide) (by decide) (by decide) (by decide))
      have e76 : hk 76 = h 76 := (g 76 (by decide)).trans (f.1 76 (by decide) (by decide) (by decide) (by decide) (by decide))
      have lk := mL k k0 hk1
      have vcol : hk 92 (729 * d + 81 * k + col) = lf k col := by rw [lo _ (by omega)]; exact m3 k col k0 hk1 c0 c1
      have dcol := lk.1 col c0 c1
      have bD := md_D (x := p - lf k col) hp
      refine vX9_lay_268 75 d (81 * d) col k ?_
      simp only [e75, mr.sz, e76, gs 2 (by decide) (by decide), mr.le, g0, vcol]
      refine ⟨t75, i76 (by decide) (by decide), ⟨by omega, by omega⟩, ⟨by omega, by omega⟩, fun z => by omega, fun _ => ⟨i92 (by omega) (by omega), ⟨⟨by omega, by omega⟩, by omega, by omega⟩, ?_⟩⟩
      refine lp_up (σ := HP) (fun i hk2 => S l MX9_lay (D0 + 1, 0, 0, 0, 0) 316 [some (vR 75), some (vI d), some (vI (81 * d)), some (vI col), none, some (vI k), some (vI (729 * d + 81 * k)), some (vI ((p - lf k col) % p)), some (vI i)] [] G0 hk2 Q) (fun i hk2 => 0 ≤ i ∧ (∀ b, b ≠ 92 → hk2 b = hh b) ∧ (∀ j : Int, j < 729 * ((d : Int) + 1) → hk2 92 j = h 92 j) ∧ (∀ k' i : Int, 0 ≤ k' → k' < k → 0 ≤ i → i < 81 → hk2 92 (729 * ((d : Int) + 1) + 81 * k' + i) = nl p lf (nv p e q (T81 p P x) d col) col k' i) ∧ ∀ i' : Int, 0 ≤ i' → i' < i → hk2 92 (729 * ((d : Int) + 1) + 81 * k + i') = nl p lf (nv p e q (T81 p P x) d col) col k i') 81 ?_ ?_ 0 hk (by decide) ⟨by decide, g, lo, dn, fun i' i0 i1 => by omega⟩
      · intro i hk2 hi ⟨i0, g2, lo2, dn2, dr⟩ ih2
        have a75 : hk2 75 = h 75 := (g2 75 (by decide)).trans (f.1 75 (by decide) (by decide) (by decide) (by decide) (by decide))
        have w1 : hk2 92 (729 * d + 81 * k + i) = lf k i := by rw [lo2 _ (by omega)]; exact m3 k i k0 hk1 i0 hi
        have w2 : hk2 93 (81 * d + i) = nv p e q (T81 p P x) d col i := by rw [g2 93 (by decide)]; exact rw93 i i0 hi
        have d1 := lk.1 i i0 hi
        have d2 : isD p (nv p e q (T81 p P x) d col i) := md_D hp
        have m := ml_b bD.1 (show (p - lf k col) % p ≤ 7 by omega) d2.1 (show nv p e q (T81 p P x) d col i ≤ 7 by omega)
        refine vX9_lay_316 75 d (81 * d) col k (729 * d + 81 * k) _ i ?_
        simp only [a75, mr.le, mr.tb, g0, w1, w2]
        refine ⟨⟨by omega, by omega⟩, fun z => by omega, fun _ => ⟨t75, i92 (by omega) (by omega), i93 (by omega) (by omega), ⟨⟨by omega, by omega⟩, by omega, by omega⟩, i92 (by omega) (by omega), fun h8 e8 => ih2 h8 ⟨by omega, fun b hb => by rw [e8, hset_oa hb]; exact g2 b hb, fun j hj => by rw [e8, hset_oj (by omega)]; exact lo2 j hj, fun k' i' k0' k1' i0' i1' => by rw [e8, hset_oj (by omega)]; exact dn2 k' i' k0' k1' i0' i1', fun i' i0' i1' => ?_⟩⟩⟩
        by_cases ei : i' = i
        · rw [ei, e8, show 729 * ((d : Int) + 1) + 81 * k + i = 729 * d + 81 * k + 729 + i by omega, hset_s]; rfl
        · rw [e8, hset_oj (by omega)]; exact dr i' i0' (by omega)
      · intro hk2 ⟨i0, g2, lo2, dn2, dr⟩
        refine vX9_lay_316 75 d (81 * d) col k _ _ 81 ⟨⟨by decide, by decide⟩, fun _ => ih hk2 ⟨by omega, g2, lo2, fun k' i k0' k1' i0' i1' => ?_⟩, fun z => by omega⟩
        by_cases ek : k' = k
        · rw [ek]; exact dr i i0' i1'
        · exact dn2 k' i k0' (by omega) i0' i1'
    · intro hk ⟨k0, g, lo, dn⟩
      have e75 : hk 75 = h 75 := (g 75 (by decide)).trans (f.1 75 (by decide) (by decide) (by decide) (by decide) (by decide))
      have e76 : hk 76 = h 76 := (g 76 (by decide)).trans (f.1 76 (by decide) (by decide) (by decide) (by decide) (by decide))
      refine vX9_lay_268 75 d (81 * d) col _ ?_
      simp only [e75, mr.sz, e76, gs 2 (by decide) (by decide)]
      refine ⟨t75, i76 (by decide) (by decide), ⟨by omega, by omega⟩, ⟨by omega, by omega⟩, fun _ => h1 col hk c0 c1 nz ⟨fun b b1 b2 b3 b4 b5 => by rw [g b b3]; exact f.1 b b1 b2 b3 b4 b5, fun s hs => by rw [g 91 (by decide), g 94 (by decide)]; exact f.2.1 s hs, fun j hj => by rw [g 93 (by decide)]; exact f.2.2.1 j hj, lo⟩ (by rw [g 91 (by decide), e91]) (by rw [g 94 (by decide)]; exact e94) (fun i i0 i1 => by rw [g 93 (by decide)]; exact rw93 i i0 i1) dn, fun z => by omega⟩
  -- the column
  have key3 : ∀ hh, FrD d h hh → hh 91 = h 91 → (∀ i : Int, 0 ≤ i → i < 81 → hh 93 (81 * d + i) = rd81 p e q (T81 p P x) d i) → S l MX9_lay (D0 + 1, 0, 0, 0, 0) 171 [some (vR 75), some (vI d), some (vI (81 * d)), some (vI 0), none, none, none, none, none] [] G0 hh Q := fun hh f e91 rw93 => by
    have e75 : hh 75 = h 75 := f.1 75 (by decide) (by decide) (by decide) (by decide) (by decide)
    refine lp_up (σ := Unit) (fun i _ => S l MX9_lay (D0 + 1, 0, 0, 0, 0) 171 [some (vR 75), some (vI d), some (vI (81 * d)), some (vI i), none, none, none, none, none] [] G0 hh Q) (fun i _ => 0 ≤ i ∧ ∀ j : Int, 0 ≤ j → j < i → rd81 p e q (T81 p P x) d j = 0) 81 ?_ ?_ 0 () (by decide) ⟨by decide, fun j j0 j1 => by omega⟩
    · intro i _ hi ⟨i0, hz⟩ ih
      have v := rw93 i i0 hi
      have di := rD d i i0 hi
      refine vX9_lay_171 75 d (81 * d) i ?_
      simp only [e75, mr.tb, mr.co, v]
      refine ⟨⟨by omega, by omega⟩, fun z => by omega, fun _ => ⟨t75, i93 (by omega) (by omega), ⟨by omega, by omega⟩, fun nz => ⟨fun _ => ⟨i94 (by omega) (by omega), fun h17 e17 => ?_⟩, fun z => by omega⟩, fun z => ih () ⟨by omega, fun j j0 j1 => ?_⟩⟩⟩
      · have a75 : h17 75 = h 75 := by rw [e17, hset_oa (by decide), e75]
        have v17 : h17 93 (81 * d + i) = rd81 p e q (T81 p P x) d i := by rw [e17, hset_oa (by decide)]; exact v
        simp only [a75, mr.tb, v17]
        refine ⟨i93 (by omega) (by omega), rX9_inverse (by rw [a75]; exact g0) hp ⟨by omega, di.2⟩ ?_⟩
        have io := iv_ok hp (show 1 ≤ rd81 p e q (T81 p P x) d i by omega) di.2
        refine lp_up (σ := HP) (fun j hk => S l MX9_lay (D0 + 1, 0, 0, 0, 0) 226 [some (vR 75), some (vI d), some (vI (81 * d)), some (vI i), some (vI (iv p (rd81 p e q (T81 p P x) d i))), some (vI j), none, none, none] [] G0 hk Q) (fun j hk => 0 ≤ j ∧ (∀ b, b ≠ 93 → hk b = h17 b) ∧ (∀ y : Int, y < 81 * d → hk 93 y = h 93 y) ∧ ∀ y : Int, 0 ≤ y → y < 81 → hk 93 (81 * d + y) = if y < j then nv p e q (T81 p P x) d i y else rd81 p e q (T81 p P x) d y) 81 ?_ ?_ 0 h17 (by decide) ⟨by decide, fun _ _ => rfl, fun y hy => by rw [e17, hset_oa (by decide)]; exact f.2.2.1 y hy, fun y y0 y1 => by rw [if_neg (by omega), e17, hset_oa (by decide)]; exact rw93 y y0 y1⟩
        · intro j hk hj ⟨j0, g, lo, dn⟩ ih2
          have b75 : hk 75 = h 75 := (g 75 (by decide)).trans a75
          have vj := dn j j0 hj
          rw [if_neg (by omega)] at vj
          refine vX9_lay_226 75 d (81 * d) i _ j ?_
          simp only [b75, mr.tb, g0, vj]
          refine ⟨⟨by omega, by omega⟩, fun z => by omega, fun _ => ⟨t75, i93 (by omega) (by omega), ml_dv hp (rD d j j0 hj) ⟨by omega, io.2.1⟩, fun h6 e6 => ih2 h6 ⟨by omega, fun b hb => by rw [e6, hset_oa hb]; exact g b hb, fun y hy => by rw [e6, hset_oj (by omega)]; exact lo y hy, fun y y0 y1 => ?_⟩⟩⟩
          by_cases ey : y = j
          · rw [ey, if_pos (by omega), e6, hset_s]; rfl
          · rw [e6, hset_oj (by omega), dn y y0 y1]
            by_cases c2 : y < j
            · rw [if_pos c2, if_pos (by omega)]
            · rw [if_neg c2, if_neg (by omega)]
        · intro hk ⟨j0, g, lo, dn⟩
          refine vX9_lay_226 75 d (81 * d) i _ 81 ⟨⟨by decide, by decide⟩, fun _ => key4 i hk i0 hi nz ⟨fun b b1 b2 b3 b4 b5 => by rw [g b b4, e17, hset_oa b5]; exact f.1 b b1 b2 b3 b4 b5, fun s hs => ?_, lo, fun y hy => by rw [g 92 (by decide), e17, hset_oa (by decide)]; exact f.2.2.2 y hy⟩ (by rw [g 91 (by decide), e17, hset_oa (by decide), e91]) (by rw [g 94 (by decide), e17, hset_s]) (fun y y0 y1 => by rw [dn y y0 y1, if_pos y1]), fun z => by omega⟩
          rw [g 91 (by decide), g 94 (by decide), e17, hset_oa (by decide), hset_oj (by omega)]
          exact f.2.1 s hs
      · by_cases ej : j = i
        · rw [ej]; exact z
        · exact hz j j0 (by omega)
    · intro _ ⟨i0, hz⟩
      exact vX9_lay_171 75 d (81 * d) 81 ⟨⟨by decide, by decide⟩, fun _ => ⟨fun z => absurd rfl z, fun _ => h0 hz hh f e91⟩, fun z => by omega⟩
  -- reducing
  have key2 : ∀ hh, FrD d h hh → hh 91 = h 91 → (∀ i : Int, 0 ≤ i → i < 81 → hh 93 (81 * d + i) = T81 p P x i) → S l MX9_lay (D0 + 1, 0, 0, 0, 0) 73 [some (vR 75), some (vI d), some (vI (81 * d)), some (vI 0), none, none, none, none, none] [] G0 hh Q := fun hh f e91 rw93 => by
    refine lp_up (σ := HP) (fun m hk => S l MX9_lay (D0 + 1, 0, 0, 0, 0) 73 [some (vR 75), some (vI d), some (vI (81 * d)), some (vI m), none, none, none, none, none] [] G0 hk Q) (fun m hk => 0 ≤ m ∧ (∀ b, b ≠ 93 → hk b = hh b) ∧ (∀ y : Int, y < 81 * d → hk 93 y = h 93 y) ∧ ∀ i : Int, 0 ≤ i → i < 81 → hk 93 (81 * d + i) = rd81 p e q (T81 p P x) m.toNat i) d ?_ ?_ 0 hh (by omega) ⟨by decide, fun _ _ => rfl, fun y hy => f.2.2.1 y hy, rw93⟩
    · intro m hk hm ⟨m0, g, lo, dn⟩ ih
      have mN : ((m.toNat : Nat) : Int) = m := Int.toNat_of_nonneg m0
      have e75 : hk 75 = h 75 := (g 75 (by decide)).trans (f.1 75 (by decide) (by decide) (by decide) (by decide) (by decide))
      have vq : hk 94 m = q m := by rw [g 94 (by decide), (f.2.1 m hm).2]; exact (m1 m m0 hm).2
      obtain ⟨qb, _, _, eD⟩ := mV m m0 hm
      have vr := dn (q m) qb.1 qb.2
      have dr := rD m.toNat (q m) qb.1 qb.2
      have bD := md_D (x := p - rd81 p e q (T81 p P x) m.toNat (q m)) hp
      have st : ∀ i, rd81 p e q (T81 p P x) (m + 1).toNat i = (rd81 p e q (T81 p P x) m.toNat i + (p - rd81 p e q (T81 p P x) m.toNat (q m)) % p * e m i) % p := fun i => by
        rw [nat_s m0]
        show (rd81 p e q (T81 p P x) m.toNat i + (p - rd81 p e q (T81 p P x) m.toNat (q (m.toNat : Int))) % p * e (m.toNat : Int) i) % p = _
        rw [mN]
      refine vX9_lay_73 75 d (81 * d) m ?_
      simp only [e75, mr.co, vq, mr.tb, vr, g0]
      refine ⟨⟨by omega, by omega⟩, ⟨by omega, by omega⟩, fun z => by omega, fun _ => ⟨t75, i94 (by omega) (by omega), i93 (by omega) (by omega), ⟨⟨by omega, by omega⟩, by omega, by omega⟩, ?_⟩⟩
      by_cases bz : (p - rd81 p e q (T81 p P x) m.toNat (q m)) % p = 0
      · refine vX9_lay_106 75 d (81 * d) m _ 0 ⟨⟨by decide, by decide⟩, fun z => by omega, fun _ => ⟨⟨by omega, by omega⟩, fun _ => ih hk ⟨by omega, g, lo, fun i i0 i1 => ?_⟩, fun z => by omega⟩⟩
        rw [st, bz, Int.zero_mul, Int.add_zero, Int.emod_eq_of_lt (rD m.toNat i i0 i1).1 (rD m.toNat i i0 i1).2]
        exact dn i i0 i1
      · refine lp_up (σ := HP) (fun i hk2 => S l MX9_lay (D0 + 1, 0, 0, 0, 0) 106 [some (vR 75), some (vI d), some (vI (81 * d)), some (vI m), some (vI ((p - rd81 p e q (T81 p P x) m.toNat (q m)) % p)), some (vI i), none, none, none] [] G0 hk2 Q) (fun i hk2 => 0 ≤ i ∧ (∀ b, b ≠ 93 → hk2 b = hh b) ∧ (∀ y : Int, y < 81 * d → hk2 93 y = h 93 y) ∧ ∀ y : Int, 0 ≤ y → y < 81 → hk2 93 (81 * d + y) = if y < i then rd81 p e q (T81 p P x) (m + 1).toNat y else rd81 p e q (T81 p P x) m.toNat y) 81 ?_ ?_ 0 hk (by decide) ⟨by decide, g, lo, fun y y0 y1 => by rw [if_neg (by omega)]; exact dn y y0 y1⟩
        · intro i hk2 hi ⟨i0, g2, lo2, dn2⟩ ih2
          have a75 : hk2 75 = h 75 := (g2 75 (by decide)).trans (f.1 75 (by decide) (by decide) (by decide) (by decide) (by decide))
          have w1 := dn2 i i0 hi
          rw [if_neg (by omega)] at w1
          have w2 : hk2 93 (81 * m + i) = e m i := by rw [lo2 _ (by omega)]; exact m2 m i m0 hm i0 hi
          have d1 := rD m.toNat i i0 hi
          have d2 := eD i i0 hi
          have mm := ml_b bD.1 (show (p - rd81 p e q (T81 p P x) m.toNat (q m)) % p ≤ 7 by omega) d2.1 (show e m i ≤ 7 by omega)
          refine vX9_lay_106 75 d (81 * d) m _ i ?_
          simp only [a75, mr.tb, g0, w1, w2]
          refine ⟨⟨by omega, by omega⟩, fun z => by omega, fun _ => ⟨⟨by omega, by omega⟩, fun z => by omega, fun _ => ⟨t75, i93 (by omega) (by omega), i93 (by omega) (by omega), ⟨⟨by omega, by omega⟩, by omega, by omega⟩, fun h9 e9 => ih2 h9 ⟨by omega, fun b hb => by rw [e9, hset_oa hb]; exact g2 b hb, fun y hy => by rw [e9, hset_oj (by omega)]; exact lo2 y hy, fun y y0 y1 => ?_⟩⟩⟩⟩
          by_cases ey : y = i
          · rw [ey, if_pos (by omega), e9, hset_s, st]
          · rw [e9, hset_oj (by omega), dn2 y y0 y1]
            by_cases c2 : y < i
            · rw [if_pos c2, if_pos (by omega)]
            · rw [if_neg c2, if_neg (by omega)]
        · intro hk2 ⟨i0, g2, lo2, dn2⟩
          exact vX9_lay_106 75 d (81 * d) m _ 81 ⟨⟨by decide, by decide⟩, fun _ => ih hk2 ⟨by omega, g2, lo2, fun y y0 y1 => by rw [dn2 y y0 y1, if_pos y1]⟩, fun z => by omega⟩
    · intro hk ⟨m0, g, lo, dn⟩
      rw [Int.toNat_natCast] at dn
      exact vX9_lay_73 75 d (81 * d) d ⟨⟨by omega, by omega⟩, ⟨by omega, by omega⟩, fun _ => key3 hk ⟨fun b b1 b2 b3 b4 b5 => by rw [g b b4]; exact f.1 b b1 b2 b3 b4 b5, fun s hs => by rw [g 91 (by decide), g 94 (by decide)]; exact f.2.1 s hs, lo, fun y hy => by rw [g 92 (by decide)]; exact f.2.2.2 y hy⟩ (by rw [g 91 (by decide), e91]) dn, fun z => by omega⟩
  -- the table
  refine lp_up (σ := HP) (fun i hk => S l MX9_lay (D0 + 1, 0, 0, 0, 0) 7 [some (vR 75), some (vI d), some (vI (81 * d)), some (vI i), none, none, none, none, none] [] G0 hk Q) (fun i hk => 0 ≤ i ∧ (∀ b, b ≠ 93 → hk b = h b) ∧ (∀ y : Int, y < 81 * d → hk 93 y = h 93 y) ∧ ∀ y : Int, 0 ≤ y → y < i → hk 93 (81 * d + y) = T81 p P x y) 81 ?_ ?_ 0 h (by decide) ⟨by decide, fun _ _ => rfl, fun _ _ => rfl, fun y y0 y1 => by omega⟩
  · intro i hk hi ⟨i0, g, lo, dn⟩ ih
    have e75 := g 75 (by decide)
    have e91 := g 91 (by decide)
    have e89 := g 89 (by decide)
    have e90 := g 90 (by decide)
    have pmx := pm.2 x x0 xK
    refine vX9_lay_7 75 d (81 * d) i ?_
    simp only [e75, mr.ch, e91, hx, mr.pu, e89, pmx.1]
    refine ⟨⟨by omega, by omega⟩, fun z => by omega, fun _ => ⟨t75, i91 (by omega) (by omega), i89 (by omega) (by omega), ⟨⟨by omega, by omega⟩, by decide, by decide⟩, rX9_digit (by rw [e75]; exact g0) hp uR (by omega) (by omega) ?_⟩⟩
    simp only [e75, mr.ch, e91, hx, mr.pv, e90, pmx.2]
    refine ⟨t75, i91 (by omega) (by omega), i90 (by omega) (by omega), ⟨⟨by omega, by omega⟩, by decide, by decide⟩, rX9_digit (by rw [e75]; exact g0) hp vR' (by omega) (by omega) ?_⟩
    simp only [e75, mr.tb, g0]
    refine ⟨t75, ml_dv hp (D_D hp) (D_D hp), i93 (by omega) (by omega), fun h20 e20 => ih h20 ⟨by omega, fun b hb => by rw [e20, hset_oa hb]; exact g b hb, fun y hy => by rw [e20, hset_oj (by omega)]; exact lo y hy, fun y y0 y1 => ?_⟩⟩
    by_cases ey : y = i
    · rw [ey, e20, hset_s]; rfl
    · rw [e20, hset_oj (by omega)]; exact dn y y0 (by omega)
  · intro hk ⟨i0, g, lo, dn⟩
    exact vX9_lay_7 75 d (81 * d) 81 ⟨⟨by decide, by decide⟩, fun _ => key2 hk ⟨fun b _ _ _ b4 _ => g b b4, fun s _ => by rw [g 91 (by decide), g 94 (by decide)]; exact ⟨rfl, rfl⟩, lo, fun y _ => by rw [g 92 (by decide)]⟩ (g 91 (by decide)) dn, fun z => by omega⟩
theorem rX9_rankLeft {j : Int} {lf : Int → Int → Int} (mr : MR h) (g0 : h 75 0 = p) (hp : okp p) (gs : h 76 2 = sz P 2) (hz : okz (sz P 2)) (j0 : 0 ≤ j) (j4 : j ≤ 4) (hl : ∀ k x : Int, 0 ≤ k → k < sz P 2 → 0 ≤ x → x < 81 → h 92 (729 * j + 81 * k + x) = lf k x ∧ isD p (lf k x)) (hQ : ∀ (r : Nat) h', RK p 81 (sz P 2).toNat lf r → (r : Int) ≤ sz P 2 → (∀ b, b ≠ 88 → h' b = h b) → Q r G0 h') : R l MX9_rankLeft (D0 + 3) 0 0 [vR 75, vI j] G0 h Q := by
  unfold okz at hz
  refine eX9_rankLeft 75 j (vX9_rankLeft_0 75 j ?_)
  refine lp_up (σ := HP) (fun k hk => S l MX9_rankLeft (D0 + 2 + 1, 0, 0, 0, 0) 2 [some (vR 75), some (vI j), some (vI k), none] [] G0 hk Q) (fun k hk => 0 ≤ k ∧ (∀ b, b ≠ 88 → hk b = h b) ∧ ∀ k' x : Int, 0 ≤ k' → k' < k → 0 ≤ x → x < 81 → hk 88 (81 * k' + x) = lf k' x) (sz P 2) ?_ ?_ 0 h (by omega) ⟨by decide, fun _ _ => rfl, fun k' x k0 k1 => by omega⟩
  · intro k hk hk1 ⟨k0, g, dn⟩ ih
    have e75 := g 75 (by decide)
    have e76 := g 76 (by decide)
    refine vX9_rankLeft_2 75 j k ?_
    simp only [e75, mr.sz, e76, gs]
    refine ⟨t75, i76 (by decide) (by decide), ⟨by omega, by omega⟩, ⟨by omega, by omega⟩, fun z => by omega, fun _ => ?_⟩
    refine lp_up (σ := HP) (fun x hk2 => S l MX9_rankLeft (D0 + 2 + 1, 0, 0, 0, 0) 14 [some (vR 75), some (vI j), some (vI k), some (vI x)] [] G0 hk2 Q) (fun x hk2 => 0 ≤ x ∧ (∀ b, b ≠ 88 → hk2 b = h b) ∧ (∀ k' x : Int, 0 ≤ k' → k' < k → 0 ≤ x → x < 81 → hk2 88 (81 * k' + x) = lf k' x) ∧ ∀ x' : Int, 0 ≤ x' → x' < x → hk2 88 (81 * k + x') = lf k x') 81 ?_ ?_ 0 hk (by decide) ⟨by decide, g, dn, fun x' x0 x1 => by omega⟩
    · intro x hk2 hx ⟨x0, g2, dn2, dr⟩ ih2
      have a75 := g2 75 (by decide)
      have v : hk2 92 (729 * j + 81 * k + x) = lf k x := by rw [g2 92 (by decide)]; exact (hl k x k0 hk1 x0 hx).1
      refine vX9_rankLeft_14 75 j k x ?_
      simp only [a75, mr.le, mr.li, v]
      refine ⟨⟨by omega, by omega⟩, fun z => by omega, fun _ => ⟨t75, i92 (by omega) (by omega), i88 (by omega) (by omega), fun h6 e6 => ih2 h6 ⟨by omega, fun b hb => by rw [e6, hset_oa hb]; exact g2 b hb, fun k' y k0' k1' y0 y1 => by rw [e6, hset_oj (by omega)]; exact dn2 k' y k0' k1' y0 y1, fun y y0 y1 => ?_⟩⟩⟩
      by_cases e : y = x
      · rw [e, e6, hset_s]
      · rw [e6, hset_oj (by omega)]; exact dr y y0 (by omega)
    · intro hk2 ⟨x0, g2, dn2, dr⟩
      refine vX9_rankLeft_14 75 j k 81 ⟨⟨by decide, by decide⟩, fun _ => ih hk2 ⟨by omega, g2, fun k' y k0' k1' y0 y1 => ?_⟩, fun z => by omega⟩
      by_cases e : k' = k
      · rw [e]; exact dr y y0 y1
      · exact dn2 k' y k0' (by omega) y0 y1
  · intro hk ⟨k0, g, dn⟩
    have e75 := g 75 (by decide)
    have e76 := g 76 (by decide)
    refine vX9_rankLeft_2 75 j _ ?_
    simp only [e75, mr.sz, e76, gs]
    exact ⟨t75, i76 (by decide) (by decide), ⟨by omega, by omega⟩, ⟨by omega, by omega⟩, fun _ => rX9_rankOfLines (L := lf) (mr.fr (fun j _ _ _ _ _ _ => by rw [e75])) (by rw [e75]; exact g0) hp (fun k x k0 k1 x0 x1 => ⟨dn k x k0 k1 x0 x1, (hl k x k0 k1 x0 x1).2⟩) (by omega) hz.2 (fun r h' rk rn f' => hQ r h' rk rn (fun b hb => by rw [f' b hb]; exact g b hb)), fun z => by omega⟩
end Sea3
