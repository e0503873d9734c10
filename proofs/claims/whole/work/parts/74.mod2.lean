theorem ct_ext {f g : Int → Int} : ∀ n : Nat, (∀ i : Int, 0 ≤ i → i < n → f i = g i) → ct f n = ct g n
  | 0, _ => rfl
  | n + 1, h => by
    show ct f n + (if f n = 0 then 0 else 1) = ct g n + (if g n = 0 then 0 else 1)
    rw [ct_ext n (fun i h1 h2 => h i h1 (by omega)), h n (by omega) (by omega)]
theorem ct_add {f : Int → Int} {a : Nat} : ∀ n : Nat, ct f (a + n) = ct f a + ct (fun k => f (a + k)) n
  | 0 => by show ct f a = ct f a + 0; omega
  | n + 1 => by
    show ct f (a + n) + (if f ((a + n : Nat) : Int) = 0 then 0 else 1) = ct f a + (ct (fun k => f (a + k)) n + (if f (a + n) = 0 then 0 else 1))
    rw [ct_add n, show ((a + n : Nat) : Int) = (a : Int) + n by omega]
    omega
theorem ct_blk {f : Int → Int} {m : Nat} : ∀ n : Nat, ct f (m * n) = sm (fun i => ct (fun k => f (m * i + k)) m) n
  | 0 => rfl
  | n + 1 => by
    show ct f (m * n + m) = sm (fun i => ct (fun k => f (m * i + k)) m) n + ct (fun k => f (m * n + k)) m
    rw [ct_add m, ct_blk n]
    rw [show (((m * n : Nat)) : Int) = (m : Int) * n by rw [Int.natCast_mul]]
theorem sm_addn {f : Int → Int} {a : Nat} : ∀ n : Nat, sm f (a + n) = sm f a + sm (fun k => f (a + k)) n
  | 0 => by show sm f a = sm f a + 0; omega
  | n + 1 => by
    show sm f (a + n) + f ((a + n : Nat) : Int) = sm f a + (sm (fun k => f (a + k)) n + f (a + n))
    rw [sm_addn n, show ((a + n : Nat) : Int) = (a : Int) + n by omega]
    omega
theorem sm_blk {f : Int → Int} {m : Nat} : ∀ n : Nat, sm f (m * n) = sm (fun i => sm (fun k => f (m * i + k)) m) n
  | 0 => rfl
  | n + 1 => by
    show sm f (m * n + m) = sm (fun i => sm (fun k => f (m * i + k)) m) n + sm (fun k => f (m * n + k)) m
    rw [sm_addn m, sm_blk n]
    rw [show (((m * n : Nat)) : Int) = (m : Int) * n by rw [Int.natCast_mul]]
theorem ct_zero {f : Int → Int} : ∀ n : Nat, (∀ i : Int, 0 ≤ i → i < n → f i = 0) → ct f n = 0
  | 0, _ => rfl
  | n + 1, h => by
    show ct f n + (if f n = 0 then 0 else 1) = 0
    rw [ct_zero n (fun i h1 h2 => h i h1 (by omega)), if_pos (h n (by omega) (by omega))]; rfl
theorem fpl_ct {p : Int} {P : PS} (hW : WF p P) : ct (bd p P) 729 = fpl p P := by
  have s0 := hW.1 0 (by decide) (by decide)
  have s1 := hW.1 1 (by decide) (by decide)
  have e1 : ct (bd p P) (9 * 81) = sm (fun i => ct (fun k => bd p P (9 * i + k)) 9) 81 := ct_blk (f := bd p P) (m := 9) 81
  have e2 : sm (fun i => ct (fun k => bd p P (9 * i + k)) 9) (9 * 9) = sm (fun i => sm (fun k => ct (fun k' => bd p P (9 * (9 * i + k) + k')) 9) 9) 9 := sm_blk (f := fun i => ct (fun k => bd p P (9 * i + k)) 9) (m := 9) 9
  rw [show (729 : Nat) = 9 * 81 from rfl, e1, show (81 : Nat) = 9 * 9 from rfl, e2]
  unfold fpl
  have hz : ∀ i j : Int, 0 ≤ i → i < 9 → 0 ≤ j → j < 9 → (sz P 0 ≤ i ∨ sz P 1 ≤ j) → ct (fun k => bd p P (9 * (9 * i + j) + k)) 9 = 0 := fun i j i0 i9 j0 j9 hh => ct_zero 9 (fun k k0 k9 => by
    have k9' : k < 9 := k9
    show bd p P (9 * (9 * i + j) + k) = 0
    unfold bd
    rw [show (9 * (9 * i + j) + k) / 9 = 9 * i + j by omega, (hW.2.1 i j i0 i9 j0 j9).2.2 hh, D_z])
  have ej : ∀ i : Int, 0 ≤ i → i < 9 → sm (fun k => ct (fun k' => bd p P (9 * (9 * i + k) + k')) 9) 9 = sm (fun j => ct (D p (fb P (9 * i + j))) 9) (sz P 1).toNat ∨ sz P 0 ≤ i := fun i i0 i9 => by
    by_cases c : sz P 0 ≤ i
    · exact .inr c
    · left
      have := sm_z (f := fun k => ct (fun k' => bd p P (9 * (9 * i + k) + k')) 9) (i := sz P 1) (n := 9) (by omega) (by omega) (fun j j0 j1 => hz i j i0 i9 (by omega) j1 (.inr j0))
      rw [show (9 : Int).toNat = 9 from rfl] at this
      rw [this]
      refine sm_ext _ (fun j j0 j1 => ct_ext 9 (fun k k0 k9 => ?_))
      have k9' : k < 9 := k9
      show bd p P (9 * (9 * i + j) + k) = D p (fb P (9 * i + j)) k
      unfold bd
      rw [show (9 * (9 * i + j) + k) / 9 = 9 * i + j by omega, show (9 * (9 * i + j) + k) % 9 = k by omega]
  have := sm_z (f := fun i => sm (fun k => ct (fun k' => bd p P (9 * (9 * i + k) + k')) 9) 9) (i := sz P 0) (n := 9) (by omega) (by omega) (fun i i0 i1 => by
    show sm (fun k => ct (fun k' => bd p P (9 * (9 * i + k) + k')) 9) 9 = 0
    rw [sm_ext 9 (g := fun _ => 0) (fun j j0 j1 => hz i j (by omega) i1 j0 j1 (.inl i0)), sm_zero])
  rw [show (9 : Int).toNat = 9 from rfl] at this
  rw [this]
  refine sm_ext _ (fun i i0 i1 => ?_)
  rcases ej i i0 (by omega) with e | e
  · exact e
  · omega
section Mod2
variable {l : Launch} {d : Nat} {h : HP} {p : Int} {P : PS} {B : BS} {Q : Int → GS → HP → Prop}
theorem bd_D {k : Int} (hp : okp p) : isD p (bd p P k) := D_D hp
theorem sd_D {k : Int} (hp : okp p) : isD p (sd p P k) := D_D hp
theorem rX9_filled (mr : MR h) (hp : okp p) (mb : MB h p P) (hW : WF p P) (hQ : Q (fpl p P) G0 h) : R l MX9_filled d 0 0 [vR 75] G0 h Q := by
  have hb := okp_b hp
  refine eX9_filled 75 (vX9_filled_0 75 ?_)
  refine lp_up (σ := Int) (fun k n => S l MX9_filled (d, 0, 0, 0, 0) 4 [some (vR 75), some (vI n), some (vI k)] [] G0 h Q) (fun k n => 0 ≤ k ∧ n = ct (bd p P) k.toNat) 729 ?_ ?_ 0 0 (by decide) ⟨by decide, rfl⟩
  · intro k n hk ⟨k0, en⟩ ih
    have dk := bd_D (P := P) (k := k) hp
    refine vX9_filled_4 75 n k ?_
    simp only [mr.bx, mb.2 k k0 hk]
    refine ⟨⟨by omega, by omega⟩, fun c => by omega, fun _ => ⟨t75, i77 k0 hk, ⟨by omega, by omega⟩, fun c => ih _ ⟨by omega, ?_⟩, fun c => ih _ ⟨by omega, ?_⟩⟩⟩
    · rw [ct_s k0, if_pos c, en]
    · rw [ct_s k0, if_neg c, en]
  · intro n ⟨k0, en⟩
    refine vX9_filled_4 75 n 729 ⟨⟨by decide, by decide⟩, fun _ => ?_, fun c => by omega⟩
    rw [en, show (729 : Int).toNat = 729 from rfl, fpl_ct hW]; exact hQ
theorem rX9_emptyHand (mr : MR h) (hQ : ∀ h', (∀ b, b ≠ 79 → h' b = h b) → (∀ q, MH h' q 0 0) → Q 0 G0 h') : R l MX9_emptyHand d 0 0 [vR 75] G0 h Q := by
  refine eX9_emptyHand 75 (vX9_emptyHand_0 75 ?_)
  refine lp_up (σ := HP) (fun k hh => S l MX9_emptyHand (d, 0, 0, 0, 0) 2 [some (vR 75), some (vI k)] [] G0 hh Q) (fun k hh => 0 ≤ k ∧ (∀ b, b ≠ 79 → hh b = h b) ∧ ∀ j, 0 ≤ j → j < k → hh 79 j = 0) 18 ?_ ?_ 0 h (by decide) ⟨by decide, fun _ _ => rfl, fun j j0 j1 => by omega⟩
  · intro k hh hk ⟨k0, f, z⟩ ih
    refine vX9_emptyHand_2 75 k ?_
    simp only [f 75 (by decide), mr.hd]
    refine ⟨⟨by omega, by omega⟩, fun c => by omega, fun _ => ⟨t75, i79 k0 hk, fun h5 e5 => ih h5 ⟨by omega, fun b hb => by rw [e5, hset_oa hb]; exact f b hb, fun j j0 j1 => ?_⟩⟩⟩
    by_cases e : j = k
    · rw [e, e5, hset_s]
    · rw [e5, hset_oj e]; exact z j j0 (by omega)
  · intro hh ⟨k0, f, z⟩
    refine vX9_emptyHand_2 75 18 ⟨⟨by decide, by decide⟩, fun _ => hQ hh f (fun q i i0 i9 => ?_), fun c => by omega⟩
    rw [D_z, z i i0 (by omega), z (9 + i) (by omega) (by omega)]
    exact ⟨rfl, rfl⟩
/-- a new box: all but the kept ones is as it should be -/
def FrF (h h' : HP) : Prop := (∀ b, b ≠ 75 → b ≠ 76 → b ≠ 77 → b ≠ 79 → h' b = h b) ∧ ∀ j, j ≠ 4 → j ≠ 15 → h' 75 j = h 75 j
theorem rX9_fresh {x y z : Int} (mr : MR h) (hQ : ∀ h', FrF h h' → (∀ q, MB h' q (fr0 x y z)) → h' 75 4 = 0 → (∀ q, MH h' q 0 0) → h' 75 15 = 0 → Q 0 G0 h') : R l MX9_fresh (d + 1) 0 0 [vR 75, vI x, vI y, vI z] G0 h Q := by
  refine eX9_fresh 75 x y z (vX9_fresh_0 75 x y z ?_)
  simp only [mr.sz]
  refine ⟨t75, i76 (by decide) (by decide), fun h3 e3 => ?_⟩
  have f3 : h3 75 = h 75 := by rw [e3, hset_oa (by decide)]
  simp only [f3, mr.sz]
  refine ⟨i76 (by decide) (by decide), fun h5 e5 => ?_⟩
  have f5 : h5 75 = h 75 := by rw [e5, hset_oa (by decide), f3]
  simp only [f5, mr.sz]
  refine ⟨i76 (by decide) (by decide), fun h7 e7 => ?_⟩
  have f7 : ∀ b, b ≠ 76 → h7 b = h b := fun b hb => by rw [e7, hset_oa hb, e5, hset_oa hb, e3, hset_oa hb]
  have s7 : ∀ w, 0 ≤ w → w < 3 → h7 76 w = sz3 x y z w := fun w w0 w3 => by
    rcases (show w = 0 ∨ w = 1 ∨ w = 2 by omega) with rfl | rfl | rfl
    · rw [e7, hset_oj (by decide), e5, hset_oj (by decide), e3, hset_s]; rfl
    · rw [e7, hset_oj (by decide), e5, hset_s]; rfl
    · rw [e7, hset_s]; rfl
  refine lp_up (σ := HP) (fun k hh => S l MX9_fresh (d + 1, 0, 0, 0, 0) 24 [some (vR 75), none, none, none, some (vI k)] [] G0 hh Q) (fun k hh => 0 ≤ k ∧ (∀ b, b ≠ 77 → hh b = h7 b) ∧ ∀ j, 0 ≤ j → j < k → hh 77 j = 0) 729 ?_ ?_ 0 h7 (by decide) ⟨by decide, fun _ _ => rfl, fun j j0 j1 => by omega⟩
  · intro k hh hk ⟨k0, f, zz⟩ ih
    refine vX9_fresh_24 75 k ?_
    simp only [f 75 (by decide), f7 75 (by decide), mr.bx]
    refine ⟨⟨by omega, by omega⟩, fun c => by omega, fun _ => ⟨t75, i77 k0 hk, fun h5 e5 => ih h5 ⟨by omega, fun b hb => by rw [e5, hset_oa hb]; exact f b hb, fun j j0 j1 => ?_⟩⟩⟩
    by_cases e : j = k
    · rw [e, e5, hset_s]
    · rw [e5, hset_oj e]; exact zz j j0 (by omega)
  · intro hh ⟨k0, f, zz⟩
    have g : ∀ b, b ≠ 76 → b ≠ 77 → hh b = h b := fun b b1 b2 => by rw [f b b2, f7 b b1]
    refine vX9_fresh_24 75 729 ⟨⟨by decide, by decide⟩, fun _ => ⟨t75, fun h4 e4 => ?_⟩, fun c => by omega⟩
    have m4 : MR h4 := mr.fr (fun j _ j4 _ _ _ _ => by rw [e4, hset_oj j4, g 75 (by decide) (by decide)])
    refine rX9_emptyHand m4 (fun h8 f8 z8 => ⟨t75, fun h9 e9 => hQ h9 ⟨fun b b1 b2 b3 b4 => ?_, fun j j4 j15 => ?_⟩ (fun q => ⟨fun w w0 w3 => ?_, fun k k0 k1 => ?_⟩) ?_ (fun q => ?_) ?_⟩)
    · rw [e9, hset_oa b1, f8 b b4, e4, hset_oa b1, g b b2 b3]
    · rw [e9, hset_oj j15, f8 75 (by decide), e4, hset_oj j4, g 75 (by decide) (by decide)]
    · rw [e9, hset_oa (by decide), f8 76 (by decide), e4, hset_oa (by decide), f 76 (by decide)]; exact s7 w w0 w3
    · rw [e9, hset_oa (by decide), f8 77 (by decide), e4, hset_oa (by decide), zz k k0 k1]
      show 0 = D q 0 (k % 9)
      rw [D_z]
    · rw [e9, hset_oj (by decide), f8 75 (by decide), e4, hset_s]
    · exact (z8 q).fr (by rw [e9, hset_oa (by decide)])
    · rw [e9, hset_s]
theorem FrF.m {h' : HP} (f : FrF h h') : FM h h' := fun b hb => f.1 b (by omega) (by omega) (by omega) (by omega)
theorem FrF.mr {h' : HP} (f : FrF h h') (m : MR h) : MR h' := m.fr (fun j _ j4 j15 _ _ _ => f.2 j j4 j15)
/-- a new box with empty hands -/
theorem MX.bsh {h' : HP} {P' : PS} (m : MX h B) (mr : MR h') (e0 : h' 75 0 = h 75 0) (mb : MB h' (bp B) P') (ms : MS h' (bp B) P') (mh : MH h' (bp B) 0 0) (e : ∀ b, 80 ≤ b → b ≤ 84 → h' b = h b) (z : h' 75 15 = 0) : MX h' (bsh B P') := ⟨mr, e0.trans m.2.1, mb, ms, mh, m.2.2.2.2.2.1.fr e, .inl z⟩
theorem rX9_ground {v r : Int} {B' : BS} (hv : inR v) (hm : MX h B) (hA : A_gr v B r B') (hQ : ∀ h', MX h' B' → FM h h' → Q r G0 h') : R l MX9_ground (d + 2) 0 0 [vR 75, vI v] G0 h Q := by
  have go : okp v → ∀ h4, h4 = hset h 75 0 v → R l MX9_fresh (d + 1) 0 0 [vR 75, vI 1, vI 1, vI 1] G0 h4 (fun _ G12 h13 => S l MX9_ground (d + 1 + 1, 0, 0, 0, 0) 37 [some (vR 75), none, some (vI 0)] [] G12 h13 Q) := fun ok h4 e4 => by
    have m4 : MR h4 := hm.1.fr (fun j j0 _ _ _ _ _ => by rw [e4, hset_oj j0])
    refine rX9_fresh m4 (fun h' f mb e5 mh e15 => ?_)
    have g0 : h' 75 0 = v := by rw [f.2 0 (by decide) (by decide), e4, hset_s]
    have m' := f.mr m4
    refine lp_up (σ := HP) (fun q hh => S l MX9_ground (d + 1 + 1, 0, 0, 0, 0) 37 [some (vR 75), none, some (vI q)] [] G0 hh Q) (fun q hh => 0 ≤ q ∧ (∀ b, b ≠ 80 → hh b = h' b) ∧ ∀ k, 0 ≤ k → k < q → hh 80 k = 0) 4 ?_ ?_ 0 h' (by decide) ⟨by decide, fun _ _ => rfl, fun k k0 k1 => by omega⟩
    · intro q hh hq ⟨q0, f2, z⟩ ih
      refine vX9_ground_37 75 q ?_
      simp only [f2 75 (by decide), m'.ik]
      refine ⟨⟨by omega, by omega⟩, fun c => by omega, fun _ => ⟨t75, i80 q0 hq, fun h5 e5 => ih h5 ⟨by omega, fun b hb => by rw [e5, hset_oa hb]; exact f2 b hb, fun k k0 k1 => ?_⟩⟩⟩
      by_cases e : k = q
      · rw [e, e5, hset_s]
      · rw [e5, hset_oj e]; exact z k k0 (by omega)
    · intro hh ⟨q0, f2, z⟩
      have e75 := f2 75 (by decide)
      rcases hA with ⟨_, rfl, rfl⟩ | ⟨n, _, _⟩
      · refine vX9_ground_37 75 4 ⟨⟨by decide, by decide⟩, fun _ => hQ hh ⟨m'.fr (fun j _ _ _ _ _ _ => by rw [e75]), by rw [e75]; exact g0, (mb v).fr (f2 76 (by decide)) (f2 77 (by decide)), ⟨by rw [e75]; exact e5, fun k k0 k1 => ?_⟩, (mh v).fr (f2 79 (by decide)), fun q q0 q4 => ⟨z q q0 q4, fun w => absurd rfl w⟩, .inl (by rw [e75]; exact e15)⟩ (fun b hb => ?_), fun c => by omega⟩
        · have k1' : k < 27 * 0 := k1
          omega
        · rw [f2 b (by omega), f.1 b (by omega) (by omega) (by omega) (by omega), e4, hset_oa (by omega)]
      · exact absurd ok n
  refine eX9_ground 75 v (vX9_ground_0 75 v ⟨hv, fun c => ⟨t75, go (.inl c)⟩, fun c1 => ⟨fun c => ⟨t75, go (.inr (.inl c))⟩, fun c2 => ⟨fun c => ⟨t75, go (.inr (.inr (.inl c)))⟩, fun c3 => ⟨fun c => ⟨t75, go (.inr (.inr (.inr c)))⟩, fun c4 => ?_⟩⟩⟩⟩)
  have no : ¬ okp v := by unfold okp; omega
  rcases hA with ⟨ok, _, _⟩ | ⟨_, rfl, rfl⟩
  · exact absurd ok no
  · exact hQ h hm FM.rf
theorem rX9_box {x y z r : Int} {B' : BS} (hx : inR x) (hy : inR y) (hz : inR z) (hm : MX h B) (hA : A_bx x y z B r B') (hQ : ∀ h', MX h' B' → FM h h' → Q r G0 h') : R l MX9_box (d + 2) 0 0 [vR 75, vI x, vI y, vI z] G0 h Q := by
  have r1 : inR 1 := ⟨by decide, by decide⟩
  have r0 : inR 0 := ⟨by decide, by decide⟩
  refine eX9_box 75 x y z (vX9_box_0 75 x y z (rX9_areSizes hx hy hz (fun o => ⟨r1, fun _ => ⟨t75, rX9_fresh hm.1 (fun h' f mb e5 mh e15 => ?_)⟩, fun z => by omega⟩) (fun n => ⟨r0, fun z => absurd rfl z, fun _ => ?_⟩)))
  · rcases hA with ⟨_, rfl, rfl⟩ | ⟨n, _, _⟩
    · exact hQ h' (hm.bsh (f.mr hm.1) (f.2 0 (by decide) (by decide)) (mb _) ⟨e5, fun k k0 k1 => by have k1' : k < 27 * 0 := k1; omega⟩ (mh _) (fun b b0 b1 => f.1 b (by omega) (by omega) (by omega) (by omega)) e15) f.m
    · exact absurd o n
  · rcases hA with ⟨o, _, _⟩ | ⟨_, rfl, rfl⟩
    · exact absurd o n
    · exact hQ h hm FM.rf
end Mod2
