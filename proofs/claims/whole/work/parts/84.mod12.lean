theorem md_in {p a b : Int} : (a % p + b) % p = (a + b) % p := Int.emod_add_emod ..
theorem md_ml {p a b : Int} : a % p * b % p = a * b % p := by rw [Int.mul_emod, Int.emod_emod_of_dvd _ (Int.dvd_refl p), ← Int.mul_emod]
theorem md_ad {p a b c : Int} : (a + b % p * c) % p = (a + b * c) % p := by rw [Int.add_emod, md_ml, ← Int.add_emod]
theorem bbJ_D {p x y i z k : Int} {P : PS} (hp : okp p) (k0 : 0 ≤ k) (k9 : k < 9) : ∀ n : Nat, D p (bbJ p P x y i z n) k = (D p z k + sm (fun j => D p (fb P (9 * i + j)) k * D p x i * D p y j) n) % p
  | 0 => by
    show D p z k = (D p z k + 0) % p
    rw [Int.add_zero, Int.emod_eq_of_lt (D_D hp).1 (D_D hp).2]
  | n + 1 => by
    show D p (pl p (bbJ p P x y i z n) (D p x i * D p y n % p) (fb P (9 * i + n))) k = (D p z k + (sm (fun j => D p (fb P (9 * i + j)) k * D p x i * D p y j) n + D p (fb P (9 * i + n)) k * D p x i * D p y n)) % p
    rw [D_pl hp k0 k9, bbJ_D hp k0 k9 n, md_in, md_ad, ← Int.add_assoc]
    congr 2
    rw [Int.mul_comm (D p x i * D p y n), ← Int.mul_assoc]
theorem bbI_D {p x y k : Int} {P : PS} (hp : okp p) (k0 : 0 ≤ k) (k9 : k < 9) : ∀ n : Nat, D p (bbI p P x y n) k = sm (fun i => sm (fun j => D p (fb P (9 * i + j)) k * D p x i * D p y j) (sz P 1).toNat) n % p
  | 0 => by
    show D p 0 k = 0 % p
    rw [D_z, Int.zero_emod]
  | n + 1 => by
    show D p (bbJ p P x y n (bbI p P x y n) (sz P 1).toNat) k = (sm (fun i => sm (fun j => D p (fb P (9 * i + j)) k * D p x i * D p y j) (sz P 1).toNat) n + sm (fun j => D p (fb P (9 * n + j)) k * D p x n * D p y j) (sz P 1).toNat) % p
    rw [bbJ_D hp k0 k9, bbI_D hp k0 k9 n, md_in]
theorem bbI_9 {p x y k : Int} {P : PS} (hp : okp p) (hW : WF p P) (k0 : 0 ≤ k) (k9 : k < 9) : D p (bbI p P x y (sz P 0).toNat) k = sm (fun i => sm (fun j => D p (fb P (9 * i + j)) k * D p x i * D p y j) 9) 9 % p := by
  have s0 := hW.1 0 (by decide) (by decide)
  have s1 := hW.1 1 (by decide) (by decide)
  rw [bbI_D hp k0 k9]
  have hz : ∀ i j : Int, 0 ≤ i → i < 9 → 0 ≤ j → j < 9 → (sz P 0 ≤ i ∨ sz P 1 ≤ j) → D p (fb P (9 * i + j)) k * D p x i * D p y j = 0 := fun i j i0 i9 j0 j9 c => by
    rw [(hW.2.1 i j i0 i9 j0 j9).2.2 c, D_z, Int.zero_mul, Int.zero_mul]
  have e1 : ∀ i : Int, 0 ≤ i → i < 9 → sm (fun j => D p (fb P (9 * i + j)) k * D p x i * D p y j) 9 = sm (fun j => D p (fb P (9 * i + j)) k * D p x i * D p y j) (sz P 1).toNat := fun i i0 i9 => sm_z (f := fun j => D p (fb P (9 * i + j)) k * D p x i * D p y j) (i := sz P 1) (n := 9) (by omega) (by omega) (fun j j0 j1 => hz i j i0 i9 (by omega) j1 (.inr j0))
  have e2 : sm (fun i => sm (fun j => D p (fb P (9 * i + j)) k * D p x i * D p y j) 9) 9 = sm (fun i => sm (fun j => D p (fb P (9 * i + j)) k * D p x i * D p y j) 9) (sz P 0).toNat := sm_z (f := fun i => sm (fun j => D p (fb P (9 * i + j)) k * D p x i * D p y j) 9) (i := sz P 0) (n := 9) (by omega) (by omega) (fun i i0 i1 => by
    show sm (fun j => D p (fb P (9 * i + j)) k * D p x i * D p y j) 9 = 0
    rw [sm_ext 9 (g := fun _ => 0) (fun j j0 j1 => hz i j (by omega) i1 j0 j1 (.inl i0)), sm_zero])
  rw [e2, sm_ext (sz P 0).toNat (fun i i0 i1 => e1 i i0 (by omega))]
theorem bbJ_sz {p x y i z : Int} {P : PS} (hp : okp p) (hW : WF p P) (i0 : 0 ≤ i) (i9 : i < 9) (hz : 0 ≤ z ∧ z < PW p (sz P 2)) : ∀ n : Nat, n ≤ 9 → 0 ≤ bbJ p P x y i z n ∧ bbJ p P x y i z n < PW p (sz P 2)
  | 0, _ => hz
  | n + 1, hn => by
    have s2 := hW.1 2 (by decide) (by decide)
    have hb := hW.2.1 i n i0 i9 (by omega) (by omega)
    exact pl_sz hp (by omega) s2.2 (bbJ_sz hp hW i0 i9 hz n (by omega)) ⟨hb.1, hb.2.1⟩
theorem bbI_sz {p x y : Int} {P : PS} (hp : okp p) (hW : WF p P) : ∀ n : Nat, n ≤ 9 → 0 ≤ bbI p P x y n ∧ bbI p P x y n < PW p (sz P 2)
  | 0, _ => ⟨Int.le_refl 0, PW1 hp _⟩
  | n + 1, hn => by
    have s1 := hW.1 1 (by decide) (by decide)
    exact bbJ_sz hp hW (by omega) (by omega) (bbI_sz hp hW n (by omega)) _ (by omega)
theorem bsT_D {p x y k : Int} {P : PS} (hp : okp p) (k0 : 0 ≤ k) (k9 : k < 9) : ∀ n : Nat, D p (bsT p P x y n) k = sm (fun t => sm (fun i => D p (rw' P (40 * 0 + t)) i * D p x i) 9 % p * (sm (fun i => D p (rw' P (40 * 1 + t)) i * D p y i) 9 % p) * D p (rw' P (40 * 2 + t)) k) n % p
  | 0 => by
    show D p 0 k = 0 % p
    rw [D_z, Int.zero_emod]
  | n + 1 => by
    show D p (pl p (bsT p P x y n) (sm (fun i => D p (rw' P (40 * 0 + n)) i * D p x i) 9 % p * (sm (fun i => D p (rw' P (40 * 1 + n)) i * D p y i) 9 % p) % p) (rw' P (40 * 2 + n))) k = (sm (fun t => sm (fun i => D p (rw' P (40 * 0 + t)) i * D p x i) 9 % p * (sm (fun i => D p (rw' P (40 * 1 + t)) i * D p y i) 9 % p) * D p (rw' P (40 * 2 + t)) k) n + sm (fun i => D p (rw' P (40 * 0 + n)) i * D p x i) 9 % p * (sm (fun i => D p (rw' P (40 * 1 + n)) i * D p y i) 9 % p) * D p (rw' P (40 * 2 + n)) k) % p
    rw [D_pl hp k0 k9, bsT_D hp k0 k9 n, md_in, md_ad]
theorem bsT_sz {p x y : Int} {P : PS} (hp : okp p) (hW : WF p P) : ∀ n : Nat, (n : Int) ≤ tm P → 0 ≤ bsT p P x y n ∧ bsT p P x y n < PW p (sz P 2)
  | 0, _ => ⟨Int.le_refl 0, PW1 hp _⟩
  | n + 1, hn => by
    have s2 := hW.1 2 (by decide) (by decide)
    exact pl_sz hp (by omega) s2.2 (bsT_sz hp hW n (by omega)) (hW.2.2.2 2 n (by decide) (by decide) (by omega) (by omega))
section Mod12
variable {l : Launch} {d : Nat} {h : HP} {p : Int} {P : PS} {B : BS} {Q : Int → GS → HP → Prop}
theorem rX9_hand {w i v r : Int} {B' : BS} (hw : inR w) (hi : inR i) (hv : inR v) (bw : BW B) (hm : MX h B) (hA : A_ha w i v B r B') (hQ : ∀ h', MX h' B' → FM h h' → Q r G0 h') : R l MX9_hand (d + 1) 0 0 [vR 75, vI w, vI i, vI v] G0 h Q := by
  have L : ∀ v, inR v → inL v := fun v hv => ⟨by have := hv.1; omega, by have := hv.2; omega⟩
  have r1 : inR 1 := ⟨by decide, by decide⟩
  have r0 : inR 0 := ⟨by decide, by decide⟩
  have hp := bw.1
  have pb := okp_b hp
  have no : ¬ ((w = 0 ∨ w = 1) ∧ (0 ≤ i ∧ i < sz (bP B) w) ∧ isD (bp B) v) → Q (-1) G0 h := fun n => by
    rcases hA with ⟨o, _⟩ | ⟨_, rfl, rfl⟩
    · exact absurd o n
    · exact hQ h hm FM.rf
  refine eX9_hand 75 w i v (vX9_hand_0 75 w i v ⟨hw, rX9_in (L w hw) (by decide) (by decide) (fun o1 => ⟨r1, fun z => by omega, fun _ => ?_⟩) (fun n => ⟨r0, fun _ => no (fun q => n (by have := q.1; omega)), fun z => absurd rfl z⟩)⟩)
  have zw := bw.2.1.1 w (by omega) (by omega)
  simp only [hm.1.sz, hm.2.2.1.1 w (by omega) (by omega)]
  refine ⟨hi, t75, i76 (by omega) (by omega), ⟨by omega, by omega⟩, rX9_in (L i hi) (by decide) ⟨by omega, by omega⟩ (fun o2 => ⟨r1, fun z => by omega, fun _ => ?_⟩) (fun n => ⟨r0, fun _ => no (fun q => n (by have := q.2.1; omega)), fun z => absurd rfl z⟩)⟩
  simp only [hm.2.1]
  refine ⟨hv, t75, ⟨by omega, by omega⟩, rX9_in (L v hv) (by decide) ⟨by omega, by omega⟩ (fun o3 => ⟨r1, fun _ => ?_, fun z => by omega⟩) (fun n => ⟨r0, fun z => absurd rfl z, fun _ => no (fun q => n (by have := q.2.2; unfold isD at this; omega))⟩)⟩
  have ov : isD (bp B) v := ⟨by omega, by omega⟩
  simp only [hm.1.hd]
  refine ⟨t75, i79 (by omega) (by omega), fun h26 e26 => ?_⟩
  rcases hA with ⟨_, rfl, rfl⟩ | ⟨n, _⟩
  · have o : ∀ b, b ≠ 79 → h26 b = h b := fun b hb => by rw [e26, hset_oa hb]
    have e75 := o 75 (by decide)
    have s0 := bw.2.1.1 0 (by decide) (by decide)
    have s1 := bw.2.1.1 1 (by decide) (by decide)
    have hx := lt_R hp bw.2.2.1.1 bw.2.2.1.2 s0.2
    have hy := lt_R hp bw.2.2.2.1.1 bw.2.2.2.1.2 s1.2
    refine hQ h26 ⟨hm.1.fr (fun j _ _ _ _ _ _ => by rw [e75]), by rw [e75]; exact hm.2.1, hm.2.2.1.fr (o 76 (by decide)) (o 77 (by decide)), hm.2.2.2.1.fr (by rw [e75]) (o 78 (by decide)), fun j j0 j9 => ?_, hm.2.2.2.2.2.1.fr (fun b b0 b1 => o b (by omega)), hm.2.2.2.2.2.2.fr (by rw [e75]) (by rw [e75])⟩ (fun b hb => o b (by omega))
    have mh := hm.2.2.2.2.1 j j0 j9
    show h26 79 j = D (bp B) (if w = 0 then wn (bp B) (bx B) i v else bx B) j ∧ h26 79 (9 + j) = D (bp B) (if w = 0 then by' B else wn (bp B) (by' B) i v) j
    rw [e26]
    by_cases c : w = 0
    · rw [if_pos c, if_pos c, D_wn hp hx (by omega) (by omega) ov j0 j9, hset_oj (show 9 + j ≠ 9 * w + i by omega)]
      refine ⟨?_, mh.2⟩
      by_cases ej : j = i
      · rw [if_pos ej, show j = 9 * w + i by omega, hset_s]
      · rw [if_neg ej, hset_oj (by omega)]; exact mh.1
    · rw [if_neg c, if_neg c, D_wn hp hy (by omega) (by omega) ov j0 j9, hset_oj (show j ≠ 9 * w + i by omega)]
      refine ⟨mh.1, ?_⟩
      by_cases ej : j = i
      · rw [if_pos ej, show 9 + j = 9 * w + i by omega, hset_s]
      · rw [if_neg ej, hset_oj (by omega)]; exact mh.2
  · exact absurd ⟨by omega, by omega, ov⟩ n
theorem rX9_byBox {k : Int} (bw : BW B) (hm : MX h B) (k0 : 0 ≤ k) (k9 : k < 9) (hQ : Q (D (bp B) (bbI (bp B) (bP B) (bx B) (by' B) (sz (bP B) 0).toNat) k) G0 h) : R l MX9_byBox d 0 0 [vR 75, vI k] G0 h Q := by
  have hp := bw.1
  have pb := okp_b hp
  have hW := bw.2.1
  have mr := hm.1
  rw [bbI_9 hp hW k0 k9] at hQ
  have tb : ∀ i j, 0 ≤ D (bp B) (fb (bP B) (9 * i + j)) k * D (bp B) (bx B) i * D (bp B) (by' B) j ∧ D (bp B) (fb (bP B) (9 * i + j)) k * D (bp B) (bx B) i * D (bp B) (by' B) j ≤ 343 := fun i j => by
    have d1 := D_D (x := fb (bP B) (9 * i + j)) (i := k) hp
    have d2 := D_D (x := bx B) (i := i) hp
    have d3 := D_D (x := by' B) (i := j) hp
    have m1 := ml_b d1.1 (show _ ≤ 7 by omega) d2.1 (show _ ≤ 7 by omega)
    have m2 := ml_b m1.1 m1.2 d3.1 (show _ ≤ 7 by omega)
    omega
  refine eX9_byBox 75 k (vX9_byBox_0 75 k ?_)
  refine lp_up (σ := Int) (fun i s => S l MX9_byBox (d, 0, 0, 0, 0) 4 [some (vR 75), some (vI k), some (vI s), some (vI i), none] [] G0 h Q) (fun i s => 0 ≤ i ∧ s = sm (fun i => sm (fun j => D (bp B) (fb (bP B) (9 * i + j)) k * D (bp B) (bx B) i * D (bp B) (by' B) j) 9) i.toNat) 9 ?_ ?_ 0 0 (by decide) ⟨by decide, rfl⟩
  · intro i s hi ⟨i0, es⟩ ih
    refine vX9_byBox_4 75 k s i ⟨⟨by omega, by omega⟩, fun c => by omega, fun _ => ?_⟩
    refine lp_up (σ := Int) (fun j s' => S l MX9_byBox (d, 0, 0, 0, 0) 13 [some (vR 75), some (vI k), some (vI s'), some (vI i), some (vI j)] [] G0 h Q) (fun j s' => 0 ≤ j ∧ s' = s + sm (fun j => D (bp B) (fb (bP B) (9 * i + j)) k * D (bp B) (bx B) i * D (bp B) (by' B) j) j.toNat) 9 ?_ ?_ 0 s (by decide) ⟨by decide, by show s = s + 0; omega⟩
    · intro j s' hj ⟨j0, es'⟩ ih2
      refine vX9_byBox_13 75 k s' i j ?_
      simp only [mr.bx, mr.hd]
      rw [hm.2.2.1.2 _ (by omega) (by omega), bd_at k0 k9, (hm.2.2.2.2.1 i i0 hi).1, (hm.2.2.2.2.1 j j0 hj).2]
      exact ⟨⟨by omega, by omega⟩, fun c => by omega, fun _ => ⟨t75, i77 (by omega) (by omega), i79 (by omega) (by omega), i79 (by omega) (by omega), ih2 _ ⟨by omega, by rw [sm_s j0, es', Int.add_assoc]⟩⟩⟩
    · intro s' ⟨j0, es'⟩
      exact vX9_byBox_13 75 k s' i 9 ⟨⟨by decide, by decide⟩, fun _ => ih s' ⟨by omega, by rw [sm_s i0, es', es]; rfl⟩, fun c => by omega⟩
  · intro s ⟨i0, es⟩
    have sb := sm_b (f := fun i => sm (fun j => D (bp B) (fb (bP B) (9 * i + j)) k * D (bp B) (bx B) i * D (bp B) (by' B) j) 9) (M := 3087) 9 (fun i _ _ => by
      have := sm_b (f := fun j => D (bp B) (fb (bP B) (9 * i + j)) k * D (bp B) (bx B) i * D (bp B) (by' B) j) (M := 343) 9 (fun j _ _ => tb i j)
      exact ⟨this.1, by have := this.2; omega⟩)
    rw [show (9 : Int).toNat = 9 from rfl] at es
    rw [← es] at sb hQ
    refine vX9_byBox_4 75 k s 9 ?_
    simp only [hm.2.1]
    exact ⟨⟨by decide, by decide⟩, fun _ => ⟨t75, ⟨⟨sb.1, by have := sb.2; omega⟩, by omega, by omega⟩, hQ⟩, fun c => by omega⟩
theorem rX9_byScheme {k : Int} (bw : BW B) (hm : MX h B) (k0 : 0 ≤ k) (k9 : k < 9) (hQ : Q (D (bp B) (bsT (bp B) (bP B) (bx B) (by' B) (tm (bP B)).toNat) k) G0 h) : R l MX9_byScheme d 0 0 [vR 75, vI k] G0 h Q := by
  have hp := bw.1
  have pb := okp_b hp
  have hW := bw.2.1
  have h40 := hW.2.2.1
  have mr := hm.1
  have ms := hm.2.2.2.1
  rw [bsT_D hp k0 k9] at hQ
  have pr : ∀ x y : Int, 0 ≤ sm (fun i => D (bp B) x i * D (bp B) y i) 9 ∧ sm (fun i => D (bp B) x i * D (bp B) y i) 9 ≤ 441 := fun x y => by
    have := sm_b (f := fun i => D (bp B) x i * D (bp B) y i) (M := 49) 9 (fun i _ _ => by
      have d1 := D_D (x := x) (i := i) hp
      have d2 := D_D (x := y) (i := i) hp
      exact ml_b d1.1 (show _ ≤ 7 by omega) d2.1 (show _ ≤ 7 by omega))
    exact ⟨this.1, by have := this.2; omega⟩
  have tb : ∀ t, 0 ≤ sm (fun i => D (bp B) (rw' (bP B) (40 * 0 + t)) i * D (bp B) (bx B) i) 9 % (bp B) * (sm (fun i => D (bp B) (rw' (bP B) (40 * 1 + t)) i * D (bp B) (by' B) i) 9 % (bp B)) * D (bp B) (rw' (bP B) (40 * 2 + t)) k ∧ sm (fun i => D (bp B) (rw' (bP B) (40 * 0 + t)) i * D (bp B) (bx B) i) 9 % (bp B) * (sm (fun i => D (bp B) (rw' (bP B) (40 * 1 + t)) i * D (bp B) (by' B) i) 9 % (bp B)) * D (bp B) (rw' (bP B) (40 * 2 + t)) k ≤ 343 := fun t => by
    have d1 := md_D (x := sm (fun i => D (bp B) (rw' (bP B) (40 * 0 + t)) i * D (bp B) (bx B) i) 9) hp
    have d2 := md_D (x := sm (fun i => D (bp B) (rw' (bP B) (40 * 1 + t)) i * D (bp B) (by' B) i) 9) hp
    have d3 := D_D (x := rw' (bP B) (40 * 2 + t)) (i := k) hp
    have m1 := ml_b d1.1 (show _ ≤ 7 by omega) d2.1 (show _ ≤ 7 by omega)
    have m2 := ml_b m1.1 m1.2 d3.1 (show _ ≤ 7 by omega)
    omega
  refine eX9_byScheme 75 k (vX9_byScheme_0 75 k ?_)
  refine lp_up (σ := Int) (fun t s => S l MX9_byScheme (d, 0, 0, 0, 0) 4 [some (vR 75), some (vI k), some (vI s), some (vI t), none, none, none] [] G0 h Q) (fun t s => 0 ≤ t ∧ s = sm (fun t => sm (fun i => D (bp B) (rw' (bP B) (40 * 0 + t)) i * D (bp B) (bx B) i) 9 % (bp B) * (sm (fun i => D (bp B) (rw' (bP B) (40 * 1 + t)) i * D (bp B) (by' B) i) 9 % (bp B)) * D (bp B) (rw' (bP B) (40 * 2 + t)) k) t.toNat) (tm (bP B)) ?_ ?_ 0 0 h40.1 ⟨by decide, rfl⟩
  · intro t s ht ⟨t0, es⟩ ih
    refine vX9_byScheme_4 75 k s t ?_
    simp only [ms.1]
    refine ⟨t75, ⟨by omega, by omega⟩, ⟨by omega, by omega⟩, fun c => by omega, fun _ => ?_⟩
    refine lp_up (σ := Int × Int) (fun i q => S l MX9_byScheme (d, 0, 0, 0, 0) 21 [some (vR 75), some (vI k), some (vI s), some (vI t), some (vI q.1), some (vI q.2), some (vI i)] [] G0 h Q) (fun i q => 0 ≤ i ∧ q.1 = sm (fun i => D (bp B) (rw' (bP B) (40 * 0 + t)) i * D (bp B) (bx B) i) i.toNat ∧ q.2 = sm (fun i => D (bp B) (rw' (bP B) (40 * 1 + t)) i * D (bp B) (by' B) i) i.toNat) 9 ?_ ?_ 0 (0, 0) (by decide) ⟨by decide, rfl, rfl⟩
    · intro i q hi ⟨i0, e1, e2⟩ ih2
      have v1 := ms.at t0 ht (w := 0) (by decide) (by decide) i0 hi
      have v2 := ms.at t0 ht (w := 1) (by decide) (by decide) i0 hi
      rw [show 27 * t + 9 * 0 + i = 27 * t + i by omega] at v1
      rw [show 27 * t + 9 * 1 + i = 27 * t + 9 + i by omega] at v2
      refine vX9_byScheme_21 75 k s t q.1 q.2 i ?_
      simp only [mr.sc, mr.hd, v1, v2, (hm.2.2.2.2.1 i i0 hi).1, (hm.2.2.2.2.1 i i0 hi).2]
      exact ⟨⟨by omega, by omega⟩, fun c => by omega, fun _ => ⟨t75, i78 (by omega) (by omega), i79 (by omega) (by omega), i78 (by omega) (by omega), i79 (by omega) (by omega), ih2 (_, _) ⟨by omega, by rw [sm_s i0, ← e1], by rw [sm_s i0, ← e2]⟩⟩⟩
    · intro q ⟨i0, e1, e2⟩
      rw [show (9 : Int).toNat = 9 from rfl] at e1 e2
      have b1 := pr (rw' (bP B) (40 * 0 + t)) (bx B)
      have b2 := pr (rw' (bP B) (40 * 1 + t)) (by' B)
      rw [← e1] at b1
      rw [← e2] at b2
      have v3 := ms.at t0 ht (w := 2) (by decide) (by decide) k0 k9
      rw [show 27 * t + 9 * 2 + k = 27 * t + 18 + k by omega] at v3
      refine vX9_byScheme_21 75 k s t q.1 q.2 9 ?_
      simp only [mr.sc, hm.2.1, v3]
      exact ⟨⟨by decide, by decide⟩, fun _ => ⟨t75, ⟨⟨by omega, by omega⟩, by omega, by omega⟩, ⟨⟨by omega, by omega⟩, by omega, by omega⟩, i78 (by omega) (by omega), ih _ ⟨by omega, by rw [sm_s t0, es, e1, e2]⟩⟩, fun c => by omega⟩
  · intro s ⟨t0, es⟩
    have sb := sm_b (f := fun t => sm (fun i => D (bp B) (rw' (bP B) (40 * 0 + t)) i * D (bp B) (bx B) i) 9 % (bp B) * (sm (fun i => D (bp B) (rw' (bP B) (40 * 1 + t)) i * D (bp B) (by' B) i) 9 % (bp B)) * D (bp B) (rw' (bP B) (40 * 2 + t)) k) (M := 343) (tm (bP B)).toNat (fun t _ _ => tb t)
    have sb2 : ((tm (bP B)).toNat : Int) * 343 ≤ 40 * 343 := by omega
    rw [← es] at sb hQ
    refine vX9_byScheme_4 75 k s _ ?_
    simp only [ms.1, hm.2.1]
    exact ⟨t75, ⟨by omega, by omega⟩, ⟨by omega, by omega⟩, fun _ => ⟨⟨⟨sb.1, by omega⟩, by omega, by omega⟩, hQ⟩, fun c => by omega⟩
theorem rX9_run {w r : Int} {B' : BS} (hw : inR w) (bw : BW B) (hm : MX h B) (hA : A_ru w B r B') (hQ : ∀ h', MX h' B' → FM h h' → Q r G0 h') : R l MX9_run (d + 1) 0 0 [vR 75, vI w] G0 h Q := by
  obtain ⟨eB, hA⟩ := hA
  rw [eB] at hQ
  have q := hQ h hm FM.rf
  have r1 : inR 1 := ⟨by decide, by decide⟩
  have r0 : inR 0 := ⟨by decide, by decide⟩
  have hp := bw.1
  have pb := okp_b hp
  have hW := bw.2.1
  have s0 := hW.1 0 (by decide) (by decide)
  have s2 := hW.1 2 (by decide) (by decide)
  have h40 := hW.2.2.1
  refine eX9_run 75 w (vX9_run_0 75 w ⟨hw, rX9_in ⟨by have := hw.1; omega, by have := hw.2; omega⟩ (by decide) (by decide) (fun o => ⟨r1, fun _ => ?_, fun z => by omega⟩) (fun n => ⟨r0, fun z => absurd rfl z, fun _ => by rw [show -1 = r by omega]; exact q⟩)⟩)
  simp only [hm.1.sz, hm.2.2.1.1 2 (by decide) (by decide)]
  refine ⟨t75, i76 (by decide) (by decide), ?_⟩
  have key : ∀ X : Int, 0 ≤ X ∧ X < PW (bp B) (sz (bP B) 2) → Q X G0 h → (∀ k (Q' : Int → GS → HP → Prop), 0 ≤ k → k < 9 → Q' (D (bp B) X k) G0 h → (w ≠ 0 → R l MX9_byScheme d 0 0 [vR 75, vI k] G0 h Q') ∧ (w = 0 → R l MX9_byBox d 0 0 [vR 75, vI k] G0 h Q')) → ∀ n : Nat, (n : Int) ≤ sz (bP B) 2 → S l MX9_run (d + 1, 0, 0, 0, 0) 23 [some (vR 75), some (vI w), some (vI (X / PW (bp B) n)), some (vI ((n : Int) - 1))] [] G0 h Q := fun X hX hq hc n => by
    induction n with
    | zero =>
      intro _
      refine vX9_run_23 75 w _ _ ⟨⟨by omega, by omega⟩, fun _ => ?_, fun c => by omega⟩
      rw [show (((0 : Nat) : Int)) = 0 from rfl, PW_0, Int.ediv_one]
      exact hq
    | succ n ih =>
      intro hn
      have go : S l MX9_run (d + 1, 0, 0, 0, 0) 23 [some (vR 75), some (vI w), some (vI (X / PW (bp B) ((n + 1 : Nat) : Int) * bp B + D (bp B) X n)), some (vI ((n : Int) + (-1)))] [] G0 h Q := by
        have e : X / PW (bp B) ((n + 1 : Nat) : Int) * (bp B) + D (bp B) X n = X / PW (bp B) n := by
          rw [show ((n + 1 : Nat) : Int) = (n : Int) + 1 by omega, ← dvp pb.1 hX.1 (by omega)]
          unfold D
          have := Int.emod_add_mul_ediv (X / PW (bp B) n) (bp B)
          rw [Int.mul_comm (bp B)] at this
          omega
        rw [e, show (n : Int) + (-1) = (n : Int) - 1 by omega]
        exact ih (by omega)
      have hcn := hc n (fun r6 G7 h8 => S l MX9_run (d + 1, 0, 0, 0, 0) 23 [some (vR 75), some (vI w), some (vI (X / PW (bp B) ((n + 1 : Nat) : Int) * bp B + r6)), some (vI ((n : Int) + (-1)))] [] G7 h8 Q) (by omega) (by omega) go
      refine vX9_run_23 75 w _ _ ?_
      rw [show (((n + 1 : Nat) : Int) - 1) = (n : Int) by omega, hm.2.1]
      exact ⟨⟨by omega, by omega⟩, fun c => by omega, fun _ => ⟨t75, hw, hcn.1, hcn.2⟩⟩
  have fin : ∀ X : Int, 0 ≤ X ∧ X < PW (bp B) (sz (bP B) 2) → Q X G0 h → (∀ k (Q' : Int → GS → HP → Prop), 0 ≤ k → k < 9 → Q' (D (bp B) X k) G0 h → (w ≠ 0 → R l MX9_byScheme d 0 0 [vR 75, vI k] G0 h Q') ∧ (w = 0 → R l MX9_byBox d 0 0 [vR 75, vI k] G0 h Q')) → S l MX9_run (d + 1, 0, 0, 0, 0) 23 [some (vR 75), some (vI w), some (vI 0), some (vI (sz (bP B) 2 - 1))] [] G0 h Q := fun X hX hq hc => by
    have := key X hX hq hc (sz (bP B) 2).toNat (by omega)
    rw [show (((sz (bP B) 2).toNat : Nat) : Int) = sz (bP B) 2 by omega, Int.ediv_eq_zero_of_lt hX.1 hX.2] at this
    exact this
  by_cases c : w = 0
  · exact fin _ (bbI_sz hp hW (sz (bP B) 0).toNat (by omega)) (by rw [show r = bbI (bp B) (bP B) (bx B) (by' B) (sz (bP B) 0).toNat by omega] at q; exact q) (fun k Q' k0 k9 hq => ⟨fun z => absurd c z, fun _ => rX9_byBox bw hm k0 k9 hq⟩)
  · exact fin _ (bsT_sz hp hW (tm (bP B)).toNat (by omega)) (by rw [show r = bsT (bp B) (bP B) (bx B) (by' B) (tm (bP B)).toNat by omega] at q; exact q) (fun k Q' k0 k9 hq => ⟨fun _ => rX9_byScheme bw hm k0 k9 hq, fun z => absurd z c⟩)
end Mod12
