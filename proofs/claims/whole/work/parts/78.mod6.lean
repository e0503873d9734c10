theorem S_av {l : Launch} {M : MD} {b : BU} {pc : Nat} {loc loc' : LV} {st : List AV} {G : GS} {h : HP} {Q : Int → GS → HP → Prop} (hw : ∀ (i : Nat) (v : AV), loc'[i]? = some (some v) → ∃ v', loc[i]? = some (some v') ∧ ∀ E : EV, av E v' = av E v) (k : S l M b pc loc' st G h Q) : S l M b pc loc st G h Q := by
  intro E p e s m args below meth c A H locs ls hW hS hl
  refine k E p e s m args below meth c A H locs ls hW hS ⟨hl.1, hl.2.1, fun i v hv => ?_⟩
  obtain ⟨v', h1, h2⟩ := hw i v hv
  rw [← h2 E]
  exact hl.2.2 i v' h1
theorem ofi_w (x : Int) : Int32.ofInt (x + 4294967296) = Int32.ofInt x := by
  apply Int32.toBitVec_inj.mp
  apply BitVec.eq_of_toNat_eq
  rw [ofi_bv, ofi_bv]
  congr 1
  omega
theorem adk_D {p i j k : Int} {P : PS} (hp : okp p) (j0 : 0 ≤ j) (j9 : j < 9) (k0 : 0 ≤ k) (k9 : k < 9) : ∀ n : Nat, D p (adk p P (9 * i + j) n) k = sm (fun t => D p (rw' P (40 * 0 + t)) i * D p (rw' P (40 * 1 + t)) j * D p (rw' P (40 * 2 + t)) k) n % p
  | 0 => by
    show D p 0 k = 0 % p
    rw [D_z, Int.zero_emod]
  | n + 1 => by
    show D p (pl p (adk p P (9 * i + j) n) (D p (rw' P (40 * 0 + n)) ((9 * i + j) / 9) * D p (rw' P (40 * 1 + n)) ((9 * i + j) % 9) % p) (rw' P (40 * 2 + n))) k = (sm (fun t => D p (rw' P (40 * 0 + t)) i * D p (rw' P (40 * 1 + t)) j * D p (rw' P (40 * 2 + t)) k) n + D p (rw' P (40 * 0 + n)) i * D p (rw' P (40 * 1 + n)) j * D p (rw' P (40 * 2 + n)) k) % p
    rw [D_pl hp k0 k9, adk_D hp j0 j9 k0 k9 n, show (9 * i + j) / 9 = i by omega, show (9 * i + j) % 9 = j by omega, Int.emod_add_emod, Int.add_emod, Int.mul_emod (D p (rw' P (40 * 0 + n)) i * D p (rw' P (40 * 1 + n)) j % p), Int.emod_emod_of_dvd _ (Int.dvd_refl p), ← Int.mul_emod, ← Int.add_emod]
theorem md_eq {p a b : Int} (ha : isD p a) (hb : isD p b) : (a + (p - 1) % p * b) % p = 0 ↔ a = b := by
  by_cases c : p = 1
  · subst c
    unfold isD at ha hb
    constructor
    · intro _; omega
    · intro _; exact Int.emod_one _
  · have hp : 2 ≤ p := by unfold isD at ha; omega
    rw [Int.emod_eq_of_lt (show 0 ≤ p - 1 by omega) (by omega), Int.sub_mul, Int.one_mul, show a + (p * b - b) = (a - b) + p * b by omega, Int.add_mul_emod_self_left]
    constructor
    · intro e
      have d := Int.dvd_of_emod_eq_zero e
      have h1 : a - b < p := by have := ha.2; have := hb.1; omega
      have h2 : -p < a - b := by have := ha.1; have := hb.2; omega
      obtain ⟨k, hk⟩ := d
      have : k = 0 := by
        by_cases k1 : 1 ≤ k
        · have := Int.mul_le_mul_of_nonneg_left k1 (show 0 ≤ p by omega)
          omega
        · by_cases k2 : k ≤ -1
          · have := Int.mul_le_mul_of_nonneg_left k2 (show 0 ≤ p by omega)
            omega
          · omega
      rw [this, Int.mul_zero] at hk
      omega
    · intro e
      rw [e, Int.sub_self, Int.zero_emod]
theorem fdx_at {p x k : Int} (hk : D p x k ≠ 0) : ∀ (n : Nat) (a : Int), 0 ≤ a → a ≤ k → k < a + n → fdx p x n a (ct (D p x) k.toNat - ct (D p x) a.toNat) = k
  | 0, a, _, _, _ => by omega
  | n + 1, a, a0, ak, kn => by
    rw [fdx_s]
    have e := ct_s (f := D p x) a0
    by_cases c : D p x a = 0
    · rw [if_pos c]
      rw [if_pos c] at e
      have hne : a ≠ k := fun z => hk (by rw [← z]; exact c)
      have := fdx_at hk n (a + 1) (by omega) (by omega) (by omega)
      rw [e, Int.add_zero] at this
      exact this
    · rw [if_neg c]
      rw [if_neg c] at e
      by_cases ek : a = k
      · rw [ek, Int.sub_self, if_pos rfl]
      · have m := ct_mono (f := D p x) (a := (a + 1).toNat) (k.toNat - (a + 1).toNat)
        rw [show (a + 1).toNat + (k.toNat - (a + 1).toNat) = k.toNat by omega] at m
        rw [if_neg (by omega)]
        have := fdx_at hk n (a + 1) (by omega) (by omega) (by omega)
        rw [e, show ct (D p x) k.toNat - (ct (D p x) a.toNat + 1) = ct (D p x) k.toNat - ct (D p x) a.toNat + -1 by omega] at this
        exact this
section Mod6
variable {l : Launch} {d : Nat} {h : HP} {p : Int} {P : PS} {B : BS} {Q : Int → GS → HP → Prop}
theorem rX9_added {i j k : Int} (mr : MR h) (h0 : h 75 0 = p) (hp : okp p) (ms : MS h p P) (hW : WF p P) (i0 : 0 ≤ i) (i9 : i < 9) (j0 : 0 ≤ j) (j9 : j < 9) (k0 : 0 ≤ k) (k9 : k < 9) (hQ : Q (D p (adk p P (9 * i + j) (tm P).toNat) k) G0 h) : R l MX9_added d 0 0 [vR 75, vI i, vI j, vI k] G0 h Q := by
  have h40 := hW.2.2.1
  have pb := okp_b hp
  rw [adk_D hp j0 j9 k0 k9] at hQ
  have tb : ∀ t, 0 ≤ D p (rw' P (40 * 0 + t)) i * D p (rw' P (40 * 1 + t)) j * D p (rw' P (40 * 2 + t)) k ∧ D p (rw' P (40 * 0 + t)) i * D p (rw' P (40 * 1 + t)) j * D p (rw' P (40 * 2 + t)) k ≤ 343 := fun t => by
    have d1 := D_D (x := rw' P (40 * 0 + t)) (i := i) hp
    have d2 := D_D (x := rw' P (40 * 1 + t)) (i := j) hp
    have d3 := D_D (x := rw' P (40 * 2 + t)) (i := k) hp
    have m1 := ml_b d1.1 (show _ ≤ 7 by omega) d2.1 (show _ ≤ 7 by omega)
    have m2 := ml_b m1.1 m1.2 d3.1 (show _ ≤ 7 by omega)
    omega
  refine eX9_added 75 i j k (vX9_added_0 75 i j k ?_)
  refine lp_up (σ := Int) (fun t s => S l MX9_added (d, 0, 0, 0, 0) 6 [some (vR 75), some (vI i), some (vI j), some (vI k), some (vI s), some (vI t)] [] G0 h Q) (fun t s => 0 ≤ t ∧ s = sm (fun t => D p (rw' P (40 * 0 + t)) i * D p (rw' P (40 * 1 + t)) j * D p (rw' P (40 * 2 + t)) k) t.toNat) (tm P) ?_ ?_ 0 0 h40.1 ⟨by decide, rfl⟩
  · intro t s ht ⟨t0, es⟩ ih
    have e1 := ms.at t0 ht (w := 0) (by decide) (by decide) i0 i9
    have e2 := ms.at t0 ht (w := 1) (by decide) (by decide) j0 j9
    have e3 := ms.at t0 ht (w := 2) (by decide) (by decide) k0 k9
    rw [show 27 * t + 9 * 0 + i = 27 * t + i by omega] at e1
    rw [show 27 * t + 9 * 1 + j = 27 * t + 9 + j by omega] at e2
    rw [show 27 * t + 9 * 2 + k = 27 * t + 18 + k by omega] at e3
    refine vX9_added_6 75 i j k s t ?_
    simp only [ms.1, mr.sc, e1, e2, e3]
    exact ⟨t75, ⟨by omega, by omega⟩, ⟨by omega, by omega⟩, fun c => by omega, fun _ => ⟨i78 (by omega) (by omega), i78 (by omega) (by omega), i78 (by omega) (by omega), ih _ ⟨by omega, by rw [sm_s t0, es]⟩⟩⟩
  · intro s ⟨t0, es⟩
    have sb := sm_b (f := fun t => D p (rw' P (40 * 0 + t)) i * D p (rw' P (40 * 1 + t)) j * D p (rw' P (40 * 2 + t)) k) (M := 343) (tm P).toNat (fun t _ _ => tb t)
    have sb2 : ((tm P).toNat : Int) * 343 ≤ 40 * 343 := by omega
    rw [← es] at sb hQ
    refine vX9_added_6 75 i j k s _ ?_
    simp only [ms.1, h0]
    exact ⟨t75, ⟨by omega, by omega⟩, ⟨by omega, by omega⟩, fun _ => ⟨⟨⟨sb.1, by omega⟩, by omega, by omega⟩, hQ⟩, fun c => by omega⟩
theorem ofx_D {i j k : Int} (hp : okp p) (k0 : 0 ≤ k) (k9 : k < 9) : D p (ofx p P (9 * i + j)) k = 0 ↔ D p (adk p P (9 * i + j) (tm P).toNat) k = D p (fb P (9 * i + j)) k := by
  unfold ofx
  rw [D_pl hp k0 k9]
  exact md_eq (D_D hp) (D_D hp)
theorem ofx_z {i j k : Int} (hp : okp p) (hW : WF p P) (i0 : 0 ≤ i) (i9 : i < 9) (j0 : 0 ≤ j) (j9 : j < 9) (hk : sz P 2 ≤ k) (k9 : k < 9) : D p (ofx p P (9 * i + j)) k = 0 := by
  have s2 := hW.1 2 (by decide) (by decide)
  have h40 := hW.2.2.1
  rw [ofx_D hp (by omega) k9, adk_D hp j0 j9 (by omega) k9, D_sz hp ⟨(hW.2.1 i j i0 i9 j0 j9).1, (hW.2.1 i j i0 i9 j0 j9).2.1⟩ hk, sm_ext _ (g := fun _ => 0) (fun t t0 t1 => ?_), sm_zero, Int.zero_emod]
  rw [D_sz hp (hW.2.2.2 2 t (by decide) (by decide) t0 (by omega)) hk, Int.mul_zero]
theorem rX9_offJ {i : Int} (mr : MR h) (h0 : h 75 0 = p) (hp : okp p) (mb : MB h p P) (ms : MS h p P) (hW : WF p P) (i0 : 0 ≤ i) (iA : i < sz P 0) : ∀ (n : Nat) (j c : Int), 0 ≤ c → c ≤ 2147483647 → 0 ≤ j → j + n = sz P 1 → (∀ c', wpJ p P i n j c = .inl c' → 0 ≤ c' → c' ≤ c → S l MX9_off (d + 1, 0, 0, 0, 0) 4 [some (vR 75), none, some (vI c'), some (vI (i + 1)), none, none] [] G0 h Q) → (∀ r, wpJ p P i n j c = .inr r → Q r G0 h) → S l MX9_off (d + 1, 0, 0, 0, 0) 17 [some (vR 75), none, some (vI c), some (vI i), some (vI j), none] [] G0 h Q
  | 0, j, c, c0, c1, j0, hj, hl, hr => by
    have s1 := hW.1 1 (by decide) (by decide)
    refine vX9_off_17 75 c i j ?_
    simp only [mr.sz, mb.1 1 (by decide) (by decide)]
    exact ⟨t75, i76 (by decide) (by decide), ⟨by omega, by omega⟩, ⟨by omega, by omega⟩, fun _ => hl c rfl c0 (Int.le_refl c), fun z => by omega⟩
  | n + 1, j, c, c0, c1, j0, hj, hl, hr => by
    have s0 := hW.1 0 (by decide) (by decide)
    have s1 := hW.1 1 (by decide) (by decide)
    have s2 := hW.1 2 (by decide) (by decide)
    have pb := okp_b hp
    rw [wpJ_s] at hl hr
    have c9 : ct (D p (ofx p P (9 * i + j))) 9 = ct (D p (ofx p P (9 * i + j))) (sz P 2).toNat := by
      have := ct_z (f := D p (ofx p P (9 * i + j))) (i := sz P 2) (n := 9) (by omega) (by omega) (fun k k0 k1 => ofx_z hp hW i0 (by omega) j0 (by omega) k0 k1)
      exact this
    refine vX9_off_17 75 c i j ?_
    simp only [mr.sz, mb.1 1 (by decide) (by decide)]
    refine ⟨t75, i76 (by decide) (by decide), ⟨by omega, by omega⟩, ⟨by omega, by omega⟩, fun z => by omega, fun _ => ?_⟩
    refine lp_up (σ := Int) (fun k x => S l MX9_off (d + 1, 0, 0, 0, 0) 31 [some (vR 75), none, some (vI x), some (vI i), some (vI j), some (vI k)] [] G0 h Q) (fun k x => 0 ≤ k ∧ x = c - ct (D p (ofx p P (9 * i + j))) k.toNat ∧ 0 ≤ x) (sz P 2) ?_ ?_ 0 c (by omega) ⟨by decide, by show c = c - 0; omega, c0⟩
    · intro k x hk ⟨k0, ex, x0⟩ ih
      have cb := ct_b (f := D p (ofx p P (9 * i + j))) k.toNat
      have bD := bd_D (P := P) (k := 81 * i + 9 * j + k) hp
      have aD := D_D (x := adk p P (9 * i + j) (tm P).toNat) (i := k) hp
      have eb : h 77 (81 * i + 9 * j + k) = bd p P (81 * i + 9 * j + k) := mb.2 _ (by omega) (by omega)
      have ct1 := ct_s (f := D p (ofx p P (9 * i + j))) k0
      refine vX9_off_31 75 x i j k ?_
      simp only [mr.sz, mb.1 2 (by decide) (by decide)]
      refine ⟨t75, i76 (by decide) (by decide), ⟨by omega, by omega⟩, ⟨by omega, by omega⟩, fun z => by omega, fun _ => rX9_added mr h0 hp ms hW i0 (by omega) j0 (by omega) k0 (by omega) ?_⟩
      simp only [mr.bx, eb]
      rw [bd_at k0 (by omega)] at bD ⊢
      refine ⟨t75, i77 (by omega) (by omega), ⟨by omega, by omega⟩, ⟨by omega, by omega⟩, fun e => ?_, fun e => ⟨⟨by omega, by omega⟩, fun e2 => ?_, fun e2 => ?_⟩⟩
      · have z := (ofx_D hp k0 (by omega)).2 e
        rw [if_pos z] at ct1
        exact ih x ⟨by omega, by omega, x0⟩
      · have z : D p (ofx p P (9 * i + j)) k ≠ 0 := fun z => e ((ofx_D hp k0 (by omega)).1 z)
        rw [if_neg z] at ct1
        exact ih (x + -1) ⟨by omega, by omega, by omega⟩
      · have z : D p (ofx p P (9 * i + j)) k ≠ 0 := fun z => e ((ofx_D hp k0 (by omega)).1 z)
        rw [if_neg z] at ct1
        have m := ct_mono (f := D p (ofx p P (9 * i + j))) (a := (k + 1).toNat) (9 - (k + 1).toNat)
        rw [show (k + 1).toNat + (9 - (k + 1).toNat) = 9 by omega] at m
        have fx := fdx_at z 9 0 (by decide) k0 (by omega)
        rw [show (0 : Int).toNat = 0 from rfl, show ct (D p (ofx p P (9 * i + j))) 0 = 0 from rfl, Int.sub_zero] at fx
        refine hr _ ?_
        rw [if_neg (by omega), show c = ct (D p (ofx p P (9 * i + j))) k.toNat by omega, fx]
    · intro x ⟨k0, ex, x0⟩
      refine vX9_off_31 75 x i j _ ?_
      simp only [mr.sz, mb.1 2 (by decide) (by decide)]
      have cb := ct_b (f := D p (ofx p P (9 * i + j))) (sz P 2).toNat
      refine ⟨t75, i76 (by decide) (by decide), ⟨by omega, by omega⟩, ⟨by omega, by omega⟩, fun _ => ?_, fun z => by omega⟩
      rw [c9] at hl hr
      rw [if_pos (by omega), ← ex] at hl hr
      exact rX9_offJ mr h0 hp mb ms hW i0 iA n (j + 1) x x0 (by omega) (by omega) (by omega) (fun c' e1 e2 e3 => hl c' e1 e2 (by omega)) hr
theorem rX9_offI (mr : MR h) (h0 : h 75 0 = p) (hp : okp p) (mb : MB h p P) (ms : MS h p P) (hW : WF p P) : ∀ (n : Nat) (i c : Int), 0 ≤ c → c ≤ 2147483647 → 0 ≤ i → i + n = sz P 0 → Q (wpI p P n i c) G0 h → S l MX9_off (d + 1, 0, 0, 0, 0) 4 [some (vR 75), none, some (vI c), some (vI i), none, none] [] G0 h Q
  | 0, i, c, c0, c1, i0, hi, hQ => by
    have s0 := hW.1 0 (by decide) (by decide)
    refine vX9_off_4 75 c i ?_
    simp only [mr.sz, mb.1 0 (by decide) (by decide)]
    exact ⟨t75, i76 (by decide) (by decide), ⟨by omega, by omega⟩, ⟨by omega, by omega⟩, fun _ => hQ, fun z => by omega⟩
  | n + 1, i, c, c0, c1, i0, hi, hQ => by
    have s0 := hW.1 0 (by decide) (by decide)
    have s1 := hW.1 1 (by decide) (by decide)
    rw [wpI_s] at hQ
    refine vX9_off_4 75 c i ?_
    simp only [mr.sz, mb.1 0 (by decide) (by decide)]
    refine ⟨t75, i76 (by decide) (by decide), ⟨by omega, by omega⟩, ⟨by omega, by omega⟩, fun z => by omega, fun _ => ?_⟩
    refine rX9_offJ mr h0 hp mb ms hW i0 (by omega) (sz P 1).toNat 0 c c0 c1 (by decide) (by omega) (fun c' e e0 e1 => ?_) (fun r e => ?_)
    · rw [e] at hQ
      exact rX9_offI mr h0 hp mb ms hW n (i + 1) c' e0 (by omega) (by omega) (by omega) hQ
    · rw [e] at hQ
      exact hQ
/-- a negative number, counted down m times, as an int -/
def Ng (n m x : Int) : Prop := inR x ∧ (x = n - m ∨ x = n - m + 4294967296)
theorem Ng_nz {n m x : Int} (h : Ng n m x) (hn : inR n) (n0 : n < 0) (m0 : 0 ≤ m) (m1 : m ≤ 1000) : x ≠ 0 := by
  obtain ⟨h1, h2⟩ := h
  have := hn.1
  omega
theorem rX9_offN {n : Int} (mr : MR h) (h0 : h 75 0 = p) (hp : okp p) (mb : MB h p P) (ms : MS h p P) (hW : WF p P) (hn : inR n) (n0 : n < 0) (hQ : Q (-1) G0 h) : S l MX9_off (d + 1, 0, 0, 0, 0) 4 [some (vR 75), none, some (vI n), some (vI 0), none, none] [] G0 h Q := by
  have s0 := hW.1 0 (by decide) (by decide)
  have s1 := hW.1 1 (by decide) (by decide)
  have s2 := hW.1 2 (by decide) (by decide)
  have pb := okp_b hp
  refine lp_up (σ := Int × Int) (fun i s => S l MX9_off (d + 1, 0, 0, 0, 0) 4 [some (vR 75), none, some (vI s.2), some (vI i), none, none] [] G0 h Q) (fun i s => 0 ≤ i ∧ Ng n s.1 s.2 ∧ 0 ≤ s.1 ∧ s.1 ≤ 81 * i) (sz P 0) ?_ ?_ 0 (0, n) (by omega) ⟨by decide, ⟨hn, .inl (by show n = n - 0; omega)⟩, Int.le_refl 0, Int.le_refl 0⟩
  · intro i s hi ⟨i0, ng, m0, m1⟩ ih
    refine vX9_off_4 75 _ i ?_
    simp only [mr.sz, mb.1 0 (by decide) (by decide)]
    refine ⟨t75, i76 (by decide) (by decide), ⟨by omega, by omega⟩, ⟨by omega, by omega⟩, fun z => by omega, fun _ => ?_⟩
    refine lp_up (σ := Int × Int) (fun j s => S l MX9_off (d + 1, 0, 0, 0, 0) 17 [some (vR 75), none, some (vI s.2), some (vI i), some (vI j), none] [] G0 h Q) (fun j s => 0 ≤ j ∧ Ng n s.1 s.2 ∧ 0 ≤ s.1 ∧ s.1 ≤ 81 * i + 9 * j) (sz P 1) ?_ ?_ 0 s (by omega) ⟨by decide, ng, m0, by omega⟩
    · intro j s hj ⟨j0, ng, m0, m1⟩ ih2
      refine vX9_off_17 75 _ i j ?_
      simp only [mr.sz, mb.1 1 (by decide) (by decide)]
      refine ⟨t75, i76 (by decide) (by decide), ⟨by omega, by omega⟩, ⟨by omega, by omega⟩, fun z => by omega, fun _ => ?_⟩
      refine lp_up (σ := Int × Int) (fun k s => S l MX9_off (d + 1, 0, 0, 0, 0) 31 [some (vR 75), none, some (vI s.2), some (vI i), some (vI j), some (vI k)] [] G0 h Q) (fun k s => 0 ≤ k ∧ Ng n s.1 s.2 ∧ 0 ≤ s.1 ∧ s.1 ≤ 81 * i + 9 * j + k) (sz P 2) ?_ ?_ 0 s (by omega) ⟨by decide, ng, m0, by omega⟩
      · intro k s hk ⟨k0, ng, m0, m1⟩ ih3
        have nz := Ng_nz ng hn n0 m0 (by omega)
        have bD := bd_D (P := P) (k := 81 * i + 9 * j + k) hp
        have aD := D_D (x := adk p P (9 * i + j) (tm P).toNat) (i := k) hp
        have eb : h 77 (81 * i + 9 * j + k) = bd p P (81 * i + 9 * j + k) := mb.2 _ (by omega) (by omega)
        refine vX9_off_31 75 _ i j k ?_
        simp only [mr.sz, mb.1 2 (by decide) (by decide)]
        refine ⟨t75, i76 (by decide) (by decide), ⟨by omega, by omega⟩, ⟨by omega, by omega⟩, fun z => by omega, fun _ => rX9_added mr h0 hp ms hW i0 (by omega) j0 (by omega) k0 (by omega) ?_⟩
        simp only [mr.bx, eb]
        rw [bd_at k0 (by omega)] at bD ⊢
        refine ⟨t75, i77 (by omega) (by omega), ⟨by omega, by omega⟩, ⟨by omega, by omega⟩, fun e => ih3 s ⟨by omega, ng, m0, by omega⟩, fun e => ⟨ng.1, fun e2 => ?_, fun e2 => absurd e2 nz⟩⟩
        obtain ⟨ng1, ng2⟩ := ng
        by_cases w : -2147483648 ≤ s.2 + -1
        · exact ih3 (s.1 + 1, s.2 + -1) ⟨by omega, ⟨⟨w, by show s.2 + -1 ≤ _; have := ng1.2; omega⟩, by show s.2 + -1 = n - (s.1 + 1) ∨ s.2 + -1 = n - (s.1 + 1) + 4294967296; omega⟩, by show 0 ≤ s.1 + 1; omega, by show s.1 + 1 ≤ _; omega⟩
        · have := ih3 (s.1 + 1, s.2 + -1 + 4294967296) ⟨by omega, ⟨⟨by show _ ≤ s.2 + -1 + 4294967296; have := ng1.1; omega, by show s.2 + -1 + 4294967296 ≤ _; omega⟩, by
            have := hn.1
            show s.2 + -1 + 4294967296 = n - (s.1 + 1) ∨ s.2 + -1 + 4294967296 = n - (s.1 + 1) + 4294967296
            have := ng1.1
            omega⟩, by show 0 ≤ s.1 + 1; omega, by show s.1 + 1 ≤ _; omega⟩
          refine S_av (fun q v hv => ?_) this
          match q with
          | 0 => simp at hv; exact ⟨_, rfl, fun E => by rw [← hv]⟩
          | 1 => simp at hv
          | 2 =>
            simp at hv
            refine ⟨_, rfl, fun E => ?_⟩
            rw [← hv]
            show Value.int (Int32.ofInt (s.2 + -1)) = Value.int (Int32.ofInt (s.2 + -1 + 4294967296))
            rw [ofi_w]
          | 3 => simp at hv; exact ⟨_, rfl, fun E => by rw [← hv]⟩
          | 4 => simp at hv; exact ⟨_, rfl, fun E => by rw [← hv]⟩
          | 5 => simp at hv; exact ⟨_, rfl, fun E => by rw [← hv]⟩
          | q + 6 => simp at hv
      · intro s ⟨k0, ng, m0, m1⟩
        refine vX9_off_31 75 _ i j _ ?_
        simp only [mr.sz, mb.1 2 (by decide) (by decide)]
        exact ⟨t75, i76 (by decide) (by decide), ⟨by omega, by omega⟩, ⟨by omega, by omega⟩, fun _ => ih2 s ⟨by omega, ng, m0, by omega⟩, fun z => by omega⟩
    · intro s ⟨j0, ng, m0, m1⟩
      refine vX9_off_17 75 _ i _ ?_
      simp only [mr.sz, mb.1 1 (by decide) (by decide)]
      exact ⟨t75, i76 (by decide) (by decide), ⟨by omega, by omega⟩, ⟨by omega, by omega⟩, fun _ => ih s ⟨by omega, ng, m0, by omega⟩, fun z => by omega⟩
  · intro s ⟨i0, ng, m0, m1⟩
    refine vX9_off_4 75 _ _ ?_
    simp only [mr.sz, mb.1 0 (by decide) (by decide)]
    exact ⟨t75, i76 (by decide) (by decide), ⟨by omega, by omega⟩, ⟨by omega, by omega⟩, fun _ => hQ, fun z => by omega⟩
theorem rX9_offP {n : Int} (bw : BW B) (hm : MX h B) (hn : 0 ≤ n ∧ n ≤ 2147483647) (hQ : Q (wpI (bp B) (bP B) (sz (bP B) 0).toNat 0 n) G0 h) : R l MX9_off (d + 1) 0 0 [vR 75, vI n] G0 h Q := by
  have s0 := bw.2.1.1 0 (by decide) (by decide)
  exact eX9_off 75 n (vX9_off_0 75 n (rX9_offI hm.1 hm.2.1 bw.1 hm.2.2.1 hm.2.2.2.1 bw.2.1 (sz (bP B) 0).toNat 0 n hn.1 hn.2 (by decide) (by omega) hQ))
theorem rX9_off {n r : Int} {B' : BS} (hn : inR n) (bw : BW B) (hm : MX h B) (hA : A_of n B r B') (hQ : ∀ h', MX h' B' → FM h h' → Q r G0 h') : R l MX9_off (d + 1) 0 0 [vR 75, vI n] G0 h Q := by
  obtain ⟨eB, hA⟩ := hA
  rw [eB] at hQ
  rcases hA with ⟨n0, rfl⟩ | ⟨n0, rfl⟩
  · exact rX9_offP bw hm ⟨n0, hn.2⟩ (hQ h hm FM.rf)
  · exact eX9_off 75 n (vX9_off_0 75 n (rX9_offN hm.1 hm.2.1 bw.1 hm.2.2.1 hm.2.2.2.1 bw.2.1 hn n0 (hQ h hm FM.rf)))
theorem rX9_makes {r : Int} {B' : BS} (bw : BW B) (hm : MX h B) (hA : A_mk B r B') (hQ : ∀ h', MX h' B' → FM h h' → Q r G0 h') : R l MX9_makes (d + 2) 0 0 [vR 75] G0 h Q := by
  obtain ⟨eB, hA⟩ := hA
  rw [eB] at hQ
  have hW := bw.2.1
  have s0 := hW.1 0 (by decide) (by decide)
  have s1 := hW.1 1 (by decide) (by decide)
  have wb := wpI_b (p := bp B) (P := bP B) s1.2 (sz (bP B) 0).toNat 0 0 (by decide) (by omega)
  refine eX9_makes 75 (vX9_makes_0 75 ⟨t75, rX9_offP bw hm (by decide) ⟨⟨by omega, by omega⟩, fun c => ?_, fun c => ?_⟩⟩)
  · rcases hA with ⟨e, rfl⟩ | ⟨e, rfl⟩
    · omega
    · exact hQ h hm FM.rf
  · rcases hA with ⟨e, rfl⟩ | ⟨e, rfl⟩
    · exact hQ h hm FM.rf
    · omega
end Mod6
