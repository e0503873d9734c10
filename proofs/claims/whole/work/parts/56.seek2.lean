def SR (h : HP) : Prop := (h 51 0 = 1 ∧ h 51 1 = 62 ∧ h 51 2 = 66 ∧ h 51 3 = 52 ∧ h 51 4 = 53 ∧ h 51 5 = 54 ∧ h 51 6 = 55 ∧ h 51 7 = 61) ∧ ∀ m : Int, 0 ≤ m → m ≤ 4 → h 55 m = 56 + m
def FrK (h h' : HP) : Prop := ∀ b : Int, (b < 57 ∨ (61 < b ∧ b < 66) ∨ 69 < b) → h' b = h b
theorem tL {m : Int} (m0 : 0 ≤ m) (m4 : m ≤ 4) : ty G0 (56 + m) = 10 ∧ ln G0 (56 + m) = 60 := by
  rcases (show m = 0 ∨ m = 1 ∨ m = 2 ∨ m = 3 ∨ m = 4 by omega) with rfl | rfl | rfl | rfl | rfl <;> decide +kernel
theorem iaL {m i : Int} (m0 : 0 ≤ m) (m4 : m ≤ 4) (i0 : 0 ≤ i) (i1 : i < 60) : inA G0 10 (56 + m) i := ⟨(tL m0 m4).1, i0, by rw [(tL m0 m4).2]; exact i1⟩
theorem ia55 {m : Int} (m0 : 0 ≤ m) (m4 : m ≤ 4) : inA G0 13 55 m := ⟨by decide +kernel, m0, by rw [show ln G0 55 = 5 by decide +kernel]; omega⟩
theorem ia5x {b i : Int} (hb : b = 52 ∨ b = 53 ∨ b = 54) (i0 : 0 ≤ i) (i1 : i < 60) : inA G0 10 b i := by
  rcases hb with rfl | rfl | rfl <;> exact ⟨by decide +kernel, i0, by rw [show ln G0 _ = 60 by decide +kernel]; exact i1⟩
section Seek
variable {l : Launch} {d : Nat} {h : HP} {p K : Int} {Q : Int → GS → HP → Prop}
theorem SR.fr {h' : HP} (sr : SR h) (e1 : h' 51 = h 51) (e2 : h' 55 = h 55) : SR h' := by
  unfold SR
  rw [e1, e2]
  exact sr
theorem rX6_meet {m t : Int} (hg : Gd h p) (sr : SR h) (h8 : h 51 8 = K) (K60 : 0 ≤ K ∧ K ≤ 60) (m0 : 0 ≤ m) (m4 : m < 4) (t0 : 0 ≤ t) (tK : t < K) (hl : ∀ i, t ≤ i → i < K → isR p (h (56 + m) i)) (hz : h (56 + m) t ≠ 0) (hQ : ∀ h', (∀ b, b ≠ 56 + (m + 1) → h' b = h b) → (∀ i, t < i → i < K → h' (56 + (m + 1)) i = pl p (h (56 + m) i) ((p - D p (h (56 + m) i) (FI p (shp p (h (56 + m) t)))) % p) (shp p (h (56 + m) t))) → Q 0 G0 h') : R l MX6_meet (d + 2) 0 0 [vR 51, vI m, vI t] G0 h Q := by
  have rR := hl t (by omega) tK
  have fi := FI_ok hg.1 rR hz
  have fs := FI_shp hg.1 rR hz
  refine eX6_meet 51 m t (vX6_meet_0 51 m t ?_)
  simp only [sr.1.1, sr.1.2.2.2.2.2.2.1, sr.2 m m0 (by omega)]
  refine ⟨by decide +kernel, ia55 m0 (by omega), iaL m0 (by omega) t0 (by omega), by decide +kernel, rX1_shape hg rR ⟨by decide +kernel, ?_⟩⟩
  simp only [sr.1.1]
  refine ⟨by decide +kernel, rX1_firstIndex hg (shp_R hg.1) ?_⟩
  refine lp_up (σ := HP) (fun i hh => S l MX6_meet (d + 1 + 1, 0, 0, 0, 0) 31 [some (vR 51), some (vI m), none, some (vI (shp p (h (56 + m) t))), some (vI (FI p (shp p (h (56 + m) t)))), some (vI i), none] [] G0 hh Q) (fun i hh => t < i ∧ (∀ b, b ≠ 56 + (m + 1) → hh b = h b) ∧ ∀ j, t < j → j < i → hh (56 + (m + 1)) j = pl p (h (56 + m) j) ((p - D p (h (56 + m) j) (FI p (shp p (h (56 + m) t)))) % p) (shp p (h (56 + m) t))) K ?_ ?_ (t + 1) h (by omega) ⟨by omega, fun _ _ => rfl, fun j j0 j1 => by omega⟩
  · intro i hh hi ⟨i0, fr, hv⟩ ih
    have e51 := fr 51 (by omega)
    have e55 := fr 55 (by omega)
    have e56 := fr (56 + m) (by omega)
    have g' : Gd hh p := hg.lo (fun b b0 b1 => fr b (by omega))
    have lR := hl i (by omega) hi
    refine vX6_meet_31 51 m _ _ i ?_
    simp only [e51, e55, e56, h8, sr.1.1, sr.1.2.2.2.2.2.2.1, sr.2 m m0 (by omega), sr.2 (m + 1) (by omega) (by omega)]
    refine ⟨by decide +kernel, ⟨by omega, by omega⟩, ⟨by omega, by omega⟩, fun c => by omega, fun _ => ⟨ia55 m0 (by omega), iaL m0 (by omega) (by omega) (by omega), ia55 (by omega) (by omega), by decide +kernel, ?_⟩⟩
    refine rX1_number g' (isR_b hg.1 lR) (by rw [fs.1]; omega) ⟨by decide +kernel, ?_⟩
    refine rX1_minus g' lR (shp_R hg.1) (D_D hg.1) ⟨iaL (by omega) (by omega) (by omega) (by omega), fun h17 e17 => ?_⟩
    subst e17
    refine ih _ ⟨by omega, fun b hb => by rw [hset_oa hb]; exact fr b hb, fun j j0 j1 => ?_⟩
    by_cases e : j = i
    · rw [e, hset_s]
    · rw [hset_oj e]; exact hv j j0 (by omega)
  · intro hh ⟨i0, fr, hv⟩
    have e51 := fr 51 (by omega)
    refine vX6_meet_31 51 m _ _ K ?_
    simp only [e51, h8]
    refine ⟨by decide +kernel, ⟨by omega, by omega⟩, ⟨by omega, by omega⟩, fun _ => hQ hh fr hv, fun c => by omega⟩
end Seek
theorem XS.ext {h : HP} {e p : Int} {n : Nat} {a a' : Int → Int} (hX : XS h e p n a) (he : ∀ s : Int, 0 ≤ s → s < n → a' s = a s) : XS h e p n a' := by
  obtain ⟨v, q, b, x1, x2, x3, x4, x5⟩ := hX
  refine ⟨v, q, b, x1, x2, fun m hm => ?_, Ind_ext x4 (fun s i s0 s1 _ _ => ?_), x5⟩
  · have := x3 m hm
    rw [he m (by omega) (by omega)]
    refine ⟨this.1, this.2.1, this.2.2.1, fun i i0 i9 => ?_, this.2.2.2.2⟩
    rw [sm_ext (m + 1) (g := fun s => D p (b m) s * D p (a s) i) (fun s s0 s1 => by rw [he s s0 (by omega)])]
    exact this.2.2.2.1 i i0 i9
  · show D p (a' s) i = D p (a s) i
    rw [he s s0 s1]
section Pick
variable {l : Launch} {p K C r0 : Int} {tb : Int → Int} {L : Int → Int → Int} {n : Nat}
/-- pickFrom: the first choice that goes on from c, or none -/
theorem rX6_pickFrom (hp : okp p) (K60 : 0 ≤ K ∧ K ≤ 60) (n4 : n ≤ 4) (r00 : 0 ≤ r0) (htb : ∀ t, 0 ≤ t → t < K → isR p (tb t)) : ∀ (k d D0 : Nat), d + k = n → ∀ (h : HP) (Q : Int → GS → HP → Prop) (from' met : Int) (mt : Nat) (c v q : Int → Int), Gd h p → SR h → h 51 8 = K → h 51 9 = n → h 51 10 = n - r0 → (∀ t, 0 ≤ t → t < K → h 54 t = tb t) → (0 ≤ from' ∧ from' ≤ K) → 0 ≤ met → r0 + met = mt → mt ≤ n →
    XS h 66 p d (fun s => tb (c s)) → (∀ s, 0 ≤ s → s < d → h 61 s = c s) → (∀ s : Int, 0 ≤ s → s + 1 < d → c s < c (s + 1)) → (∀ s : Int, 0 ≤ s → s < d → 0 ≤ c s ∧ c s < from' ∧ c s < K) →
    BV p mt v q → (∀ s : Int, 0 ≤ s → s < d → Sp p 9 mt (DV p v) (D p (tb (c s)))) → (∀ k : Int, 0 ≤ k → k < C → Sp p 9 mt (DV p v) (L k)) →
    (∀ (m : Nat) (w : Int → Int → Int), (∀ s : Int, 0 ≤ s → s < d → Sp p 9 m w (D p (tb (c s)))) → (∀ k : Int, 0 ≤ k → k < C → Sp p 9 m w (L k)) → ∀ s : Int, 0 ≤ s → s < mt → Sp p 9 m w (DV p v s)) →
    (∀ t, from' ≤ t → t < K → h (56 + met) t = rdc p v q (tb t) mt) →
    (∀ h' c', Ext p 9 (DV p tb) L C K n d from' c c' → (∀ c'', Ext p 9 (DV p tb) L C K n d from' c c'' → LE n c' c'') → XS h' 66 p n (fun s => tb (c' s)) → (∀ s, 0 ≤ s → s < n → h' 61 s = c' s) → FrK h h' → Q 1 G0 h') →
    ((∀ c', ¬ Ext p 9 (DV p tb) L C K n d from' c c') → ∀ h', XS h' 66 p d (fun s => tb (c s)) → FrK h h' → (∀ m, 0 ≤ m → m ≤ met → h' (56 + m) = h (56 + m)) → (∀ s, 0 ≤ s → s < d → h' 61 s = h 61 s) → Q 0 G0 h') →
    R l MX6_pickFrom (D0 + k + 4) 0 0 [vR 51, vI d, vI from', vI met] G0 h Q := by
  intro k
  induction k with
  | zero =>
    intro d D0 hd h Q from' met mt c v q hg sr h8 h9 h10 h54 f0 m0 hmt hmn xs h61 hinc hc hB hT hL hV hlf hQ1 hQ0
    have hd' : d = n := by omega
    subst hd'
    refine eX6_pickFrom 51 d from' met (vX6_pickFrom_0 51 d from' met ?_)
    simp only [h9]
    refine ⟨by decide +kernel, ⟨by omega, by omega⟩, ⟨by omega, by omega⟩, fun _ => ?_, fun c => by omega⟩
    obtain ⟨v', q', b', xb, hB', hA', hI', hn'⟩ := id xs
    refine hQ1 h c ⟨⟨hinc, fun s s0 s1 => ⟨(hc s s0 s1).1, (hc s s0 s1).2.2⟩, hI', DV p v, fun s s0 s1 => Sp_le (hT s s0 s1) hmn, fun k k0 k1 => Sp_le (hL k k0 k1) hmn⟩, fun _ _ _ => rfl, fun z => by omega⟩ (fun c'' hE => .inl (fun s s0 s1 => (hE.2.1 s s0 s1).symm)) xs h61 (fun _ _ => rfl)
  | succ k ihk =>
    intro d D0 hd h Q from' met mt c v q hg sr h8 h9 h10 h54 f0 m0 hmt hmn xs h61 hinc hc hB hT hL hV hlf hQ1 hQ0
    refine eX6_pickFrom 51 d from' met (vX6_pickFrom_0 51 d from' met ?_)
    simp only [h9]
    refine ⟨by decide +kernel, ⟨by omega, by omega⟩, ⟨by omega, by omega⟩, fun c => by omega, fun _ => ⟨fun _ => ?_, fun c => by omega⟩⟩
    -- trying from from' on
    have Lp : ∀ (i : Int) (hh : HP), from' ≤ i → i ≤ K → (XS hh 66 p d (fun s => tb (c s)) ∧ FrK h hh ∧ (∀ m, 0 ≤ m → m ≤ met → hh (56 + m) = h (56 + m)) ∧ (∀ s, 0 ≤ s → s < d → hh 61 s = h 61 s) ∧ ∀ c', Ext p 9 (DV p tb) L C K n d from' c c' → i ≤ c' d) → S l MX6_pickFrom (D0 + k + 4 + 1, 0, 0, 0, 0) 18 [some (vR 51), some (vI d), none, some (vI met), some (vI i), none] [] G0 hh Q := by
      intro i hh hi hK hI
      · refine lp_up (σ := HP) (fun i hh => S l MX6_pickFrom (D0 + k + 4 + 1, 0, 0, 0, 0) 18 [some (vR 51), some (vI d), none, some (vI met), some (vI i), none] [] G0 hh Q) (fun i hh => from' ≤ i ∧ (XS hh 66 p d (fun s => tb (c s)) ∧ FrK h hh ∧ (∀ m, 0 ≤ m → m ≤ met → hh (56 + m) = h (56 + m)) ∧ (∀ s, 0 ≤ s → s < d → hh 61 s = h 61 s) ∧ ∀ c', Ext p 9 (DV p tb) L C K n d from' c c' → i ≤ c' d)) K ?_ ?_ i hh hK ⟨hi, hI⟩
        · intro t hh tK ⟨ft, xs', fr, lo, pk, ne⟩ ih
          have e51 := fr 51 (by omega)
          have e54 := fr 54 (by omega)
          have e55 := fr 55 (by omega)
          have e56 := lo met m0 (by omega)
          have g' : Gd hh p := hg.lo (fun b b0 b1 => fr b (by omega))
          have sr' : SR hh := sr.fr e51 e55
          have hl := hlf t ft tK
          have tR := htb t (by omega) tK
          have rR := rdc_R (v := v) (q := q) hp tR mt
          have rb := isR_b hp rR
          -- going on after t
          have next : ∀ h2, XS h2 66 p d (fun s => tb (c s)) → FrK h h2 → (∀ m, 0 ≤ m → m ≤ met → h2 (56 + m) = h (56 + m)) → (∀ s, 0 ≤ s → s < d → h2 61 s = h 61 s) → (∀ c', Ext p 9 (DV p tb) L C K n d from' c c' → c' d ≠ t) → S l MX6_pickFrom (D0 + k + 4 + 1, 0, 0, 0, 0) 18 [some (vR 51), some (vI d), none, some (vI met), some (vI (t + 1)), none] [] G0 h2 Q := fun h2 x1 x2 x3 x4 x5 => ih h2 ⟨by omega, x1, x2, x3, x4, fun c' hE => by
            have := ne c' hE
            have := x5 c' hE
            omega⟩
          -- t doesn't do if it comes of those chosen
          have noSp : Sp p 9 d (DV p fun s => tb (c s)) (D p (tb t)) → ∀ c', Ext p 9 (DV p tb) L C K n d from' c c' → c' d ≠ t := fun hs c' hE e => by
            obtain ⟨cf, hcf⟩ := hs
            have hI := hE.1.2.2.1
            have h1 := hI (fun s => if s < d then cf s else if s = d then -1 else 0) (fun i i0 i9 => by
              have e1 : sm (fun s => (if s < (d : Int) then cf s else if s = d then -1 else 0) * DV p tb (c' s) i) n = sm (fun s => (if s < (d : Int) then cf s else if s = d then -1 else 0) * DV p tb (c' s) i) (d + 1) := by
                have := sm_z (f := fun s => (if s < (d : Int) then cf s else if s = d then -1 else 0) * DV p tb (c' s) i) (i := (d + 1 : Nat)) (n := n) (by omega) (by omega) (fun j j0 j1 => by rw [if_neg (show ¬ j < (d : Int) by omega), if_neg (show ¬ j = (d : Int) by omega), Int.zero_mul])
                rw [Int.toNat_natCast, Int.toNat_natCast] at this
                exact this
              rw [e1]
              show p ∣ sm (fun s => (if s < (d : Int) then cf s else if s = d then -1 else 0) * D p (tb (c' s)) i) d + (if (d : Int) < d then cf d else if (d : Int) = d then -1 else 0) * D p (tb (c' d)) i
              rw [if_neg (show ¬ (d : Int) < d by omega), if_pos rfl, e, sm_ext d (g := fun s => cf s * D p (tb (c s)) i) (fun s s0 s1 => by rw [if_pos s1, hE.2.1 s s0 s1])]
              have h2 := (Int.dvd_neg).2 (hcf i i0 i9)
              rw [show ∀ a b : Int, -(a - b) = b + -1 * a by intro a b; omega] at h2
              exact h2) d (by omega) (by omega)
            rw [if_neg (show ¬ (d : Int) < d by omega), if_pos rfl] at h1
            have hb := okp_b hp
            have := Int.le_of_dvd (show (0 : Int) < 1 by decide) ((Int.dvd_neg).1 h1)
            omega
          -- a stranger too many doesn't do
          have noSt : rdc p v q (tb t) mt ≠ 0 → n ≤ mt → ∀ c', Ext p 9 (DV p tb) L C K n d from' c c' → c' d ≠ t := fun hz hm c' hE e => by
            obtain ⟨w, w1, w2⟩ := hE.1.2.2.2
            have hvw := hV n w (fun s s0 s1 => by have := w1 s s0 (by omega); rw [hE.2.1 s s0 s1] at this; exact this) w2
            have hnS : ¬ Sp p 9 mt (DV p v) (D p (tb t)) := fun hs => hz ((rdc_0 hp hB tR).2 hs)
            have hI2 : Ind p 9 (mt + 1) (DV p (up1 v mt (tb t))) := Ind_up hp (BV_ind hB) hnS
            have := steinitz hp n (mt + 1) w _ hI2 (fun s s0 s1 => by
              by_cases es : s = (mt : Int)
              · subst es
                show Sp p 9 n w (fun i => D p (up1 v mt (tb t) mt) i)
                rw [up1_s]
                have := w1 d (by omega) (by omega)
                rw [e] at this
                exact this
              · show Sp p 9 n w (fun i => D p (up1 v mt (tb t) s) i)
                rw [up1_o es]
                exact hvw s s0 (by omega))
            omega
          have upf : up1 (fun s => tb (c s)) d (tb t) = fun s => tb (up1 c d t s) := by
            funext s
            unfold up1
            split <;> rfl
          -- the deeper search, with v' and met'
          have deep : ∀ (h1 : HP) (met' : Int) (mt' : Nat) (v' q' : Int → Int), XS h1 66 p (d + 1) (up1 (fun s => tb (c s)) d (tb t)) → FrK h h1 → (∀ m, 0 ≤ m → m ≤ met → h1 (56 + m) = h (56 + m)) → (∀ s, 0 ≤ s → s < d → h1 61 s = h 61 s) → h1 61 d = t → r0 + met' = mt' → met ≤ met' → mt' ≤ n → BV p mt' v' q' → Sp p 9 mt' (DV p v') (D p (tb t)) → (∀ x, Sp p 9 mt (DV p v) x → Sp p 9 mt' (DV p v') x) → (∀ (m : Nat) (w : Int → Int → Int), (∀ s : Int, 0 ≤ s → s < mt → Sp p 9 m w (DV p v s)) → Sp p 9 m w (D p (tb t)) → ∀ s : Int, 0 ≤ s → s < mt' → Sp p 9 m w (DV p v' s)) → (∀ i, t < i → i < K → h1 (56 + met') i = rdc p v' q' (tb i) mt') →
              R l MX6_pickFrom (D0 + k + 4) 0 0 [vR 51, vI (d + 1), vI (t + 1), vI met'] G0 h1 (fun r22 G23 h24 => (inR r22) ∧ ((r22 = 0 → (ty G23 51 = 6) ∧ (ty G23 (h24 51 2) = 0) ∧ R l MX0_removeLast (D0 + k + 4) 0 0 [vR (h24 51 2)] G23 h24 (fun r28 G29 h30 => S l MX6_pickFrom (D0 + k + 4 + 1, 0, 0, 0, 0) 18 [some (vR 51), some (vI d), none, some (vI met), some (vI (t + 1)), none] [] G29 h30 Q)) ∧ (r22 ≠ 0 → Q 1 G23 h24))) := by
            intro h1 met' mt' v' q' x1 fr1 lo1 pk1 pd hm' mm' mn' hB' hTt hvv hVV hlf'
            have a51 := fr1 51 (by omega)
            have a54 := fr1 54 (by omega)
            have a55 := fr1 55 (by omega)
            have := ihk (d + 1) D0 (by omega) h1 (fun r22 G23 h24 => (inR r22) ∧ ((r22 = 0 → (ty G23 51 = 6) ∧ (ty G23 (h24 51 2) = 0) ∧ R l MX0_removeLast (D0 + k + 4) 0 0 [vR (h24 51 2)] G23 h24 (fun r28 G29 h30 => S l MX6_pickFrom (D0 + k + 4 + 1, 0, 0, 0, 0) 18 [some (vR 51), some (vI d), none, some (vI met), some (vI (t + 1)), none] [] G29 h30 Q)) ∧ (r22 ≠ 0 → Q 1 G23 h24))) (t + 1) met' mt' (up1 c d t) v' q' (hg.lo (fun b b0 b1 => fr1 b (by omega))) (sr.fr a51 a55) (by rw [a51]; exact h8) (by rw [a51]; exact h9) (by rw [a51]; exact h10) (by rw [a54]; exact h54) (by omega) (by omega) hm' mn' (by rw [← upf]; exact x1) (fun s s0 s1 => by
                by_cases es : s = (d : Int)
                · rw [es, up1_s]; exact pd
                · rw [up1_o es, pk1 s s0 (by omega)]; exact h61 s s0 (by omega))
              (fun s s0 s1 => by
                by_cases es : s + 1 = (d : Int)
                · rw [es, up1_s, up1_o (by omega)]
                  have := (hc s s0 (by omega)).2.1
                  omega
                · rw [up1_o (by omega), up1_o es]
                  exact hinc s s0 (by omega))
              (fun s s0 s1 => by
                by_cases es : s = (d : Int)
                · rw [es, up1_s]; omega
                · rw [up1_o es]
                  have := hc s s0 (by omega)
                  omega)
              hB' (fun s s0 s1 => by
                by_cases es : s = (d : Int)
                · rw [es, up1_s]; exact hTt
                · rw [up1_o es]; exact hvv _ (hT s s0 (by omega)))
              (fun k k0 k1 => hvv _ (hL k k0 k1))
              (fun m w w1 w2 => hVV m w (hV m w (fun s s0 s1 => by have := w1 s s0 (by omega); rw [up1_o (by omega)] at this; exact this) w2) (by have := w1 d (by omega) (by omega); rw [up1_s] at this; exact this))
              (fun i i0 i1 => hlf' i (by omega) i1)
              (fun h' c' hE hmin x2 pk2 fr2 => by
                refine ⟨⟨by decide, by decide⟩, fun z => by omega, fun _ => ?_⟩
                have hcd : c' d = t := by rw [hE.2.1 d (by omega) (by omega), up1_s]
                refine hQ1 h' c' ⟨hE.1, fun s s0 s1 => by rw [hE.2.1 s s0 (by omega), up1_o (by omega)], fun _ => by rw [hcd]; exact ft⟩ (fun c'' hE'' => ?_) x2 pk2 (fun b hb => (fr2 b hb).trans (fr1 b hb))
                have h4 := ne c'' hE''
                by_cases e4 : c'' d = t
                · refine hmin c'' ⟨hE''.1, fun s s0 s1 => ?_, fun z => ?_⟩
                  · by_cases es : s = (d : Int)
                    · rw [es, up1_s]; exact e4
                    · rw [up1_o es]; exact hE''.2.1 s s0 (by omega)
                  · have := hE''.1.1 d (by omega) (by omega)
                    rw [e4] at this
                    have e5 : ((d + 1 : Nat) : Int) = (d : Int) + 1 := by omega
                    rw [e5]; omega
                · exact .inr ⟨d, by omega, by omega, fun i i0 i1 => by rw [hE.2.1 i i0 (by omega), up1_o (by omega), hE''.2.1 i i0 i1], by omega⟩)
              (fun hno h' x2 fr2 lo2 pk2 => by
                refine ⟨⟨by decide, by decide⟩, fun _ => ?_, fun z => by omega⟩
                have b51 : h' 51 = h 51 := (fr2 51 (by omega)).trans a51
                rw [b51, sr.1.2.2.1]
                refine ⟨by decide +kernel, by decide +kernel, rX0_removeLast (.inr (.inr rfl)) x2 (fun h3 x3 fr3 => ?_)⟩
                refine next h3 ?_ (fun b hb => (fr3 b (by omega)).trans ((fr2 b hb).trans (fr1 b hb))) (fun m m0' m1 => ?_) (fun s s0 s1 => ?_) (fun c' hE e => hno c' ⟨hE.1, fun s s0 s1 => ?_, fun z => ?_⟩)
                · exact x3.ext (fun s s0 s1 => by rw [up1_o (by omega)])
                · rw [fr3 _ (by omega), lo2 m m0' (by omega)]; exact lo1 m m0' m1
                · rw [fr3 _ (by omega), pk2 s s0 (by omega)]; exact pk1 s s0 s1
                · by_cases es : s = (d : Int)
                  · rw [es, up1_s]; exact e
                  · rw [up1_o es]; exact hE.2.1 s s0 (by omega)
                · have := hE.1.1 d (by omega) (by omega)
                  rw [e] at this
                  have e5 : ((d + 1 : Nat) : Int) = (d : Int) + 1 := by omega
                  rw [e5]; omega)
            exact this
          refine vX6_pickFrom_18 51 d met t ?_
          simp only [e51, e54, e55, e56, h8, h10, sr.1.2.2.2.2.2.2.1, sr.1.2.2.2.2.2.1, sr.1.2.2.1, sr.2 met m0 (by omega), hl, h54 t (by omega) tK]
          refine ⟨by decide +kernel, ⟨by omega, by omega⟩, ⟨by omega, by omega⟩, fun c => by omega, fun _ => ⟨ia55 m0 (by omega), iaL m0 (by omega) (by omega) (by omega), ⟨by omega, by omega⟩, fun hz => ⟨ia5x (by decide) (by omega) (by omega), by decide +kernel, ?_⟩, fun hz => ⟨⟨by omega, by omega⟩, ⟨by omega, by omega⟩, fun cm => next hh xs' fr lo pk (noSt hz (by omega)), fun cm => ⟨ia5x (by decide) (by omega) (by omega), by decide +kernel, ?_⟩⟩⟩⟩
          · refine rX0_add g' (.inr (.inr rfl)) xs' tR (fun hs => ⟨⟨by decide, by decide⟩, fun z => by omega, fun _ => next hh xs' fr lo pk (noSp hs)⟩) (fun hs h2 x2 fr2 => ⟨⟨by decide, by decide⟩, fun _ => ?_, fun z => by omega⟩)
            have b51 : h2 51 = h 51 := (fr2 51 (by omega)).trans e51
            simp only [b51, sr.1.2.2.2.2.2.2.2]
            refine ⟨by decide +kernel, ⟨by decide +kernel, by omega, by rw [show ln G0 61 = 4 by decide +kernel]; omega⟩, fun h19 e19 => ?_⟩
            subst e19
            refine deep _ met mt v q (x2.fr ⟨hset_oa (by decide), hset_oa (by decide), hset_oa (by decide), hset_oa (by decide)⟩) (fun b hb => by rw [hset_oa (by omega), fr2 b (by omega)]; exact fr b hb) (fun m m0' m1 => by rw [hset_oa (by omega), fr2 _ (by omega)]; exact lo m m0' m1) (fun s s0 s1 => by rw [hset_oj (by omega), fr2 61 (by omega)]; exact pk s s0 s1) hset_s hmt (by omega) hmn hB ((rdc_0 hp hB tR).1 hz) (fun x hx => hx) (fun m w w1 _ => w1) (fun i i0 i1 => ?_)
            rw [hset_oa (by omega), fr2 _ (by omega), e56]
            exact hlf i (by omega) i1
          · refine rX0_add g' (.inr (.inr rfl)) xs' tR (fun hs => ⟨⟨by decide, by decide⟩, fun z => by omega, fun _ => next hh xs' fr lo pk (noSp hs)⟩) (fun hs h2 x2 fr2 => ⟨⟨by decide, by decide⟩, fun _ => ?_, fun z => by omega⟩)
            have b51 : h2 51 = h 51 := (fr2 51 (by omega)).trans e51
            simp only [b51, sr.1.2.2.2.2.2.2.2]
            refine ⟨by decide +kernel, ⟨by decide +kernel, by omega, by rw [show ln G0 61 = 4 by decide +kernel]; omega⟩, fun h19 e19 => ?_⟩
            have f19 : ∀ b, b ≠ 61 → b < 66 ∨ 69 < b → h19 b = hh b := fun b hb hb2 => by rw [e19, hset_oa hb, fr2 b (by omega)]
            have c51 := (f19 51 (by decide) (by decide)).trans e51
            have c55 := (f19 55 (by decide) (by decide)).trans e55
            have c56 := (f19 (56 + met) (by omega) (by omega)).trans e56
            have gg : Gd h19 p := hg.lo (fun b b0 b1 => (f19 b (by omega) (by omega)).trans (fr b (by omega)))
            refine rX6_meet gg (sr.fr c51 c55) (by rw [c51]; exact h8) K60 m0 (by omega) (by omega) tK (fun i i0 i1 => by rw [c56, hlf i (by omega) i1]; exact rdc_R hp (htb i (by omega) i1) mt) (by rw [c56, hl]; exact hz) (fun h4 f4 v4 => ?_)
            have st := BV_s hp hB tR hz
            have sp := BV_sp hp hB tR hz
            refine deep _ (met + 1) (mt + 1) _ _ (x2.fr ⟨?_, ?_, ?_, ?_⟩) (fun b hb => ?_) (fun m m0' m1 => ?_) (fun s s0 s1 => ?_) ?_ (by omega) (by omega) (by omega) st.1 sp.1 (fun x hx => ?_) (fun m w w1 w2 s s0 s1 => ?_) (fun i i0 i1 => ?_)
            · rw [f4 _ (by omega), e19, hset_oa (by decide)]
            · rw [f4 _ (by omega), e19, hset_oa (by decide)]
            · rw [f4 _ (by omega), e19, hset_oa (by decide)]
            · rw [f4 _ (by omega), e19, hset_oa (by decide)]
            · rw [f4 b (by omega), f19 b (by omega) (by omega)]; exact fr b hb
            · rw [f4 _ (by omega), f19 _ (by omega) (by omega)]; exact lo m m0' m1
            · rw [f4 61 (by omega), e19, hset_oj (by omega), fr2 61 (by omega)]; exact pk s s0 s1
            · rw [f4 61 (by omega), e19, hset_s]
            · exact Sp_le (Sp_ext hx (fun s i _ s1 _ _ => DVu s1)) (by omega)
            · by_cases es : s = (mt : Int)
              · subst es
                refine Sp_lin sp.2 (fun s s0 s1 => ?_)
                by_cases es : s = (mt : Int)
                · subst es
                  show Sp p 9 m w (fun i => D p (up1 v mt (tb t) mt) i)
                  rw [up1_s]
                  exact w2
                · show Sp p 9 m w (fun i => D p (up1 v mt (tb t) s) i)
                  rw [up1_o es]
                  exact w1 s s0 (by omega)
              · show Sp p 9 m w (fun i => D p (up1 v mt _ s) i)
                rw [up1_o es]
                exact w1 s s0 (by omega)
            · rw [v4 i i0 i1, c56, hl, hlf i (by omega) i1]
              exact (st.2 (tb i)).symm
        · intro hh ⟨ft, xs', fr, lo, pk, ne⟩
          have e51 := fr 51 (by omega)
          refine vX6_pickFrom_18 51 d met K ?_
          simp only [e51, h8]
          refine ⟨by decide +kernel, ⟨by omega, by omega⟩, ⟨by omega, by omega⟩, fun _ => hQ0 (fun c' hE => ?_) hh xs' fr lo pk, fun c => by omega⟩
          have := ne c' hE
          have := (hE.1.2.1 d (by omega) (by omega)).2
          omega
    exact Lp from' h (by omega) (by omega) ⟨xs, fun _ _ => rfl, fun _ _ _ => rfl, fun _ _ _ => rfl, fun c' hE => hE.2.2 (by omega)⟩
end Pick
