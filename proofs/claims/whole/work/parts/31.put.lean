/-- how many of g's first n but the t-th are s -/
def ce (g : Int → Int) (s t : Int) : Nat → Int
  | 0 => 0
  | n + 1 => ce g s t n + (if g n = s ∧ (n : Int) ≠ t then 1 else 0)
theorem cv_ext {g g' : Int → Int} {s : Int} : ∀ n : Nat, (∀ j : Int, 0 ≤ j → j < n → g j = g' j) → cv g s n = cv g' s n
  | 0, _ => rfl
  | n + 1, h => by
    show cv g s n + (if g n = s then 1 else 0) = cv g' s n + (if g' n = s then 1 else 0)
    rw [cv_ext n (fun j h1 h2 => h j h1 (by omega)), h n (by omega) (by omega)]
theorem ce_ext {g g' : Int → Int} {s t : Int} : ∀ n : Nat, (∀ j : Int, 0 ≤ j → j < n → g j = g' j) → ce g s t n = ce g' s t n
  | 0, _ => rfl
  | n + 1, h => by
    show ce g s t n + (if g n = s ∧ (n : Int) ≠ t then 1 else 0) = ce g' s t n + (if g' n = s ∧ (n : Int) ≠ t then 1 else 0)
    rw [ce_ext n (fun j h1 h2 => h j h1 (by omega)), h n (by omega) (by omega)]
theorem ce_lo {g : Int → Int} {s t : Int} : ∀ n : Nat, (n : Int) ≤ t → ce g s t n = cv g s n
  | 0, _ => rfl
  | n + 1, h => by
    show ce g s t n + _ = cv g s n + _
    rw [ce_lo n (by omega)]
    have e : (n : Int) ≠ t := by omega
    simp [e]
theorem ce_cv {g : Int → Int} {s t : Int} (h0 : 0 ≤ t) (hs : g t = s) : ∀ n : Nat, t < n → ce g s t n = cv g s n - 1
  | 0, h => by omega
  | n + 1, h => by
    show ce g s t n + _ = cv g s n + _ - 1
    by_cases e : t = (n : Int)
    · rw [ce_lo n (by omega)]
      have e2 : ¬ ((n : Int) ≠ t) := by omega
      rw [if_neg (fun q => e2 q.2), ← e, if_pos hs]
      omega
    · rw [ce_cv h0 hs n (by omega)]
      have e2 : (n : Int) ≠ t := by omega
      simp only [e2, ne_eq, not_false_eq_true, and_true]
      omega
theorem cv_up {g : Int → Int} {t x v : Int} (h0 : 0 ≤ t) : ∀ n : Nat, cv (up1 g t x) v n = if t < n then cv g v n - (if g t = v then 1 else 0) + (if x = v then 1 else 0) else cv g v n
  | 0 => by rw [if_neg (by omega)]; rfl
  | n + 1 => by
    show cv (up1 g t x) v n + (if up1 g t x n = v then 1 else 0) = _
    rw [cv_up h0 n]
    show _ = if t < ((n + 1 : Nat) : Int) then cv g v n + (if g n = v then 1 else 0) - (if g t = v then 1 else 0) + (if x = v then 1 else 0) else cv g v n + (if g n = v then 1 else 0)
    by_cases e : t = (n : Int)
    · rw [if_neg (show ¬ t < (n : Int) by omega), if_pos (show t < ((n + 1 : Nat) : Int) by omega), ← e, up1_s]
      omega
    · rw [up1_o (Ne.symm e)]
      by_cases c : t < (n : Int)
      · rw [if_pos c, if_pos (show t < ((n + 1 : Nat) : Int) by omega)]; omega
      · rw [if_neg c, if_neg (show ¬ t < ((n + 1 : Nat) : Int) by omega)]
theorem ce_s {g : Int → Int} {s t i : Int} (hi : 0 ≤ i) : ce g s t (i + 1).toNat = ce g s t i.toNat + (if g i = s ∧ i ≠ t then 1 else 0) := by
  rw [show (i + 1).toNat = i.toNat + 1 by omega]
  show ce g s t i.toNat + (if g (i.toNat : Int) = s ∧ (i.toNat : Int) ≠ t then 1 else 0) = _
  rw [Int.toNat_of_nonneg hi]
section Put
variable {l : Launch} {d : Nat} {h : HP} {p a : Int} {P : PS} {Q : Int → GS → HP → Prop}
/-- what countMates adds -/
def dlt (g : Int → Int) (w t c T k : Int) : Int := if g (40 * w + t) = 0 then 0 else if k = 40 * w + t then ce (fun j => g (40 * w + j)) (g (40 * w + t)) t T.toNat * c else if 40 * w ≤ k ∧ k < 40 * w + T ∧ g k = g (40 * w + t) then c else 0
theorem rX4_countMates {w t c T : Int} (ha : isP a) (hr : Pr h a) (hT : h a 6 = T) (T1 : T ≤ 40) (w0 : 0 ≤ w) (w3 : w < 3) (t0 : 0 ≤ t) (tT : t < T) (hsh : ∀ j, 0 ≤ j → j < T → inR (h (a + 4) (40 * w + j))) (hQ : ∀ h', (∀ b, b ≠ a + 5 → h' b = h b) → (∀ k, h' (a + 5) k = h (a + 5) k + dlt (h (a + 4)) w t c T k) → Q 0 G0 h') : R l MX4_countMates d 0 0 [vR a, vI w, vI t, vI c] G0 h Q := by
  refine eX4_countMates a w t c (vX4_countMates_0 a w t c ?_)
  simp only [hr.2.2.2.2.1]
  refine ⟨(tP ha).1, ia4 ha (by omega) (by omega), hsh t t0 tT, fun c0 => ?_, fun c0 => hQ h (fun _ _ => rfl) (fun k => by unfold dlt; rw [if_pos c0]; omega)⟩
  generalize hown : h (a + 4) (40 * w + t) = own at c0
  have key := lp_up (σ := HP) (fun n hh => S l MX4_countMates (d, 0, 0, 0, 0) 27 [some (vR a), none, some (vI t), some (vI c), some (vI (40 * w)), some (vI own), some (vI (40 * w + n))] [] G0 hh Q) (fun n hh => 0 ≤ n ∧ (∀ b, b ≠ a + 5 → hh b = h b) ∧ ∀ k, hh (a + 5) k = h (a + 5) k + (if k = 40 * w + t then ce (fun j => h (a + 4) (40 * w + j)) own t n.toNat * c else if 40 * w ≤ k ∧ k < 40 * w + n ∧ h (a + 4) k = own then c else 0)) T ?_ ?_ 0 h (by omega) ⟨by decide, fun _ _ => rfl, fun k => ?_⟩
  · rw [Int.add_zero] at key; exact key
  · intro n hh hn ⟨n0, hf, hk⟩ ih
    have ea := hf a (by omega)
    have e4 := hf (a + 4) (by omega)
    refine vX4_countMates_27 a t c (40 * w) own (40 * w + n) ?_
    simp only [ea, e4, hr.2.2.2.2.1, hr.2.2.2.2.2, hT]
    have ho : inR own := by rw [← hown]; exact hsh t t0 tT
    have step0 : ¬ (h (a + 4) (40 * w + n) = own ∧ n ≠ t) → S l MX4_countMates (d, 0, 0, 0, 0) 27 [some (vR a), none, some (vI t), some (vI c), some (vI (40 * w)), some (vI own), some (vI (40 * w + n + 1))] [] G0 hh Q := by
      intro hne
      have := ih hh ⟨by omega, hf, fun k => ?_⟩
      · rw [← Int.add_assoc] at this; exact this
      · rw [hk k, ce_s n0, if_neg hne, Int.add_zero]
        by_cases c1 : k = 40 * w + t
        · rw [if_pos c1, if_pos c1]
        · rw [if_neg c1, if_neg c1]
          by_cases c2 : 40 * w ≤ k ∧ k < 40 * w + n ∧ h (a + 4) k = own
          · rw [if_pos c2, if_pos ⟨c2.1, by omega, c2.2.2⟩]
          · rw [if_neg c2, if_neg]
            intro c3
            refine c2 ⟨c3.1, ?_, c3.2.2⟩
            rcases Int.lt_or_eq_of_le (show k ≤ 40 * w + n by omega) with z | z
            · exact z
            · exact absurd ⟨by rw [← z]; exact c3.2.2, by omega⟩ hne
    refine ⟨(tP ha).1, ⟨by omega, by omega⟩, ⟨by omega, by omega⟩, fun c1 => by omega, fun _ => ⟨ia4 ha (by omega) (by omega), hsh n n0 hn, ho, fun c1 => step0 (fun z => c1 z.1), fun c1 => ⟨⟨by omega, by omega⟩, fun c2 => step0 (fun z => z.2 (by omega)), fun c2 => ⟨ia5 ha (by omega) (by omega), fun h12 e12 => ?_⟩⟩⟩⟩
    have e12a : h12 a = h a := by rw [e12, hset_oa (by omega)]; exact ea
    simp only [e12a, hr.2.2.2.2.2]
    refine ⟨ia5 ha (by omega) (by omega), fun h14 e14 => ?_⟩
    have := ih h14 ⟨by omega, fun b hb => by rw [e14, hset_oa hb, e12, hset_oa hb]; exact hf b hb, fun k => ?_⟩
    · rw [← Int.add_assoc] at this; exact this
    · have cc : h (a + 4) (40 * w + n) = own ∧ n ≠ t := ⟨c1, fun z => c2 (by omega)⟩
      rw [ce_s n0, if_pos cc, e14]
      by_cases c3 : k = 40 * w + t
      · rw [c3, hset_s, if_pos rfl, e12, hset_oj (fun z => c2 (by omega)), hk, if_pos rfl, Int.add_mul]
        omega
      · rw [hset_oj c3, if_neg c3, e12]
        by_cases c4 : k = 40 * w + n
        · rw [c4, hset_s, hk, if_neg c2, if_neg (by omega), if_pos ⟨by omega, by omega, c1⟩]
          omega
        · rw [hset_oj c4, hk, if_neg c3]
          by_cases c5 : 40 * w ≤ k ∧ k < 40 * w + n ∧ h (a + 4) k = own
          · rw [if_pos c5, if_pos ⟨c5.1, by omega, c5.2.2⟩]
          · rw [if_neg c5, if_neg (fun z => c5 ⟨z.1, by omega, z.2.2⟩)]
  · intro hh ⟨n0, hf, hk⟩
    have ea := hf a (by omega)
    refine vX4_countMates_27 a t c (40 * w) own (40 * w + T) ?_
    simp only [ea, hT]
    refine ⟨(tP ha).1, ⟨by omega, by omega⟩, ⟨by omega, by omega⟩, fun _ => hQ hh hf (fun k => ?_), fun c1 => by omega⟩
    rw [hk k]
    unfold dlt
    rw [hown, if_neg c0]
  · have e : ce (fun j => h (a + 4) (40 * w + j)) own t (0 : Int).toNat = 0 := rfl
    rw [e]
    by_cases c1 : k = 40 * w + t
    · rw [if_pos c1]; omega
    · rw [if_neg c1, if_neg (by omega)]; omega
/-- the scheme with row x at place t of way w -/
def prw (P : PS) (w t x : Int) : PS := (P.1, P.2.1, P.2.2.1, up1 P.2.2.2 (40 * w + t) x)
def mcg (sg : Int → Int) (T w t : Int) : Int := if sg (40 * w + t) = 0 then 0 else cv (fun j => sg (40 * w + j)) (sg (40 * w + t)) T.toNat - 1
/-- the piece at cell a holds P, with shapes sg -/
def XQ (h : HP) (a : Int) (P : PS) (sg : Int → Int) : Prop := Pr h a ∧ (∀ w, 0 ≤ w → w < 3 → h (a + 1) w = sz P w) ∧ (∀ k, 0 ≤ k → k < 81 → h (a + 2) k = fb P k) ∧ h a 6 = tm P ∧ (∀ w t, 0 ≤ w → w < 3 → 0 ≤ t → t < tm P → h (a + 3) (40 * w + t) = rw' P (40 * w + t)) ∧ (∀ w t, 0 ≤ w → w < 3 → 0 ≤ t → t < tm P → h (a + 4) (40 * w + t) = sg (40 * w + t)) ∧ ∀ w t, 0 ≤ w → w < 3 → 0 ≤ t → t < tm P → h (a + 5) (40 * w + t) = mcg sg (tm P) w t
theorem XQ_of {sg : Int → Int} (hs : sg = fun k => shp p (rw' P k)) : XQ h a P sg ↔ XP h a p P := by
  subst hs
  exact Iff.rfl
theorem up_g {sg : Int → Int} {w t x : Int} : (fun j => up1 sg (40 * w + t) x (40 * w + j)) = up1 (fun j => sg (40 * w + j)) t x := by
  funext j
  by_cases e : j = t
  · rw [e, up1_s, up1_s]
  · rw [up1_o (by omega), up1_o e]
set_option maxHeartbeats 1000000 in
theorem rX4_putQ {w t x : Int} {sg : Int → Int} (hg : Gd h p) (ha : isP a) (hX : XQ h a P sg) (T40 : 0 ≤ tm P ∧ tm P ≤ 40) (hsg : ∀ w t, 0 ≤ w → w < 3 → 0 ≤ t → t < tm P → inR (sg (40 * w + t))) (w0 : 0 ≤ w) (w3 : w < 3) (t0 : 0 ≤ t) (tT : t < tm P) (hx : isR p x) (hQ : ∀ h', XQ h' a (prw P w t x) (up1 sg (40 * w + t) (shp p x)) → FrP a h h' → (h' a = h a ∧ h' (a + 1) = h (a + 1) ∧ h' (a + 2) = h (a + 2)) → Q 0 G0 h') : R l MX4_put (d + 2) 0 0 [vR a, vI w, vI t, vI x] G0 h Q := by
  have hisP := isP_b ha
  obtain ⟨x1, x2, x3, x4, x5, x6, x7⟩ := id hX
  refine eX4_put a w t x (vX4_put_0 a w t x ⟨(tP ha).1, ?_⟩)
  refine rX4_countMates ha x1 x4 T40.2 w0 w3 t0 tT (fun j j0 jT => by rw [x6 w j w0 w3 j0 jT]; exact hsg w j w0 w3 j0 jT) (fun h1 f1 k1 => ?_)
  have a1 := f1 a (by omega)
  simp only [a1, x1.2.2.2.1]
  refine ⟨(tP ha).1, ia3 ha (by omega) (by omega), fun h7 e7 => ?_⟩
  have a7 : h7 a = h a := by rw [e7, hset_oa (by omega)]; exact a1
  simp only [a7, x1.1, x1.2.2.2.2.1]
  have fr7 : FrP a h h7 := fun b hb => by rw [e7, hset_oa (by omega)]; exact f1 b (by omega)
  refine ⟨rfl, rX1_shape (hg.fr hisP.1 fr7) hx ⟨ia4 ha (by omega) (by omega), fun h13 e13 => ⟨(tP ha).1, ?_⟩⟩⟩
  have a13 : h13 a = h a := by rw [e13, hset_oa (by omega)]; exact a7
  have s13 : ∀ k, h13 (a + 4) k = if k = 40 * w + t then shp p x else h (a + 4) k := by
    intro k
    by_cases e : k = 40 * w + t
    · rw [if_pos e, e13, e, hset_s]
    · rw [if_neg e, e13, hset_oj e, e7, hset_oa (by omega), f1 (a + 4) (by omega)]
  have m13 : h13 (a + 5) = h1 (a + 5) := by rw [e13, hset_oa (by omega), e7, hset_oa (by omega)]
  have sj : ∀ j, 0 ≤ j → j < tm P → h13 (a + 4) (40 * w + j) = up1 (fun j => sg (40 * w + j)) t (shp p x) j := by
    intro j j0 jT
    rw [s13]
    by_cases e : j = t
    · rw [if_pos (by omega), e, up1_s]
    · rw [if_neg (by omega), up1_o e]; exact x6 w j w0 w3 j0 jT
  refine rX4_countMates ha (by unfold Pr; rw [a13]; exact x1) (by rw [a13]; exact x4) T40.2 w0 w3 t0 tT (fun j j0 jT => by
    rw [s13]
    by_cases e : 40 * w + j = 40 * w + t
    · rw [if_pos e]; exact shp_i hg.1
    · rw [if_neg e, x6 w j w0 w3 j0 jT]; exact hsg w j w0 w3 j0 jT) (fun h16 f16 k16 => ?_)
  have a16 : h16 a = h a := by rw [f16 a (by omega)]; exact a13
  have b16 : h16 (a + 1) = h (a + 1) := by rw [f16 _ (by omega), e13, hset_oa (by omega), e7, hset_oa (by omega), f1 _ (by omega)]
  have c16 : h16 (a + 2) = h (a + 2) := by rw [f16 _ (by omega), e13, hset_oa (by omega), e7, hset_oa (by omega), f1 _ (by omega)]
  have d16 : ∀ k, h16 (a + 3) k = if k = 40 * w + t then x else h (a + 3) k := by
    intro k
    rw [f16 _ (by omega), e13, hset_oa (by omega)]
    by_cases e : k = 40 * w + t
    · rw [if_pos e, e7, e, hset_s]
    · rw [if_neg e, e7, hset_oj e, f1 _ (by omega)]
  have g16 : h16 (a + 4) = h13 (a + 4) := f16 _ (by omega)
  refine hQ h16 ?_ (fun b hb => by rw [f16 b (by omega), e13, hset_oa (by omega)]; exact fr7 b hb) ⟨a16, b16, c16⟩
  refine ⟨by unfold Pr; rw [a16]; exact x1, by rw [b16]; exact x2, by rw [c16]; exact x3, by rw [a16]; exact x4, fun w' t' w0' w3' t0' tT' => ?_, fun w' t' w0' w3' t0' tT' => ?_, fun w' t' w0' w3' t0' tT' => ?_⟩
  · rw [d16]
    show _ = up1 P.2.2.2 (40 * w + t) x (40 * w' + t')
    by_cases e : 40 * w' + t' = 40 * w + t
    · rw [if_pos e, e, up1_s]
    · rw [if_neg e, up1_o e]; exact x5 w' t' w0' w3' t0' tT'
  · rw [g16, s13]
    by_cases e : 40 * w' + t' = 40 * w + t
    · rw [if_pos e, e, up1_s]
    · rw [if_neg e, up1_o e]; exact x6 w' t' w0' w3' t0' tT'
  · have tT'' : t' < tm P := tT'
    rw [k16, m13, k1, x7 w' t' w0' w3' t0' tT'']
    by_cases ew : w' = w
    · subst ew
      have s1 : h (a + 4) (40 * w' + t) = sg (40 * w' + t) := x6 w' t w0 w3 t0 tT
      have s2 : h13 (a + 4) (40 * w' + t) = shp p x := by rw [sj t t0 tT, up1_s]
      have s3 : h (a + 4) (40 * w' + t') = sg (40 * w' + t') := x6 w' t' w0 w3 t0' tT''
      unfold dlt mcg
      rw [s1, s2, s3]
      rw [up_g]
      show _ = if up1 sg (40 * w' + t) (shp p x) (40 * w' + t') = 0 then 0 else cv (up1 (fun j => sg (40 * w' + j)) t (shp p x)) (up1 sg (40 * w' + t) (shp p x) (40 * w' + t')) (tm P).toNat - 1
      have hce1 : ce (fun j => h (a + 4) (40 * w' + j)) (sg (40 * w' + t)) t (tm P).toNat = cv (fun j => sg (40 * w' + j)) (sg (40 * w' + t)) (tm P).toNat - 1 := by
        rw [ce_ext (g' := fun j => sg (40 * w' + j)) _ (fun j j0 jT => x6 w' j w0 w3 j0 (by omega))]
        exact ce_cv t0 rfl _ (by omega)
      have hce2 : ce (fun j => h13 (a + 4) (40 * w' + j)) (shp p x) t (tm P).toNat = cv (up1 (fun j => sg (40 * w' + j)) t (shp p x)) (shp p x) (tm P).toNat - 1 := by
        rw [ce_ext (g' := up1 (fun j => sg (40 * w' + j)) t (shp p x)) _ (fun j j0 jT => sj j j0 (by omega))]
        exact ce_cv t0 up1_s _ (by omega)
      by_cases et : t' = t
      · subst et
        rw [if_pos rfl, if_pos rfl, hce1, hce2, up1_s]
        by_cases z1 : sg (40 * w' + t') = 0
        · rw [if_pos z1, if_pos z1]
          by_cases z2 : shp p x = 0
          · rw [if_pos z2, if_pos z2]; rfl
          · rw [if_neg z2, if_neg z2]; omega
        · rw [if_neg z1, if_neg z1]
          by_cases z2 : shp p x = 0
          · rw [if_pos z2, if_pos z2]; omega
          · rw [if_neg z2, if_neg z2]; omega
      · have en : ¬ (40 * w' + t' = 40 * w' + t) := by omega
        rw [if_neg en, if_neg en, up1_o en, cv_up t0, if_pos (show t < ((tm P).toNat : Int) by omega)]
        have s4 : h13 (a + 4) (40 * w' + t') = sg (40 * w' + t') := by rw [sj t' t0' tT'', up1_o et]
        rw [s4]
        generalize sg (40 * w' + t') = gj
        generalize sg (40 * w' + t) = gt
        generalize shp p x = s
        have i1 : (40 * w' ≤ 40 * w' + t' ∧ 40 * w' + t' < 40 * w' + tm P ∧ gj = gt) ↔ gj = gt := ⟨fun z => z.2.2, fun z => ⟨by omega, by omega, z⟩⟩
        have i2 : (40 * w' ≤ 40 * w' + t' ∧ 40 * w' + t' < 40 * w' + tm P ∧ gj = s) ↔ gj = s := ⟨fun z => z.2.2, fun z => ⟨by omega, by omega, z⟩⟩
        simp only [i1, i2]
        generalize cv _ gj (tm P).toNat = C
        by_cases z0 : gj = 0
        · rw [if_pos z0, if_pos z0]
          by_cases z1 : gt = 0
          · rw [if_pos z1]
            by_cases z2 : s = 0
            · rw [if_pos z2]; rfl
            · rw [if_neg z2, if_neg (by omega)]; rfl
          · rw [if_neg z1, if_neg (by omega)]
            by_cases z2 : s = 0
            · rw [if_pos z2]; rfl
            · rw [if_neg z2, if_neg (by omega)]; rfl
        · rw [if_neg z0, if_neg z0]
          by_cases z1 : gt = gj
          · rw [if_neg (by omega), if_pos z1.symm, if_pos z1]
            by_cases z2 : s = gj
            · rw [if_neg (by omega), if_pos z2.symm, if_pos z2]; omega
            · rw [if_neg z2]
              by_cases z3 : s = 0
              · rw [if_pos z3]; omega
              · rw [if_neg z3, if_neg (Ne.symm z2)]; omega
          · rw [if_neg z1]
            have q1 : (if gt = 0 then (0 : Int) else if gj = gt then -1 else 0) = 0 := by
              by_cases z4 : gt = 0
              · rw [if_pos z4]
              · rw [if_neg z4, if_neg (Ne.symm z1)]
            rw [q1]
            by_cases z2 : s = gj
            · rw [if_neg (by omega), if_pos z2.symm, if_pos z2]; omega
            · rw [if_neg z2]
              by_cases z3 : s = 0
              · rw [if_pos z3]; omega
              · rw [if_neg z3, if_neg (Ne.symm z2)]; omega
    · have hn1 : ¬ (40 * w' + t' = 40 * w + t) := by omega
      have hn2 : ∀ v u : Int, ¬ (40 * w ≤ 40 * w' + t' ∧ 40 * w' + t' < 40 * w + tm P ∧ v = u) := fun v u z => by omega
      have z1 : dlt (h (a + 4)) w t (-1) (tm P) (40 * w' + t') = 0 := by
        unfold dlt
        by_cases q : h (a + 4) (40 * w + t) = 0
        · rw [if_pos q]
        · rw [if_neg q, if_neg hn1, if_neg (hn2 _ _)]
      have z2 : dlt (h13 (a + 4)) w t 1 (tm P) (40 * w' + t') = 0 := by
        unfold dlt
        by_cases q : h13 (a + 4) (40 * w + t) = 0
        · rw [if_pos q]
        · rw [if_neg q, if_neg hn1, if_neg (hn2 _ _)]
      rw [z1, z2, Int.add_zero, Int.add_zero]
      unfold mcg
      have e1 : ∀ j : Int, 0 ≤ j → j < ((tm P).toNat : Int) → sg (40 * w' + j) = up1 sg (40 * w + t) (shp p x) (40 * w' + j) := fun j j0 jT => by
        rw [up1_o (by omega)]
      have e2 := e1 t' t0' (by omega)
      rw [← e2, cv_ext (g' := fun j => up1 sg (40 * w + t) (shp p x) (40 * w' + j)) _ e1]
      rfl
theorem up_shp {w t x : Int} : up1 (fun k => shp p (rw' P k)) (40 * w + t) (shp p x) = fun k => shp p (rw' (prw P w t x) k) := by
  funext k
  show _ = shp p (up1 P.2.2.2 (40 * w + t) x k)
  by_cases e : k = 40 * w + t
  · rw [e, up1_s, up1_s]
  · rw [up1_o e, up1_o e]
theorem rX4_put {w t x : Int} (hg : Gd h p) (ha : isP a) (hX : XP h a p P) (hW : WF p P) (w0 : 0 ≤ w) (w3 : w < 3) (t0 : 0 ≤ t) (tT : t < tm P) (hx : isR p x) (hQ : ∀ h', XP h' a p (prw P w t x) → FrP a h h' → (h' a = h a ∧ h' (a + 1) = h (a + 1) ∧ h' (a + 2) = h (a + 2)) → Q 0 G0 h') : R l MX4_put (d + 2) 0 0 [vR a, vI w, vI t, vI x] G0 h Q := by
  refine rX4_putQ hg ha ((XQ_of rfl).mpr hX) hW.2.2.1 (fun _ _ _ _ _ _ => shp_i hg.1) w0 w3 t0 tT hx (fun h' q1 q2 q3 => hQ h' ((XQ_of up_shp).mp q1) q2 q3)
end Put
