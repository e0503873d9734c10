theorem XQ_XP {h : HP} {a p : Int} {P P' : PS} {sg : Int → Int} (hX : XQ h a P sg) (e1 : sz P' = sz P) (e2 : fb P' = fb P) (e3 : tm P' = tm P) (er : ∀ w t, 0 ≤ w → w < 3 → 0 ≤ t → t < tm P → rw' P (40 * w + t) = rw' P' (40 * w + t)) (es : ∀ w t, 0 ≤ w → w < 3 → 0 ≤ t → t < tm P → sg (40 * w + t) = shp p (rw' P' (40 * w + t))) : XP h a p P' := by
  obtain ⟨x1, x2, x3, x4, x5, x6, x7⟩ := hX
  refine ⟨x1, by rw [e1]; exact x2, by rw [e2]; exact x3, by rw [e3]; exact x4, by rw [e3]; exact fun w t w0 w3 t0 tT => (x5 w t w0 w3 t0 tT).trans (er w t w0 w3 t0 tT), by rw [e3]; exact fun w t w0 w3 t0 tT => (x6 w t w0 w3 t0 tT).trans (es w t w0 w3 t0 tT), ?_⟩
  rw [e3]
  intro w t w0 w3 t0 tT
  rw [x7 w t w0 w3 t0 tT]
  unfold mcg mcn
  rw [e3, es w t w0 w3 t0 tT, cv_ext (g' := fun j => shp p (rw' P' (40 * w + j))) _ (fun j j0 jT => es w j w0 w3 j0 (by omega))]
/-- one time more, at the end -/
def apn (P : PS) (u v w : Int) : PS := (P.1, P.2.1, P.2.2.1 + 1, up1 (up1 (up1 P.2.2.2 (40 * 0 + P.2.2.1) u) (40 * 1 + P.2.2.1) v) (40 * 2 + P.2.2.1) w)
section App
variable {l : Launch} {d : Nat} {h : HP} {p a : Int} {P : PS} {Q : Int → GS → HP → Prop}
set_option maxHeartbeats 1000000 in
theorem rX4_append {u v w : Int} (hg : Gd h p) (ha : isP a) (hX : XP h a p P) (hT : 0 ≤ tm P ∧ tm P < 40) (hu : isR p u) (hv : isR p v) (hw : isR p w) (hQ : ∀ h', XP h' a p (apn P u v w) → FrP a h h' → (h' (a + 1) = h (a + 1) ∧ h' (a + 2) = h (a + 2)) → Q 0 G0 h') : R l MX4_append (d + 3) 0 0 [vR a, vI u, vI v, vI w] G0 h Q := by
  have hisP := isP_b ha
  obtain ⟨x1, x2, x3, x4, x5, x6, x7⟩ := id hX
  refine eX4_append a u v w (vX4_append_0 a u v w ?_)
  refine lp_up (σ := HP) (fun n hh => S l MX4_append (d + 2 + 1, 0, 0, 0, 0) 3 [some (vR a), some (vI u), some (vI v), some (vI w), some (vI n)] [] G0 hh Q) (fun n hh => 0 ≤ n ∧ (∀ b, b ≠ a + 4 → b ≠ a + 5 → hh b = h b) ∧ (∀ m, 0 ≤ m → m < n → hh (a + 4) (40 * m + tm P) = 0 ∧ hh (a + 5) (40 * m + tm P) = 0) ∧ ∀ m t, 0 ≤ m → m < 3 → 0 ≤ t → t < tm P → hh (a + 4) (40 * m + t) = h (a + 4) (40 * m + t) ∧ hh (a + 5) (40 * m + t) = h (a + 5) (40 * m + t)) 3 ?_ ?_ 0 h (by decide) ⟨by decide, fun _ _ _ => rfl, fun m m0 m1 => by omega, fun _ _ _ _ _ _ => ⟨rfl, rfl⟩⟩
  · intro n hh hn ⟨n0, i1, i2, i3⟩ ih
    have ea := i1 a (by omega) (by omega)
    refine vX4_append_3 a u v w n ⟨⟨by omega, by omega⟩, fun c => by omega, fun _ => ?_⟩
    simp only [ea, x1.2.2.2.2.1, x4]
    refine ⟨(tP ha).1, ia4 ha (by omega) (by omega), fun h18 e18 => ?_⟩
    have ea18 : h18 a = h a := by rw [e18, hset_oa (by omega)]; exact ea
    simp only [ea18, x1.2.2.2.2.2, x4]
    refine ⟨ia5 ha (by omega) (by omega), fun h20 e20 => ih h20 ⟨by omega, fun b b1 b2 => by rw [e20, hset_oa b2, e18, hset_oa b1]; exact i1 b b1 b2, fun m m0 m1 => ?_, fun m t m0 m1 t0 t1 => ?_⟩⟩
    · rw [e20, hset_oa (by omega : a + 4 ≠ a + 5)]
      by_cases e : m = n
      · subst e
        rw [hset_s, e18, hset_s]
        exact ⟨rfl, rfl⟩
      · rw [hset_oj (by omega), e18, hset_oj (by omega), hset_oa (by omega)]
        exact i2 m m0 (by omega)
    · rw [e20, hset_oa (by omega : a + 4 ≠ a + 5), hset_oj (by omega), e18, hset_oj (by omega), hset_oa (by omega)]
      exact i3 m t m0 m1 t0 t1
  · intro hh ⟨n0, i1, i2, i3⟩
    have ea := i1 a (by omega) (by omega)
    refine vX4_append_3 a u v w 3 ⟨by decide, fun _ => ?_, fun c => absurd c (by decide)⟩
    simp only [ea, x4]
    refine ⟨(tP ha).1, fun h4 e4 => ?_⟩
    have a4 : ∀ j, j ≠ 6 → h4 a j = h a j := fun j hj => by rw [e4, hset_oj hj, ea]
    have t4 : h4 a 6 = tm P + 1 := by rw [e4, hset_s]
    have o4 : ∀ b, b ≠ a → b ≠ a + 4 → b ≠ a + 5 → h4 b = h b := fun b b1 b2 b3 => by rw [e4, hset_oa b1]; exact i1 b b2 b3
    have s4 : h4 (a + 4) = hh (a + 4) := by rw [e4, hset_oa (by omega)]
    have m4 : h4 (a + 5) = hh (a + 5) := by rw [e4, hset_oa (by omega)]
    have fr4 : FrP a h h4 := fun b hb => o4 b (by omega) (by omega) (by omega)
    have hX4 : XQ h4 a (P.1, P.2.1, tm P + 1, h (a + 3)) (hh (a + 4)) := by
      refine ⟨?_, by rw [o4 _ (by omega) (by omega) (by omega)]; exact x2, by rw [o4 _ (by omega) (by omega) (by omega)]; exact x3, t4, fun w t _ _ _ _ => by rw [o4 _ (by omega) (by omega) (by omega)], fun w t _ _ _ _ => by rw [s4], fun m t m0 m1 t0 t1 => ?_⟩
      · unfold Pr
        rw [a4 0 (by decide), a4 1 (by decide), a4 2 (by decide), a4 3 (by decide), a4 4 (by decide), a4 5 (by decide)]
        exact x1
      · rw [m4]
        have t1' : t < tm P + 1 := t1
        have sj : ∀ j, 0 ≤ j → j < tm P → hh (a + 4) (40 * m + j) = shp p (rw' P (40 * m + j)) := fun j j0 jT => by rw [(i3 m j m0 m1 j0 jT).1]; exact x6 m j m0 m1 j0 jT
        unfold mcg
        show _ = if hh (a + 4) (40 * m + t) = 0 then 0 else cv (fun j => hh (a + 4) (40 * m + j)) (hh (a + 4) (40 * m + t)) (tm P + 1).toNat - 1
        by_cases e : t = tm P
        · rw [e, if_pos (i2 m m0 (by omega)).1]
          exact (i2 m m0 (by omega)).2
        · have tT : t < tm P := by omega
          rw [(i3 m t m0 m1 t0 tT).2, x7 m t m0 m1 t0 tT, sj t t0 tT]
          unfold mcn
          by_cases z : shp p (rw' P (40 * m + t)) = 0
          · rw [if_pos z, if_pos z]
          · rw [if_neg z, if_neg z, show (tm P + 1).toNat = (tm P).toNat + 1 by omega]
            show _ = cv (fun j => hh (a + 4) (40 * m + j)) _ (tm P).toNat + (if hh (a + 4) (40 * m + ((tm P).toNat : Int)) = _ then 1 else 0) - 1
            rw [Int.toNat_of_nonneg hT.1, (i2 m m0 (by omega)).1, if_neg (fun q => z q.symm), cv_ext (g' := fun j => shp p (rw' P (40 * m + j))) _ (fun j j0 jT => sj j j0 (by omega))]
            omega
    have hsgR : ∀ m t, 0 ≤ m → m < 3 → 0 ≤ t → t < tm P + 1 → inR (hh (a + 4) (40 * m + t)) := fun m t m0 m1 t0 t1 => by
      by_cases e : t = tm P
      · rw [e, (i2 m m0 (by omega)).1]; decide
      · rw [(i3 m t m0 m1 t0 (by omega)).1, x6 m t m0 m1 t0 (by omega)]; exact shp_i hg.1
    have upR : ∀ (sg : Int → Int) (k x : Int), (∀ m t, 0 ≤ m → m < 3 → 0 ≤ t → t < tm P + 1 → inR (sg (40 * m + t))) → ∀ m t, 0 ≤ m → m < 3 → 0 ≤ t → t < tm P + 1 → inR (up1 sg k (shp p x) (40 * m + t)) := by
      intro sg k x hsg m t m0 m1 t0 t1
      by_cases e : 40 * m + t = k
      · rw [e, up1_s]; exact shp_i hg.1
      · rw [up1_o e]; exact hsg m t m0 m1 t0 t1
    rw [t4, show tm P + 1 - 1 = tm P by omega]
    refine rX4_putQ (d := d) (hg.fr hisP.1 fr4) ha hX4 ⟨by show 0 ≤ tm P + 1; omega, by show tm P + 1 ≤ 40; omega⟩ hsgR (by decide) (by decide) hT.1 (by show tm P < tm P + 1; omega) hu (fun h7 q7 f7 r7 => ?_)
    have t7 : h7 a 6 = tm P + 1 := q7.2.2.2.1
    simp only [t7, show tm P + 1 - 1 = tm P by omega]
    have fr7 := fr4.tr f7
    refine ⟨(tP ha).1, rX4_putQ (d := d) (hg.fr hisP.1 fr7) ha q7 ⟨by show 0 ≤ tm P + 1; omega, by show tm P + 1 ≤ 40; omega⟩ (upR _ _ _ hsgR) (by decide) (by decide) hT.1 (by show tm P < tm P + 1; omega) hv (fun h11 q11 f11 r11 => ?_)⟩
    have t11 : h11 a 6 = tm P + 1 := q11.2.2.2.1
    simp only [t11, show tm P + 1 - 1 = tm P by omega]
    have fr11 := fr7.tr f11
    refine ⟨(tP ha).1, rX4_putQ (d := d) (hg.fr hisP.1 fr11) ha q11 ⟨by show 0 ≤ tm P + 1; omega, by show tm P + 1 ≤ 40; omega⟩ (upR _ _ _ (upR _ _ _ hsgR)) (by decide) (by decide) hT.1 (by show tm P < tm P + 1; omega) hw (fun h15 q15 f15 r15 => ?_)⟩
    refine hQ h15 (XQ_XP q15 rfl rfl rfl (fun m t m0 m1 t0 t1 => ?_) (fun m t m0 m1 t0 t1 => ?_)) (fr11.tr f15) ⟨by rw [r15.2.1, r11.2.1, r7.2.1, o4 _ (by omega) (by omega) (by omega)], by rw [r15.2.2, r11.2.2, r7.2.2, o4 _ (by omega) (by omega) (by omega)]⟩
    · show up1 (up1 (up1 (h (a + 3)) (40 * 0 + tm P) u) (40 * 1 + tm P) v) (40 * 2 + tm P) w (40 * m + t) = up1 (up1 (up1 P.2.2.2 (40 * 0 + tm P) u) (40 * 1 + tm P) v) (40 * 2 + tm P) w (40 * m + t)
      have t1' : t < tm P + 1 := t1
      unfold up1
      by_cases c2 : 40 * m + t = 40 * 2 + tm P
      · rw [if_pos c2, if_pos c2]
      · rw [if_neg c2, if_neg c2]
        by_cases c1 : 40 * m + t = 40 * 1 + tm P
        · rw [if_pos c1, if_pos c1]
        · rw [if_neg c1, if_neg c1]
          by_cases c0 : 40 * m + t = 40 * 0 + tm P
          · rw [if_pos c0, if_pos c0]
          · rw [if_neg c0, if_neg c0]
            exact x5 m t m0 m1 t0 (by omega)
    · show up1 (up1 (up1 (hh (a + 4)) (40 * 0 + tm P) (shp p u)) (40 * 1 + tm P) (shp p v)) (40 * 2 + tm P) (shp p w) (40 * m + t) = shp p (up1 (up1 (up1 P.2.2.2 (40 * 0 + tm P) u) (40 * 1 + tm P) v) (40 * 2 + tm P) w (40 * m + t))
      have t1' : t < tm P + 1 := t1
      unfold up1
      by_cases c2 : 40 * m + t = 40 * 2 + tm P
      · rw [if_pos c2, if_pos c2]
      · rw [if_neg c2, if_neg c2]
        by_cases c1 : 40 * m + t = 40 * 1 + tm P
        · rw [if_pos c1, if_pos c1]
        · rw [if_neg c1, if_neg c1]
          by_cases c0 : 40 * m + t = 40 * 0 + tm P
          · rw [if_pos c0, if_pos c0]
          · rw [if_neg c0, if_neg c0, (i3 m t m0 m1 t0 (by omega)).1]
            exact x6 m t m0 m1 t0 (by omega)
end App
