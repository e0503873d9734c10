section Mod8
variable {l : Launch} {d : Nat} {h : HP} {p : Int} {P : PS} {B : BS} {Q : Int → GS → HP → Prop}
/-- heaps that differ in the scheme, its length and the factors -/
def FrL2 (h h' : HP) : Prop := (∀ b, b ≠ 75 → b ≠ 78 → b ≠ 85 → h' b = h b) ∧ ∀ j, j ≠ 4 → h' 75 j = h 75 j
theorem FrL2.rf : FrL2 h h := ⟨fun _ _ _ _ => rfl, fun _ _ => rfl⟩
theorem FrL2.tr {h1 h2 : HP} (f : FrL2 h h1) (g : FrL2 h1 h2) : FrL2 h h2 := ⟨fun b b1 b2 b3 => (g.1 b b1 b2 b3).trans (f.1 b b1 b2 b3), fun j j4 => (g.2 j j4).trans (f.2 j j4)⟩
theorem FrL2.mr {h' : HP} (f : FrL2 h h') (m : MR h) : MR h' := m.fr (fun j _ j4 _ _ _ _ => f.2 j j4)
theorem FrL2.m {h' : HP} (f : FrL2 h h') : FM h h' := fun b hb => f.1 b (by omega) (by omega) (by omega)
theorem FrL2.x {h' : HP} {P' : PS} (f : FrL2 h h') (m : MX h B) (hs : P'.1 = (bP B).1) (hf : P'.2.1 = (bP B).2.1) (ms : MS h' (bp B) P') : MX h' (bst B P') := m.sc hs hf ms (fun b b0 b8 b4 => f.1 b (by omega) b8 (by omega)) f.2
theorem FrL2.o78 {h' : HP} (f : ∀ b, b ≠ 78 → h' b = h b) : FrL2 h h' := ⟨fun b _ b2 _ => f b b2, fun j _ => by rw [f 75 (by decide)]⟩
theorem FrL2.o85 {h' : HP} (f : ∀ b, b ≠ 85 → h' b = h b) : FrL2 h h' := ⟨fun b _ _ b3 => f b b3, fun j _ => by rw [f 75 (by decide)]⟩
theorem rX9_dropNought (mr : MR h) (hp : okp p) (ms : MS h p P) (hW : WF p P) (hn : fz P (tm P).toNat 0 = none → Q 0 G0 h) (hs : ∀ t h', fz P (tm P).toNat 0 = some t → FrL2 h h' → MS h' p (rmv P t) → Q 1 G0 h') : R l MX9_dropNought (d + 1) 0 0 [vR 75] G0 h Q := by
  have h40 := hW.2.2.1
  have r1 : inR 1 := ⟨by decide, by decide⟩
  have r0 : inR 0 := ⟨by decide, by decide⟩
  refine eX9_dropNought 75 (vX9_dropNought_0 75 ?_)
  refine lp_up (σ := Unit) (fun t _ => S l MX9_dropNought (d + 1, 0, 0, 0, 0) 2 [some (vR 75), some (vI t)] [] G0 h Q) (fun t _ => 0 ≤ t ∧ fz P (tm P).toNat 0 = fz P (tm P - t).toNat t) (tm P) ?_ ?_ 0 () h40.1 ⟨by decide, by rw [Int.sub_zero]⟩
  · intro t _ ht ⟨t0, e⟩ ih
    have ot : okt P t := ⟨t0, ht⟩
    rw [show (tm P - t).toNat = (tm P - (t + 1)).toNat + 1 by omega, fz_s] at e
    have yes : (rw' P (40 * 0 + t) = 0 ∨ rw' P (40 * 1 + t) = 0 ∨ rw' P (40 * 2 + t) = 0) → R l MX9_remove d 0 0 [vR 75, vI t] G0 h (fun _ G h => Q 1 G h) := fun z => by
      rw [if_pos z] at e
      exact rX9_remove mr ms hW ot (fun h' f f75 ms' => hs t h' e ⟨fun b b1 b2 _ => f b b1 b2, f75⟩ ms')
    refine vX9_dropNought_2 75 t ?_
    simp only [ms.1]
    refine ⟨t75, ⟨by omega, by omega⟩, ⟨by omega, by omega⟩, fun c => by omega, fun _ => rX9_isNought mr hp ms hW ⟨by decide, by decide⟩ ot (fun z => ⟨r1, fun _ => ⟨t75, yes (.inl z)⟩, fun z => by omega⟩) (fun n0 => ⟨r0, fun z => absurd rfl z, fun _ => ⟨t75, rX9_isNought mr hp ms hW ⟨by decide, by decide⟩ ot (fun z => ⟨r1, fun _ => ⟨t75, yes (.inr (.inl z))⟩, fun z => by omega⟩) (fun n1 => ⟨r0, fun z => absurd rfl z, fun _ => ⟨t75, rX9_isNought mr hp ms hW ⟨by decide, by decide⟩ ot (fun z => ⟨r1, fun z => by omega, fun _ => ⟨t75, yes (.inr (.inr z))⟩⟩) (fun n2 => ⟨r0, fun _ => ih () ⟨by omega, ?_⟩, fun z => absurd rfl z⟩)⟩⟩)⟩⟩)⟩
    rw [if_neg (fun z => z.elim n0 (fun z => z.elim n1 n2))] at e
    exact e
  · intro _ ⟨t0, e⟩
    rw [Int.sub_self] at e
    refine vX9_dropNought_2 75 _ ?_
    simp only [ms.1]
    exact ⟨t75, ⟨by omega, by omega⟩, ⟨by omega, by omega⟩, fun _ => hn e, fun c => by omega⟩
theorem rX9_addRow {s t w y : Int} (mr : MR h) (h0 : h 75 0 = p) (hp : okp p) (ms : MS h p P) (T40 : 0 ≤ tm P ∧ tm P ≤ 40) (hw : okw w) (hs : okt P s) (ht : okt P t) (hne : s ≠ t) (hy : isD p y) (hQ : ∀ h', (∀ b, b ≠ 78 → h' b = h b) → MS h' p (prw P w s (pl p (rw' P (40 * w + s)) y (rw' P (40 * w + t)))) → Q 0 G0 h') : R l MX9_addRow d 0 0 [vR 75, vI s, vI w, vI t, vI w, vI y] G0 h Q := by
  have pb := okp_b hp
  have hw' := hw
  have hs' := hs
  have ht' := ht
  unfold okw at hw'
  unfold okt at hs' ht'
  refine eX9_addRow 75 s w t w y (vX9_addRow_0 75 s w t w y ?_)
  refine lp_up (σ := HP) (fun i hh => S l MX9_addRow (d, 0, 0, 0, 0) 3 [some (vR 75), some (vI s), some (vI w), some (vI t), some (vI w), some (vI y), some (vI i), none] [] G0 hh Q) (fun i hh => 0 ≤ i ∧ (∀ b, b ≠ 78 → hh b = h b) ∧ (∀ j, 0 ≤ j → j < i → hh 78 (27 * s + 9 * w + j) = (D p (rw' P (40 * w + s)) j + y * D p (rw' P (40 * w + t)) j) % p) ∧ ∀ j, j < 27 * s + 9 * w ∨ 27 * s + 9 * w + i ≤ j → hh 78 j = h 78 j) 9 ?_ ?_ 0 h (by decide) ⟨by decide, fun _ _ => rfl, fun j j0 j1 => by omega, fun _ _ => rfl⟩
  · intro i hh hi ⟨i0, f, dn, ot⟩ ih
    have e75 := f 75 (by decide)
    have d1 := D_D (x := rw' P (40 * w + s)) (i := i) hp
    have d2 := D_D (x := rw' P (40 * w + t)) (i := i) hp
    have m := ml_b hy.1 (show y ≤ 7 by have := hy.2; omega) d2.1 (show D p (rw' P (40 * w + t)) i ≤ 7 by omega)
    have v1 : hh 78 (27 * s + 9 * w + i) = D p (rw' P (40 * w + s)) i := by rw [ot _ (by omega)]; exact ms.at hs.1 hs.2 hw.1 hw.2 i0 hi
    have v2 : hh 78 (27 * t + 9 * w + i) = D p (rw' P (40 * w + t)) i := by rw [ot _ (by omega)]; exact ms.at ht.1 ht.2 hw.1 hw.2 i0 hi
    refine vX9_addRow_3 75 s w t w y i ?_
    simp only [e75, mr.sc, h0, v1, v2]
    refine ⟨⟨by omega, by omega⟩, fun c => by omega, fun _ => ⟨t75, i78 (by omega) (by omega), i78 (by omega) (by omega), ⟨⟨by omega, by omega⟩, by omega, by omega⟩, fun h7 e7 => ih h7 ⟨by omega, fun b hb => by rw [e7, hset_oa hb]; exact f b hb, fun j j0 j1 => ?_, fun j hj => ?_⟩⟩⟩
    · by_cases e : j = i
      · rw [e, e7, hset_s]
      · rw [e7, hset_oj (by omega)]; exact dn j j0 (by omega)
    · rw [e7, hset_oj (by omega)]; exact ot j (by omega)
  · intro hh ⟨i0, f, dn, ot⟩
    refine vX9_addRow_3 75 s w t w y 9 ⟨⟨by decide, by decide⟩, fun _ => hQ hh f (ms_put ms hw.1 hw.2 hs.1 hs.2 T40.2 (by rw [f 75 (by decide)]) (fun i i0 i9 => ?_) (fun j hj => ot j (by omega))), fun c => by omega⟩
    rw [dn i i0 i9, D_pl hp i0 i9]
theorem thr_2 {s t : Int} (h0 : alk p P 0 s t) (h1 : alk p P 1 s t) : thr p P s t = 2 := by unfold thr; rw [if_pos h0, if_pos h1]
theorem thr_1 {s t : Int} (h0 : alk p P 0 s t) (h1 : ¬ alk p P 1 s t) (h2 : alk p P 2 s t) : thr p P s t = 1 := by unfold thr; rw [if_pos h0, if_neg h1, if_pos h2]
theorem thr_0 {s t : Int} (h0 : ¬ alk p P 0 s t) (h1 : alk p P 1 s t) (h2 : alk p P 2 s t) : thr p P s t = 0 := by unfold thr; rw [if_neg h0, if_pos h1, if_pos h2]
theorem thr_a {s t : Int} (h0 : alk p P 0 s t) (h1 : ¬ alk p P 1 s t) (h2 : ¬ alk p P 2 s t) : thr p P s t = -1 := by unfold thr; rw [if_pos h0, if_neg h1, if_neg h2]
theorem thr_b {s t : Int} (h0 : ¬ alk p P 0 s t) (h1 : alk p P 1 s t) (h2 : ¬ alk p P 2 s t) : thr p P s t = -1 := by unfold thr; rw [if_neg h0, if_pos h1, if_neg h2]
theorem thr_c {s t : Int} (h0 : ¬ alk p P 0 s t) (h1 : ¬ alk p P 1 s t) : thr p P s t = -1 := by unfold thr; rw [if_neg h0, if_neg h1]
set_option maxHeartbeats 1000000 in
theorem rX9_bringTogether {s t : Int} (mr : MR h) (h0 : h 75 0 = p) (hp : okp p) (ms : MS h p P) (hW : WF p P) (hs : okt P s) (ht : okt P t) (hne : s ≠ t) (hn : thr p P s t = -1 → ∀ h', (∀ b, b ≠ 85 → h' b = h b) → Q 0 G0 h') (hy : thr p P s t ≠ -1 → ∀ h', FrL2 h h' → MS h' p (jn p P s t (thr p P s t)) → Q 1 G0 h') : R l MX9_bringTogether (d + 2) 0 0 [vR 75, vI s, vI t] G0 h Q := by
  have pb := okp_b hp
  have h40 := hW.2.2.1
  have mf : ∀ w, okw w → (0 < mfc p P w s t ↔ alk p P w s t) ∧ isD p (mfc p P w s t) := fun w hw => mfc_pos hp (rowR hp hW hw.1 hw.2 hs.1 hs.2) (rowR hp hW hw.1 hw.2 ht.1 ht.2)
  refine eX9_bringTogether 75 s t (vX9_bringTogether_0 75 s t ?_)
  simp only [mr.fa]
  refine ⟨t75, by decide, ?_⟩
  refine lp_up (σ := HP) (fun w hh => S l MX9_bringTogether (d + 1 + 1, 0, 0, 0, 0) 8 [some (vR 75), some (vI s), some (vI t), some (vR 85), some (vI w), none] [] G0 hh Q) (fun w hh => 0 ≤ w ∧ (∀ b, b ≠ 85 → hh b = h b) ∧ ∀ j, 0 ≤ j → j < w → hh 85 j = mfc p P j s t) 3 ?_ ?_ 0 h (by decide) ⟨by decide, fun _ _ => rfl, fun j j0 j1 => by omega⟩
  · intro w hh hw ⟨w0, f, dn⟩ ih
    have e75 := f 75 (by decide)
    refine vX9_bringTogether_8 75 s t 85 w ⟨⟨by omega, by omega⟩, fun c => by omega, fun _ => ⟨t75, rX9_factor (mr.fr (fun j _ _ _ _ _ _ => by rw [e75])) (by rw [e75]; exact h0) hp (ms.fr (by rw [e75]) (f 78 (by decide))) hW ⟨w0, hw⟩ hs ht ⟨i85 w0 hw, fun h4 e4 => ih h4 ⟨by omega, fun b hb => by rw [e4, hset_oa hb]; exact f b hb, fun j j0 j1 => ?_⟩⟩⟩⟩
    by_cases e : j = w
    · rw [e, e4, hset_s]
    · rw [e4, hset_oj e]; exact dn j j0 (by omega)
  · intro hh ⟨w0, f, dn⟩
    have e75 := f 75 (by decide)
    have m0 := mf 0 ⟨by decide, by decide⟩
    have m1 := mf 1 ⟨by decide, by decide⟩
    have m2 := mf 2 ⟨by decide, by decide⟩
    have v0 := dn 0 (by decide) (by decide)
    have v1 := dn 1 (by decide) (by decide)
    have v2 := dn 2 (by decide) (by decide)
    have Q0 : thr p P s t = -1 → Q 0 G0 hh := fun z => hn z hh f
    have leaf : ∀ c, 0 ≤ c → c < 3 → thr p P s t = c → (dvR (c + 1) 3) ∧ (inA G0 10 85 ((c + 1) % 3)) ∧ (dvR (c + 2) 3) ∧ (inA G0 10 85 ((c + 2) % 3)) ∧ (ty G0 75 = 9) ∧ (dvR ((hh 85 ((c + 1) % 3)) * (hh 85 ((c + 2) % 3))) (hh 75 0)) ∧ R l MX9_addRow (d + 1) 0 0 [vR 75, vI s, vI c, vI t, vI c, vI (((hh 85 ((c + 1) % 3)) * (hh 85 ((c + 2) % 3))) % (hh 75 0))] G0 hh (fun r22 G23 h24 => (ty G23 75 = 9) ∧ R l MX9_remove (d + 1) 0 0 [vR 75, vI t] G23 h24 (fun r25 G26 h27 => Q 1 G26 h27)) := fun c c0 c3 ec => by
      have tr := thr_r (p := p) (P := P) (s := s) (t := t) (by omega)
      rw [ec] at tr hy
      have o1 : okw ((c + 1) % 3) := ⟨by omega, by omega⟩
      have o2 : okw ((c + 2) % 3) := ⟨by omega, by omega⟩
      have a1 := mf _ o1
      have a2 := mf _ o2
      rw [dn ((c + 1) % 3) (by omega) (by omega), dn ((c + 2) % 3) (by omega) (by omega), e75, h0]
      refine ⟨⟨⟨by omega, by omega⟩, by decide, by decide⟩, i85 (by omega) (by omega), ⟨⟨by omega, by omega⟩, by decide, by decide⟩, i85 (by omega) (by omega), t75, ml_dv hp a1.2 a2.2, ?_⟩
      have f1 : mfc p P ((c + 1) % 3) s t = fac p P ((c + 1) % 3) s t := if_pos tr.2.2.1
      have f2 : mfc p P ((c + 2) % 3) s t = fac p P ((c + 2) % 3) s t := if_pos tr.2.2.2
      rw [f1, f2]
      have mrh := mr.fr (h' := hh) (fun j _ _ _ _ _ _ => by rw [e75])
      refine rX9_addRow mrh (by rw [e75]; exact h0) hp (ms.fr (by rw [e75]) (f 78 (by decide))) h40 ⟨c0, c3⟩ hs ht hne (md_D hp) (fun h' f' ms' => ⟨t75, ?_⟩)
      have e75' : h' 75 = h 75 := (f' 75 (by decide)).trans e75
      have hrow := pl_sz (f := fac p P ((c + 1) % 3) s t * fac p P ((c + 2) % 3) s t % p) hp (by have := (hW.1 c c0 c3).1; omega) (hW.1 c c0 c3).2 (hW.2.2.2 c s c0 c3 hs.1 hs.2) (hW.2.2.2 c t c0 c3 ht.1 ht.2)
      refine rX9_remove (mr.fr (fun j _ _ _ _ _ _ => by rw [e75'])) ms' (WF_prw hW c0 c3 hs.1 hs.2 hrow) ht (fun h2 g g75 ms2 => hy (by omega) h2 ⟨fun b b1 b2 b3 => by rw [g b b1 b2, f' b b2, f b b3], fun j j4 => by rw [g75 j j4, e75']⟩ ms2)
    refine vX9_bringTogether_8 75 s t 85 3 ⟨⟨by decide, by decide⟩, fun _ => ?_, fun c => by omega⟩
    have i0 : inA G0 10 85 0 := i85 (by decide) (by decide)
    have i1 : inA G0 10 85 1 := i85 (by decide) (by decide)
    have i2 : inA G0 10 85 2 := i85 (by decide) (by decide)
    have r0 : inR (hh 85 0) := by rw [v0]; have := m0.2; exact ⟨by omega, by omega⟩
    have r1 : inR (hh 85 1) := by rw [v1]; have := m1.2; exact ⟨by omega, by omega⟩
    have r2 : inR (hh 85 2) := by rw [v2]; have := m2.2; exact ⟨by omega, by omega⟩
    have y0 : 0 < hh 85 0 → alk p P 0 s t := fun z => m0.1.1 (by rw [← v0]; exact z)
    have y1 : 0 < hh 85 1 → alk p P 1 s t := fun z => m1.1.1 (by rw [← v1]; exact z)
    have y2 : 0 < hh 85 2 → alk p P 2 s t := fun z => m2.1.1 (by rw [← v2]; exact z)
    have n0 : hh 85 0 ≤ 0 → ¬ alk p P 0 s t := fun z y => by have := m0.1.2 y; omega
    have n1 : hh 85 1 ≤ 0 → ¬ alk p P 1 s t := fun z y => by have := m1.1.2 y; omega
    have n2 : hh 85 2 ≤ 0 → ¬ alk p P 2 s t := fun z y => by have := m2.1.2 y; omega
    have L0 := leaf 0 (by decide) (by decide)
    have L1 := leaf 1 (by decide) (by decide)
    have L2 := leaf 2 (by decide) (by decide)
    refine ⟨i0, r0, fun c0 => ⟨fun _ => ⟨i1, r1, fun c1 => Q0 (thr_c (n0 c0) (n1 c1)), fun c1 => ⟨i2, r2, fun c2 => Q0 (thr_b (n0 c0) (y1 c1) (n2 c2)), fun c2 => L0 (thr_0 (n0 c0) (y1 c1) (y2 c2))⟩⟩, fun z => by omega⟩, fun c0 => ⟨i1, r1, fun c1 => ⟨fun z => by omega, fun _ => ⟨i2, r2, fun c2 => ⟨fun _ => Q0 (thr_a (y0 c0) (n1 c1) (n2 c2)), fun z => by omega⟩, fun c2 => L1 (thr_1 (y0 c0) (n1 c1) (y2 c2))⟩⟩, fun c1 => L2 (thr_2 (y0 c0) (y1 c1))⟩⟩
end Mod8
