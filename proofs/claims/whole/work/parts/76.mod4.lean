section Mod4
variable {l : Launch} {d : Nat} {h : HP} {p : Int} {P : PS} {B : BS} {Q : Int → GS → HP → Prop}
theorem MS_mk (e4 : h 75 4 = tm P) (H : ∀ t w i, 0 ≤ t → t < tm P → 0 ≤ w → w < 3 → 0 ≤ i → i < 9 → h 78 (27 * t + 9 * w + i) = D p (rw' P (40 * w + t)) i) : MS h p P := ⟨e4, fun k k0 k1 => by
  have := H (k / 27) (k % 27 / 9) (k % 9) (by omega) (by omega) (by omega) (by omega) (by omega) (by omega)
  rw [show 27 * (k / 27) + 9 * (k % 27 / 9) + k % 9 = k by omega] at this
  exact this⟩
theorem MS.at {t w i : Int} (m : MS h p P) (t0 : 0 ≤ t) (t1 : t < tm P) (w0 : 0 ≤ w) (w3 : w < 3) (i0 : 0 ≤ i) (i9 : i < 9) : h 78 (27 * t + 9 * w + i) = D p (rw' P (40 * w + t)) i := by
  rw [m.2 _ (by omega) (by omega), sd_at w0 w3 i0 i9]
theorem MB_ext {P' : PS} (m : MB h p P) (hs : P'.1 = P.1) (hf : P'.2.1 = P.2.1) : MB h p P' := by
  obtain ⟨a, b, c⟩ := P
  obtain ⟨a', b', c'⟩ := P'
  have e1' : a' = a := hs
  have e2' : b' = b := hf
  subst e1' e2'
  exact m
/-- the scheme alone has changed -/
theorem MX.sc {h' : HP} {P' : PS} (m : MX h B) (hs : P'.1 = (bP B).1) (hf : P'.2.1 = (bP B).2.1) (ms : MS h' (bp B) P') (f : ∀ b, 76 ≤ b → b ≠ 78 → b ≤ 84 → h' b = h b) (f75 : ∀ j, j ≠ 4 → h' 75 j = h 75 j) : MX h' (bst B P') := by
  refine ⟨m.1.fr (fun j _ j4 _ _ _ _ => f75 j j4), by rw [f75 0 (by decide)]; exact m.2.1, (MB_ext m.2.2.1 hs hf).fr (f 76 (by decide) (by decide) (by decide)) (f 77 (by decide) (by decide) (by decide)), ms, m.2.2.2.2.1.fr (f 79 (by decide) (by decide) (by decide)), m.2.2.2.2.2.1.fr (fun b b0 b1 => f b (by omega) (by omega) b1), ?_⟩
  have mn := m.2.2.2.2.2.2
  show h' 75 15 = 0 ∨ (h' 75 15 = 1 ∧ knw (bp B) P' (h' 75 16))
  rw [f75 15 (by decide), f75 16 (by decide)]
  rcases mn with e | ⟨e1, e2⟩
  · exact .inl e
  · exact .inr ⟨e1, knw_ext hs hf e2⟩
theorem ms_put {h' : HP} {t w x : Int} (ms : MS h p P) (w0 : 0 ≤ w) (w3 : w < 3) (t0 : 0 ≤ t) (tT : t < tm P) (T40 : tm P ≤ 40) (e4 : h' 75 4 = h 75 4) (f1 : ∀ i, 0 ≤ i → i < 9 → h' 78 (27 * t + 9 * w + i) = D p x i) (f2 : ∀ j, j < 27 * t + 9 * w ∨ 27 * t + 9 * w + 9 ≤ j → h' 78 j = h 78 j) : MS h' p (prw P w t x) := by
  refine MS_mk (e4.trans ms.1) (fun t' w' i t0' t1' w0' w3' i0 i9 => ?_)
  have t1'' : t' < tm P := t1'
  show _ = D p (up1 P.2.2.2 (40 * w + t) x (40 * w' + t')) i
  by_cases e : w' = w ∧ t' = t
  · rw [e.1, e.2, up1_s]; exact f1 i i0 i9
  · rw [up1_o (by omega), f2 _ (by omega)]
    exact ms.at t0' t1'' w0' w3' i0 i9
theorem rX9_time {u v w r : Int} {B' : BS} (hu : inR u) (hv : inR v) (hw : inR w) (bw : BW B) (hm : MX h B) (hA : A_tm u v w B r B') (hQ : ∀ h', MX h' B' → FM h h' → Q r G0 h') : R l MX9_time (d + 2) 0 0 [vR 75, vI u, vI v, vI w] G0 h Q := by
  have hp := bw.1
  have hW := bw.2.1
  have h40 := hW.2.2.1
  have ms := hm.2.2.2.1
  have r1 : inR 1 := ⟨by decide, by decide⟩
  have r0 : inR 0 := ⟨by decide, by decide⟩
  have no : ¬ (okx (bp B) (bP B) 0 u ∧ okx (bp B) (bP B) 1 v ∧ okx (bp B) (bP B) 2 w) → Q (-1) G0 h := fun n => by
    rcases hA with ⟨_, rfl, rfl⟩ | ⟨o, _⟩
    · exact hQ h hm FM.rf
    · exact absurd o n
  have sz' := hm.2.2.1.1
  refine eX9_time 75 u v w (vX9_time_0 75 u v w ⟨t75, rX9_isRow hm.1 hm.2.1 hp (sz' 0 (by decide) (by decide)) ⟨by decide, by decide⟩ (hW.1 0 (by decide) (by decide)) hu (fun o1 => ⟨r1, fun z => by omega, fun _ => ⟨t75, rX9_isRow hm.1 hm.2.1 hp (sz' 1 (by decide) (by decide)) ⟨by decide, by decide⟩ (hW.1 1 (by decide) (by decide)) hv (fun o2 => ⟨r1, fun z => by omega, fun _ => ⟨t75, rX9_isRow hm.1 hm.2.1 hp (sz' 2 (by decide) (by decide)) ⟨by decide, by decide⟩ (hW.1 2 (by decide) (by decide)) hw (fun o3 => ⟨r1, fun _ => ?_, fun z => by omega⟩) (fun n => ⟨r0, fun z => absurd rfl z, fun _ => no (fun q => n q.2.2)⟩)⟩⟩) (fun n => ⟨r0, fun _ => no (fun q => n q.2.1), fun z => absurd rfl z⟩)⟩⟩) (fun n => ⟨r0, fun _ => no (fun q => n q.1), fun z => absurd rfl z⟩)⟩)
  simp only [ms.1]
  refine ⟨t75, ⟨by omega, by omega⟩, fun c => ?_, fun c => ?_⟩
  · refine rX9_putRow hm.1 hm.2.1 hp ⟨by decide, by decide⟩ h40.1 (by omega) (okx_R hp hW (by decide) (by decide) o1) (fun h1 f1 a1 b1 => ⟨t75, ?_⟩)
    have e1 := f1 75 (by decide)
    rw [e1, ms.1]
    refine rX9_putRow (hm.1.fr (fun j _ _ _ _ _ _ => by rw [e1])) (by rw [e1]; exact hm.2.1) hp ⟨by decide, by decide⟩ h40.1 (by omega) (okx_R hp hW (by decide) (by decide) o2) (fun h2 f2 a2 b2 => ⟨t75, ?_⟩)
    have e2 : h2 75 = h 75 := (f2 75 (by decide)).trans e1
    rw [e2, ms.1]
    refine rX9_putRow (hm.1.fr (fun j _ _ _ _ _ _ => by rw [e2])) (by rw [e2]; exact hm.2.1) hp ⟨by decide, by decide⟩ h40.1 (by omega) (okx_R hp hW (by decide) (by decide) o3) (fun h3 f3 a3 b3 => ⟨t75, fun h4 e4 => ?_⟩)
    have e3 : h3 75 = h 75 := (f3 75 (by decide)).trans e2
    rw [e3, ms.1] at e4
    have v4 : h4 75 4 = tm (bP B) + 1 := by rw [e4, hset_s]
    rw [v4]
    rcases hA with ⟨n, _, _⟩ | ⟨_, ⟨n, _, _⟩ | ⟨_, rfl, rfl⟩⟩
    · exact absurd ⟨o1, o2, o3⟩ n
    · omega
    have e78 : h4 78 = h3 78 := by rw [e4, hset_oa (by decide)]
    have := hQ h4 (hm.sc rfl rfl (MS_mk v4 (fun t w' i t0 t1 w0 w3 i0 i9 => ?_)) (fun b b0 b8 b4 => by rw [e4, hset_oa (by omega), f3 b b8, f2 b b8, f1 b b8]) (fun j j4 => by rw [e4, hset_oj j4, e3])) (fun b hb => by rw [e4, hset_oa (by omega), f3 b (by omega), f2 b (by omega), f1 b (by omega)])
    · rw [show tm (bP B) + 1 - 1 = tm (bP B) by omega]; exact this
    · have t1' : t < tm (bP B) + 1 := t1
      show _ = D (bp B) (up1 (up1 (up1 (bP B).2.2.2 (40 * 0 + tm (bP B)) u) (40 * 1 + tm (bP B)) v) (40 * 2 + tm (bP B)) w (40 * w' + t)) i
      rw [e78]
      by_cases e : t = tm (bP B)
      · rw [e]
        rcases (show w' = 0 ∨ w' = 1 ∨ w' = 2 by omega) with rfl | rfl | rfl
        · rw [up1_o (by omega), up1_o (by omega), up1_s, b3 _ (by omega), b2 _ (by omega)]; exact a1 i i0 i9
        · rw [up1_o (by omega), up1_s, b3 _ (by omega)]; exact a2 i i0 i9
        · rw [up1_s]; exact a3 i i0 i9
      · rw [up1_o (by omega), up1_o (by omega), up1_o (by omega), b3 _ (by omega), b2 _ (by omega), b1 _ (by omega)]
        exact ms.at t0 (by omega) w0 w3 i0 i9
  · rcases hA with ⟨n, _, _⟩ | ⟨_, ⟨_, rfl, rfl⟩ | ⟨n, _, _⟩⟩
    · exact absurd ⟨o1, o2, o3⟩ n
    · exact hQ h hm FM.rf
    · omega
theorem rX9_row {t w r : Int} {B' : BS} (ht : inR t) (hw : inR w) (bw : BW B) (hm : MX h B) (hA : A_ro t w B r B') (hQ : ∀ h', MX h' B' → FM h h' → Q r G0 h') : R l MX9_row (d + 2) 0 0 [vR 75, vI t, vI w] G0 h Q := by
  have hW := bw.2.1
  have r1 : inR 1 := ⟨by decide, by decide⟩
  have r0 : inR 0 := ⟨by decide, by decide⟩
  obtain ⟨eB, hA⟩ := hA
  rw [eB] at hQ
  have no : ¬ (okt (bP B) t ∧ okw w) → Q (-1) G0 h := fun n => by
    rcases hA with ⟨o, _⟩ | ⟨_, rfl⟩
    · exact absurd o n
    · exact hQ h hm FM.rf
  refine eX9_row 75 t w (vX9_row_0 75 t w ⟨t75, rX9_isTime hm.2.2.2.1 hW ht (fun o1 => ⟨r1, fun z => by omega, fun _ => ⟨hw, rX9_in ⟨by have := hw.1; omega, by have := hw.2; omega⟩ (by decide) (by decide) (fun o2 => ⟨r1, fun z => by omega, fun _ => ⟨t75, ?_⟩⟩) (fun n => ⟨r0, fun _ => no (fun q => n (by have := q.2; unfold okw at this; omega)), fun z => absurd rfl z⟩)⟩⟩) (fun n => ⟨r0, fun _ => no (fun q => n q.1), fun z => absurd rfl z⟩)⟩)
  have ow : okw w := ⟨o2.1, by omega⟩
  refine rX9_getRow hm.1 hm.2.1 bw.1 hm.2.2.2.1 hW (hm.2.2.1.1 w ow.1 ow.2) ow o1 ?_
  rcases hA with ⟨_, rfl⟩ | ⟨n, _⟩
  · exact hQ h hm FM.rf
  · exact absurd ⟨o1, ow⟩ n
theorem rX9_change {t w x r : Int} {B' : BS} (ht : inR t) (hw : inR w) (hx : inR x) (bw : BW B) (hm : MX h B) (hA : A_ch t w x B r B') (hQ : ∀ h', MX h' B' → FM h h' → Q r G0 h') : R l MX9_change (d + 2) 0 0 [vR 75, vI t, vI w, vI x] G0 h Q := by
  have hW := bw.2.1
  have hp := bw.1
  have r1 : inR 1 := ⟨by decide, by decide⟩
  have r0 : inR 0 := ⟨by decide, by decide⟩
  have no : ¬ (okt (bP B) t ∧ okw w ∧ okx (bp B) (bP B) w x) → Q (-1) G0 h := fun n => by
    rcases hA with ⟨o, _⟩ | ⟨_, rfl, rfl⟩
    · exact absurd o n
    · exact hQ h hm FM.rf
  refine eX9_change 75 t w x (vX9_change_0 75 t w x ⟨t75, rX9_isTime hm.2.2.2.1 hW ht (fun o1 => ⟨r1, fun z => by omega, fun _ => ⟨hw, rX9_in ⟨by have := hw.1; omega, by have := hw.2; omega⟩ (by decide) (by decide) (fun o2 => ⟨r1, fun z => by omega, fun _ => ⟨t75, ?_⟩⟩) (fun n => ⟨r0, fun _ => no (fun q => n (by have := q.2.1; unfold okw at this; omega)), fun z => absurd rfl z⟩)⟩⟩) (fun n => ⟨r0, fun _ => no (fun q => n q.1), fun z => absurd rfl z⟩)⟩)
  have ow : okw w := ⟨o2.1, by omega⟩
  refine rX9_isRow hm.1 hm.2.1 hp (hm.2.2.1.1 w ow.1 ow.2) ow (hW.1 w ow.1 ow.2) hx (fun o3 => ⟨r1, fun _ => ⟨t75, rX9_putRow hm.1 hm.2.1 hp ow o1.1 (by have := o1.2; have := hW.2.2.1; omega) (okx_R hp hW ow.1 ow.2 o3) (fun h1 f1 a1 b1 => ?_)⟩, fun z => by omega⟩) (fun n => ⟨r0, fun z => absurd rfl z, fun _ => no (fun q => n q.2.2)⟩)
  rcases hA with ⟨_, rfl, rfl⟩ | ⟨n, _⟩
  · have e1 := f1 75 (by decide)
    exact hQ h1 (hm.sc rfl rfl (ms_put hm.2.2.2.1 ow.1 ow.2 o1.1 o1.2 hW.2.2.1.2 (by rw [e1]) a1 b1) (fun b b0 b8 b4 => f1 b b8) (fun j j4 => by rw [e1])) (fun b hb => f1 b (by omega))
  · exact absurd ⟨o1, ow, o3⟩ n
theorem rX9_remove {t : Int} (mr : MR h) (ms : MS h p P) (hW : WF p P) (ht : okt P t) (hQ : ∀ h', (∀ b, b ≠ 75 → b ≠ 78 → h' b = h b) → (∀ j, j ≠ 4 → h' 75 j = h 75 j) → MS h' p (rmv P t) → Q 0 G0 h') : R l MX9_remove d 0 0 [vR 75, vI t] G0 h Q := by
  have h40 := hW.2.2.1
  have ht' := ht
  unfold okt at ht'
  refine eX9_remove 75 t (vX9_remove_0 75 t ?_)
  refine lp_up (σ := HP) (fun k hh => S l MX9_remove (d, 0, 0, 0, 0) 5 [some (vR 75), none, some (vI k)] [] G0 hh Q) (fun k hh => 27 * t ≤ k ∧ (∀ b, b ≠ 78 → hh b = h b) ∧ ∀ j, hh 78 j = if 27 * t ≤ j ∧ j < k then h 78 (j + 27) else h 78 j) (27 * (tm P - 1)) ?_ ?_ (27 * t) h (by omega) ⟨by omega, fun _ _ => rfl, fun j => by rw [if_neg (by omega)]⟩
  · intro k hh hk ⟨k0, f, dn⟩ ih
    have e75 := f 75 (by decide)
    refine vX9_remove_5 75 k ?_
    simp only [e75, ms.1, mr.sc]
    refine ⟨t75, ⟨by omega, by omega⟩, ⟨by omega, by omega⟩, fun c => by omega, fun _ => ⟨i78 (by omega) (by omega), i78 (by omega) (by omega), fun h8 e8 => ih h8 ⟨by omega, fun b hb => by rw [e8, hset_oa hb]; exact f b hb, fun j => ?_⟩⟩⟩
    rw [e8]
    by_cases e : j = k
    · rw [e, hset_s, dn, if_neg (by omega), if_pos (by omega)]
    · rw [hset_oj e, dn]
      by_cases c : 27 * t ≤ j ∧ j < k
      · rw [if_pos c, if_pos (by omega)]
      · rw [if_neg c, if_neg (by omega)]
  · intro hh ⟨k0, f, dn⟩
    have e75 := f 75 (by decide)
    refine vX9_remove_5 75 _ ?_
    simp only [e75, ms.1]
    refine ⟨t75, ⟨by omega, by omega⟩, ⟨by omega, by omega⟩, fun _ h5 e5 => hQ h5 (fun b b1 b2 => by rw [e5, hset_oa b1]; exact f b b2) (fun j j4 => by rw [e5, hset_oj j4, e75]) (MS_mk (by rw [e5, hset_s]; rfl) (fun s w i s0 s1 w0 w3 i0 i9 => ?_)), fun c => by omega⟩
    have s1' : s < tm P - 1 := s1
    rw [e5, hset_oa (by decide), dn, rmv_g s0 (by omega)]
    unfold sk
    by_cases c : t ≤ s
    · rw [if_pos (by omega), if_pos c, show 27 * s + 9 * w + i + 27 = 27 * (s + 1) + 9 * w + i by omega]
      exact ms.at (by omega) (by omega) w0 w3 i0 i9
    · rw [if_neg (by omega), if_neg c]
      exact ms.at s0 (by omega) w0 w3 i0 i9
theorem rX9_drop {t r : Int} {B' : BS} (ht : inR t) (bw : BW B) (hm : MX h B) (hA : A_dr t B r B') (hQ : ∀ h', MX h' B' → FM h h' → Q r G0 h') : R l MX9_drop (d + 2) 0 0 [vR 75, vI t] G0 h Q := by
  have hW := bw.2.1
  have r1 : inR 1 := ⟨by decide, by decide⟩
  have r0 : inR 0 := ⟨by decide, by decide⟩
  refine eX9_drop 75 t (vX9_drop_0 75 t ⟨t75, rX9_isTime hm.2.2.2.1 hW ht (fun o1 => ⟨r1, fun _ => ⟨t75, rX9_remove hm.1 hm.2.2.2.1 hW o1 (fun h' f f75 ms' => ⟨t75, ?_⟩)⟩, fun z => by omega⟩) (fun n => ⟨r0, fun z => absurd rfl z, fun _ => ?_⟩)⟩)
  · rcases hA with ⟨_, rfl, rfl⟩ | ⟨n, _⟩
    · rw [ms'.1]
      exact hQ h' (hm.sc rfl rfl ms' (fun b b0 b8 b4 => f b (by omega) b8) f75) (fun b hb => f b (by omega) (by omega))
    · exact absurd o1 n
  · rcases hA with ⟨o, _⟩ | ⟨_, rfl, rfl⟩
    · exact absurd o n
    · exact hQ h hm FM.rf
end Mod4
