theorem wn_sz {p x i v n : Int} (hp : okp p) (hn : n ≤ 9) (hx : 0 ≤ x ∧ x < PW p n) (hi : 0 ≤ i ∧ i < n) (hv : isD p v) : 0 ≤ wn p x i v ∧ wn p x i v < PW p n := by
  have hR : isR p x := ⟨hx.1, Int.lt_of_lt_of_le hx.2 (PW_le (okp_b hp).1 hn)⟩
  have h1 := wn_R hp hR hi.1 (by omega) hv
  refine ⟨h1.1, lt_sz hp h1 (by omega) hn (fun k k0 k9 => ?_)⟩
  rw [D_wn hp hR hi.1 (by omega) hv (by omega) k9, if_neg (by omega)]
  exact D_sz hp hx k0
theorem WF_stP {p : Int} {P : PS} {i j k v : Int} (hp : okp p) (hW : WF p P) (hc : plc P i j k) (hv : isD p v) : WF p (stP p P i j k v) := by
  have s2 := hW.1 2 (by decide) (by decide)
  have s1 := hW.1 1 (by decide) (by decide)
  have s0 := hW.1 0 (by decide) (by decide)
  obtain ⟨hi, hj, hk⟩ := hc
  refine ⟨hW.1, fun i' j' i0 i9 j0 j9 => ?_, hW.2.2⟩
  have h1 := hW.2.1 i' j' i0 i9 j0 j9
  show 0 ≤ up1 P.2.1 (9 * i + j) _ (9 * i' + j') ∧ up1 P.2.1 (9 * i + j) _ (9 * i' + j') < PW p (sz P 2) ∧ (sz P 0 ≤ i' ∨ sz P 1 ≤ j' → up1 P.2.1 (9 * i + j) _ (9 * i' + j') = 0)
  by_cases e : 9 * i' + j' = 9 * i + j
  · rw [e, up1_s]
    have h2 := hW.2.1 i j hi.1 (by omega) hj.1 (by omega)
    have h3 := wn_sz hp s2.2 ⟨h2.1, h2.2.1⟩ hk hv
    exact ⟨h3.1, h3.2, fun z => by omega⟩
  · rw [up1_o e]; exact h1
section Face3
variable {l : Launch} {d : Nat} {h : HP} {B : BS} {Q : Int → GS → HP → Prop}
theorem CXa.w {a : Int} (hc : CXa h a B) : WF (bp B) (bP B) := hc.2.2.2.2.2.2.2.2.2.1
theorem CXa.h10 {a : Int} (hc : CXa h a B) : h 0 10 = a := hc.2.2.1.2.2.2.2.2.2.2.2.2.2.1
theorem rX8_set {i j k v : Int} (hi : inR i) (hj : inR j) (hk : inR k) (hv : inR v) (hc : CX h B) (hQ : ∀ r B' h', A_st i j k v B r B' → CX h' B' → FC h h' → Q r G0 h') : R l MX8_set (d + 3) 0 0 [vR 0, vI i, vI j, vI k, vI v] G0 h Q := by
  obtain ⟨a, hc⟩ := hc
  have g := hc.2.1
  have ha := isP_a hc.1
  have hW := hc.w
  have X := hc.2.2.2.1
  have r1 : inR 1 := ⟨by decide, by decide⟩
  have r0 : inR 0 := ⟨by decide, by decide⟩
  have no : ¬ (plc (bP B) i j k ∧ isD (bp B) v) → Q (-1) G0 h := fun n => hQ _ _ _ (.inr ⟨n, rfl, rfl⟩) ⟨a, hc⟩ FC.rf
  refine eX8_set 0 i j k v (vX8_set_0 0 i j k v ?_)
  simp only [hc.h10]
  refine ⟨by decide +kernel, (tP ha).1, rX4_hasPlace ha X hW hi hj hk (fun o1 => ⟨r1, fun z => by omega, fun _ => ?_⟩) (fun n => ⟨r0, fun _ => no (fun q => n q.1), fun z => absurd rfl z⟩)⟩
  simp only [hc.2.2.1.1]
  refine ⟨by decide +kernel, by decide +kernel, rX1_isNumber g hv (fun o2 => ⟨r1, fun _ => ?_, fun z => by omega⟩) (fun n => ⟨r0, fun z => absurd rfl z, fun _ => no (fun q => n q.2)⟩)⟩
  have s2 := hW.1 2 (by decide) (by decide)
  have s1 := hW.1 1 (by decide) (by decide)
  have s0 := hW.1 0 (by decide) (by decide)
  obtain ⟨oi, oj, ok⟩ := o1
  simp only [hc.h10]
  refine ⟨by decide +kernel, (tP ha).1, rX4_number g ha X hW oi.1 (by omega) oj.1 (by omega) ok.1 (by omega) ?_⟩
  simp only [hc.h10]
  refine ⟨by decide +kernel, (tP ha).1, rX4_setNumber g ha X hW oi.1 (by omega) oj.1 (by omega) ok.1 (by omega) (hQ _ _ _ (.inl ⟨⟨⟨oi, oj, ok⟩, o2⟩, rfl, rfl⟩) ⟨a, hc.pc (XP_fib X) (WF_stP g.1 hW ⟨oi, oj, ok⟩ o2) rfl (FrP.set (by omega) (by omega))⟩ (FrP.c ha (FrP.set (by omega) (by omega))))⟩
theorem rX8_at {i j k : Int} (hi : inR i) (hj : inR j) (hk : inR k) (hc : CX h B) (hQ : ∀ r B' h', A_at i j k B r B' → CX h' B' → FC h h' → Q r G0 h') : R l MX8_at (d + 3) 0 0 [vR 0, vI i, vI j, vI k] G0 h Q := by
  obtain ⟨a, hc⟩ := hc
  have g := hc.2.1
  have ha := isP_a hc.1
  have hW := hc.w
  have X := hc.2.2.2.1
  have r1 : inR 1 := ⟨by decide, by decide⟩
  have r0 : inR 0 := ⟨by decide, by decide⟩
  refine eX8_at 0 i j k (vX8_at_0 0 i j k ?_)
  simp only [hc.h10]
  refine ⟨by decide +kernel, (tP ha).1, rX4_hasPlace ha X hW hi hj hk (fun o1 => ⟨r1, fun z => by omega, fun _ => ?_⟩) (fun n => ⟨r0, fun _ => hQ _ _ _ ⟨rfl, .inr ⟨n, rfl⟩⟩ ⟨a, hc⟩ FC.rf, fun z => absurd rfl z⟩)⟩
  have s2 := hW.1 2 (by decide) (by decide)
  have s1 := hW.1 1 (by decide) (by decide)
  have s0 := hW.1 0 (by decide) (by decide)
  obtain ⟨oi, oj, ok⟩ := o1
  simp only [hc.h10]
  exact ⟨by decide +kernel, (tP ha).1, rX4_number g ha X hW oi.1 (by omega) oj.1 (by omega) ok.1 (by omega) (hQ _ _ _ ⟨rfl, .inl ⟨⟨oi, oj, ok⟩, rfl⟩⟩ ⟨a, hc⟩ FC.rf)⟩
theorem rX8_many {n : Int} (hn : inR n) (hc : CX h B) (hQ : ∀ r B' h', A_mn n B r B' → CX h' B' → FC h h' → Q r G0 h') : R l MX8_many (d + 3) 0 0 [vR 0, vI n] G0 h Q := by
  obtain ⟨a, hc⟩ := hc
  have g := hc.2.1
  have ha := isP_a hc.1
  have hW := hc.w
  have X := hc.2.2.2.1
  have ok : ∀ r, ((n = 0 ∧ r = bp B) ∨ (1 ≤ n ∧ n ≤ 3 ∧ r = sz (bP B) (n - 1)) ∨ (n = 4 ∧ r = tm (bP B)) ∨ (n = 5 ∧ r = fpl (bp B) (bP B)) ∨ (n = 6 ∧ r = nmv (bp B) (bP B)) ∨ ((n < 0 ∨ 6 < n) ∧ r = -1)) → Q r G0 h := fun r q => hQ _ _ _ ⟨rfl, q⟩ ⟨a, hc⟩ FC.rf
  have sz' : ∀ w, 0 ≤ w → w < 3 → h (a + 1) w = sz (bP B) w := X.2.1
  refine eX8_many 0 n (vX8_many_0 0 n ?_)
  simp only [hc.h10, hc.2.2.1.1, X.1.2.1, hc.2.2.1.2.2.2.2.1, g.2.1, X.2.2.2.1]
  refine ⟨hn, fun c => ⟨by decide +kernel, by decide +kernel, ok _ (.inl ⟨c, rfl⟩)⟩, fun c => ⟨by decide +kernel, (tP ha).1, ia1 ha (by omega) (by omega), ?_⟩, fun c => ⟨by decide +kernel, (tP ha).1, ia1 ha (by omega) (by omega), ?_⟩, fun c => ⟨by decide +kernel, (tP ha).1, ia1 ha (by omega) (by omega), ?_⟩, fun c => ⟨by decide +kernel, (tP ha).1, ok _ (.inr (.inr (.inl ⟨c, rfl⟩)))⟩, fun c => ⟨by decide +kernel, (tP ha).1, rX4_filledPlaces g ha X hW (ok _ (.inr (.inr (.inr (.inl ⟨c, rfl⟩)))))⟩, fun c => ⟨by decide +kernel, by decide +kernel, rX3_countMoves ha X hW (ok _ (.inr (.inr (.inr (.inr (.inl ⟨c, rfl⟩))))))⟩, fun c => ok _ (.inr (.inr (.inr (.inr (.inr ⟨by omega, rfl⟩)))))⟩
  · rw [sz' (n - 1) (by omega) (by omega)]; exact ok _ (.inr (.inl ⟨by omega, by omega, rfl⟩))
  · rw [sz' (n - 1) (by omega) (by omega)]; exact ok _ (.inr (.inl ⟨by omega, by omega, rfl⟩))
  · rw [sz' (n - 1) (by omega) (by omega)]; exact ok _ (.inr (.inl ⟨by omega, by omega, rfl⟩))
theorem okx_R {p w x : Int} {P : PS} (hp : okp p) (hW : WF p P) (w0 : 0 ≤ w) (w3 : w < 3) (h : okx p P w x) : isR p x := ⟨h.1, Int.lt_of_lt_of_le h.2 (PW_le (okp_b hp).1 (hW.1 w w0 w3).2)⟩
theorem rX8_time {u v w : Int} (hu : inR u) (hv : inR v) (hw : inR w) (hc : CX h B) (hQ : ∀ r B' h', A_tm u v w B r B' → CX h' B' → FC h h' → Q r G0 h') : R l MX8_time (d + 4) 0 0 [vR 0, vI u, vI v, vI w] G0 h Q := by
  obtain ⟨a, hc⟩ := hc
  have g := hc.2.1
  have ha := isP_a hc.1
  have hW := hc.w
  have X := hc.2.2.2.1
  have r1 : inR 1 := ⟨by decide, by decide⟩
  have r0 : inR 0 := ⟨by decide, by decide⟩
  have ht := hW.2.2.1
  have no : ¬ (okx (bp B) (bP B) 0 u ∧ okx (bp B) (bP B) 1 v ∧ okx (bp B) (bP B) 2 w) → Q (-1) G0 h := fun n => hQ _ _ _ (.inl ⟨n, rfl, rfl⟩) ⟨a, hc⟩ FC.rf
  refine eX8_time 0 u v w (vX8_time_0 0 u v w ?_)
  simp only [hc.h10]
  refine ⟨by decide +kernel, (tP ha).1, rX4_fits g ha X hW (by decide) (by decide) hu (fun o1 => ⟨r1, fun z => by omega, fun _ => ?_⟩) (fun n => ⟨r0, fun _ => no (fun q => n q.1), fun z => absurd rfl z⟩)⟩
  simp only [hc.h10]
  refine ⟨by decide +kernel, (tP ha).1, rX4_fits g ha X hW (by decide) (by decide) hv (fun o2 => ⟨r1, fun z => by omega, fun _ => ?_⟩) (fun n => ⟨r0, fun _ => no (fun q => n q.2.1), fun z => absurd rfl z⟩)⟩
  simp only [hc.h10]
  refine ⟨by decide +kernel, (tP ha).1, rX4_fits g ha X hW (by decide) (by decide) hw (fun o3 => ⟨r1, fun _ => ?_, fun z => by omega⟩) (fun n => ⟨r0, fun z => absurd rfl z, fun _ => no (fun q => n q.2.2)⟩)⟩
  simp only [hc.h10, X.2.2.2.1]
  refine ⟨by decide +kernel, (tP ha).1, ⟨by omega, by omega⟩, fun c => ?_, fun c => hQ _ _ _ (.inr ⟨⟨o1, o2, o3⟩, .inl ⟨c, rfl, rfl⟩⟩) ⟨a, hc⟩ FC.rf⟩
  refine rX4_append g ha X ⟨ht.1, c⟩ (okx_R g.1 hW (by decide) (by decide) o1) (okx_R g.1 hW (by decide) (by decide) o2) (okx_R g.1 hW (by decide) (by decide) o3) (fun h' X' f' e' => ?_)
  have hc' := hc.pc X' (WF_apn hW c o1 o2 o3) rfl f'
  simp only [hc'.h10, X'.2.2.2.1]
  refine ⟨by decide +kernel, (tP ha).1, ?_⟩
  have := hQ (tm (bP B)) _ h' (.inr ⟨⟨o1, o2, o3⟩, .inr ⟨c, rfl, rfl⟩⟩) ⟨a, hc'⟩ (FrP.c ha f')
  rw [show tm (apn (bP B) u v w) - 1 = tm (bP B) by show tm (bP B) + 1 - 1 = _; omega]
  exact this
theorem rX8_row {t w : Int} (ht : inR t) (hw : inR w) (hc : CX h B) (hQ : ∀ r B' h', A_ro t w B r B' → CX h' B' → FC h h' → Q r G0 h') : R l MX8_row (d + 2) 0 0 [vR 0, vI t, vI w] G0 h Q := by
  obtain ⟨a, hc⟩ := hc
  have ha := isP_a hc.1
  have hW := hc.w
  have X := hc.2.2.2.1
  have r1 : inR 1 := ⟨by decide, by decide⟩
  have r0 : inR 0 := ⟨by decide, by decide⟩
  have no : ¬ (okt (bP B) t ∧ okw w) → Q (-1) G0 h := fun n => hQ _ _ _ ⟨rfl, .inr ⟨n, rfl⟩⟩ ⟨a, hc⟩ FC.rf
  refine eX8_row 0 t w (vX8_row_0 0 t w ?_)
  simp only [hc.h10]
  refine ⟨by decide +kernel, (tP ha).1, rX4_hasTime ha X hW ht (fun o1 => ⟨r1, fun z => by omega, fun _ => rX8_isWay hw (fun o2 => ⟨r1, fun z => by omega, fun _ => ?_⟩) (fun n => ⟨r0, fun _ => no (fun q => n q.2), fun z => absurd rfl z⟩)⟩) (fun n => ⟨r0, fun _ => no (fun q => n q.1), fun z => absurd rfl z⟩)⟩
  simp only [hc.h10]
  exact ⟨by decide +kernel, (tP ha).1, rX4_rowOf ha X hW o2.1 o2.2 o1.1 o1.2 (hQ _ _ _ ⟨rfl, .inl ⟨⟨o1, o2⟩, rfl⟩⟩ ⟨a, hc⟩ FC.rf)⟩
theorem rX8_change {t w x : Int} (ht : inR t) (hw : inR w) (hx : inR x) (hc : CX h B) (hQ : ∀ r B' h', A_ch t w x B r B' → CX h' B' → FC h h' → Q r G0 h') : R l MX8_change (d + 3) 0 0 [vR 0, vI t, vI w, vI x] G0 h Q := by
  obtain ⟨a, hc⟩ := hc
  have g := hc.2.1
  have ha := isP_a hc.1
  have hW := hc.w
  have X := hc.2.2.2.1
  have r1 : inR 1 := ⟨by decide, by decide⟩
  have r0 : inR 0 := ⟨by decide, by decide⟩
  have no : ¬ (okt (bP B) t ∧ okw w ∧ okx (bp B) (bP B) w x) → Q (-1) G0 h := fun n => hQ _ _ _ (.inr ⟨n, rfl, rfl⟩) ⟨a, hc⟩ FC.rf
  refine eX8_change 0 t w x (vX8_change_0 0 t w x ?_)
  simp only [hc.h10]
  refine ⟨by decide +kernel, (tP ha).1, rX4_hasTime ha X hW ht (fun o1 => ⟨r1, fun z => by omega, fun _ => rX8_isWay hw (fun o2 => ⟨r1, fun z => by omega, fun _ => ?_⟩) (fun n => ⟨r0, fun _ => no (fun q => n q.2.1), fun z => absurd rfl z⟩)⟩) (fun n => ⟨r0, fun _ => no (fun q => n q.1), fun z => absurd rfl z⟩)⟩
  simp only [hc.h10]
  refine ⟨by decide +kernel, (tP ha).1, rX4_fits g ha X hW o2.1 o2.2 hx (fun o3 => ⟨r1, fun _ => ?_, fun z => by omega⟩) (fun n => ⟨r0, fun z => absurd rfl z, fun _ => no (fun q => n q.2.2)⟩)⟩
  simp only [hc.h10]
  refine ⟨by decide +kernel, (tP ha).1, rX4_put g ha X hW o2.1 o2.2 o1.1 o1.2 (okx_R g.1 hW o2.1 o2.2 o3) (fun h' X' f' e' => hQ _ _ h' (.inl ⟨⟨o1, o2, o3⟩, rfl, rfl⟩) ⟨a, hc.pc X' (WF_prw hW o2.1 o2.2 o1.1 o1.2 o3) rfl f'⟩ (FrP.c ha f'))⟩
theorem rX8_drop {t : Int} (ht : inR t) (hc : CX h B) (hQ : ∀ r B' h', A_dr t B r B' → CX h' B' → FC h h' → Q r G0 h') : R l MX8_drop (d + 2) 0 0 [vR 0, vI t] G0 h Q := by
  obtain ⟨a, hc⟩ := hc
  have g := hc.2.1
  have ha := isP_a hc.1
  have hW := hc.w
  have X := hc.2.2.2.1
  have r1 : inR 1 := ⟨by decide, by decide⟩
  have r0 : inR 0 := ⟨by decide, by decide⟩
  refine eX8_drop 0 t (vX8_drop_0 0 t ?_)
  simp only [hc.h10]
  refine ⟨by decide +kernel, (tP ha).1, rX4_hasTime ha X hW ht (fun o1 => ⟨r1, fun _ => ?_, fun z => by omega⟩) (fun n => ⟨r0, fun z => absurd rfl z, fun _ => hQ _ _ _ (.inr ⟨n, rfl, rfl⟩) ⟨a, hc⟩ FC.rf⟩)⟩
  simp only [hc.h10]
  refine ⟨by decide +kernel, (tP ha).1, rX4_remove g ha X hW o1.1 o1.2 (fun h' X' f' e' => ?_)⟩
  have hc' := hc.pc X' (WF_rmv hW o1.1 o1.2) rfl f'
  simp only [hc'.h10, X'.2.2.2.1]
  exact ⟨by decide +kernel, (tP ha).1, hQ _ _ h' (.inl ⟨o1, rfl, rfl⟩) ⟨a, hc'⟩ (FrP.c ha f')⟩
theorem plain_W {p : Int} {P : PS} (hp : okp p) (hW : WF p P) : WF p (plain' p P) ∧ (plain' p P).1 = P.1 ∧ (plain' p P).2.1 = P.2.1 := by
  have s0 := hW.1 0 (by decide) (by decide)
  have := plI_W (p := p) (P := (P.1, P.2.1, 0, P.2.2.2)) hp (WF_0 hW) (sz P 0).toNat (by show ((sz P 0).toNat : Int) ≤ sz P 0; omega)
  exact this
theorem fpl_b {p : Int} {P : PS} (hW : WF p P) : 0 ≤ fpl p P ∧ fpl p P ≤ 729 := by
  have s0 := hW.1 0 (by decide) (by decide)
  have s1 := hW.1 1 (by decide) (by decide)
  unfold fpl
  have h1 := sm_b (f := fun i => sm (fun j => ct (D p (fb P (9 * i + j))) 9) (sz P 1).toNat) (M := 81) (sz P 0).toNat (fun i _ _ => by
    have h2 := sm_b (f := fun j => ct (D p (fb P (9 * i + j))) 9) (M := 9) (sz P 1).toNat (fun j _ _ => by
      have := ct_b (f := D p (fb P (9 * i + j))) 9
      exact ⟨this.1, by omega⟩)
    refine ⟨h2.1, ?_⟩
    have : ((sz P 1).toNat : Int) * 9 ≤ 9 * 9 := by omega
    omega)
  refine ⟨h1.1, ?_⟩
  have : ((sz P 0).toNat : Int) * 81 ≤ 9 * 81 := by omega
  omega
theorem rX8_plain (hc : CX h B) (hQ : ∀ r B' h', A_pl B r B' → CX h' B' → FC h h' → Q r G0 h') : R l MX8_plain (d + 6) 0 0 [vR 0] G0 h Q := by
  obtain ⟨a, hc⟩ := hc
  have g := hc.2.1
  have ha := isP_a hc.1
  have hW := hc.w
  have X := hc.2.2.2.1
  have fb' := fpl_b hW
  refine eX8_plain 0 (vX8_plain_0 0 ?_)
  simp only [hc.h10]
  refine ⟨by decide +kernel, (tP ha).1, rX4_filledPlaces g ha X hW ⟨⟨by omega, by omega⟩, fun c => ?_, fun c => hQ _ _ _ (.inr ⟨c, rfl, rfl⟩) ⟨a, hc⟩ FC.rf⟩⟩
  simp only [hc.h10]
  refine ⟨by decide +kernel, (tP ha).1, rX4_becomePlain g ha X hW (fun h' X' f' => ?_)⟩
  have pw := plain_W g.1 hW
  have hc' := hc.pc X' pw.1 pw.2.1 f'
  simp only [hc'.h10, X'.2.2.2.1]
  exact ⟨by decide +kernel, (tP ha).1, hQ _ _ h' (.inl ⟨c, rfl, rfl⟩) ⟨a, hc'⟩ (FrP.c ha f')⟩
theorem CXa.r46 {a : Int} {h' : HP} (hc : CXa h a B) (f : ∀ b, b ≠ 46 → h' b = h b) : CXa h' a B := by
  refine hc.hp ?_ (fun b hb => f b (by omega))
  have hh := hc.2.2.2.2.2.2.2.1
  unfold HH BR SR HR at *
  rw [f 43 (by decide), f 44 (by decide), f 45 (by decide), f 47 (by decide), f 51 (by decide), f 55 (by decide), f 62 (by decide), f 66 (by decide), f 70 (by decide)]
  exact hh
theorem fdx_b {p x : Int} : ∀ (n : Nat) (k c : Int), 0 ≤ k → 0 ≤ fdx p x n k c ∧ fdx p x n k c ≤ k + n
  | 0, k, c, k0 => by show 0 ≤ (0 : Int) ∧ (0 : Int) ≤ k + ((0 : Nat) : Int); omega
  | n + 1, k, c, k0 => by
    rw [fdx_s]
    have h1 := fdx_b (p := p) (x := x) n (k + 1) c (by omega)
    have h2 := fdx_b (p := p) (x := x) n (k + 1) (c + (-1)) (by omega)
    split
    · omega
    · split <;> omega
theorem wpJ_b {p i : Int} {P : PS} (i0 : 0 ≤ i) : ∀ (n : Nat) (j c : Int), 0 ≤ j → ∀ r, wpJ p P i n j c = .inr r → 0 ≤ r ∧ r ≤ 100 * i + 10 * (j + n) + 9
  | 0, j, c, _, r, h => by cases h
  | n + 1, j, c, j0, r, h => by
    rw [wpJ_s] at h
    by_cases q : ct (D p (ofx p P (9 * i + j))) 9 ≤ c
    · rw [if_pos q] at h
      have := wpJ_b i0 n (j + 1) _ (by omega) r h
      omega
    · rw [if_neg q] at h
      cases h
      have := fdx_b (p := p) (x := ofx p P (9 * i + j)) 9 0 c (by decide)
      omega
theorem wpI_b {p : Int} {P : PS} (s1 : sz P 1 ≤ 9) : ∀ (n : Nat) (i c : Int), 0 ≤ i → i + n ≤ 9 → wpI p P n i c = -1 ∨ (0 ≤ wpI p P n i c ∧ wpI p P n i c ≤ 10000)
  | 0, i, c, _, _ => .inl rfl
  | n + 1, i, c, i0, hn => by
    rw [wpI_s]
    cases e : wpJ p P i (sz P 1).toNat 0 c with
    | inl c' => exact wpI_b s1 n (i + 1) c' (by omega) (by omega)
    | inr r =>
      have := wpJ_b i0 _ 0 c (by decide) r e
      right
      show 0 ≤ r ∧ r ≤ 10000
      omega
theorem rX8_makes (hc : CX h B) (hQ : ∀ r B' h', A_mk B r B' → CX h' B' → FC h h' → Q r G0 h') : R l MX8_makes (d + 4) 0 0 [vR 0] G0 h Q := by
  obtain ⟨a, hc⟩ := hc
  have g := hc.2.1
  have ha := isP_a hc.1
  have hW := hc.w
  have X := hc.2.2.2.1
  have s0 := hW.1 0 (by decide) (by decide)
  have s1 := hW.1 1 (by decide) (by decide)
  have wb := wpI_b (p := bp B) (P := bP B) s1.2 (sz (bP B) 0).toNat 0 0 (by decide) (by omega)
  refine eX8_makes 0 (vX8_makes_0 0 ?_)
  simp only [hc.h10, hc.2.2.1.2.2.2.2.2.2.1]
  refine ⟨by decide +kernel, by decide +kernel, rX5_wrongPlace g ha hc.2.2.2.2.2.2.2.1.2.2.1 X hW (by decide) (fun h' f' => ⟨⟨by omega, by omega⟩, fun c => hQ _ _ h' ⟨rfl, .inr ⟨c, rfl⟩⟩ ⟨a, hc.r46 f'⟩ (fun b hb => f' b (by omega)), fun c => hQ _ _ h' ⟨rfl, .inl ⟨c, rfl⟩⟩ ⟨a, hc.r46 f'⟩ (fun b hb => f' b (by omega))⟩)⟩
theorem rX8_off {n : Int} (hn : inR n) (hc : CX h B) (hQ : ∀ r B' h', A_of n B r B' → CX h' B' → FC h h' → Q r G0 h') : R l MX8_off (d + 4) 0 0 [vR 0, vI n] G0 h Q := by
  obtain ⟨a, hc⟩ := hc
  have g := hc.2.1
  have ha := isP_a hc.1
  have hW := hc.w
  have X := hc.2.2.2.1
  refine eX8_off 0 n (vX8_off_0 0 n ?_)
  simp only [hc.h10, hc.2.2.1.2.2.2.2.2.2.1]
  refine ⟨hn, fun c => ⟨by decide +kernel, by decide +kernel, rX5_wrongPlace g ha hc.2.2.2.2.2.2.2.1.2.2.1 X hW ⟨c, hn.2⟩ (fun h' f' => hQ _ _ h' ⟨rfl, .inl ⟨c, rfl⟩⟩ ⟨a, hc.r46 f'⟩ (fun b hb => f' b (by omega)))⟩, fun c => hQ _ _ _ ⟨rfl, .inr ⟨c, rfl⟩⟩ ⟨a, hc⟩ FC.rf⟩
end Face3
