section Face5
variable {l : Launch} {d : Nat} {h : HP} {B : BS} {Q : Int → GS → HP → Prop}
theorem rX8_rankC {a w : Int} (hc : CXa h a B) (o : okw w) (hQ : ∀ (r : Nat) h', RK (bp B) 9 81 (cl (bp B) (bP B) w) r → CXa h' a B → FC h h' → Q r G0 h') : R l MX8_rankBy (d + 4) 0 0 [vR 0, vI w] G0 h Q :=
  rX8_rankBy hc.2.1 (isP_a hc.1) hc.2.2.1.2.2.2.2.2.2.2.1 hc.h10 hc.2.2.2.1 hc.w hc.2.2.2.2.2.2.2.1.2.2.2.1 o.1 o.2 (fun r h' rk f br => hQ r h' rk (hc.r47 f br) (fun b hb => f b (by omega)))
theorem rX8_rank {w : Int} (hw : inR w) (hc : CX h B) (hQ : ∀ r B' h', A_rk w B r B' → CX h' B' → FC h h' → Q r G0 h') : R l MX8_rank (d + 5) 0 0 [vR 0, vI w] G0 h Q := by
  obtain ⟨a, hc⟩ := hc
  have r1 : inR 1 := ⟨by decide, by decide⟩
  have r0 : inR 0 := ⟨by decide, by decide⟩
  refine eX8_rank 0 w (vX8_rank_0 0 w ⟨hw, fun c => rX8_isWay hw (fun o => ⟨r1, fun z => by omega, fun _ => ⟨by decide +kernel, rX8_rankC hc o (fun r h' rk c' f' => hQ r _ h' ⟨rfl, .inl ⟨o, r, rk, rfl⟩⟩ ⟨a, c'⟩ f')⟩⟩) (fun n => ⟨r0, fun _ => hQ _ _ _ ⟨rfl, .inr (.inr ⟨by unfold okw at n; omega, rfl⟩)⟩ ⟨a, hc⟩ FC.rf, fun z => absurd rfl z⟩), fun c => ⟨by decide +kernel, ?_⟩⟩)
  refine rX8_rankC hc ⟨by decide, by decide⟩ (fun n0 h1 k0 c1 f1 => ⟨by decide +kernel, rX8_rankC c1 ⟨by decide, by decide⟩ (fun n1 h2 k1 c2 f2 => ⟨by decide +kernel, rX8_rankC c2 ⟨by decide, by decide⟩ (fun n2 h3 k2 c3 f3 => ?_)⟩)⟩)
  have hp : okp (bp B) := hc.2.1.1
  have b0 := RK_b hp k0
  have b1 := RK_b hp k1
  have b2 := RK_b hp k2
  refine ⟨⟨by omega, by omega⟩, ⟨by omega, by omega⟩, ⟨by omega, by omega⟩, ?_, hQ _ _ h3 ⟨rfl, .inr (.inl ⟨c, n0, n1, n2, k0, k1, k2, rfl⟩)⟩ ⟨a, c3⟩ (fun b hb => by rw [f3 b hb, f2 b hb, f1 b hb])⟩
  split <;> exact ⟨by omega, by omega⟩
theorem CXa.r51 {a : Int} {h' : HP} (hc : CXa h a B) (f : FrS h h') (sr : SR h') (b1 : BR h' 62) (b2 : BR h' 66) : CXa h' a B := by
  refine hc.hp ?_ (fun b hb => f b (by omega))
  have hh := hc.2.2.2.2.2.2.2.1
  unfold HH HR at *
  rw [f 43 (by decide), f 44 (by decide), f 45 (by decide), f 70 (by decide)]
  have b0 : BR h' 47 := by unfold BR; rw [f 47 (by decide)]; exact hh.2.2.2.1
  exact ⟨hh.1, hh.2.1, hh.2.2.1, b0, sr, b1, b2, hh.2.2.2.2.2.2.2⟩
theorem FrS.c {h' : HP} (f : FrS h h') : FC h h' := fun b hb => f b (by omega)
theorem rX8_least (hc : CX h B) (hQ : ∀ r B' h', A_le B r B' → CX h' B' → FC h h' → Q r G0 h') : R l MX8_least (d + 10) 0 0 [vR 0] G0 h Q := by
  obtain ⟨a, hc⟩ := hc
  have hh := hc.2.2.2.2.2.2.2.1
  refine eX8_least 0 (vX8_least_0 0 ?_)
  simp only [hc.h10, hc.2.2.1.2.2.2.2.2.2.2.2.1]
  refine ⟨by decide +kernel, by decide +kernel, rX6_seek hc.2.1 (isP_a hc.1) hh.2.2.2.2.1 hh.2.2.2.2.2.1 hh.2.2.2.2.2.2.1 hc.2.2.2.1 hc.w (fun c => hQ _ _ _ ⟨rfl, .inl ⟨c, rfl⟩⟩ ⟨a, hc⟩ FC.rf) (fun c no h' f sr b1 b2 => hQ _ _ h' ⟨rfl, .inr (.inl ⟨c, no, rfl⟩)⟩ ⟨a, hc.r51 f sr b1 b2⟩ f.c) (fun c n q h' n4 isl f sr b1 xs pk uv => hQ _ _ h' ⟨rfl, .inr (.inr ⟨c, n, q, n4, isl, rfl⟩)⟩ ⟨a, hc.r51 f sr b1 xs.br⟩ f.c)⟩
theorem rX8_find (hc : CX h B) (hQ : ∀ r B' h', A_fi B r B' → CX h' B' → FC h h' → Q r G0 h') : R l MX8_find (d + 10) 0 0 [vR 0] G0 h Q := by
  obtain ⟨a, hc⟩ := hc
  have hh := hc.2.2.2.2.2.2.2.1
  have ha := isP_a hc.1
  have hW := hc.w
  have s0 := hW.1 0 (by decide) (by decide)
  have s1 := hW.1 1 (by decide) (by decide)
  refine eX8_find 0 (vX8_find_0 0 ?_)
  simp only [hc.h10, hc.2.2.1.2.2.2.2.2.2.2.2.1]
  refine ⟨by decide +kernel, by decide +kernel, rX6_seek hc.2.1 ha hh.2.2.2.2.1 hh.2.2.2.2.2.1 hh.2.2.2.2.2.2.1 hc.2.2.2.1 hW (fun c => ⟨⟨by decide, by decide⟩, fun _ => hQ _ _ _ (.inl ⟨c, rfl, rfl⟩) ⟨a, hc⟩ FC.rf, fun z => by omega⟩) (fun c no h' f sr b1 b2 => ⟨⟨by decide, by decide⟩, fun _ => hQ _ _ h' (.inr (.inl ⟨c, no, rfl, rfl⟩)) ⟨a, hc.r51 f sr b1 b2⟩ f.c, fun z => by omega⟩) (fun c n q h' n4 isl f sr b1 xs pk uv => ⟨⟨by omega, by omega⟩, fun z => by omega, fun _ => ?_⟩)⟩
  have hc' := hc.r51 f sr b1 xs.br
  have tab := sh_tab (bp B) (mem_p hc.2.1.1) (sz (bP B) 0) (mem_9 s0.1 s0.2) (sz (bP B) 1) (mem_9 s1.1 s1.2) c
  simp only [hc'.h10, hc'.2.2.1.2.2.2.2.2.2.2.2.1]
  refine ⟨by decide +kernel, by decide +kernel, rX6_writeScheme hc'.2.1 ha sr hc'.2.2.2.1 hW tab.1 ?_ n4 isl.1 xs pk uv (fun h2 W X2 W2 w2 f2 => hQ _ _ h2 (.inr (.inr ⟨c, n, q, W, n4, isl, w2, W2, rfl, rfl⟩)) ⟨a, hc'.pc X2 W2 rfl f2⟩ (fun b hb => by rw [FrP.c ha f2 b hb, f.c b hb]))⟩
  rw [pfU_c, tab.2.1, tab.2.2]; exact c
theorem rX8_hand {w i v : Int} (hw : inR w) (hi : inR i) (hv : inR v) (hc : CX h B) (hQ : ∀ r B' h', A_ha w i v B r B' → CX h' B' → FC h h' → Q r G0 h') : R l MX8_hand (d + 3) 0 0 [vR 0, vI w, vI i, vI v] G0 h Q := by
  obtain ⟨a, hc⟩ := hc
  have hc0 := hc
  obtain ⟨a4, g, fr, X, hd, pr, kp, hh, bw⟩ := hc0
  have ha := isP_a a4
  have hW := hc.w
  have r1 : inR 1 := ⟨by decide, by decide⟩
  have r0 : inR 0 := ⟨by decide, by decide⟩
  have no : ¬ ((w = 0 ∨ w = 1) ∧ (0 ≤ i ∧ i < sz (bP B) w) ∧ isD (bp B) v) → Q (-1) G0 h := fun n => hQ _ _ _ (.inr ⟨n, rfl, rfl⟩) ⟨a, hc⟩ FC.rf
  have hb : ∀ x n, 0 ≤ n → n ≤ 9 → 0 ≤ x ∧ x < PW (bp B) n → 0 ≤ x ∧ x ≤ 2147483647 := fun x n n0 n9 hx => by
    have := PWm g.1 n9
    omega
  have s0 := hW.1 0 (by decide) (by decide)
  have s1 := hW.1 1 (by decide) (by decide)
  have mk : ∀ h', (∀ b, b ≠ 42 → h' b = h b) → (w = 0 ∨ w = 1) → (0 ≤ i ∧ i < sz (bP B) w) → isD (bp B) v → h' 42 0 = (if w = 0 then wn (bp B) (bx B) i v else bx B) → h' 42 1 = (if w = 0 then by' B else wn (bp B) (by' B) i v) → CXa h' a (bp B, bP B, (if w = 0 then wn (bp B) (bx B) i v else bx B), (if w = 0 then by' B else wn (bp B) (by' B) i v), B.2.2.2.2) := fun h' f ow oi ov e0 e1 => by
    refine ⟨a4, g.lo (fun b b0 b1 => f b (by omega)), ?_, X.lo (fun b b0 b1 => f b (by omega)), ⟨e0, e1⟩, ?_, fun q q0 q4 => ?_, hh.fr (fun b b0 b1 => f b (by omega)), bw.1, bw.2.1, ?_, ?_, bw.2.2.2.2⟩
    · unfold FR
      rw [f 0 (by decide)]; exact fr
    · unfold Pr
      rw [f 4 (by decide), f 10 (by decide)]; exact pr
    · obtain ⟨k1, k2, k3, k4⟩ := kp q q0 q4
      refine ⟨?_, by rw [f 16 (by decide)]; exact k2, by rw [f 41 (by decide)]; exact k3, fun z => (k4 z).lo (fun b _ _ => f b (by omega))⟩
      unfold Pr
      rw [f (17 + 6 * q) (by omega)]; exact k1
    · show 0 ≤ (if w = 0 then wn (bp B) (bx B) i v else bx B) ∧ (if w = 0 then wn (bp B) (bx B) i v else bx B) < PW (bp B) (sz (bP B) 0)
      by_cases c : w = 0
      · rw [if_pos c]
        rw [c] at oi
        exact wn_sz g.1 s0.2 bw.2.2.1 oi ov
      · rw [if_neg c]; exact bw.2.2.1
    · show 0 ≤ (if w = 0 then by' B else wn (bp B) (by' B) i v) ∧ (if w = 0 then by' B else wn (bp B) (by' B) i v) < PW (bp B) (sz (bP B) 1)
      by_cases c : w = 0
      · rw [if_pos c]; exact bw.2.2.2.1
      · rw [if_neg c]
        rw [show w = 1 by omega] at oi
        exact wn_sz g.1 s1.2 bw.2.2.2.1 oi ov
  refine eX8_hand 0 w i v (vX8_hand_0 0 w i v ?_)
  simp only [hc.h10]
  refine ⟨hw, fun c0 => ⟨by decide +kernel, (tP ha).1, ?_⟩, fun c0 => ⟨fun c1 => ⟨by decide +kernel, (tP ha).1, ?_⟩, fun c1 => no (by omega)⟩⟩
  · refine rX4_hasIndex ha X hW (by omega) (by omega) hi (fun o2 => ⟨r1, fun z => by omega, fun _ => ?_⟩) (fun n => ⟨r0, fun _ => no (fun q => n q.2.1), fun z => absurd rfl z⟩)
    simp only [fr.1]
    refine ⟨by decide +kernel, by decide +kernel, rX1_isNumber g hv (fun o3 => ⟨r1, fun _ => ?_, fun z => by omega⟩) (fun n => ⟨r0, fun z => absurd rfl z, fun _ => no (fun q => n q.2.2)⟩)⟩
    have o2' := o2
    rw [c0] at o2'
    simp only [fr.1, fr.2.2.2.1, c0, hd.1]
    refine ⟨by decide +kernel, ⟨by decide +kernel, by decide, by decide +kernel⟩, by decide +kernel, rX1_withNumber g (hb _ _ (by omega) s0.2 bw.2.2.1) ⟨o2'.1, by omega⟩ ⟨⟨by decide +kernel, by decide, by decide +kernel⟩, fun h24 e24 => ?_⟩⟩
    refine hQ _ _ h24 (.inl ⟨⟨.inl c0, o2, o3⟩, rfl, rfl⟩) ⟨a, mk h24 (fun b hb => by rw [e24, hset_oa hb]) (.inl c0) o2 o3 ?_ ?_⟩ (fun b hb => by rw [e24, hset_oa (by omega)])
    · rw [if_pos c0, e24, hset_s]
    · rw [if_pos c0, e24, hset_oj (by decide)]; exact hd.2
  · refine rX4_hasIndex ha X hW (by omega) (by omega) hi (fun o2 => ⟨r1, fun z => by omega, fun _ => ?_⟩) (fun n => ⟨r0, fun _ => no (fun q => n q.2.1), fun z => absurd rfl z⟩)
    simp only [fr.1]
    refine ⟨by decide +kernel, by decide +kernel, rX1_isNumber g hv (fun o3 => ⟨r1, fun _ => ?_, fun z => by omega⟩) (fun n => ⟨r0, fun z => absurd rfl z, fun _ => no (fun q => n q.2.2)⟩)⟩
    have o2' := o2
    rw [c1] at o2'
    simp only [fr.1, fr.2.2.2.1, c1, hd.2]
    refine ⟨by decide +kernel, ⟨by decide +kernel, by decide, by decide +kernel⟩, by decide +kernel, rX1_withNumber g (hb _ _ (by omega) s1.2 bw.2.2.2.1) ⟨o2'.1, by omega⟩ ⟨⟨by decide +kernel, by decide, by decide +kernel⟩, fun h24 e24 => ?_⟩⟩
    refine hQ _ _ h24 (.inl ⟨⟨.inr c1, o2, o3⟩, rfl, rfl⟩) ⟨a, mk h24 (fun b hb => by rw [e24, hset_oa hb]) (.inr c1) o2 o3 ?_ ?_⟩ (fun b hb => by rw [e24, hset_oa (by omega)])
    · rw [if_neg c0, e24, hset_oj (by decide)]; exact hd.1
    · rw [if_neg c0, e24, hset_s]
theorem rX8_run {w : Int} (hw : inR w) (hc : CX h B) (hQ : ∀ r B' h', A_ru w B r B' → CX h' B' → FC h h' → Q r G0 h') : R l MX8_run (d + 2) 0 0 [vR 0, vI w] G0 h Q := by
  obtain ⟨a, hc⟩ := hc
  have hc0 := hc
  obtain ⟨a4, g, fr, X, hd, pr, kp, hh, bw⟩ := hc0
  have ha := isP_a a4
  have hW := hc.w
  have s0 := hW.1 0 (by decide) (by decide)
  have s1 := hW.1 1 (by decide) (by decide)
  have hx : isR (bp B) (bx B) := lt_R g.1 bw.2.2.1.1 bw.2.2.1.2 s0.2
  have hy : isR (bp B) (by' B) := lt_R g.1 bw.2.2.2.1.1 bw.2.2.2.1.2 s1.2
  refine eX8_run 0 w (vX8_run_0 0 w ?_)
  simp only [hc.h10, fr.2.2.2.1, fr.2.2.2.2.2.2.1, hd.1, hd.2]
  refine ⟨hw, fun c => ⟨by decide +kernel, ⟨by decide +kernel, by decide, by decide +kernel⟩, ⟨by decide +kernel, by decide, by decide +kernel⟩, by decide +kernel, rX5_byBox g ha hh.2.2.1.1 X hW hx hy (hQ _ _ _ ⟨rfl, .inl ⟨c, rfl⟩⟩ ⟨a, hc⟩ FC.rf)⟩, fun c => ⟨by decide +kernel, ⟨by decide +kernel, by decide, by decide +kernel⟩, ⟨by decide +kernel, by decide, by decide +kernel⟩, by decide +kernel, rX5_byScheme g ha hh.2.2.1.1 X hW hx hy (hQ _ _ _ ⟨rfl, .inr (.inl ⟨c, rfl⟩)⟩ ⟨a, hc⟩ FC.rf)⟩, fun c => hQ _ _ _ ⟨rfl, .inr (.inr ⟨by omega, rfl⟩)⟩ ⟨a, hc⟩ FC.rf⟩
theorem CXa.r70 {a : Int} {h' : HP} (hc : CXa h a B) (f : FrH h h') (hr : HR h') : CXa h' a B := by
  refine hc.hp ?_ (fun b hb => f b (by omega))
  have hh := hc.2.2.2.2.2.2.2.1
  unfold HH BR SR at *
  rw [f 43 (by decide), f 44 (by decide), f 45 (by decide), f 47 (by decide), f 51 (by decide), f 55 (by decide), f 62 (by decide), f 66 (by decide)]
  exact ⟨hh.1, hh.2.1, hh.2.2.1, hh.2.2.2.1, hh.2.2.2.2.1, hh.2.2.2.2.2.1, hh.2.2.2.2.2.2.1, hr⟩
theorem FrH.c {h' : HP} (f : FrH h h') : FC h h' := fun b hb => f b (by omega)
theorem rX8_sums {w v : Int} (hw : inR w) (hv : inR v) (hc : CX h B) (hQ : ∀ r B' h', A_su w v B r B' → CX h' B' → FC h h' → Q r G0 h') : R l MX8_sums (d + 5) 0 0 [vR 0, vI w, vI v] G0 h Q := by
  obtain ⟨a, hc⟩ := hc
  have g := hc.2.1
  have ha := isP_a hc.1
  have hW := hc.w
  have X := hc.2.2.2.1
  have hr : HR h := hc.2.2.2.2.2.2.2.1.2.2.2.2.2.2.2
  have no : ¬ ((w = 0 ∨ w = 1) ∧ (v = 0 ∨ v = 1)) → Q (-1) G0 h := fun n => hQ _ _ _ ⟨rfl, .inr (.inr ⟨n, rfl⟩)⟩ ⟨a, hc⟩ FC.rf
  have p0 : (w = 0 ∨ w = 1) → v = 0 → R l MX7_plainSums (d + 4) 0 0 [vR 70, vR a, vI w] G0 h (fun r G h => Q r G h) := fun o e => rX7_plainSums g hr ha X hW (by omega) (by omega) (fun h' f r' => hQ _ _ h' ⟨rfl, .inl ⟨o, e, rfl⟩⟩ ⟨a, hc.r70 f r'⟩ f.c)
  have p1 : (w = 0 ∨ w = 1) → v = 1 → R l MX7_sharedSums (d + 4) 0 0 [vR 70, vR a, vI w] G0 h (fun r G h => Q r G h) := fun o e => rX7_sharedSums g hr ha X hW (by omega) (by omega) (fun r h' sr f r' => hQ _ _ h' ⟨rfl, .inr (.inl ⟨o, e, sr⟩)⟩ ⟨a, hc.r70 f r'⟩ f.c)
  refine eX8_sums 0 w v (vX8_sums_0 0 w v ?_)
  simp only [hc.h10, hc.2.2.1.2.2.2.2.2.2.2.2.2.1]
  exact ⟨hw, fun c0 => ⟨hv, fun c => ⟨by decide +kernel, by decide +kernel, p0 (.inl c0) c⟩, fun c => ⟨by decide +kernel, by decide +kernel, p1 (.inl c0) c⟩, fun c => no (by omega)⟩, fun c0 => ⟨fun c1 => ⟨hv, fun c => ⟨by decide +kernel, by decide +kernel, p0 (.inr c1) c⟩, fun c => ⟨by decide +kernel, by decide +kernel, p1 (.inr c1) c⟩, fun c => no (by omega)⟩, fun c1 => no (by omega)⟩⟩
end Face5
