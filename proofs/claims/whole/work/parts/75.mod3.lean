theorem bx_set {hh : HP} {F F' : Int → Int} {p m e v : Int} (hp : okp p) (hF : ∀ k, 0 ≤ k → k < 729 → hh 77 k = D p (F (k / 9)) (k % 9)) (hF' : ∀ m', 0 ≤ m' → m' < 81 → F' m' = if m' = m then wn p (F m) e v else F m') (hR : isR p (F m)) (e0 : 0 ≤ e) (e9 : e < 9) (hv : isD p v) : ∀ k, 0 ≤ k → k < 729 → hset hh 77 (9 * m + e) v 77 k = D p (F' (k / 9)) (k % 9) := fun k k0 k1 => by
  rw [hF' (k / 9) (by omega) (by omega)]
  by_cases c : k = 9 * m + e
  · rw [c, hset_s, show (9 * m + e) / 9 = m by omega, show (9 * m + e) % 9 = e by omega, if_pos rfl, D_wn hp hR e0 e9 hv e0 e9, if_pos rfl]
  · rw [hset_oj c, hF k k0 k1]
    by_cases c2 : k / 9 = m
    · rw [if_pos c2, D_wn hp hR e0 e9 hv (by omega) (by omega), if_neg (by omega), c2]
    · rw [if_neg c2]
section Mod3
variable {l : Launch} {d : Nat} {h : HP} {p : Int} {P : PS} {B : BS} {Q : Int → GS → HP → Prop}
theorem isD1 {p : Int} (hp : okp p) : isD p 1 := ⟨by decide, by have := okp_b hp; omega⟩
/-- box and sizes: what the loops of tables and rows keep -/
def MBF (h : HP) (p : Int) (s F : Int → Int) : Prop := (∀ w, 0 ≤ w → w < 3 → h 76 w = s w) ∧ ∀ k, 0 ≤ k → k < 729 → h 77 k = D p (F (k / 9)) (k % 9)
theorem MBF.ext {s F F' : Int → Int} (m : MBF h p s F) (e : ∀ k, 0 ≤ k → k < 81 → F k = F' k) : MBF h p s F' := ⟨m.1, fun k k0 k1 => by rw [m.2 k k0 k1, e (k / 9) (by omega) (by omega)]⟩
set_option maxHeartbeats 1000000 in
theorem rX9_tables {x y z r : Int} {B' : BS} (hx : inR x) (hy : inR y) (hz : inR z) (bw : BW B) (hm : MX h B) (hA : A_tb x y z B r B') (hQ : ∀ h', MX h' B' → FM h h' → Q r G0 h') : R l MX9_tables (d + 2) 0 0 [vR 75, vI x, vI y, vI z] G0 h Q := by
  have hp := bw.1
  have r1 : inR 1 := ⟨by decide, by decide⟩
  have r0 : inR 0 := ⟨by decide, by decide⟩
  have bnd : ∀ u v, okz u → okz v → inR (u * v) ∧ 1 ≤ u * v := fun u v h1 h2 => by
    have := ml_b (x := u) (y := v) (a := 9) (b := 9) (by have := h1.1; omega) h1.2 (by have := h2.1; omega) h2.2
    exact ⟨⟨by omega, by omega⟩, sz_m1 h1.1 h2.1⟩
  refine eX9_tables 75 x y z (vX9_tables_0 75 x y z (rX9_areSizes hx hy hz (fun o => ⟨r1, fun _ => rX9_areSizes (bnd x y o.1 o.2.1).1 (bnd y z o.2.1 o.2.2).1 (bnd x z o.1 o.2.2).1 (fun o' => ⟨r1, fun _ => ⟨t75, rX9_fresh hm.1 (fun h' f mb e5 mh e15 => ?_)⟩, fun z => by omega⟩) (fun n => ⟨r0, fun z => absurd rfl z, fun _ => ?_⟩), fun z => by omega⟩) (fun n => ⟨r0, fun z => absurd rfl z, fun _ => ?_⟩)))
  · obtain ⟨o1, o2, o3⟩ := o
    have p1 := o'.1.2
    have p2 := o'.2.1.2
    have p3 := o'.2.2.2
    rcases hA with ⟨n, _, _⟩ | ⟨_, ⟨n, _, _⟩ | ⟨_, rfl, rfl⟩⟩
    · exact absurd ⟨o1, o2, o3⟩ n
    · omega
    have mr' := f.mr hm.1
    have WT := WF_tbP hp o1 o2 o3 p1 p2 p3
    have WS : ∀ r s q, WF (bp B) ((tbP (bp B) x y z).1, tbF (bp B) x y z r s q, 0, fun _ => 0) := fun r s q => WF_sub (T := (tbP (bp B) x y z).2.1) (R := fun _ => 0) hp WT tbF_or
    have o1' := o1.2
    have o2' := o2.2
    have o3' := o3.2
    refine lp_up (σ := HP) (fun r hk => S l MX9_tables (d + 1 + 1, 0, 0, 0, 0) 45 [some (vR 75), some (vI x), some (vI y), some (vI z), some (vI r), none, none] [] G0 hk Q) (fun r hk => 0 ≤ r ∧ MBF hk (bp B) (tbP (bp B) x y z).1 (tbF (bp B) x y z r 0 0) ∧ ∀ b, b ≠ 77 → hk b = h' b) x ?_ ?_ 0 h' (by have := o1.1; omega) ⟨by omega, ⟨(mb 2).1, fun k k0 k1 => by rw [(mb (bp B)).2 k k0 k1, tbF_0 o2 o3 (by omega)]; rfl⟩, fun _ _ => rfl⟩
    · intro r hk hr ⟨r0', X1, F1⟩ ih1
      refine vX9_tables_45 75 x y z r ⟨⟨by omega, by omega⟩, ⟨by omega, by omega⟩, fun c => by omega, fun _ => ?_⟩
      refine lp_up (σ := HP) (fun s hk => S l MX9_tables (d + 1 + 1, 0, 0, 0, 0) 54 [some (vR 75), some (vI x), some (vI y), some (vI z), some (vI r), some (vI s), none] [] G0 hk Q) (fun s hk => 0 ≤ s ∧ MBF hk (bp B) (tbP (bp B) x y z).1 (tbF (bp B) x y z r s 0) ∧ ∀ b, b ≠ 77 → hk b = h' b) y ?_ ?_ 0 hk (by have := o2.1; omega) ⟨by omega, X1, F1⟩
      · intro s hk hs ⟨s0, X2, F2⟩ ih2
        refine vX9_tables_54 75 x y z r s ⟨⟨by omega, by omega⟩, ⟨by omega, by omega⟩, fun c => by omega, fun _ => ?_⟩
        refine lp_up (σ := HP) (fun q hk => S l MX9_tables (d + 1 + 1, 0, 0, 0, 0) 63 [some (vR 75), some (vI x), some (vI y), some (vI z), some (vI r), some (vI s), some (vI q)] [] G0 hk Q) (fun q hk => 0 ≤ q ∧ MBF hk (bp B) (tbP (bp B) x y z).1 (tbF (bp B) x y z r s q) ∧ ∀ b, b ≠ 77 → hk b = h' b) z ?_ ?_ 0 hk (by have := o3.1; omega) ⟨by omega, X2, F2⟩
        · intro q hk hq ⟨q0, X3, F3⟩ ih3
          have t1 := ij_lt r0' hr s0 hs
          have t2 := ij_lt s0 hs q0 hq
          have t3 := ij_lt r0' hr q0 hq
          rw [Int.mul_comm] at t1 t2 t3
          refine vX9_tables_63 75 x y z r s q ?_
          simp only [F3 75 (by decide), mr'.bx]
          have ei : 81 * (y * r + s) + 9 * (z * s + q) + z * r + q = 9 * (9 * (y * r + s) + (z * s + q)) + (z * r + q) := by omega
          rw [ei]
          refine ⟨⟨by omega, by omega⟩, ⟨by omega, by omega⟩, fun c => by omega, fun _ => ⟨t75, i77 (by omega) (by omega), fun h6 e6 => ih3 h6 ⟨by omega, ⟨fun w w0 w3 => by rw [e6, hset_oa (by decide)]; exact X3.1 w w0 w3, ?_⟩, fun b hb => by rw [e6, hset_oa hb]; exact F3 b hb⟩⟩⟩
          rw [e6]
          exact bx_set hp X3.2 (fun m' m0 _ => tbF_s o2 o3 p2 r0' hr s0 hs q0 hq m' m0) (fibR (P := ((tbP (bp B) x y z).1, tbF (bp B) x y z r s q, 0, fun _ => 0)) hp (WS r s q) t1.1 (by omega) t2.1 (by omega)) t3.1 (by omega) (isD1 hp)
        · intro hk ⟨q0, X3, F3⟩
          exact vX9_tables_63 75 x y z r s z ⟨⟨by omega, by omega⟩, ⟨by omega, by omega⟩, fun _ => ih2 hk ⟨by omega, X3.ext (fun k _ _ => tbF_q o3), F3⟩, fun c => by omega⟩
      · intro hk ⟨s0, X2, F2⟩
        exact vX9_tables_54 75 x y z r y ⟨⟨by omega, by omega⟩, ⟨by omega, by omega⟩, fun _ => ih1 hk ⟨by omega, X2.ext (fun k _ _ => tbF_r o2 o3), F2⟩, fun c => by omega⟩
    · intro hk ⟨r0', X1, F1⟩
      have X1' := X1.ext (fun k k0 _ => tbF_x o2 k0)
      have e75 := F1 75 (by decide)
      refine vX9_tables_45 75 x y z x ⟨⟨by omega, by omega⟩, ⟨by omega, by omega⟩, fun _ => hQ hk (hm.bsh (mr'.fr (fun j _ _ _ _ _ _ => by rw [e75])) (by rw [e75]; exact f.2 0 (by decide) (by decide)) X1' ⟨by rw [e75]; exact e5, fun k k0 k1 => by have k1' : k < 27 * 0 := k1; omega⟩ ((mh _).fr (F1 79 (by decide))) (fun b b0 b1 => by rw [F1 b (by omega)]; exact f.1 b (by omega) (by omega) (by omega) (by omega)) (by rw [e75]; exact e15)) (fun b hb => by rw [F1 b (by omega)]; exact f.m b hb), fun c => by omega⟩
  · rcases hA with ⟨n', _, _⟩ | ⟨_, ⟨_, rfl, rfl⟩ | ⟨n', _, _⟩⟩
    · exact absurd o n'
    · exact hQ h hm FM.rf
    · exact absurd ⟨⟨(bnd x y o.1 o.2.1).2, n'.1⟩, ⟨(bnd y z o.2.1 o.2.2).2, n'.2.1⟩, ⟨(bnd x z o.1 o.2.2).2, n'.2.2⟩⟩ n
  · rcases hA with ⟨_, rfl, rfl⟩ | ⟨o, _⟩
    · exact hQ h hm FM.rf
    · exact absurd o n
theorem rX9_rowsLoop {x y s : Int} {h0 : HP} (o1 : okz x) (o2 : okz y) (o3 : okz s) (hp : okp p) (mr : MR h0) (mb : ∀ w, 0 ≤ w → w < 3 → h0 76 w = sz3 x y s w) (hz : ∀ k, 0 ≤ k → k < 729 → h0 77 k = 0) (hQ : ∀ h', MB h' p (rwP p x y s) → (∀ b, b ≠ 77 → h' b = h0 b) → Q 1 G0 h') : S l MX9_rows (d + 1 + 1, 0, 0, 0, 0) 74 [some (vR 75), some (vI x), some (vI y), none, some (vI s), some (vI 0), none] [] G0 h0 Q := by
  have WT := WF_rwP hp o1 o2 o3
  have WS : ∀ i j, WF p ((rwP p x y s).1, rwF p x y s i j, 0, fun _ => 0) := fun i j => WF_sub (T := (rwP p x y s).2.1) (R := fun _ => 0) hp WT (fun k => by unfold rwF; split; exact .inl rfl; exact .inr rfl)
  have o1' := o1.2
  have o2' := o2.2
  have o3' := o3.2
  have o3'' := o3.1
  refine lp_up (σ := HP) (fun i hk => S l MX9_rows (d + 1 + 1, 0, 0, 0, 0) 74 [some (vR 75), some (vI x), some (vI y), none, some (vI s), some (vI i), none] [] G0 hk Q) (fun i hk => 0 ≤ i ∧ MBF hk p (rwP p x y s).1 (rwF p x y s i 0) ∧ ∀ b, b ≠ 77 → hk b = h0 b) x ?_ ?_ 0 h0 (by have := o1.1; omega) ⟨by omega, ⟨mb, fun k k0 k1 => by rw [hz k k0 k1]; unfold rwF; rw [if_neg (by omega), D_z]⟩, fun _ _ => rfl⟩
  · intro i hk hi ⟨i0, X1, F1⟩ ih1
    refine vX9_rows_74 75 x y s i ⟨⟨by omega, by omega⟩, ⟨by omega, by omega⟩, fun c => by omega, fun _ => ?_⟩
    refine lp_up (σ := HP) (fun j hk => S l MX9_rows (d + 1 + 1, 0, 0, 0, 0) 83 [some (vR 75), some (vI x), some (vI y), none, some (vI s), some (vI i), some (vI j)] [] G0 hk Q) (fun j hk => 0 ≤ j ∧ MBF hk p (rwP p x y s).1 (rwF p x y s i j) ∧ ∀ b, b ≠ 77 → hk b = h0 b) y ?_ ?_ 0 hk (by have := o2.1; omega) ⟨by omega, X1, F1⟩
    · intro j hk hj ⟨j0, X3, F3⟩ ih3
      have h1 := Int.emod_nonneg (i + j) (show s ≠ 0 by omega)
      have h2 := Int.emod_lt_of_pos (i + j) (show 0 < s by omega)
      refine vX9_rows_83 75 x y s i j ?_
      simp only [F3 75 (by decide), mr.bx]
      rw [show 81 * i + 9 * j + (i + j) % s = 9 * (9 * i + j) + (i + j) % s by omega]
      refine ⟨⟨by omega, by omega⟩, ⟨by omega, by omega⟩, fun c => by omega, fun _ => ⟨t75, ⟨⟨by omega, by omega⟩, by omega, by omega⟩, i77 (by omega) (by omega), fun h6 e6 => ih3 h6 ⟨by omega, ⟨fun w w0 w3 => by rw [e6, hset_oa (by decide)]; exact X3.1 w w0 w3, ?_⟩, fun b hb => by rw [e6, hset_oa hb]; exact F3 b hb⟩⟩⟩
      rw [e6]
      exact bx_set hp X3.2 (fun m' m0 _ => rwF_s i0 hi j0 hj o2' m') (fibR (P := ((rwP p x y s).1, rwF p x y s i j, 0, fun _ => 0)) hp (WS i j) i0 (by omega) j0 (by omega)) h1 (by omega) (isD1 hp)
    · intro hk ⟨j0, X3, F3⟩
      refine vX9_rows_83 75 x y s i y ⟨⟨by omega, by omega⟩, ⟨by omega, by omega⟩, fun _ => ih1 hk ⟨by omega, X3.ext (fun k k0 k1 => ?_), F3⟩, fun c => by omega⟩
      unfold rwF
      by_cases c : k / 9 = i ∧ y ≤ k % 9
      · have hz : (rwP p x y s).2.1 k = 0 := by
          show (if k / 9 < x ∧ k % 9 < y then PW p ((k / 9 + k % 9) % s) else 0) = 0
          exact if_neg (by omega)
        rw [hz]
        split <;> split <;> rfl
      · split <;> split <;> first | rfl | (exfalso; omega)
  · intro hk ⟨i0, X1, F1⟩
    refine vX9_rows_74 75 x y s x ⟨⟨by omega, by omega⟩, ⟨by omega, by omega⟩, fun _ => hQ hk (X1.ext (fun k k0 _ => ?_)) F1, fun c => by omega⟩
    unfold rwF
    by_cases c : k / 9 < x
    · rw [if_pos (.inl c)]
    · rw [if_neg (by omega)]
      show 0 = (if k / 9 < x ∧ k % 9 < y then PW p ((k / 9 + k % 9) % s) else 0)
      rw [if_neg (fun z => c z.1)]
theorem rX9_rows {x y w r : Int} {B' : BS} (hx : inR x) (hy : inR y) (hw : inR w) (bw : BW B) (hm : MX h B) (hA : A_rw x y w B r B') (hQ : ∀ h', MX h' B' → FM h h' → Q r G0 h') : R l MX9_rows (d + 2) 0 0 [vR 75, vI x, vI y, vI w] G0 h Q := by
  have L : ∀ v, inR v → inL v := fun v hv => ⟨by have := hv.1; omega, by have := hv.2; omega⟩
  have r1 : inR 1 := ⟨by decide, by decide⟩
  have r0 : inR 0 := ⟨by decide, by decide⟩
  have no : ¬ (okz x ∧ okz y ∧ 0 ≤ w ∧ w ≤ 9) → Q (-1) G0 h := fun n => by
    rcases hA with ⟨_, rfl, rfl⟩ | ⟨o, _⟩
    · exact hQ h hm FM.rf
    · exact absurd o n
  have yes : ∀ s, (okz x ∧ okz y ∧ 0 ≤ w ∧ w ≤ 9) → s = (if w = 0 then x + y - 1 else w) → s ≤ 9 → 1 ≤ s → R l MX9_fresh (d + 1) 0 0 [vR 75, vI x, vI y, vI s] G0 h (fun _ G2 h2 => S l MX9_rows (d + 1 + 1, 0, 0, 0, 0) 74 [some (vR 75), some (vI x), some (vI y), none, some (vI s), some (vI 0), none] [] G2 h2 Q) := fun s o es s9 s1 => by
    refine rX9_fresh hm.1 (fun h' f mb e5 mh e15 => rX9_rowsLoop (p := bp B) o.1 o.2.1 ⟨s1, s9⟩ bw.1 (f.mr hm.1) (mb 2).1 (fun k k0 k1 => by rw [(mb 2).2 k k0 k1]; exact D_z) (fun h2 m2 f2 => ?_))
    have e75 := f2 75 (by decide)
    rcases hA with ⟨n, _, _⟩ | ⟨_, ⟨n, _, _⟩ | ⟨_, rfl, rfl⟩⟩
    · exact absurd o n
    · omega
    · rw [← es] at hQ
      exact hQ h2 (hm.bsh ((f.mr hm.1).fr (fun j _ _ _ _ _ _ => by rw [e75])) (by rw [e75]; exact f.2 0 (by decide) (by decide)) m2 ⟨by rw [e75]; exact e5, fun k k0 k1 => by have k1' : k < 27 * 0 := k1; omega⟩ ((mh _).fr (f2 79 (by decide))) (fun b b0 b1 => by rw [f2 b (by omega)]; exact f.1 b (by omega) (by omega) (by omega) (by omega)) (by rw [e75]; exact e15)) (fun b hb => by rw [f2 b (by omega)]; exact f.m b hb)
  refine eX9_rows 75 x y w (vX9_rows_0 75 x y w ⟨hx, rX9_in (L x hx) (by decide) (by decide) (fun o1 => ⟨r1, fun z => by omega, fun _ => ⟨hy, rX9_in (L y hy) (by decide) (by decide) (fun o2 => ⟨r1, fun z => by omega, fun _ => ⟨hw, rX9_in (L w hw) (by decide) (by decide) (fun o3 => ⟨r1, fun _ => ⟨hw, fun c => ⟨fun c2 => ⟨t75, ?_⟩, fun c2 => by omega⟩, fun c => ⟨⟨by omega, by omega⟩, fun c2 => ⟨t75, ?_⟩, fun c2 => ?_⟩⟩, fun z => by omega⟩) (fun n => ⟨r0, fun z => absurd rfl z, fun _ => no (fun q => n q.2.2)⟩)⟩⟩) (fun n => ⟨r0, fun _ => no (fun q => n q.2.1), fun z => absurd rfl z⟩)⟩⟩) (fun n => ⟨r0, fun _ => no (fun q => n q.1), fun z => absurd rfl z⟩)⟩)
  · exact yes w ⟨o1, o2, o3⟩ (by rw [if_neg c]) c2 (by omega)
  · exact yes _ ⟨o1, o2, o3⟩ (by rw [if_pos c]) c2 (by omega)
  · rcases hA with ⟨n, _, _⟩ | ⟨_, ⟨_, rfl, rfl⟩ | ⟨n, _, _⟩⟩
    · exact absurd ⟨o1, o2, o3⟩ n
    · exact hQ h hm FM.rf
    · rw [if_pos c] at n; omega
theorem rX9_set {i j k v r : Int} {B' : BS} (hi : inR i) (hj : inR j) (hk : inR k) (hv : inR v) (bw : BW B) (hm : MX h B) (hA : A_st i j k v B r B') (hQ : ∀ h', MX h' B' → FM h h' → Q r G0 h') : R l MX9_set (d + 2) 0 0 [vR 75, vI i, vI j, vI k, vI v] G0 h Q := by
  have hp := bw.1
  have hb := okp_b hp
  have hW := bw.2.1
  have L : ∀ v, inR v → inL v := fun v hv => ⟨by have := hv.1; omega, by have := hv.2; omega⟩
  have r1 : inR 1 := ⟨by decide, by decide⟩
  have r0 : inR 0 := ⟨by decide, by decide⟩
  have no : ¬ (plc (bP B) i j k ∧ isD (bp B) v) → Q (-1) G0 h := fun n => by
    rcases hA with ⟨o, _⟩ | ⟨_, rfl, rfl⟩
    · exact absurd o n
    · exact hQ h hm FM.rf
  refine eX9_set 75 i j k v (vX9_set_0 75 i j k v ⟨t75, rX9_isPlace hm.1 hm.2.2.1 hW hi hj hk (fun o1 => ⟨r1, fun z => by omega, fun _ => ?_⟩) (fun n => ⟨r0, fun _ => no (fun q => n q.1), fun z => absurd rfl z⟩)⟩)
  have s2 := hW.1 2 (by decide) (by decide)
  have s1 := hW.1 1 (by decide) (by decide)
  have s0 := hW.1 0 (by decide) (by decide)
  have oi := o1.1
  have oj := o1.2.1
  have ok := o1.2.2
  simp only [hm.2.1]
  refine ⟨hv, t75, ⟨by omega, by omega⟩, rX9_in (L v hv) (by decide) ⟨by omega, by omega⟩ (fun o2 => ⟨r1, fun _ => ?_, fun z => by omega⟩) (fun n => ⟨r0, fun z => absurd rfl z, fun _ => no (fun q => n (by have := q.2; unfold isD at this; omega))⟩)⟩
  have ov : isD (bp B) v := ⟨by omega, by omega⟩
  simp only [hm.1.bx]
  rw [hm.2.2.1.2 _ (by omega) (by omega), bd_at ok.1 (by omega)]
  refine ⟨t75, i77 (by omega) (by omega), fun h17 e17 h18 e18 => ?_⟩
  rcases hA with ⟨_, rfl, rfl⟩ | ⟨n, _⟩
  · have e75 : ∀ q, q ≠ 15 → h18 75 q = h 75 q := fun q hq => by rw [e18, hset_oj hq, e17, hset_oa (by decide)]
    have ef : ∀ b, b ≠ 75 → b ≠ 77 → h18 b = h b := fun b b1 b2 => by rw [e18, hset_oa b1, e17, hset_oa b2]
    refine hQ h18 ⟨hm.1.fr (fun q _ _ q15 _ _ _ => e75 q q15), by rw [e75 0 (by decide)]; exact hm.2.1, ⟨fun w w0 w3 => by rw [ef 76 (by decide) (by decide)]; exact hm.2.2.1.1 w w0 w3, ?_⟩, hm.2.2.2.1.fr (e75 4 (by decide)) (ef 78 (by decide) (by decide)), hm.2.2.2.2.1.fr (ef 79 (by decide) (by decide)), hm.2.2.2.2.2.1.fr (fun b b0 b1 => ef b (by omega) (by omega)), .inl (by rw [e18, hset_s])⟩ (fun b hb => ef b (by omega) (by omega))
    rw [e18, hset_oa (by decide), e17, show 81 * i + 9 * j + k = 9 * (9 * i + j) + k by omega]
    exact bx_set hp hm.2.2.1.2 (fun m' _ _ => rfl) (fibR hp hW oi.1 (by omega) oj.1 (by omega)) ok.1 (by omega) ov
  · exact absurd ⟨o1, ov⟩ n
theorem rX9_at {i j k r : Int} {B' : BS} (hi : inR i) (hj : inR j) (hk : inR k) (bw : BW B) (hm : MX h B) (hA : A_at i j k B r B') (hQ : ∀ h', MX h' B' → FM h h' → Q r G0 h') : R l MX9_at (d + 2) 0 0 [vR 75, vI i, vI j, vI k] G0 h Q := by
  have hW := bw.2.1
  have r1 : inR 1 := ⟨by decide, by decide⟩
  have r0 : inR 0 := ⟨by decide, by decide⟩
  obtain ⟨rfl, hA⟩ := hA
  refine eX9_at 75 i j k (vX9_at_0 75 i j k ⟨t75, rX9_isPlace hm.1 hm.2.2.1 hW hi hj hk (fun o1 => ⟨r1, fun z => by omega, fun _ => ?_⟩) (fun n => ⟨r0, fun _ => ?_, fun z => absurd rfl z⟩)⟩)
  · have s2 := hW.1 2 (by decide) (by decide)
    have s1 := hW.1 1 (by decide) (by decide)
    have s0 := hW.1 0 (by decide) (by decide)
    have oi := o1.1
    have oj := o1.2.1
    have ok := o1.2.2
    simp only [hm.1.bx]
    rw [hm.2.2.1.2 _ (by omega) (by omega), bd_at ok.1 (by omega)]
    refine ⟨t75, i77 (by omega) (by omega), ?_⟩
    rcases hA with ⟨_, rfl⟩ | ⟨n, _⟩
    · exact hQ h hm FM.rf
    · exact absurd o1 n
  · rcases hA with ⟨o, _⟩ | ⟨_, rfl⟩
    · exact absurd o n
    · exact hQ h hm FM.rf
end Mod3
