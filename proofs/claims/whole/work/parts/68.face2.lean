theorem WF_sub {p : Int} {s T F R R' : Int → Int} (hp : okp p) (hW : WF p (s, T, 0, R)) (h : ∀ k, F k = T k ∨ F k = 0) : WF p (s, F, 0, R') := by
  refine ⟨hW.1, fun i j i0 i9 j0 j9 => ?_, hW.2.2.1, fun w t _ _ t0 t1 => by have t1' : t < 0 := t1; omega⟩
  have h1 := hW.2.1 i j i0 i9 j0 j9
  show 0 ≤ F (9 * i + j) ∧ F (9 * i + j) < PW p (s 2) ∧ (s 0 ≤ i ∨ s 1 ≤ j → F (9 * i + j) = 0)
  rcases h (9 * i + j) with e | e
  · rw [e]; exact h1
  · rw [e]; exact ⟨Int.le_refl 0, PW1 hp _, fun _ => rfl⟩
theorem wn_0 {p m : Int} : wn p 0 m 1 = PW p m := by
  unfold wn
  rw [D_z, Int.sub_zero, Int.one_mul, Int.zero_add]
def tbF (p x y z r s q : Int) : Int → Int := fun k => if k / 9 / y < r ∨ (k / 9 / y = r ∧ (k / 9 % y < s ∨ (k / 9 % y = s ∧ k % 9 % z < q))) then (tbP p x y z).2.1 k else 0
theorem WF_tbP {p x y z : Int} (hp : okp p) (o1 : okz x) (o2 : okz y) (o3 : okz z) (p1 : x * y ≤ 9) (p2 : y * z ≤ 9) (p3 : x * z ≤ 9) : WF p (tbP p x y z) := by
  have m1 := sz_m1 o1.1 o2.1
  have m2 := sz_m1 o2.1 o3.1
  have m3 := sz_m1 o1.1 o3.1
  refine ⟨fun w w0 w3 => ?_, fun i j i0 i9 j0 j9 => ?_, ⟨by show (0 : Int) ≤ 0; omega, by show (0 : Int) ≤ 40; omega⟩, fun w t _ _ t0 t1 => by have t1' : t < 0 := t1; omega⟩
  · rcases (show w = 0 ∨ w = 1 ∨ w = 2 by omega) with rfl | rfl | rfl
    · exact ⟨m1, p1⟩
    · exact ⟨m2, p2⟩
    · exact ⟨m3, p3⟩
  · show 0 ≤ (if (9 * i + j) / 9 < x * y ∧ (9 * i + j) % 9 < y * z ∧ (9 * i + j) / 9 % y = (9 * i + j) % 9 / z then PW p (z * ((9 * i + j) / 9 / y) + (9 * i + j) % 9 % z) else 0) ∧ (if (9 * i + j) / 9 < x * y ∧ (9 * i + j) % 9 < y * z ∧ (9 * i + j) / 9 % y = (9 * i + j) % 9 / z then PW p (z * ((9 * i + j) / 9 / y) + (9 * i + j) % 9 % z) else 0) < PW p (x * z) ∧ (x * y ≤ i ∨ y * z ≤ j → (if (9 * i + j) / 9 < x * y ∧ (9 * i + j) % 9 < y * z ∧ (9 * i + j) / 9 % y = (9 * i + j) % 9 / z then PW p (z * ((9 * i + j) / 9 / y) + (9 * i + j) % 9 % z) else 0) = 0)
    rw [(fb_n (i := i) ⟨j0, j9⟩).1, (fb_n (i := i) ⟨j0, j9⟩).2]
    by_cases c : i < x * y ∧ j < y * z ∧ i % y = j / z
    · rw [if_pos c]
      have d1 := y_dm (show 0 < y by have := o2.1; omega) i0 c.1
      have d2 := y_dm (show 0 < z by have := o3.1; omega) j0 c.2.1
      have d3 := ij_lt d1.1 d1.2.1 d2.2.2.1 d2.2.2.2.1
      rw [Int.mul_comm z]
      refine ⟨Int.le_of_lt (PW1 hp _), PW_lt (okp_b hp).1 d3.1 d3.2, fun z => ?_⟩
      omega
    · rw [if_neg c]
      exact ⟨Int.le_refl 0, PW1 hp _, fun _ => rfl⟩
theorem tbF_s {p x y z r s q : Int} (o2 : okz y) (o3 : okz z) (p2 : y * z ≤ 9) (r0 : 0 ≤ r) (rx : r < x) (s0 : 0 ≤ s) (sy : s < y) (q0 : 0 ≤ q) (qz : q < z) (k : Int) (k0 : 0 ≤ k) : tbF p x y z r s (q + 1) k = if k = 9 * (y * r + s) + (z * s + q) then wn p (tbF p x y z r s q (9 * (y * r + s) + (z * s + q))) (z * r + q) 1 else tbF p x y z r s q k := by
  have a1 := ij_lt r0 rx s0 sy
  have a2 := ij_lt s0 sy q0 qz
  have a3 := ij_dm (i := r) s0 sy
  have a4 := ij_dm (i := s) q0 qz
  have e1 : y * r + s = r * y + s := by rw [Int.mul_comm]
  have e2 : z * s + q = s * z + q := by rw [Int.mul_comm]
  have e3 : z * r + q = r * z + q := by rw [Int.mul_comm]
  rw [e1, e2, e3]
  have b1 : (9 * (r * y + s) + (s * z + q)) / 9 = r * y + s := by omega
  have b2 : (9 * (r * y + s) + (s * z + q)) % 9 = s * z + q := by omega
  by_cases e : k = 9 * (r * y + s) + (s * z + q)
  · rw [if_pos e, e]
    unfold tbF
    rw [b1, b2, a3.1, a3.2, a4.2, if_pos (by omega), if_neg (by omega), wn_0]
    show (if (9 * (r * y + s) + (s * z + q)) / 9 < x * y ∧ (9 * (r * y + s) + (s * z + q)) % 9 < y * z ∧ (9 * (r * y + s) + (s * z + q)) / 9 % y = (9 * (r * y + s) + (s * z + q)) % 9 / z then PW p (z * ((9 * (r * y + s) + (s * z + q)) / 9 / y) + (9 * (r * y + s) + (s * z + q)) % 9 % z) else 0) = _
    rw [b1, b2, a3.1, a3.2, a4.1, a4.2, if_pos ⟨a1.2, a2.2, rfl⟩, Int.mul_comm z]
  · rw [if_neg e]
    unfold tbF
    by_cases c : k / 9 / y = r ∧ k / 9 % y = s ∧ k % 9 % z = q
    · have hz : (tbP p x y z).2.1 k = 0 := by
        show (if k / 9 < x * y ∧ k % 9 < y * z ∧ k / 9 % y = k % 9 / z then PW p (z * (k / 9 / y) + k % 9 % z) else 0) = 0
        refine if_neg (fun w => e ?_)
        have d1 := y_dm (show 0 < y by have := o2.1; omega) (show 0 ≤ k / 9 by omega) w.1
        have d2 := y_dm (show 0 < z by have := o3.1; omega) (show 0 ≤ k % 9 by omega) w.2.1
        rw [c.1, c.2.1] at d1
        rw [← w.2.2, c.2.1, c.2.2] at d2
        omega
      rw [hz]
      split <;> split <;> rfl
    · split <;> split <;> first | rfl | (exfalso; omega)
theorem tbF_q {p x y z r s k : Int} (o3 : okz z) : tbF p x y z r s z k = tbF p x y z r (s + 1) 0 k := by
  have h1 := Int.emod_nonneg (k % 9) (show z ≠ 0 by have := o3.1; omega)
  have h2 := Int.emod_lt_of_pos (k % 9) (show 0 < z by have := o3.1; omega)
  unfold tbF
  split <;> split <;> first | rfl | (exfalso; omega)
theorem tbF_r {p x y z r k : Int} (o2 : okz y) (o3 : okz z) : tbF p x y z r y 0 k = tbF p x y z (r + 1) 0 0 k := by
  have h1 := Int.emod_nonneg (k / 9) (show y ≠ 0 by have := o2.1; omega)
  have h2 := Int.emod_lt_of_pos (k / 9) (show 0 < y by have := o2.1; omega)
  have h3 := Int.emod_nonneg (k % 9) (show z ≠ 0 by have := o3.1; omega)
  unfold tbF
  split <;> split <;> first | rfl | (exfalso; omega)
theorem tbF_0 {p x y z k : Int} (o2 : okz y) (o3 : okz z) (k0 : 0 ≤ k) : tbF p x y z 0 0 0 k = 0 := by
  have h1 := Int.emod_nonneg (k / 9) (show y ≠ 0 by have := o2.1; omega)
  have h3 := Int.emod_nonneg (k % 9) (show z ≠ 0 by have := o3.1; omega)
  have h4 : 0 ≤ k / 9 / y := Int.ediv_nonneg (by omega) (by have := o2.1; omega)
  unfold tbF
  exact if_neg (by omega)
theorem tbF_x {p x y z k : Int} (o2 : okz y) (k0 : 0 ≤ k) : tbF p x y z x 0 0 k = (tbP p x y z).2.1 k := by
  have h1 := Int.emod_nonneg (k / 9) (show y ≠ 0 by have := o2.1; omega)
  unfold tbF
  by_cases c : k / 9 / y < x
  · rw [if_pos (.inl c)]
  · have hz : (tbP p x y z).2.1 k = 0 := by
      show (if k / 9 < x * y ∧ k % 9 < y * z ∧ k / 9 % y = k % 9 / z then PW p (z * (k / 9 / y) + k % 9 % z) else 0) = 0
      refine if_neg (fun w => c ?_)
      exact (y_dm (show 0 < y by have := o2.1; omega) (show 0 ≤ k / 9 by omega) w.1).2.1
    rw [hz]
    split <;> rfl
theorem tbF_or {p x y z r s q : Int} : ∀ k, tbF p x y z r s q k = (tbP p x y z).2.1 k ∨ tbF p x y z r s q k = 0 := fun k => by
  unfold tbF
  split
  · exact .inl rfl
  · exact .inr rfl
section Face2
variable {l : Launch} {d : Nat} {h : HP} {B : BS} {Q : Int → GS → HP → Prop}
theorem XP_f {hh : HP} {a p : Int} {s F F' R : Int → Int} {n : Int} (hX : XP hh a p (s, F, n, R)) (e : ∀ k, 0 ≤ k → k < 81 → F k = F' k) : XP hh a p (s, F', n, R) := XP_ext hX (fun _ _ _ => rfl) e rfl (fun _ _ _ _ _ _ => rfl)
set_option maxHeartbeats 1000000 in
theorem rX8_tables {x y z : Int} (hx : inR x) (hy : inR y) (hz : inR z) (hc : CX h B) (hQ : ∀ r B' h', A_tb x y z B r B' → CX h' B' → FC h h' → Q r G0 h') : R l MX8_tables (d + 3) 0 0 [vR 0, vI x, vI y, vI z] G0 h Q := by
  obtain ⟨a, hc⟩ := hc
  have hp : okp (bp B) := hc.2.2.2.2.2.2.2.2.1
  have g := hc.2.1
  have a4 := hc.1
  have ha := isP_a a4
  have no : ¬ (okz x ∧ okz y ∧ okz z) → Q (-1) G0 h := fun n => hQ _ _ _ (.inl ⟨n, rfl, rfl⟩) ⟨a, hc⟩ FC.rf
  have r1 : inR 1 := ⟨by decide, by decide⟩
  have r0 : inR 0 := ⟨by decide, by decide⟩
  refine eX8_tables 0 x y z (vX8_tables_0 0 x y z (rX8_isSize hx (fun o1 => ⟨r1, fun z => by omega, fun _ => rX8_isSize hy (fun o2 => ⟨r1, fun z => by omega, fun _ => rX8_isSize hz (fun o3 => ⟨r1, fun _ => ?_, fun z => by omega⟩) (fun n => ⟨r0, fun z => absurd rfl z, fun _ => no (fun q => n q.2.2)⟩)⟩) (fun n => ⟨r0, fun _ => no (fun q => n q.2.1), fun z => absurd rfl z⟩)⟩) (fun n => ⟨r0, fun _ => no (fun q => n q.1), fun z => absurd rfl z⟩)))
  have bnd : ∀ u v, okz u → okz v → inR (u * v) := fun u v h1 h2 => by
    have := ml_b (x := u) (y := v) (a := 9) (b := 9) (by have := h1.1; omega) h1.2 (by have := h2.1; omega) h2.2
    exact ⟨by omega, by omega⟩
  have lg : (9 < x * y ∨ 9 < y * z ∨ 9 < x * z) → Q (-3) G0 h := fun n => hQ _ _ _ (.inr ⟨⟨o1, o2, o3⟩, .inl ⟨n, rfl, rfl⟩⟩) ⟨a, hc⟩ FC.rf
  refine ⟨bnd x y o1 o2, fun c => lg (.inl c), fun p1 => ⟨bnd y z o2 o3, fun c => lg (.inr (.inl c)), fun p2 => ⟨bnd x z o1 o3, fun p3 => ⟨by decide +kernel, ?_⟩, fun c => lg (.inr (.inr c))⟩⟩⟩
  refine rX8_startBox a4 hc.2.2.1.2.2.2.1 hc.2.2.1.2.2.2.2.2.2.2.2.2.2.1 hc.pa (fun h' x' f' z' => ?_)
  have WT := WF_tbP hp o1 o2 o3 p1 p2 p3
  have WS : ∀ r s q, WF (bp B) ((tbP (bp B) x y z).1, tbF (bp B) x y z r s q, 0, fun _ => 0) := fun r s q => WF_sub (T := (tbP (bp B) x y z).2.1) (R := fun _ => 0) hp WT tbF_or
  have hI : ∀ hk : HP, (∀ b, b ≠ 42 → (b < a ∨ a + 5 < b) → hk b = h b) → Gd hk (bp B) ∧ hk 0 10 = a := fun hk f => ⟨g.lo (fun b b0 b1 => f b (by omega) (by omega)), by rw [f 0 (by decide) (by omega)]; exact hc.2.2.1.2.2.2.2.2.2.2.2.2.2.1⟩
  have o1' := o1.2
  have o2' := o2.2
  have o3' := o3.2
  refine lp_up (σ := HP) (fun r hk => S l MX8_tables (d + 2 + 1, 0, 0, 0, 0) 66 [some (vR 0), some (vI x), some (vI y), some (vI z), some (vI r), none, none] [] G0 hk Q) (fun r hk => 0 ≤ r ∧ XP hk a (bp B) ((tbP (bp B) x y z).1, tbF (bp B) x y z r 0 0, 0, fun _ => 0) ∧ (∀ b, b ≠ 42 → (b < a ∨ a + 5 < b) → hk b = h b) ∧ (hk 42 0 = 0 ∧ hk 42 1 = 0)) x ?_ ?_ 0 h' (by have := o1.1; omega) ⟨by omega, XP_f (x' _ _) (fun k k0 k1 => (tbF_0 o2 o3 k0).symm), f', z'⟩
  · intro r hk hr ⟨r0', X1, F1, Z1⟩ ih1
    refine vX8_tables_66 0 x y z r ⟨⟨by omega, by omega⟩, ⟨by omega, by omega⟩, fun c => by omega, fun _ => ?_⟩
    refine lp_up (σ := HP) (fun s hk => S l MX8_tables (d + 2 + 1, 0, 0, 0, 0) 75 [some (vR 0), some (vI x), some (vI y), some (vI z), some (vI r), some (vI s), none] [] G0 hk Q) (fun s hk => 0 ≤ s ∧ XP hk a (bp B) ((tbP (bp B) x y z).1, tbF (bp B) x y z r s 0, 0, fun _ => 0) ∧ (∀ b, b ≠ 42 → (b < a ∨ a + 5 < b) → hk b = h b) ∧ (hk 42 0 = 0 ∧ hk 42 1 = 0)) y ?_ ?_ 0 hk (by have := o2.1; omega) ⟨by omega, X1, F1, Z1⟩
    · intro s hk hs ⟨s0, X2, F2, Z2⟩ ih2
      refine vX8_tables_75 0 x y z r s ⟨⟨by omega, by omega⟩, ⟨by omega, by omega⟩, fun c => by omega, fun _ => ?_⟩
      refine lp_up (σ := HP) (fun q hk => S l MX8_tables (d + 2 + 1, 0, 0, 0, 0) 84 [some (vR 0), some (vI x), some (vI y), some (vI z), some (vI r), some (vI s), some (vI q)] [] G0 hk Q) (fun q hk => 0 ≤ q ∧ XP hk a (bp B) ((tbP (bp B) x y z).1, tbF (bp B) x y z r s q, 0, fun _ => 0) ∧ (∀ b, b ≠ 42 → (b < a ∨ a + 5 < b) → hk b = h b) ∧ (hk 42 0 = 0 ∧ hk 42 1 = 0)) z ?_ ?_ 0 hk (by have := o3.1; omega) ⟨by omega, X2, F2, Z2⟩
      · intro q hk hq ⟨q0, X3, F3, Z3⟩ ih3
        obtain ⟨gk, k10⟩ := hI hk F3
        have t1 := ij_lt r0' hr s0 hs
        have t2 := ij_lt s0 hs q0 hq
        have t3 := ij_lt r0' hr q0 hq
        rw [Int.mul_comm] at t1 t2 t3
        refine vX8_tables_84 0 x y z r s q ?_
        simp only [k10]
        refine ⟨⟨by omega, by omega⟩, ⟨by omega, by omega⟩, fun c => by omega, fun _ => ⟨by decide +kernel, (tP ha).1, rX4_setNumber gk ha X3 (WS r s q) t1.1 (by omega) t2.1 (by omega) t3.1 (by omega) (ih3 _ ⟨by omega, XP_fib2 X3 (fun k k0 k1 => ?_), fun b b4 hb => ?_, ?_⟩)⟩⟩
        · exact tbF_s o2 o3 p2 r0' hr s0 hs q0 hq k k0
        · rw [hset_oa (by omega)]; exact F3 b b4 hb
        · rw [hset_oa (by omega)]; exact Z3
      · intro hk ⟨q0, X3, F3, Z3⟩
        refine vX8_tables_84 0 x y z r s z ⟨⟨by omega, by omega⟩, ⟨by omega, by omega⟩, fun _ => ih2 hk ⟨by omega, XP_f X3 (fun k _ _ => tbF_q o3), F3, Z3⟩, fun c => by omega⟩
    · intro hk ⟨s0, X2, F2, Z2⟩
      refine vX8_tables_75 0 x y z r y ⟨⟨by omega, by omega⟩, ⟨by omega, by omega⟩, fun _ => ih1 hk ⟨by omega, XP_f X2 (fun k _ _ => tbF_r o2 o3), F2, Z2⟩, fun c => by omega⟩
  · intro hk ⟨r0', X1, F1, Z1⟩
    refine vX8_tables_66 0 x y z x ⟨⟨by omega, by omega⟩, ⟨by omega, by omega⟩, fun _ => hQ 1 _ hk (.inr ⟨⟨o1, o2, o3⟩, .inr ⟨⟨p1, p2, p3⟩, rfl, rfl⟩⟩) ⟨a, hc.sb (XP_f X1 (fun k k0 _ => tbF_x o2 k0)) WT F1 Z1⟩ (FC_of a4 F1), fun c => by omega⟩
def rwF (p n m s i j : Int) : Int → Int := fun k => if k / 9 < i ∨ (k / 9 = i ∧ k % 9 < j) then (rwP p n m s).2.1 k else 0
theorem WF_rwP {p n m s : Int} (hp : okp p) (o1 : okz n) (o2 : okz m) (o3 : okz s) : WF p (rwP p n m s) := by
  refine ⟨fun w w0 w3 => ?_, fun i j i0 i9 j0 j9 => ?_, ⟨by show (0 : Int) ≤ 0; omega, by show (0 : Int) ≤ 40; omega⟩, fun w t _ _ t0 t1 => by have t1' : t < 0 := t1; omega⟩
  · rcases (show w = 0 ∨ w = 1 ∨ w = 2 by omega) with rfl | rfl | rfl
    · exact o1
    · exact o2
    · exact o3
  · show 0 ≤ (if (9 * i + j) / 9 < n ∧ (9 * i + j) % 9 < m then PW p (((9 * i + j) / 9 + (9 * i + j) % 9) % s) else 0) ∧ (if (9 * i + j) / 9 < n ∧ (9 * i + j) % 9 < m then PW p (((9 * i + j) / 9 + (9 * i + j) % 9) % s) else 0) < PW p s ∧ (n ≤ i ∨ m ≤ j → (if (9 * i + j) / 9 < n ∧ (9 * i + j) % 9 < m then PW p (((9 * i + j) / 9 + (9 * i + j) % 9) % s) else 0) = 0)
    rw [(fb_n (i := i) ⟨j0, j9⟩).1, (fb_n (i := i) ⟨j0, j9⟩).2]
    have h1 := Int.emod_nonneg (i + j) (show s ≠ 0 by have := o3.1; omega)
    have h2 := Int.emod_lt_of_pos (i + j) (show 0 < s by have := o3.1; omega)
    by_cases c : i < n ∧ j < m
    · rw [if_pos c]
      refine ⟨Int.le_of_lt (PW1 hp _), PW_lt (okp_b hp).1 h1 h2, fun z => ?_⟩
      omega
    · rw [if_neg c]
      exact ⟨Int.le_refl 0, PW1 hp _, fun _ => rfl⟩
theorem rwF_s {p n m s i j : Int} (i0 : 0 ≤ i) (iN : i < n) (j0 : 0 ≤ j) (jM : j < m) (m9 : m ≤ 9) (k : Int) : rwF p n m s i (j + 1) k = if k = 9 * i + j then wn p (rwF p n m s i j (9 * i + j)) ((i + j) % s) 1 else rwF p n m s i j k := by
  have b := fb_n (i := i) (j := j) ⟨j0, by omega⟩
  by_cases e : k = 9 * i + j
  · rw [if_pos e, e]
    unfold rwF
    rw [b.1, b.2, if_pos (by omega), if_neg (by omega), wn_0]
    show (if (9 * i + j) / 9 < n ∧ (9 * i + j) % 9 < m then PW p (((9 * i + j) / 9 + (9 * i + j) % 9) % s) else 0) = _
    rw [b.1, b.2, if_pos ⟨iN, jM⟩]
  · rw [if_neg e]
    unfold rwF
    split <;> split <;> first | rfl | (exfalso; omega)
theorem rX8_rowsLoop {a x y s : Int} {h0 : HP} (o1 : okz x) (o2 : okz y) (o3 : okz s) (hc : CXa h0 a B) (x' : ∀ (p : Int) (r : Int → Int), XP h a p (sz3 x y s, (fun _ => 0), 0, r)) (f' : ∀ b, b ≠ 42 → (b < a ∨ a + 5 < b) → h b = h0 b) (z' : h 42 0 = 0 ∧ h 42 1 = 0) (hQ : ∀ h', CXa h' a (bsh B (rwP (bp B) x y s)) → FC h0 h' → Q 1 G0 h') : S l MX8_rows (d + 2 + 1, 0, 0, 0, 0) 62 [some (vR 0), some (vI x), some (vI y), none, some (vI s), some (vI 0), none] [] G0 h Q := by
  have hp : okp (bp B) := hc.2.2.2.2.2.2.2.2.1
  have g := hc.2.1
  have a4 := hc.1
  have ha := isP_a a4
  have WT := WF_rwP hp o1 o2 o3
  have WS : ∀ i j, WF (bp B) ((rwP (bp B) x y s).1, rwF (bp B) x y s i j, 0, fun _ => 0) := fun i j => WF_sub (T := (rwP (bp B) x y s).2.1) (R := fun _ => 0) hp WT (fun k => by unfold rwF; split; exact .inl rfl; exact .inr rfl)
  have hI : ∀ hk : HP, (∀ b, b ≠ 42 → (b < a ∨ a + 5 < b) → hk b = h0 b) → Gd hk (bp B) ∧ hk 0 10 = a := fun hk f => ⟨g.lo (fun b b0 b1 => f b (by omega) (by omega)), by rw [f 0 (by decide) (by omega)]; exact hc.2.2.1.2.2.2.2.2.2.2.2.2.2.1⟩
  have o1' := o1.2
  have o2' := o2.2
  have o3' := o3.2
  have o3'' := o3.1
  refine lp_up (σ := HP) (fun i hk => S l MX8_rows (d + 2 + 1, 0, 0, 0, 0) 62 [some (vR 0), some (vI x), some (vI y), none, some (vI s), some (vI i), none] [] G0 hk Q) (fun i hk => 0 ≤ i ∧ XP hk a (bp B) ((rwP (bp B) x y s).1, rwF (bp B) x y s i 0, 0, fun _ => 0) ∧ (∀ b, b ≠ 42 → (b < a ∨ a + 5 < b) → hk b = h0 b) ∧ (hk 42 0 = 0 ∧ hk 42 1 = 0)) x ?_ ?_ 0 h (by have := o1.1; omega) ⟨by omega, XP_f (x' _ _) (fun k k0 k1 => by unfold rwF; rw [if_neg (by omega)]), f', z'⟩
  · intro i hk hi ⟨i0, X1, F1, Z1⟩ ih1
    refine vX8_rows_62 0 x y s i ⟨⟨by omega, by omega⟩, ⟨by omega, by omega⟩, fun c => by omega, fun _ => ?_⟩
    refine lp_up (σ := HP) (fun j hk => S l MX8_rows (d + 2 + 1, 0, 0, 0, 0) 71 [some (vR 0), some (vI x), some (vI y), none, some (vI s), some (vI i), some (vI j)] [] G0 hk Q) (fun j hk => 0 ≤ j ∧ XP hk a (bp B) ((rwP (bp B) x y s).1, rwF (bp B) x y s i j, 0, fun _ => 0) ∧ (∀ b, b ≠ 42 → (b < a ∨ a + 5 < b) → hk b = h0 b) ∧ (hk 42 0 = 0 ∧ hk 42 1 = 0)) y ?_ ?_ 0 hk (by have := o2.1; omega) ⟨by omega, X1, F1, Z1⟩
    · intro j hk hj ⟨j0, X3, F3, Z3⟩ ih3
      obtain ⟨gk, k10⟩ := hI hk F3
      have h1 := Int.emod_nonneg (i + j) (show s ≠ 0 by omega)
      have h2 := Int.emod_lt_of_pos (i + j) (show 0 < s by omega)
      refine vX8_rows_71 0 x y s i j ?_
      simp only [k10]
      refine ⟨⟨by omega, by omega⟩, ⟨by omega, by omega⟩, fun c => by omega, fun _ => ⟨by decide +kernel, ⟨⟨by omega, by omega⟩, by omega, by omega⟩, (tP ha).1, rX4_setNumber gk ha X3 (WS i j) i0 (by omega) j0 (by omega) h1 (by omega) (ih3 _ ⟨by omega, XP_fib2 X3 (fun k k0 k1 => ?_), fun b b4 hb => ?_, ?_⟩)⟩⟩
      · exact rwF_s i0 hi j0 hj o2' k
      · rw [hset_oa (by omega)]; exact F3 b b4 hb
      · rw [hset_oa (by omega)]; exact Z3
    · intro hk ⟨j0, X3, F3, Z3⟩
      refine vX8_rows_71 0 x y s i y ⟨⟨by omega, by omega⟩, ⟨by omega, by omega⟩, fun _ => ih1 hk ⟨by omega, XP_f X3 (fun k k0 k1 => ?_), F3, Z3⟩, fun c => by omega⟩
      unfold rwF
      by_cases c : k / 9 = i ∧ y ≤ k % 9
      · have hz : (rwP (bp B) x y s).2.1 k = 0 := by
          show (if k / 9 < x ∧ k % 9 < y then PW (bp B) ((k / 9 + k % 9) % s) else 0) = 0
          exact if_neg (by omega)
        rw [hz]
        split <;> split <;> rfl
      · split <;> split <;> first | rfl | (exfalso; omega)
  · intro hk ⟨i0, X1, F1, Z1⟩
    refine vX8_rows_62 0 x y s x ⟨⟨by omega, by omega⟩, ⟨by omega, by omega⟩, fun _ => hQ hk (hc.sb (XP_f X1 (fun k k0 _ => ?_)) WT F1 Z1) (FC_of a4 F1), fun c => by omega⟩
    unfold rwF
    by_cases c : k / 9 < x
    · rw [if_pos (.inl c)]; rfl
    · rw [if_neg (by omega)]
      show 0 = (if k / 9 < x ∧ k % 9 < y then PW (bp B) ((k / 9 + k % 9) % s) else 0)
      rw [if_neg (fun z => c z.1)]
theorem rX8_rows {x y w : Int} (hx : inR x) (hy : inR y) (hw : inR w) (hc : CX h B) (hQ : ∀ r B' h', A_rw x y w B r B' → CX h' B' → FC h h' → Q r G0 h') : R l MX8_rows (d + 3) 0 0 [vR 0, vI x, vI y, vI w] G0 h Q := by
  obtain ⟨a, hc⟩ := hc
  have a4 := hc.1
  have no : ¬ (okz x ∧ okz y ∧ 0 ≤ w ∧ w ≤ 9) → Q (-1) G0 h := fun n => hQ _ _ _ (.inl ⟨n, rfl, rfl⟩) ⟨a, hc⟩ FC.rf
  have r1 : inR 1 := ⟨by decide, by decide⟩
  have r0 : inR 0 := ⟨by decide, by decide⟩
  refine eX8_rows 0 x y w (vX8_rows_0 0 x y w (rX8_isSize hx (fun o1 => ⟨r1, fun z => by omega, fun _ => rX8_isSize hy (fun o2 => ⟨r1, fun z => by omega, fun _ => ⟨hw, fun c => no (by omega), fun c1 => ⟨fun c2 => ⟨fun c3 => ⟨fun _ => ⟨by decide +kernel, ?_⟩, fun c => by omega⟩, fun c3 => ⟨?_, fun c4 => ⟨by decide +kernel, ?_⟩, fun c4 => ?_⟩⟩, fun c => no (by omega)⟩⟩⟩) (fun n => ⟨r0, fun _ => no (fun q => n q.2.1), fun z => absurd rfl z⟩)⟩) (fun n => ⟨r0, fun _ => no (fun q => n q.1), fun z => absurd rfl z⟩)))
  · refine rX8_startBox a4 hc.2.2.1.2.2.2.1 hc.2.2.1.2.2.2.2.2.2.2.2.2.2.1 hc.pa (fun h' x' f' z' => rX8_rowsLoop o1 o2 ⟨by omega, c2⟩ hc x' f' z' (fun h2 c5 f5 => hQ 1 _ h2 (.inr ⟨⟨o1, o2, c1, c2⟩, .inr ⟨by rw [if_neg c3]; exact c2, rfl, by rw [if_neg c3]⟩⟩) ⟨a, c5⟩ f5))
  · have := o1.1; have := o1.2; have := o2.1; have := o2.2
    exact ⟨by omega, by omega⟩
  · have := o1.1; have := o2.1
    refine rX8_startBox a4 hc.2.2.1.2.2.2.1 hc.2.2.1.2.2.2.2.2.2.2.2.2.2.1 hc.pa (fun h' x' f' z' => rX8_rowsLoop o1 o2 ⟨by omega, c4⟩ hc x' f' z' (fun h2 c5 f5 => hQ 1 _ h2 (.inr ⟨⟨o1, o2, c1, c2⟩, .inr ⟨by rw [if_pos c3]; exact c4, rfl, by rw [if_pos c3]⟩⟩) ⟨a, c5⟩ f5))
  · exact hQ _ _ _ (.inr ⟨⟨o1, o2, c1, c2⟩, .inl ⟨by rw [if_pos c3]; exact c4, rfl, rfl⟩⟩) ⟨a, hc⟩ FC.rf
end Face2
