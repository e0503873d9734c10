theorem PW1 {p : Int} (hp : okp p) (n : Int) : 0 < PW p n := PW_pos (okp_b hp).1 n
/-- piece and hands are new; the piece may stand at the other place -/
theorem CXa.sh {h h' : HP} {a a' : Int} {B : BS} {P : PS} (hc : CXa h a B) (a4' : a' = 4 ∨ a' = 10) (hX : XP h' a' (bp B) P) (hW : WF (bp B) P) (f : ∀ b, b ≠ 0 → b ≠ 42 → (b < a' ∨ a' + 5 < b) → h' b = h b) (f0 : FR h' a') (z : h' 42 0 = 0 ∧ h' 42 1 = 0) : CXa h' a' (bsh B P) := by
  obtain ⟨a4, g, fr, X, hd, pr, kp, hh, bw⟩ := hc
  refine ⟨a4', g.lo (fun b b0 b1 => f b (by omega) (by omega) (by omega)), f0, hX, z, ?_, fun q q0 q4 => ?_, hh.fr (fun b b0 b1 => f b (by omega) (by omega) (by omega)), bw.1, hW, ⟨Int.le_refl 0, PW1 bw.1 _⟩, ⟨Int.le_refl 0, PW1 bw.1 _⟩, bw.2.2.2.2⟩
  · rcases a4' with rfl | rfl
    · refine ⟨hX.1, ?_⟩
      unfold Pr
      rw [f 10 (by decide) (by decide) (by decide)]; exact pr.2
    · refine ⟨?_, hX.1⟩
      unfold Pr
      rw [f 4 (by decide) (by decide) (by decide)]; exact pr.1
  · obtain ⟨k1, k2, k3, k4⟩ := kp q q0 q4
    refine ⟨?_, by rw [f 16 (by omega) (by omega) (by omega)]; exact k2, by rw [f 41 (by omega) (by omega) (by omega)]; exact k3, fun z => (k4 z).lo (fun b b0 b1 => f b (by omega) (by omega) (by omega))⟩
    unfold Pr
    rw [f (17 + 6 * q) (by omega) (by omega) (by omega)]; exact k1
section Face1
variable {l : Launch} {d : Nat} {G : GS} {h : HP} {B : BS} {Q : Int → GS → HP → Prop}
theorem rX8_isSize {n : Int} (hn : inR n) (h1 : okz n → Q 1 G h) (h0 : ¬ okz n → Q 0 G h) : R l MX8_isSize d 0 0 [vI n] G h Q :=
  eX8_isSize n (vX8_isSize_0 n ⟨hn, fun c => h0 (by unfold okz; omega), fun c => ⟨fun c2 => h0 (by unfold okz; omega), fun c2 => h1 ⟨c, c2⟩⟩⟩)
theorem rX8_isWay {n : Int} (hn : inR n) (h1 : okw n → Q 1 G h) (h0 : ¬ okw n → Q 0 G h) : R l MX8_isWay d 0 0 [vI n] G h Q :=
  eX8_isWay n (vX8_isWay_0 n ⟨hn, fun c => h0 (by unfold okw; omega), fun c => ⟨fun c2 => h0 (by unfold okw; omega), fun c2 => h1 ⟨c, c2⟩⟩⟩)
theorem rX8_isPlace {n : Int} (hn : inR n) (h1 : okq n → Q 1 G h) (h0 : ¬ okq n → Q 0 G h) : R l MX8_isPlace d 0 0 [vI n] G h Q :=
  eX8_isPlace n (vX8_isPlace_0 n ⟨hn, fun c => h0 (by unfold okq; omega), fun c => ⟨fun c2 => h0 (by unfold okq; omega), fun c2 => h1 ⟨c, c2⟩⟩⟩)
theorem rX8_emptyHands (h3 : h 0 3 = 42) (hQ : ∀ h', (∀ b, b ≠ 42 → h' b = h b) → (h' 42 0 = 0 ∧ h' 42 1 = 0) → Q 0 G0 h') : R l MX8_emptyHands d 0 0 [vR 0] G0 h Q := by
  refine eX8_emptyHands 0 (vX8_emptyHands_0 0 ?_)
  simp only [h3]
  refine ⟨by decide +kernel, ⟨by decide +kernel, by decide, by decide +kernel⟩, fun h3' e3 => ?_⟩
  have f3 : ∀ b, b ≠ 42 → h3' b = h b := fun b hb => by rw [e3, hset_oa hb]
  simp only [f3 0 (by decide), h3]
  refine ⟨⟨by decide +kernel, by decide, by decide +kernel⟩, fun h5 e5 => hQ h5 (fun b hb => by rw [e5, hset_oa hb, f3 b hb]) ⟨?_, ?_⟩⟩
  · rw [e5, hset_oj (by decide), e3, hset_s]
  · rw [e5, hset_s]
theorem rX8_startBox {a x y z : Int} (a4 : a = 4 ∨ a = 10) (h3 : h 0 3 = 42) (h10 : h 0 10 = a) (pr : Pr h a) (hQ : ∀ h', (∀ (p : Int) (r : Int → Int), XP h' a p (sz3 x y z, (fun _ => 0), 0, r)) → (∀ b, b ≠ 42 → (b < a ∨ a + 5 < b) → h' b = h b) → (h' 42 0 = 0 ∧ h' 42 1 = 0) → Q 0 G0 h') : R l MX8_startBox (d + 2) 0 0 [vR 0, vI x, vI y, vI z] G0 h Q := by
  have ha := isP_a a4
  refine eX8_startBox 0 x y z (vX8_startBox_0 0 x y z ?_)
  simp only [h10]
  refine ⟨by decide +kernel, (tP ha).1, rX4_start ⟨(tP ha).1, (tP ha).2.1, (tP ha).2.2.1⟩ pr (fun h' x' f' => ⟨by decide +kernel, rX8_emptyHands (by rw [f' 0 (by omega)]; exact h3) (fun h2 f2 z2 => hQ h2 (fun p r => (x' p r).lo (fun b b0 b1 => f2 b (by omega))) (fun b b4 hb => by rw [f2 b b4, f' b hb]) z2)⟩)⟩
theorem FC_of {a : Int} {h h' : HP} (a4 : a = 4 ∨ a = 10) (f : ∀ b, b ≠ 42 → (b < a ∨ a + 5 < b) → h' b = h b) : FC h h' := fun b hb => f b (by omega) (by omega)
theorem CXa.sb {a : Int} {h h' : HP} {P : PS} (hc : CXa h a B) (hX : XP h' a (bp B) P) (hW : WF (bp B) P) (f : ∀ b, b ≠ 42 → (b < a ∨ a + 5 < b) → h' b = h b) (z : h' 42 0 = 0 ∧ h' 42 1 = 0) : CXa h' a (bsh B P) := by
  have a4 := hc.1
  refine hc.sh a4 hX hW (fun b _ b2 b3 => f b b2 b3) ?_ z
  unfold FR
  rw [f 0 (by decide) (by omega)]
  exact hc.2.2.1
theorem rX8_ground {v : Int} (hv : inR v) (hc : CX h B) (hQ : ∀ r B' h', A_gr v B r B' → CX h' B' → FC h h' → Q r G0 h') : R l MX8_ground (d + 3) 0 0 [vR 0, vI v] G0 h Q := by
  obtain ⟨a, hc⟩ := hc
  have hc0 := hc
  obtain ⟨a4, g, fr, X, hd, pr, kp, hh, bw⟩ := hc
  refine eX8_ground 0 v (vX8_ground_0 0 v (rX1_canBe hv (fun ok => ⟨⟨by decide, by decide⟩, fun _ => ?_, fun z => by omega⟩) (fun no => ⟨⟨by decide, by decide⟩, fun z => absurd rfl z, fun _ => hQ _ _ _ (.inr ⟨no, rfl, rfl⟩) ⟨a, hc0⟩ FC.rf⟩)))
  simp only [fr.1]
  refine ⟨by decide +kernel, by decide +kernel, rX1_become ok g.2.2.1 g.2.2.2.1 (by decide +kernel) (by decide +kernel) (by decide +kernel) (fun h' g' f' => ?_)⟩
  refine lp_up (σ := HP) (fun q hk => S l MX8_ground (d + 2 + 1, 0, 0, 0, 0) 19 [some (vR 0), none, some (vI q)] [] G0 hk Q) (fun q hk => 0 ≤ q ∧ (∀ b, b ≠ 41 → hk b = h' b) ∧ ∀ k, 0 ≤ k → k < q → hk 41 k = 0) 4 ?_ ?_ 0 h' (by decide) ⟨by decide, fun _ _ => rfl, fun k k0 k1 => by omega⟩
  · intro q hk hq ⟨q0, f, z⟩ ih
    refine vX8_ground_19 0 q ?_
    simp only [f 0 (by decide), f' 0 (by decide) (by decide) (by decide), fr.2.2.1]
    refine ⟨⟨by omega, by omega⟩, fun c => by omega, fun _ => ⟨by decide +kernel, ⟨by decide +kernel, q0, by rw [show ln G0 41 = 4 by decide +kernel]; exact hq⟩, fun h9 e9 => ih h9 ⟨by omega, fun b hb => by rw [e9, hset_oa hb]; exact f b hb, fun k k0 k1 => ?_⟩⟩⟩
    by_cases e : k = q
    · rw [e, e9, hset_s]
    · rw [e9, hset_oj e]; exact z k k0 (by omega)
  · intro hk ⟨q0, f, z⟩
    have fk : ∀ b, b ≠ 1 → b ≠ 2 → b ≠ 3 → b ≠ 41 → hk b = h b := fun b b1 b2 b3 b4 => by rw [f b b4, f' b b1 b2 b3]
    have f0 := fk 0 (by decide) (by decide) (by decide) (by decide)
    have pa : Pr h a := by rcases a4 with rfl | rfl; exact pr.1; exact pr.2
    refine vX8_ground_19 0 4 ⟨⟨by decide, by decide⟩, fun _ => ⟨by decide +kernel, rX8_startBox (a := a) a4 (by rw [f0]; exact fr.2.2.2.1) (by rw [f0]; exact fr.2.2.2.2.2.2.2.2.2.2.1) (by unfold Pr; rw [fk a (by omega) (by omega) (by omega) (by omega)]; exact pa) (fun h2 x2 f2 z2 => hQ 1 _ h2 (.inl ⟨ok, rfl, rfl⟩) ⟨a, ?_⟩ (fun b hb => by rw [f2 b (by omega) (by omega), fk b (by omega) (by omega) (by omega) (by omega)]))⟩, fun c => by omega⟩
    have fa : ∀ b, b ≠ 1 → b ≠ 2 → b ≠ 3 → b ≠ 41 → b ≠ 42 → (b < a ∨ a + 5 < b) → h2 b = h b := fun b b1 b2 b3 b4 b5 b6 => by rw [f2 b b5 b6, fk b b1 b2 b3 b4]
    refine ⟨a4, ?_, ?_, x2 v _, z2, ?_, fun q q0 q4 => ?_, hh.fr (fun b b0 b1 => fa b (by omega) (by omega) (by omega) (by omega) (by omega) (by omega)), ok, WF_start ok (by decide) (by decide) (by decide), ⟨Int.le_refl 0, PW1 ok _⟩, ⟨Int.le_refl 0, PW1 ok _⟩, fun q _ _ => .inl rfl⟩
    · refine g'.lo (fun b b0 b1 => ?_)
      rw [f2 b (by omega) (by omega), f b (by omega)]
    · unfold FR
      rw [fa 0 (by decide) (by decide) (by decide) (by decide) (by decide) (by omega)]; exact fr
    · rcases a4 with rfl | rfl
      · refine ⟨(x2 v (fun _ => 0)).1, ?_⟩
        unfold Pr
        rw [fa 10 (by decide) (by decide) (by decide) (by decide) (by decide) (by decide)]; exact pr.2
      · refine ⟨?_, (x2 v (fun _ => 0)).1⟩
        unfold Pr
        rw [fa 4 (by decide) (by decide) (by decide) (by decide) (by decide) (by decide)]; exact pr.1
    · obtain ⟨k1, k2, k3, k4⟩ := kp q q0 q4
      refine ⟨?_, by rw [fa 16 (by omega) (by omega) (by omega) (by omega) (by omega) (by omega)]; exact k2, ?_, fun z => absurd rfl z⟩
      · unfold Pr
        rw [fa (17 + 6 * q) (by omega) (by omega) (by omega) (by omega) (by omega) (by omega)]; exact k1
      · rw [f2 41 (by decide) (by omega)]; exact z q q0 q4
theorem CXa.pa {a : Int} (hc : CXa h a B) : Pr h a := by
  rcases hc.1 with e | e
  · rw [e]; exact hc.2.2.2.2.2.1.1
  · rw [e]; exact hc.2.2.2.2.2.1.2
theorem rX8_box {x y z : Int} (hx : inR x) (hy : inR y) (hz : inR z) (hc : CX h B) (hQ : ∀ r B' h', A_bx x y z B r B' → CX h' B' → FC h h' → Q r G0 h') : R l MX8_box (d + 3) 0 0 [vR 0, vI x, vI y, vI z] G0 h Q := by
  obtain ⟨a, hc⟩ := hc
  have no : ¬ (okz x ∧ okz y ∧ okz z) → Q (-1) G0 h := fun n => hQ _ _ _ (.inr ⟨n, rfl, rfl⟩) ⟨a, hc⟩ FC.rf
  have r1 : inR 1 := ⟨by decide, by decide⟩
  have r0 : inR 0 := ⟨by decide, by decide⟩
  refine eX8_box 0 x y z (vX8_box_0 0 x y z (rX8_isSize hx (fun o1 => ⟨r1, fun z => by omega, fun _ => rX8_isSize hy (fun o2 => ⟨r1, fun z => by omega, fun _ => rX8_isSize hz (fun o3 => ⟨r1, fun _ => ⟨by decide +kernel, ?_⟩, fun z => by omega⟩) (fun n => ⟨r0, fun z => absurd rfl z, fun _ => no (fun q => n q.2.2)⟩)⟩) (fun n => ⟨r0, fun _ => no (fun q => n q.2.1), fun z => absurd rfl z⟩)⟩) (fun n => ⟨r0, fun _ => no (fun q => n q.1), fun z => absurd rfl z⟩)))
  exact rX8_startBox hc.1 hc.2.2.1.2.2.2.1 hc.2.2.1.2.2.2.2.2.2.2.2.2.2.1 hc.pa (fun h' x' f' z' => hQ 1 _ h' (.inl ⟨⟨o1, o2, o3⟩, rfl, rfl⟩) ⟨a, hc.sb (x' _ _) (WF_start hc.2.2.2.2.2.2.2.2.1 o1 o2 o3) f' z'⟩ (FC_of hc.1 f'))
end Face1
