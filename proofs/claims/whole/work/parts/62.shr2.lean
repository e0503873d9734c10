/-- the Sharer's references -/
def HR (h : HP) : Prop := h 70 0 = 1 ∧ h 70 1 = 71 ∧ h 70 2 = 72 ∧ h 70 3 = 73 ∧ h 70 4 = 74
def FrH (h h' : HP) : Prop := ∀ b : Int, b < 70 ∨ 74 < b → h' b = h b
/-- row t's list -/
abbrev LRh (h : HP) (t C p : Int) (m : Int → Int) : Prop := LRr (fun i => h 71 (9 * t + i)) (fun i => h 72 (9 * t + i)) (h 73 t) C p m
theorem lrh_b {h : HP} {t C p : Int} {m : Int → Int} (hL : LRh h t C p m) {i : Int} (i0 : 0 ≤ i) (i1 : i < h 73 t) : 0 ≤ h 71 (9 * t + i) ∧ h 71 (9 * t + i) < C ∧ 1 ≤ h 72 (9 * t + i) ∧ h 72 (9 * t + i) < p ∧ m (h 71 (9 * t + i)) = h 72 (9 * t + i) := hL.2.1 i i0 i1
theorem lrh_m {h : HP} {t C p : Int} {m : Int → Int} (hL : LRh h t C p m) {i j : Int} (i0 : 0 ≤ i) (ij : i < j) (j1 : j < h 73 t) : h 71 (9 * t + i) < h 71 (9 * t + j) := hL.2.2.1 i j i0 ij j1
theorem lrh_e {h : HP} {t C p : Int} {m : Int → Int} (hL : LRh h t C p m) {c : Int} (c0 : 0 ≤ c) (c1 : c < C) (hm : m c ≠ 0) : ∃ i, 0 ≤ i ∧ i < h 73 t ∧ h 71 (9 * t + i) = c := hL.2.2.2 c c0 c1 hm
theorem ia71 {b i : Int} (hb : b = 71 ∨ b = 72) (i0 : 0 ≤ i) (i1 : i < 360) : inA G0 10 b i := by
  rcases hb with rfl | rfl <;> exact ⟨by decide +kernel, i0, by rw [show ln G0 _ = 360 by decide +kernel]; exact i1⟩
theorem ia73 {i : Int} (i0 : 0 ≤ i) (i1 : i < 40) : inA G0 10 73 i := ⟨by decide +kernel, i0, by rw [show ln G0 73 = 40 by decide +kernel]; exact i1⟩
theorem ia74 {i : Int} (i0 : 0 ≤ i) (i1 : i < 343) : inA G0 10 74 i := ⟨by decide +kernel, i0, by rw [show ln G0 74 = 343 by decide +kernel]; exact i1⟩
section Shr
variable {l : Launch} {d : Nat} {h : HP} {p C : Int} {m : Int → Int} {Q : Int → GS → HP → Prop}
theorem HR.fr {h' : HP} (hr : HR h) (e : ∀ j, 0 ≤ j → j ≤ 4 → h' 70 j = h 70 j) : HR h' := by
  unfold HR
  rw [e 0 (by decide) (by decide), e 1 (by decide) (by decide), e 2 (by decide) (by decide), e 3 (by decide) (by decide), e 4 (by decide) (by decide)]
  exact hr
theorem rX7_append {t x v : Int} (hr : HR h) (t0 : 0 ≤ t) (t1 : t < 40) (hL : 0 ≤ h 73 t ∧ h 73 t ≤ 8) (hQ : ∀ h', (∀ b, b ≠ 71 → b ≠ 72 → b ≠ 73 → h' b = h b) → (∀ j, h' 71 j = if j = 9 * t + h 73 t then x else h 71 j) → (∀ j, h' 72 j = if j = 9 * t + h 73 t then v else h 72 j) → (∀ j, h' 73 j = if j = t then h 73 t + 1 else h 73 j) → Q 0 G0 h') : R l MX7_append d 0 0 [vR 70, vI t, vI x, vI v] G0 h Q := by
  refine eX7_append 70 t x v (vX7_append_0 70 t x v ?_)
  simp only [hr.2.1, hr.2.2.2.1]
  refine ⟨by decide +kernel, ia73 t0 t1, ia71 (.inl rfl) (by omega) (by omega), fun h4 e4 => ?_⟩
  have f4 : ∀ b, b ≠ 71 → h4 b = h b := fun b hb => by rw [e4, hset_oa hb]
  simp only [f4 70 (by decide), hr.2.2.1]
  refine ⟨ia71 (.inr rfl) (by omega) (by omega), fun h6 e6 => ?_⟩
  have f6 : ∀ b, b ≠ 71 → b ≠ 72 → h6 b = h b := fun b hb hb2 => by rw [e6, hset_oa hb2, f4 b hb]
  simp only [f6 70 (by decide) (by decide), hr.2.2.2.1, f6 73 (by decide) (by decide)]
  refine ⟨ia73 t0 t1, fun h8 e8 => hQ h8 (fun b b1 b2 b3 => by rw [e8, hset_oa b3, f6 b b1 b2]) (fun j => ?_) (fun j => ?_) (fun j => ?_)⟩
  · rw [e8, hset_oa (by decide), e6, hset_oa (by decide), e4]
    by_cases e : j = 9 * t + h 73 t
    · rw [if_pos e, e, hset_s]
    · rw [if_neg e, hset_oj e]
  · rw [e8, hset_oa (by decide), e6]
    by_cases e : j = 9 * t + h 73 t
    · rw [if_pos e, e, hset_s]
    · rw [if_neg e, hset_oj e, f4 72 (by decide)]
  · rw [e8]
    by_cases e : j = t
    · rw [if_pos e, e, hset_s]
    · rw [if_neg e, hset_oj e, f6 73 (by decide) (by decide)]
theorem rX7_keyOf {t i j : Int} (hg : Gd h p) (hr : HR h) (hL : LRh h t C p m) (t0 : 0 ≤ t) (t1 : t < 40) (i0 : 0 ≤ i) (i1 : i < h 73 t) (j0 : 0 ≤ j) (j1 : j < h 73 t) (hQ : Q (h 71 (9 * t + j) * 7 + h 72 (9 * t + j) * iv p (h 72 (9 * t + i)) % p) G0 h) : R l MX7_keyOf d 0 0 [vR 70, vI (9 * t + i), vI (9 * t + j)] G0 h Q := by
  have hb := okp_b hg.1
  have hi := lrh_b hL i0 i1
  have hj := lrh_b hL j0 j1
  have h9 := hL.1.2
  have io := iv_ok hg.1 hi.2.2.1 hi.2.2.2.1
  refine eX7_keyOf 70 _ _ (vX7_keyOf_0 70 _ _ ?_)
  simp only [hr.1, hr.2.1, hr.2.2.1, hg.2.1, hg.2.2.2.1, hg.2.2.2.2.2 _ hi.2.2.1 hi.2.2.2.1]
  refine ⟨by decide +kernel, ia71 (.inr rfl) (by omega) (by omega), by decide +kernel, ia71 (.inr rfl) (by omega) (by omega), ⟨by decide +kernel, by omega, by rw [show ln G0 3 = 7 by decide +kernel]; omega⟩, ml_dv hg.1 ⟨by omega, hj.2.2.2.1⟩ ⟨by omega, io.2.1⟩, ia71 (.inl rfl) (by omega) (by omega), hQ⟩
theorem rX7_indexOf {t c : Int} (hr : HR h) (hL : LRh h t C p m) (C49 : C ≤ 49) (t0 : 0 ≤ t) (t1 : t < 40) (c0 : 0 ≤ c) (c1 : c < C) (h1 : ∀ i, 0 ≤ i → i < h 73 t → h 71 (9 * t + i) = c → m c ≠ 0 → Q (9 * t + i) G0 h) (h0 : m c = 0 → Q (-1) G0 h) : R l MX7_indexOf d 0 0 [vR 70, vI t, vI c] G0 h Q := by
  have h9 := hL.1
  refine eX7_indexOf 70 t c (vX7_indexOf_0 70 t c ?_)
  simp only [hr.2.2.2.1]
  refine ⟨by decide +kernel, ia73 t0 t1, ?_⟩
  refine lp_up (σ := Unit) (fun x _ => S l MX7_indexOf (d, 0, 0, 0, 0) 18 [some (vR 70), none, some (vI c), some (vI (9 * t + h 73 t)), some (vI x)] [] G0 h Q) (fun x _ => 9 * t ≤ x ∧ ∀ i, 0 ≤ i → 9 * t + i < x → h 71 (9 * t + i) < c) (9 * t + h 73 t) ?_ ?_ (9 * t) () (by omega) ⟨by omega, fun i i0 i1 => by omega⟩
  · intro x _ hx ⟨x0, hlt⟩ ih
    have hi := lrh_b hL (i := x - 9 * t) (by omega) (by omega)
    rw [show 9 * t + (x - 9 * t) = x by omega] at hi
    refine vX7_indexOf_18 70 c _ x ?_
    simp only [hr.2.1]
    refine ⟨⟨by omega, by omega⟩, ⟨by omega, by omega⟩, fun c => by omega, fun _ => ⟨by decide +kernel, ia71 (.inl rfl) (by omega) (by omega), ⟨by omega, by omega⟩, ⟨by omega, by omega⟩, fun hc => h0 ?_, fun hc => ⟨fun hne => ih () ⟨by omega, fun i i0 i1 => ?_⟩, fun he => ?_⟩⟩⟩
    · apply Classical.byContradiction
      intro hm
      obtain ⟨i, i0, i1, ei⟩ := lrh_e hL c0 c1 hm
      by_cases e1 : 9 * t + i < x
      · have := hlt i i0 e1; omega
      · by_cases e2 : x < 9 * t + i
        · have := lrh_m hL (i := x - 9 * t) (j := i) (by omega) (by omega) i1
          rw [show 9 * t + (x - 9 * t) = x by omega] at this
          omega
        · rw [show 9 * t + i = x by omega] at ei; omega
    · by_cases e : 9 * t + i = x
      · rw [e]; omega
      · exact hlt i i0 (by omega)
    · have := h1 (x - 9 * t) (by omega) (by omega) (by rw [show 9 * t + (x - 9 * t) = x by omega]; exact he) (by rw [← he]; omega)
      rw [show 9 * t + (x - 9 * t) = x by omega] at this
      exact this
  · intro _ ⟨x0, hlt⟩
    refine vX7_indexOf_18 70 c _ _ ⟨⟨by omega, by omega⟩, ⟨by omega, by omega⟩, fun _ => h0 ?_, fun c => by omega⟩
    apply Classical.byContradiction
    intro hm
    obtain ⟨i, i0, i1, ei⟩ := lrh_e hL c0 c1 hm
    have := hlt i i0 (by omega)
    omega
theorem rX7_cut {t q : Int} (hr : HR h) (t0 : 0 ≤ t) (t1 : t < 40) (hL : h 73 t ≤ 9) (q0 : 0 ≤ q) (q1 : q < h 73 t) (hQ : ∀ h', (∀ b, b ≠ 71 → b ≠ 72 → b ≠ 73 → h' b = h b) → (∀ i, 0 ≤ i → i < h 73 t - 1 → h' 71 (9 * t + i) = h 71 (9 * t + sk q i) ∧ h' 72 (9 * t + i) = h 72 (9 * t + sk q i)) → (∀ j, j < 9 * t ∨ 9 * t + 9 ≤ j → h' 71 j = h 71 j ∧ h' 72 j = h 72 j) → (∀ j, h' 73 j = if j = t then h 73 t - 1 else h 73 j) → Q 0 G0 h') : R l MX7_cut (d + 1) 0 0 [vR 70, vI t, vI (9 * t + q)] G0 h Q := by
  refine eX7_cut 70 t _ (vX7_cut_0 70 t _ ?_)
  simp only [hr.2.1, hr.2.2.2.1]
  have l71 : ln G0 71 = 360 := by decide +kernel
  have l72 : ln G0 72 = 360 := by decide +kernel
  refine ⟨by decide +kernel, ia73 t0 t1, ⟨⟨by decide +kernel, by decide +kernel⟩, ⟨by omega, by omega, by omega⟩, by rw [l71]; omega, by rw [l71]; omega⟩, fun h4 e4 => ?_⟩
  have f4 : ∀ b, b ≠ 71 → h4 b = h b := fun b hb => by rw [e4, cp_o hb]
  simp only [f4 70 (by decide), hr.2.2.1]
  refine ⟨⟨⟨by decide +kernel, by decide +kernel⟩, ⟨by omega, by omega, by omega⟩, by rw [l72]; omega, by rw [l72]; omega⟩, fun h6 e6 => ?_⟩
  have f6 : ∀ b, b ≠ 71 → b ≠ 72 → h6 b = h b := fun b hb hb2 => by rw [e6, cp_o hb2, f4 b hb]
  simp only [f6 70 (by decide) (by decide), hr.2.2.2.1, f6 73 (by decide) (by decide)]
  refine ⟨ia73 t0 t1, fun h8 e8 => ?_⟩
  have c71 : ∀ j, h8 71 j = if 9 * t + q ≤ j ∧ j < 9 * t + q + (9 * t + h 73 t - (9 * t + q) - 1) then h 71 (9 * t + q + 1 + (j - (9 * t + q))) else h 71 j := fun j => by
    rw [e8, hset_oa (by decide), e6, cp_o (by decide), e4, cp_at]
  have c72 : ∀ j, h8 72 j = if 9 * t + q ≤ j ∧ j < 9 * t + q + (9 * t + h 73 t - (9 * t + q) - 1) then h 72 (9 * t + q + 1 + (j - (9 * t + q))) else h 72 j := fun j => by
    rw [e8, hset_oa (by decide), e6, cp_at, f4 72 (by decide)]
  refine hQ h8 (fun b b1 b2 b3 => by rw [e8, hset_oa b3, f6 b b1 b2]) (fun i i0 i1 => ?_) (fun j hj => ?_) (fun j => ?_)
  · rw [c71, c72]
    by_cases c : q ≤ i
    · have hc : 9 * t + q ≤ 9 * t + i ∧ 9 * t + i < 9 * t + q + (9 * t + h 73 t - (9 * t + q) - 1) := by omega
      rw [show sk q i = i + 1 from if_pos c, if_pos hc, if_pos hc, show 9 * t + q + 1 + (9 * t + i - (9 * t + q)) = 9 * t + (i + 1) by omega]
      exact ⟨rfl, rfl⟩
    · have hc : ¬ (9 * t + q ≤ 9 * t + i ∧ 9 * t + i < 9 * t + q + (9 * t + h 73 t - (9 * t + q) - 1)) := by omega
      rw [show sk q i = i from if_neg c, if_neg hc, if_neg hc]
      exact ⟨rfl, rfl⟩
  · have hc : ¬ (9 * t + q ≤ j ∧ j < 9 * t + q + (9 * t + h 73 t - (9 * t + q) - 1)) := by omega
    rw [c71, c72, if_neg hc, if_neg hc]
    exact ⟨rfl, rfl⟩
  · rw [e8]
    by_cases e : j = t
    · rw [if_pos e, e, hset_s]
    · rw [if_neg e, hset_oj e, f6 73 (by decide) (by decide)]
end Shr
