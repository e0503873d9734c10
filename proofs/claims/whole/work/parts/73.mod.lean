/-- the references of the model's object -/
def MR (h : HP) : Prop := h 75 1 = 76 ∧ h 75 2 = 77 ∧ h 75 3 = 78 ∧ h 75 5 = 79 ∧ h 75 6 = 80 ∧ h 75 7 = 81 ∧ h 75 8 = 82 ∧ h 75 9 = 83 ∧ h 75 10 = 84 ∧ h 75 11 = 85 ∧ h 75 12 = 86 ∧ h 75 13 = 87 ∧ h 75 14 = 88 ∧ h 75 17 = 89 ∧ h 75 18 = 90 ∧ h 75 20 = 91 ∧ h 75 21 = 92 ∧ h 75 22 = 93 ∧ h 75 23 = 94 ∧ h 75 24 = 95 ∧ h 75 25 = 96 ∧ h 75 26 = 97
theorem MR.sz {h : HP} (m : MR h) : h 75 1 = 76 := m.1
theorem i76 {i : Int} (h0 : 0 ≤ i) (h1 : i < 3) : inA G0 10 76 i := ⟨by decide +kernel, h0, by rw [show ln G0 76 = 3 by decide +kernel]; exact h1⟩
theorem MR.bx {h : HP} (m : MR h) : h 75 2 = 77 := m.2.1
theorem i77 {i : Int} (h0 : 0 ≤ i) (h1 : i < 729) : inA G0 10 77 i := ⟨by decide +kernel, h0, by rw [show ln G0 77 = 729 by decide +kernel]; exact h1⟩
theorem MR.sc {h : HP} (m : MR h) : h 75 3 = 78 := m.2.2.1
theorem i78 {i : Int} (h0 : 0 ≤ i) (h1 : i < 1080) : inA G0 10 78 i := ⟨by decide +kernel, h0, by rw [show ln G0 78 = 1080 by decide +kernel]; exact h1⟩
theorem MR.hd {h : HP} (m : MR h) : h 75 5 = 79 := m.2.2.2.1
theorem i79 {i : Int} (h0 : 0 ≤ i) (h1 : i < 18) : inA G0 10 79 i := ⟨by decide +kernel, h0, by rw [show ln G0 79 = 18 by decide +kernel]; exact h1⟩
theorem MR.ik {h : HP} (m : MR h) : h 75 6 = 80 := m.2.2.2.2.1
theorem i80 {i : Int} (h0 : 0 ≤ i) (h1 : i < 4) : inA G0 11 80 i := ⟨by decide +kernel, h0, by rw [show ln G0 80 = 4 by decide +kernel]; exact h1⟩
theorem MR.ks {h : HP} (m : MR h) : h 75 7 = 81 := m.2.2.2.2.2.1
theorem i81 {i : Int} (h0 : 0 ≤ i) (h1 : i < 12) : inA G0 10 81 i := ⟨by decide +kernel, h0, by rw [show ln G0 81 = 12 by decide +kernel]; exact h1⟩
theorem MR.kb {h : HP} (m : MR h) : h 75 8 = 82 := m.2.2.2.2.2.2.1
theorem i82 {i : Int} (h0 : 0 ≤ i) (h1 : i < 2916) : inA G0 10 82 i := ⟨by decide +kernel, h0, by rw [show ln G0 82 = 2916 by decide +kernel]; exact h1⟩
theorem MR.kc {h : HP} (m : MR h) : h 75 9 = 83 := m.2.2.2.2.2.2.2.1
theorem i83 {i : Int} (h0 : 0 ≤ i) (h1 : i < 4320) : inA G0 10 83 i := ⟨by decide +kernel, h0, by rw [show ln G0 83 = 4320 by decide +kernel]; exact h1⟩
theorem MR.kt {h : HP} (m : MR h) : h 75 10 = 84 := m.2.2.2.2.2.2.2.2.1
theorem i84 {i : Int} (h0 : 0 ≤ i) (h1 : i < 4) : inA G0 10 84 i := ⟨by decide +kernel, h0, by rw [show ln G0 84 = 4 by decide +kernel]; exact h1⟩
theorem MR.fa {h : HP} (m : MR h) : h 75 11 = 85 := m.2.2.2.2.2.2.2.2.2.1
theorem i85 {i : Int} (h0 : 0 ≤ i) (h1 : i < 3) : inA G0 10 85 i := ⟨by decide +kernel, h0, by rw [show ln G0 85 = 3 by decide +kernel]; exact h1⟩
theorem MR.wb {h : HP} (m : MR h) : h 75 12 = 86 := m.2.2.2.2.2.2.2.2.2.2.1
theorem i86 {i : Int} (h0 : 0 ≤ i) (h1 : i < 729) : inA G0 10 86 i := ⟨by decide +kernel, h0, by rw [show ln G0 86 = 729 by decide +kernel]; exact h1⟩
theorem MR.ws {h : HP} (m : MR h) : h 75 13 = 87 := m.2.2.2.2.2.2.2.2.2.2.2.1
theorem i87 {i : Int} (h0 : 0 ≤ i) (h1 : i < 1080) : inA G0 10 87 i := ⟨by decide +kernel, h0, by rw [show ln G0 87 = 1080 by decide +kernel]; exact h1⟩
theorem MR.li {h : HP} (m : MR h) : h 75 14 = 88 := m.2.2.2.2.2.2.2.2.2.2.2.2.1
theorem i88 {i : Int} (h0 : 0 ≤ i) (h1 : i < 729) : inA G0 10 88 i := ⟨by decide +kernel, h0, by rw [show ln G0 88 = 729 by decide +kernel]; exact h1⟩
theorem MR.pu {h : HP} (m : MR h) : h 75 17 = 89 := m.2.2.2.2.2.2.2.2.2.2.2.2.2.1
theorem i89 {i : Int} (h0 : 0 ≤ i) (h1 : i < 60) : inA G0 10 89 i := ⟨by decide +kernel, h0, by rw [show ln G0 89 = 60 by decide +kernel]; exact h1⟩
theorem MR.pv {h : HP} (m : MR h) : h 75 18 = 90 := m.2.2.2.2.2.2.2.2.2.2.2.2.2.2.1
theorem i90 {i : Int} (h0 : 0 ≤ i) (h1 : i < 60) : inA G0 10 90 i := ⟨by decide +kernel, h0, by rw [show ln G0 90 = 60 by decide +kernel]; exact h1⟩
theorem MR.ch {h : HP} (m : MR h) : h 75 20 = 91 := m.2.2.2.2.2.2.2.2.2.2.2.2.2.2.2.1
theorem i91 {i : Int} (h0 : 0 ≤ i) (h1 : i < 4) : inA G0 10 91 i := ⟨by decide +kernel, h0, by rw [show ln G0 91 = 4 by decide +kernel]; exact h1⟩
theorem MR.le {h : HP} (m : MR h) : h 75 21 = 92 := m.2.2.2.2.2.2.2.2.2.2.2.2.2.2.2.2.1
theorem i92 {i : Int} (h0 : 0 ≤ i) (h1 : i < 3645) : inA G0 10 92 i := ⟨by decide +kernel, h0, by rw [show ln G0 92 = 3645 by decide +kernel]; exact h1⟩
theorem MR.tb {h : HP} (m : MR h) : h 75 22 = 93 := m.2.2.2.2.2.2.2.2.2.2.2.2.2.2.2.2.2.1
theorem i93 {i : Int} (h0 : 0 ≤ i) (h1 : i < 324) : inA G0 10 93 i := ⟨by decide +kernel, h0, by rw [show ln G0 93 = 324 by decide +kernel]; exact h1⟩
theorem MR.co {h : HP} (m : MR h) : h 75 23 = 94 := m.2.2.2.2.2.2.2.2.2.2.2.2.2.2.2.2.2.2.1
theorem i94 {i : Int} (h0 : 0 ≤ i) (h1 : i < 4) : inA G0 10 94 i := ⟨by decide +kernel, h0, by rw [show ln G0 94 = 4 by decide +kernel]; exact h1⟩
theorem MR.su {h : HP} (m : MR h) : h 75 24 = 95 := m.2.2.2.2.2.2.2.2.2.2.2.2.2.2.2.2.2.2.2.1
theorem i95 {i : Int} (h0 : 0 ≤ i) (h1 : i < 405) : inA G0 10 95 i := ⟨by decide +kernel, h0, by rw [show ln G0 95 = 405 by decide +kernel]; exact h1⟩
theorem MR.by_ {h : HP} (m : MR h) : h 75 25 = 96 := m.2.2.2.2.2.2.2.2.2.2.2.2.2.2.2.2.2.2.2.2.1
theorem i96 {i : Int} (h0 : 0 ≤ i) (h1 : i < 4) : inA G0 10 96 i := ⟨by decide +kernel, h0, by rw [show ln G0 96 = 4 by decide +kernel]; exact h1⟩
theorem MR.sh {h : HP} (m : MR h) : h 75 26 = 97 := m.2.2.2.2.2.2.2.2.2.2.2.2.2.2.2.2.2.2.2.2.2
theorem i97 {i : Int} (h0 : 0 ≤ i) (h1 : i < 1960) : inA G0 10 97 i := ⟨by decide +kernel, h0, by rw [show ln G0 97 = 1960 by decide +kernel]; exact h1⟩
theorem t75 : ty G0 75 = 9 := by decide +kernel
theorem MR.fr {h h' : HP} (m : MR h) (e : ∀ j, j ≠ 0 → j ≠ 4 → j ≠ 15 → j ≠ 16 → j ≠ 19 → j ≠ 27 → h' 75 j = h 75 j) : MR h' := by
  unfold MR
  rw [e 1 (by decide) (by decide) (by decide) (by decide) (by decide) (by decide), e 2 (by decide) (by decide) (by decide) (by decide) (by decide) (by decide), e 3 (by decide) (by decide) (by decide) (by decide) (by decide) (by decide), e 5 (by decide) (by decide) (by decide) (by decide) (by decide) (by decide), e 6 (by decide) (by decide) (by decide) (by decide) (by decide) (by decide), e 7 (by decide) (by decide) (by decide) (by decide) (by decide) (by decide), e 8 (by decide) (by decide) (by decide) (by decide) (by decide) (by decide), e 9 (by decide) (by decide) (by decide) (by decide) (by decide) (by decide), e 10 (by decide) (by decide) (by decide) (by decide) (by decide) (by decide), e 11 (by decide) (by decide) (by decide) (by decide) (by decide) (by decide), e 12 (by decide) (by decide) (by decide) (by decide) (by decide) (by decide), e 13 (by decide) (by decide) (by decide) (by decide) (by decide) (by decide), e 14 (by decide) (by decide) (by decide) (by decide) (by decide) (by decide), e 17 (by decide) (by decide) (by decide) (by decide) (by decide) (by decide), e 18 (by decide) (by decide) (by decide) (by decide) (by decide) (by decide), e 20 (by decide) (by decide) (by decide) (by decide) (by decide) (by decide), e 21 (by decide) (by decide) (by decide) (by decide) (by decide) (by decide), e 22 (by decide) (by decide) (by decide) (by decide) (by decide) (by decide), e 23 (by decide) (by decide) (by decide) (by decide) (by decide) (by decide), e 24 (by decide) (by decide) (by decide) (by decide) (by decide) (by decide), e 25 (by decide) (by decide) (by decide) (by decide) (by decide) (by decide), e 26 (by decide) (by decide) (by decide) (by decide) (by decide) (by decide)]
  exact m
/-! the model's state in the words of B -/
abbrev bd (p : Int) (P : PS) (k : Int) : Int := D p (fb P (k / 9)) (k % 9)
abbrev sd (p : Int) (P : PS) (k : Int) : Int := D p (rw' P (40 * (k % 27 / 9) + k / 27)) (k % 9)
def MB (h : HP) (p : Int) (P : PS) : Prop := (∀ w, 0 ≤ w → w < 3 → h 76 w = sz P w) ∧ ∀ k, 0 ≤ k → k < 729 → h 77 k = bd p P k
def MS (h : HP) (p : Int) (P : PS) : Prop := h 75 4 = tm P ∧ ∀ k, 0 ≤ k → k < 27 * tm P → h 78 k = sd p P k
def MH (h : HP) (p x y : Int) : Prop := ∀ i, 0 ≤ i → i < 9 → h 79 i = D p x i ∧ h 79 (9 + i) = D p y i
def MK (h : HP) (p : Int) (K : Int → Int) (KP : Int → PS) : Prop := ∀ q, 0 ≤ q → q < 4 → h 80 q = K q ∧ (K q ≠ 0 → (∀ w, 0 ≤ w → w < 3 → h 81 (3 * q + w) = sz (KP q) w) ∧ (∀ k, 0 ≤ k → k < 729 → h 82 (729 * q + k) = bd p (KP q) k) ∧ h 84 q = tm (KP q) ∧ ∀ k, 0 ≤ k → k < 27 * tm (KP q) → h 83 (1080 * q + k) = sd p (KP q) k)
def knw (p : Int) (P : PS) (n : Int) : Prop := sh2 p P ≤ 60 ∧ ((n = 5 ∧ ∀ m : Nat, m ≤ 4 → ∀ c, ¬ CanC p P m c) ∨ ∃ (m : Nat) (c : Int → Int), m ≤ 4 ∧ isLst p P m c ∧ n = m)
def MN (h : HP) (p : Int) (P : PS) : Prop := h 75 15 = 0 ∨ (h 75 15 = 1 ∧ knw p P (h 75 16))
def MX (h : HP) (B : BS) : Prop := MR h ∧ h 75 0 = bp B ∧ MB h (bp B) (bP B) ∧ MS h (bp B) (bP B) ∧ MH h (bp B) (bx B) (by' B) ∧ MK h (bp B) (bK B) (bQ B) ∧ MN h (bp B) (bP B)
def FM (h h' : HP) : Prop := ∀ b, b < 75 ∨ b = 95 → h' b = h b
theorem FM.rf {h : HP} : FM h h := fun _ _ => rfl
theorem FM.tr {h h1 h2 : HP} (f : FM h h1) (g : FM h1 h2) : FM h h2 := fun b hb => (g b hb).trans (f b hb)
theorem bd_at {p i j k : Int} {P : PS} (k0 : 0 ≤ k) (k9 : k < 9) : bd p P (81 * i + 9 * j + k) = D p (fb P (9 * i + j)) k := by
  unfold bd
  rw [show (81 * i + 9 * j + k) / 9 = 9 * i + j by omega, show (81 * i + 9 * j + k) % 9 = k by omega]
theorem sd_at {p t w i : Int} {P : PS} (w0 : 0 ≤ w) (w3 : w < 3) (i0 : 0 ≤ i) (i9 : i < 9) : sd p P (27 * t + 9 * w + i) = D p (rw' P (40 * w + t)) i := by
  unfold sd
  rw [show (27 * t + 9 * w + i) % 27 / 9 = w by omega, show (27 * t + 9 * w + i) / 27 = t by omega, show (27 * t + 9 * w + i) % 9 = i by omega]
theorem MB.fr {h h' : HP} {p : Int} {P : PS} (m : MB h p P) (e1 : h' 76 = h 76) (e2 : h' 77 = h 77) : MB h' p P := by
  unfold MB
  rw [e1, e2]; exact m
theorem MS.fr {h h' : HP} {p : Int} {P : PS} (m : MS h p P) (e1 : h' 75 4 = h 75 4) (e2 : h' 78 = h 78) : MS h' p P := by
  unfold MS
  rw [e1, e2]; exact m
theorem MH.fr {h h' : HP} {p x y : Int} (m : MH h p x y) (e : h' 79 = h 79) : MH h' p x y := by
  unfold MH
  rw [e]; exact m
theorem MK.fr {h h' : HP} {p : Int} {K : Int → Int} {KP : Int → PS} (m : MK h p K KP) (e : ∀ b, 80 ≤ b → b ≤ 84 → h' b = h b) : MK h' p K KP := by
  unfold MK
  rw [e 80 (by decide) (by decide), e 81 (by decide) (by decide), e 82 (by decide) (by decide), e 83 (by decide) (by decide), e 84 (by decide) (by decide)]; exact m
theorem MN.fr {h h' : HP} {p : Int} {P : PS} (m : MN h p P) (e1 : h' 75 15 = h 75 15) (e2 : h' 75 16 = h 75 16) : MN h' p P := by
  unfold MN
  rw [e1, e2]; exact m
theorem MX.fc {h h' : HP} {B : BS} (m : MX h B) (f : FC h h') : MX h' B := by
  have e := f 75 (by decide)
  refine ⟨m.1.fr (fun j _ _ _ _ _ _ => by rw [e]), by rw [e]; exact m.2.1, m.2.2.1.fr (f 76 (by decide)) (f 77 (by decide)), m.2.2.2.1.fr (by rw [e]) (f 78 (by decide)), m.2.2.2.2.1.fr (f 79 (by decide)), m.2.2.2.2.2.1.fr (fun b b0 _ => f b (by omega)), m.2.2.2.2.2.2.fr (by rw [e]) (by rw [e])⟩
theorem knw_ext {p n : Int} {P P' : PS} (e1 : P'.1 = P.1) (e2 : P'.2.1 = P.2.1) (h : knw p P n) : knw p P' n := by
  obtain ⟨a, b, c⟩ := P
  obtain ⟨a', b', c'⟩ := P'
  have e1' : a' = a := e1
  have e2' : b' = b := e2
  subst e1' e2'
  exact h
theorem cmpI_c (x y : Int) : (cmpI x y = 1 ∧ y < x) ∨ (cmpI x y = 0 ∧ x = y) ∨ (cmpI x y = -1 ∧ x < y) := by
  unfold cmpI
  by_cases c : y < x
  · rw [if_pos c]; exact .inl ⟨rfl, c⟩
  · rw [if_neg c]
    by_cases e : x = y
    · rw [if_pos e]; exact .inr (.inl ⟨rfl, e⟩)
    · rw [if_neg e]; exact .inr (.inr ⟨rfl, by omega⟩)
section Mod
variable {l : Launch} {d : Nat} {G : GS} {h : HP} {p : Int} {P : PS} {B : BS} {Q : Int → GS → HP → Prop}
theorem rX9_in {v lo hi : Int} (hv : inL v) (hl : inL lo) (hh : inL hi) (h1 : lo ≤ v ∧ v ≤ hi → Q 1 G h) (h0 : ¬ (lo ≤ v ∧ v ≤ hi) → Q 0 G h) : R l MX9_in d 0 0 [vL v, vL lo, vL hi] G h Q := by
  have c1 := cmpI_c v lo
  have c2 := cmpI_c v hi
  refine eX9_in v lo hi (vX9_in_0 v lo hi ⟨hv, hl, ⟨by omega, by omega⟩, fun c => h0 (by omega), fun c => ⟨hh, ⟨by omega, by omega⟩, fun c3 => h0 (by omega), fun c3 => h1 (by omega)⟩⟩)
theorem rX9_areSizes {x y z : Int} (hx : inR x) (hy : inR y) (hz : inR z) (h1 : okz x ∧ okz y ∧ okz z → Q 1 G h) (h0 : ¬ (okz x ∧ okz y ∧ okz z) → Q 0 G h) : R l MX9_areSizes (d + 1) 0 0 [vI x, vI y, vI z] G h Q := by
  have L : ∀ v, inR v → inL v := fun v hv => ⟨by have := hv.1; omega, by have := hv.2; omega⟩
  have r1 : inR 1 := ⟨by decide, by decide⟩
  have r0 : inR 0 := ⟨by decide, by decide⟩
  refine eX9_areSizes x y z (vX9_areSizes_0 x y z ⟨hx, rX9_in (L x hx) (by decide) (by decide) (fun o1 => ⟨r1, fun z => by omega, fun _ => ⟨hy, rX9_in (L y hy) (by decide) (by decide) (fun o2 => ⟨r1, fun z => by omega, fun _ => ⟨hz, rX9_in (L z hz) (by decide) (by decide) (fun o3 => ⟨r1, fun z => by omega, fun _ => h1 ⟨o1, o2, o3⟩⟩) (fun n => ⟨r0, fun _ => h0 (fun q => n q.2.2), fun z => absurd rfl z⟩)⟩⟩) (fun n => ⟨r0, fun _ => h0 (fun q => n q.2.1), fun z => absurd rfl z⟩)⟩⟩) (fun n => ⟨r0, fun _ => h0 (fun q => n q.1), fun z => absurd rfl z⟩)⟩)
theorem rX9_inverse {v : Int} (h0 : h 75 0 = p) (hp : okp p) (hv : 1 ≤ v ∧ v < p) (hQ : Q (iv p v) G0 h) : R l MX9_inverse d 0 0 [vR 75, vI v] G0 h Q := by
  have hb := okp_b hp
  have io := iv_ok hp hv.1 hv.2
  refine eX9_inverse 75 v (vX9_inverse_0 75 v ?_)
  refine lp_up (σ := Unit) (fun r _ => S l MX9_inverse (d, 0, 0, 0, 0) 2 [some (vR 75), some (vI v), some (vI r)] [] G0 h Q) (fun r _ => 1 ≤ r) (iv p v) ?_ ?_ 1 () io.1 (Int.le_refl 1)
  · intro r _ hr r1 ih
    have mb := ml_b (x := v) (y := r) (a := 7) (b := 7) (by omega) (by omega) (by omega) (by omega)
    have md := md_D (x := v * r) hp
    refine vX9_inverse_2 75 v r ?_
    simp only [h0]
    refine ⟨t75, ⟨⟨by omega, by omega⟩, by omega, by omega⟩, ⟨by omega, by omega⟩, fun c => ?_, fun c => ih () (by omega)⟩
    have := iv_un hp hv.1 hv.2 r1 (by omega) c
    omega
  · intro _ r1
    have mb := ml_b (x := v) (y := iv p v) (a := 7) (b := 7) (by omega) (by omega) (by omega) (by omega)
    refine vX9_inverse_2 75 v _ ?_
    simp only [h0, io.2.2]
    exact ⟨t75, ⟨⟨by omega, by omega⟩, by omega, by omega⟩, ⟨by decide, by decide⟩, fun _ => hQ, fun c => absurd rfl c⟩
theorem rX9_isPlace {i j k : Int} (mr : MR h) (mb : MB h p P) (hW : WF p P) (hi : inR i) (hj : inR j) (hk : inR k) (h1 : plc P i j k → Q 1 G0 h) (h0 : ¬ plc P i j k → Q 0 G0 h) : R l MX9_isPlace (d + 1) 0 0 [vR 75, vI i, vI j, vI k] G0 h Q := by
  have L : ∀ v, inR v → inL v := fun v hv => ⟨by have := hv.1; omega, by have := hv.2; omega⟩
  have r1 : inR 1 := ⟨by decide, by decide⟩
  have r0 : inR 0 := ⟨by decide, by decide⟩
  have s0 := hW.1 0 (by decide) (by decide)
  have s1 := hW.1 1 (by decide) (by decide)
  have s2 := hW.1 2 (by decide) (by decide)
  refine eX9_isPlace 75 i j k (vX9_isPlace_0 75 i j k ?_)
  simp only [mr.sz, mb.1 0 (by decide) (by decide)]
  refine ⟨hi, t75, i76 (by decide) (by decide), ⟨by omega, by omega⟩, rX9_in (L i hi) (by decide) ⟨by omega, by omega⟩ (fun o1 => ⟨r1, fun z => by omega, fun _ => ?_⟩) (fun n => ⟨r0, fun _ => h0 (fun q => n (by have := q.1; omega)), fun z => absurd rfl z⟩)⟩
  simp only [mr.sz, mb.1 1 (by decide) (by decide)]
  refine ⟨hj, t75, i76 (by decide) (by decide), ⟨by omega, by omega⟩, rX9_in (L j hj) (by decide) ⟨by omega, by omega⟩ (fun o2 => ⟨r1, fun z => by omega, fun _ => ?_⟩) (fun n => ⟨r0, fun _ => h0 (fun q => n (by have := q.2.1; omega)), fun z => absurd rfl z⟩)⟩
  simp only [mr.sz, mb.1 2 (by decide) (by decide)]
  exact ⟨hk, t75, i76 (by decide) (by decide), ⟨by omega, by omega⟩, rX9_in (L k hk) (by decide) ⟨by omega, by omega⟩ (fun o3 => ⟨r1, fun z => by omega, fun _ => h1 ⟨by omega, by omega, by omega⟩⟩) (fun n => ⟨r0, fun _ => h0 (fun q => n (by have := q.2.2; omega)), fun z => absurd rfl z⟩)⟩
theorem rX9_rowsOf {w : Int} (mr : MR h) (h0 : h 75 0 = p) (hs : h 76 w = sz P w) (hw : okw w) (hz : okz (sz P w)) (hQ : Q (PW p (sz P w)) G0 h) : R l MX9_rowsOf d 0 0 [vR 75, vI w] G0 h Q := by
  unfold okz at hz
  refine eX9_rowsOf 75 w (vX9_rowsOf_0 75 w ?_)
  refine lp_up (σ := Int) (fun i n => S l MX9_rowsOf (d, 0, 0, 0, 0) 4 [some (vR 75), some (vI w), some (vI n), some (vI i)] [] G0 h Q) (fun i n => 0 ≤ i ∧ n = PW p i) (sz P w) ?_ ?_ 0 1 (by omega) ⟨by omega, by rw [PW_0]⟩
  · intro i n hi ⟨i0, en⟩ ih
    refine vX9_rowsOf_4 75 w n i ?_
    simp only [mr.sz, hs, h0]
    exact ⟨t75, i76 hw.1 hw.2, ⟨by omega, by omega⟩, ⟨by omega, by omega⟩, fun c => by omega, fun _ => ih _ ⟨by omega, by rw [en, PW_s i0]⟩⟩
  · intro n ⟨i0, en⟩
    refine vX9_rowsOf_4 75 w n _ ?_
    simp only [mr.sz, hs, h0]
    exact ⟨t75, i76 hw.1 hw.2, ⟨by omega, by omega⟩, ⟨by omega, by omega⟩, fun _ => by rw [en]; exact hQ, fun c => by omega⟩
theorem rX9_isRow {w x : Int} (mr : MR h) (h0 : h 75 0 = p) (hp : okp p) (hs : h 76 w = sz P w) (hw : okw w) (hz : okz (sz P w)) (hx : inR x) (h1 : okx p P w x → Q 1 G0 h) (hn : ¬ okx p P w x → Q 0 G0 h) : R l MX9_isRow (d + 1) 0 0 [vR 75, vI x, vI w] G0 h Q := by
  have pb := PWm hp hz.2
  refine eX9_isRow 75 x w (vX9_isRow_0 75 x w ⟨hx, t75, rX9_rowsOf mr h0 hs hw hz ⟨⟨by omega, by omega⟩, rX9_in ⟨by have := hx.1; omega, by have := hx.2; omega⟩ (by decide) ⟨by omega, by omega⟩ (fun o => ⟨.inr rfl, h1 ⟨by omega, by omega⟩⟩) (fun n => ⟨.inl rfl, hn (fun q => n (by have := q.1; have := q.2; omega))⟩)⟩⟩)
theorem rX9_putRow {t w x : Int} (mr : MR h) (h0 : h 75 0 = p) (hp : okp p) (hw : okw w) (t0 : 0 ≤ t) (t1 : t < 40) (hx : isR p x) (hQ : ∀ h', (∀ b, b ≠ 78 → h' b = h b) → (∀ i, 0 ≤ i → i < 9 → h' 78 (27 * t + 9 * w + i) = D p x i) → (∀ j, j < 27 * t + 9 * w ∨ 27 * t + 9 * w + 9 ≤ j → h' 78 j = h 78 j) → Q 0 G0 h') : R l MX9_putRow d 0 0 [vR 75, vI t, vI w, vI x] G0 h Q := by
  have hb := okp_b hp
  have xb := isR_b hp hx
  unfold okw at hw
  refine eX9_putRow 75 t w x (vX9_putRow_0 75 t w x ?_)
  rw [show x = x / PW p 0 by rw [PW_0, Int.ediv_one]]
  refine lp_up (σ := HP) (fun i hh => S l MX9_putRow (d, 0, 0, 0, 0) 6 [some (vR 75), some (vI t), some (vI w), none, some (vI (x / PW p i)), some (vI i)] [] G0 hh Q) (fun i hh => 0 ≤ i ∧ (∀ b, b ≠ 78 → hh b = h b) ∧ (∀ j, 0 ≤ j → j < i → hh 78 (27 * t + 9 * w + j) = D p x j) ∧ (∀ j, j < 27 * t + 9 * w ∨ 27 * t + 9 * w + 9 ≤ j → hh 78 j = h 78 j)) 9 ?_ ?_ 0 h (by decide) ⟨by decide, fun _ _ => rfl, fun j j0 j1 => by omega, fun _ _ => rfl⟩
  · intro i hh hi ⟨i0, f, dn, ot⟩ ih
    have f75 := f 75 (by decide)
    have db := dvb (i := i) hb.1 xb
    refine vX9_putRow_6 75 t w _ i ?_
    simp only [f75, h0, mr.sc]
    refine ⟨⟨by omega, by omega⟩, fun c => by omega, fun _ => ⟨t75, ⟨db, by omega, by omega⟩, i78 (by omega) (by omega), fun h6 e6 => ?_⟩⟩
    have g75 : h6 75 = h 75 := by rw [e6, hset_oa (by decide), f75]
    simp only [g75, h0]
    refine ⟨⟨db, by omega, by omega⟩, ?_⟩
    rw [dvp hb.1 xb.1 i0]
    refine ih h6 ⟨by omega, fun b hb => by rw [e6, hset_oa hb]; exact f b hb, fun j j0 j1 => ?_, fun j hj => ?_⟩
    · by_cases e : j = i
      · rw [e, e6, hset_s]; rfl
      · rw [e6, hset_oj (by omega)]; exact dn j j0 (by omega)
    · rw [e6, hset_oj (by omega)]; exact ot j hj
  · intro hh ⟨i0, f, dn, ot⟩
    exact vX9_putRow_6 75 t w _ 9 ⟨⟨by decide, by decide⟩, fun _ => hQ hh f dn ot, fun c => by omega⟩
theorem rX9_getRow {t w : Int} (mr : MR h) (h0 : h 75 0 = p) (hp : okp p) (ms : MS h p P) (hW : WF p P) (hs : h 76 w = sz P w) (hw : okw w) (ht : okt P t) (hQ : Q (rw' P (40 * w + t)) G0 h) : R l MX9_getRow d 0 0 [vR 75, vI t, vI w] G0 h Q := by
  have hb := okp_b hp
  have hz := hW.1 w hw.1 hw.2
  have hr := hW.2.2.2 w t hw.1 hw.2 ht.1 ht.2
  have h40 := hW.2.2.1
  have hw' := hw
  have ht' := ht
  unfold okw at hw'
  unfold okt at ht'
  refine eX9_getRow 75 t w (vX9_getRow_0 75 t w ?_)
  simp only [mr.sz, hs]
  refine ⟨t75, i76 hw.1 hw.2, ?_⟩
  have key : ∀ n : Nat, (n : Int) ≤ sz P w → S l MX9_getRow (d, 0, 0, 0, 0) 12 [some (vR 75), some (vI t), some (vI w), some (vI (rw' P (40 * w + t) / PW p n)), some (vI ((n : Int) - 1))] [] G0 h Q := fun n => by
    induction n with
    | zero =>
      intro _
      refine vX9_getRow_12 75 t w _ _ ⟨⟨by omega, by omega⟩, fun _ => ?_, fun c => by omega⟩
      rw [show (((0 : Nat) : Int)) = 0 from rfl, PW_0, Int.ediv_one]
      exact hQ
    | succ n ih =>
      intro hn
      refine vX9_getRow_12 75 t w _ _ ?_
      simp only [mr.sc, h0]
      rw [show (((n + 1 : Nat) : Int) - 1) = (n : Int) by omega, ms.2 _ (by omega) (by omega), sd_at hw.1 hw.2 (by omega) (by omega)]
      refine ⟨⟨by omega, by omega⟩, fun c => by omega, fun _ => ⟨t75, i78 (by omega) (by omega), ?_⟩⟩
      have e : rw' P (40 * w + t) / PW p ((n + 1 : Nat) : Int) * p + D p (rw' P (40 * w + t)) n = rw' P (40 * w + t) / PW p n := by
        rw [show ((n + 1 : Nat) : Int) = (n : Int) + 1 by omega, ← dvp hb.1 hr.1 (by omega)]
        unfold D
        have := Int.emod_add_mul_ediv (rw' P (40 * w + t) / PW p n) p
        rw [Int.mul_comm p] at this
        omega
      rw [e, show (n : Int) + (-1) = (n : Int) - 1 by omega]
      exact ih (by omega)
  have := key (sz P w).toNat (by omega)
  rw [show (((sz P w).toNat : Nat) : Int) = sz P w by omega, Int.ediv_eq_zero_of_lt hr.1 hr.2] at this
  exact this
theorem rX9_isTime {t : Int} (ms : MS h p P) (hW : WF p P) (ht : inR t) (h1 : okt P t → Q 1 G0 h) (hn : ¬ okt P t → Q 0 G0 h) : R l MX9_isTime (d + 1) 0 0 [vR 75, vI t] G0 h Q := by
  have h40 := hW.2.2.1
  refine eX9_isTime 75 t (vX9_isTime_0 75 t ?_)
  simp only [ms.1]
  exact ⟨ht, t75, ⟨by omega, by omega⟩, rX9_in ⟨by have := ht.1; omega, by have := ht.2; omega⟩ (by decide) ⟨by omega, by omega⟩ (fun o => ⟨.inr rfl, h1 ⟨by omega, by omega⟩⟩) (fun n => ⟨.inl rfl, hn (fun q => n (by have := q.1; have := q.2; omega))⟩)⟩
end Mod
