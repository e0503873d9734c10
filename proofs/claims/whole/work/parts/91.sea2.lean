/-- 9 and 81 numbers that say the same -/
def cor (A B : Int) (x y : Int → Int) : Prop := (∀ j, 0 ≤ j → j < 9 → x j = if j < A * B then y (9 * (j / B) + j % B) else 0) ∧ ∀ c, 0 ≤ c → c < 81 → ¬ (c / 9 < A ∧ c % 9 < B) → y c = 0
theorem cor_y {A B c : Int} {x y : Int → Int} (hA : 1 ≤ A) (hB : 1 ≤ B ∧ B ≤ 9) (hAB : A * B ≤ 9) (h : cor A B x y) (c0 : 0 ≤ c) (c1 : c / 9 < A ∧ c % 9 < B) : (0 ≤ c / 9 * B + c % 9 ∧ c / 9 * B + c % 9 < A * B) ∧ y c = x (c / 9 * B + c % 9) := by
  have l := ij_lt (show 0 ≤ c / 9 by omega) c1.1 (show 0 ≤ c % 9 by omega) c1.2
  have m := ij_dm (i := c / 9) (show 0 ≤ c % 9 by omega) c1.2
  refine ⟨l, ?_⟩
  rw [h.1 _ l.1 (by omega), if_pos l.2, m.1, m.2, show 9 * (c / 9) + c % 9 = c by omega]
theorem cor_x {A B j : Int} (hA : 1 ≤ A ∧ A ≤ 9) (hB : 1 ≤ B ∧ B ≤ 9) (j0 : 0 ≤ j) (j1 : j < A * B) : (0 ≤ 9 * (j / B) + j % B ∧ 9 * (j / B) + j % B < 81) ∧ (9 * (j / B) + j % B) / 9 = j / B ∧ (9 * (j / B) + j % B) % 9 = j % B ∧ j / B < A ∧ j % B < B := by
  have d := y_dm (show 0 < B by omega) j0 j1
  omega
theorem Sp_up {p A B : Int} {n : Nat} {v9 v81 : Int → Int → Int} {u9 u81 : Int → Int} (hA : 1 ≤ A) (hB : 1 ≤ B ∧ B ≤ 9) (hAB : A * B ≤ 9) (hu : cor A B u9 u81) (hv : ∀ s c : Int, 0 ≤ s → s < n → 0 ≤ c → c < 81 → v81 s c = if c / 9 < A ∧ c % 9 < B then v9 s (c / 9 * B + c % 9) else 0) (h : Sp p 9 n v9 u9) : Sp p 81 n v81 u81 := by
  obtain ⟨γ, hγ⟩ := h
  refine ⟨γ, fun c c0 c1 => ?_⟩
  have c1' : c < 81 := c1
  by_cases q : c / 9 < A ∧ c % 9 < B
  · have cy := cor_y hA hB hAB hu c0 q
    have := hγ (c / 9 * B + c % 9) cy.1.1 (by have := cy.1.2; omega)
    rw [cy.2, sm_ext n (g := fun s => γ s * v9 s (c / 9 * B + c % 9)) (fun s s0 s1 => by rw [hv s c s0 s1 c0 c1', if_pos q])]
    exact this
  · rw [hu.2 c c0 c1' q, sm_ext n (g := fun _ => 0) (fun s s0 s1 => by rw [hv s c s0 s1 c0 c1', if_neg q, Int.mul_zero]), sm_zero]
    exact Int.dvd_zero p
theorem Sp_dn {p A B : Int} {n : Nat} {v9 v81 : Int → Int → Int} {u9 u81 : Int → Int} (hA : 1 ≤ A ∧ A ≤ 9) (hB : 1 ≤ B ∧ B ≤ 9) (hu : cor A B u9 u81) (hv : ∀ s j : Int, 0 ≤ s → s < n → 0 ≤ j → j < 9 → v9 s j = if j < A * B then v81 s (9 * (j / B) + j % B) else 0) (h : Sp p 81 n v81 u81) : Sp p 9 n v9 u9 := by
  obtain ⟨γ, hγ⟩ := h
  refine ⟨γ, fun j j0 j1 => ?_⟩
  have j1' : j < 9 := j1
  rw [hu.1 j j0 j1']
  by_cases q : j < A * B
  · have cx := cor_x hA hB j0 q
    have := hγ (9 * (j / B) + j % B) cx.1.1 cx.1.2
    rw [if_pos q, sm_ext n (g := fun s => γ s * v81 s (9 * (j / B) + j % B)) (fun s s0 s1 => by rw [hv s j s0 s1 j0 j1', if_pos q])]
    exact this
  · rw [if_neg q, sm_ext n (g := fun _ => 0) (fun s s0 s1 => by rw [hv s j s0 s1 j0 j1', if_neg q, Int.mul_zero]), sm_zero]
    exact Int.dvd_zero p
theorem OkC_81 {p A B C K : Int} {n d : Nat} {T9 T81 S9 S81 : Int → Int → Int} {c : Int → Int} (hA : 1 ≤ A ∧ A ≤ 9) (hB : 1 ≤ B ∧ B ≤ 9) (hAB : A * B ≤ 9) (hT : ∀ t, 0 ≤ t → t < K → cor A B (T9 t) (T81 t)) (hS : ∀ k, 0 ≤ k → k < C → cor A B (S9 k) (S81 k)) : OkC p 9 T9 S9 C K n d c ↔ OkC p 81 T81 S81 C K n d c := by
  have ind : (∀ s : Int, 0 ≤ s → s < d → 0 ≤ c s ∧ c s < K) → (Ind p 9 d (fun s => T9 (c s)) ↔ Ind p 81 d (fun s => T81 (c s))) := fun hr => by
    constructor
    · intro h γ hγ
      refine h γ (fun j j0 j1 => ?_)
      have j1' : j < 9 := j1
      by_cases q : j < A * B
      · have cx := cor_x hA hB j0 q
        have := hγ (9 * (j / B) + j % B) cx.1.1 cx.1.2
        rw [sm_ext d (g := fun s => γ s * T81 (c s) (9 * (j / B) + j % B)) (fun s s0 s1 => by show γ s * T9 (c s) j = _; rw [(hT (c s) (hr s s0 s1).1 (hr s s0 s1).2).1 j j0 j1', if_pos q])]
        exact this
      · rw [sm_ext d (g := fun _ => 0) (fun s s0 s1 => by show γ s * T9 (c s) j = _; rw [(hT (c s) (hr s s0 s1).1 (hr s s0 s1).2).1 j j0 j1', if_neg q, Int.mul_zero]), sm_zero]
        exact Int.dvd_zero p
    · intro h γ hγ
      refine h γ (fun i i0 i1 => ?_)
      have i1' : i < 81 := i1
      by_cases q : i / 9 < A ∧ i % 9 < B
      · have l := ij_lt (show 0 ≤ i / 9 by omega) q.1 (show 0 ≤ i % 9 by omega) q.2
        have := hγ (i / 9 * B + i % 9) l.1 (by have := l.2; omega)
        rw [sm_ext d (g := fun s => γ s * T9 (c s) (i / 9 * B + i % 9)) (fun s s0 s1 => by show γ s * T81 (c s) i = _; rw [(cor_y hA.1 hB hAB (hT (c s) (hr s s0 s1).1 (hr s s0 s1).2) i0 q).2])]
        exact this
      · rw [sm_ext d (g := fun _ => 0) (fun s s0 s1 => by show γ s * T81 (c s) i = _; rw [(hT (c s) (hr s s0 s1).1 (hr s s0 s1).2).2 i i0 i1' q, Int.mul_zero]), sm_zero]
        exact Int.dvd_zero p
  constructor
  · intro ⟨h1, h2, h3, w, w1, w2⟩
    refine ⟨h1, h2, (ind h2).1 h3, fun s i => if i / 9 < A ∧ i % 9 < B then w s (i / 9 * B + i % 9) else 0, fun s s0 s1 => Sp_up hA.1 hB hAB (hT _ (h2 s s0 s1).1 (h2 s s0 s1).2) (fun _ _ _ _ _ _ => rfl) (w1 s s0 s1), fun k k0 k1 => Sp_up hA.1 hB hAB (hS k k0 k1) (fun _ _ _ _ _ _ => rfl) (w2 k k0 k1)⟩
  · intro ⟨h1, h2, h3, w, w1, w2⟩
    refine ⟨h1, h2, (ind h2).2 h3, fun s j => if j < A * B then w s (9 * (j / B) + j % B) else 0, fun s s0 s1 => Sp_dn hA hB (hT _ (h2 s s0 s1).1 (h2 s s0 s1).2) (fun _ _ _ _ _ _ => rfl) (w1 s s0 s1), fun k k0 k1 => Sp_dn hA hB (hS k k0 k1) (fun _ _ _ _ _ _ => rfl) (w2 k k0 k1)⟩
def T81 (p : Int) (P : PS) : Int → Int → Int := fun t c => D p ((prs p P).2.1 t) (c / 9) * D p ((prs p P).2.2 t) (c % 9) % p
def S81 (p : Int) (P : PS) : Int → Int → Int := fun k c => D p (fb P c) k
theorem prs_v {p : Int} {P : PS} : PV p (PW p (sz P 0)) (PW p (sz P 1)).toNat (prs p P) → ∀ t, 0 ≤ t → t < (prs p P).1 → (0 ≤ (prs p P).2.1 t ∧ (prs p P).2.1 t < PW p (sz P 0)) ∧ (0 ≤ (prs p P).2.2 t ∧ (prs p P).2.2 t < (PW p (sz P 1)).toNat) := fun h t t0 t1 => ⟨⟨(h.2 t t0 t1).1.1, (h.2 t t0 t1).1.2.1⟩, ⟨(h.2 t t0 t1).2.1, (h.2 t t0 t1).2.2.1⟩⟩
theorem prs_b {p : Int} {P : PS} (hp : okp p) : ∀ t, 0 ≤ t → t < (prs p P).1 → (0 ≤ (prs p P).2.1 t ∧ (prs p P).2.1 t < PW p (sz P 0)) ∧ (0 ≤ (prs p P).2.2 t ∧ (prs p P).2.2 t < PW p (sz P 1)) := fun t t0 t1 => by
  have a := PW1 hp (sz P 0)
  have b := PW1 hp (sz P 1)
  have := prs_v (pfU_v (p := p) (A := PW p (sz P 0)) (B := (PW p (sz P 1)).toNat) (PW p (sz P 0)).toNat (by omega)) t t0 t1
  omega
theorem cor_T {p t : Int} {P : PS} (hp : okp p) (hW : WF p P) (hAB : sz P 0 * sz P 1 ≤ 9) (t0 : 0 ≤ t) (t1 : t < (prs p P).1) : cor (sz P 0) (sz P 1) (DV p (tbl p P) t) (T81 p P t) := by
  have s0 := hW.1 0 (by decide) (by decide)
  have s1 := hW.1 1 (by decide) (by decide)
  have b := prs_b (P := P) hp t t0 t1
  refine ⟨fun j j0 j1 => ?_, fun c c0 c1 hc => ?_⟩
  · show D p (pr p ((prs p P).2.1 t) ((prs p P).2.2 t) (sz P 1)) j = _
    rw [D_pr hp j0 j1]
    by_cases q : j < sz P 0 * sz P 1
    · have cx := cor_x s0 s1 j0 q
      unfold T81
      rw [if_pos q, cx.2.1, cx.2.2.1]
    · have : ¬ j / sz P 1 < sz P 0 := fun z => q ((dv_lt (show 0 < sz P 1 by omega) j0).2 z)
      rw [if_neg q, D_sz hp b.1 (by omega), Int.zero_mul, Int.zero_emod]
  · unfold T81
    by_cases q : c / 9 < sz P 0
    · rw [D_sz hp b.2 (show sz P 1 ≤ c % 9 by omega), Int.mul_zero, Int.zero_emod]
    · rw [D_sz hp b.1 (show sz P 0 ≤ c / 9 by omega), Int.zero_mul, Int.zero_emod]
theorem cor_S {p k : Int} {P : PS} (hp : okp p) (hW : WF p P) (hAB : sz P 0 * sz P 1 ≤ 9) : cor (sz P 0) (sz P 1) (DV p (slc p P) k) (S81 p P k) := by
  have s0 := hW.1 0 (by decide) (by decide)
  have s1 := hW.1 1 (by decide) (by decide)
  have m := sz_m1 s0.1 s1.1
  refine ⟨fun j j0 j1 => ?_, fun c c0 c1 hc => ?_⟩
  · show D p (slc p P k) j = _
    rw [D_slc hp (by omega) hAB j0]
    rfl
  · unfold S81
    have := (hW.2.1 (c / 9) (c % 9) (by omega) (by omega) (by omega) (by omega)).2.2 (by omega)
    rw [show 9 * (c / 9) + c % 9 = c by omega] at this
    rw [this, D_z]
theorem CanC_81 {p : Int} {P : PS} {n : Nat} {c : Int → Int} (hp : okp p) (hW : WF p P) (hAB : sz P 0 * sz P 1 ≤ 9) : CanC p P n c ↔ OkC p 81 (T81 p P) (S81 p P) (sz P 2) (prs p P).1 n n c :=
  OkC_81 (hW.1 0 (by decide) (by decide)) (hW.1 1 (by decide) (by decide)) hAB (fun t t0 t1 => cor_T hp hW hAB t0 t1) (fun k _ _ => cor_S hp hW hAB)
section Sea2
variable {l : Launch} {d : Nat} {h : HP} {p : Int} {P : PS} {B : BS} {Q : Int → GS → HP → Prop}
theorem rX9_ones {w : Int} (mr : MR h) (h0 : h 75 0 = p) (hp : okp p) (hs : h 76 w = sz P w) (hw : okw w) (hz : okz (sz P w)) (hQ : Q (shs p (sz P w)) G0 h) : R l MX9_ones (d + 1) 0 0 [vR 75, vI w] G0 h Q := by
  have pb := okp_b hp
  have pm := PWm hp hz.2
  refine eX9_ones 75 w (vX9_ones_0 75 w ⟨t75, rX9_rowsOf mr h0 hs hw hz ?_⟩)
  rw [h0]
  exact ⟨⟨by omega, by omega⟩, t75, ⟨by omega, by omega⟩, ⟨⟨by omega, by omega⟩, by omega, by omega⟩, hQ⟩
theorem rX9_isOne {x : Int} (h0 : h 75 0 = p) (hp : okp p) (hx : isR p x) (h1 : FV p x = 1 → Q 1 G0 h) (hn : FV p x ≠ 1 → Q 0 G0 h) : R l MX9_isOne d 0 0 [vR 75, vI x] G0 h Q := by
  have pb := okp_b hp
  have xb := isR_b hp hx
  refine eX9_isOne 75 x (vX9_isOne_0 75 x ?_)
  rw [show x = x / PW p 0 by rw [PW_0, Int.ediv_one]]
  have z0 : ∀ i, 0 ≤ i → i ≤ 9 → (∀ j, 0 ≤ j → j < i → D p x j = 0) → x / PW p i = 0 → x = 0 := fun i i0 i9 hz e => D_inj pb.1 9 hx (R0 hp) (fun j j0 j1 => by
    rw [D_z]
    by_cases c : j < i
    · exact hz j j0 c
    · exact D_dz pb.1 xb.1 e (by omega))
  refine lp_up (σ := Unit) (fun i _ => S l MX9_isOne (d, 0, 0, 0, 0) 2 [some (vR 75), none, some (vI (x / PW p i))] [] G0 h Q) (fun i _ => 0 ≤ i ∧ ∀ j, 0 ≤ j → j < i → D p x j = 0) 9 ?_ ?_ 0 () (by decide) ⟨by decide, fun j j0 j1 => by omega⟩
  · intro i _ hi ⟨i0, hz⟩ ih
    have db := dvb (i := i) pb.1 xb
    have md := md_D (x := x / PW p i) hp
    refine vX9_isOne_2 75 _ ?_
    simp only [h0]
    refine ⟨⟨by omega, by omega⟩, fun c => ?_, fun c => ⟨t75, ⟨db, by omega, by omega⟩, ⟨by omega, by omega⟩, fun nz => ?_, fun z => ?_⟩⟩
    · have e : x / PW p i = 0 := by omega
      have x0 := z0 i i0 (by omega) hz e
      rw [e]
      refine ⟨t75, ⟨⟨by decide, by decide⟩, by omega, by omega⟩, by rw [Int.zero_emod]; exact ⟨by decide, by decide⟩, fun _ => hn (by rw [x0, FV_0]; decide), fun z => by rw [Int.zero_emod] at z; omega⟩
    · have eI : FI p x = i := FI_un hp hx i0 hi hz nz
      have eV : FV p x = x / PW p i % p := by unfold FV; rw [eI]; rfl
      exact ⟨fun ne => hn (by rw [eV]; exact ne), fun e => h1 (by rw [eV]; exact e)⟩
    · rw [dvp pb.1 xb.1 i0]
      refine ih () ⟨by omega, fun j j0 j1 => ?_⟩
      by_cases e : j = i
      · rw [e]; exact z
      · exact hz j j0 (by omega)
  · intro _ ⟨i0, hz⟩
    have e : x / PW p 9 = 0 := Int.ediv_eq_zero_of_lt hx.1 hx.2
    have x0 := z0 9 (by decide) (by decide) hz e
    rw [e]
    refine vX9_isOne_2 75 0 ?_
    simp only [h0]
    exact ⟨⟨by decide, by decide⟩, fun _ => ⟨t75, ⟨⟨by decide, by decide⟩, by omega, by omega⟩, by rw [Int.zero_emod]; exact ⟨by decide, by decide⟩, fun _ => hn (by rw [x0, FV_0]; decide), fun z => by rw [Int.zero_emod] at z; omega⟩, fun c => by omega⟩
theorem rX9_digit {x i : Int} (h0 : h 75 0 = p) (hp : okp p) (hx : isR p x) (i0 : 0 ≤ i) (i9 : i < 9) (hQ : Q (D p x i) G0 h) : R l MX9_digit d 0 0 [vR 75, vI x, vI i] G0 h Q := by
  have pb := okp_b hp
  have xb := isR_b hp hx
  refine eX9_digit 75 x i (vX9_digit_0 75 x i ?_)
  rw [show x = x / PW p 0 by rw [PW_0, Int.ediv_one]]
  refine lp_up (σ := Unit) (fun k _ => S l MX9_digit (d, 0, 0, 0, 0) 5 [some (vR 75), none, some (vI i), some (vI (x / PW p k)), some (vI k)] [] G0 h Q) (fun k _ => 0 ≤ k) i ?_ ?_ 0 () i0 (by decide)
  · intro k _ hk k0 ih
    have db := dvb (i := k) pb.1 xb
    refine vX9_digit_5 75 i _ k ?_
    simp only [h0]
    refine ⟨⟨by omega, by omega⟩, ⟨by omega, by omega⟩, fun c => by omega, fun _ => ⟨t75, ⟨db, by omega, by omega⟩, ?_⟩⟩
    rw [dvp pb.1 xb.1 k0]
    exact ih () (by show 0 ≤ k + 1; omega)
  · intro _ k0
    have db := dvb (i := i) pb.1 xb
    refine vX9_digit_5 75 i _ i ?_
    simp only [h0]
    exact ⟨⟨by omega, by omega⟩, ⟨by omega, by omega⟩, fun _ => ⟨t75, ⟨db, by omega, by omega⟩, hQ⟩, fun c => by omega⟩
/-- the model's pairs -/
def PM (h : HP) (s : PT) : Prop := h 75 19 = s.1 ∧ ∀ t : Int, 0 ≤ t → t < s.1 → h 89 t = s.2.1 t ∧ h 90 t = s.2.2 t
def FrN (h h' : HP) : Prop := (∀ b, b ≠ 75 → b ≠ 89 → b ≠ 90 → h' b = h b) ∧ ∀ j, j ≠ 19 → h' 75 j = h 75 j
theorem FrN.mr {h' : HP} (f : FrN h h') (m : MR h) : MR h' := m.fr (fun j _ _ _ _ j19 _ => f.2 j j19)
theorem rX9_findPairs (mr : MR h) (h0 : h 75 0 = p) (hp : okp p) (mb : MB h p P) (hW : WF p P) (hs : sh2 p P ≤ 60) (hQ : ∀ h', FrN h h' → PM h' (prs p P) → Q 0 G0 h') : R l MX9_findPairs (d + 1) 0 0 [vR 75] G0 h Q := by
  have pb := okp_b hp
  have s0 := hW.1 0 (by decide) (by decide)
  have s1 := hW.1 1 (by decide) (by decide)
  have pA := PWm hp s0.2
  have pB := PWm hp s1.2
  have tab := sh_tab p (mem_p hp) (sz P 0) (mem_9 s0.1 s0.2) (sz P 1) (mem_9 s1.1 s1.2) hs
  refine eX9_findPairs 75 (vX9_findPairs_0 75 ⟨t75, fun h2 e2 => ?_⟩)
  have f2 : FrN h h2 := ⟨fun b b1 _ _ => by rw [e2, hset_oa b1], fun j hj => by rw [e2, hset_oj hj]⟩
  have gz : ∀ hh, FrN h hh → hh 75 0 = p ∧ (∀ w, 0 ≤ w → w < 3 → hh 76 w = sz P w) := fun hh f => ⟨by rw [f.2 0 (by decide)]; exact h0, fun w w0 w3 => by rw [f.1 76 (by decide) (by decide) (by decide)]; exact mb.1 w w0 w3⟩
  refine lp_up (σ := HP) (fun u hh => S l MX9_findPairs (d + 1, 0, 0, 0, 0) 7 [some (vR 75), some (vI u), none] [] G0 hh Q) (fun u hh => 0 ≤ u ∧ FrN h hh ∧ PM hh (pfU p (PW p (sz P 1)).toNat u.toNat)) (PW p (sz P 0)) ?_ ?_ 0 h2 (by omega) ⟨by decide, f2, by rw [e2, hset_s]; rfl, fun t t0 t1 => by have t1' : t < 0 := t1; omega⟩
  · intro u hh hu ⟨u0, f, pm⟩ ih
    obtain ⟨g0, gs⟩ := gz hh f
    have uR := lt_R hp u0 hu s0.2
    have uN : ((u.toNat : Nat) : Int) = u := Int.toNat_of_nonneg u0
    have st : pfU p (PW p (sz P 1)).toNat (u + 1).toNat = if FV p u = 1 then pfV p u (pfU p (PW p (sz P 1)).toNat u.toNat) (PW p (sz P 1)).toNat else pfU p (PW p (sz P 1)).toNat u.toNat := by
      rw [nat_s u0]
      show (if FV p (u.toNat : Int) = 1 then pfV p (u.toNat : Int) (pfU p (PW p (sz P 1)).toNat u.toNat) (PW p (sz P 1)).toNat else pfU p (PW p (sz P 1)).toNat u.toNat) = _
      rw [uN]
    refine vX9_findPairs_7 75 u ⟨t75, rX9_rowsOf (f.mr mr) g0 (gs 0 (by decide) (by decide)) ⟨by decide, by decide⟩ s0 ⟨⟨by omega, by omega⟩, ⟨by omega, by omega⟩, fun c => by omega, fun _ => ?_⟩⟩
    by_cases eu : FV p u = 1
    · rw [if_pos eu] at st
      refine lp_up (σ := HP) (fun v hk => S l MX9_findPairs (d + 1, 0, 0, 0, 0) 18 [some (vR 75), some (vI u), some (vI v)] [] G0 hk Q) (fun v hk => 0 ≤ v ∧ FrN h hk ∧ PM hk (pfV p u (pfU p (PW p (sz P 1)).toNat u.toNat) v.toNat)) (PW p (sz P 1)) ?_ ?_ 0 hh (by omega) ⟨by decide, f, pm⟩
      · intro v hk hv ⟨v0, fk, pk⟩ ih2
        obtain ⟨k0, ks⟩ := gz hk fk
        have vR' := lt_R hp v0 hv s1.2
        have vN : ((v.toNat : Nat) : Int) = v := Int.toNat_of_nonneg v0
        have sv : pfV p u (pfU p (PW p (sz P 1)).toNat u.toNat) (v + 1).toNat = pfS p u (pfV p u (pfU p (PW p (sz P 1)).toNat u.toNat) v.toNat) v := by
          rw [nat_s v0]
          show pfS p u (pfV p u (pfU p (PW p (sz P 1)).toNat u.toNat) v.toNat) (v.toNat : Int) = _
          rw [vN]
        unfold pfS at sv
        refine vX9_findPairs_18 75 u v ⟨t75, rX9_rowsOf (fk.mr mr) k0 (ks 1 (by decide) (by decide)) ⟨by decide, by decide⟩ s1 ⟨⟨by omega, by omega⟩, ⟨by omega, by omega⟩, fun c => by omega, fun _ => ⟨t75, rX9_isOne k0 hp uR (fun _ => ⟨⟨by decide, by decide⟩, fun z => by omega, fun _ => ⟨t75, rX9_isOne k0 hp vR' (fun ev => ⟨⟨by decide, by decide⟩, fun z => by omega, fun _ => ?_⟩) (fun nv => ⟨⟨by decide, by decide⟩, fun _ => ih2 hk ⟨by omega, fk, by rw [sv, if_neg nv]; exact pk⟩, fun z => absurd rfl z⟩)⟩⟩) (fun nu => absurd eu nu)⟩⟩⟩
        rw [if_pos ev] at sv
        have n60 : (pfV p u (pfU p (PW p (sz P 1)).toNat u.toNat) v.toNat).1 < 60 ∧ 0 ≤ (pfV p u (pfU p (PW p (sz P 1)).toNat u.toNat) v.toNat).1 := by
          rw [pfV_c, pfU_c]
          have q1 := cF_lt (p := p) (m := u.toNat) (n := (PW p (sz P 0)).toNat) (by omega) (by rw [uN]; exact eu)
          have q2 := cF_lt (p := p) (m := v.toNat) (n := (PW p (sz P 1)).toNat) (by omega) (by rw [vN]; exact ev)
          have q4 := cF_nn (p := p) v.toNat
          have q5 := Int.mul_nonneg (cF_nn (p := p) u.toNat) (cF_nn (p := p) (PW p (sz P 1)).toNat)
          rw [tab.2.1] at q1
          rw [tab.2.2] at q2 q5 ⊢
          have q3 : (cF p u.toNat + 1) * shs p (sz P 1) ≤ shs p (sz P 0) * shs p (sz P 1) := Int.mul_le_mul_of_nonneg_right q1 (by omega)
          rw [Int.add_mul, Int.one_mul] at q3
          have hs' : shs p (sz P 0) * shs p (sz P 1) ≤ 60 := hs
          omega
        have mk := fk.mr mr
        simp only [mk.pu, pk.1]
        refine ⟨t75, i89 n60.2 n60.1, fun h22 e22 => ?_⟩
        have a22 : h22 75 = hk 75 := by rw [e22, hset_oa (by decide)]
        simp only [a22, mk.pv, pk.1]
        refine ⟨i90 n60.2 n60.1, fun h24 e24 h25 e25 => ih2 h25 ⟨by omega, ⟨fun b b1 b2 b3 => by rw [e25, hset_oa b1, e24, hset_oa b3, e22, hset_oa b2]; exact fk.1 b b1 b2 b3, fun j hj => by rw [e25, hset_oj hj, e24, hset_oa (by decide), a22]; exact fk.2 j hj⟩, ?_⟩⟩
        rw [sv]
        have e19 : h24 75 19 = (pfV p u (pfU p (PW p (sz P 1)).toNat u.toNat) v.toNat).1 := by rw [e24, hset_oa (by decide), a22]; exact pk.1
        rw [e19] at e25
        refine ⟨by rw [e25, hset_s], fun t t0 t1 => ?_⟩
        have t1' : t < (pfV p u (pfU p (PW p (sz P 1)).toNat u.toNat) v.toNat).1 + 1 := t1
        show h25 89 t = up1 _ _ u t ∧ h25 90 t = up1 _ _ v t
        rw [e25, hset_oa (by decide), hset_oa (by decide), e24, hset_oa (by decide), e22]
        by_cases et : t = (pfV p u (pfU p (PW p (sz P 1)).toNat u.toNat) v.toNat).1
        · rw [et, hset_s, hset_s, up1_s, up1_s]; exact ⟨rfl, rfl⟩
        · rw [hset_oj et, hset_oj et, up1_o et, up1_o et, hset_oa (by decide)]
          exact pk.2 t t0 (by omega)
      · intro hk ⟨v0, fk, pk⟩
        obtain ⟨k0, ks⟩ := gz hk fk
        exact vX9_findPairs_18 75 u _ ⟨t75, rX9_rowsOf (fk.mr mr) k0 (ks 1 (by decide) (by decide)) ⟨by decide, by decide⟩ s1 ⟨⟨by omega, by omega⟩, ⟨by omega, by omega⟩, fun _ => ih hk ⟨by omega, fk, by rw [st]; exact pk⟩, fun c => by omega⟩⟩
    · rw [if_neg eu] at st
      exact vX9_findPairs_18 75 u 0 ⟨t75, rX9_rowsOf (f.mr mr) g0 (gs 1 (by decide) (by decide)) ⟨by decide, by decide⟩ s1 ⟨⟨by decide, by decide⟩, ⟨by omega, by omega⟩, fun c => by omega, fun _ => ⟨t75, rX9_isOne g0 hp uR (fun e => absurd e eu) (fun _ => ⟨⟨by decide, by decide⟩, fun _ => ih hh ⟨by omega, f, by rw [st]; exact pm⟩, fun z => absurd rfl z⟩)⟩⟩⟩
  · intro hh ⟨u0, f, pm⟩
    obtain ⟨g0, gs⟩ := gz hh f
    exact vX9_findPairs_7 75 _ ⟨t75, rX9_rowsOf (f.mr mr) g0 (gs 0 (by decide) (by decide)) ⟨by decide, by decide⟩ s0 ⟨⟨by omega, by omega⟩, ⟨by omega, by omega⟩, fun _ => hQ hh f pm, fun c => by omega⟩⟩
end Sea2
