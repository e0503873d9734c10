theorem fac_tab : ∀ p ∈ ([2, 3, 5, 7] : List Int), ∀ a ∈ ([0, 1, 2, 3, 4, 5, 6] : List Int), ∀ b ∈ ([0, 1, 2, 3, 4, 5, 6] : List Int), ∀ x ∈ ([0, 1, 2, 3, 4, 5, 6] : List Int), ∀ y ∈ ([0, 1, 2, 3, 4, 5, 6] : List Int), 1 ≤ a → a < p → 1 ≤ b → b < p → x < p → y < p → (iv p a * x % p = iv p b * y % p ↔ x * (b * iv p a % p) % p = y) := by decide +kernel
theorem fac_pos : ∀ p ∈ ([2, 3, 5, 7] : List Int), ∀ a ∈ ([0, 1, 2, 3, 4, 5, 6] : List Int), ∀ b ∈ ([0, 1, 2, 3, 4, 5, 6] : List Int), 1 ≤ a → a < p → 1 ≤ b → b < p → 0 < b * iv p a % p := by decide +kernel
theorem mem_7 {p a : Int} (hp : okp p) (h : isD p a) : a ∈ ([0, 1, 2, 3, 4, 5, 6] : List Int) := by
  have := okp_b hp
  unfold isD at h
  simp
  omega
theorem D_shp {p x i : Int} (hp : okp p) (i0 : 0 ≤ i) (i9 : i < 9) : D p (shp p x) i = iv p (FV p x) * D p x i % p := by
  unfold shp
  rw [D_pl hp i0 i9, D_z, Int.zero_add]
theorem FI_un {p y k : Int} (hp : okp p) (hy : isR p y) (k0 : 0 ≤ k) (k9 : k < 9) (hz : ∀ j, 0 ≤ j → j < k → D p y j = 0) (hk : D p y k ≠ 0) : FI p y = k := by
  have y0 : y ≠ 0 := fun e => hk (by rw [e]; exact D_z)
  have h1 := FI_ok hp hy y0
  by_cases c : FI p y < k
  · exact absurd (hz _ h1.1 c) h1.2.2.1
  · by_cases c2 : k < FI p y
    · exact absurd (h1.2.2.2 k k0 c2) hk
    · omega
theorem alk_tab {p x y : Int} (hp : okp p) (hx : isR p x) (hy : isR p y) (x0 : x ≠ 0) : (shp p x ≠ 0 ∧ shp p x = shp p y) ↔ (0 < D p y (FI p x) * iv p (D p x (FI p x)) % p ∧ ∀ i, 0 ≤ i → i < 9 → D p x i * (D p y (FI p x) * iv p (D p x (FI p x)) % p) % p = D p y i) := by
  have fx := FI_ok hp hx x0
  have vx := FV_ok hp hx x0
  have sx := FI_shp hp hx x0
  constructor
  · intro ⟨h1, h2⟩
    have y0 : y ≠ 0 := shp_nz hp (by rw [← h2]; exact h1)
    have vy := FV_ok hp hy y0
    have e : FI p x = FI p y := by rw [← sx.1, h2, (FI_shp hp hy y0).1]
    have ey : D p y (FI p x) = FV p y := by rw [e]; rfl
    rw [ey, show D p x (FI p x) = FV p x from rfl]
    refine ⟨fac_pos p (mem_p hp) _ (mem_7 hp ⟨by omega, vx.2⟩) _ (mem_7 hp ⟨by omega, vy.2⟩) vx.1 vx.2 vy.1 vy.2, fun i i0 i9 => ?_⟩
    refine (fac_tab p (mem_p hp) _ (mem_7 hp ⟨by omega, vx.2⟩) _ (mem_7 hp ⟨by omega, vy.2⟩) _ (mem_7 hp (D_D hp)) _ (mem_7 hp (D_D hp)) vx.1 vx.2 vy.1 vy.2 (D_D hp).2 (D_D hp).2).1 ?_
    rw [← D_shp hp i0 i9, ← D_shp hp i0 i9, h2]
  · intro ⟨h1, h2⟩
    have ne : D p y (FI p x) ≠ 0 := fun z => by rw [z, Int.zero_mul, Int.zero_emod] at h1; omega
    have e : FI p y = FI p x := FI_un hp hy fx.1 fx.2.1 (fun j j0 j1 => by rw [← h2 j j0 (by omega), fx.2.2.2 j j0 j1, Int.zero_mul, Int.zero_emod]) ne
    have ey : D p y (FI p x) = FV p y := by rw [← e]; rfl
    have y0 : y ≠ 0 := fun z => ne (by rw [z]; exact D_z)
    have vy := FV_ok hp hy y0
    refine ⟨sx.2.2, D_inj (okp_b hp).1 9 (shp_R hp) (shp_R hp) (fun i i0 i9 => ?_)⟩
    rw [D_shp hp i0 i9, D_shp hp i0 i9]
    refine (fac_tab p (mem_p hp) _ (mem_7 hp ⟨by omega, vx.2⟩) _ (mem_7 hp ⟨by omega, vy.2⟩) _ (mem_7 hp (D_D hp)) _ (mem_7 hp (D_D hp)) vx.1 vx.2 vy.1 vy.2 (D_D hp).2 (D_D hp).2).2 ?_
    have := h2 i i0 i9
    rw [ey, show D p x (FI p x) = FV p x from rfl] at this
    exact this
theorem alk_fac {p x y : Int} (hp : okp p) (hx : isR p x) (hy : isR p y) (h : shp p x ≠ 0 ∧ shp p x = shp p y) : D p y (FI p x) * iv p (D p x (FI p x)) % p = FV p y * iv p (FV p x) % p := by
  have x0 : x ≠ 0 := shp_nz hp h.1
  have y0 : y ≠ 0 := shp_nz hp (by rw [← h.2]; exact h.1)
  have e : FI p x = FI p y := by rw [← (FI_shp hp hx x0).1, h.2, (FI_shp hp hy y0).1]
  rw [show D p y (FI p x) = FV p y by rw [e]; rfl]
  rfl
/-- what the model's factor answers -/
def mfc (p : Int) (P : PS) (w s t : Int) : Int := if alk p P w s t then fac p P w s t else 0
theorem mfc_pos {p : Int} {P : PS} {w s t : Int} (hp : okp p) (hx : isR p (rw' P (40 * w + s))) (hy : isR p (rw' P (40 * w + t))) : (0 < mfc p P w s t ↔ alk p P w s t) ∧ isD p (mfc p P w s t) := by
  unfold mfc
  by_cases c : alk p P w s t
  · rw [if_pos c]
    have x0 : rw' P (40 * w + s) ≠ 0 := shp_nz hp c.1
    have h1 := (alk_tab hp hx hy x0).1 c
    rw [alk_fac hp hx hy c] at h1
    exact ⟨⟨fun _ => c, fun _ => h1.1⟩, fac_D hp⟩
  · rw [if_neg c]
    exact ⟨⟨fun z => by omega, fun z => absurd z c⟩, ⟨Int.le_refl 0, by have := okp_b hp; omega⟩⟩
section Mod7
variable {l : Launch} {d : Nat} {h : HP} {p : Int} {P : PS} {B : BS} {Q : Int → GS → HP → Prop}
set_option maxHeartbeats 1000000 in
theorem rX9_factor {s t w : Int} (mr : MR h) (h0 : h 75 0 = p) (hp : okp p) (ms : MS h p P) (hW : WF p P) (hw : okw w) (hs : okt P s) (ht : okt P t) (hQ : Q (mfc p P w s t) G0 h) : R l MX9_factor (d + 1) 0 0 [vR 75, vI s, vI t, vI w] G0 h Q := by
  have pb := okp_b hp
  have h40 := hW.2.2.1
  have hw' := hw
  have hs' := hs
  have ht' := ht
  unfold okw at hw'
  unfold okt at hs' ht'
  have hx := rowR hp hW hw.1 hw.2 hs.1 hs.2
  have hy := rowR hp hW hw.1 hw.2 ht.1 ht.2
  have rx : ∀ i, 0 ≤ i → i < 9 → h 78 (27 * s + 9 * w + i) = D p (rw' P (40 * w + s)) i := fun i i0 i9 => ms.at hs.1 hs.2 hw.1 hw.2 i0 i9
  have ry : ∀ i, 0 ≤ i → i < 9 → h 78 (27 * t + 9 * w + i) = D p (rw' P (40 * w + t)) i := fun i i0 i9 => ms.at ht.1 ht.2 hw.1 hw.2 i0 i9
  have dx : ∀ i, isD p (D p (rw' P (40 * w + s)) i) := fun i => D_D hp
  have dy : ∀ i, isD p (D p (rw' P (40 * w + t)) i) := fun i => D_D hp
  have z109 : ∀ f i, Q 0 G0 h → 0 ≤ i → i ≤ 9 → S l MX9_factor (d + 1, 0, 0, 0, 0) 109 [some (vR 75), none, none, none, some (vI (27 * s + 9 * w)), some (vI (27 * t + 9 * w)), none, some (vI f), some (vI 0), some (vI i)] [] G0 h Q := fun f i q i0 i9 => vX9_factor_109 75 _ _ f 0 i ⟨⟨by omega, by omega⟩, fun _ => ⟨⟨by decide, by decide⟩, fun _ => q, fun z => absurd rfl z⟩, fun _ => ⟨⟨by decide, by decide⟩, fun _ => ⟨fun _ => q, fun z => absurd rfl z⟩, fun z => absurd rfl z⟩⟩
  have k109 : ∀ f, isD p f → ((∀ i, 0 ≤ i → i < 9 → D p (rw' P (40 * w + s)) i * f % p = D p (rw' P (40 * w + t)) i) → Q f G0 h) → (¬ (∀ i, 0 ≤ i → i < 9 → D p (rw' P (40 * w + s)) i * f % p = D p (rw' P (40 * w + t)) i) → Q 0 G0 h) → S l MX9_factor (d + 1, 0, 0, 0, 0) 109 [some (vR 75), none, none, none, some (vI (27 * s + 9 * w)), some (vI (27 * t + 9 * w)), none, some (vI f), some (vI 1), some (vI 0)] [] G0 h Q := fun f hf q1 q0 => by
    refine lp_up (σ := Unit) (fun i _ => S l MX9_factor (d + 1, 0, 0, 0, 0) 109 [some (vR 75), none, none, none, some (vI (27 * s + 9 * w)), some (vI (27 * t + 9 * w)), none, some (vI f), some (vI 1), some (vI i)] [] G0 h Q) (fun i _ => 0 ≤ i ∧ ∀ j, 0 ≤ j → j < i → D p (rw' P (40 * w + s)) j * f % p = D p (rw' P (40 * w + t)) j) 9 ?_ ?_ 0 () (by decide) ⟨by decide, fun j j0 j1 => by omega⟩
    · intro i _ hi ⟨i0, hm⟩ ih
      have m := md_D (x := D p (rw' P (40 * w + s)) i * f) hp
      have yi := dy i
      refine vX9_factor_109 75 _ _ f 1 i ?_
      simp only [mr.sc, h0, rx i i0 hi, ry i i0 hi]
      refine ⟨⟨by omega, by omega⟩, fun c => by omega, fun _ => ⟨⟨by decide, by decide⟩, fun c => by omega, fun _ => ⟨t75, i78 (by omega) (by omega), ml_dv hp (dx i) hf, i78 (by omega) (by omega), ⟨by omega, by omega⟩, ⟨by omega, by omega⟩, fun ne => z109 f (i + 1) (q0 (fun z => ne (z i i0 hi))) (by omega) (by omega), fun e => ih () ⟨by omega, fun j j0 j1 => ?_⟩⟩⟩⟩
      by_cases ej : j = i
      · rw [ej]; exact e
      · exact hm j j0 (by omega)
    · intro _ ⟨i0, hm⟩
      exact vX9_factor_109 75 _ _ f 1 9 ⟨⟨by decide, by decide⟩, fun _ => ⟨⟨by decide, by decide⟩, fun z => by omega, fun _ => q1 hm⟩, fun c => by omega⟩
  refine eX9_factor 75 s t w (vX9_factor_0 75 s t w ?_)
  refine lp_up (σ := Unit) (fun i _ => S l MX9_factor (d + 1, 0, 0, 0, 0) 25 [some (vR 75), none, none, none, some (vI (27 * s + 9 * w)), some (vI (27 * t + 9 * w)), some (vI i), none, none, none] [] G0 h Q) (fun i _ => 0 ≤ i ∧ ∀ j, 0 ≤ j → j < i → D p (rw' P (40 * w + s)) j = 0) 9 ?_ ?_ 0 () (by decide) ⟨by decide, fun j j0 j1 => by omega⟩
  · intro i _ hi ⟨i0, hz⟩ ih
    have xi := dx i
    have yi := dy i
    refine vX9_factor_25 75 _ _ i ?_
    simp only [mr.sc, rx i i0 hi, ry i i0 hi]
    refine ⟨⟨by omega, by omega⟩, fun c => by omega, fun _ => ⟨t75, i78 (by omega) (by omega), ⟨by omega, by omega⟩, fun nz => ⟨fun _ => ⟨i78 (by omega) (by omega), rX9_inverse h0 hp ⟨by omega, xi.2⟩ ?_⟩, fun c => by omega⟩, fun z => ih () ⟨by omega, fun j j0 j1 => ?_⟩⟩⟩
    · have eI : FI p (rw' P (40 * w + s)) = i := FI_un hp hx i0 hi hz nz
      have x0 : rw' P (40 * w + s) ≠ 0 := fun e => nz (by rw [e]; exact D_z)
      have io := iv_ok hp (show 1 ≤ D p (rw' P (40 * w + s)) i by omega) xi.2
      have at' := alk_tab hp hx hy x0
      rw [eI] at at'
      have m := md_D (x := D p (rw' P (40 * w + t)) i * iv p (D p (rw' P (40 * w + s)) i)) hp
      have q1 : 0 < D p (rw' P (40 * w + t)) i * iv p (D p (rw' P (40 * w + s)) i) % p → (∀ j, 0 ≤ j → j < 9 → D p (rw' P (40 * w + s)) j * (D p (rw' P (40 * w + t)) i * iv p (D p (rw' P (40 * w + s)) i) % p) % p = D p (rw' P (40 * w + t)) j) → Q (D p (rw' P (40 * w + t)) i * iv p (D p (rw' P (40 * w + s)) i) % p) G0 h := fun z1 z2 => by
        have al := at'.2 ⟨z1, z2⟩
        have ef := alk_fac hp hx hy al
        rw [eI] at ef
        rw [ef]
        unfold mfc at hQ
        rw [if_pos al] at hQ
        exact hQ
      have q0 : ¬ (0 < D p (rw' P (40 * w + t)) i * iv p (D p (rw' P (40 * w + s)) i) % p ∧ ∀ j, 0 ≤ j → j < 9 → D p (rw' P (40 * w + s)) j * (D p (rw' P (40 * w + t)) i * iv p (D p (rw' P (40 * w + s)) i) % p) % p = D p (rw' P (40 * w + t)) j) → Q 0 G0 h := fun z => by
        unfold mfc at hQ
        rw [if_neg (fun al => z (at'.1 al))] at hQ
        exact hQ
      simp only [h0]
      refine ⟨t75, ml_dv hp yi ⟨by omega, io.2.1⟩, ⟨by omega, by omega⟩, fun c => z109 _ 0 (q0 (fun z => by omega)) (by decide) (by decide), fun c => k109 _ m (q1 c) (fun z => q0 (fun y => z y.2))⟩
    · by_cases ej : j = i
      · rw [ej]; exact z
      · exact hz j j0 (by omega)
  · intro _ ⟨i0, hz⟩
    have x0 : rw' P (40 * w + s) = 0 := D_inj pb.1 9 hx (R0 hp) (fun j j0 j1 => by rw [hz j j0 j1, D_z])
    have q0 : Q 0 G0 h := by
      unfold mfc at hQ
      rw [if_neg (fun al => al.1 (by rw [x0]; exact shp_0 hp))] at hQ
      exact hQ
    exact vX9_factor_25 75 _ _ 9 ⟨⟨by decide, by decide⟩, fun _ => ⟨fun c => absurd rfl c, fun _ => z109 0 0 q0 (by decide) (by decide)⟩, fun c => by omega⟩
theorem rX9_isNought {t w : Int} (mr : MR h) (hp : okp p) (ms : MS h p P) (hW : WF p P) (hw : okw w) (ht : okt P t) (h1 : rw' P (40 * w + t) = 0 → Q 1 G0 h) (hn : rw' P (40 * w + t) ≠ 0 → Q 0 G0 h) : R l MX9_isNought d 0 0 [vR 75, vI t, vI w] G0 h Q := by
  have pb := okp_b hp
  have h40 := hW.2.2.1
  have hw' := hw
  have ht' := ht
  unfold okw at hw'
  unfold okt at ht'
  have hy := rowR hp hW hw.1 hw.2 ht.1 ht.2
  refine eX9_isNought 75 t w (vX9_isNought_0 75 t w ?_)
  refine lp_up (σ := Int) (fun i a => S l MX9_isNought (d, 0, 0, 0, 0) 5 [some (vR 75), some (vI t), some (vI w), some (vI a), some (vI i)] [] G0 h Q) (fun i a => 0 ≤ i ∧ ((a = 1 ∧ ∀ j, 0 ≤ j → j < i → D p (rw' P (40 * w + t)) j = 0) ∨ (a = 0 ∧ rw' P (40 * w + t) ≠ 0))) 9 ?_ ?_ 0 1 (by decide) ⟨by decide, .inl ⟨rfl, fun j j0 j1 => by omega⟩⟩
  · intro i a hi ⟨i0, ha⟩ ih
    have yi := D_D (x := rw' P (40 * w + t)) (i := i) hp
    refine vX9_isNought_5 75 t w a i ?_
    simp only [mr.sc, ms.at ht.1 ht.2 hw.1 hw.2 i0 hi]
    refine ⟨⟨by omega, by omega⟩, fun c => by omega, fun _ => ⟨?_, fun c => ih 0 ⟨by omega, ?_⟩, fun c => ⟨t75, i78 (by omega) (by omega), ⟨by omega, by omega⟩, fun c2 => ih 0 ⟨by omega, .inr ⟨rfl, fun e => c2 (by rw [e]; exact D_z)⟩⟩, fun c2 => ih 1 ⟨by omega, ?_⟩⟩⟩⟩
    · rcases ha with ha | ha <;> exact ⟨by omega, by omega⟩
    · rcases ha with ha | ha
      · omega
      · exact .inr ⟨rfl, ha.2⟩
    · rcases ha with ha | ha
      · refine .inl ⟨rfl, fun j j0 j1 => ?_⟩
        by_cases ej : j = i
        · rw [ej]; exact c2
        · exact ha.2 j j0 (by omega)
      · omega
  · intro a ⟨i0, ha⟩
    refine vX9_isNought_5 75 t w a 9 ⟨⟨by decide, by decide⟩, fun _ => ?_, fun c => by omega⟩
    rcases ha with ⟨rfl, ha⟩ | ⟨rfl, ha⟩
    · exact ⟨.inr rfl, h1 (D_inj pb.1 9 hy (R0 hp) (fun j j0 j1 => by rw [ha j j0 j1, D_z]))⟩
    · exact ⟨.inl rfl, hn ha⟩
end Mod7
