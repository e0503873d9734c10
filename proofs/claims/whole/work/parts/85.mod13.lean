theorem hb_tab : ∀ p ∈ ([2, 3, 5, 7] : List Int), ∀ x ∈ ([0, 1, 2, 3, 4, 5, 6] : List Int), ∀ y ∈ ([0, 1, 2, 3, 4, 5, 6] : List Int), ∀ r ∈ ([0, 1, 2, 3, 4, 5, 6] : List Int), 1 ≤ x → x < p → y < p → 1 ≤ r → r < p → (y = r * x % p ↔ (y ≠ 0 ∧ y * iv p x % p = r)) := by decide +kernel
theorem hb_hs {p a b r : Int} {m : Int → Int} (hp : okp p) (ha : isD p (m a)) (hb : isD p (m b)) (hr : 1 ≤ r ∧ r < p) (hab : a < b) : (m a ≠ 0 ∧ m b = r * m a % p) ↔ hs p m a (7 * b + r) := by
  have pb := okp_b hp
  unfold hs
  rw [show (7 * b + r) / 7 = b by omega, show (7 * b + r) % 7 = r by omega]
  by_cases c : m a = 0
  · constructor
    · intro z; exact absurd c z.1
    · intro z; exact absurd c z.1
  · have t := hb_tab p (mem_p hp) _ (mem_7 hp ha) _ (mem_7 hp hb) r (mem_7 hp ⟨by omega, hr.2⟩) (by have := ha.1; omega) ha.2 hb.2 hr.1 hr.2
    constructor
    · intro z
      have := t.1 z.2
      exact ⟨c, hab, this.1, this.2⟩
    · intro z
      exact ⟨c, t.2 ⟨z.2.2.1, z.2.2.2⟩⟩
theorem cnt_0 {p a k : Int} {M : Int → Int → Int} : ∀ T : Nat, (∀ t : Int, 0 ≤ t → t < T → ¬ hs p (M t) a k) → cnt p M a k T = 0
  | 0, _ => rfl
  | T + 1, h => by
    show cnt p M a k T + (if hs p (M T) a k then 1 else 0) = 0
    rw [cnt_0 T (fun t t0 t1 => h t t0 (by omega)), if_neg (h T (by omega) (by omega))]; rfl
section Mod13
variable {l : Launch} {d : Nat} {h : HP} {p C T : Int} {P : PS} {B : BS} {M : Int → Int → Int} {Q : Int → GS → HP → Prop}
theorem MX.wk {h' : HP} (m : MX h B) (f : ∀ b, 76 ≤ b → b ≤ 84 → h' b = h b) (f75 : ∀ j, j ≠ 19 → j ≠ 27 → h' 75 j = h 75 j) : MX h' B :=
  ⟨m.1.fr (fun j _ _ _ _ j19 j27 => f75 j j19 j27), by rw [f75 0 (by decide) (by decide)]; exact m.2.1, m.2.2.1.fr (f 76 (by decide) (by decide)) (f 77 (by decide) (by decide)), m.2.2.2.1.fr (f75 4 (by decide) (by decide)) (f 78 (by decide) (by decide)), m.2.2.2.2.1.fr (f 79 (by decide) (by decide)), m.2.2.2.2.2.1.fr (fun b b0 b1 => f b (by omega) (by omega)), m.2.2.2.2.2.2.fr (f75 15 (by decide) (by decide)) (f75 16 (by decide) (by decide))⟩
/-- the model's rows to be shared -/
def MU (h : HP) (p T C : Int) (M : Int → Int → Int) : Prop := MR h ∧ h 75 0 = p ∧ h 75 4 = T ∧ h 75 27 = C ∧ ∀ t c, 0 ≤ t → t < T → 0 ≤ c → c < C → h 97 (49 * t + c) = M t c ∧ isD p (M t c)
def FrU (h h' : HP) : Prop := (∀ b, b ≠ 75 → b ≠ 97 → h' b = h b) ∧ ∀ j, j ≠ 27 → h' 75 j = h 75 j
theorem FrU.tr {h1 h2 : HP} (f : FrU h h1) (g : FrU h1 h2) : FrU h h2 := ⟨fun b b1 b2 => (g.1 b b1 b2).trans (f.1 b b1 b2), fun j j1 => (g.2 j j1).trans (f.2 j j1)⟩
theorem rX9_hasBoth {t a b r : Int} (mu : MU h p T C M) (hp : okp p) (C49 : C ≤ 49) (hT : T ≤ 40) (t0 : 0 ≤ t) (tT : t < T) (a0 : 0 ≤ a) (hab : a < b) (bC : b < C) (hr : 1 ≤ r ∧ r < p) (h1 : hs p (M t) a (7 * b + r) → Q 1 G0 h) (h0 : ¬ hs p (M t) a (7 * b + r) → Q 0 G0 h) : R l MX9_hasBoth d 0 0 [vR 75, vI t, vI a, vI b, vI r] G0 h Q := by
  have pb := okp_b hp
  obtain ⟨mr, e0, e4, e27, m⟩ := mu
  have ma := m t a t0 tT a0 (by omega)
  have mb := m t b t0 tT (by omega) bC
  have hh := hb_hs (m := M t) hp ma.2 mb.2 hr hab
  have md := md_D (x := r * M t a) hp
  refine eX9_hasBoth 75 t a b r (vX9_hasBoth_0 75 t a b r ?_)
  simp only [mr.sh, ma.1, mb.1, e0]
  have da := ma.2
  have db := mb.2
  refine ⟨t75, i97 (by omega) (by omega), ⟨by omega, by omega⟩, fun z => h0 (fun q => (hh.2 q).1 z), fun nz => ⟨i97 (by omega) (by omega), ml_dv hp ⟨by omega, hr.2⟩ da, ⟨by omega, by omega⟩, ⟨by omega, by omega⟩, fun ne => h0 (fun q => ne (hh.2 q).2), fun e => h1 (hh.1 ⟨nz, e⟩)⟩⟩
theorem rX9_rowsWith {a b r : Int} (mu : MU h p T C M) (hp : okp p) (C49 : C ≤ 49) (hT : 0 ≤ T ∧ T ≤ 40) (a0 : 0 ≤ a) (hab : a < b) (bC : b < C) (hr : 1 ≤ r ∧ r < p) (hQ : Q (cnt p M a (7 * b + r) T.toNat) G0 h) : R l MX9_rowsWith (d + 1) 0 0 [vR 75, vI a, vI b, vI r] G0 h Q := by
  have r1 : inR 1 := ⟨by decide, by decide⟩
  have r0 : inR 0 := ⟨by decide, by decide⟩
  refine eX9_rowsWith 75 a b r (vX9_rowsWith_0 75 a b r ?_)
  refine lp_up (σ := Int) (fun t n => S l MX9_rowsWith (d + 1, 0, 0, 0, 0) 6 [some (vR 75), some (vI a), some (vI b), some (vI r), some (vI n), some (vI t)] [] G0 h Q) (fun t n => 0 ≤ t ∧ n = cnt p M a (7 * b + r) t.toNat) T ?_ ?_ 0 0 hT.1 ⟨by decide, rfl⟩
  · intro t n ht ⟨t0, en⟩ ih
    refine vX9_rowsWith_6 75 a b r n t ?_
    simp only [mu.2.2.1]
    refine ⟨t75, ⟨by omega, by omega⟩, ⟨by omega, by omega⟩, fun c => by omega, fun _ => rX9_hasBoth mu hp C49 hT.2 t0 ht a0 hab bC hr (fun y => ⟨r1, fun z => by omega, fun _ => ih _ ⟨by omega, ?_⟩⟩) (fun n' => ⟨r0, fun _ => ih _ ⟨by omega, ?_⟩, fun z => absurd rfl z⟩)⟩
    · rw [cnt_s t0, if_pos y, en]
    · rw [cnt_s t0, if_neg n', en]
  · intro n ⟨t0, en⟩
    refine vX9_rowsWith_6 75 a b r n _ ?_
    simp only [mu.2.2.1]
    exact ⟨t75, ⟨by omega, by omega⟩, ⟨by omega, by omega⟩, fun _ => by rw [en]; exact hQ, fun c => by omega⟩
/-- the best pair so far, in the order of the model's loops -/
def GM (p : Int) (M : Int → Int → Int) (T : Nat) (C a k m f g : Int) : Prop := (∀ a' k', 0 ≤ a' → 0 ≤ k' → k' < 7 * C → (a' < a ∨ (a' = a ∧ k' < k)) → cnt p M a' k' T ≤ m) ∧ (m = 1 ∨ (2 ≤ m ∧ 0 ≤ f ∧ f < C ∧ 0 ≤ g ∧ g < 7 * C ∧ cnt p M f g T = m ∧ (∀ k', 0 ≤ k' → k' < g → cnt p M f k' T < m) ∧ (∀ a' k', 0 ≤ a' → a' < f → 0 ≤ k' → k' < 7 * C → cnt p M a' k' T < m) ∧ 1 ≤ g % 7 ∧ g % 7 < p ∧ f < g / 7))
theorem GM_skip {a k k' m f g : Int} {N : Nat} (h : GM p M N C a k m f g) (hz : ∀ q, k ≤ q → q < k' → q < 7 * C → cnt p M a q N = 0) : GM p M N C a k' m f g := by
  refine ⟨fun a' q a0 q0 q1 hq => ?_, h.2⟩
  have m1 : 1 ≤ m := by rcases h.2 with e | e <;> omega
  by_cases c : a' < a ∨ (a' = a ∧ q < k)
  · exact h.1 a' q a0 q0 q1 c
  · have e : a' = a := by omega
    rw [e, hz q (by omega) (by omega) q1]; omega
theorem GM_up {a k m f g : Int} {N : Nat} (h : GM p M N C a k m f g) (a0 : 0 ≤ a) (aC : a < C) (k0 : 0 ≤ k) (kC : k < 7 * C) (hgt : m < cnt p M a k N) (hk : 1 ≤ k % 7 ∧ k % 7 < p ∧ a < k / 7) : GM p M N C a (k + 1) (cnt p M a k N) a k := by
  have m1 : 1 ≤ m := by rcases h.2 with e | e <;> omega
  refine ⟨fun a' q a0' q0 q1 hq => ?_, .inr ⟨by omega, a0, aC, k0, kC, rfl, fun q q0 q1 => ?_, fun a' q a0' a1' q0 q1 => ?_, hk.1, hk.2.1, hk.2.2⟩⟩
  · by_cases e : a' = a ∧ q = k
    · rw [e.1, e.2]; omega
    · have := h.1 a' q a0' q0 q1 (by omega); omega
  · have := h.1 a q a0 q0 (by omega) (.inr ⟨rfl, q1⟩); omega
  · have := h.1 a' q a0' q0 q1 (.inl a1'); omega
theorem GM_no {a k m f g : Int} {N : Nat} (h : GM p M N C a k m f g) (hle : cnt p M a k N ≤ m) : GM p M N C a (k + 1) m f g := by
  refine ⟨fun a' q a0' q0 q1 hq => ?_, h.2⟩
  by_cases e : a' = a ∧ q = k
  · rw [e.1, e.2]; exact hle
  · exact h.1 a' q a0' q0 q1 (by omega)
theorem GM_a {a m f g : Int} {N : Nat} (h : GM p M N C a (7 * C) m f g) : GM p M N C (a + 1) 0 m f g := ⟨fun a' q a0 q0 q1 hq => h.1 a' q a0 q0 q1 (by omega), h.2⟩
theorem cnt_z {a k : Int} {N : Nat} (hp : okp p) (hM : ∀ t c, 0 ≤ t → t < (N : Int) → 0 ≤ c → c < C → isD p (M t c)) (k0 : 0 ≤ k) (kC : k < 7 * C) (a0 : 0 ≤ a) (aC : a < C) (hz : k % 7 = 0 ∨ p ≤ k % 7 ∨ k / 7 ≤ a) : cnt p M a k N = 0 := by
  refine cnt_0 N (fun t t0 t1 ⟨h1, h2, h3, h4⟩ => ?_)
  have pb := okp_b hp
  have d1 := hM t a t0 t1 a0 aC
  have d2 := hM t (k / 7) t0 t1 (by omega) (by omega)
  have f := fac_pos p (mem_p hp) (M t a) (mem_7 hp d1) (M t (k / 7)) (mem_7 hp d2) (by have := d1.1; omega) d1.2 (by have := d2.1; omega) d2.2
  have md := md_D (x := M t (k / 7) * iv p (M t a)) hp
  omega
theorem MU.fr {h' : HP} (mu : MU h p T C M) (f : h' 75 = h 75) (g : h' 97 = h 97) : MU h' p T C M := by
  obtain ⟨mr, e0, e4, e27, m⟩ := mu
  refine ⟨mr.fr (fun j _ _ _ _ _ _ => by rw [f]), by rw [f]; exact e0, by rw [f]; exact e4, by rw [f]; exact e27, ?_⟩
  rw [g]; exact m
set_option maxHeartbeats 1000000 in
theorem rX9_share (mu : MU h p T C M) (hp : okp p) (hC : 0 ≤ C ∧ C ≤ 48) (hT : 0 ≤ T ∧ T ≤ 40) (h0 : noBK p M T.toNat C → Q 0 G0 h) (h1 : ∀ a k n h', isBK p M T.toNat C a k n → MU h' p T (C + 1) (fun t => shm p (M t) a k C) → FrU h h' → Q 1 G0 h') : R l MX9_share (d + 2) 0 0 [vR 75] G0 h Q := by
  have pb := okp_b hp
  have hM : ∀ t c, 0 ≤ t → t < (T.toNat : Int) → 0 ≤ c → c < C → isD p (M t c) := fun t c t0 t1 c0 c1 => (mu.2.2.2.2 t c t0 (by omega) c0 c1).2
  have mu0 := mu
  obtain ⟨mr, e0, e4, e27, m⟩ := mu0
  refine eX9_share 75 (vX9_share_0 75 ?_)
  have key : ∀ m' f b r : Int, isBK p M T.toNat C f (7 * b + r) m' → (1 ≤ r ∧ r < p) → f < b → b < C → S l MX9_share (d + 1 + 1, 0, 0, 0, 0) 107 [some (vR 75), none, some (vI f), some (vI b), some (vI r), some (vI 0), none, none, none] [] G0 h Q := fun m' f b r bk hr hfb hbC => by
    have f0 := bk.2.1
    have ka : (7 * b + r) / 7 = b := by omega
    refine lp_up (σ := HP) (fun t hh => S l MX9_share (d + 1 + 1, 0, 0, 0, 0) 107 [some (vR 75), none, some (vI f), some (vI b), some (vI r), some (vI t), none, none, none] [] G0 hh Q) (fun t hh => 0 ≤ t ∧ (∀ c, c ≠ 97 → hh c = h c) ∧ (∀ t' c, t ≤ t' → t' < T → 0 ≤ c → c < C → hh 97 (49 * t' + c) = M t' c) ∧ ∀ t' c, 0 ≤ t' → t' < t → 0 ≤ c → c < C + 1 → hh 97 (49 * t' + c) = shm p (M t') f (7 * b + r) C c) T ?_ ?_ 0 h hT.1 ⟨by decide, fun _ _ => rfl, fun t' c t0 t1 c0 c1 => (m t' c t0 t1 c0 c1).1, fun t' c t0 t1 => by omega⟩
    · intro t hh ht ⟨t0, g, un, dn⟩ ih
      have e75 := g 75 (by decide)
      have va := un t f (Int.le_refl t) ht f0 bk.2.2.1
      have vb := un t b (Int.le_refl t) ht (by omega) hbC
      have da := hM t f t0 (by omega) f0 bk.2.2.1
      have db := hM t b t0 (by omega) (by omega) hbC
      have hhs := hb_hs (m := M t) hp da db hr hfb
      have md := md_D (x := r * M t f) hp
      have hasB : ∀ Q' : Int → GS → HP → Prop, (hs p (M t) f (7 * b + r) → Q' 1 G0 hh) → (¬ hs p (M t) f (7 * b + r) → Q' 0 G0 hh) → R l MX9_hasBoth (d + 1) 0 0 [vR 75, vI t, vI f, vI b, vI r] G0 hh Q' := fun Q' q1 q0 => by
        refine eX9_hasBoth 75 t f b r (vX9_hasBoth_0 75 t f b r ?_)
        simp only [e75, mr.sh, va, vb, e0]
        refine ⟨t75, i97 (by omega) (by omega), ⟨by omega, by omega⟩, fun z => q0 (fun q => (hhs.2 q).1 z), fun nz => ⟨i97 (by omega) (by omega), ml_dv hp ⟨by omega, hr.2⟩ da, ⟨by omega, by omega⟩, ⟨by omega, by omega⟩, fun ne => q0 (fun q => ne (hhs.2 q).2), fun e => q1 (hhs.1 ⟨nz, e⟩)⟩⟩
      refine vX9_share_107 75 f b r t ?_
      simp only [e75, e4]
      refine ⟨t75, ⟨by omega, by omega⟩, ⟨by omega, by omega⟩, fun c => by omega, fun _ => hasB _ (fun y => ?_) (fun n => ?_)⟩
      · simp only [e75, mr.sh, e27, va]
        refine ⟨t75, ⟨by decide, by decide⟩, fun z => by omega, fun _ => ⟨i97 (by omega) (by omega), i97 (by omega) (by omega), fun h21 e21 => ⟨fun z => by omega, fun _ => ?_⟩⟩⟩
        have a21 : h21 75 = h 75 := by rw [e21, hset_oa (by decide), e75]
        simp only [a21, mr.sh]
        refine ⟨i97 (by omega) (by omega), fun h24 e24 => ?_⟩
        have a24 : h24 75 = h 75 := by rw [e24, hset_oa (by decide), a21]
        simp only [a24, mr.sh]
        refine ⟨i97 (by omega) (by omega), fun h26 e26 => ih h26 ⟨by omega, fun c hc => by rw [e26, hset_oa hc, e24, hset_oa hc, e21, hset_oa hc]; exact g c hc, fun t' c t0' t1' c0 c1 => ?_, fun t' c t0' t1' c0 c1 => ?_⟩⟩
        · rw [e26, hset_oj (by omega), e24, hset_oj (by omega), e21, hset_oj (by omega)]; exact un t' c (by omega) t1' c0 c1
        · by_cases et : t' = t
          · rw [et, e26]
            by_cases cC : c = C
            · rw [cC, hset_oj (by omega), e24, hset_oj (by omega), e21, hset_s, shm_C, if_pos y]
            · rw [shm_y y (by omega), ka]
              by_cases cf : c = f
              · rw [cf, up1_s, hset_oj (by omega), e24, hset_s]
              · rw [up1_o cf]
                by_cases cb : c = b
                · rw [cb, up1_s, hset_s]
                · rw [up1_o cb, hset_oj (by omega), e24, hset_oj (by omega), e21, hset_oj (by omega)]; exact un t c (Int.le_refl t) ht c0 (by omega)
          · rw [e26, hset_oj (by omega), e24, hset_oj (by omega), e21, hset_oj (by omega)]; exact dn t' c t0' (by omega) c0 c1
      · simp only [e75, mr.sh, e27]
        refine ⟨t75, ⟨by decide, by decide⟩, fun _ => ⟨i97 (by omega) (by omega), fun h13 e13 => ⟨fun _ => ih h13 ⟨by omega, fun c hc => by rw [e13, hset_oa hc]; exact g c hc, fun t' c t0' t1' c0 c1 => ?_, fun t' c t0' t1' c0 c1 => ?_⟩, fun z => absurd rfl z⟩⟩, fun z => absurd rfl z⟩
        · rw [e13, hset_oj (by omega)]; exact un t' c (by omega) t1' c0 c1
        · by_cases et : t' = t
          · rw [et, e13]
            unfold shm
            by_cases cC : c = C
            · rw [cC, hset_s, if_pos rfl, if_neg n]
            · rw [hset_oj (by omega), if_neg cC, if_neg (fun z => n z.1)]; exact un t c (Int.le_refl t) ht c0 (by omega)
          · rw [e13, hset_oj (by omega)]; exact dn t' c t0' (by omega) c0 c1
    · intro hh ⟨t0, g, un, dn⟩
      have e75 := g 75 (by decide)
      refine vX9_share_107 75 f b r _ ?_
      simp only [e75, e4, e27]
      refine ⟨t75, ⟨by omega, by omega⟩, ⟨by omega, by omega⟩, fun _ h5 e5 => h1 f (7 * b + r) m' h5 bk ⟨mr.fr (fun j _ _ _ _ _ j27 => by rw [e5, hset_oj j27, e75]), by rw [e5, hset_oj (by decide), e75]; exact e0, by rw [e5, hset_oj (by decide), e75]; exact e4, by rw [e5, hset_s], fun t c t0 t1 c0 c1 => ⟨?_, ?_⟩⟩ ⟨fun b b1 b2 => by rw [e5, hset_oa b1]; exact g b b2, fun j j27 => by rw [e5, hset_oj j27, e75]⟩, fun c => by omega⟩
      · rw [e5, hset_oa (by decide)]; exact dn t c t0 t1 c0 c1
      · show isD p (shm p (M t) f (7 * b + r) C c)
        unfold shm
        have zD : isD p 0 := ⟨Int.le_refl 0, by omega⟩
        by_cases cC : c = C
        · rw [if_pos cC]
          split
          · exact hM t f t0 (by omega) f0 bk.2.2.1
          · exact zD
        · rw [if_neg cC]
          split
          · exact zD
          · exact hM t c t0 (by omega) c0 (by omega)
  refine lp_up (σ := Int × Int × Int × Int) (fun a s => S l MX9_share (d + 1 + 1, 0, 0, 0, 0) 12 [some (vR 75), some (vI s.1), some (vI s.2.1), some (vI s.2.2.1), some (vI s.2.2.2), some (vI a), none, none, none] [] G0 h Q) (fun a s => 0 ≤ a ∧ GM p M T.toNat C a 0 s.1 s.2.1 (7 * s.2.2.1 + s.2.2.2) ∧ (s.1 ≤ 40) ∧ (0 ≤ s.2.2.2 ∧ s.2.2.2 < p)) C ?_ ?_ 0 (1, 0, 0, 0) hC.1 ⟨by decide, ⟨fun a' k' a0 k0 k1 z => by omega, .inl rfl⟩, by show (1 : Int) ≤ 40; decide, by show 0 ≤ (0 : Int); decide, by show (0 : Int) < p; omega⟩
  · intro a s ha ⟨a0, gm, s40, sr⟩ ih1
    refine vX9_share_12 75 _ _ _ _ a ?_
    simp only [e27]
    refine ⟨t75, ⟨by omega, by omega⟩, ⟨by omega, by omega⟩, fun c => by omega, fun _ => ?_⟩
    refine lp_up (σ := Int × Int × Int × Int) (fun b s => S l MX9_share (d + 1 + 1, 0, 0, 0, 0) 27 [some (vR 75), some (vI s.1), some (vI s.2.1), some (vI s.2.2.1), some (vI s.2.2.2), some (vI a), some (vI b), none, none] [] G0 h Q) (fun b s => a + 1 ≤ b ∧ GM p M T.toNat C a (7 * b) s.1 s.2.1 (7 * s.2.2.1 + s.2.2.2) ∧ (s.1 ≤ 40) ∧ (0 ≤ s.2.2.2 ∧ s.2.2.2 < p)) C ?_ ?_ (a + 1) s (by omega) ⟨Int.le_refl _, GM_skip gm (fun q q0 q1 q2 => cnt_z hp hM q0 q2 a0 ha (.inr (.inr (by omega)))), s40, sr⟩
    · intro b s hb ⟨b0, gm, s40, sr⟩ ih2
      refine vX9_share_27 75 _ _ _ _ a b ?_
      simp only [e27]
      refine ⟨t75, ⟨by omega, by omega⟩, ⟨by omega, by omega⟩, fun c => by omega, fun _ => ?_⟩
      refine lp_up (σ := Int × Int × Int × Int) (fun r s => S l MX9_share (d + 1 + 1, 0, 0, 0, 0) 39 [some (vR 75), some (vI s.1), some (vI s.2.1), some (vI s.2.2.1), some (vI s.2.2.2), some (vI a), some (vI b), some (vI r), none] [] G0 h Q) (fun r s => 1 ≤ r ∧ GM p M T.toNat C a (7 * b + r) s.1 s.2.1 (7 * s.2.2.1 + s.2.2.2) ∧ (s.1 ≤ 40) ∧ (0 ≤ s.2.2.2 ∧ s.2.2.2 < p)) p ?_ ?_ 1 s (by omega) ⟨Int.le_refl _, GM_skip gm (fun q q0 q1 q2 => cnt_z hp hM (by omega) q2 a0 ha (.inl (by omega))), s40, sr⟩
      · intro r s hr ⟨r1, gm, s40, sr⟩ ih3
        have cb := cnt_b (p := p) (a := a) (k := 7 * b + r) (M := M) T.toNat
        have m1 : 1 ≤ s.1 := by rcases gm.2 with e | e <;> omega
        refine vX9_share_39 75 _ _ _ _ a b r ?_
        simp only [e0]
        refine ⟨t75, ⟨by omega, by omega⟩, ⟨by omega, by omega⟩, fun c => by omega, fun _ => rX9_rowsWith mu hp (by omega) hT a0 (by omega) hb ⟨r1, hr⟩ ⟨⟨by omega, by omega⟩, ⟨by omega, by omega⟩, fun c => ih3 s ⟨by omega, ?_, s40, sr⟩, fun c => ih3 (_, a, b, r) ⟨by omega, ?_, by show cnt p M a (7 * b + r) T.toNat ≤ 40; omega, by show 0 ≤ r; omega, by show r < p; omega⟩⟩⟩
        · have := GM_no gm c
          rw [Int.add_assoc] at this
          exact this
        · have := GM_up gm a0 ha (by omega) (by omega) c ⟨by omega, by omega, by omega⟩
          rw [Int.add_assoc] at this
          exact this
      · intro s ⟨r1, gm, s40, sr⟩
        refine vX9_share_39 75 _ _ _ _ a b _ ?_
        simp only [e0]
        exact ⟨t75, ⟨by omega, by omega⟩, ⟨by omega, by omega⟩, fun _ => ih2 s ⟨by omega, GM_skip gm (fun q q0 q1 q2 => cnt_z hp hM (by omega) q2 a0 ha (.inr (.inl (by omega)))), s40, sr⟩, fun c => by omega⟩
    · intro s ⟨b0, gm, s40, sr⟩
      refine vX9_share_27 75 _ _ _ _ a _ ?_
      simp only [e27]
      exact ⟨t75, ⟨by omega, by omega⟩, ⟨by omega, by omega⟩, fun _ => ih1 s ⟨by omega, GM_a gm, s40, sr⟩, fun c => by omega⟩
  · intro s ⟨a0, gm, s40, sr⟩
    have m1 : 1 ≤ s.1 := by rcases gm.2 with e | e <;> omega
    refine vX9_share_12 75 _ _ _ _ _ ?_
    simp only [e27]
    refine ⟨t75, ⟨by omega, by omega⟩, ⟨by omega, by omega⟩, fun _ => ⟨⟨by omega, by omega⟩, fun c2 => ?_, fun c2 => h0 (fun a k x1 x2 x3 x4 => ?_)⟩, fun c => by omega⟩
    · rcases gm.2 with e | ⟨g1, g2, g3, g4, g5, g6, g7, g8, g9, g10, g11⟩
      · omega
      · refine key s.1 s.2.1 s.2.2.1 s.2.2.2 ⟨c2, g2, g3, g4, g5, g6, fun a' k' x1 x2 x3 x4 => gm.1 a' k' x1 x3 x4 (.inl x2), g7, fun a' k' x1 x2 x3 x4 => g8 a' k' x1 x2 x3 x4⟩ ⟨by omega, sr.2⟩ (by omega) (by omega)
    · have := gm.1 a k x1 x3 x4 (.inl x2); omega
theorem rX9_plainSums (mu : MU h p T C M) (hp : okp p) (hC : 0 ≤ C ∧ C ≤ 49) (hT : 0 ≤ T ∧ T ≤ 40) (hQ : Q (sms M T.toNat C) G0 h) : R l MX9_plainSums d 0 0 [vR 75, vI C] G0 h Q := by
  obtain ⟨mr, e0, e4, e27, m⟩ := mu
  have pb := okp_b hp
  refine eX9_plainSums 75 C (vX9_plainSums_0 75 C ?_)
  refine lp_up (σ := Int) (fun t s => S l MX9_plainSums (d, 0, 0, 0, 0) 4 [some (vR 75), some (vI C), some (vI s), some (vI t), none, none] [] G0 h Q) (fun t s => 0 ≤ t ∧ s = sms M t.toNat C) T ?_ ?_ 0 0 hT.1 ⟨by decide, rfl⟩
  · intro t s ht ⟨t0, es⟩ ih
    refine vX9_plainSums_4 75 C s t ?_
    simp only [e4]
    refine ⟨t75, ⟨by omega, by omega⟩, ⟨by omega, by omega⟩, fun c => by omega, fun _ => ?_⟩
    refine lp_up (σ := Int) (fun c n => S l MX9_plainSums (d, 0, 0, 0, 0) 18 [some (vR 75), some (vI C), some (vI s), some (vI t), some (vI n), some (vI c)] [] G0 h Q) (fun c n => 0 ≤ c ∧ n = ct (M t) c.toNat) C ?_ ?_ 0 0 hC.1 ⟨by decide, rfl⟩
    · intro c n hc ⟨c0, en⟩ ih2
      have mc := m t c t0 ht c0 hc
      have dc := mc.2
      refine vX9_plainSums_18 75 C s t n c ?_
      simp only [mr.sh, mc.1]
      refine ⟨⟨by omega, by omega⟩, ⟨by omega, by omega⟩, fun z => by omega, fun _ => ⟨t75, i97 (by omega) (by omega), ⟨by omega, by omega⟩, fun z => ih2 _ ⟨by omega, ?_⟩, fun z => ih2 _ ⟨by omega, ?_⟩⟩⟩
      · rw [ct_s c0, if_pos z, en]
      · rw [ct_s c0, if_neg z, en]
    · intro n ⟨c0, en⟩
      have cb := ct_b (f := M t) C.toNat
      have ss : sms M (t + 1).toNat C = sms M t.toNat C + mx0 (ct (M t) C.toNat - 1) := by
        unfold sms
        rw [sm_s t0]
      refine vX9_plainSums_18 75 C s t n _ ⟨⟨by omega, by omega⟩, ⟨by omega, by omega⟩, fun _ => ⟨⟨by omega, by omega⟩, fun z => ih _ ⟨by omega, ?_⟩, fun z => ih _ ⟨by omega, ?_⟩⟩, fun z => by omega⟩
      · rw [ss, es, ← en]
        unfold mx0
        rw [if_neg (by omega)]
      · rw [ss, es, ← en]
        unfold mx0
        by_cases c1 : 0 < n - 1
        · rw [if_pos c1]
        · rw [if_neg c1]; omega
  · intro s ⟨t0, es⟩
    refine vX9_plainSums_4 75 C s _ ?_
    simp only [e4]
    exact ⟨t75, ⟨by omega, by omega⟩, ⟨by omega, by omega⟩, fun _ => by rw [es]; exact hQ, fun c => by omega⟩
theorem rX9_sumsLoop {r : Int} (hp : okp p) (hT : 0 ≤ T ∧ T ≤ 40) : ∀ (i : Nat) (M : Int → Int → Int) (C s : Int) (h : HP), MU h p T C M → s + i = 40 → 0 ≤ s → 0 ≤ C → C ≤ 9 + s → shR p T.toNat i M C s r → (∀ h', FrU h h' → Q r G0 h') → S l MX9_sums (d + 2 + 1, 0, 0, 0, 0) 107 [some (vR 75), none, none, some (vI s), some (vI 1)] [] G0 h Q
  | 0, M, C, s, h, mu, hs, s0, C0, C9, hR, hQ => by
    have hR' : r = s + sms M T.toNat C := hR
    refine vX9_sums_107 75 s 1 ⟨⟨by decide, by decide⟩, fun z => by omega, fun _ => ⟨⟨by omega, by omega⟩, fun _ => ⟨t75, ?_⟩, fun z => by omega⟩⟩
    rw [mu.2.2.2.1]
    exact rX9_plainSums mu hp ⟨C0, by omega⟩ hT (by rw [← hR']; exact hQ h ⟨fun _ _ _ => rfl, fun _ _ => rfl⟩)
  | i + 1, M, C, s, h, mu, hs, s0, C0, C9, hR, hQ => by
    have hno : ∀ a k n, noBK p M T.toNat C → isBK p M T.toNat C a k n → False := fun a k n h0 hb => by
      have := h0 a k hb.2.1 hb.2.2.1 hb.2.2.2.1 hb.2.2.2.2.1
      have := hb.2.2.2.2.2.1
      have := hb.1
      omega
    refine vX9_sums_107 75 s 1 ⟨⟨by decide, by decide⟩, fun z => by omega, fun _ => ⟨⟨by omega, by omega⟩, fun z => by omega, fun _ => ⟨t75, rX9_share mu hp ⟨C0, by omega⟩ hT (fun no => ⟨⟨by decide, by decide⟩, fun _ => ?_, fun z => absurd rfl z⟩) (fun a k n h' bk mu' f => ⟨⟨by decide, by decide⟩, fun z => by omega, fun _ => ?_⟩)⟩⟩⟩
    · rcases hR with ⟨_, e⟩ | ⟨a, k, n, bk, _⟩
      · refine vX9_sums_107 75 (s + 0) 0 ⟨⟨by decide, by decide⟩, fun _ => ⟨t75, ?_⟩, fun z => absurd rfl z⟩
        rw [mu.2.2.2.1]
        exact rX9_plainSums mu hp ⟨C0, by omega⟩ hT (by rw [Int.add_zero, ← e]; exact hQ h ⟨fun _ _ _ => rfl, fun _ _ => rfl⟩)
      · exact (hno _ _ _ no bk).elim
    · rcases hR with ⟨no, _⟩ | ⟨a', k', n', bk', hR'⟩
      · exact (hno _ _ _ no bk).elim
      · obtain ⟨rfl, rfl, rfl⟩ := isBK_un bk bk'
        exact rX9_sumsLoop hp hT i _ (C + 1) (s + 1) h' mu' (by omega) (by omega) (by omega) (by omega) hR' (fun h2 f2 => hQ h2 (f.tr f2))
theorem rX9_sums {w v r : Int} {B' : BS} (hw : inR w) (hv : inR v) (bw : BW B) (hm : MX h B) (hA : A_su w v B r B') (hQ : ∀ h', MX h' B' → FM h h' → Q r G0 h') : R l MX9_sums (d + 3) 0 0 [vR 75, vI w, vI v] G0 h Q := by
  obtain ⟨eB, hA⟩ := hA
  rw [eB] at hQ
  have q := hQ h hm FM.rf
  have r1 : inR 1 := ⟨by decide, by decide⟩
  have r0 : inR 0 := ⟨by decide, by decide⟩
  have hp := bw.1
  have hW := bw.2.1
  have h40 := hW.2.2.1
  have mr := hm.1
  have ms := hm.2.2.2.1
  have L : ∀ v, inR v → inL v := fun v hv => ⟨by have := hv.1; omega, by have := hv.2; omega⟩
  have no : ¬ ((w = 0 ∨ w = 1) ∧ (v = 0 ∨ v = 1)) → Q (-1) G0 h := fun n => by rw [show -1 = r by omega]; exact q
  refine eX9_sums 75 w v (vX9_sums_0 75 w v ⟨hw, rX9_in (L w hw) (by decide) (by decide) (fun o1 => ⟨r1, fun z => by omega, fun _ => ⟨hv, rX9_in (L v hv) (by decide) (by decide) (fun o2 => ⟨r1, fun _ => ?_, fun z => by omega⟩) (fun n => ⟨r0, fun z => absurd rfl z, fun _ => no (by omega)⟩)⟩⟩) (fun n => ⟨r0, fun _ => no (by omega), fun z => absurd rfl z⟩)⟩)
  have zw := hW.1 w (by omega) (by omega)
  simp only [mr.sz, hm.2.2.1.1 w (by omega) (by omega)]
  refine ⟨t75, i76 (by omega) (by omega), fun h15 e15 => ?_⟩
  have a15 : ∀ j, j ≠ 27 → h15 75 j = h 75 j := fun j hj => by rw [e15, hset_oj hj]
  have o15 : ∀ b, b ≠ 75 → h15 b = h b := fun b hb => by rw [e15, hset_oa hb]
  have m15 : MR h15 := mr.fr (fun j _ _ _ _ _ j27 => a15 j j27)
  refine lp_up (σ := HP) (fun t hh => S l MX9_sums (d + 2 + 1, 0, 0, 0, 0) 34 [some (vR 75), some (vI w), some (vI v), some (vI t), none] [] G0 hh Q) (fun t hh => 0 ≤ t ∧ (∀ b, b ≠ 97 → hh b = h15 b) ∧ ∀ t' c, 0 ≤ t' → t' < t → 0 ≤ c → c < 9 → hh 97 (49 * t' + c) = D (bp B) (rw' (bP B) (40 * w + t')) c) (tm (bP B)) ?_ ?_ 0 h15 h40.1 ⟨by decide, fun _ _ => rfl, fun t' c t0 t1 => by omega⟩
  · intro t hh ht ⟨t0, g, dn⟩ ih
    have e75 := g 75 (by decide)
    refine vX9_sums_34 75 w v t ?_
    simp only [e75, a15 4 (by decide), ms.1]
    refine ⟨t75, ⟨by omega, by omega⟩, ⟨by omega, by omega⟩, fun c => by omega, fun _ => ?_⟩
    refine lp_up (σ := HP) (fun c hk => S l MX9_sums (d + 2 + 1, 0, 0, 0, 0) 45 [some (vR 75), some (vI w), some (vI v), some (vI t), some (vI c)] [] G0 hk Q) (fun c hk => 0 ≤ c ∧ (∀ b, b ≠ 97 → hk b = h15 b) ∧ (∀ t' c, 0 ≤ t' → t' < t → 0 ≤ c → c < 9 → hk 97 (49 * t' + c) = D (bp B) (rw' (bP B) (40 * w + t')) c) ∧ ∀ c', 0 ≤ c' → c' < c → hk 97 (49 * t + c') = D (bp B) (rw' (bP B) (40 * w + t)) c') 9 ?_ ?_ 0 hh (by decide) ⟨by decide, g, dn, fun c' c0 c1 => by omega⟩
    · intro c hk hc ⟨c0, g2, dn2, dr⟩ ih2
      have e75' := g2 75 (by decide)
      have v1 : hk 78 (27 * t + 9 * w + c) = D (bp B) (rw' (bP B) (40 * w + t)) c := by
        rw [g2 78 (by decide), o15 78 (by decide)]
        exact ms.at t0 ht (by omega) (by omega) c0 hc
      refine vX9_sums_45 75 w v t c ?_
      simp only [e75', m15.sc, m15.sh, v1]
      refine ⟨⟨by omega, by omega⟩, fun z => by omega, fun _ => ⟨t75, i78 (by omega) (by omega), i97 (by omega) (by omega), fun h6 e6 => ih2 h6 ⟨by omega, fun b hb => by rw [e6, hset_oa hb]; exact g2 b hb, fun t' c' t0' t1' c0' c1' => by rw [e6, hset_oj (by omega)]; exact dn2 t' c' t0' t1' c0' c1', fun c' c0' c1' => ?_⟩⟩⟩
      by_cases e : c' = c
      · rw [e, e6, hset_s]
      · rw [e6, hset_oj (by omega)]; exact dr c' c0' (by omega)
    · intro hk ⟨c0, g2, dn2, dr⟩
      refine vX9_sums_45 75 w v t 9 ⟨⟨by decide, by decide⟩, fun _ => ih hk ⟨by omega, g2, fun t' c t0' t1' c0' c1' => ?_⟩, fun z => by omega⟩
      by_cases e : t' = t
      · rw [e]; exact dr c c0' c1'
      · exact dn2 t' c t0' (by omega) c0' c1'
  · intro hh ⟨t0, g, dn⟩
    have e75 := g 75 (by decide)
    have mu : MU hh (bp B) (tm (bP B)) (sz (bP B) w) (fun t => D (bp B) (rw' (bP B) (40 * w + t))) := ⟨m15.fr (fun j _ _ _ _ _ _ => by rw [e75]), by rw [e75, a15 0 (by decide)]; exact hm.2.1, by rw [e75, a15 4 (by decide)]; exact ms.1, by rw [e75, e15, hset_s], fun t c t0 t1 c0 c1 => ⟨dn t c t0 t1 c0 (by omega), D_D hp⟩⟩
    have fin : ∀ h', FrU hh h' → Q r G0 h' := fun h' f => hQ h' (hm.wk (fun b b0 b1 => by rw [f.1 b (by omega) (by omega), g b (by omega), o15 b (by omega)]) (fun j _ j27 => by rw [f.2 j j27, e75, a15 j j27])) (fun b hb => by rw [f.1 b (by omega) (by omega), g b (by omega), o15 b (by omega)])
    refine vX9_sums_34 75 w v _ ?_
    simp only [e75, a15 4 (by decide), ms.1]
    refine ⟨t75, ⟨by omega, by omega⟩, ⟨by omega, by omega⟩, fun _ => ⟨hv, fun c => ?_, fun c => ?_⟩, fun c => by omega⟩
    · rcases hA with ⟨_, _, e⟩ | ⟨_, e, _⟩ | ⟨n, _⟩
      · refine vX9_sums_107 75 0 0 ⟨⟨by decide, by decide⟩, fun _ => ⟨t75, ?_⟩, fun z => absurd rfl z⟩
        rw [mu.2.2.2.1]
        exact rX9_plainSums mu hp ⟨by omega, by omega⟩ h40 (by rw [Int.zero_add, ← e]; exact fin hh ⟨fun _ _ _ => rfl, fun _ _ => rfl⟩)
      · exact absurd e c
      · omega
    · rcases hA with ⟨_, e, _⟩ | ⟨_, _, sR⟩ | ⟨n, _⟩
      · omega
      · exact rX9_sumsLoop hp h40 40 _ _ 0 hh mu (by decide) (by decide) (by omega) (by omega) sR fin
      · omega
end Mod13
