/-! solving rows of n unknowns and a right side in column 4 -/
def rel (n : Nat) (c : Int) : Prop := (0 ≤ c ∧ c < n) ∨ c = 4
def Lx (n : Nat) (x ρ : Int → Int) : Int := sm (fun s => ρ s * x s) n + ρ 4 * x 4
def Gs (p : Int) (n : Nat) (x : Int → Int) (M : Int → Int → Int) : Prop := ∀ r : Int, 0 ≤ r → r < 81 → p ∣ Lx n x (M r)
theorem Lx_lin {p a b : Int} {n : Nat} {x ρ' ρ σ : Int → Int} (h : ∀ c, rel n c → p ∣ ρ' c - (a * ρ c + b * σ c)) : p ∣ Lx n x ρ' - (a * Lx n x ρ + b * Lx n x σ) := by
  have e : Lx n x ρ' - (a * Lx n x ρ + b * Lx n x σ) = sm (fun s => (ρ' s - (a * ρ s + b * σ s)) * x s) n + (ρ' 4 - (a * ρ 4 + b * σ 4)) * x 4 := by
    rw [sm_ext n (f := fun s => (ρ' s - (a * ρ s + b * σ s)) * x s) (g := fun s => ρ' s * x s + ((-a) * (ρ s * x s) + (-b) * (σ s * x s))) (fun s _ _ => by grind), sm_add, sm_add, sm_mul, sm_mul]
    unfold Lx
    grind
  rw [e]
  exact Int.dvd_add (sm_dvd n (fun s s0 s1 => Int.dvd_mul_of_dvd_left (h s (.inl ⟨s0, s1⟩)))) (Int.dvd_mul_of_dvd_left (h 4 (.inr rfl)))
def pvM (p : Int) (M : Int → Int → Int) (d a i : Int) : Int → Int → Int := fun r => if r = d then (fun c => M a c * i % p) else if r = a then M d else M r
def elM (p : Int) (M : Int → Int → Int) (d : Int) : Int → Int → Int := fun r => if r = d then M d else fun c => (M r c + (p - M r d) % p * M d c) % p
theorem Gs_pv {p d a i y : Int} {n : Nat} {x : Int → Int} {M : Int → Int → Int} (hi : p ∣ y * i - 1) (d0 : 0 ≤ d) (d1 : d < 81) (a0 : 0 ≤ a) (a1 : a < 81) : Gs p n x (pvM p M d a i) ↔ Gs p n x M := by
  have e1 : pvM p M d a i d = fun c => M a c * i % p := if_pos rfl
  have e2 : ∀ r, r ≠ d → r ≠ a → pvM p M d a i r = M r := fun r r1 r2 => by unfold pvM; rw [if_neg r1, if_neg r2]
  have e3 : a ≠ d → pvM p M d a i a = M d := fun z => by unfold pvM; rw [if_neg z, if_pos rfl]
  have L := Lx_lin (p := p) (a := i) (b := 0) (n := n) (x := x) (ρ' := fun c => M a c * i % p) (ρ := M a) (σ := M a) (fun c _ => by
    have := (Int.dvd_neg).2 (md_dv (p := p) (a := M a c * i))
    rw [show -(M a c * i - M a c * i % p) = M a c * i % p - (i * M a c + 0 * M a c) by grind] at this
    exact this)
  constructor
  · intro h r r0 r1
    by_cases ra : r = a
    · subst ra
      have h1 := h d d0 d1
      rw [e1] at h1
      have h2 := Int.dvd_sub h1 L
      obtain ⟨z1, hz1⟩ := h2
      obtain ⟨z2, hz2⟩ := hi
      refine ⟨y * z1 - z2 * Lx n x (M r), ?_⟩
      grind
    · by_cases rd : r = d
      · have h1 := h a a0 a1
        rw [e3 (by omega)] at h1
        rw [rd]; exact h1
      · have h1 := h r r0 r1
        rw [e2 r rd ra] at h1
        exact h1
  · intro h r r0 r1
    by_cases rd : r = d
    · rw [rd, e1]
      have h1 := h a a0 a1
      obtain ⟨z1, hz1⟩ := h1
      obtain ⟨z2, hz2⟩ := L
      refine ⟨z2 + i * z1, ?_⟩
      grind
    · by_cases ra : r = a
      · rw [ra, e3 (by omega)]; exact h d d0 d1
      · rw [e2 r rd ra]; exact h r r0 r1
theorem Gs_el {p d : Int} {n : Nat} {x : Int → Int} {M : Int → Int → Int} (d0 : 0 ≤ d) (d1 : d < 81) : Gs p n x (elM p M d) ↔ Gs p n x M := by
  have e1 : elM p M d d = M d := if_pos rfl
  have L : ∀ r, r ≠ d → p ∣ Lx n x (elM p M d r) - (1 * Lx n x (M r) + ((p - M r d) % p) * Lx n x (M d)) := fun r rd => Lx_lin (fun c _ => by
    have := (Int.dvd_neg).2 (md_dv (p := p) (a := M r c + (p - M r d) % p * M d c))
    unfold elM
    rw [if_neg rd, Int.one_mul]
    rw [Int.neg_sub] at this
    exact this)
  constructor
  · intro h r r0 r1
    by_cases rd : r = d
    · have := h d d0 d1
      rw [e1] at this
      rw [rd]; exact this
    · have h0 := h d d0 d1
      rw [e1] at h0
      obtain ⟨z0, hz0⟩ := h0
      obtain ⟨z1, hz1⟩ := h r r0 r1
      obtain ⟨z2, hz2⟩ := L r rd
      refine ⟨z1 - z2 - (p - M r d) % p * z0, ?_⟩
      grind
  · intro h r r0 r1
    by_cases rd : r = d
    · rw [rd, e1]; exact h d d0 d1
    · obtain ⟨z0, hz0⟩ := h d d0 d1
      obtain ⟨z1, hz1⟩ := h r r0 r1
      obtain ⟨z2, hz2⟩ := L r rd
      refine ⟨z1 + z2 + (p - M r d) % p * z0, ?_⟩
      grind
def GJ (p : Int) (n : Nat) (d : Int) (M M0 : Int → Int → Int) : Prop := (∀ r c : Int, 0 ≤ r → r < 81 → rel n c → isD p (M r c)) ∧ (∀ r c : Int, 0 ≤ r → r < 81 → 0 ≤ c → c < d → M r c = if r = c then 1 else 0) ∧ ∀ x, Gs p n x M ↔ Gs p n x M0
theorem pv_D {p d a i : Int} {n : Nat} {M : Int → Int → Int} (hp : okp p) (h : ∀ r c : Int, 0 ≤ r → r < 81 → rel n c → isD p (M r c)) (d0 : 0 ≤ d) (d1 : d < 81) : ∀ r c : Int, 0 ≤ r → r < 81 → rel n c → isD p (pvM p M d a i r c) := fun r c r0 r1 rc => by
  unfold pvM
  by_cases rd : r = d
  · rw [if_pos rd]; exact md_D hp
  · rw [if_neg rd]
    by_cases ra : r = a
    · rw [if_pos ra]; exact h d c d0 d1 rc
    · rw [if_neg ra]; exact h r c r0 r1 rc
theorem GJ_step {p d a : Int} {n : Nat} {M M0 : Int → Int → Int} (hp : okp p) (g : GJ p n d M M0) (d0 : 0 ≤ d) (dn : d < n) (n4 : n ≤ 4) (a0 : d ≤ a) (a1 : a < 81) (nz : M a d ≠ 0) : GJ p n (d + 1) (elM p (pvM p M d a (iv p (M a d))) d) M0 := by
  obtain ⟨gD, gc, gx⟩ := g
  have va := gD a d (by omega) a1 (.inl ⟨d0, dn⟩)
  have va1 := va.1
  have io := iv_ok hp (show 1 ≤ M a d by omega) va.2
  have D1 := pv_D (a := a) (i := iv p (M a d)) hp gD d0 (show d < 81 by omega)
  have pb := okp_b hp
  have hi : p ∣ M a d * iv p (M a d) - 1 := by
    have := md_dv (p := p) (a := M a d * iv p (M a d))
    rw [io.2.2] at this
    exact this
  refine ⟨fun r c r0 r1 rc => ?_, fun r c r0 r1 c0 c1 => ?_, fun x => ?_⟩
  · unfold elM
    by_cases rd : r = d
    · rw [if_pos rd]; exact D1 d c d0 (by omega) rc
    · rw [if_neg rd]; exact md_D hp
  · have pd : ∀ c, pvM p M d a (iv p (M a d)) d c = M a c * iv p (M a d) % p := fun c => by unfold pvM; rw [if_pos rfl]
    have pr : ∀ r c, 0 ≤ r → r < 81 → 0 ≤ c → c < d → r ≠ d → pvM p M d a (iv p (M a d)) r c = if r = c then 1 else 0 := fun r c r0 r1 c0 c1 rd => by
      unfold pvM
      rw [if_neg rd]
      by_cases ra : r = a
      · rw [if_pos ra, gc d c d0 (by omega) c0 c1, if_neg (by omega), if_neg (by omega)]
      · rw [if_neg ra, gc r c r0 r1 c0 c1]
    have p1 : pvM p M d a (iv p (M a d)) d d = 1 := by rw [pd, io.2.2]
    unfold elM
    by_cases cd : c = d
    · rw [cd]
      by_cases rd : r = d
      · rw [if_pos rd, if_pos rd, p1]
      · rw [if_neg rd, if_neg rd]
        show (pvM p M d a (iv p (M a d)) r d + (p - pvM p M d a (iv p (M a d)) r d) % p * pvM p M d a (iv p (M a d)) d d) % p = 0
        rw [p1]
        exact ng1 hp (D1 r d r0 r1 (.inl ⟨d0, dn⟩))
    · have c2 : c < d := by omega
      have z : pvM p M d a (iv p (M a d)) d c = 0 := by rw [pd, gc a c (by omega) a1 c0 c2, if_neg (by omega), Int.zero_mul, Int.zero_emod]
      by_cases rd : r = d
      · rw [if_pos rd, z, if_neg (by omega)]
      · rw [if_neg rd]
        show (pvM p M d a (iv p (M a d)) r c + (p - pvM p M d a (iv p (M a d)) r d) % p * pvM p M d a (iv p (M a d)) d c) % p = _
        rw [z, Int.mul_zero, Int.add_zero, pr r c r0 r1 c0 c2 rd]
        split
        · exact Int.emod_eq_of_lt (by decide) (by omega)
        · exact Int.zero_emod p
  · rw [Gs_el d0 (by omega), Gs_pv hi d0 (by omega) (by omega) a1]
    exact gx x
theorem GJ_piv {p d : Int} {n : Nat} {M M0 : Int → Int → Int} (hp : okp p) (g : GJ p n d M M0) (d0 : 0 ≤ d) (dn : d < n) (n4 : n ≤ 4) (ker : ∀ x : Int → Int, x 4 = 0 → Gs p n x M0 → ∀ s : Int, 0 ≤ s → s < n → p ∣ x s) (hz : ∀ r, d ≤ r → r < 81 → M r d = 0) : False := by
  have x4 : (if (4 : Int) = d then 1 else if (4 : Int) < d then - M 4 d else 0) = 0 := by rw [if_neg (by omega), if_neg (by omega)]
  have := ker (fun s => if s = d then 1 else if s < d then - M s d else 0) x4 ((g.2.2 _).1 (fun r r0 r1 => ?_)) d d0 dn
  · rw [if_pos rfl] at this
    exact one_nd hp this
  · show p ∣ sm (fun s => M r s * (if s = d then 1 else if s < d then - M s d else 0)) n + M r 4 * (if (4 : Int) = d then 1 else if (4 : Int) < d then - M 4 d else 0)
    rw [x4, Int.mul_zero, Int.add_zero]
    by_cases rd : d ≤ r
    · refine sm_dvd n (fun s s0 s1 => ?_)
      by_cases sd : s = d
      · rw [sd, hz r rd r1, Int.zero_mul]; exact Int.dvd_zero p
      · rw [if_neg sd]
        by_cases s2 : s < d
        · rw [g.2.1 r s r0 r1 s0 s2, if_neg (by omega), Int.zero_mul]; exact Int.dvd_zero p
        · rw [if_neg s2, Int.mul_zero]; exact Int.dvd_zero p
    · rw [sm_ext n (g := fun s => (if s = r then 1 else 0) * (- M r d) + (if s = d then 1 else 0) * M r d) (fun s s0 s1 => ?_), sm_add, sm_one (f := fun _ => - M r d) r0, sm_one (f := fun _ => M r d) d0, if_pos (by omega), if_pos dn, show - M r d + M r d = 0 by omega]
      · exact Int.dvd_zero p
      · by_cases sd : s = d
        · rw [if_pos sd, if_neg (by omega), if_pos sd, sd]; omega
        · rw [if_neg sd, if_neg sd]
          by_cases s2 : s < d
          · rw [if_pos s2, g.2.1 r s r0 r1 s0 s2]
            by_cases sr : r = s
            · rw [if_pos sr, if_pos sr.symm, sr]; omega
            · rw [if_neg sr, if_neg (fun z => sr z.symm)]; omega
          · rw [if_neg s2, if_neg (by omega)]; omega
theorem D_uq {p a b : Int} (hp : okp p) (ha : isD p a) (hb : isD p b) (h : p ∣ a - b) : a = b := by
  obtain ⟨z, hz⟩ := h
  have a1 := ha.1
  have a2 := ha.2
  have b1 := hb.1
  have b2 := hb.2
  rcases hp with rfl | rfl | rfl | rfl <;> omega
theorem GJ_end {p : Int} {n : Nat} {M M0 : Int → Int → Int} {β : Int → Int} (hp : okp p) (g : GJ p n n M M0) (n4 : n ≤ 4) (hb : ∀ s : Int, 0 ≤ s → s < n → isD p (β s)) (sol : Gs p n (fun s => if s = 4 then -1 else β s) M0) : ∀ s : Int, 0 ≤ s → s < n → M s 4 = β s := fun s s0 s1 => by
  have h := (g.2.2 _).2 sol s s0 (by omega)
  have h' : p ∣ sm (fun t => M s t * (if t = 4 then -1 else β t)) n + M s 4 * (if (4 : Int) = 4 then -1 else β 4) := h
  rw [if_pos rfl, sm_ext n (g := fun t => (if t = s then 1 else 0) * β t) (fun t t0 t1 => by
    rw [if_neg (by omega), g.2.1 s t s0 (by omega) t0 t1]
    by_cases e : s = t
    · rw [if_pos e, if_pos e.symm]
    · rw [if_neg e, if_neg (fun z => e z.symm)]), sm_one s0, if_pos s1] at h'
  rw [show β s + M s 4 * -1 = β s - M s 4 by omega] at h'
  exact (D_uq hp (hb s s0 s1) (g.1 s 4 s0 (by omega) (.inr rfl)) h').symm
