/-! numbers and their digits -/
def PW (p i : Int) : Int := p ^ i.toNat
def D (p x i : Int) : Int := x / PW p i % p
theorem PW_0 (p : Int) : PW p 0 = 1 := by simp [PW]
theorem PW_s {p i : Int} (h : 0 ≤ i) : PW p (i + 1) = PW p i * p := by
  unfold PW
  rw [show (i + 1).toNat = i.toNat + 1 by omega, Int.pow_succ]
theorem PW_pos {p : Int} (hp : 2 ≤ p) (i : Int) : 0 < PW p i := Int.pow_pos (by omega)
theorem dv_dv {x a b : Int} (hx : 0 ≤ x) (ha : 0 < a) (hb : 0 < b) : x / a / b = x / (a * b) := by
  obtain ⟨x, rfl⟩ := Int.eq_ofNat_of_zero_le hx
  obtain ⟨a, rfl⟩ := Int.eq_ofNat_of_zero_le (Int.le_of_lt ha)
  obtain ⟨b, rfl⟩ := Int.eq_ofNat_of_zero_le (Int.le_of_lt hb)
  have := Nat.div_div_eq_div_mul x a b
  exact_mod_cast this
theorem D_0 (p x : Int) : D p x 0 = x % p := by unfold D; rw [PW_0, Int.ediv_one]
theorem D_s {p x i : Int} (hp : 2 ≤ p) (hx : 0 ≤ x) (hi : 0 ≤ i) : D p x (i + 1) = D p (x / p) i := by
  unfold D
  rw [PW_s hi, dv_dv hx (by omega) (PW_pos hp i), Int.mul_comm p]
theorem D_nn {p x i : Int} (hp : 2 ≤ p) : 0 ≤ D p x i := Int.emod_nonneg _ (by omega)
theorem D_lt {p x i : Int} (hp : 2 ≤ p) : D p x i < p := Int.emod_lt_of_pos _ (by omega)
theorem D_z {p i : Int} : D p 0 i = 0 := by unfold D; simp
/-- the number whose first n digits are f's -/
def en (p : Int) (f : Int → Int) : Nat → Int
  | 0 => 0
  | n + 1 => en p f n + f n * PW p n
theorem PW_n (p : Int) (n : Nat) : PW p (n : Int) = p ^ n := by unfold PW; rw [Int.toNat_natCast]
theorem en_b {p : Int} (hp : 2 ≤ p) {f : Int → Int} : ∀ (n : Nat), (∀ i : Int, 0 ≤ i → i < n → 0 ≤ f i ∧ f i < p) → 0 ≤ en p f n ∧ en p f n < PW p n
  | 0, _ => by simp [en, PW]
  | n + 1, h => by
    have ih := en_b hp n (fun i h1 h2 => h i h1 (by omega))
    have hf := h n (by omega) (by omega)
    have hpos := PW_pos hp (n : Int)
    have e : PW p ((n + 1 : Nat) : Int) = PW p n * p := by
      have := PW_s (p := p) (i := (n : Int)) (by omega)
      simpa using this
    rw [e]
    show 0 ≤ en p f n + f n * PW p n ∧ en p f n + f n * PW p n < _
    have h1 : 0 ≤ f n * PW p n := Int.mul_nonneg hf.1 (Int.le_of_lt hpos)
    have h2 : (f n + 1) * PW p n ≤ p * PW p n := Int.mul_le_mul_of_nonneg_right (by omega) (Int.le_of_lt hpos)
    rw [Int.add_mul, Int.one_mul, Int.mul_comm p] at h2
    omega
theorem D_add {p x y : Int} {n : Nat} (hp : 2 ≤ p) (hx : 0 ≤ x ∧ x < PW p n) (hy : 0 ≤ y) {i : Int} (hi : 0 ≤ i) (hn : i < n) : D p (x + y * PW p n) i = D p x i := by
  unfold D
  have e : PW p n = PW p i * (p * PW p ((n : Int) - i - 1)) := by
    unfold PW
    rw [← Int.mul_assoc, ← Int.pow_succ, ← Int.pow_add]
    congr 1
    omega
  have hpi := PW_pos hp i
  rw [e, show x + y * (PW p i * (p * PW p ((n : Int) - i - 1))) = x + (y * PW p ((n : Int) - i - 1) * p) * PW p i by
    rw [Int.mul_left_comm y, Int.mul_comm (PW p i), Int.mul_comm p, ← Int.mul_assoc y], Int.add_mul_ediv_right _ _ (by omega), Int.add_mul_emod_self_right]
theorem D_top {p x y : Int} {n : Nat} (hp : 2 ≤ p) (hx : 0 ≤ x ∧ x < PW p n) (hy : 0 ≤ y ∧ y < p) : D p (x + y * PW p n) n = y := by
  unfold D
  have hpi := PW_pos hp (n : Int)
  rw [Int.add_mul_ediv_right _ _ (by omega), Int.ediv_eq_zero_of_lt hx.1 hx.2, Int.zero_add, Int.emod_eq_of_lt hy.1 hy.2]
theorem D_en {p : Int} (hp : 2 ≤ p) {f : Int → Int} : ∀ (n : Nat), (∀ i : Int, 0 ≤ i → i < n → 0 ≤ f i ∧ f i < p) → ∀ k : Int, 0 ≤ k → k < n → D p (en p f n) k = f k
  | 0, _, k, h0, h1 => by omega
  | n + 1, h, k, h0, h1 => by
    have hb := en_b hp n (fun i h1 h2 => h i h1 (by omega))
    have hf := h n (by omega) (by omega)
    show D p (en p f n + f n * PW p n) k = f k
    by_cases e : k = (n : Int)
    · subst e; exact D_top hp hb hf
    · rw [D_add hp hb hf.1 h0 (by omega)]
      exact D_en hp n (fun i h1 h2 => h i h1 (by omega)) k h0 (by omega)
theorem D_big {p x i : Int} (hx : 0 ≤ x) (h : x < PW p i) : D p x i = 0 := by
  unfold D; rw [Int.ediv_eq_zero_of_lt hx h]; simp
theorem PW_le {p i j : Int} (hp : 2 ≤ p) (h : i ≤ j) : PW p i ≤ PW p j := by
  unfold PW
  rw [show j.toNat = i.toNat + (j.toNat - i.toNat) by omega, Int.pow_add]
  have h1 : 0 < p ^ i.toNat := Int.pow_pos (by omega)
  have h2 : 0 < p ^ (j.toNat - i.toNat) := Int.pow_pos (by omega)
  have h3 := Int.mul_le_mul_of_nonneg_left (show (1 : Int) ≤ p ^ (j.toNat - i.toNat) by omega) (Int.le_of_lt h1)
  rw [Int.mul_one] at h3
  exact h3
theorem en_D {p : Int} (hp : 2 ≤ p) : ∀ (n : Nat) (x : Int), 0 ≤ x → en p (D p x) n = x % PW p n
  | 0, x, hx => by simp [en, PW, Int.emod_one]
  | n + 1, x, hx => by
    have ih := en_D hp n x hx
    show en p (D p x) n + D p x n * PW p n = _
    rw [ih]
    have e : PW p ((n + 1 : Nat) : Int) = PW p n * p := by
      have := PW_s (p := p) (i := (n : Int)) (by omega)
      simpa using this
    rw [e]
    unfold D
    have hpos := PW_pos hp (n : Int)
    have e1 := Int.emod_add_mul_ediv x (PW p n)
    have e2 := Int.emod_add_mul_ediv (x / PW p n) p
    have e3 := Int.emod_add_mul_ediv x (PW p n * p)
    rw [← dv_dv hx hpos (by omega)] at e3
    have e4 : PW p n * (x / PW p n) = PW p n * (x / PW p n % p) + PW p n * (p * (x / PW p n / p)) := by rw [← Int.mul_add, e2]
    rw [← Int.mul_assoc] at e4
    rw [Int.mul_comm (x / PW p n % p)]
    omega
theorem en_full {p x : Int} (hp : 2 ≤ p) (n : Nat) (hx : 0 ≤ x) (h : x < PW p n) : en p (D p x) n = x := by
  rw [en_D hp n x hx, Int.emod_eq_of_lt hx h]
theorem en_ext {p : Int} {f g : Int → Int} : ∀ n : Nat, (∀ i : Int, 0 ≤ i → i < n → f i = g i) → en p f n = en p g n
  | 0, _ => rfl
  | n + 1, h => by
    show en p f n + f n * PW p n = en p g n + g n * PW p n
    rw [en_ext n (fun i h1 h2 => h i h1 (by omega)), h n (by omega) (by omega)]
theorem D_inj {p x y : Int} (hp : 2 ≤ p) (n : Nat) (hx : 0 ≤ x ∧ x < PW p n) (hy : 0 ≤ y ∧ y < PW p n) (h : ∀ i : Int, 0 ≤ i → i < n → D p x i = D p y i) : x = y := by
  rw [← en_full hp n hx.1 hx.2, ← en_full hp n hy.1 hy.2]
  exact en_ext n h
theorem lt_of_D {p x : Int} (hp : 2 ≤ p) (n k : Nat) (hx : 0 ≤ x ∧ x < PW p n) (hk : k ≤ n) (h : ∀ i : Int, (k : Int) ≤ i → i < n → D p x i = 0) : x < PW p k := by
  have e : en p (D p x) n = en p (D p x) k := by
    obtain ⟨j, rfl⟩ := Nat.le.dest hk
    clear hx hk
    induction j with
    | zero => rfl
    | succ j ih =>
      show en p (D p x) (k + j) + D p x ((k + j : Nat) : Int) * _ = _
      rw [ih (fun i h1 h2 => h i h1 (by omega)), h _ (by omega) (by omega)]
      simp
  rw [en_full hp n hx.1 hx.2] at e
  rw [e]
  exact (en_b hp k (fun i _ _ => ⟨D_nn hp, D_lt hp⟩)).2
