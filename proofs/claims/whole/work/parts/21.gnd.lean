def G0 : GS := [(8, 12), (1, 3), (10, 10), (10, 7), (4, 7), (10, 3), (10, 81), (10, 120), (10, 120), (10, 120), (4, 7), (10, 3), (10, 81), (10, 120), (10, 120), (10, 120), (12, 4), (4, 7), (10, 3), (10, 81), (10, 120), (10, 120), (10, 120), (4, 7), (10, 3), (10, 81), (10, 120), (10, 120), (10, 120), (4, 7), (10, 3), (10, 81), (10, 120), (10, 120), (10, 120), (4, 7), (10, 3), (10, 81), (10, 120), (10, 120), (10, 120), (11, 4), (10, 2), (3, 1), (2, 1), (5, 2), (10, 81), (0, 5), (10, 9), (10, 9), (10, 9), (6, 11), (10, 60), (10, 60), (10, 60), (13, 5), (10, 60), (10, 60), (10, 60), (10, 60), (10, 60), (10, 4), (0, 5), (10, 9), (10, 9), (10, 9), (0, 5), (10, 9), (10, 9), (10, 9), (7, 10), (10, 360), (10, 360), (10, 40), (10, 343), (9, 28), (10, 3), (10, 729), (10, 1080), (10, 18), (11, 4), (10, 12), (10, 2916), (10, 4320), (10, 4), (10, 3), (10, 729), (10, 1080), (10, 729), (10, 60), (10, 60), (10, 4), (10, 3645), (10, 324), (10, 4), (10, 405), (10, 4), (10, 1960)]
theorem lp_up {σ : Type} (SS : Int → σ → Prop) (I : Int → σ → Prop) (hi : Int) (hstep : ∀ i s, i < hi → I i s → (∀ s', I (i + 1) s' → SS (i + 1) s') → SS i s) (hend : ∀ s, I hi s → SS hi s) (i : Int) (s : σ) (hl : i ≤ hi) (h0 : I i s) : SS i s := by
  obtain ⟨n, hn⟩ := Int.eq_ofNat_of_zero_le (show 0 ≤ hi - i by omega)
  induction n generalizing i s with
  | zero =>
    have : i = hi := by omega
    subst this
    exact hend s h0
  | succ n ih => exact hstep i s (by omega) h0 (fun s' hs' => ih (i + 1) s' (by omega) hs' (by omega))
theorem lp_ms {σ : Type} (SS : σ → Prop) (I : σ → Prop) (μ : σ → Nat) (hstep : ∀ s, I s → (∀ s', I s' → μ s' < μ s → SS s') → SS s) (s : σ) (h0 : I s) : SS s := by
  have key : ∀ n s, μ s < n → I s → SS s := by
    intro n
    induction n with
    | zero => intro s h; omega
    | succ n ih => intro s h hI; exact hstep s hI (fun s' hs' hm => ih s' (by omega) hs')
  exact key (μ s + 1) s (by omega) h0
def okp (p : Int) : Prop := p = 2 ∨ p = 3 ∨ p = 5 ∨ p = 7
theorem okp_b {p : Int} (h : okp p) : 2 ≤ p ∧ p ≤ 7 := by unfold okp at h; omega
theorem PW9 {p : Int} (h : okp p) : PW p 9 ≤ 40353607 := by
  rcases h with rfl | rfl | rfl | rfl <;> decide
theorem PWm {p i : Int} (h : okp p) (hi : i ≤ 9) : 1 ≤ PW p i ∧ PW p i ≤ 40353607 := by
  have h1 := PW_pos (okp_b h).1 i
  have h2 := PW_le (okp_b h).1 hi
  have h3 := PW9 h
  omega
def iv (p a : Int) : Int := a ^ (p.toNat - 2) % p
theorem iv_ok {p a : Int} (h : okp p) (h1 : 1 ≤ a) (h2 : a < p) : 1 ≤ iv p a ∧ iv p a < p ∧ a * iv p a % p = 1 := by
  rcases h with rfl | rfl | rfl | rfl
  · have : a = 1 := by omega
    subst this; decide
  · rcases (show a = 1 ∨ a = 2 by omega) with rfl | rfl <;> decide
  · rcases (show a = 1 ∨ a = 2 ∨ a = 3 ∨ a = 4 by omega) with rfl | rfl | rfl | rfl <;> decide
  · rcases (show a = 1 ∨ a = 2 ∨ a = 3 ∨ a = 4 ∨ a = 5 ∨ a = 6 by omega) with rfl | rfl | rfl | rfl | rfl | rfl <;> decide
theorem iv_un {p a b : Int} (h : okp p) (h1 : 1 ≤ a) (h2 : a < p) (h3 : 1 ≤ b) (h4 : b < p) (h5 : a * b % p = 1) : b = iv p a := by
  rcases h with rfl | rfl | rfl | rfl
  · have : a = 1 := by omega
    subst this
    have : b = 1 := by omega
    subst this; decide
  · rcases (show a = 1 ∨ a = 2 by omega) with rfl | rfl <;> rcases (show b = 1 ∨ b = 2 by omega) with rfl | rfl <;> revert h5 <;> decide
  · rcases (show a = 1 ∨ a = 2 ∨ a = 3 ∨ a = 4 by omega) with rfl | rfl | rfl | rfl <;> rcases (show b = 1 ∨ b = 2 ∨ b = 3 ∨ b = 4 by omega) with rfl | rfl | rfl | rfl <;> revert h5 <;> decide
  · rcases (show a = 1 ∨ a = 2 ∨ a = 3 ∨ a = 4 ∨ a = 5 ∨ a = 6 by omega) with rfl | rfl | rfl | rfl | rfl | rfl <;> rcases (show b = 1 ∨ b = 2 ∨ b = 3 ∨ b = 4 ∨ b = 5 ∨ b = 6 by omega) with rfl | rfl | rfl | rfl | rfl | rfl <;> revert h5 <;> decide
/-- the ground, at cell 1 -/
def Gd (h : HP) (p : Int) : Prop := okp p ∧ h 1 0 = p ∧ h 1 1 = 2 ∧ h 1 2 = 3 ∧ (∀ i, 0 ≤ i → i ≤ 9 → h 2 i = PW p i) ∧ ∀ a, 1 ≤ a → a < p → h 3 a = iv p a
abbrev isD (p x : Int) : Prop := 0 ≤ x ∧ x < p
abbrev isR (p x : Int) : Prop := 0 ≤ x ∧ x < PW p 9
theorem isR_b {p x : Int} (h : okp p) (hx : isR p x) : 0 ≤ x ∧ x ≤ 2147483647 := by
  have := PW9 h
  have := hx.2
  exact ⟨hx.1, by omega⟩
section Gnd
variable {l : Launch} {d : Nat} {h : HP} {p : Int} {Q : Int → GS → HP → Prop}
theorem rX1_canBe {a : Int} {G : GS} (ha : inR a) (h1 : okp a → Q 1 G h) (h0 : ¬ okp a → Q 0 G h) : R l MX1_canBe d 0 0 [vI a] G h Q := by
  refine eX1_canBe a (vX1_canBe_0 a ⟨ha, fun c => h1 (Or.inl c), fun c1 => ⟨fun c => h1 (Or.inr (Or.inl c)), fun c2 => ⟨fun c => h1 (Or.inr (Or.inr (Or.inl c))), fun c3 => ⟨fun c => h0 ?_, fun c => h1 (Or.inr (Or.inr (Or.inr c)))⟩⟩⟩⟩)
  unfold okp
  omega
theorem rX1_number {x i : Int} (hg : Gd h p) (hx : 0 ≤ x ∧ x ≤ 2147483647) (hi : 0 ≤ i ∧ i ≤ 9) (hQ : Q (D p x i) G0 h) : R l MX1_number d 0 0 [vR 1, vI x, vI i] G0 h Q := by
  refine eX1_number 1 x i (vX1_number_0 1 x i ?_)
  simp only [hg.2.1, hg.2.2.1]
  rw [hg.2.2.2.2.1 i hi.1 hi.2]
  have hp := okp_b hg.1
  have h1 := PWm hg.1 hi.2
  have h2 : 0 ≤ x / PW p i := Int.ediv_nonneg hx.1 (by omega)
  have h3 : x / PW p i ≤ x := Int.ediv_le_self _ hx.1
  exact ⟨rfl, ⟨rfl, hi.1, by show i < 10; omega⟩, ⟨hx, by omega, by omega⟩, ⟨⟨h2, by omega⟩, by omega, by omega⟩, hQ⟩
theorem rX1_isNumber {x : Int} (hg : Gd h p) (hx : inR x) (h1 : isD p x → Q 1 G0 h) (h0 : ¬ isD p x → Q 0 G0 h) : R l MX1_isNumber d 0 0 [vR 1, vI x] G0 h Q := by
  refine eX1_isNumber 1 x (vX1_isNumber_0 1 x ?_)
  simp only [hg.2.1]
  have hp := okp_b hg.1
  exact ⟨hx, fun c => h0 (by unfold isD; omega), fun c => ⟨rfl, ⟨by omega, by omega⟩, fun c2 => h0 (by unfold isD; omega), fun c2 => h1 ⟨c, c2⟩⟩⟩
/-- the row with number v at i -/
def wn (p x i v : Int) : Int := x + (v - D p x i) * PW p i
theorem rX1_withNumber {x i v : Int} (hg : Gd h p) (hx : 0 ≤ x ∧ x ≤ 2147483647) (hi : 0 ≤ i ∧ i ≤ 9) (hQ : Q (wn p x i v) G0 h) : R l MX1_withNumber (d + 1) 0 0 [vR 1, vI x, vI i, vI v] G0 h Q := by
  refine eX1_withNumber 1 x i v (vX1_withNumber_0 1 x i v ⟨rfl, ?_⟩)
  refine rX1_number hg hx hi ?_
  simp only [hg.2.2.1]
  refine ⟨rfl, ⟨rfl, hi.1, by show i < 10; omega⟩, ?_⟩
  rw [hg.2.2.2.2.1 i hi.1 hi.2]
  exact hQ
/-- row a plus f times row b -/
def pl (p a f b : Int) : Int := en p (fun i => (D p a i + f * D p b i) % p) 9
theorem xor_D {a b : Int} (ha : 0 ≤ a) (hb : 0 ≤ b) {i : Int} (hi : 0 ≤ i) : D 2 ((a.toNat ^^^ b.toNat : Nat) : Int) i = (D 2 a i + 1 * D 2 b i) % 2 := by
  obtain ⟨a, rfl⟩ := Int.eq_ofNat_of_zero_le ha
  obtain ⟨b, rfl⟩ := Int.eq_ofNat_of_zero_le hb
  obtain ⟨i, rfl⟩ := Int.eq_ofNat_of_zero_le hi
  have key : ∀ x : Nat, D 2 (x : Int) (i : Int) = ((x / 2 ^ i % 2 : Nat) : Int) := by
    intro x
    unfold D
    rw [PW_n]
    simp
  rw [key]
  show _ = (D 2 ((a : Nat) : Int) (i : Int) + 1 * D 2 ((b : Nat) : Int) (i : Int)) % 2
  rw [key, key]
  have e := Nat.testBit_xor a b i
  simp only [Nat.testBit_eq_decide_div_mod_eq] at e
  have h1 : a / 2 ^ i % 2 < 2 := Nat.mod_lt _ (by decide)
  have h2 : b / 2 ^ i % 2 < 2 := Nat.mod_lt _ (by decide)
  have h3 : (a ^^^ b) / 2 ^ i % 2 < 2 := Nat.mod_lt _ (by decide)
  show (((a ^^^ b) / 2 ^ i % 2 : Nat) : Int) = _
  generalize (a ^^^ b) / 2 ^ i % 2 = z at *
  generalize a / 2 ^ i % 2 = x at *
  generalize b / 2 ^ i % 2 = y at *
  rcases (show x = 0 ∨ x = 1 by omega) with rfl | rfl <;> rcases (show y = 0 ∨ y = 1 by omega) with rfl | rfl <;> rcases (show z = 0 ∨ z = 1 by omega) with rfl | rfl <;> simp at e ⊢
end Gnd
