theorem sm_ext {f g : Int → Int} : ∀ n : Nat, (∀ i : Int, 0 ≤ i → i < n → f i = g i) → sm f n = sm g n
  | 0, _ => rfl
  | n + 1, h => by
    show sm f n + f n = sm g n + g n
    rw [sm_ext n (fun i h1 h2 => h i h1 (by omega)), h n (by omega) (by omega)]
theorem sm_add {f g : Int → Int} : ∀ n : Nat, sm (fun i => f i + g i) n = sm f n + sm g n
  | 0 => rfl
  | n + 1 => by
    show sm (fun i => f i + g i) n + (f n + g n) = sm f n + f n + (sm g n + g n)
    rw [sm_add n]; omega
theorem sm_mul {f : Int → Int} {c : Int} : ∀ n : Nat, sm (fun i => c * f i) n = c * sm f n
  | 0 => by simp [sm]
  | n + 1 => by
    show sm (fun i => c * f i) n + c * f n = c * (sm f n + f n)
    rw [sm_mul n, Int.mul_add]
theorem sm_zero : ∀ n : Nat, sm (fun _ => 0) n = 0
  | 0 => rfl
  | n + 1 => by
    show sm (fun _ => 0) n + 0 = 0
    rw [sm_zero n]; rfl
theorem sm_swap {f : Int → Int → Int} : ∀ n m : Nat, sm (fun i => sm (fun j => f i j) m) n = sm (fun j => sm (fun i => f i j) n) m
  | 0, m => by
    show 0 = sm (fun j => 0) m
    rw [sm_zero]
  | n + 1, m => by
    show sm (fun i => sm (fun j => f i j) m) n + sm (fun j => f n j) m = sm (fun j => sm (fun i => f i j) n + f n j) m
    rw [sm_add, sm_swap n m]
theorem sm_dvd {p : Int} {f : Int → Int} : ∀ n : Nat, (∀ i : Int, 0 ≤ i → i < n → p ∣ f i) → p ∣ sm f n
  | 0, _ => ⟨0, by simp [sm]⟩
  | n + 1, h => Int.dvd_add (sm_dvd n (fun i h1 h2 => h i h1 (by omega))) (h n (by omega) (by omega))
theorem sm_skip {f : Int → Int} {t : Int} (t0 : 0 ≤ t) : ∀ n : Nat, t < n + 1 → sm f (n + 1) = f t + sm (fun s => f (sk t s)) n
  | 0, h => by
    have : t = 0 := by omega
    subst this
    show 0 + f 0 = f 0 + 0
    omega
  | n + 1, h => by
    show sm f (n + 1) + f ((n + 1 : Nat) : Int) = f t + (sm (fun s => f (sk t s)) n + f (sk t n))
    by_cases e : t = ((n + 1 : Nat) : Int)
    · have hext : sm (fun s => f (sk t s)) n = sm f n := sm_ext n (fun i i0 i1 => by unfold sk; rw [if_neg (by omega)])
      have h2 : f (sk t n) = f n := by unfold sk; rw [if_neg (by omega)]
      rw [hext, h2, ← e]
      show sm f n + f n + f t = _
      omega
    · have ih := sm_skip (f := f) t0 n (by omega)
      have h2 : f (sk t n) = f ((n + 1 : Nat) : Int) := by
        unfold sk
        rw [if_pos (by omega)]
        rfl
      rw [ih, h2]; omega
/-- u is in the span of v's first n, over the indices below N, modulo p -/
def Sp (p : Int) (N : Nat) (n : Nat) (v : Int → Int → Int) (u : Int → Int) : Prop := ∃ c : Int → Int, ∀ i : Int, 0 ≤ i → i < N → p ∣ u i - sm (fun s => c s * v s i) n
/-- v's first n are independent -/
def Ind (p : Int) (N : Nat) (n : Nat) (v : Int → Int → Int) : Prop := ∀ c : Int → Int, (∀ i : Int, 0 ≤ i → i < N → p ∣ sm (fun s => c s * v s i) n) → ∀ s : Int, 0 ≤ s → s < n → p ∣ c s
theorem inv_ex {p a : Int} (hp : okp p) (ha : ¬ p ∣ a) : ∃ b, p ∣ a * b - 1 := by
  have hb := okp_b hp
  have h0 : a % p ≠ 0 := fun z => ha (Int.dvd_of_emod_eq_zero z)
  have h1 := Int.emod_nonneg a (show p ≠ 0 by omega)
  have h2 := Int.emod_lt_of_pos a (show 0 < p by omega)
  have h3 := iv_ok hp (show 1 ≤ a % p by omega) h2
  refine ⟨iv p (a % p), ?_⟩
  apply Int.dvd_of_emod_eq_zero
  have e1 : a * iv p (a % p) % p = 1 := by
    rw [Int.mul_emod, Int.emod_eq_of_lt (a := iv p (a % p)) (by omega) h3.2.1]
    exact h3.2.2
  rw [Int.sub_emod, e1]
  rw [show (1 : Int) % p = 1 from Int.emod_eq_of_lt (by omega) (by omega)]
  simp
theorem sm_one {f : Int → Int} {t : Int} (t0 : 0 ≤ t) : ∀ n : Nat, sm (fun s => (if s = t then 1 else 0) * f s) n = if t < n then f t else 0
  | 0 => by rw [if_neg (show ¬ t < ((0 : Nat) : Int) by omega)]; rfl
  | n + 1 => by
    show sm (fun s => (if s = t then 1 else 0) * f s) n + (if (n : Int) = t then 1 else 0) * f n = _
    rw [sm_one t0 n]
    by_cases e : (n : Int) = t
    · rw [if_pos e, if_neg (show ¬ t < (n : Int) by omega), if_pos (show t < ((n + 1 : Nat) : Int) by omega), e]; omega
    · rw [if_neg e]
      by_cases c : t < (n : Int)
      · rw [if_pos c, if_pos (show t < ((n + 1 : Nat) : Int) by omega)]; omega
      · rw [if_neg c, if_neg (show ¬ t < ((n + 1 : Nat) : Int) by omega)]; omega
def usk (t j : Int) : Int := if t < j then j - 1 else j
theorem usk_sk {t j : Int} : usk t (sk t j) = j ∧ sk t j ≠ t := by
  unfold usk sk
  by_cases c : t ≤ j
  · rw [if_pos c, if_pos (by omega)]; omega
  · rw [if_neg c, if_neg (by omega)]; omega
theorem steinitz {p : Int} {N : Nat} (hp : okp p) : ∀ (n k : Nat) (v u : Int → Int → Int), Ind p N k u → (∀ s : Int, 0 ≤ s → s < k → Sp p N n v (u s)) → k ≤ n
  | 0, k, v, u, hI, hS => by
    apply Classical.byContradiction
    intro hk
    have hb := okp_b hp
    have h1 := hI (fun s => if s = 0 then 1 else 0) (fun i i0 iN => by
      rw [sm_one (by decide) k, if_pos (by omega)]
      obtain ⟨c, hc⟩ := hS 0 (by decide) (by omega)
      have := hc i i0 iN
      rw [show sm (fun s => c s * v s i) 0 = 0 from rfl, Int.sub_zero] at this
      exact this) 0 (by decide) (by omega)
    rw [if_pos rfl] at h1
    have := Int.le_of_dvd (by decide) h1
    omega
  | n + 1, k, v, u, hI, hS => by
    have hC : ∃ C : Int → Int → Int, ∀ s : Int, 0 ≤ s → s < k → ∀ i : Int, 0 ≤ i → i < N → p ∣ u s i - sm (fun j => C s j * v j i) (n + 1) := by
      have h0 : ∀ s : Int, ∃ c : Int → Int, 0 ≤ s → s < k → ∀ i : Int, 0 ≤ i → i < N → p ∣ u s i - sm (fun j => c j * v j i) (n + 1) := fun s => by
        by_cases h : 0 ≤ s ∧ s < k
        · obtain ⟨c, hc⟩ := hS s h.1 h.2
          exact ⟨c, fun _ _ => hc⟩
        · exact ⟨fun _ => 0, fun h1 h2 => absurd ⟨h1, h2⟩ h⟩
      obtain ⟨C, hC⟩ := Classical.axiomOfChoice h0
      exact ⟨C, hC⟩
    obtain ⟨C, hC⟩ := hC
    by_cases hA : ∀ s : Int, 0 ≤ s → s < k → p ∣ C s n
    · have := steinitz hp n k v u hI (fun s s0 s1 => ⟨C s, fun i i0 iN => by
        have h1 := hC s s0 s1 i i0 iN
        have h2 : sm (fun j => C s j * v j i) (n + 1) = sm (fun j => C s j * v j i) n + C s n * v n i := rfl
        rw [h2] at h1
        have h3 : p ∣ C s n * v n i := Int.dvd_trans (hA s s0 s1) (Int.dvd_mul_right _ _)
        have h4 := Int.dvd_add h1 h3
        rw [show u s i - (sm (fun j => C s j * v j i) n + C s n * v n i) + C s n * v n i = u s i - sm (fun j => C s j * v j i) n by omega] at h4
        exact h4⟩)
      omega
    · have hB : ∃ s : Int, 0 ≤ s ∧ s < k ∧ ¬ p ∣ C s n := by
        apply Classical.byContradiction
        intro hn
        apply hA
        intro s s0 s1
        apply Classical.byContradiction
        intro hd
        exact hn ⟨s, s0, s1, hd⟩
      obtain ⟨t, t0, t1, hd⟩ := hB
      obtain ⟨b, hb⟩ := inv_ex hp hd
      obtain ⟨k', rfl⟩ : ∃ k', k = k' + 1 := ⟨k - 1, by omega⟩
      have skb : ∀ s : Int, 0 ≤ s → s < k' → 0 ≤ sk t s ∧ sk t s < ((k' + 1 : Nat) : Int) := fun s s0 s1 => by
        unfold sk
        by_cases c : t ≤ s
        · rw [if_pos c]; omega
        · rw [if_neg c]; omega
      have := steinitz (N := N) hp n k' v (fun s i => u (sk t s) i - C (sk t s) n * b * u t i) (fun c hc => ?_) (fun s s0 s1 => ?_)
      · omega
      · intro s s0 s1
        have key := hI (fun j => if j = t then - sm (fun s => c s * (C (sk t s) n * b)) k' else c (usk t j)) (fun i i0 iN => ?_) (sk t s) (skb s s0 s1).1 (skb s s0 s1).2
        · rw [if_neg usk_sk.2, usk_sk.1] at key
          exact key
        · rw [sm_skip t0 k' t1, if_pos rfl]
          have e1 : sm (fun s => (if sk t s = t then - sm (fun s => c s * (C (sk t s) n * b)) k' else c (usk t (sk t s))) * u (sk t s) i) k' = sm (fun s => c s * u (sk t s) i) k' := sm_ext k' (fun s s0 s1 => by rw [if_neg usk_sk.2, usk_sk.1])
          rw [e1]
          have h1 := hc i i0 iN
          have e2 : sm (fun s => c s * (u (sk t s) i - C (sk t s) n * b * u t i)) k' = sm (fun s => c s * u (sk t s) i) k' + (- u t i) * sm (fun s => c s * (C (sk t s) n * b)) k' := by
            rw [← sm_mul, ← sm_add]
            exact sm_ext k' (fun s _ _ => by grind)
          rw [e2] at h1
          rw [show -sm (fun s => c s * (C (sk t s) n * b)) k' * u t i + sm (fun s => c s * u (sk t s) i) k' = sm (fun s => c s * u (sk t s) i) k' + -u t i * sm (fun s => c s * (C (sk t s) n * b)) k' by grind]
          exact h1
      · refine ⟨fun j => C (sk t s) j - C (sk t s) n * b * C t j, fun i i0 iN => ?_⟩
        have h1 := hC (sk t s) (skb s s0 s1).1 (skb s s0 s1).2 i i0 iN
        have h2 := hC t t0 t1 i i0 iN
        have e1 : sm (fun j => C (sk t s) j * v j i) (n + 1) = sm (fun j => C (sk t s) j * v j i) n + C (sk t s) n * v n i := rfl
        have e2 : sm (fun j => C t j * v j i) (n + 1) = sm (fun j => C t j * v j i) n + C t n * v n i := rfl
        have e3 : sm (fun j => (C (sk t s) j - C (sk t s) n * b * C t j) * v j i) n = sm (fun j => C (sk t s) j * v j i) n + (- (C (sk t s) n * b)) * sm (fun j => C t j * v j i) n := by
          rw [← sm_mul, ← sm_add]
          exact sm_ext n (fun j _ _ => by grind)
        rw [e1] at h1
        rw [e2] at h2
        rw [e3]
        obtain ⟨x1, h1⟩ := h1
        obtain ⟨x2, h2⟩ := h2
        obtain ⟨x3, h3⟩ := hb
        refine ⟨x1 - C (sk t s) n * b * x2 - C (sk t s) n * v n i * x3, ?_⟩
        grind
