/-- row m has the pair (a, k): column a, and column k / 7 as k % 7 times it -/
abbrev hs (p : Int) (m : Int → Int) (a k : Int) : Prop := m a ≠ 0 ∧ a < k / 7 ∧ m (k / 7) ≠ 0 ∧ m (k / 7) * iv p (m a) % p = k % 7
def cnt (p : Int) (M : Int → Int → Int) (a k : Int) : Nat → Int
  | 0 => 0
  | t + 1 => cnt p M a k t + (if hs p (M t) a k then 1 else 0)
theorem cnt_s {p a k t : Int} {M : Int → Int → Int} (h : 0 ≤ t) : cnt p M a k (t + 1).toNat = cnt p M a k t.toNat + (if hs p (M t) a k then 1 else 0) := by
  rw [nat_s h]
  show cnt p M a k t.toNat + (if hs p (M (t.toNat : Int)) a k then 1 else 0) = _
  rw [Int.toNat_of_nonneg h]
theorem cnt_b {p a k : Int} {M : Int → Int → Int} : ∀ t : Nat, 0 ≤ cnt p M a k t ∧ cnt p M a k t ≤ t
  | 0 => by show (0 : Int) ≤ 0 ∧ (0 : Int) ≤ ((0 : Nat) : Int); omega
  | t + 1 => by
    have := cnt_b (p := p) (a := a) (k := k) (M := M) t
    show 0 ≤ cnt p M a k t + (if hs p (M t) a k then 1 else 0) ∧ cnt p M a k t + (if hs p (M t) a k then 1 else 0) ≤ ((t + 1 : Nat) : Int)
    by_cases c : hs p (M t) a k
    · rw [if_pos c]; omega
    · rw [if_neg c]; omega
def isBK (p : Int) (M : Int → Int → Int) (T : Nat) (Cn a k n : Int) : Prop := 2 ≤ n ∧ 0 ≤ a ∧ a < Cn ∧ 0 ≤ k ∧ k < 7 * Cn ∧ cnt p M a k T = n ∧ (∀ a' k', 0 ≤ a' → a' < Cn → 0 ≤ k' → k' < 7 * Cn → cnt p M a' k' T ≤ n) ∧ (∀ k', 0 ≤ k' → k' < k → cnt p M a k' T < n) ∧ ∀ a' k', 0 ≤ a' → a' < a → 0 ≤ k' → k' < 7 * Cn → cnt p M a' k' T < n
def noBK (p : Int) (M : Int → Int → Int) (T : Nat) (Cn : Int) : Prop := ∀ a k, 0 ≤ a → a < Cn → 0 ≤ k → k < 7 * Cn → cnt p M a k T ≤ 1
theorem isBK_un {p Cn a k n a' k' n' : Int} {M : Int → Int → Int} {T : Nat} (h1 : isBK p M T Cn a k n) (h2 : isBK p M T Cn a' k' n') : a = a' ∧ k = k' ∧ n = n' := by
  obtain ⟨x1, x2, x3, x4, x5, x6, x7, x8, x9⟩ := h1
  obtain ⟨y1, y2, y3, y4, y5, y6, y7, y8, y9⟩ := h2
  have e1 := x7 a' k' y2 y3 y4 y5
  have e2 := y7 a k x2 x3 x4 x5
  have en : n = n' := by omega
  have ea : a = a' := by
    by_cases c1 : a < a'
    · have := y9 a k x2 c1 x4 x5; omega
    · by_cases c2 : a' < a
      · have := x9 a' k' y2 c2 y4 y5; omega
      · omega
  subst ea
  refine ⟨rfl, ?_, en⟩
  by_cases c1 : k < k'
  · have := y8 k x4 c1; omega
  · by_cases c2 : k' < k
    · have := x8 k' y4 c2; omega
    · omega
/-- what sharing makes of a row -/
def shm (p : Int) (m : Int → Int) (a k Cn : Int) : Int → Int := fun c => if c = Cn then (if hs p m a k then m a else 0) else if hs p m a k ∧ (c = a ∨ c = k / 7) then 0 else m c
abbrev mx0 (x : Int) : Int := if 0 < x then x else 0
def sms (M : Int → Int → Int) (T : Nat) (Cn : Int) : Int := sm (fun t => mx0 (ct (M t) Cn.toNat - 1)) T
def shR (p : Int) (T : Nat) : Nat → (Int → Int → Int) → Int → Int → Int → Prop
  | 0, M, Cn, s, r => r = s + sms M T Cn
  | i + 1, M, Cn, s, r => (noBK p M T Cn ∧ r = s + sms M T Cn) ∨ ∃ a k n, isBK p M T Cn a k n ∧ shR p T i (fun t => shm p (M t) a k Cn) (Cn + 1) (s + 1) r
theorem shR_un {p : Int} {T : Nat} : ∀ (i : Nat) (M : Int → Int → Int) (Cn s r r' : Int), shR p T i M Cn s r → shR p T i M Cn s r' → r = r'
  | 0, M, Cn, s, r, r', h1, h2 => by
    have h1' : r = s + sms M T Cn := h1
    have h2' : r' = s + sms M T Cn := h2
    omega
  | i + 1, M, Cn, s, r, r', h1, h2 => by
    have hno : ∀ a k n, noBK p M T Cn → isBK p M T Cn a k n → False := fun a k n h0 hb => by
      have := h0 a k hb.2.1 hb.2.2.1 hb.2.2.2.1 hb.2.2.2.2.1
      have := hb.2.2.2.2.2.1
      have := hb.1
      omega
    rcases h1 with ⟨n1, e1⟩ | ⟨a, k, n, b1, s1⟩
    · rcases h2 with ⟨n2, e2⟩ | ⟨a', k', n', b2, s2⟩
      · omega
      · exact (hno _ _ _ n1 b2).elim
    · rcases h2 with ⟨n2, e2⟩ | ⟨a', k', n', b2, s2⟩
      · exact (hno _ _ _ n2 b1).elim
      · obtain ⟨rfl, rfl, rfl⟩ := isBK_un b1 b2
        exact shR_un i _ _ _ _ _ s1 s2
/-- a row as a list -/
def LRr (cf vf : Int → Int) (L C p : Int) (m : Int → Int) : Prop := (0 ≤ L ∧ L ≤ 9) ∧ (∀ i, 0 ≤ i → i < L → 0 ≤ cf i ∧ cf i < C ∧ 1 ≤ vf i ∧ vf i < p ∧ m (cf i) = vf i) ∧ (∀ i j, 0 ≤ i → i < j → j < L → cf i < cf j) ∧ ∀ c, 0 ≤ c → c < C → m c ≠ 0 → ∃ i, 0 ≤ i ∧ i < L ∧ cf i = c
theorem LRr.ext {cf vf cf' vf' m m' : Int → Int} {L C p : Int} (h : LRr cf vf L C p m) (e : ∀ i, 0 ≤ i → i < L → cf' i = cf i ∧ vf' i = vf i) (em : ∀ c, 0 ≤ c → c < C → m' c = m c) : LRr cf' vf' L C p m' := by
  obtain ⟨h1, h2, h3, h4⟩ := h
  refine ⟨h1, fun i i0 i1 => ?_, fun i j i0 ij j1 => ?_, fun c c0 c1 hc => ?_⟩
  · rw [(e i i0 i1).1, (e i i0 i1).2, em _ (h2 i i0 i1).1 (h2 i i0 i1).2.1]; exact h2 i i0 i1
  · rw [(e i i0 (by omega)).1, (e j (by omega) j1).1]; exact h3 i j i0 ij j1
  · rw [em c c0 c1] at hc
    obtain ⟨i, i0, i1, ei⟩ := h4 c c0 c1 hc
    exact ⟨i, i0, i1, by rw [(e i i0 i1).1]; exact ei⟩
theorem LRr.len {cf vf m : Int → Int} {p : Int} : ∀ (C : Nat) (L : Int), LRr cf vf L C p m → ct m C = L
  | 0, L, h => by
    by_cases c : 0 < L
    · have := h.2.1 0 (by decide) c; omega
    · have := h.1; show (0 : Int) = L; omega
  | C + 1, L, h => by
    obtain ⟨h1, h2, h3, h4⟩ := h
    have e : ct m (C + 1) = ct m C + (if m C = 0 then 0 else 1) := rfl
    rw [e]
    by_cases c : m C = 0
    · rw [if_pos c]
      have := LRr.len C L ⟨h1, fun i i0 i1 => by
        have := h2 i i0 i1
        refine ⟨this.1, ?_, this.2.2⟩
        by_cases e : cf i = C
        · rw [e] at this; omega
        · omega, h3, fun x x0 x1 hx => h4 x x0 (by omega) hx⟩
      omega
    · rw [if_neg c]
      obtain ⟨i, i0, i1, ei⟩ := h4 C (by omega) (by omega) c
      have il : i = L - 1 := by
        by_cases e : i < L - 1
        · have := h3 i (L - 1) i0 e (by omega)
          have := (h2 (L - 1) (by omega) (by omega)).2.1
          omega
        · omega
      have := LRr.len C (L - 1) ⟨by omega, fun j j0 j1 => by
        have a1 := h2 j j0 (by omega)
        have a2 := h3 j i j0 (by omega) i1
        exact ⟨a1.1, by omega, a1.2.2⟩, fun x y x0 xy y1 => h3 x y x0 xy (by omega), fun x x0 x1 hx => by
          obtain ⟨j, j0, j1, ej⟩ := h4 x x0 (by omega) hx
          refine ⟨j, j0, ?_, ej⟩
          by_cases e : j = L - 1
          · rw [← il] at e; rw [e] at ej; omega
          · omega⟩
      omega
theorem LRr.app {cf vf m : Int → Int} {L C p : Int} (h : LRr cf vf L C p m) (hC : 0 ≤ C) (hL : L ≤ 8) (hv : 1 ≤ m C ∧ m C < p) : LRr (up1 cf L C) (up1 vf L (m C)) (L + 1) (C + 1) p m := by
  obtain ⟨h1, h2, h3, h4⟩ := h
  refine ⟨by omega, fun i i0 i1 => ?_, fun i j i0 ij j1 => ?_, fun c c0 c1 hc => ?_⟩
  · by_cases e : i = L
    · rw [e, up1_s, up1_s]; omega
    · rw [up1_o e, up1_o e]
      have := h2 i i0 (by omega)
      exact ⟨this.1, by omega, this.2.2⟩
  · rw [up1_o (show i ≠ L by omega)]
    by_cases e : j = L
    · rw [e, up1_s]; exact (h2 i i0 (by omega)).2.1
    · rw [up1_o e]; exact h3 i j i0 ij (by omega)
  · by_cases e : c = C
    · exact ⟨L, by omega, by omega, by rw [up1_s, e]⟩
    · obtain ⟨i, i0, i1, ei⟩ := h4 c c0 (by omega) hc
      exact ⟨i, i0, by omega, by rw [up1_o (by omega)]; exact ei⟩
theorem LRr.nxt {cf vf m : Int → Int} {L C p : Int} (h : LRr cf vf L C p m) (hv : m C = 0) : LRr cf vf L (C + 1) p m := by
  obtain ⟨h1, h2, h3, h4⟩ := h
  refine ⟨h1, fun i i0 i1 => ?_, h3, fun c c0 c1 hc => ?_⟩
  · have := h2 i i0 i1
    exact ⟨this.1, by omega, this.2.2⟩
  · by_cases e : c = C
    · rw [e] at hc; exact absurd hv hc
    · exact h4 c c0 (by omega) hc
theorem skq_b {t j n : Int} (h0 : 0 ≤ j) (h1 : j < n - 1) (t0 : 0 ≤ t) : 0 ≤ sk t j ∧ sk t j < n ∧ sk t j ≠ t := by
  unfold sk
  by_cases c : t ≤ j
  · rw [if_pos c]; omega
  · rw [if_neg c]; omega
theorem skq_m {t i j : Int} (h : i < j) : sk t i < sk t j := by
  unfold sk
  by_cases c : t ≤ i
  · rw [if_pos c, if_pos (by omega)]; omega
  · rw [if_neg c]
    by_cases c2 : t ≤ j
    · rw [if_pos c2]; omega
    · rw [if_neg c2]; omega
theorem LRr.cut {cf vf m : Int → Int} {L C p q : Int} (h : LRr cf vf L C p m) (q0 : 0 ≤ q) (q1 : q < L) : LRr (fun i => cf (sk q i)) (fun i => vf (sk q i)) (L - 1) C p (up1 m (cf q) 0) := by
  obtain ⟨h1, h2, h3, h4⟩ := h
  have inj : ∀ i, 0 ≤ i → i < L → i ≠ q → cf i ≠ cf q := fun i i0 i1 hi e => by
    by_cases c : i < q
    · have := h3 i q i0 c q1; omega
    · have := h3 q i q0 (by omega) i1; omega
  refine ⟨by omega, fun i i0 i1 => ?_, fun i j i0 ij j1 => ?_, fun c c0 c1 hc => ?_⟩
  · have sb := skq_b i0 i1 q0
    rw [up1_o (inj _ sb.1 sb.2.1 sb.2.2)]
    exact h2 _ sb.1 sb.2.1
  · have s1 := skq_b (n := L) (t := q) i0 (by omega) q0
    have s2 := skq_b (n := L) (t := q) (show 0 ≤ j by omega) (by omega) q0
    exact h3 _ _ s1.1 (skq_m ij) s2.2.1
  · by_cases e : c = cf q
    · rw [e, up1_s] at hc; exact absurd rfl hc
    · rw [up1_o e] at hc
      obtain ⟨i, i0, i1, ei⟩ := h4 c c0 c1 hc
      have iq : i ≠ q := fun z => e (by rw [← ei, z])
      refine ⟨usk q i, ?_, ?_, ?_⟩
      · unfold usk; split <;> omega
      · unfold usk; split <;> omega
      · show cf (sk q (usk q i)) = c
        have : sk q (usk q i) = i := by
          unfold sk usk
          by_cases c : q < i
          · rw [if_pos c, if_pos (by omega)]; omega
          · rw [if_neg c, if_neg (by omega)]
        rw [this]; exact ei
/-- counting in one column: the tally f, the best before and now -/
def TBI (f : Int → Int) (N a pc pa pk bc ba bk : Int) : Prop := (∀ k, 0 ≤ k → k < N → f k ≤ bc) ∧ ((bc = pc ∧ ba = pa ∧ bk = pk) ∨ (pc < bc ∧ ba = a ∧ 0 ≤ bk ∧ bk < N ∧ f bk = bc ∧ ∀ k, 0 ≤ k → k < bk → f k < bc))
theorem TBI_up {f : Int → Int} {N a pc pa pk bc ba bk k : Int} (h : TBI f N a pc pa pk bc ba bk) (k0 : 0 ≤ k) (k1 : k < N) (hgt : bc < f k + 1 ∨ (f k + 1 = bc ∧ ba = a ∧ k < bk)) (hpa : pa ≠ a) : TBI (up1 f k (f k + 1)) N a pc pa pk (f k + 1) a k := by
  obtain ⟨h1, h2⟩ := h
  refine ⟨fun x x0 x1 => ?_, .inr ⟨?_, rfl, k0, k1, up1_s, fun x x0 x1 => ?_⟩⟩
  · by_cases e : x = k
    · rw [e, up1_s]; omega
    · rw [up1_o e]; have := h1 x x0 x1; omega
  · have := h1 k k0 k1
    rcases h2 with h2 | h2
    · rcases hgt with hgt | hgt
      · omega
      · exact absurd (h2.2.1.symm.trans hgt.2.1) hpa
    · omega
  · rw [up1_o (by omega)]
    have := h1 x x0 (by omega)
    rcases hgt with hgt | hgt
    · omega
    · rcases h2 with h2 | h2
      · exact absurd (h2.2.1.symm.trans hgt.2.1) hpa
      · have := h2.2.2.2.2.2 x x0 (by omega); omega
theorem TBI_no {f : Int → Int} {N a pc pa pk bc ba bk k : Int} (h : TBI f N a pc pa pk bc ba bk) (hno : f k + 1 ≤ bc) (hf : ba = a → f k + 1 = bc → bk ≤ k) : TBI (up1 f k (f k + 1)) N a pc pa pk bc ba bk := by
  obtain ⟨h1, h2⟩ := h
  refine ⟨fun x x0 x1 => ?_, ?_⟩
  · by_cases e : x = k
    · rw [e, up1_s]; exact hno
    · rw [up1_o e]; exact h1 x x0 x1
  · rcases h2 with h2 | h2
    · exact .inl h2
    · refine .inr ⟨h2.1, h2.2.1, h2.2.2.1, h2.2.2.2.1, ?_, fun x x0 x1 => ?_⟩
      · rw [up1_o (fun z => by rw [z] at h2; omega)]; exact h2.2.2.2.2.1
      · by_cases e : x = k
        · rw [e, up1_s]
          by_cases e2 : f k + 1 = bc
          · have := hf h2.2.1 e2; omega
          · omega
        · rw [up1_o e]; exact h2.2.2.2.2.2 x x0 x1
def GB (p : Int) (M : Int → Int → Int) (T : Nat) (Cn a0 bc ba bk : Int) : Prop := (∀ a k, 0 ≤ a → a < a0 → 0 ≤ k → k < 7 * Cn → cnt p M a k T ≤ bc) ∧ ((bc = 1 ∧ ba = -1 ∧ bk = -1) ∨ (2 ≤ bc ∧ 0 ≤ ba ∧ ba < a0 ∧ 0 ≤ bk ∧ bk < 7 * Cn ∧ cnt p M ba bk T = bc ∧ (∀ k, 0 ≤ k → k < bk → cnt p M ba k T < bc) ∧ ∀ a k, 0 ≤ a → a < ba → 0 ≤ k → k < 7 * Cn → cnt p M a k T < bc))
theorem GB_s {p Cn a0 pc pa pk bc ba bk : Int} {M : Int → Int → Int} {T : Nat} {f : Int → Int} (hG : GB p M T Cn a0 pc pa pk) (h0 : 0 ≤ a0) (hf : ∀ k, 0 ≤ k → k < 7 * Cn → f k = cnt p M a0 k T) (hT : TBI f (7 * Cn) a0 pc pa pk bc ba bk) : GB p M T Cn (a0 + 1) bc ba bk := by
  obtain ⟨g1, g2⟩ := hG
  obtain ⟨t1, t2⟩ := hT
  have pc1 : 1 ≤ pc := by rcases g2 with g2 | g2 <;> omega
  have hle : pc ≤ bc := by rcases t2 with t2 | t2 <;> omega
  refine ⟨fun a k a0' a1 k0 k1 => ?_, ?_⟩
  · by_cases e : a = a0
    · rw [e, ← hf k k0 k1]; exact t1 k k0 k1
    · have := g1 a k a0' (by omega) k0 k1; omega
  · rcases t2 with ⟨rfl, rfl, rfl⟩ | ⟨t3, rfl, t5, t6, t7, t8⟩
    · rcases g2 with g2 | g2
      · exact .inl g2
      · exact .inr ⟨g2.1, g2.2.1, by omega, g2.2.2.2⟩
    · refine .inr ⟨by omega, h0, by omega, t5, t6, by rw [← hf bk t5 t6]; exact t7, fun k k0 k1 => by rw [← hf k k0 (by omega)]; exact t8 k k0 k1, fun a k a0' a1 k0 k1 => ?_⟩
      have := g1 a k a0' a1 k0 k1; omega
theorem GB_end {p Cn bc ba bk : Int} {M : Int → Int → Int} {T : Nat} (hG : GB p M T Cn Cn bc ba bk) : (2 ≤ bc → isBK p M T Cn ba bk bc) ∧ (bc < 2 → noBK p M T Cn) := by
  obtain ⟨g1, g2⟩ := hG
  constructor
  · intro h2
    rcases g2 with g2 | g2
    · omega
    · exact ⟨g2.1, g2.2.1, g2.2.2.1, g2.2.2.2.1, g2.2.2.2.2.1, g2.2.2.2.2.2.1, g1, g2.2.2.2.2.2.2.1, g2.2.2.2.2.2.2.2⟩
  · intro h2 a k x1 x2 x3 x4
    have := g1 a k x1 x2 x3 x4; omega
