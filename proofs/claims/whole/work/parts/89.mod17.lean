theorem mx3 (a b c : Int) : (if a < (if b < c then c else b) then (if b < c then c else b) else a) = (if (if a < b then b else a) < c then c else (if a < b then b else a)) := by
  by_cases h1 : b < c
  · rw [if_pos h1]
    by_cases h2 : a < b
    · rw [if_pos h2, if_pos h1, if_pos (by omega)]
    · rw [if_neg h2]
  · rw [if_neg h1]
    by_cases h2 : a < b
    · rw [if_pos h2, if_neg h1]
    · rw [if_neg h2, if_neg (by omega)]
theorem el_tab : ∀ p ∈ ([2, 3, 5, 7] : List Int), ∀ x ∈ ([0, 1, 2, 3, 4, 5, 6] : List Int), ∀ y ∈ ([0, 1, 2, 3, 4, 5, 6] : List Int), x < p → 1 ≤ y → y < p → (x + (p - x * iv p y % p) % p * y) % p = 0 := by decide +kernel
theorem Sp_two {p : Int} {N n : Nat} {v : Int → Int → Int} {u : Int → Int} {a b c : Int} (a0 : 0 ≤ a) (an : a < n) (b0 : 0 ≤ b) (bn : b < n) (h : ∀ i : Int, 0 ≤ i → i < N → p ∣ u i - (v a i + c * v b i)) : Sp p N n v u := by
  refine ⟨fun s => (if s = a then 1 else 0) + c * (if s = b then 1 else 0), fun i i0 iN => ?_⟩
  have e : sm (fun s => ((if s = a then 1 else 0) + c * (if s = b then 1 else 0)) * v s i) n = v a i + c * v b i := by
    rw [sm_ext n (g := fun s => (if s = a then 1 else 0) * v s i + c * ((if s = b then 1 else 0) * v s i)) (fun s _ _ => by rw [Int.add_mul, Int.mul_assoc]), sm_add, sm_mul, sm_one a0, sm_one b0, if_pos an, if_pos bn]
  rw [e]; exact h i i0 iN
theorem tri2 {p : Int} {N r : Nat} {L : Int → Int → Int} {q : Int → Int} (hp : okp p) (hq : ∀ m : Int, 0 ≤ m → m < r → 0 ≤ q m ∧ q m < N ∧ ¬ p ∣ L m (q m) ∧ ∀ k : Int, m < k → k < r → L k (q m) = 0) : Ind p N r L := by
  intro c hc
  have key : ∀ n : Nat, ∀ m : Int, 0 ≤ m → m < n → m < r → p ∣ c m := fun n => by
    induction n with
    | zero => intro m m0 m1; omega
    | succ n ih =>
      intro m m0 m1 mr
      obtain ⟨q0, q1, q2, q3⟩ := hq m m0 mr
      have h1 := hc (q m) q0 q1
      have h2 := sm_pick (p := p) (f := fun s => c s * L s (q m)) m0 r mr (fun s s0 s1 hs => by
        by_cases e : s < m
        · exact Int.dvd_trans (ih s s0 (by omega) (by omega)) (Int.dvd_mul_right _ _)
        · show p ∣ c s * L s (q m)
          rw [q3 s (by omega) s1, Int.mul_zero]; exact Int.dvd_zero p)
      have h3 : p ∣ c m * L m (q m) := by
        have := Int.dvd_sub h1 h2
        rw [show sm (fun s => c s * L s (q m)) r - (sm (fun s => c s * L s (q m)) r - c m * L m (q m)) = c m * L m (q m) by omega] at this
        exact this
      obtain ⟨b, hb⟩ := inv_ex hp q2
      have h4 : p ∣ c m * (L m (q m) * b - 1) := Int.dvd_trans hb (Int.dvd_mul_left _ _)
      have h5 : p ∣ c m * L m (q m) * b := Int.dvd_trans h3 (Int.dvd_mul_right _ _)
      have := Int.dvd_sub h5 h4
      rw [show c m * L m (q m) * b - c m * (L m (q m) * b - 1) = c m by rw [Int.mul_sub, Int.mul_one, Int.mul_assoc]; omega] at this
      exact this
  exact fun s s0 s1 => key r s s0 s1 s1
theorem RK_ext0 {p : Int} {N n n' r : Nat} {f : Int → Int → Int} (h : RK p N n f r) (hn : n ≤ n') (hz : ∀ s i : Int, (n : Int) ≤ s → s < n' → 0 ≤ i → i < N → f s i = 0) : RK p N n' f r := by
  obtain ⟨a, h1, h2, h3⟩ := h
  refine ⟨a, h1, fun s s0 s1 => Sp_le (h2 s s0 s1) hn, fun s s0 s1 => ?_⟩
  by_cases c : s < n
  · exact h3 s s0 c
  · exact Sp_0 (fun i i0 iN => hz s i (by omega) s1 i0 iN)
theorem dvd_d {p x : Int} (hx : isD p x) : p ∣ x ↔ x = 0 := by
  constructor
  · intro h
    by_cases c : x = 0
    · exact c
    · have := Int.le_of_dvd (by have := hx.1; omega) h
      have := hx.2
      omega
  · intro h; rw [h]; exact Int.dvd_zero p
def tl1 (L : Int → Int → Int) (a k : Int) : Int → Int → Int := fun l => L (if l = a then k else if l = k then a else l)
def tlb (p : Int) (L : Int → Int → Int) (col k l : Int) : Int := (p - L l col * iv p (L k col) % p) % p
def tl2 (p : Int) (L : Int → Int → Int) (col k : Int) : Int → Int → Int := fun l c => if l ≤ k then L l c else (L l c + tlb p L col k l * L k c) % p
/-- rows in echelon so far: k of n, columns below c -/
def EC (p : Int) (n k c : Int) (L L' : Int → Int → Int) (q : Int → Int) : Prop := (∀ l, 0 ≤ l → l < n → Sp p 81 n.toNat L' (L l)) ∧ (∀ l, 0 ≤ l → l < n → Sp p 81 n.toNat L (L' l)) ∧ (∀ l x, k ≤ l → l < n → 0 ≤ x → x < c → L' l x = 0) ∧ ∀ m, 0 ≤ m → m < k → (0 ≤ q m ∧ q m < c) ∧ L' m (q m) ≠ 0 ∧ ∀ j, m < j → j < n → L' j (q m) = 0
theorem tl1_sw {L : Int → Int → Int} {a k l : Int} : L l = tl1 L a k (if l = a then k else if l = k then a else l) := by
  unfold tl1
  by_cases c1 : l = a
  · rw [if_pos c1]
    by_cases c2 : k = a
    · rw [if_pos c2, c1, c2]
    · rw [if_neg c2, if_pos rfl, c1]
  · rw [if_neg c1]
    by_cases c2 : l = k
    · rw [if_pos c2, if_pos rfl, c2]
    · rw [if_neg c2, if_neg c1, if_neg c2]
theorem EC_s {p n k c a : Int} {L L' : Int → Int → Int} {q : Int → Int} (hp : okp p) (hD : ∀ l x, 0 ≤ l → l < n → 0 ≤ x → x < 81 → isD p (L' l x)) (h : EC p n k c L L' q) (k0 : 0 ≤ k) (c0 : 0 ≤ c) (c1 : c < 81) (ka : k ≤ a) (an : a < n) (nz : L' a c ≠ 0) : EC p n (k + 1) (c + 1) L (tl2 p (tl1 L' a k) c k) (up1 q k c) ∧ ∀ l x, 0 ≤ l → l < n → 0 ≤ x → x < 81 → isD p (tl2 p (tl1 L' a k) c k l x) := by
  obtain ⟨e1, e2, e3, e4⟩ := h
  have kn : k < n := by omega
  have hD1 : ∀ l x, 0 ≤ l → l < n → 0 ≤ x → x < 81 → isD p (tl1 L' a k l x) := fun l x l0 l1 x0 x1 => by
    unfold tl1
    split
    · exact hD k x k0 kn x0 x1
    · split
      · exact hD a x (by omega) an x0 x1
      · exact hD l x l0 l1 x0 x1
  have r1k : tl1 L' a k k = L' a := by
    unfold tl1
    by_cases c : k = a
    · rw [if_pos c, ← c]
    · rw [if_neg c, if_pos rfl]
  have r1l : ∀ l, l < k → tl1 L' a k l = L' l := fun l hl => by unfold tl1; rw [if_neg (by omega), if_neg (by omega)]
  have z1 : ∀ l x, k ≤ l → l < n → 0 ≤ x → x < c → tl1 L' a k l x = 0 := fun l x l0 l1 x0 x1 => by
    unfold tl1
    split
    · exact e3 k x (Int.le_refl k) kn x0 x1
    · split
      · exact e3 a x ka an x0 x1
      · exact e3 l x l0 l1 x0 x1
  have dk := hD1 k c k0 kn c0 c1
  have nk : tl1 L' a k k c ≠ 0 := by rw [r1k]; exact nz
  have s12 : ∀ l, 0 ≤ l → l < n → Sp p 81 n.toNat (tl1 L' a k) (L' l) := fun l l0 l1 => by
    rw [tl1_sw (L := L') (a := a) (k := k) (l := l)]
    refine Sp_self ?_ ?_ <;> split <;> first | omega | (split <;> omega)
  have s21 : ∀ l, 0 ≤ l → l < n → Sp p 81 n.toNat L' (tl1 L' a k l) := fun l l0 l1 => by
    unfold tl1
    refine Sp_self ?_ ?_ <;> split <;> first | omega | (split <;> omega)
  have lk : ∀ l, l ≤ k → tl2 p (tl1 L' a k) c k l = tl1 L' a k l := fun l hl => by
    funext x
    unfold tl2
    rw [if_pos hl]
  have s23 : ∀ l, 0 ≤ l → l < n → Sp p 81 n.toNat (tl2 p (tl1 L' a k) c k) (tl1 L' a k l) := fun l l0 l1 => by
    by_cases hl : l ≤ k
    · rw [← lk l hl]; exact Sp_self l0 (by omega)
    · refine Sp_two (a := l) (b := k) (c := - tlb p (tl1 L' a k) c k l) l0 (by omega) k0 (by omega) (fun i i0 i1 => ?_)
      rw [lk k (Int.le_refl k)]
      unfold tl2
      rw [if_neg hl]
      have := md_dv (p := p) (a := tl1 L' a k l i + tlb p (tl1 L' a k) c k l * tl1 L' a k k i)
      rw [show tl1 L' a k l i - ((tl1 L' a k l i + tlb p (tl1 L' a k) c k l * tl1 L' a k k i) % p + -tlb p (tl1 L' a k) c k l * tl1 L' a k k i) = tl1 L' a k l i + tlb p (tl1 L' a k) c k l * tl1 L' a k k i - (tl1 L' a k l i + tlb p (tl1 L' a k) c k l * tl1 L' a k k i) % p by rw [Int.neg_mul]; omega]
      exact this
  have s32 : ∀ l, 0 ≤ l → l < n → Sp p 81 n.toNat (tl1 L' a k) (tl2 p (tl1 L' a k) c k l) := fun l l0 l1 => by
    by_cases hl : l ≤ k
    · rw [lk l hl]; exact Sp_self l0 (by omega)
    · refine Sp_two (a := l) (b := k) (c := tlb p (tl1 L' a k) c k l) l0 (by omega) k0 (by omega) (fun i i0 i1 => ?_)
      unfold tl2
      rw [if_neg hl]
      have := (Int.dvd_neg).2 (md_dv (p := p) (a := tl1 L' a k l i + tlb p (tl1 L' a k) c k l * tl1 L' a k k i))
      rw [show -(tl1 L' a k l i + tlb p (tl1 L' a k) c k l * tl1 L' a k k i - (tl1 L' a k l i + tlb p (tl1 L' a k) c k l * tl1 L' a k k i) % p) = (tl1 L' a k l i + tlb p (tl1 L' a k) c k l * tl1 L' a k k i) % p - (tl1 L' a k l i + tlb p (tl1 L' a k) c k l * tl1 L' a k k i) by omega] at this
      exact this
  have zz : ∀ l x, k < l → l < n → 0 ≤ x → x < c + 1 → tl2 p (tl1 L' a k) c k l x = 0 := fun l x l0 l1 x0 x1 => by
    unfold tl2
    rw [if_neg (by omega)]
    by_cases e : x = c
    · rw [e]
      unfold tlb
      exact el_tab p (mem_p hp) _ (mem_7 hp (hD1 l c (by omega) l1 c0 c1)) _ (mem_7 hp dk) (hD1 l c (by omega) l1 c0 c1).2 (by have := dk.1; omega) dk.2
    · rw [z1 l x (by omega) l1 x0 (by omega), z1 k x (Int.le_refl k) kn x0 (by omega), Int.mul_zero, Int.add_zero, Int.zero_emod]
  refine ⟨⟨fun l l0 l1 => Sp_lin (Sp_lin (e1 l l0 l1) (fun s s0 s1 => s12 s s0 (by omega))) (fun s s0 s1 => s23 s s0 (by omega)), fun l l0 l1 => Sp_lin (Sp_lin (s32 l l0 l1) (fun s s0 s1 => s21 s s0 (by omega))) (fun s s0 s1 => e2 s s0 (by omega)), fun l x l0 l1 x0 x1 => zz l x (by omega) l1 x0 x1, fun m m0 m1 => ?_⟩, fun l x l0 l1 x0 x1 => ?_⟩
  · by_cases e : m = k
    · rw [e, up1_s, lk k (Int.le_refl k)]
      exact ⟨⟨c0, by omega⟩, nk, fun j j0 j1 => zz j c j0 j1 c0 (by omega)⟩
    · rw [up1_o e, lk m (by omega), r1l m (by omega)]
      obtain ⟨q1, q2, q3⟩ := e4 m m0 (by omega)
      refine ⟨⟨q1.1, by omega⟩, q2, fun j j0 j1 => ?_⟩
      by_cases jk : j < k
      · rw [lk j (by omega), r1l j jk]; exact q3 j j0 j1
      · by_cases jk2 : j = k
        · rw [jk2, lk k (Int.le_refl k)]; exact z1 k (q m) (Int.le_refl k) kn q1.1 q1.2
        · exact zz j (q m) (by omega) j1 q1.1 (by omega)
  · unfold tl2
    split
    · exact hD1 l x l0 l1 x0 x1
    · exact md_D hp
theorem EC_end {p n k c : Int} {L L' : Int → Int → Int} {q : Int → Int} (hp : okp p) (n0 : 0 ≤ n) (hD : ∀ l x, 0 ≤ l → l < n → 0 ≤ x → x < 81 → isD p (L' l x)) (h : EC p n k c L L' q) (k0 : 0 ≤ k) (kn : k ≤ n) (c81 : c ≤ 81) (hend : c = 81 ∨ k = n) : RK p 81 n.toNat L k.toNat := by
  obtain ⟨e1, e2, e3, e4⟩ := h
  refine ⟨L', tri2 (q := q) hp (fun m m0 m1 => ?_), fun s s0 s1 => e2 s s0 (by omega), fun s s0 s1 => Sp_lin (e1 s s0 (by omega)) (fun t t0 t1 => ?_)⟩
  · obtain ⟨q1, q2, q3⟩ := e4 m m0 (by omega)
    exact ⟨q1.1, by omega, fun z => q2 ((dvd_d (hD m (q m) m0 (by omega) q1.1 (by omega))).1 z), fun j j0 j1 => q3 j j0 (by omega)⟩
  · by_cases tk : t < k
    · exact Sp_self t0 (by omega)
    · refine Sp_0 (fun i i0 i1 => e3 t i (by omega) (by omega) i0 ?_)
      rcases hend with e | e
      · rw [e]; exact i1
      · omega
section Mod17
variable {l : Launch} {d : Nat} {h : HP} {p n : Int} {P : PS} {B : BS} {L : Int → Int → Int} {Q : Int → GS → HP → Prop}
def LN (h : HP) (p n : Int) (L : Int → Int → Int) : Prop := ∀ l c, 0 ≤ l → l < n → 0 ≤ c → c < 81 → h 88 (81 * l + c) = L l c ∧ isD p (L l c)
set_option maxHeartbeats 1000000 in
theorem rX9_takeLine {a k col : Int} (mr : MR h) (h0 : h 75 0 = p) (hp : okp p) (hL : LN h p n L) (n9 : n ≤ 9) (k0 : 0 ≤ k) (ka : k ≤ a) (an : a < n) (c0 : 0 ≤ col) (c1 : col < 81) (nz : L a col ≠ 0) (hz : ∀ l x, k ≤ l → l < n → 0 ≤ x → x < col → L l x = 0) (hQ : ∀ h', (∀ b, b ≠ 88 → h' b = h b) → (∀ l x, 0 ≤ l → l < n → 0 ≤ x → x < 81 → h' 88 (81 * l + x) = tl2 p (tl1 L a k) col k l x) → Q 0 G0 h') : R l MX9_takeLine (d + 1) 0 0 [vR 75, vI a, vI k, vI col, vI n, vI 81] G0 h Q := by
  have pb := okp_b hp
  have kn : k < n := by omega
  have r1k : tl1 L a k k = L a := by
    unfold tl1
    by_cases c : k = a
    · rw [if_pos c, ← c]
    · rw [if_neg c, if_pos rfl]
  have hD1 : ∀ l x, 0 ≤ l → l < n → 0 ≤ x → x < 81 → isD p (tl1 L a k l x) := fun l x l0 l1 x0 x1 => by
    unfold tl1
    split
    · exact (hL k x k0 kn x0 x1).2
    · split
      · exact (hL a x (by omega) an x0 x1).2
      · exact (hL l x l0 l1 x0 x1).2
  have z1 : ∀ l x, k ≤ l → l < n → 0 ≤ x → x < col → tl1 L a k l x = 0 := fun l x l0 l1 x0 x1 => by
    unfold tl1
    split
    · exact hz k x (Int.le_refl k) kn x0 x1
    · split
      · exact hz a x ka an x0 x1
      · exact hz l x l0 l1 x0 x1
  have dk := hD1 k col k0 kn c0 c1
  have nk : tl1 L a k k col ≠ 0 := by rw [r1k]; exact nz
  have io := iv_ok hp (show 1 ≤ tl1 L a k k col by have := dk.1; omega) dk.2
  refine eX9_takeLine 75 a k col n 81 (vX9_takeLine_0 75 a k col n 81 ?_)
  refine lp_up (σ := HP) (fun c hh => S l MX9_takeLine (d + 1, 0, 0, 0, 0) 3 [some (vR 75), some (vI a), some (vI k), some (vI col), some (vI n), some (vI 81), some (vI c), none, none, none] [] G0 hh Q) (fun c hh => 0 ≤ c ∧ (∀ b, b ≠ 88 → hh b = h b) ∧ ∀ l x, 0 ≤ l → l < n → 0 ≤ x → x < 81 → hh 88 (81 * l + x) = if x < c then tl1 L a k l x else L l x) 81 ?_ ?_ 0 h (by decide) ⟨by decide, fun _ _ => rfl, fun l x l0 l1 x0 x1 => by rw [if_neg (by omega)]; exact (hL l x l0 l1 x0 x1).1⟩
  · intro c hh hc ⟨c0', f, dn⟩ ih
    have e75 := f 75 (by decide)
    have va := dn a c (by omega) an c0' hc
    have vk := dn k c k0 kn c0' hc
    rw [if_neg (by omega)] at va vk
    refine vX9_takeLine_3 75 a k col n 81 c ?_
    simp only [e75, mr.li, va, vk]
    refine ⟨⟨by omega, by omega⟩, ⟨by decide, by decide⟩, fun z => by omega, fun _ => ⟨t75, i88 (by omega) (by omega), i88 (by omega) (by omega), fun h12 e12 => ?_⟩⟩
    have a12 : h12 75 = h 75 := by rw [e12, hset_oa (by decide), e75]
    simp only [a12, mr.li]
    refine ⟨i88 (by omega) (by omega), fun h14 e14 => ih h14 ⟨by omega, fun b hb => by rw [e14, hset_oa hb, e12, hset_oa hb]; exact f b hb, fun l x l0 l1 x0 x1 => ?_⟩⟩
    by_cases ex : x = c
    · rw [ex, if_pos (by omega), e14]
      by_cases el : l = k
      · rw [el, hset_s, r1k]
      · rw [hset_oj (by omega), e12]
        by_cases el2 : l = a
        · rw [el2, hset_s]
          unfold tl1
          rw [if_pos rfl]
        · rw [hset_oj (by omega), dn l c l0 l1 c0' hc, if_neg (by omega)]
          unfold tl1
          rw [if_neg el2, if_neg el]
    · rw [e14, hset_oj (by omega), e12, hset_oj (by omega), dn l x l0 l1 x0 x1]
      by_cases c2 : x < c
      · rw [if_pos c2, if_pos (by omega)]
      · rw [if_neg c2, if_neg (by omega)]
  · intro h1 ⟨c0', f1, dn1⟩
    have e75 := f1 75 (by decide)
    have v1 : ∀ l x, 0 ≤ l → l < n → 0 ≤ x → x < 81 → h1 88 (81 * l + x) = tl1 L a k l x := fun l x l0 l1 x0 x1 => by rw [dn1 l x l0 l1 x0 x1, if_pos x1]
    refine vX9_takeLine_3 75 a k col n 81 81 ?_
    simp only [e75, mr.li, v1 k col k0 kn c0 c1]
    refine ⟨⟨by decide, by decide⟩, ⟨by decide, by decide⟩, fun _ => ⟨t75, i88 (by omega) (by omega), rX9_inverse (by rw [e75]; exact h0) hp ⟨by have := dk.1; omega, dk.2⟩ ?_⟩, fun z => by omega⟩
    refine lp_up (σ := HP) (fun j hh => S l MX9_takeLine (d + 1, 0, 0, 0, 0) 90 [some (vR 75), none, some (vI k), some (vI col), some (vI n), some (vI 81), some (vI (iv p (tl1 L a k k col))), some (vI j), none, none] [] G0 hh Q) (fun j hh => k + 1 ≤ j ∧ (∀ b, b ≠ 88 → hh b = h b) ∧ ∀ l x, 0 ≤ l → l < n → 0 ≤ x → x < 81 → hh 88 (81 * l + x) = if l < j then tl2 p (tl1 L a k) col k l x else tl1 L a k l x) n ?_ ?_ (k + 1) h1 (by omega) ⟨Int.le_refl _, f1, fun l x l0 l1 x0 x1 => ?_⟩
    · intro j hh hj ⟨j0, f, dn⟩ ih
      have a75 := f 75 (by decide)
      have vj := dn j col (by omega) hj c0 c1
      rw [if_neg (by omega)] at vj
      have dj := hD1 j col (by omega) hj c0 c1
      have md := md_D (x := tl1 L a k j col * iv p (tl1 L a k k col)) hp
      have bD : isD p (tlb p (tl1 L a k) col k j) := md_D hp
      refine vX9_takeLine_90 75 k col n 81 _ j ?_
      simp only [a75, mr.li, vj, h0]
      refine ⟨⟨by omega, by omega⟩, ⟨by omega, by omega⟩, fun z => by omega, fun _ => ⟨t75, i88 (by omega) (by omega), ml_dv hp dj ⟨by omega, io.2.1⟩, ⟨⟨by omega, by omega⟩, by omega, by omega⟩, ?_⟩⟩
      rw [show (p - tl1 L a k j col * iv p (tl1 L a k k col) % p) % p = tlb p (tl1 L a k) col k j from rfl]
      have nxt : ∀ hk : HP, (∀ b, b ≠ 88 → hk b = h b) → (∀ l x, 0 ≤ l → l < n → l ≠ j → 0 ≤ x → x < 81 → hk 88 (81 * l + x) = if l < j then tl2 p (tl1 L a k) col k l x else tl1 L a k l x) → (∀ x, 0 ≤ x → x < 81 → hk 88 (81 * j + x) = tl2 p (tl1 L a k) col k j x) → S l MX9_takeLine (d + 1, 0, 0, 0, 0) 90 [some (vR 75), none, some (vI k), some (vI col), some (vI n), some (vI 81), some (vI (iv p (tl1 L a k k col))), some (vI (j + 1)), none, none] [] G0 hk Q := fun hk g un dj => ih hk ⟨by omega, g, fun l x l0 l1 x0 x1 => by
        by_cases el : l = j
        · rw [el, if_pos (by omega)]; exact dj x x0 x1
        · rw [un l x l0 l1 el x0 x1]
          by_cases c : l < j
          · rw [if_pos c, if_pos (by omega)]
          · rw [if_neg c, if_neg (by omega)]⟩
      have lo : ∀ x, 0 ≤ x → x < col → tl1 L a k j x = tl2 p (tl1 L a k) col k j x := fun x x0 x1 => by
        unfold tl2
        rw [if_neg (by omega), z1 j x (by omega) hj x0 x1, z1 k x (Int.le_refl k) kn x0 x1, Int.mul_zero, Int.add_zero, Int.zero_emod]
      by_cases bz : tlb p (tl1 L a k) col k j = 0
      · refine vX9_takeLine_132 75 k col n 81 _ j _ col ⟨⟨by omega, by omega⟩, ⟨by decide, by decide⟩, fun z => by omega, fun _ => ⟨⟨by omega, by omega⟩, fun _ => nxt hh f (fun l x l0 l1 _ x0 x1 => dn l x l0 l1 x0 x1) (fun x x0 x1 => ?_), fun z => by omega⟩⟩
        rw [dn j x (by omega) hj x0 x1, if_neg (by omega)]
        unfold tl2
        rw [if_neg (by omega), bz, Int.zero_mul, Int.add_zero, Int.emod_eq_of_lt (hD1 j x (by omega) hj x0 x1).1 (hD1 j x (by omega) hj x0 x1).2]
      · refine lp_up (σ := HP) (fun c hk => S l MX9_takeLine (d + 1, 0, 0, 0, 0) 132 [some (vR 75), none, some (vI k), some (vI col), some (vI n), some (vI 81), some (vI (iv p (tl1 L a k k col))), some (vI j), some (vI (tlb p (tl1 L a k) col k j)), some (vI c)] [] G0 hk Q) (fun c hk => col ≤ c ∧ (∀ b, b ≠ 88 → hk b = h b) ∧ (∀ l x, 0 ≤ l → l < n → l ≠ j → 0 ≤ x → x < 81 → hk 88 (81 * l + x) = if l < j then tl2 p (tl1 L a k) col k l x else tl1 L a k l x) ∧ ∀ x, 0 ≤ x → x < 81 → hk 88 (81 * j + x) = if x < c then tl2 p (tl1 L a k) col k j x else tl1 L a k j x) 81 ?_ ?_ col hh (by omega) ⟨Int.le_refl _, f, fun l x l0 l1 _ x0 x1 => dn l x l0 l1 x0 x1, fun x x0 x1 => ?_⟩
        · intro c hk hc ⟨cc, g, un, dj2⟩ ih2
          have b75 := g 75 (by decide)
          have w1 := dj2 c (by omega) hc
          rw [if_neg (by omega)] at w1
          have w2 := un k c k0 kn (by omega) (by omega) hc
          rw [if_pos (by omega)] at w2
          have w2' : tl2 p (tl1 L a k) col k k c = tl1 L a k k c := by unfold tl2; rw [if_pos (Int.le_refl k)]
          rw [w2'] at w2
          have d1 := hD1 j c (by omega) hj (by omega) hc
          have d2 := hD1 k c k0 kn (by omega) hc
          have m := ml_b bD.1 (show tlb p (tl1 L a k) col k j ≤ 7 by have := bD.2; omega) d2.1 (show tl1 L a k k c ≤ 7 by have := d2.2; omega)
          refine vX9_takeLine_132 75 k col n 81 _ j _ c ?_
          simp only [b75, mr.li, h0, w1, w2]
          refine ⟨⟨by omega, by omega⟩, ⟨by decide, by decide⟩, fun z => by omega, fun _ => ⟨⟨by omega, by omega⟩, fun z => by omega, fun _ => ⟨t75, i88 (by omega) (by omega), i88 (by omega) (by omega), ⟨⟨by omega, by omega⟩, by omega, by omega⟩, fun h10 e10 => ih2 h10 ⟨by omega, fun b hb => by rw [e10, hset_oa hb]; exact g b hb, fun l x l0 l1 lj x0 x1 => ?_, fun x x0 x1 => ?_⟩⟩⟩⟩
          · rw [e10, hset_oj (by omega)]; exact un l x l0 l1 lj x0 x1
          · by_cases ex : x = c
            · rw [ex, if_pos (by omega), e10, hset_s]
              unfold tl2
              rw [if_neg (by omega)]
            · rw [e10, hset_oj (by omega), dj2 x x0 x1]
              by_cases c2 : x < c
              · rw [if_pos c2, if_pos (by omega)]
              · rw [if_neg c2, if_neg (by omega)]
        · intro hk ⟨cc, g, un, dj2⟩
          exact vX9_takeLine_132 75 k col n 81 _ j _ 81 ⟨⟨by decide, by decide⟩, ⟨by decide, by decide⟩, fun _ => nxt hk g un (fun x x0 x1 => by rw [dj2 x x0 x1, if_pos x1]), fun z => by omega⟩
        · rw [dn j x (by omega) hj x0 x1, if_neg (by omega)]
          by_cases c2 : x < col
          · rw [if_pos c2]; exact lo x x0 c2
          · rw [if_neg c2]
    · intro hh ⟨j0, f, dn⟩
      exact vX9_takeLine_90 75 k col n 81 _ n ⟨⟨by omega, by omega⟩, ⟨by omega, by omega⟩, fun _ => hQ hh f (fun l x l0 l1 x0 x1 => by rw [dn l x l0 l1 x0 x1, if_pos l1]), fun z => by omega⟩
    · rw [v1 l x l0 l1 x0 x1]
      by_cases c2 : l < k + 1
      · rw [if_pos c2]
        unfold tl2
        rw [if_pos (by omega)]
      · rw [if_neg c2]
theorem rX9_rankOfLines (mr : MR h) (h0 : h 75 0 = p) (hp : okp p) (hL : LN h p n L) (n0 : 0 ≤ n) (n9 : n ≤ 9) (hQ : ∀ (r : Nat) h', RK p 81 n.toNat L r → (r : Int) ≤ n → (∀ b, b ≠ 88 → h' b = h b) → Q r G0 h') : R l MX9_rankOfLines (d + 2) 0 0 [vR 75, vI n, vI 81] G0 h Q := by
  have pb := okp_b hp
  refine eX9_rankOfLines 75 n 81 (vX9_rankOfLines_0 75 n 81 ?_)
  refine lp_up (σ := Int × HP) (fun c s => S l MX9_rankOfLines (d + 1 + 1, 0, 0, 0, 0) 5 [some (vR 75), some (vI n), some (vI 81), some (vI s.1), some (vI c), none] [] G0 s.2 Q) (fun c s => 0 ≤ c ∧ (0 ≤ s.1 ∧ s.1 ≤ n) ∧ (∀ b, b ≠ 88 → s.2 b = h b) ∧ ∃ L' q, LN s.2 p n L' ∧ EC p n s.1 c L L' q) 81 ?_ ?_ 0 (0, h) (by decide) ⟨by decide, ⟨Int.le_refl 0, n0⟩, fun _ _ => rfl, L, fun _ => 0, hL, fun l l0 l1 => Sp_self l0 (by omega), fun l l0 l1 => Sp_self l0 (by omega), fun l x l0 l1 x0 x1 => by omega, fun m m0 m1 => by have m1' : m < 0 := m1; omega⟩
  · intro c s hc ⟨c0, ⟨k0, kn⟩, f, L', q, hL', ec⟩ ih
    obtain ⟨k, hh⟩ := s
    have k0' : 0 ≤ k := k0
    have kn' : k ≤ n := kn
    have f' : ∀ b, b ≠ 88 → hh b = h b := f
    have hL2 : LN hh p n L' := hL'
    have e75 := f' 75 (by decide)
    have hD : ∀ l x, 0 ≤ l → l < n → 0 ≤ x → x < 81 → isD p (L' l x) := fun l x l0 l1 x0 x1 => (hL' l x l0 l1 x0 x1).2
    refine vX9_rankOfLines_5 75 n 81 k c ⟨⟨by omega, by omega⟩, ⟨by decide, by decide⟩, fun z => by omega, fun _ => ⟨⟨by omega, by omega⟩, ⟨by omega, by omega⟩, fun z => ?_, fun z => ?_⟩⟩
    · have rk := EC_end hp n0 hD ec k0' kn' (by omega) (.inr (by show k = n; omega))
      have := hQ k.toNat hh rk (by omega) f'
      rw [Int.toNat_of_nonneg k0'] at this
      exact this
    · refine lp_up (σ := Unit) (fun a _ => S l MX9_rankOfLines (d + 1 + 1, 0, 0, 0, 0) 19 [some (vR 75), some (vI n), some (vI 81), some (vI k), some (vI c), some (vI a)] [] G0 hh Q) (fun a _ => k ≤ a ∧ ∀ j, k ≤ j → j < a → L' j c = 0) n ?_ ?_ k () (by omega) ⟨Int.le_refl _, fun j j0 j1 => by omega⟩
      · intro a _ ha ⟨a0, za⟩ ih2
        have va := hL2 a c (by omega) ha c0 hc
        have da := va.2
        refine vX9_rankOfLines_19 75 n 81 k c a ?_
        simp only [e75, mr.li, va.1]
        refine ⟨⟨by omega, by omega⟩, ⟨by omega, by omega⟩, fun z => by omega, fun _ => ⟨t75, i88 (by omega) (by omega), ⟨by omega, by omega⟩, fun nz => ⟨fun z => by omega, fun _ => rX9_takeLine (mr.fr (fun j _ _ _ _ _ _ => by rw [e75])) (by rw [e75]; exact h0) hp hL2 n9 k0' a0 ha c0 hc nz (fun l x l0 l1 x0 x1 => ec.2.2.1 l x l0 l1 x0 x1) (fun h' g v => ?_)⟩, fun zz => ih2 () ⟨by omega, fun j j0 j1 => ?_⟩⟩⟩
        · have es := EC_s hp hD ec k0' c0 hc a0 ha nz
          exact ih (k + 1, h') ⟨by omega, ⟨by show 0 ≤ k + 1; omega, by show k + 1 ≤ n; omega⟩, fun b hb => by show h' b = h b; rw [g b hb]; exact f' b hb, _, _, fun l x l0 l1 x0 x1 => ⟨v l x l0 l1 x0 x1, es.2 l x l0 l1 x0 x1⟩, es.1⟩
        · by_cases e : j = a
          · rw [e]; exact zz
          · exact za j j0 (by omega)
      · intro _ ⟨a0, za⟩
        refine vX9_rankOfLines_19 75 n 81 k c n ⟨⟨by omega, by omega⟩, ⟨by omega, by omega⟩, fun _ => ⟨fun _ => ih (k, hh) ⟨by omega, ⟨k0, kn⟩, f, L', q, hL', ec.1, ec.2.1, fun l x l0 l1 x0 x1 => ?_, fun m m0 m1 => ?_⟩, fun z => by omega⟩, fun z => by omega⟩
        · by_cases e : x = c
          · rw [e]; exact za l l0 l1
          · exact ec.2.2.1 l x l0 l1 x0 (by omega)
        · obtain ⟨q1, q2⟩ := ec.2.2.2 m m0 m1
          exact ⟨⟨q1.1, by omega⟩, q2⟩
  · intro s ⟨c0, ⟨k0, kn⟩, f, L', q, hL', ec⟩
    have rk := EC_end hp n0 (fun l x l0 l1 x0 x1 => (hL' l x l0 l1 x0 x1).2) ec k0 kn (by decide) (.inl rfl)
    refine vX9_rankOfLines_5 75 n 81 _ 81 ⟨⟨by decide, by decide⟩, ⟨by decide, by decide⟩, fun _ => ?_, fun z => by omega⟩
    have := hQ s.1.toNat s.2 rk (by omega) f
    rw [Int.toNat_of_nonneg k0] at this
    exact this
theorem rX9_rankBy {w : Int} (bw : BW B) (hm : MX h B) (hw : okw w) (hQ : ∀ (r : Nat) h', RK (bp B) 9 81 (cl (bp B) (bP B) w) r → (∀ b, b ≠ 88 → h' b = h b) → Q r G0 h') (hr : ∃ r : Nat, RK (bp B) 9 81 (cl (bp B) (bP B) w) r) : R l MX9_rankBy (d + 3) 0 0 [vR 75, vI w] G0 h Q := by
  have hp := bw.1
  have hW := bw.2.1
  have mr := hm.1
  have mb := hm.2.2.1
  have hw' := hw
  unfold okw at hw'
  have zw := hW.1 w hw.1 hw.2
  have key : ∀ st on tw : Int, (∀ l c, 0 ≤ l → l < 9 → 0 ≤ c → c < 81 → 0 ≤ st * l + on * (c / 9) + tw * (c % 9) ∧ st * l + on * (c / 9) + tw * (c % 9) < 729 ∧ bd (bp B) (bP B) (st * l + on * (c / 9) + tw * (c % 9)) = cl (bp B) (bP B) w c l) → S l MX9_rankBy (d + 2 + 1, 0, 0, 0, 0) 49 [some (vR 75), some (vI w), some (vI st), some (vI on), some (vI tw), some (vI 0), none] [] G0 h Q := fun st on tw ht => by
    refine lp_up (σ := HP) (fun j hh => S l MX9_rankBy (d + 2 + 1, 0, 0, 0, 0) 49 [some (vR 75), some (vI w), some (vI st), some (vI on), some (vI tw), some (vI j), none] [] G0 hh Q) (fun j hh => 0 ≤ j ∧ (∀ b, b ≠ 88 → hh b = h b) ∧ ∀ l c, 0 ≤ l → l < j → 0 ≤ c → c < 81 → hh 88 (81 * l + c) = cl (bp B) (bP B) w c l) 9 ?_ ?_ 0 h (by decide) ⟨by decide, fun _ _ => rfl, fun l c l0 l1 => by omega⟩
    · intro j hh hj ⟨j0, f, dn⟩ ih
      refine vX9_rankBy_49 75 w st on tw j ⟨⟨by omega, by omega⟩, fun z => by omega, fun _ => ?_⟩
      refine lp_up (σ := HP) (fun c hk => S l MX9_rankBy (d + 2 + 1, 0, 0, 0, 0) 59 [some (vR 75), some (vI w), some (vI st), some (vI on), some (vI tw), some (vI j), some (vI c)] [] G0 hk Q) (fun c hk => 0 ≤ c ∧ (∀ b, b ≠ 88 → hk b = h b) ∧ (∀ l c, 0 ≤ l → l < j → 0 ≤ c → c < 81 → hk 88 (81 * l + c) = cl (bp B) (bP B) w c l) ∧ ∀ c', 0 ≤ c' → c' < c → hk 88 (81 * j + c') = cl (bp B) (bP B) w c' j) 81 ?_ ?_ 0 hh (by decide) ⟨by decide, f, dn, fun c' c0 c1 => by omega⟩
      · intro c hk hc ⟨c0, g, dn2, dr⟩ ih2
        have e75 := g 75 (by decide)
        obtain ⟨t0, t1, t2⟩ := ht j c j0 hj c0 hc
        have v : hk 77 (st * j + on * (c / 9) + tw * (c % 9)) = cl (bp B) (bP B) w c j := by rw [g 77 (by decide), mb.2 _ t0 t1]; exact t2
        refine vX9_rankBy_59 75 w st on tw j c ?_
        simp only [e75, mr.bx, mr.li, v]
        refine ⟨⟨by omega, by omega⟩, fun z => by omega, fun _ => ⟨t75, ⟨⟨by omega, by omega⟩, by decide, by decide⟩, i77 t0 t1, i88 (by omega) (by omega), fun h7 e7 => ih2 h7 ⟨by omega, fun b hb => by rw [e7, hset_oa hb]; exact g b hb, fun l x l0 l1 x0 x1 => by rw [e7, hset_oj (by omega)]; exact dn2 l x l0 l1 x0 x1, fun x x0 x1 => ?_⟩⟩⟩
        by_cases e : x = c
        · rw [e, e7, hset_s]
        · rw [e7, hset_oj (by omega)]; exact dr x x0 (by omega)
      · intro hk ⟨c0, g, dn2, dr⟩
        refine vX9_rankBy_59 75 w st on tw j 81 ⟨⟨by decide, by decide⟩, fun _ => ih hk ⟨by omega, g, fun l x l0 l1 x0 x1 => ?_⟩, fun z => by omega⟩
        by_cases e : l = j
        · rw [e]; exact dr x x0 x1
        · exact dn2 l x l0 (by omega) x0 x1
    · intro hh ⟨j0, f, dn⟩
      have e75 := f 75 (by decide)
      have e76 := f 76 (by decide)
      refine vX9_rankBy_49 75 w st on tw 9 ?_
      simp only [e75, mr.sz, e76, mb.1 w hw.1 hw.2]
      refine ⟨⟨by decide, by decide⟩, fun _ => ⟨t75, i76 hw.1 hw.2, rX9_rankOfLines (L := fun l c => cl (bp B) (bP B) w c l) (mr.fr (fun j _ _ _ _ _ _ => by rw [e75])) (by rw [e75]; exact hm.2.1) hp (fun l c l0 l1 c0 c1 => ⟨dn l c l0 (by omega) c0 c1, ?_⟩) (by omega) zw.2 (fun r h' rk rn f' => ?_)⟩, fun z => by omega⟩
      · unfold cl
        split
        · exact D_D hp
        · split <;> exact D_D hp
      · have rk9 := RK_ext0 (n' := 9) rk (by omega) (fun s i s0 s1 i0 i1 => cl_z hp hW hw.1 hw.2 i0 i1 (by omega) s1 (.inl (by omega)))
        obtain ⟨r', hr'⟩ := hr
        have := RK_eq (g := cl (bp B) (bP B) w) hp (fun l c _ _ _ _ => rfl) rk9 hr'
        rw [← this] at hr'
        exact hQ r h' hr' (fun b hb => by rw [f' b hb]; exact f b hb)
  refine eX9_rankBy 75 w (vX9_rankBy_0 75 w ⟨⟨by omega, by omega⟩, fun c0 => ⟨fun c1 => ⟨fun _ => ⟨fun z => by omega, fun c2 => key 1 81 9 (fun l c l0 l1 x0 x1 => ⟨by omega, by omega, ?_⟩)⟩, fun z => absurd z c0⟩, fun c1 => ⟨fun _ => ⟨fun _ => key 9 81 1 (fun l c l0 l1 x0 x1 => ⟨by omega, by omega, ?_⟩), fun z => by omega⟩, fun z => absurd z c0⟩⟩, fun c0 => ⟨fun z => absurd c0 z, fun _ => ⟨fun _ => key 81 9 1 (fun l c l0 l1 x0 x1 => ⟨by omega, by omega, ?_⟩), fun z => by omega⟩⟩⟩)
  · unfold bd cl
    rw [if_neg c0, if_neg c1, show (1 * l + 81 * (c / 9) + 9 * (c % 9)) / 9 = 9 * (c / 9) + c % 9 by omega, show (1 * l + 81 * (c / 9) + 9 * (c % 9)) % 9 = l by omega]
  · unfold bd cl
    rw [if_neg c0, if_pos c1, show (9 * l + 81 * (c / 9) + 1 * (c % 9)) / 9 = 9 * (c / 9) + l by omega, show (9 * l + 81 * (c / 9) + 1 * (c % 9)) % 9 = c % 9 by omega]
  · unfold bd cl
    rw [if_pos c0, show (81 * l + 9 * (c / 9) + 1 * (c % 9)) / 9 = 9 * l + c / 9 by omega, show (81 * l + 9 * (c / 9) + 1 * (c % 9)) % 9 = c % 9 by omega]
theorem MX.o88 {h' : HP} (m : MX h B) (f : ∀ b, b ≠ 88 → h' b = h b) : MX h' B := m.wk (fun b b0 b1 => f b (by omega)) (fun j _ _ => by rw [f 75 (by decide)])
theorem rX9_rank {w r : Int} {B' : BS} (hw : inR w) (bw : BW B) (hm : MX h B) (hA : A_rk w B r B') (hQ : ∀ h', MX h' B' → FM h h' → Q r G0 h') : R l MX9_rank (d + 4) 0 0 [vR 75, vI w] G0 h Q := by
  obtain ⟨eB, hA⟩ := hA
  rw [eB] at hQ
  have hp := bw.1
  have r1 : inR 1 := ⟨by decide, by decide⟩
  have r0 : inR 0 := ⟨by decide, by decide⟩
  refine eX9_rank 75 w (vX9_rank_0 75 w ⟨hw, rX9_in ⟨by have := hw.1; omega, by have := hw.2; omega⟩ (by decide) (by decide) (fun o => ⟨r1, fun _ => ⟨hw, fun c => ⟨t75, ?_⟩, fun c => ⟨t75, ?_⟩⟩, fun z => by omega⟩) (fun n => ⟨r0, fun z => absurd rfl z, fun _ => ?_⟩)⟩)
  · rcases hA with ⟨ow, _⟩ | ⟨_, n0, n1, n2, k0, k1, k2, er⟩ | ⟨n, _⟩
    · have := ow.2; omega
    · refine rX9_rankBy bw hm ⟨by decide, by decide⟩ (fun m0 h1 j0 f1 => ⟨t75, ?_⟩) ⟨n0, k0⟩
      refine rX9_rankBy bw (hm.o88 f1) ⟨by decide, by decide⟩ (fun m1 h2 j1 f2 => ?_) ⟨n1, k1⟩
      have e0 := RK_un hp k0 j0
      have e1 := RK_un hp k1 j1
      have b0 := RK_b hp k0
      have b1 := RK_b hp k1
      have b2 := RK_b hp k2
      refine ⟨⟨by omega, by omega⟩, ⟨by omega, by omega⟩, t75, rX9_rankBy bw ((hm.o88 f1).o88 f2) ⟨by decide, by decide⟩ (fun m2 h3 j2 f3 => ?_) ⟨n2, k2⟩⟩
      have e2 := RK_un hp k2 j2
      rw [← e0, ← e1, ← e2]
      refine ⟨?_, ⟨by omega, by omega⟩, ?_⟩
      · split <;> exact ⟨by omega, by omega⟩
      · have q := hQ h3 (((hm.o88 f1).o88 f2).o88 f3) (fun b hb => by rw [f3 b (by omega), f2 b (by omega), f1 b (by omega)])
        rw [er] at q
        have ee : (if (n0 : Int) < (if (n1 : Int) < (n2 : Int) then (n2 : Int) else (n1 : Int)) then (if (n1 : Int) < (n2 : Int) then (n2 : Int) else (n1 : Int)) else (n0 : Int)) = (if (if (n0 : Int) < (n1 : Int) then (n1 : Int) else (n0 : Int)) < (n2 : Int) then (n2 : Int) else (if (n0 : Int) < (n1 : Int) then (n1 : Int) else (n0 : Int))) := mx3 _ _ _
        rw [ee] at q
        exact q
    · omega
  · rcases hA with ⟨ow, n, k, er⟩ | ⟨e, _⟩ | ⟨n, _⟩
    · refine rX9_rankBy bw hm ow (fun m h1 j f1 => ?_) ⟨n, k⟩
      have e := RK_un hp k j
      rw [← e, ← er]
      exact hQ h1 (hm.o88 f1) (fun b hb => f1 b (by omega))
    · omega
    · omega
  · rcases hA with ⟨ow, _⟩ | ⟨e, _⟩ | ⟨_, er⟩
    · exact absurd ⟨ow.1, by have := ow.2; omega⟩ n
    · omega
    · rw [← er]; exact hQ h hm FM.rf
end Mod17
