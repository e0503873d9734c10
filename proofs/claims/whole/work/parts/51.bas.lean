theorem sm_pick {p : Int} {f : Int → Int} {t : Int} (t0 : 0 ≤ t) : ∀ n : Nat, t < n → (∀ s : Int, 0 ≤ s → s < n → s ≠ t → p ∣ f s) → p ∣ sm f n - f t
  | 0, h, _ => by omega
  | n + 1, h, hd => by
    show p ∣ sm f n + f n - f t
    by_cases e : t = (n : Int)
    · rw [e, show sm f n + f n - f n = sm f n by omega]
      exact sm_dvd n (fun i i0 i1 => hd i i0 (by omega) (by omega))
    · have h1 := sm_pick t0 n (by omega) (fun s s0 s1 hs => hd s s0 (by omega) hs)
      have h2 := hd n (by omega) (by omega) (by omega)
      rw [show sm f n + f n - f t = sm f n - f t + f n by omega]
      exact Int.dvd_add h1 h2
/-- the vectors v with pivots q -/
def BV (p : Int) (n : Nat) (v q : Int → Int) : Prop := ∀ m : Int, 0 ≤ m → m < n → isR p (v m) ∧ 0 ≤ q m ∧ q m < 9 ∧ D p (v m) (q m) = 1 ∧ ∀ k : Int, m < k → k < n → D p (v k) (q m) = 0
abbrev DV (p : Int) (v : Int → Int) : Int → Int → Int := fun s i => D p (v s) i
theorem tri {p : Int} {n : Nat} {v q g : Int → Int} (hB : BV p n v q) (hz : ∀ m : Int, 0 ≤ m → m < n → p ∣ sm (fun s => g s * D p (v s) (q m)) n) : ∀ m : Int, 0 ≤ m → m < n → p ∣ g m := by
  have key : ∀ k : Nat, ∀ m : Int, 0 ≤ m → m < n → m < k → p ∣ g m := by
    intro k
    induction k with
    | zero => intro m m0 _ h; omega
    | succ k ih =>
      intro m m0 mn hk
      have hm := hB m m0 mn
      have h1 := sm_pick (p := p) (f := fun s => g s * D p (v s) (q m)) m0 n mn (fun s s0 sn hs => by
        by_cases c : s < m
        · exact Int.dvd_trans (ih s s0 sn (by omega)) (Int.dvd_mul_right _ _)
        · rw [hm.2.2.2.2 s (by omega) sn, Int.mul_zero]; exact ⟨0, by simp⟩)
      have h2 := Int.dvd_sub (hz m m0 mn) h1
      rw [hm.2.2.2.1, show ∀ a b : Int, a - (a - b * 1) = b by intro a b; omega] at h2
      exact h2
  intro m m0 mn
  exact key n m m0 mn mn
theorem BV_ind {p : Int} {n : Nat} {v q : Int → Int} (hB : BV p n v q) : Ind p 9 n (DV p v) := fun c hc => tri hB (fun m m0 mn => hc (q m) (hB m m0 mn).2.1 (hB m m0 mn).2.2.1)
theorem Sp_le {p : Int} {N n n' : Nat} {v : Int → Int → Int} {u : Int → Int} (h : Sp p N n v u) (hn : n ≤ n') : Sp p N n' v u := by
  obtain ⟨c, hc⟩ := h
  refine ⟨fun s => if s < n then c s else 0, fun i i0 iN => ?_⟩
  have e : sm (fun s => (if s < (n : Int) then c s else 0) * v s i) n' = sm (fun s => c s * v s i) n := by
    have e1 := sm_z (f := fun s => (if s < (n : Int) then c s else 0) * v s i) (i := n) (n := n') (by omega) (by omega) (fun j j0 j1 => by rw [if_neg (show ¬ j < (n : Int) by omega), Int.zero_mul])
    rw [Int.toNat_natCast, Int.toNat_natCast] at e1
    rw [e1]
    exact sm_ext n (fun s s0 s1 => by rw [if_pos s1])
  rw [e]
  exact hc i i0 iN
theorem Sp_ext {p : Int} {N n : Nat} {v v' : Int → Int → Int} {u : Int → Int} (h : Sp p N n v u) (he : ∀ s i : Int, 0 ≤ s → s < n → 0 ≤ i → i < N → v' s i = v s i) : Sp p N n v' u := by
  obtain ⟨c, hc⟩ := h
  refine ⟨c, fun i i0 iN => ?_⟩
  rw [sm_ext n (g := fun s => c s * v s i) (fun s s0 s1 => by rw [he s i s0 s1 i0 iN])]
  exact hc i i0 iN
theorem Sp_self {p : Int} {N n : Nat} {v : Int → Int → Int} {t : Int} (t0 : 0 ≤ t) (tn : t < n) : Sp p N n v (v t) := by
  refine ⟨fun s => if s = t then 1 else 0, fun i i0 iN => ?_⟩
  rw [sm_one (f := fun s => v s i) t0 n, if_pos tn, Int.sub_self]
  exact ⟨0, by simp⟩
theorem Sp_lin {p : Int} {N n m : Nat} {v w : Int → Int → Int} {u : Int → Int} (hu : Sp p N m w u) (hw : ∀ s : Int, 0 ≤ s → s < m → Sp p N n v (w s)) : Sp p N n v u := by
  have hC : ∃ C : Int → Int → Int, ∀ s : Int, 0 ≤ s → s < m → ∀ i : Int, 0 ≤ i → i < N → p ∣ w s i - sm (fun j => C s j * v j i) n := by
    have h0 : ∀ s : Int, ∃ c : Int → Int, 0 ≤ s → s < m → ∀ i : Int, 0 ≤ i → i < N → p ∣ w s i - sm (fun j => c j * v j i) n := fun s => by
      by_cases h : 0 ≤ s ∧ s < m
      · obtain ⟨c, hc⟩ := hw s h.1 h.2
        exact ⟨c, fun _ _ => hc⟩
      · exact ⟨fun _ => 0, fun h1 h2 => absurd ⟨h1, h2⟩ h⟩
    obtain ⟨C, hC⟩ := Classical.axiomOfChoice h0
    exact ⟨C, hC⟩
  obtain ⟨C, hC⟩ := hC
  obtain ⟨c, hc⟩ := hu
  refine ⟨fun j => sm (fun s => c s * C s j) m, fun i i0 iN => ?_⟩
  have h1 := hc i i0 iN
  have h2 : p ∣ sm (fun s => c s * (w s i - sm (fun j => C s j * v j i) n)) m := sm_dvd m (fun s s0 s1 => Int.dvd_trans (hC s s0 s1 i i0 iN) (Int.dvd_mul_left _ _))
  have e1 : sm (fun s => c s * (w s i - sm (fun j => C s j * v j i) n)) m = sm (fun s => c s * w s i) m + (-1) * sm (fun s => sm (fun j => c s * C s j * v j i) n) m := by
    rw [← sm_mul, ← sm_add]
    refine sm_ext m (fun s _ _ => ?_)
    have : sm (fun j => c s * C s j * v j i) n = c s * sm (fun j => C s j * v j i) n := by
      rw [← sm_mul]
      exact sm_ext n (fun j _ _ => by grind)
    rw [this]; grind
  have e2 : sm (fun j => sm (fun s => c s * C s j) m * v j i) n = sm (fun s => sm (fun j => c s * C s j * v j i) n) m := by
    rw [sm_swap]
    refine sm_ext n (fun j _ _ => ?_)
    rw [Int.mul_comm, ← sm_mul]
    exact sm_ext m (fun s _ _ => by grind)
  rw [e2]
  rw [e1] at h2
  have h3 := Int.dvd_add h1 h2
  rw [show ∀ a b c : Int, a - b + (b + -1 * c) = a - c by intro a b c; omega] at h3
  exact h3
theorem Ind_le {p : Int} {N n : Nat} {u : Int → Int → Int} (h : Ind p N (n + 1) u) : Ind p N n u := by
  intro c hc s s0 s1
  have := h (fun s => if s < n then c s else 0) (fun i i0 iN => by
    show p ∣ sm (fun s => (if s < (n : Int) then c s else 0) * u s i) n + (if (n : Int) < n then c n else 0) * u n i
    rw [if_neg (by omega), Int.zero_mul, Int.add_zero, sm_ext n (g := fun s => c s * u s i) (fun s s0 s1 => by rw [if_pos s1])]
    exact hc i i0 iN) s s0 (by omega)
  rw [if_pos s1] at this
  exact this
theorem Ind_ext {p : Int} {N n : Nat} {u u' : Int → Int → Int} (h : Ind p N n u) (he : ∀ s i : Int, 0 ≤ s → s < n → 0 ≤ i → i < N → u' s i = u s i) : Ind p N n u' := by
  intro c hc
  refine h c (fun i i0 iN => ?_)
  rw [sm_ext n (g := fun s => c s * u' s i) (fun s s0 s1 => by rw [he s i s0 s1 i0 iN])]
  exact hc i i0 iN
theorem Ind_s {p : Int} {N n : Nat} {u : Int → Int → Int} (hp : okp p) (h : Ind p N n u) (hx : ¬ Sp p N n u (u n)) : Ind p N (n + 1) u := by
  intro c hc
  by_cases hd : p ∣ c n
  · have h1 := h c (fun i i0 iN => by
      have h2 : p ∣ sm (fun s => c s * u s i) n + c n * u n i := hc i i0 iN
      have h3 := Int.dvd_sub h2 (Int.dvd_trans hd (Int.dvd_mul_right _ (u n i)))
      rw [show ∀ a b : Int, a + b - b = a by intro a b; omega] at h3
      exact h3)
    intro s s0 s1
    by_cases e : s = n
    · rw [e]; exact hd
    · exact h1 s s0 (by omega)
  · exfalso
    obtain ⟨b, hb⟩ := inv_ex hp hd
    apply hx
    refine ⟨fun s => - b * c s, fun i i0 iN => ?_⟩
    have h2 : p ∣ sm (fun s => c s * u s i) n + c n * u n i := hc i i0 iN
    have e : sm (fun s => -b * c s * u s i) n = -b * sm (fun s => c s * u s i) n := by
      rw [← sm_mul]
      exact sm_ext n (fun s _ _ => by grind)
    rw [e]
    obtain ⟨x, hx⟩ := h2
    obtain ⟨y, hy⟩ := hb
    exact ⟨b * x - u n i * y, by grind⟩
theorem Ind_dim {p : Int} {N n : Nat} {u : Int → Int → Int} (hp : okp p) (h : Ind p N n u) : n ≤ N := by
  refine steinitz hp N n (fun s i => if i = s then 1 else 0) u h (fun s _ _ => ⟨u s, fun i i0 iN => ?_⟩)
  have e : sm (fun j => u s j * (if i = j then 1 else 0)) N = u s i := by
    rw [sm_ext N (g := fun j => (if j = i then 1 else 0) * u s j) (fun j _ _ => by
      rw [Int.mul_comm]
      by_cases c : i = j
      · rw [if_pos c, if_pos c.symm]
      · rw [if_neg c, if_neg (fun z => c z.symm)]), sm_one i0 N, if_pos iN]
  rw [e, Int.sub_self]
  exact ⟨0, by simp⟩
/-- n independent ones in the span of n span what those do -/
theorem Sp_full {p : Int} {N n : Nat} {u w : Int → Int → Int} {x : Int → Int} (hp : okp p) (hI : Ind p N n u) (hu : ∀ s : Int, 0 ≤ s → s < n → Sp p N n w (u s)) (hx : Sp p N n w x) : Sp p N n u x := by
  apply Classical.byContradiction
  intro hn
  have h1 : Ind p N (n + 1) (fun s => if s = n then x else u s) := by
    refine Ind_s hp (Ind_ext hI (fun s i s0 s1 _ _ => by rw [if_neg (show ¬ s = (n : Int) by omega)])) (fun hs => hn ?_)
    rw [if_pos rfl] at hs
    exact Sp_ext hs (fun s i s0 s1 _ _ => by rw [if_neg (show ¬ s = (n : Int) by omega)])
  have h2 := steinitz hp n (n + 1) w _ h1 (fun s s0 s1 => by
    by_cases e : s = (n : Int)
    · rw [if_pos e]; exact hx
    · rw [if_neg e]; exact hu s s0 (by omega))
  omega
/-- taking out the vectors, one after the other -/
def rdc (p : Int) (v q : Int → Int) (x : Int) : Nat → Int
  | 0 => x
  | n + 1 => pl p (rdc p v q x n) ((p - D p (rdc p v q x n) (q n)) % p) (v n)
def bln (p : Int) (v q b : Int → Int) (x : Int) : Nat → Int
  | 0 => 0
  | n + 1 => pl p (bln p v q b x n) (D p (rdc p v q x n) (q n)) (b n)
theorem rdc_R {p x : Int} {v q : Int → Int} (hp : okp p) (hx : isR p x) : ∀ n : Nat, isR p (rdc p v q x n)
  | 0 => hx
  | _ + 1 => pl_R hp
theorem bln_R {p x : Int} {v q b : Int → Int} (hp : okp p) : ∀ n : Nat, isR p (bln p v q b x n)
  | 0 => R0 hp
  | _ + 1 => pl_R hp
theorem md_dv {p a : Int} : p ∣ a - a % p := Int.dvd_self_sub_emod
theorem mn_dv {p f r : Int} : p ∣ f * r + (p - f) % p * r := by
  have h1 : p ∣ (p - f) - (p - f) % p := md_dv
  obtain ⟨x, hx⟩ := h1
  exact ⟨r - x * r, by grind⟩
theorem D_mi {p a f b i : Int} (hp : okp p) (h0 : 0 ≤ i) (h9 : i < 9) : p ∣ D p a i - D p (pl p a ((p - f) % p) b) i - f * D p b i := by
  rw [D_pl hp h0 h9]
  obtain ⟨x, hx⟩ := md_dv (p := p) (a := D p a i + (p - f) % p * D p b i)
  obtain ⟨y, hy⟩ := mn_dv (p := p) (f := f) (r := D p b i)
  exact ⟨x - y, by grind⟩
theorem D_pd {p a f b i : Int} (hp : okp p) (h0 : 0 ≤ i) (h9 : i < 9) : p ∣ D p a i + f * D p b i - D p (pl p a f b) i := by
  rw [D_pl hp h0 h9]
  exact md_dv
theorem rdc_c {p x : Int} {v q : Int → Int} (hp : okp p) : ∀ (n : Nat) (i : Int), 0 ≤ i → i < 9 → p ∣ D p x i - D p (rdc p v q x n) i - sm (fun s => D p (rdc p v q x s.toNat) (q s) * D p (v s) i) n
  | 0, i, _, _ => ⟨0, by show D p x i - D p x i - 0 = p * 0; omega⟩
  | n + 1, i, i0, i9 => by
    have h1 := rdc_c (v := v) (q := q) (x := x) hp n i i0 i9
    have h2 := D_mi (a := rdc p v q x n) (f := D p (rdc p v q x n) (q n)) (b := v n) hp i0 i9
    have h3 := Int.dvd_add h1 h2
    show p ∣ D p x i - D p (pl p (rdc p v q x n) ((p - D p (rdc p v q x n) (q n)) % p) (v n)) i - (sm (fun s => D p (rdc p v q x s.toNat) (q s) * D p (v s) i) n + D p (rdc p v q x (n : Int).toNat) (q n) * D p (v n) i)
    rw [Int.toNat_natCast]
    rw [show ∀ a b c d e : Int, a - b - c + (b - d - e) = a - d - (c + e) by intro a b c d e; omega] at h3
    exact h3
theorem dvd_D {p x i : Int} (hp : okp p) (h : p ∣ D p x i) : D p x i = 0 := by
  have h1 := D_D (x := x) (i := i) hp
  have h2 := Int.emod_eq_zero_of_dvd h
  rw [Int.emod_eq_of_lt h1.1 h1.2] at h2
  exact h2
theorem rdc_q {p x : Int} {v q : Int → Int} (hp : okp p) : ∀ n : Nat, BV p n v q → ∀ m : Int, 0 ≤ m → m < n → D p (rdc p v q x n) (q m) = 0
  | 0, _, m, _, _ => by omega
  | n + 1, hB, m, m0, m1 => by
    have hm := hB m m0 m1
    apply dvd_D hp
    have h2 := D_mi (a := rdc p v q x n) (f := D p (rdc p v q x n) (q n)) (b := v n) hp hm.2.1 hm.2.2.1
    show p ∣ D p (pl p (rdc p v q x n) ((p - D p (rdc p v q x n) (q n)) % p) (v n)) (q m)
    by_cases e : m = (n : Int)
    · rw [e] at h2 hm ⊢
      rw [hm.2.2.2.1] at h2
      have := (Int.dvd_neg).2 h2
      rw [show ∀ a b : Int, -(a - b - a * 1) = b by intro a b; omega] at this
      exact this
    · rw [hm.2.2.2.2 n (by omega) (by omega), rdc_q hp n (fun k k0 k1 => ⟨(hB k k0 (by omega)).1, (hB k k0 (by omega)).2.1, (hB k k0 (by omega)).2.2.1, (hB k k0 (by omega)).2.2.2.1, fun j j0 j1 => (hB k k0 (by omega)).2.2.2.2 j j0 (by omega)⟩) m m0 (by omega)] at h2
      have := (Int.dvd_neg).2 h2
      rw [show ∀ a b : Int, -(0 - b - a * 0) = b by intro a b; omega] at this
      exact this
theorem rdc_0 {p x : Int} {v q : Int → Int} {n : Nat} (hp : okp p) (hB : BV p n v q) (hx : isR p x) : rdc p v q x n = 0 ↔ Sp p 9 n (DV p v) (D p x) := by
  constructor
  · intro h0
    refine ⟨fun s => D p (rdc p v q x s.toNat) (q s), fun i i0 i9 => ?_⟩
    have := rdc_c (v := v) (q := q) (x := x) hp n i i0 i9
    rw [h0, D_z, Int.sub_zero] at this
    exact this
  · intro ⟨c, hc⟩
    have hr := rdc_R (v := v) (q := q) hp hx n
    have hs : ∀ i : Int, 0 ≤ i → i < 9 → p ∣ D p (rdc p v q x n) i - sm (fun s => (c s - D p (rdc p v q x s.toNat) (q s)) * D p (v s) i) n := fun i i0 i9 => by
      have h1 := hc i i0 i9
      have h2 := rdc_c (v := v) (q := q) (x := x) hp n i i0 i9
      have e : sm (fun s => (c s - D p (rdc p v q x s.toNat) (q s)) * D p (v s) i) n = sm (fun s => c s * D p (v s) i) n + (-1) * sm (fun s => D p (rdc p v q x s.toNat) (q s) * D p (v s) i) n := by
        rw [← sm_mul, ← sm_add]
        exact sm_ext n (fun s _ _ => by grind)
      rw [e]
      have h3 := Int.dvd_sub h1 h2
      rw [show ∀ a b c d : Int, a - b - (a - c - d) = c - (b + -1 * d) by intro a b c d; omega] at h3
      exact h3
    have ht := tri (g := fun s => c s - D p (rdc p v q x s.toNat) (q s)) hB (fun m m0 mn => by
      have hm := hB m m0 mn
      have h1 := hs (q m) hm.2.1 hm.2.2.1
      rw [rdc_q hp n hB m m0 mn] at h1
      have := (Int.dvd_neg).2 h1
      rw [show ∀ b : Int, -(0 - b) = b by intro b; omega] at this
      exact this)
    refine D_inj (okp_b hp).1 9 hr (R0 hp) (fun i i0 i9 => ?_)
    rw [D_z]
    apply dvd_D hp
    have h1 := hs i i0 i9
    have h2 : p ∣ sm (fun s => (c s - D p (rdc p v q x s.toNat) (q s)) * D p (v s) i) n := sm_dvd n (fun s s0 s1 => Int.dvd_trans (ht s s0 s1) (Int.dvd_mul_right _ _))
    have h3 := Int.dvd_add h1 h2
    rw [show ∀ a b : Int, a - b + b = a by intro a b; omega] at h3
    exact h3
