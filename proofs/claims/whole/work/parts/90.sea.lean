theorem tri3 {p : Int} {r : Nat} {L : Int → Int → Int} {q c : Int → Int} (hp : okp p) (hq : ∀ m : Int, 0 ≤ m → m < r → ¬ p ∣ L m (q m) ∧ ∀ k : Int, m < k → k < r → L k (q m) = 0) (hz : ∀ m : Int, 0 ≤ m → m < r → p ∣ sm (fun s => c s * L s (q m)) r) : ∀ m : Int, 0 ≤ m → m < r → p ∣ c m := by
  have key : ∀ n : Nat, ∀ m : Int, 0 ≤ m → m < n → m < r → p ∣ c m := fun n => by
    induction n with
    | zero => intro m m0 m1; omega
    | succ n ih =>
      intro m m0 m1 mr
      obtain ⟨q2, q3⟩ := hq m m0 mr
      have h1 := hz m m0 mr
      have h2 := sm_pick (p := p) (f := fun s => c s * L s (q m)) m0 r mr (fun s s0 s1 hs => by
        by_cases e : s < m
        · exact Int.dvd_trans (ih s s0 (by omega) (by omega)) (Int.dvd_mul_right _ _)
        · show p ∣ c s * L s (q m)
          rw [q3 s (by omega) s1, Int.mul_zero]; exact Int.dvd_zero p)
      have h3 : p ∣ c m * L m (q m) := by
        have := Int.dvd_sub h1 h2
        rw [show sm (fun s => c s * L s (q m)) r - (sm (fun s => c s * L s (q m)) r - c m * L m (q m)) = c m * L m (q m) by omega] at this
        exact this
      obtain ⟨b, hb⟩ := inv_ex hp q2
      have h4 : p ∣ c m * (L m (q m) * b - 1) := Int.dvd_trans hb (Int.dvd_mul_left _ _)
      have h5 : p ∣ c m * L m (q m) * b := Int.dvd_trans h3 (Int.dvd_mul_right _ _)
      have := Int.dvd_sub h5 h4
      rw [show c m * L m (q m) * b - c m * (L m (q m) * b - 1) = c m by rw [Int.mul_sub, Int.mul_one, Int.mul_assoc]; omega] at this
      exact this
  exact fun s s0 s1 => key r s s0 s1 s1
theorem Sp_cong {p : Int} {N n : Nat} {w : Int → Int → Int} {u v : Int → Int} (h : Sp p N n w v) (e : ∀ i : Int, 0 ≤ i → i < N → p ∣ u i - v i) : Sp p N n w u := by
  obtain ⟨c, hc⟩ := h
  refine ⟨c, fun i i0 iN => ?_⟩
  have := Int.dvd_add (e i i0 iN) (hc i i0 iN)
  rw [show u i - v i + (v i - sm (fun s => c s * w s i) n) = u i - sm (fun s => c s * w s i) n by omega] at this
  exact this
theorem Sp_add {p : Int} {N n : Nat} {w : Int → Int → Int} {u v : Int → Int} (h1 : Sp p N n w u) (h2 : Sp p N n w v) : Sp p N n w (fun i => u i + v i) := by
  obtain ⟨c, hc⟩ := h1
  obtain ⟨c', hc'⟩ := h2
  refine ⟨fun s => c s + c' s, fun i i0 iN => ?_⟩
  have := Int.dvd_add (hc i i0 iN) (hc' i i0 iN)
  rw [sm_ext n (g := fun s => c s * w s i + c' s * w s i) (fun s _ _ => Int.add_mul _ _ _), sm_add]
  rw [show u i - sm (fun s => c s * w s i) n + (v i - sm (fun s => c' s * w s i) n) = u i + v i - (sm (fun s => c s * w s i) n + sm (fun s => c' s * w s i) n) by omega] at this
  exact this
theorem Sp_smul {p : Int} {N n : Nat} {w : Int → Int → Int} {u : Int → Int} {a : Int} (h1 : Sp p N n w u) : Sp p N n w (fun i => a * u i) := by
  obtain ⟨c, hc⟩ := h1
  refine ⟨fun s => a * c s, fun i i0 iN => ?_⟩
  have := Int.dvd_trans (hc i i0 iN) (Int.dvd_mul_left a (u i - sm (fun s => c s * w s i) n))
  rw [Int.mul_sub] at this
  rw [sm_ext n (g := fun s => a * (c s * w s i)) (fun s _ _ => Int.mul_assoc _ _ _), sm_mul]
  exact this
theorem Sp_sum {p : Int} {N n d : Nat} {w e : Int → Int → Int} {α : Int → Int} (he : ∀ s : Int, 0 ≤ s → s < d → Sp p N n w (e s)) : Sp p N n w (fun i => sm (fun s => α s * e s i) d) := Sp_lin ⟨α, fun i _ _ => by rw [Int.sub_self]; exact Int.dvd_zero p⟩ he
theorem Sp_comb {p : Int} {N n d : Nat} {w e : Int → Int → Int} {u x α : Int → Int} (hx : Sp p N n w x) (he : ∀ s : Int, 0 ≤ s → s < d → Sp p N n w (e s)) (hu : ∀ i : Int, 0 ≤ i → i < N → p ∣ u i - x i - sm (fun s => α s * e s i) d) : Sp p N n w u := by
  refine Sp_cong (Sp_add hx (Sp_sum (α := α) he)) (fun i i0 iN => ?_)
  have := hu i i0 iN
  rw [show u i - x i - sm (fun s => α s * e s i) d = u i - (x i + sm (fun s => α s * e s i) d) by omega] at this
  exact this
/-! vectors of 81 numbers -/
def V81 (p : Int) (d : Nat) (e : Int → Int → Int) (q : Int → Int) : Prop := ∀ m : Int, 0 ≤ m → m < d → (0 ≤ q m ∧ q m < 81) ∧ e m (q m) = 1 ∧ (∀ k : Int, m < k → k < d → e k (q m) = 0) ∧ ∀ c : Int, 0 ≤ c → c < 81 → isD p (e m c)
def LF (p : Int) (d : Nat) (C : Int) (S lf e : Int → Int → Int) (q : Int → Int) : Prop := ∀ k : Int, 0 ≤ k → k < C → (∀ c : Int, 0 ≤ c → c < 81 → isD p (lf k c)) ∧ (∀ m : Int, 0 ≤ m → m < d → lf k (q m) = 0) ∧ ∃ α : Int → Int, ∀ i : Int, 0 ≤ i → i < 81 → p ∣ S k i - lf k i - sm (fun s => α s * e s i) d
def fam (d : Nat) (e a : Int → Int → Int) : Int → Int → Int := fun s => if s < d then e s else a (s - d)
theorem one_nd {p : Int} (hp : okp p) : ¬ p ∣ 1 := fun h => by
  have := Int.le_of_dvd (by decide) h
  have := okp_b hp
  omega
theorem crit {p : Int} {d n ρ : Nat} {C : Int} {T S e lf : Int → Int → Int} {q : Int → Int} (hp : okp p) (hV : V81 p d e q) (hL : LF p d C S lf e q) (h1 : ∀ s : Int, 0 ≤ s → s < d → Sp p 81 d e (T s)) (h2 : ∀ s : Int, 0 ≤ s → s < d → Sp p 81 d T (e s)) (hR : RK p 81 C.toNat lf ρ) : (∃ w : Int → Int → Int, (∀ s : Int, 0 ≤ s → s < d → Sp p 81 n w (T s)) ∧ ∀ k : Int, 0 ≤ k → k < C → Sp p 81 n w (S k)) ↔ d + ρ ≤ n := by
  obtain ⟨a, ia, a1, a2⟩ := hR
  have fe : ∀ s : Int, s < d → fam d e a s = e s := fun s hs => by unfold fam; rw [if_pos hs]
  have fa : ∀ s : Int, (d : Int) ≤ s → fam d e a s = a (s - d) := fun s hs => by unfold fam; rw [if_neg (by omega)]
  constructor
  · intro ⟨w, w1, w2⟩
    have we : ∀ s : Int, 0 ≤ s → s < d → Sp p 81 n w (e s) := fun s s0 s1 => Sp_lin (h2 s s0 s1) (fun t t0 t1 => w1 t t0 t1)
    have wl : ∀ k : Int, 0 ≤ k → k < C → Sp p 81 n w (lf k) := fun k k0 k1 => by
      obtain ⟨_, _, α, hα⟩ := hL k k0 k1
      refine Sp_comb (x := S k) (α := fun s => - α s) (w2 k k0 k1) we (fun i i0 i1 => ?_)
      have := (Int.dvd_neg).2 (hα i i0 i1)
      rw [sm_ext d (g := fun s => (-1) * (α s * e s i)) (fun s _ _ => by rw [Int.neg_mul, Int.neg_mul, Int.one_mul]), sm_mul]
      rw [show -(S k i - lf k i - sm (fun s => α s * e s i) d) = lf k i - S k i - -1 * sm (fun s => α s * e s i) d by omega] at this
      exact this
    have ig : Ind p 81 (d + ρ) (fam d e a) := fun γ hγ => by
      have az : ∀ t m : Int, 0 ≤ t → t < ρ → 0 ≤ m → m < d → p ∣ a t (q m) := fun t m t0 t1 m0 m1 => by
        obtain ⟨β, hβ⟩ := a1 t t0 t1
        have b1 := hβ (q m) (hV m m0 m1).1.1 (hV m m0 m1).1.2
        have b2 : sm (fun s => β s * lf s (q m)) C.toNat = 0 := by
          rw [sm_ext C.toNat (g := fun _ => 0) (fun s s0 s1 => by rw [(hL s s0 (by omega)).2.1 m m0 m1, Int.mul_zero]), sm_zero]
        rw [b2, Int.sub_zero] at b1
        exact b1
      have sp : ∀ i : Int, sm (fun s => γ s * fam d e a s i) (d + ρ) = sm (fun s => γ s * e s i) d + sm (fun t => γ (d + t) * a t i) ρ := fun i => by
        rw [sm_addn, sm_ext d (g := fun s => γ s * e s i) (fun s _ s1 => by rw [fe s s1]), sm_ext ρ (g := fun t => γ (d + t) * a t i) (fun t t0 t1 => by rw [fa _ (by omega), show (d : Int) + t - d = t by omega])]
      have g1 := tri3 (r := d) (L := e) (q := q) (c := γ) hp (fun m m0 m1 => ⟨by rw [(hV m m0 m1).2.1]; exact one_nd hp, (hV m m0 m1).2.2.1⟩) (fun m m0 m1 => by
        have x1 := hγ (q m) (hV m m0 m1).1.1 (hV m m0 m1).1.2
        rw [sp] at x1
        have x2 : p ∣ sm (fun t => γ (d + t) * a t (q m)) ρ := sm_dvd ρ (fun t t0 t1 => Int.dvd_trans (az t m t0 t1 m0 m1) (Int.dvd_mul_left _ _))
        have := Int.dvd_sub x1 x2
        rw [Int.add_sub_cancel] at this
        exact this)
      have g2 := ia (fun t => γ (d + t)) (fun i i0 i1 => by
        have x1 := hγ i i0 i1
        rw [sp] at x1
        have x2 : p ∣ sm (fun s => γ s * e s i) d := sm_dvd d (fun s s0 s1 => Int.dvd_trans (g1 s s0 s1) (Int.dvd_mul_right _ _))
        have := Int.dvd_sub x1 x2
        rw [Int.add_comm (sm (fun s => γ s * e s i) d), Int.add_sub_cancel] at this
        exact this)
      intro s s0 s1
      by_cases c : s < d
      · exact g1 s s0 c
      · have := g2 (s - d) (by omega) (by omega)
        rw [show (d : Int) + (s - d) = s by omega] at this
        exact this
    exact steinitz hp n (d + ρ) w (fam d e a) ig (fun s s0 s1 => by
      by_cases c : s < d
      · rw [fe s c]; exact we s s0 c
      · rw [fa s (by omega)]
        exact Sp_lin (a1 (s - d) (by omega) (by omega)) (fun k k0 k1 => wl k k0 (by omega)))
  · intro hle
    have ge : ∀ s : Int, 0 ≤ s → s < d → Sp p 81 (d + ρ) (fam d e a) (e s) := fun s s0 s1 => by
      rw [← fe s s1]; exact Sp_self s0 (by omega)
    have ga : ∀ t : Int, 0 ≤ t → t < ρ → Sp p 81 (d + ρ) (fam d e a) (a t) := fun t t0 t1 => by
      have := fa (d + t) (by omega)
      rw [show (d : Int) + t - d = t by omega] at this
      rw [← this]; exact Sp_self (by omega) (by omega)
    refine ⟨fam d e a, fun s s0 s1 => Sp_le (Sp_lin (h1 s s0 s1) ge) hle, fun k k0 k1 => Sp_le ?_ hle⟩
    obtain ⟨_, _, α, hα⟩ := hL k k0 k1
    exact Sp_comb (x := lf k) (α := α) (Sp_lin (a2 k k0 (by omega)) ga) ge hα
/-- a vector less what the first ones have of it -/
def rd81 (p : Int) (e : Int → Int → Int) (q t : Int → Int) : Nat → Int → Int
  | 0, c => t c
  | m + 1, c => (rd81 p e q t m c + (p - rd81 p e q t m (q m)) % p * e m c) % p
theorem rd_D {p : Int} {e : Int → Int → Int} {q t : Int → Int} (hp : okp p) (ht : ∀ c : Int, 0 ≤ c → c < 81 → isD p (t c)) : ∀ (m : Nat) (c : Int), 0 ≤ c → c < 81 → isD p (rd81 p e q t m c)
  | 0, c, c0, c1 => ht c c0 c1
  | _ + 1, _, _, _ => md_D hp
theorem ng1 {p x : Int} (hp : okp p) (hx : isD p x) : (x + (p - x) % p * 1) % p = 0 := by
  have := okp_b hp
  by_cases c : x = 0
  · rw [c, Int.sub_zero, Int.emod_self, Int.zero_mul, Int.add_zero, Int.zero_emod]
  · have h1 := hx.1
    have h2 := hx.2
    rw [Int.emod_eq_of_lt (show 0 ≤ p - x by omega) (show p - x < p by omega), Int.mul_one, show x + (p - x) = p by omega, Int.emod_self]
theorem rd_q {p : Int} {d : Nat} {e : Int → Int → Int} {q t : Int → Int} (hp : okp p) (hV : V81 p d e q) (ht : ∀ c : Int, 0 ≤ c → c < 81 → isD p (t c)) : ∀ m : Nat, m ≤ d → ∀ j : Int, 0 ≤ j → j < m → rd81 p e q t m (q j) = 0
  | 0, _, j, j0, j1 => by omega
  | m + 1, hm, j, j0, j1 => by
    have hj := hV j j0 (by omega)
    show (rd81 p e q t m (q j) + (p - rd81 p e q t m (q m)) % p * e m (q j)) % p = 0
    by_cases c : j = (m : Int)
    · rw [c] at hj ⊢
      rw [hj.2.1]
      exact ng1 hp (rd_D hp ht m _ hj.1.1 hj.1.2)
    · rw [rd_q hp hV ht m (by omega) j j0 (by omega), hj.2.2.1 m (by omega) (by omega), Int.mul_zero, Int.add_zero, Int.zero_emod]
theorem rd_c {p : Int} {e : Int → Int → Int} {q t : Int → Int} : ∀ (m : Nat) (i : Int), p ∣ t i - rd81 p e q t m i - sm (fun s => rd81 p e q t s.toNat (q s) * e s i) m
  | 0, i => ⟨0, by show t i - t i - 0 = p * 0; omega⟩
  | m + 1, i => by
    have h1 := rd_c (p := p) (e := e) (q := q) (t := t) m i
    have h2 := md_dv (p := p) (a := rd81 p e q t m i + (p - rd81 p e q t m (q m)) % p * e m i)
    have h3 := mn_dv (p := p) (f := rd81 p e q t m (q m)) (r := e m i)
    show p ∣ t i - (rd81 p e q t m i + (p - rd81 p e q t m (q m)) % p * e m i) % p - (sm (fun s => rd81 p e q t s.toNat (q s) * e s i) m + rd81 p e q t (m : Int).toNat (q m) * e m i)
    rw [Int.toNat_natCast]
    have := Int.dvd_sub (Int.dvd_add h1 h2) h3
    rw [show ∀ a b c x y z : Int, a - b - c + (b + x - y) - (z + x) = a - y - (c + z) by intro a b c x y z; omega] at this
    exact this
theorem rd_sp {p : Int} {d : Nat} {e : Int → Int → Int} {q t : Int → Int} (hp : okp p) (hV : V81 p d e q) (ht : ∀ c : Int, 0 ≤ c → c < 81 → isD p (t c)) : (∀ c : Int, 0 ≤ c → c < 81 → rd81 p e q t d c = 0) ↔ Sp p 81 d e t := by
  constructor
  · intro hz
    refine ⟨fun s => rd81 p e q t s.toNat (q s), fun i i0 i1 => ?_⟩
    have := rd_c (p := p) (e := e) (q := q) (t := t) d i
    rw [hz i i0 i1, Int.sub_zero] at this
    exact this
  · intro ⟨γ, hγ⟩ c c0 c1
    have key : ∀ i : Int, 0 ≤ i → i < 81 → p ∣ rd81 p e q t d i - sm (fun s => (γ s - rd81 p e q t s.toNat (q s)) * e s i) d := fun i i0 i1 => by
      have x1 := rd_c (p := p) (e := e) (q := q) (t := t) d i
      have x2 := hγ i i0 i1
      have := Int.dvd_sub x2 x1
      rw [sm_ext d (g := fun s => γ s * e s i + (-1) * (rd81 p e q t s.toNat (q s) * e s i)) (fun s _ _ => by rw [Int.sub_mul, Int.neg_mul, Int.one_mul, Int.sub_eq_add_neg]), sm_add, sm_mul]
      rw [show ∀ a b c x : Int, a - b - (a - x - c) = x - (b + -1 * c) by intro a b c x; omega] at this
      exact this
    have g := tri3 (r := d) (L := e) (q := q) (c := fun s => γ s - rd81 p e q t s.toNat (q s)) hp (fun m m0 m1 => ⟨by rw [(hV m m0 m1).2.1]; exact one_nd hp, (hV m m0 m1).2.2.1⟩) (fun m m0 m1 => by
      have := key (q m) (hV m m0 m1).1.1 (hV m m0 m1).1.2
      rw [rd_q hp hV ht d (Nat.le_refl d) m m0 m1, Int.zero_sub] at this
      exact (Int.dvd_neg).1 this)
    have x1 := key c c0 c1
    have x2 : p ∣ sm (fun s => (γ s - rd81 p e q t s.toNat (q s)) * e s c) d := sm_dvd d (fun s s0 s1 => Int.dvd_trans (g s s0 s1) (Int.dvd_mul_right _ _))
    have x3 := Int.dvd_add x1 x2
    rw [Int.sub_add_cancel] at x3
    exact (dvd_d (rd_D hp ht d c c0 c1)).1 x3
def up2 (f : Int → Int → Int) (k : Int) (v : Int → Int) : Int → Int → Int := fun j => if j = k then v else f j
theorem up2_s {f : Int → Int → Int} {k : Int} {v : Int → Int} : up2 f k v k = v := if_pos rfl
theorem up2_o {f : Int → Int → Int} {k j : Int} {v : Int → Int} (h : j ≠ k) : up2 f k v j = f j := if_neg h
/-- the new vector of a level -/
def nv (p : Int) (e : Int → Int → Int) (q t : Int → Int) (d : Nat) (col : Int) : Int → Int := fun c => rd81 p e q t d c * iv p (rd81 p e q t d col) % p
def nl (p : Int) (lf : Int → Int → Int) (v : Int → Int) (col : Int) : Int → Int → Int := fun k c => (lf k c + (p - lf k col) % p * v c) % p
theorem lvl {p C : Int} {d : Nat} {T S e lf : Int → Int → Int} {q t : Int → Int} {col : Int} (hp : okp p) (hV : V81 p d e q) (hL : LF p d C S lf e q) (ht : ∀ c : Int, 0 ≤ c → c < 81 → isD p (t c)) (h1 : ∀ s : Int, 0 ≤ s → s < d → Sp p 81 d e (T s)) (h2 : ∀ s : Int, 0 ≤ s → s < d → Sp p 81 d T (e s)) (c0 : 0 ≤ col) (c1 : col < 81) (nz : rd81 p e q t d col ≠ 0) (hTd : T d = t) :
    V81 p (d + 1) (up2 e d (nv p e q t d col)) (up1 q d col) ∧ LF p (d + 1) C S (nl p lf (nv p e q t d col) col) (up2 e d (nv p e q t d col)) (up1 q d col) ∧ (∀ s : Int, 0 ≤ s → s < ((d + 1 : Nat) : Int) → Sp p 81 (d + 1) (up2 e d (nv p e q t d col)) (T s)) ∧ (∀ s : Int, 0 ≤ s → s < ((d + 1 : Nat) : Int) → Sp p 81 (d + 1) T (up2 e d (nv p e q t d col) s)) ∧ ¬ Sp p 81 d T t := by
  have yD := rd_D (e := e) (q := q) hp ht d col c0 c1
  have io := iv_ok hp (show 1 ≤ rd81 p e q t d col by have := yD.1; omega) yD.2
  have vc : nv p e q t d col col = 1 := io.2.2
  have vq : ∀ m : Int, 0 ≤ m → m < d → nv p e q t d col (q m) = 0 := fun m m0 m1 => by
    unfold nv
    rw [rd_q hp hV ht d (Nat.le_refl d) m m0 m1, Int.zero_mul, Int.zero_emod]
  have eo : ∀ s : Int, s < d → up2 e d (nv p e q t d col) s = e s := fun s hs => up2_o (by omega)
  have qo : ∀ s : Int, s < d → up1 q d col s = q s := fun s hs => up1_o (by omega)
  have e' : ∀ s : Int, 0 ≤ s → s < d → Sp p 81 (d + 1) (up2 e d (nv p e q t d col)) (e s) := fun s s0 s1 => by
    rw [← eo s s1]; exact Sp_self s0 (by omega)
  have ed : Sp p 81 (d + 1) (up2 e d (nv p e q t d col)) (nv p e q t d col) := by
    have := Sp_self (p := p) (N := 81) (n := d + 1) (v := up2 e d (nv p e q t d col)) (t := (d : Int)) (by omega) (by omega)
    rw [up2_s] at this; exact this
  have nsp : ¬ Sp p 81 d T t := fun h => by
    have h3 := Sp_lin h h1
    exact nz ((rd_sp hp hV ht).2 h3 col c0 c1)
  refine ⟨fun m m0 m1 => ?_, fun k k0 k1 => ⟨fun c _ _ => md_D hp, fun m m0 m1 => ?_, ?_⟩, fun s s0 s1 => ?_, fun s s0 s1 => ?_, nsp⟩
  · by_cases e1 : m = (d : Int)
    · rw [e1, up1_s, up2_s]
      exact ⟨⟨c0, c1⟩, vc, fun k k0 k1 => by omega, fun c _ _ => md_D hp⟩
    · rw [qo m (by omega), eo m (by omega)]
      obtain ⟨a1, a2, a3, a4⟩ := hV m m0 (by omega)
      refine ⟨a1, a2, fun k k0 k1 => ?_, a4⟩
      by_cases e2 : k = (d : Int)
      · rw [e2, up2_s]; exact vq m m0 (by omega)
      · rw [eo k (by omega)]; exact a3 k k0 (by omega)
  · have hk := hL k k0 k1
    unfold nl
    by_cases e1 : m = (d : Int)
    · rw [e1, up1_s, vc]; exact ng1 hp (hk.1 col c0 c1)
    · rw [qo m (by omega), hk.2.1 m m0 (by omega), vq m m0 (by omega), Int.mul_zero, Int.add_zero, Int.zero_emod]
  · obtain ⟨hk1, hk2, α, hα⟩ := hL k k0 k1
    refine ⟨fun s => if s = (d : Int) then lf k col else α s, fun i i0 i1 => ?_⟩
    have x1 := hα i i0 i1
    have x2 := md_dv (p := p) (a := lf k i + (p - lf k col) % p * nv p e q t d col i)
    have x3 := mn_dv (p := p) (f := lf k col) (r := nv p e q t d col i)
    have es : sm (fun s => (if s = (d : Int) then lf k col else α s) * up2 e d (nv p e q t d col) s i) (d + 1) = sm (fun s => α s * e s i) d + lf k col * nv p e q t d col i := by
      show sm (fun s => (if s = (d : Int) then lf k col else α s) * up2 e d (nv p e q t d col) s i) d + (if (d : Int) = (d : Int) then lf k col else α d) * up2 e d (nv p e q t d col) d i = _
      rw [sm_ext d (g := fun s => α s * e s i) (fun s s0 s1 => by rw [if_neg (by omega), eo s s1]), if_pos rfl, up2_s]
    rw [es]
    have := Int.dvd_sub (Int.dvd_add x1 x2) x3
    unfold nl
    rw [show ∀ a b c x y z : Int, a - b - c + (b + x - y) - (z + x) = a - y - (c + z) by intro a b c x y z; omega] at this
    exact this
  · by_cases e1 : s = (d : Int)
    · rw [e1, hTd]
      refine Sp_comb (x := fun i => rd81 p e q t d col * nv p e q t d col i) (α := fun s => rd81 p e q t s.toNat (q s)) (e := e) (d := d) (Sp_smul ed) e' (fun i i0 i1 => ?_)
      have x1 := rd_c (p := p) (e := e) (q := q) (t := t) d i
      have x2 : p ∣ rd81 p e q t d i - rd81 p e q t d col * nv p e q t d col i := by
        unfold nv
        have y1 := md_dv (p := p) (a := rd81 p e q t d i * iv p (rd81 p e q t d col))
        have y2 := Int.dvd_trans y1 (Int.dvd_mul_left (rd81 p e q t d col) (rd81 p e q t d i * iv p (rd81 p e q t d col) - rd81 p e q t d i * iv p (rd81 p e q t d col) % p))
        have y3 := md_dv (p := p) (a := rd81 p e q t d col * iv p (rd81 p e q t d col))
        rw [io.2.2] at y3
        have y4 := Int.dvd_trans y3 (Int.dvd_mul_left (rd81 p e q t d i) (rd81 p e q t d col * iv p (rd81 p e q t d col) - 1))
        have := Int.dvd_sub y2 y4
        rw [Int.mul_sub, Int.mul_sub, Int.mul_one, ← Int.mul_assoc, ← Int.mul_assoc, Int.mul_comm (rd81 p e q t d col) (rd81 p e q t d i)] at this
        rw [show ∀ a b c : Int, a - b - (a - c) = c - b by intro a b c; omega] at this
        exact this
      have := Int.dvd_add x1 x2
      rw [show ∀ a b c x : Int, a - b - c + (b - x) = a - x - c by intro a b c x; omega] at this
      exact this
    · exact Sp_lin (h1 s s0 (by omega)) e'
  · by_cases e1 : s = (d : Int)
    · rw [e1, up2_s]
      have tT : Sp p 81 (d + 1) T t := by rw [← hTd]; exact Sp_self (by omega) (by omega)
      have eT : ∀ s : Int, 0 ≤ s → s < d → Sp p 81 (d + 1) T (e s) := fun s s0 s1 => Sp_le (h2 s s0 s1) (by omega)
      have rT : Sp p 81 (d + 1) T (rd81 p e q t d) := Sp_comb (x := t) (α := fun s => - rd81 p e q t s.toNat (q s)) (e := e) (d := d) tT eT (fun i i0 i1 => by
        have x1 := (Int.dvd_neg).2 (rd_c (p := p) (e := e) (q := q) (t := t) d i)
        rw [sm_ext d (g := fun s => (-1) * (rd81 p e q t s.toNat (q s) * e s i)) (fun s _ _ => by rw [Int.neg_mul, Int.neg_mul, Int.one_mul]), sm_mul]
        rw [show ∀ a b c : Int, -(a - b - c) = b - a - -1 * c by intro a b c; omega] at x1
        exact x1)
      refine Sp_cong (Sp_smul (a := iv p (rd81 p e q t d col)) rT) (fun i i0 i1 => ?_)
      unfold nv
      have := (Int.dvd_neg).2 (md_dv (p := p) (a := rd81 p e q t d i * iv p (rd81 p e q t d col)))
      rw [Int.neg_sub] at this
      rw [Int.mul_comm (iv p (rd81 p e q t d col))]
      exact this
    · rw [eo s (by omega)]; exact Sp_le (h2 s s0 (by omega)) (by omega)
