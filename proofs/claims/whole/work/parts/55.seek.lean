theorem FI_shp {p r : Int} (hp : okp p) (hr : isR p r) (h0 : r ≠ 0) : FI p (shp p r) = FI p r ∧ D p (shp p r) (FI p r) = 1 ∧ shp p r ≠ 0 := by
  have fi := FI_ok hp hr h0
  have fv := FV_ok hp hr h0
  have io := iv_ok hp fv.1 fv.2
  have e1 : D p (shp p r) (FI p r) = 1 := by
    unfold shp
    rw [D_pl hp fi.1 fi.2.1, D_z, Int.zero_add, Int.mul_comm]
    exact io.2.2
  have n0 : shp p r ≠ 0 := fun z => by rw [z, D_z] at e1; omega
  have fs := FI_ok hp (shp_R (x := r) hp) n0
  refine ⟨?_, e1, n0⟩
  by_cases c1 : FI p (shp p r) < FI p r
  · exfalso
    apply fs.2.2.1
    generalize hj : FI p (shp p r) = j at *
    unfold shp
    rw [D_pl hp fs.1 fs.2.1, D_z, fi.2.2.2 _ fs.1 c1]
    simp
  · by_cases c2 : FI p r < FI p (shp p r)
    · have := fs.2.2.2 _ fi.1 c2
      omega
    · omega
theorem rdc_ext {p x : Int} {v q v' q' : Int → Int} : ∀ n : Nat, (∀ s : Int, 0 ≤ s → s < n → v' s = v s ∧ q' s = q s) → rdc p v' q' x n = rdc p v q x n
  | 0, _ => rfl
  | n + 1, he => by
    show pl p (rdc p v' q' x n) ((p - D p (rdc p v' q' x n) (q' n)) % p) (v' n) = pl p (rdc p v q x n) ((p - D p (rdc p v q x n) (q n)) % p) (v n)
    rw [rdc_ext n (fun s s0 s1 => he s s0 (by omega)), (he n (by omega) (by omega)).1, (he n (by omega) (by omega)).2]
/-- one more vector: what is left of x -/
theorem BV_s {p x : Int} {n : Nat} {v q : Int → Int} (hp : okp p) (hB : BV p n v q) (hx : isR p x) (hr : rdc p v q x n ≠ 0) : BV p (n + 1) (up1 v n (shp p (rdc p v q x n))) (up1 q n (FI p (shp p (rdc p v q x n)))) ∧ (∀ y : Int, rdc p (up1 v n (shp p (rdc p v q x n))) (up1 q n (FI p (shp p (rdc p v q x n)))) y (n + 1) = pl p (rdc p v q y n) ((p - D p (rdc p v q y n) (FI p (shp p (rdc p v q x n)))) % p) (shp p (rdc p v q x n))) := by
  have rR := rdc_R (v := v) (q := q) hp hx n
  have fi := FI_ok hp rR hr
  have fs := FI_shp hp rR hr
  have rq := rdc_q (x := x) hp n hB
  refine ⟨fun m m0 m1 => ?_, fun y => ?_⟩
  · by_cases e : m = (n : Int)
    · subst e
      rw [up1_s, up1_s, fs.1]
      exact ⟨shp_R hp, fi.1, fi.2.1, fs.2.1, fun k k0 k1 => by omega⟩
    · have hm := hB m m0 (by omega)
      rw [up1_o e, up1_o e]
      refine ⟨hm.1, hm.2.1, hm.2.2.1, hm.2.2.2.1, fun k k0 k1 => ?_⟩
      by_cases e2 : k = (n : Int)
      · rw [e2, up1_s]
        unfold shp
        rw [D_pl hp hm.2.1 hm.2.2.1, D_z, rq m m0 (by omega)]
        simp
      · rw [up1_o e2]
        exact hm.2.2.2.2 k k0 (by omega)
  · show pl p (rdc p _ _ y n) ((p - D p (rdc p _ _ y n) (up1 q n (FI p (shp p (rdc p v q x n))) n)) % p) (up1 v n (shp p (rdc p v q x n)) n) = _
    rw [up1_s, up1_s, rdc_ext (v := v) (q := q) n (fun s s0 s1 => ⟨up1_o (by omega), up1_o (by omega)⟩)]
/-- the new vector comes of x and the old ones, and x of the new ones -/
theorem BV_sp {p x : Int} {n : Nat} {v q : Int → Int} (hp : okp p) (hB : BV p n v q) (hx : isR p x) (hr : rdc p v q x n ≠ 0) : Sp p 9 (n + 1) (DV p (up1 v n (shp p (rdc p v q x n)))) (D p x) ∧ Sp p 9 (n + 1) (DV p (up1 v n x)) (DV p (up1 v n (shp p (rdc p v q x n))) n) := by
  have rR := rdc_R (v := v) (q := q) hp hx n
  have fv := FV_ok hp rR hr
  have io := iv_ok hp fv.1 fv.2
  have rc := rdc_c (v := v) (q := q) (x := x) hp n
  generalize rdc p v q x n = r at rR fv io rc hr ⊢
  have ivd : p ∣ FV p r * iv p (FV p r) - 1 := by
    have := md_dv (p := p) (a := FV p r * iv p (FV p r))
    rw [io.2.2] at this
    exact this
  constructor
  · refine ⟨fun s => if s = n then FV p r else D p (rdc p v q x s.toNat) (q s), fun i i0 i9 => ?_⟩
    show p ∣ D p x i - (sm (fun s => (if s = (n : Int) then FV p r else D p (rdc p v q x s.toNat) (q s)) * D p (up1 v n (shp p r) s) i) n + (if (n : Int) = n then FV p r else D p (rdc p v q x (n : Int).toNat) (q n)) * D p (up1 v n (shp p r) n) i)
    rw [if_pos rfl, up1_s, sm_ext n (g := fun s => D p (rdc p v q x s.toNat) (q s) * D p (v s) i) (fun s s0 s1 => by rw [if_neg (show ¬ s = (n : Int) by omega), up1_o (by omega)])]
    obtain ⟨y3, h3⟩ := rc i i0 i9
    have h4 := D_pd (a := 0) (f := iv p (FV p r)) (b := r) hp i0 i9
    rw [D_z] at h4
    obtain ⟨y4, h4⟩ := h4
    obtain ⟨y5, h5⟩ := ivd
    refine ⟨y3 + FV p r * y4 - D p r i * y5, ?_⟩
    unfold shp
    grind
  · refine ⟨fun s => if s = n then iv p (FV p r) else - iv p (FV p r) * D p (rdc p v q x s.toNat) (q s), fun i i0 i9 => ?_⟩
    show p ∣ D p (up1 v n (shp p r) n) i - (sm (fun s => (if s = (n : Int) then iv p (FV p r) else - iv p (FV p r) * D p (rdc p v q x s.toNat) (q s)) * D p (up1 v n x s) i) n + (if (n : Int) = n then iv p (FV p r) else - iv p (FV p r) * D p (rdc p v q x (n : Int).toNat) (q n)) * D p (up1 v n x n) i)
    rw [if_pos rfl, up1_s, up1_s, sm_ext n (g := fun s => - iv p (FV p r) * (D p (rdc p v q x s.toNat) (q s) * D p (v s) i)) (fun s s0 s1 => by rw [if_neg (show ¬ s = (n : Int) by omega), up1_o (by omega), Int.mul_assoc]), sm_mul]
    obtain ⟨y3, h3⟩ := rc i i0 i9
    have h4 := D_pd (a := 0) (f := iv p (FV p r)) (b := r) hp i0 i9
    rw [D_z] at h4
    obtain ⟨y4, h4⟩ := h4
    refine ⟨- y4 - iv p (FV p r) * y3, ?_⟩
    unfold shp
    grind
/-- the choice c of d tables T, with n rows enough for it and the slices L -/
def OkC (p : Int) (N : Nat) (T L : Int → Int → Int) (C K : Int) (n d : Nat) (c : Int → Int) : Prop := (∀ s : Int, 0 ≤ s → s + 1 < d → c s < c (s + 1)) ∧ (∀ s : Int, 0 ≤ s → s < d → 0 ≤ c s ∧ c s < K) ∧ Ind p N d (fun s => T (c s)) ∧ ∃ w : Int → Int → Int, (∀ s : Int, 0 ≤ s → s < d → Sp p N n w (T (c s))) ∧ ∀ k : Int, 0 ≤ k → k < C → Sp p N n w (L k)
def LE (n : Nat) (c c' : Int → Int) : Prop := (∀ s : Int, 0 ≤ s → s < n → c s = c' s) ∨ ∃ j : Int, 0 ≤ j ∧ j < n ∧ (∀ i : Int, 0 ≤ i → i < j → c i = c' i) ∧ c j < c' j
theorem LE_un {n : Nat} {c c' : Int → Int} (h1 : LE n c c') (h2 : LE n c' c) : ∀ s : Int, 0 ≤ s → s < n → c s = c' s := by
  rcases h1 with h1 | ⟨j, j0, jn, hj, lj⟩
  · exact h1
  · rcases h2 with h2 | ⟨k, k0, kn, hk, lk⟩
    · exact fun s s0 s1 => (h2 s s0 s1).symm
    · exfalso
      by_cases a1 : j < k
      · have := hk j j0 a1; omega
      · by_cases a2 : k < j
        · have := hj k k0 a2; omega
        · have : j = k := by omega
          subst this
          omega
/-- choices of n that begin as c does, and go on from f -/
def Ext (p : Int) (N : Nat) (T L : Int → Int → Int) (C K : Int) (n d : Nat) (f : Int) (c c' : Int → Int) : Prop := OkC p N T L C K n n c' ∧ (∀ s : Int, 0 ≤ s → s < d → c' s = c s) ∧ (d < n → f ≤ c' d)
