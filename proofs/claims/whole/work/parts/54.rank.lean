theorem Gd.lo {h h' : HP} {p : Int} (hg : Gd h p) (hf : ∀ b, 1 ≤ b → b ≤ 3 → h' b = h b) : Gd h' p := by
  unfold Gd
  rw [hf 1 (by decide) (by decide), hf 2 (by decide) (by decide), hf 3 (by decide) (by decide)]
  exact hg
theorem XP.lo {h h' : HP} {p a : Int} {P : PS} (hX : XP h a p P) (hf : ∀ b, a ≤ b → b ≤ a + 5 → h' b = h b) : XP h' a p P := by
  unfold XP Pr
  rw [hf a (by omega) (by omega), hf (a + 1) (by omega) (by omega), hf (a + 2) (by omega) (by omega), hf (a + 3) (by omega) (by omega), hf (a + 4) (by omega) (by omega), hf (a + 5) (by omega) (by omega)]
  exact hX
/-- r is the rank of f's first n, over the indices below N -/
def RK (p : Int) (N n : Nat) (f : Int → Int → Int) (r : Nat) : Prop := ∃ a : Int → Int → Int, Ind p N r a ∧ (∀ s : Int, 0 ≤ s → s < r → Sp p N n f (a s)) ∧ ∀ s : Int, 0 ≤ s → s < n → Sp p N r a (f s)
theorem ch_C {p : Int} {N m n : Nat} {v w : Int → Int → Int} (hw : ∀ s : Int, 0 ≤ s → s < m → Sp p N n v (w s)) : ∃ C : Int → Int → Int, ∀ s : Int, 0 ≤ s → s < m → ∀ i : Int, 0 ≤ i → i < N → p ∣ w s i - sm (fun j => C s j * v j i) n := by
  have h0 : ∀ s : Int, ∃ c : Int → Int, 0 ≤ s → s < m → ∀ i : Int, 0 ≤ i → i < N → p ∣ w s i - sm (fun j => c j * v j i) n := fun s => by
    by_cases h : 0 ≤ s ∧ s < m
    · obtain ⟨c, hc⟩ := hw s h.1 h.2
      exact ⟨c, fun _ _ => hc⟩
    · exact ⟨fun _ => 0, fun h1 h2 => absurd ⟨h1, h2⟩ h⟩
  obtain ⟨C, hC⟩ := Classical.axiomOfChoice h0
  exact ⟨C, hC⟩
theorem RK_T {p : Int} {N n r r' : Nat} {f g : Int → Int → Int} (hp : okp p) (hfg : ∀ l c : Int, 0 ≤ l → l < n → 0 ≤ c → c < N → g c l = f l c) (h1 : RK p N n f r) (h2 : RK p n N g r') : r' ≤ r := by
  obtain ⟨a, _, _, ha⟩ := h1
  obtain ⟨b, hI, hb, _⟩ := h2
  obtain ⟨C, hC⟩ := ch_C ha
  refine steinitz hp r r' (fun s l => C l s) b hI (fun s s0 s1 => Sp_lin (hb s s0 s1) (fun c c0 c1 => ⟨fun j => a j c, fun l l0 l1 => ?_⟩))
  have h3 := hC l l0 l1 c c0 c1
  rw [hfg l c l0 l1 c0 c1, sm_ext r (g := fun j => C l j * a j c) (fun j _ _ => Int.mul_comm _ _)]
  exact h3
theorem RK_eq {p : Int} {N n r r' : Nat} {f g : Int → Int → Int} (hp : okp p) (hfg : ∀ l c : Int, 0 ≤ l → l < n → 0 ≤ c → c < N → g c l = f l c) (h1 : RK p N n f r) (h2 : RK p n N g r') : r = r' := by
  have := RK_T hp hfg h1 h2
  have := RK_T hp (fun l c l0 l1 c0 c1 => (hfg c l c0 c1 l0 l1).symm) h2 h1
  omega
theorem RK_un {p : Int} {N n r r' : Nat} {f : Int → Int → Int} (hp : okp p) (h1 : RK p N n f r) (h2 : RK p N n f r') : r = r' := by
  obtain ⟨a, i1, a1, a2⟩ := h1
  obtain ⟨b, i2, b1, b2⟩ := h2
  have x1 := steinitz hp r r' a b i2 (fun s s0 s1 => Sp_lin (b1 s s0 s1) a2)
  have x2 := steinitz hp r' r b a i1 (fun s s0 s1 => Sp_lin (a1 s s0 s1) b2)
  omega
theorem RK_b {p : Int} {N n r : Nat} {f : Int → Int → Int} (hp : okp p) (h1 : RK p N n f r) : r ≤ N ∧ r ≤ n := by
  obtain ⟨a, i1, a1, a2⟩ := h1
  exact ⟨Ind_dim hp i1, steinitz hp n r f a i1 a1⟩
theorem Sp_0 {p : Int} {N n : Nat} {v : Int → Int → Int} {u : Int → Int} (hz : ∀ i : Int, 0 ≤ i → i < N → u i = 0) : Sp p N n v u := ⟨fun _ => 0, fun i i0 iN => by
  rw [hz i i0 iN, sm_ext n (g := fun _ => 0) (fun s _ _ => Int.zero_mul _), sm_zero]
  exact ⟨0, by simp⟩⟩
theorem Sp_u {p : Int} {N n : Nat} {v : Int → Int → Int} {u u' : Int → Int} (h : Sp p N n v u) (e : ∀ i : Int, 0 ≤ i → i < N → u' i = u i) : Sp p N n v u' := by
  obtain ⟨c, hc⟩ := h
  exact ⟨c, fun i i0 iN => by rw [e i i0 iN]; exact hc i i0 iN⟩
/-- columns of the box, by way w -/
def cl (p : Int) (P : PS) (w c l : Int) : Int := if w = 0 then D p (fb P (9 * l + c / 9)) (c % 9) else if w = 1 then D p (fb P (9 * (c / 9) + l)) (c % 9) else D p (fb P (9 * (c / 9) + c % 9)) l
theorem cl_z {p w c l : Int} {P : PS} (hp : okp p) (hW : WF p P) (w0 : 0 ≤ w) (w3 : w < 3) (c0 : 0 ≤ c) (c1 : c < 81) (l0 : 0 ≤ l) (l9 : l < 9) (hz : sz P w ≤ l ∨ sz P (if w = 0 then 1 else 0) ≤ c / 9 ∨ sz P (if w = 2 then 1 else 2) ≤ c % 9) : cl p P w c l = 0 := by
  unfold cl
  rcases (show w = 0 ∨ w = 1 ∨ w = 2 by omega) with rfl | rfl | rfl
  · rw [if_pos rfl, if_neg (by decide)] at hz
    rw [if_pos rfl]
    have hF := hW.2.1 l (c / 9) l0 l9 (by omega) (by omega)
    rcases hz with hz | hz | hz
    · rw [hF.2.2 (.inl hz)]; exact D_z
    · rw [hF.2.2 (.inr hz)]; exact D_z
    · exact D_sz hp ⟨hF.1, hF.2.1⟩ hz
  · rw [if_neg (by decide), if_neg (by decide)] at hz
    rw [if_neg (by decide), if_pos rfl]
    have hF := hW.2.1 (c / 9) l (by omega) (by omega) l0 l9
    rcases hz with hz | hz | hz
    · rw [hF.2.2 (.inr hz)]; exact D_z
    · rw [hF.2.2 (.inl hz)]; exact D_z
    · exact D_sz hp ⟨hF.1, hF.2.1⟩ hz
  · rw [if_neg (by decide), if_pos rfl] at hz
    rw [if_neg (by decide), if_neg (by decide)]
    have hF := hW.2.1 (c / 9) (c % 9) (by omega) (by omega) (by omega) (by omega)
    rcases hz with hz | hz | hz
    · exact D_sz hp ⟨hF.1, hF.2.1⟩ hz
    · rw [hF.2.2 (.inl hz)]; exact D_z
    · rw [hF.2.2 (.inr hz)]; exact D_z
theorem lin_dg {p w m n : Int} {P : PS} (hp : okp p) (k : Int) : 0 ≤ (if w = 0 then D p (fb P (9 * k + m)) n else D p (fb P (9 * m + k)) n) ∧ (if w = 0 then D p (fb P (9 * k + m)) n else D p (fb P (9 * m + k)) n) < p := by
  have hb := okp_b hp
  by_cases c : w = 0
  · rw [if_pos c]; exact ⟨D_nn hb.1, D_lt hb.1⟩
  · rw [if_neg c]; exact ⟨D_nn hb.1, D_lt hb.1⟩
theorem lin_R {p w m n : Int} {P : PS} (hp : okp p) (hW : WF p P) (w0 : 0 ≤ w) (w3 : w < 3) (m0 : 0 ≤ m) (m9 : m < 9) (n0 : 0 ≤ n) (n9 : n < 9) : isR p (lin p P w m n) := by
  have hb := okp_b hp
  have hw := hW.1 w w0 w3
  unfold lin
  by_cases c : w = 2
  · rw [if_pos c]; exact fibR hp hW m0 m9 n0 n9
  · rw [if_neg c]
    have := en_b (p := p) (f := fun l => if w = 0 then D p (fb P (9 * l + m)) n else D p (fb P (9 * m + l)) n) hb.1 (sz P w).toNat (fun k _ _ => lin_dg hp k)
    rw [Int.toNat_of_nonneg (by omega)] at this
    exact ⟨this.1, Int.lt_of_lt_of_le this.2 (PW_le hb.1 hw.2)⟩
theorem D_lin {p w c l : Int} {P : PS} (hp : okp p) (hW : WF p P) (w0 : 0 ≤ w) (w3 : w < 3) (c0 : 0 ≤ c) (c1 : c < 81) (l0 : 0 ≤ l) (l9 : l < 9) : D p (lin p P w (c / 9) (c % 9)) l = cl p P w c l := by
  have hb := okp_b hp
  have hw := hW.1 w w0 w3
  unfold lin
  by_cases c2 : w = 2
  · subst c2
    rw [if_pos rfl]; unfold cl
    rw [if_neg (by decide), if_neg (by decide)]
  · rw [if_neg c2]
    have hd : ∀ k : Int, 0 ≤ k → k < ((sz P w).toNat : Int) → 0 ≤ (fun l => if w = 0 then D p (fb P (9 * l + c / 9)) (c % 9) else D p (fb P (9 * (c / 9) + l)) (c % 9)) k ∧ (fun l => if w = 0 then D p (fb P (9 * l + c / 9)) (c % 9) else D p (fb P (9 * (c / 9) + l)) (c % 9)) k < p := fun k _ _ => lin_dg hp k
    by_cases cs : l < sz P w
    · rw [D_en hb.1 (sz P w).toNat hd l l0 (by omega)]
      unfold cl
      by_cases e0 : w = 0
      · simp only [if_pos e0]
      · simp only [if_neg e0]; rw [if_pos (by omega)]
    · have hx := en_b hb.1 (sz P w).toNat hd
      rw [Int.toNat_of_nonneg (by omega)] at hx
      rw [D_sz hp hx (by omega), cl_z hp hW w0 w3 c0 c1 l0 l9 (.inl (by omega))]
section Rank8
variable {l : Launch} {d : Nat} {h : HP} {p a : Int} {P : PS} {Q : Int → GS → HP → Prop}
/-- what rankBy keeps: the columns seen are in the span of those taken -/
def rkI (p : Int) (P : PS) (w : Int) (h0 : HP) (c : Int) (h : HP) : Prop := FrB 47 h0 h ∧ ∃ (n : Nat) (b : Int → Int), XS h 47 p n b ∧ (∀ s : Int, 0 ≤ s → s < n → Sp p 9 81 (cl p P w) (DV p b s)) ∧ ∀ c' : Int, 0 ≤ c' → c' < c → Sp p 9 n (DV p b) (cl p P w c')
theorem rX8_rankBy {w : Int} (hg : Gd h p) (ha : isP a) (h7 : h 0 7 = 47) (h10 : h 0 10 = a) (hX : XP h a p P) (hW : WF p P) (hb : h 47 0 = 1 ∧ h 47 1 = 48 ∧ h 47 2 = 49 ∧ h 47 3 = 50) (w0 : 0 ≤ w) (w3 : w < 3) (hQ : ∀ (r : Nat) h', RK p 9 81 (cl p P w) r → FrB 47 h h' → (h' 47 0 = 1 ∧ h' 47 1 = 48 ∧ h' 47 2 = 49 ∧ h' 47 3 = 50) → Q r G0 h') : R l MX8_rankBy (d + 4) 0 0 [vR 0, vI w] G0 h Q := by
  have key : ∀ (o i : Int), o = (if w = 0 then 1 else 0) → i = (if w = 2 then 1 else 2) → ∀ h1, (∀ p a, okp p → XS h1 47 p 0 a) → FrB 47 h h1 → S l MX8_rankBy (d + 3 + 1, 0, 0, 0, 0) 31 [some (vR 0), some (vI w), some (vI o), some (vI i), some (vI 0), none] [] G0 h1 Q := by
    intro o i eo ei h1 hS hF
    have o3 : 0 ≤ o ∧ o < 3 := by rw [eo]; split <;> omega
    have i3 : 0 ≤ i ∧ i < 3 := by rw [ei]; split <;> omega
    have so := hW.1 o o3.1 o3.2
    have si := hW.1 i i3.1 i3.2
    have hab := isP_b ha
    have J : ∀ hh, FrB 47 h hh → Gd hh p ∧ XP hh a p P ∧ hh 0 = h 0 := fun hh f => ⟨hg.lo (fun b b0 b1 => f b (by omega)), hX.lo (fun b b0 b1 => f b (by omega)), f 0 (by omega)⟩
    refine lp_up (σ := HP) (fun m hh => S l MX8_rankBy (d + 3 + 1, 0, 0, 0, 0) 31 [some (vR 0), some (vI w), some (vI o), some (vI i), some (vI m), none] [] G0 hh Q) (fun m hh => 0 ≤ m ∧ rkI p P w h (9 * m) hh) (sz P o) ?_ ?_ 0 h1 (by omega) ⟨by decide, hF, 0, fun _ => 0, hS p _ hg.1, fun s s0 s1 => by omega, fun c c0 c1 => by omega⟩
    · intro m hh hm ⟨m0, hI⟩ ih
      obtain ⟨g', X', z'⟩ := J hh hI.1
      refine vX8_rankBy_31 0 w o i m ?_
      simp only [z', h10, h7, X'.1.2.1, X'.2.1 o o3.1 o3.2]
      refine ⟨by decide +kernel, (tP ha).1, ia1 ha o3.1 o3.2, ⟨by omega, by omega⟩, ⟨by omega, by omega⟩, fun c => by omega, fun _ => ?_⟩
      refine lp_up (σ := HP) (fun n hh => S l MX8_rankBy (d + 3 + 1, 0, 0, 0, 0) 48 [some (vR 0), some (vI w), some (vI o), some (vI i), some (vI m), some (vI n)] [] G0 hh Q) (fun n hh => 0 ≤ n ∧ rkI p P w h (9 * m + n) hh) (sz P i) ?_ ?_ 0 hh (by omega) ⟨by decide, by rw [Int.add_zero]; exact hI⟩
      · intro n hh2 hn ⟨n0, hI2⟩ ih2
        obtain ⟨g2, X2, z2⟩ := J hh2 hI2.1
        refine vX8_rankBy_48 0 w o i m n ?_
        simp only [z2, h10, h7, X2.1.2.1, X2.2.1 i i3.1 i3.2]
        refine ⟨by decide +kernel, (tP ha).1, ia1 ha i3.1 i3.2, ⟨by omega, by omega⟩, ⟨by omega, by omega⟩, fun c => by omega, fun _ => ?_⟩
        refine rX4_line g2 ha X2 hW w0 w3 m0 (by omega) n0 (by omega) ⟨by decide +kernel, ?_⟩
        obtain ⟨f2, k, b, xs, hb1, hb2⟩ := hI2
        have ecl : ∀ l : Int, 0 ≤ l → l < 9 → D p (lin p P w m n) l = cl p P w (9 * m + n) l := fun l l0 l9 => by
          have := D_lin (c := 9 * m + n) hg.1 hW w0 w3 (by omega) (by omega) l0 l9
          rw [(fb_n ⟨n0, by omega⟩).1, (fb_n ⟨n0, by omega⟩).2] at this
          exact this
        refine rX0_add g2 (.inl rfl) xs (lin_R hg.1 hW w0 w3 m0 (by omega) n0 (by omega)) (fun hs => ?_) (fun hs h' xs' f' => ?_)
        · refine ih2 hh2 ⟨by omega, f2, k, b, xs, hb1, fun c c0 c1 => ?_⟩
          by_cases e : c = 9 * m + n
          · rw [e]; exact Sp_u hs (fun i i0 i9 => (ecl i i0 i9).symm)
          · exact hb2 c c0 (by omega)
        · refine ih2 h' ⟨by omega, fun c hc => (f' c hc).trans (f2 c hc), k + 1, _, xs', fun s s0 s1 => ?_, fun c c0 c1 => ?_⟩
          · by_cases e : s = (k : Int)
            · subst e
              show Sp p 9 81 (cl p P w) (fun i => D p (up1 b k (lin p P w m n) k) i)
              rw [up1_s]
              exact Sp_u (Sp_self (t := 9 * m + n) (by omega) (by omega)) ecl
            · show Sp p 9 81 (cl p P w) (fun i => D p (up1 b k (lin p P w m n) s) i)
              rw [up1_o e]
              exact hb1 s s0 (by omega)
          · by_cases e : c = 9 * m + n
            · have := Sp_self (p := p) (N := 9) (n := k + 1) (v := DV p (up1 b k (lin p P w m n))) (t := k) (by omega) (by omega)
              refine Sp_u this (fun i i0 i9 => ?_)
              show cl p P w c i = D p (up1 b k (lin p P w m n) k) i
              rw [up1_s, e]; exact (ecl i i0 i9).symm
            · exact Sp_le (Sp_ext (hb2 c c0 (by omega)) (fun s i _ s1 _ _ => DVu s1)) (by omega)
      · intro hh2 ⟨n0, hI2⟩
        obtain ⟨g2, X2, z2⟩ := J hh2 hI2.1
        refine vX8_rankBy_48 0 w o i m _ ?_
        simp only [z2, h10, h7, X2.1.2.1, X2.2.1 i i3.1 i3.2]
        refine ⟨by decide +kernel, (tP ha).1, ia1 ha i3.1 i3.2, ⟨by omega, by omega⟩, ⟨by omega, by omega⟩, fun _ => ?_, fun c => by omega⟩
        obtain ⟨f2, k, b, xs, hb1, hb2⟩ := hI2
        refine ih hh2 ⟨by omega, f2, k, b, xs, hb1, fun c c0 c1 => ?_⟩
        by_cases e : c < 9 * m + sz P i
        · exact hb2 c c0 e
        · exact Sp_0 (fun l l0 l9 => cl_z hg.1 hW w0 w3 c0 (by omega) l0 l9 (.inr (.inr (by rw [← ei]; omega))))
    · intro hh ⟨m0, hI⟩
      obtain ⟨g', X', z'⟩ := J hh hI.1
      refine vX8_rankBy_31 0 w o i _ ?_
      obtain ⟨f2, k, b, xs, hb1, hb2⟩ := hI
      obtain ⟨v, q, bb, xb, hr2⟩ := id xs
      simp only [z', h10, h7, X'.1.2.1, X'.2.1 o o3.1 o3.2, xb.2.1]
      refine ⟨by decide +kernel, (tP ha).1, ia1 ha o3.1 o3.2, ⟨by omega, by omega⟩, ⟨by omega, by omega⟩, fun _ => ⟨by decide +kernel, ?_⟩, fun c => by omega⟩
      refine hQ k hh ⟨DV p b, hr2.2.2.1, hb1, fun c c0 c1 => ?_⟩ f2 xb.1
      by_cases e : c < 9 * sz P o
      · exact hb2 c c0 e
      · exact Sp_0 (fun l l0 l9 => cl_z hg.1 hW w0 w3 c0 (by omega) l0 l9 (.inr (.inl (by rw [← eo]; omega))))
  refine eX8_rankBy 0 w (vX8_rankBy_0 0 w ?_)
  simp only [h7]
  refine ⟨⟨by omega, by omega⟩, fun c0 => ⟨fun c2 => ⟨by decide +kernel, by decide +kernel, ?_⟩, fun c2 => ⟨by decide +kernel, by decide +kernel, ?_⟩⟩, fun c0 => ⟨fun c2 => ⟨by decide +kernel, by decide +kernel, ?_⟩, fun c2 => by omega⟩⟩
  · exact rX0_clear (.inl rfl) hb (fun h' hs f => key 0 2 (by rw [if_neg c0]) (by rw [if_neg c2]) h' hs f)
  · exact rX0_clear (.inl rfl) hb (fun h' hs f => key 0 1 (by rw [if_neg c0]) (by rw [if_pos c2]) h' hs f)
  · exact rX0_clear (.inl rfl) hb (fun h' hs f => key 1 2 (by rw [if_pos c0]) (by rw [if_neg c2]) h' hs f)
end Rank8
