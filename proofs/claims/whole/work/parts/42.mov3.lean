theorem mto_s {p w s t k : Int} {P : PS} {n : Nat} : mto p P w s (n + 1) t k = if t = s then mto p P w s n (t + 1) k else if alk p P w s t then (if k = 0 then t else mto p P w s n (t + 1) (k + (-1))) else mto p P w s n (t + 1) k := rfl
/-- how many of n from t on are alike to s -/
def cf (p : Int) (P : PS) (w s : Int) : Nat → Int → Int
  | 0, _ => 0
  | n + 1, t => (if t ≠ s ∧ alk p P w s t then 1 else 0) + cf p P w s n (t + 1)
theorem cf_b {p w s : Int} {P : PS} : ∀ (n : Nat) (t : Int), 0 ≤ cf p P w s n t ∧ cf p P w s n t ≤ n
  | 0, _ => by simp [cf]
  | n + 1, t => by
    have ih := cf_b (p := p) (w := w) (s := s) (P := P) n (t + 1)
    show 0 ≤ (if t ≠ s ∧ alk p P w s t then 1 else 0) + cf p P w s n (t + 1) ∧ (if t ≠ s ∧ alk p P w s t then 1 else 0) + cf p P w s n (t + 1) ≤ ((n + 1 : Nat) : Int)
    by_cases c : t ≠ s ∧ alk p P w s t
    · rw [if_pos c]; omega
    · rw [if_neg c]; omega
theorem ce_cf {p w s : Int} {P : PS} (hs : shp p (rw' P (40 * w + s)) ≠ 0) : ∀ (n : Nat) (t : Int), 0 ≤ t → ce (fun j => shp p (rw' P (40 * w + j))) (shp p (rw' P (40 * w + s))) s (t + n).toNat = ce (fun j => shp p (rw' P (40 * w + j))) (shp p (rw' P (40 * w + s))) s t.toNat + cf p P w s n t
  | 0, t, _ => by
    show ce _ _ _ (t + 0).toNat = _ + 0
    rw [Int.add_zero, Int.add_zero]
  | n + 1, t, t0 => by
    have ih := ce_cf hs n (t + 1) (by omega)
    rw [show t + ((n + 1 : Nat) : Int) = t + 1 + n by omega, ih, ce_s t0]
    show _ = _ + ((if t ≠ s ∧ alk p P w s t then 1 else 0) + cf p P w s n (t + 1))
    by_cases c : t ≠ s ∧ alk p P w s t
    · rw [if_pos c, if_pos ⟨c.2.2.symm, c.1⟩]; omega
    · rw [if_neg c, if_neg (fun z => c ⟨z.2, hs, z.1.symm⟩)]; omega
theorem mcn_cf {p w s : Int} {P : PS} (s0 : 0 ≤ s) (sT : s < tm P) : mcn p P w s = cf p P w s (tm P).toNat 0 := by
  rw [mcn_ce s0 sT]
  by_cases c : shp p (rw' P (40 * w + s)) = 0
  · rw [if_pos c]
    have key : ∀ (n : Nat) (t : Int), cf p P w s n t = 0 := by
      intro n
      induction n with
      | zero => intro t; rfl
      | succ n ih =>
        intro t
        show (if t ≠ s ∧ alk p P w s t then 1 else 0) + cf p P w s n (t + 1) = 0
        rw [if_neg (fun z => z.2.1 c), ih]; rfl
    rw [key]
  · rw [if_neg c]
    have := ce_cf c (tm P).toNat 0 (by omega)
    rw [Int.zero_add, Int.toNat_natCast] at this
    rw [this]
    show 0 + _ = _
    omega
theorem mto_r {p w s : Int} {P : PS} : ∀ (n : Nat) (t k : Int), 0 ≤ k → k < cf p P w s n t → t ≤ mto p P w s n t k ∧ mto p P w s n t k < t + n ∧ mto p P w s n t k ≠ s ∧ alk p P w s (mto p P w s n t k)
  | 0, t, k, h0, h1 => by
    have : k < 0 := h1
    omega
  | n + 1, t, k, h0, h1 => by
    have h1' : k < (if t ≠ s ∧ alk p P w s t then 1 else 0) + cf p P w s n (t + 1) := h1
    rw [mto_s]
    by_cases c : t = s
    · rw [if_pos c]
      rw [if_neg (fun z => z.1 c)] at h1'
      have := mto_r (p := p) (P := P) (w := w) (s := s) n (t + 1) k h0 (by omega)
      exact ⟨by omega, by omega, this.2.2⟩
    · rw [if_neg c]
      by_cases c2 : alk p P w s t
      · rw [if_pos c2]
        rw [if_pos ⟨c, c2⟩] at h1'
        by_cases c3 : k = 0
        · rw [if_pos c3]; exact ⟨by omega, by omega, c, c2⟩
        · rw [if_neg c3]
          have := mto_r (p := p) (P := P) (w := w) (s := s) n (t + 1) (k + (-1)) (by omega) (by omega)
          exact ⟨by omega, by omega, this.2.2⟩
      · rw [if_neg c2]
        rw [if_neg (fun z => c2 z.2)] at h1'
        have := mto_r (p := p) (P := P) (w := w) (s := s) n (t + 1) k h0 (by omega)
        exact ⟨by omega, by omega, this.2.2⟩
theorem dnS_s {p w s k : Int} {P : PS} {n : Nat} : dnS p P w (n + 1) s k = if mcn p P w s ≤ k then dnS p P w n (s + 1) (k - mcn p P w s) else .inr (s, k) := rfl
theorem dnW_s {p w k : Int} {P : PS} {n : Nat} : dnW p P (n + 1) w k = match dnS p P w (tm P).toNat 0 k with
    | .inl k' => dnW p P n (w + 1) k'
    | .inr q => mv p P w q.1 (mto p P w q.1 (tm P).toNat 0 q.2) := rfl
section Mov3
variable {l : Launch} {d : Nat} {h : HP} {p a : Int} {P : PS} {Q : Int → GS → HP → Prop}
theorem pl0_sz {f b n : Int} (hp : okp p) (h0 : 0 ≤ n) (hn : n ≤ 9) (hb : 0 ≤ b ∧ b < PW p n) : 0 ≤ pl p 0 f b ∧ pl p 0 f b < PW p n := pl_sz hp h0 hn ⟨by omega, PW_pos (okp_b hp).1 n⟩ hb
theorem mv_W {w s t : Int} (hp : okp p) (hW : WF p P) (w0 : 0 ≤ w) (w3 : w < 3) (s0 : 0 ≤ s) (sT : s < tm P) (t0 : 0 ≤ t) (tT : t < tm P) :
    WF p (prw P w t (rw' P (40 * w + s))) ∧ WF p (prw (prw P w t (rw' P (40 * w + s))) ((w + 1) % 3) t (pl p 0 (fac p P w s t) (rw' P (40 * ((w + 1) % 3) + t)))) ∧ WF p (prw (prw (prw P w t (rw' P (40 * w + s))) ((w + 1) % 3) t (pl p 0 (fac p P w s t) (rw' P (40 * ((w + 1) % 3) + t)))) ((w + 1) % 3) s (pl p (rw' (prw (prw P w t (rw' P (40 * w + s))) ((w + 1) % 3) t (pl p 0 (fac p P w s t) (rw' P (40 * ((w + 1) % 3) + t)))) (40 * ((w + 1) % 3) + s)) 1 (pl p 0 (fac p P w s t) (rw' P (40 * ((w + 1) % 3) + t))))) ∧ WF p (mv p P w s t) := by
  have n0 : 0 ≤ (w + 1) % 3 := by omega
  have n3 : (w + 1) % 3 < 3 := by omega
  have l0 : 0 ≤ (w + 2) % 3 := by omega
  have l3 : (w + 2) % 3 < 3 := by omega
  have hn := hW.1 _ n0 n3
  have hl := hW.1 _ l0 l3
  have W1 := WF_prw (t := t) (x := rw' P (40 * w + s)) hW w0 w3 t0 tT (hW.2.2.2 w s w0 w3 s0 sT)
  have pn := pl0_sz (f := fac p P w s t) hp (by omega) hn.2 (hW.2.2.2 _ t n0 n3 t0 tT)
  have W2 := WF_prw (t := t) W1 n0 n3 t0 tT pn
  have W3 := WF_prw (t := s) W2 n0 n3 s0 sT (pl_sz (n := sz P ((w + 1) % 3)) (f := 1) hp (by omega) hn.2 (W2.2.2.2 _ s n0 n3 s0 sT) pn)
  exact ⟨W1, W2, W3, WF_prw (t := t) W3 l0 l3 t0 tT (pl_sz (n := sz P ((w + 2) % 3)) (f := (p - 1) % p) hp (by omega) hl.2 (W3.2.2.2 _ t l0 l3 t0 tT) (W3.2.2.2 _ s l0 l3 s0 sT))⟩
set_option maxHeartbeats 1000000 in
theorem rX3_doMove {w s t : Int} (hg : Gd h p) (ha : isP a) (hm : h 43 0 = 1) (hX : XP h a p P) (hW : WF p P) (w0 : 0 ≤ w) (w3 : w < 3) (s0 : 0 ≤ s) (sT : s < tm P) (t0 : 0 ≤ t) (tT : t < tm P) (hk : alk p P w s t) (hQ : ∀ h', XP h' a p (mv p P w s t) → FrP a h h' → Q 0 G0 h') : R l MX3_doMove (d + 3) 0 0 [vR 43, vR a, vI w, vI s, vI t] G0 h Q := by
  have hp := okp_b hg.1
  have hisP := isP_b ha
  have n0 : 0 ≤ (w + 1) % 3 := by omega
  have n3 : (w + 1) % 3 < 3 := by omega
  have l0 : 0 ≤ (w + 2) % 3 := by omega
  have l3 : (w + 2) % 3 < 3 := by omega
  obtain ⟨W1, W2, W3, W4⟩ := mv_W (s := s) (t := t) hg.1 hW w0 w3 s0 sT t0 tT
  have m9 : ∀ hh, FrP a h hh → hh 43 0 = 1 := fun hh f => by rw [f 43 (by omega)]; exact hm
  refine eX3_doMove 43 a w s t (vX3_doMove_0 43 a w s t ⟨⟨⟨by omega, by omega⟩, by decide, by decide⟩, ⟨⟨by omega, by omega⟩, by decide, by decide⟩, (tP ha).1, ?_⟩)
  refine rX4_factor (d := d) hg ha hX hW w0 w3 s0 sT t0 tT (shp_nz hg.1 hk.1) ⟨rfl, (tP ha).1, rX4_rowOf ha hX hW n0 n3 t0 tT ?_⟩
  simp only [hm]
  refine ⟨rfl, rX1_plus hg ⟨by omega, PW_pos hp.1 9⟩ (rowR hg.1 hW n0 n3 t0 tT) (fac_D hg.1) ⟨(tP ha).1, rX4_rowOf ha hX hW w0 w3 s0 sT ⟨(tP ha).1, ?_⟩⟩⟩
  refine rX4_put (d := d) hg ha hX hW w0 w3 t0 tT (rowR hg.1 hW w0 w3 s0 sT) (fun h22 q22 f22 _ => ⟨(tP ha).1, ?_⟩)
  refine rX4_put (d := d) (hg.fr hisP.1 f22) ha q22 W1 n0 n3 t0 tT (pl_R hg.1) (fun h26 q26 f26 _ => ?_)
  have fr26 := f22.tr f26
  have hg26 := hg.fr hisP.1 fr26
  simp only [m9 h26 fr26]
  refine ⟨rfl, (tP ha).1, rX4_rowOf ha q26 W2 n0 n3 s0 sT ⟨rfl, rX1_plus hg26 (rowR hg.1 W2 n0 n3 s0 sT) (pl_R hg.1) ⟨by omega, by omega⟩ ⟨(tP ha).1, ?_⟩⟩⟩
  refine rX4_put (d := d) hg26 ha q26 W2 n0 n3 s0 sT (pl_R hg.1) (fun h39 q39 f39 _ => ?_)
  have fr39 := fr26.tr f39
  have hg39 := hg.fr hisP.1 fr39
  simp only [m9 h39 fr39]
  refine ⟨rfl, (tP ha).1, rX4_rowOf ha q39 W3 l0 l3 t0 tT ⟨(tP ha).1, rX4_rowOf ha q39 W3 l0 l3 s0 sT ⟨rfl, rX1_minus (d := d + 1) hg39 (rowR hg.1 W3 l0 l3 t0 tT) (rowR hg.1 W3 l0 l3 s0 sT) ⟨by omega, by omega⟩ ⟨(tP ha).1, ?_⟩⟩⟩⟩
  exact rX4_put (d := d) hg39 ha q39 W3 l0 l3 t0 tT (pl_R hg.1) (fun h56 q56 f56 _ => hQ h56 q56 (fr39.tr f56))
theorem rX3_mateOf {w s k : Int} (hg : Gd h p) (ha : isP a) (hX : XP h a p P) (hW : WF p P) (w0 : 0 ≤ w) (w3 : w < 3) (s0 : 0 ≤ s) (sT : s < tm P) (hk : 0 ≤ k ∧ k ≤ 1000000) (hQ : Q (mto p P w s (tm P).toNat 0 k) G0 h) : R l MX3_mateOf (d + 1) 0 0 [vR 43, vR a, vI w, vI s, vI k] G0 h Q := by
  have hT := hW.2.2.1
  refine eX3_mateOf 43 a w s k (vX3_mateOf_0 43 a w s k ?_)
  refine lp_up (σ := Int) (fun t k => S l MX3_mateOf (d + 1, 0, 0, 0, 0) 7 [none, some (vR a), some (vI w), some (vI s), none, some (vI k), some (vI t)] [] G0 h Q) (fun t k => 0 ≤ t ∧ (0 ≤ k ∧ k ≤ 1000000) ∧ Q (mto p P w s (tm P - t).toNat t k) G0 h) (tm P) ?_ ?_ 0 k hT.1 ⟨by decide, hk, by rw [Int.sub_zero]; exact hQ⟩
  · intro t k ht ⟨t0, hk, hf⟩ ih
    rw [show (tm P - t).toNat = (tm P - (t + 1)).toNat + 1 by omega, mto_s] at hf
    refine vX3_mateOf_7 a w s k t ?_
    simp only [hX.2.2.2.1]
    refine ⟨(tP ha).1, ⟨by omega, by omega⟩, ⟨by omega, by omega⟩, fun c => by omega, fun _ => ⟨⟨by omega, by omega⟩, fun c => ?_, fun c => rX4_alike hg ha hX hW w0 w3 s0 sT t0 ht (fun c2 => ?_) (fun c2 => ?_)⟩⟩
    · rw [if_pos c] at hf
      exact ih k ⟨by omega, hk, hf⟩
    · rw [if_neg c, if_pos c2] at hf
      refine ⟨by decide, fun z => absurd z (by decide), fun _ => ⟨⟨by omega, by omega⟩, fun c3 => ?_, fun c3 => ?_⟩⟩
      · rw [if_neg c3] at hf
        exact ih _ ⟨by omega, ⟨by omega, by omega⟩, hf⟩
      · rw [if_pos c3] at hf
        exact hf
    · rw [if_neg c, if_neg c2] at hf
      exact ⟨by decide, fun _ => ih k ⟨by omega, hk, hf⟩, fun z => absurd rfl z⟩
  · intro k ⟨t0, hk, hf⟩
    rw [show (tm P - tm P).toNat = 0 by omega] at hf
    refine vX3_mateOf_7 a w s k _ ?_
    simp only [hX.2.2.2.1]
    exact ⟨(tP ha).1, ⟨by omega, by omega⟩, ⟨by omega, by omega⟩, fun _ => hf, fun c => by omega⟩
theorem rX3_doNumbered {k : Int} (hg : Gd h p) (ha : isP a) (hm : h 43 0 = 1) (hX : XP h a p P) (hW : WF p P) (hk : 0 ≤ k ∧ k ≤ 1000000) (hQ : ∀ h', XP h' a p (dnW p P 3 0 k) → FrP a h h' → Q 0 G0 h') : R l MX3_doNumbered (d + 4) 0 0 [vR 43, vR a, vI k] G0 h Q := by
  have hT := hW.2.2.1
  refine eX3_doNumbered 43 a k (vX3_doNumbered_0 43 a k ?_)
  refine lp_up (σ := Int) (fun w k => S l MX3_doNumbered (d + 3 + 1, 0, 0, 0, 0) 5 [some (vR 43), some (vR a), none, some (vI k), some (vI w), none, none] [] G0 h Q) (fun w k => 0 ≤ w ∧ (0 ≤ k ∧ k ≤ 1000000) ∧ ∀ h', XP h' a p (dnW p P (3 - w).toNat w k) → FrP a h h' → Q 0 G0 h') 3 ?_ ?_ 0 k (by decide) ⟨by decide, hk, by rw [show ((3 : Int) - 0).toNat = 3 from rfl]; exact hQ⟩
  · intro w k hw ⟨w0, hk, hf⟩ ih
    rw [show (3 - w).toNat = (3 - (w + 1)).toNat + 1 by omega] at hf
    simp only [dnW_s] at hf
    refine vX3_doNumbered_5 43 a k w ⟨⟨by omega, by omega⟩, fun c => by omega, fun _ => ?_⟩
    generalize hF : dnS p P w (tm P).toNat 0 k = F at hf
    refine lp_up (σ := Int) (fun s k => S l MX3_doNumbered (d + 3 + 1, 0, 0, 0, 0) 14 [some (vR 43), some (vR a), none, some (vI k), some (vI w), some (vI s), none] [] G0 h Q) (fun s k => 0 ≤ s ∧ (0 ≤ k ∧ k ≤ 1000000) ∧ dnS p P w (tm P - s).toNat s k = F) (tm P) ?_ ?_ 0 k hT.1 ⟨by decide, hk, by rw [Int.sub_zero]; exact hF⟩
    · intro s k hs ⟨s0, hk, hfs⟩ ih2
      rw [show (tm P - s).toNat = (tm P - (s + 1)).toNat + 1 by omega, dnS_s] at hfs
      have hb := mcn_b (w := w) hW s0 hs
      refine vX3_doNumbered_14 43 a k w s ?_
      simp only [hX.2.2.2.1]
      refine ⟨(tP ha).1, ⟨by omega, by omega⟩, ⟨by omega, by omega⟩, fun c => by omega, fun _ => rX4_matesOf ha hX hW w0 hw s0 hs ⟨⟨by omega, by omega⟩, ⟨by omega, by omega⟩, fun c => ?_, fun c => ⟨rfl, ?_⟩⟩⟩
      · rw [if_pos c] at hfs
        exact ih2 _ ⟨by omega, ⟨by omega, by omega⟩, hfs⟩
      · rw [if_neg (show ¬ mcn p P w s ≤ k by omega)] at hfs
        rw [← hfs] at hf
        rw [mcn_cf s0 hs] at c
        have r := mto_r (tm P).toNat 0 k hk.1 c
        refine rX3_mateOf (d := d + 2) hg ha hX hW w0 hw s0 hs hk ⟨rfl, ?_⟩
        exact rX3_doMove (d := d) hg ha hm hX hW w0 hw s0 hs r.1 (by omega) r.2.2.2 (fun h' q f => hf h' q f)
    · intro k ⟨s0, hk, hfs⟩
      rw [show (tm P - tm P).toNat = 0 by omega] at hfs
      have hfs' : Sum.inl k = F := hfs
      rw [← hfs'] at hf
      refine vX3_doNumbered_14 43 a k w _ ?_
      simp only [hX.2.2.2.1]
      exact ⟨(tP ha).1, ⟨by omega, by omega⟩, ⟨by omega, by omega⟩, fun _ => ih k ⟨by omega, hk, hf⟩, fun c => by omega⟩
  · intro k ⟨w0, hk, hf⟩
    exact vX3_doNumbered_5 43 a k 3 ⟨by decide, fun _ => hf h hX FrP.rf, fun c => absurd c (by decide)⟩
end Mov3
