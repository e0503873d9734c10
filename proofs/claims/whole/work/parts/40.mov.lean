theorem cv_b {g : Int → Int} {s : Int} : ∀ n : Nat, 0 ≤ cv g s n ∧ cv g s n ≤ n
  | 0 => by simp [cv]
  | n + 1 => by
    have ih := cv_b (g := g) (s := s) n
    show 0 ≤ cv g s n + (if g n = s then 1 else 0) ∧ cv g s n + (if g n = s then 1 else 0) ≤ ((n + 1 : Nat) : Int)
    by_cases c : g n = s
    · rw [if_pos c]; omega
    · rw [if_neg c]; omega
theorem ce_b {g : Int → Int} {s t : Int} : ∀ n : Nat, 0 ≤ ce g s t n ∧ ce g s t n ≤ n
  | 0 => by simp [ce]
  | n + 1 => by
    have ih := ce_b (g := g) (s := s) (t := t) n
    show 0 ≤ ce g s t n + (if g n = s ∧ (n : Int) ≠ t then 1 else 0) ∧ ce g s t n + (if g n = s ∧ (n : Int) ≠ t then 1 else 0) ≤ ((n + 1 : Nat) : Int)
    by_cases c : g n = s ∧ (n : Int) ≠ t
    · rw [if_pos c]; omega
    · rw [if_neg c]; omega
theorem mcn_ce {p w t : Int} {P : PS} (t0 : 0 ≤ t) (tT : t < tm P) : mcn p P w t = if shp p (rw' P (40 * w + t)) = 0 then 0 else ce (fun j => shp p (rw' P (40 * w + j))) (shp p (rw' P (40 * w + t))) t (tm P).toNat := by
  unfold mcn
  by_cases c : shp p (rw' P (40 * w + t)) = 0
  · rw [if_pos c, if_pos c]
  · rw [if_neg c, if_neg c, ce_cv t0 rfl _ (by omega)]
theorem mcn_b {p w t : Int} {P : PS} (hW : WF p P) (t0 : 0 ≤ t) (tT : t < tm P) : 0 ≤ mcn p P w t ∧ mcn p P w t ≤ 40 := by
  rw [mcn_ce t0 tT]
  have hT := hW.2.2.1
  by_cases c : shp p (rw' P (40 * w + t)) = 0
  · rw [if_pos c]; omega
  · rw [if_neg c]
    have := ce_b (g := fun j => shp p (rw' P (40 * w + j))) (s := shp p (rw' P (40 * w + t))) (t := t) (tm P).toNat
    omega
def nmv (p : Int) (P : PS) : Int := sm (fun w => sm (fun s => mcn p P w s) (tm P).toNat) 3
/-- which row is left beside two that are alike; -1 if there aren't two -/
def thr (p : Int) (P : PS) (s t : Int) : Int := if alk p P 0 s t then (if alk p P 1 s t then 2 else if alk p P 2 s t then 1 else -1) else if alk p P 1 s t then (if alk p P 2 s t then 0 else -1) else -1
def jn (p : Int) (P : PS) (s t c : Int) : PS := rmv (prw P c s (pl p (rw' P (40 * c + s)) (fac p P ((c + 1) % 3) s t * fac p P ((c + 2) % 3) s t % p) (rw' P (40 * c + t)))) t
def fz (P : PS) : Nat → Int → Option Int
  | 0, _ => none
  | n + 1, t => if rw' P (40 * 0 + t) = 0 ∨ rw' P (40 * 1 + t) = 0 ∨ rw' P (40 * 2 + t) = 0 then some t else fz P n (t + 1)
def fjt (p : Int) (P : PS) (s : Int) : Nat → Int → Option Int
  | 0, _ => none
  | n + 1, t => if thr p P s t = -1 then fjt p P s n (t + 1) else some t
def fjs (p : Int) (P : PS) : Nat → Int → Option (Int × Int)
  | 0, _ => none
  | n + 1, s => match fjt p P s (tm P - (s + 1)).toNat (s + 1) with
    | some t => some (s, t)
    | none => fjs p P n (s + 1)
def ls1 (p : Int) (P : PS) : Option PS := match fz P (tm P).toNat 0 with
  | some t => some (rmv P t)
  | none => match fjs p P (tm P).toNat 0 with
    | some q => some (jn p P q.1 q.2 (thr p P q.1 q.2))
    | none => none
def lsn (p : Int) : Nat → PS → PS
  | 0, P => P
  | n + 1, P => match ls1 p P with
    | some P' => lsn p n P'
    | none => P
def mv (p : Int) (P : PS) (w s t : Int) : PS :=
  let n' := pl p 0 (fac p P w s t) (rw' P (40 * ((w + 1) % 3) + t))
  let P2 := prw (prw P w t (rw' P (40 * w + s))) ((w + 1) % 3) t n'
  let P3 := prw P2 ((w + 1) % 3) s (pl p (rw' P2 (40 * ((w + 1) % 3) + s)) 1 n')
  prw P3 ((w + 2) % 3) t (pl p (rw' P3 (40 * ((w + 2) % 3) + t)) ((p - 1) % p) (rw' P3 (40 * ((w + 2) % 3) + s)))
def mto (p : Int) (P : PS) (w s : Int) : Nat → Int → Int → Int
  | 0, _, _ => s
  | n + 1, t, k => if t = s then mto p P w s n (t + 1) k else if alk p P w s t then (if k = 0 then t else mto p P w s n (t + 1) (k + (-1))) else mto p P w s n (t + 1) k
def dnS (p : Int) (P : PS) (w : Int) : Nat → Int → Int → Int ⊕ (Int × Int)
  | 0, _, k => .inl k
  | n + 1, s, k => if mcn p P w s ≤ k then dnS p P w n (s + 1) (k - mcn p P w s) else .inr (s, k)
def dnW (p : Int) (P : PS) : Nat → Int → Int → PS
  | 0, _, _ => P
  | n + 1, w, k => match dnS p P w (tm P).toNat 0 k with
    | .inl k' => dnW p P n (w + 1) k'
    | .inr q => mv p P w q.1 (mto p P w q.1 (tm P).toNat 0 q.2)
theorem WF_prw {p w t x : Int} {P : PS} (hW : WF p P) (w0 : 0 ≤ w) (w3 : w < 3) (t0 : 0 ≤ t) (tT : t < tm P) (hx : 0 ≤ x ∧ x < PW p (sz P w)) : WF p (prw P w t x) := by
  obtain ⟨w1, w2, w3', w4⟩ := hW
  refine ⟨w1, w2, w3', fun m j m0 m1 j0 j1 => ?_⟩
  have j1' : j < tm P := j1
  show 0 ≤ up1 P.2.2.2 (40 * w + t) x (40 * m + j) ∧ up1 P.2.2.2 (40 * w + t) x (40 * m + j) < PW p (sz P m)
  by_cases e : 40 * m + j = 40 * w + t
  · rw [e, up1_s, show m = w by omega]; exact hx
  · rw [up1_o e]; exact w4 m j m0 m1 j0 j1'
theorem sk_b {t j T : Int} (t0 : 0 ≤ t) (tT : t < T) (j0 : 0 ≤ j) (jT : j < T - 1) : 0 ≤ sk t j ∧ sk t j < T := by
  unfold sk
  by_cases c : t ≤ j
  · rw [if_pos c]; omega
  · rw [if_neg c]; omega
theorem WF_rmv {p t : Int} {P : PS} (hW : WF p P) (t0 : 0 ≤ t) (tT : t < tm P) : WF p (rmv P t) := by
  obtain ⟨w1, w2, w3', w4⟩ := hW
  refine ⟨w1, w2, ⟨by show 0 ≤ tm P - 1; omega, by show tm P - 1 ≤ 40; omega⟩, fun m j m0 m1 j0 j1 => ?_⟩
  have j1' : j < tm P - 1 := j1
  rw [rmv_g j0 (by omega)]
  have := sk_b t0 tT j0 j1'
  exact w4 m (sk t j) m0 m1 this.1 this.2
theorem shp_nz {p x : Int} (hp : okp p) (h : shp p x ≠ 0) : x ≠ 0 := fun e => h (by rw [e]; exact shp_0 hp)
section Mov
variable {l : Launch} {d : Nat} {h : HP} {p a : Int} {P : PS} {Q : Int → GS → HP → Prop}
theorem rX3_countMoves (ha : isP a) (hX : XP h a p P) (hW : WF p P) (hQ : Q (nmv p P) G0 h) : R l MX3_countMoves (d + 1) 0 0 [vR 43, vR a] G0 h Q := by
  have hT := hW.2.2.1
  refine eX3_countMoves 43 a (vX3_countMoves_0 43 a ?_)
  refine lp_up (σ := Unit) (fun w _ => S l MX3_countMoves (d + 1, 0, 0, 0, 0) 4 [none, some (vR a), some (vI (sm (fun w => sm (fun s => mcn p P w s) (tm P).toNat) w.toNat)), some (vI w), none] [] G0 h Q) (fun w _ => 0 ≤ w) 3 ?_ ?_ 0 () (by decide) (by decide)
  · intro w _ hw w0 ih
    refine vX3_countMoves_4 a _ w ⟨⟨by omega, by omega⟩, fun c => by omega, fun _ => ?_⟩
    have key := lp_up (σ := Unit) (fun s _ => S l MX3_countMoves (d + 1, 0, 0, 0, 0) 12 [none, some (vR a), some (vI (sm (fun w => sm (fun s => mcn p P w s) (tm P).toNat) w.toNat + sm (fun s => mcn p P w s) s.toNat)), some (vI w), some (vI s)] [] G0 h Q) (fun s _ => 0 ≤ s) (tm P) ?_ ?_ 0 () hT.1 (by decide)
    · rw [show sm (fun s => mcn p P w s) (0 : Int).toNat = 0 from rfl, Int.add_zero] at key
      exact key
    · intro s _ hs s0 ih2
      refine vX3_countMoves_12 a _ w s ?_
      simp only [hX.2.2.2.1]
      refine ⟨(tP ha).1, ⟨by omega, by omega⟩, ⟨by omega, by omega⟩, fun c => by omega, fun _ => rX4_matesOf ha hX hW w0 hw s0 hs ?_⟩
      have := ih2 () (by omega)
      rw [sm_s s0, ← Int.add_assoc] at this
      exact this
    · intro _ s0
      refine vX3_countMoves_12 a _ w _ ?_
      simp only [hX.2.2.2.1]
      refine ⟨(tP ha).1, ⟨by omega, by omega⟩, ⟨by omega, by omega⟩, fun _ => ?_, fun c => by omega⟩
      have := ih () (by omega)
      rw [sm_s w0] at this
      exact this
  · intro _ w0
    exact vX3_countMoves_4 a _ 3 ⟨by decide, fun _ => hQ, fun c => absurd c (by decide)⟩
theorem rX3_thirdBesideAlike {s t : Int} (hg : Gd h p) (ha : isP a) (hX : XP h a p P) (hW : WF p P) (s0 : 0 ≤ s) (sT : s < tm P) (t0 : 0 ≤ t) (tT : t < tm P) (hQ : Q (thr p P s t) G0 h) : R l MX3_thirdBesideAlike (d + 1) 0 0 [vR 43, vR a, vI s, vI t] G0 h Q := by
  refine eX3_thirdBesideAlike 43 a s t (vX3_thirdBesideAlike_0 43 a s t ⟨(tP ha).1, ?_⟩)
  unfold thr at hQ
  refine rX4_alike hg ha hX hW (by decide) (by decide) s0 sT t0 tT (fun c0 => ⟨(tP ha).1, ?_⟩) (fun c0 => ⟨(tP ha).1, ?_⟩)
  · rw [if_pos c0] at hQ
    refine rX4_alike hg ha hX hW (by decide) (by decide) s0 sT t0 tT (fun c1 => ?_) (fun c1 => ?_)
    · rw [if_pos c1] at hQ
      exact ⟨by decide, fun z => absurd z (by decide), fun _ => ⟨by decide, fun z => absurd z (by decide), fun _ => hQ⟩⟩
    · rw [if_neg c1] at hQ
      refine ⟨by decide, fun z => absurd z (by decide), fun _ => ⟨by decide, fun _ => ⟨fun _ => ⟨(tP ha).1, rX4_alike hg ha hX hW (by decide) (by decide) s0 sT t0 tT (fun c2 => ?_) (fun c2 => ?_)⟩, fun z => absurd z (by decide)⟩, fun z => absurd rfl z⟩⟩
      · rw [if_pos c2] at hQ
        exact ⟨by decide, fun _ => ⟨by decide, fun z => absurd z (by decide), fun _ => hQ⟩, fun z => absurd z (by decide)⟩
      · rw [if_neg c2] at hQ
        exact ⟨by decide, fun z => absurd rfl z, fun _ => hQ⟩
  · rw [if_neg c0] at hQ
    refine rX4_alike hg ha hX hW (by decide) (by decide) s0 sT t0 tT (fun c1 => ?_) (fun c1 => ?_)
    · rw [if_pos c1] at hQ
      refine ⟨by decide, fun _ => ⟨fun z => absurd rfl z, fun _ => ⟨by decide, fun z => absurd z (by decide), fun _ => ⟨(tP ha).1, rX4_alike hg ha hX hW (by decide) (by decide) s0 sT t0 tT (fun c2 => ?_) (fun c2 => ?_)⟩⟩⟩, fun z => absurd rfl z⟩
      · rw [if_pos c2] at hQ
        exact ⟨by decide, fun _ => ⟨by decide, fun _ => hQ, fun z => absurd rfl z⟩, fun z => absurd z (by decide)⟩
      · rw [if_neg c2] at hQ
        exact ⟨by decide, fun z => absurd rfl z, fun _ => hQ⟩
    · rw [if_neg c1] at hQ
      exact ⟨by decide, fun _ => ⟨fun z => absurd rfl z, fun _ => ⟨by decide, fun _ => hQ, fun z => absurd rfl z⟩⟩, fun z => absurd rfl z⟩
theorem fac_D {w s t : Int} (hp : okp p) : isD p (fac p P w s t) := md_D hp
theorem thr_r {s t : Int} (h1 : thr p P s t ≠ -1) : 0 ≤ thr p P s t ∧ thr p P s t < 3 ∧ alk p P ((thr p P s t + 1) % 3) s t ∧ alk p P ((thr p P s t + 2) % 3) s t := by
  unfold thr at h1 ⊢
  by_cases c0 : alk p P 0 s t
  · rw [if_pos c0] at h1 ⊢
    by_cases c1 : alk p P 1 s t
    · rw [if_pos c1]; exact ⟨by decide, by decide, c0, c1⟩
    · rw [if_neg c1] at h1 ⊢
      by_cases c2 : alk p P 2 s t
      · rw [if_pos c2]; exact ⟨by decide, by decide, c2, c0⟩
      · rw [if_neg c2] at h1; exact absurd rfl h1
  · rw [if_neg c0] at h1 ⊢
    by_cases c1 : alk p P 1 s t
    · rw [if_pos c1] at h1 ⊢
      by_cases c2 : alk p P 2 s t
      · rw [if_pos c2]; exact ⟨by decide, by decide, c1, c2⟩
      · rw [if_neg c2] at h1; exact absurd rfl h1
    · rw [if_neg c1] at h1; exact absurd rfl h1
theorem WF_jn {s t c : Int} (hp : okp p) (hW : WF p P) (s0 : 0 ≤ s) (sT : s < tm P) (t0 : 0 ≤ t) (tT : t < tm P) (c0 : 0 ≤ c) (c3 : c < 3) : WF p (jn p P s t c) := by
  have hS := hW.1 c c0 c3
  exact WF_rmv (WF_prw hW c0 c3 s0 sT (pl_sz hp (by omega) hS.2 (hW.2.2.2 c s c0 c3 s0 sT) (hW.2.2.2 c t c0 c3 t0 tT))) t0 tT
theorem rX3_join {s t c : Int} (hg : Gd h p) (ha : isP a) (hm : h 43 0 = 1) (hX : XP h a p P) (hW : WF p P) (s0 : 0 ≤ s) (sT : s < tm P) (t0 : 0 ≤ t) (tT : t < tm P) (c0 : 0 ≤ c) (c3 : c < 3) (h1 : alk p P ((c + 1) % 3) s t) (h2 : alk p P ((c + 2) % 3) s t) (hQ : ∀ h', XP h' a p (jn p P s t c) → FrP a h h' → Q 0 G0 h') : R l MX3_join (d + 3) 0 0 [vR 43, vR a, vI s, vI t, vI c] G0 h Q := by
  have hp := okp_b hg.1
  have hisP := isP_b ha
  have hS := hW.1 c c0 c3
  have hf := fac_D (P := P) (w := (c + 1) % 3) (s := s) (t := t) hg.1
  have hk := fac_D (P := P) (w := (c + 2) % 3) (s := s) (t := t) hg.1
  have hfk := ml_b (a := 6) (b := 6) hf.1 (by have := hf.2; omega) hk.1 (by have := hk.2; omega)
  refine eX3_join 43 a s t c (vX3_join_0 43 a s t c ⟨⟨⟨by omega, by omega⟩, by decide, by decide⟩, (tP ha).1, ?_⟩)
  refine rX4_factor (d := d) hg ha hX hW (by omega) (by omega) s0 sT t0 tT (shp_nz hg.1 h1.1) ⟨⟨⟨by omega, by omega⟩, by decide, by decide⟩, (tP ha).1, ?_⟩
  refine rX4_factor (d := d) hg ha hX hW (by omega) (by omega) s0 sT t0 tT (shp_nz hg.1 h2.1) ?_
  simp only [hm, hg.2.1]
  refine ⟨rfl, rfl, ⟨⟨hfk.1, by omega⟩, by omega, by omega⟩, (tP ha).1, rX4_rowOf ha hX hW c0 c3 s0 sT ⟨(tP ha).1, rX4_rowOf ha hX hW c0 c3 t0 tT ?_⟩⟩
  refine ⟨rfl, rX1_plus hg (rowR hg.1 hW c0 c3 s0 sT) (rowR hg.1 hW c0 c3 t0 tT) (md_D hg.1) ⟨(tP ha).1, ?_⟩⟩
  have hsz := pl_sz (f := fac p P ((c + 1) % 3) s t * fac p P ((c + 2) % 3) s t % p) hg.1 (by omega) hS.2 (hW.2.2.2 c s c0 c3 s0 sT) (hW.2.2.2 c t c0 c3 t0 tT)
  refine rX4_put (d := d) hg ha hX hW c0 c3 s0 sT (pl_R hg.1) (fun h28 q28 f28 _ => ⟨(tP ha).1, ?_⟩)
  exact rX4_remove (d := d + 1) (hg.fr hisP.1 f28) ha q28 (WF_prw hW c0 c3 s0 sT hsz) t0 tT (fun h32 q32 f32 _ => hQ h32 q32 (f28.tr f32))
end Mov
