theorem fz_s {P : PS} {n : Nat} {t : Int} : fz P (n + 1) t = if rw' P (40 * 0 + t) = 0 ∨ rw' P (40 * 1 + t) = 0 ∨ rw' P (40 * 2 + t) = 0 then some t else fz P n (t + 1) := rfl
theorem fjt_s {p s : Int} {P : PS} {n : Nat} {t : Int} : fjt p P s (n + 1) t = if thr p P s t = -1 then fjt p P s n (t + 1) else some t := rfl
theorem fjs_s {p : Int} {P : PS} {n : Nat} {s : Int} : fjs p P (n + 1) s = match fjt p P s (tm P - (s + 1)).toNat (s + 1) with
    | some t => some (s, t)
    | none => fjs p P n (s + 1) := rfl
theorem lsn_s {p : Int} {P : PS} {n : Nat} : lsn p (n + 1) P = match ls1 p P with
    | some P' => lsn p n P'
    | none => P := rfl
theorem ce_pos {g : Int → Int} {s t j : Int} (hj : g j = s) (hne : j ≠ t) (j0 : 0 ≤ j) : ∀ n : Nat, j < n → 1 ≤ ce g s t n
  | 0, h => by omega
  | n + 1, h => by
    show 1 ≤ ce g s t n + (if g n = s ∧ (n : Int) ≠ t then 1 else 0)
    have hb := ce_b (g := g) (s := s) (t := t) n
    by_cases e : j = (n : Int)
    · rw [if_pos ⟨by rw [← e]; exact hj, by rw [← e]; exact hne⟩]; omega
    · have := ce_pos hj hne j0 n (by omega)
      by_cases c : g n = s ∧ (n : Int) ≠ t
      · rw [if_pos c]; omega
      · rw [if_neg c]; omega
theorem mcn_pos {p w s t : Int} {P : PS} (s0 : 0 ≤ s) (sT : s < tm P) (t0 : 0 ≤ t) (tT : t < tm P) (hne : s ≠ t) (hk : alk p P w s t) : 1 ≤ mcn p P w s := by
  rw [mcn_ce s0 sT, if_neg hk.1]
  exact ce_pos (g := fun j => shp p (rw' P (40 * w + j))) hk.2.symm (Ne.symm hne) t0 _ (by omega)
def wwm (p : Int) (P : PS) (s : Int) : Int := sm (fun w => if 0 < mcn p P w s then 1 else 0) 3
theorem wwm_e {p s : Int} {P : PS} : wwm p P s = (if 0 < mcn p P 0 s then 1 else 0) + (if 0 < mcn p P 1 s then 1 else 0) + (if 0 < mcn p P 2 s then 1 else 0) := by
  show 0 + (if 0 < mcn p P ((0 : Nat) : Int) s then 1 else 0) + (if 0 < mcn p P ((1 : Nat) : Int) s then 1 else 0) + (if 0 < mcn p P ((2 : Nat) : Int) s then 1 else 0) = _
  rw [Int.zero_add]; rfl
theorem wwm_2 {p s t : Int} {P : PS} (s0 : 0 ≤ s) (sT : s < tm P) (t0 : 0 ≤ t) (tT : t < tm P) (hne : s ≠ t) (hk : thr p P s t ≠ -1) : 2 ≤ wwm p P s := by
  obtain ⟨q1, q2, q3, q4⟩ := thr_r hk
  have m1 := mcn_pos s0 sT t0 tT hne q3
  have m2 := mcn_pos s0 sT t0 tT hne q4
  rw [wwm_e]
  generalize thr p P s t = c at *
  rcases (show c = 0 ∨ c = 1 ∨ c = 2 by omega) with rfl | rfl | rfl
  · rw [show ((0 : Int) + 1) % 3 = 1 from rfl] at m1
    rw [show ((0 : Int) + 2) % 3 = 2 from rfl] at m2
    rw [if_pos (show 0 < mcn p P 1 s by omega), if_pos (show 0 < mcn p P 2 s by omega)]
    by_cases c : 0 < mcn p P 0 s
    · rw [if_pos c]; omega
    · rw [if_neg c]; omega
  · rw [show ((1 : Int) + 1) % 3 = 2 from rfl] at m1
    rw [show ((1 : Int) + 2) % 3 = 0 from rfl] at m2
    rw [if_pos (show 0 < mcn p P 0 s by omega), if_pos (show 0 < mcn p P 2 s by omega)]
    by_cases c : 0 < mcn p P 1 s
    · rw [if_pos c]; omega
    · rw [if_neg c]; omega
  · rw [show ((2 : Int) + 1) % 3 = 0 from rfl] at m1
    rw [show ((2 : Int) + 2) % 3 = 1 from rfl] at m2
    rw [if_pos (show 0 < mcn p P 0 s by omega), if_pos (show 0 < mcn p P 1 s by omega)]
    by_cases c : 0 < mcn p P 2 s
    · rw [if_pos c]; omega
    · rw [if_neg c]; omega
theorem fjt_r {p s : Int} {P : PS} : ∀ (n : Nat) (t u : Int), fjt p P s n t = some u → t ≤ u ∧ u < t + n ∧ thr p P s u ≠ -1
  | 0, t, u, h => by cases h
  | n + 1, t, u, h => by
    unfold fjt at h
    by_cases c : thr p P s t = -1
    · rw [if_pos c] at h
      have := fjt_r n (t + 1) u h
      exact ⟨by omega, by omega, this.2.2⟩
    · rw [if_neg c] at h
      cases h
      exact ⟨by omega, by omega, c⟩
theorem fjs_r {p : Int} {P : PS} : ∀ (n : Nat) (s u v : Int), 0 ≤ s → s + n = tm P → fjs p P n s = some (u, v) → 0 ≤ u ∧ u < v ∧ v < tm P ∧ thr p P u v ≠ -1
  | 0, s, u, v, _, _, h => by cases h
  | n + 1, s, u, v, s0, hs, h => by
    unfold fjs at h
    cases hf : fjt p P s (tm P - (s + 1)).toNat (s + 1) with
    | some t =>
      rw [hf] at h
      cases h
      have := fjt_r _ _ _ hf
      exact ⟨s0, by omega, by omega, this.2.2⟩
    | none =>
      rw [hf] at h
      exact fjs_r n (s + 1) u v (by omega) (by omega) h
theorem fz_r {P : PS} : ∀ (n : Nat) (t u : Int), fz P n t = some u → t ≤ u ∧ u < t + n
  | 0, t, u, h => by cases h
  | n + 1, t, u, h => by
    unfold fz at h
    by_cases c : rw' P (40 * 0 + t) = 0 ∨ rw' P (40 * 1 + t) = 0 ∨ rw' P (40 * 2 + t) = 0
    · rw [if_pos c] at h; cases h; omega
    · rw [if_neg c] at h
      have := fz_r n (t + 1) u h
      omega
theorem ls1_W {p : Int} {P P' : PS} (hp : okp p) (hW : WF p P) (h : ls1 p P = some P') : WF p P' ∧ tm P' = tm P - 1 ∧ 1 ≤ tm P := by
  have hT := hW.2.2.1
  unfold ls1 at h
  cases hz : fz P (tm P).toNat 0 with
  | some t =>
    rw [hz] at h
    cases h
    have := fz_r _ _ _ hz
    exact ⟨WF_rmv hW this.1 (by omega), rfl, by omega⟩
  | none =>
    rw [hz] at h
    cases hs : fjs p P (tm P).toNat 0 with
    | none => rw [hs] at h; cases h
    | some q =>
      rw [hs] at h
      cases h
      obtain ⟨u, v⟩ := q
      have r := fjs_r (tm P).toNat 0 u v (by omega) (by omega) hs
      have r2 := thr_r r.2.2.2
      exact ⟨WF_jn hp hW r.1 (by omega) (by omega) r.2.2.1 r2.1 r2.2.1, rfl, by omega⟩
section Mov2
variable {l : Launch} {d : Nat} {h : HP} {p a : Int} {P : PS} {Q : Int → GS → HP → Prop}
theorem row_i {w t : Int} (hp : okp p) (hW : WF p P) (w0 : 0 ≤ w) (w3 : w < 3) (t0 : 0 ≤ t) (tT : t < tm P) : inR (rw' P (40 * w + t)) := by
  have := isR_b hp (rowR hp hW w0 w3 t0 tT)
  exact ⟨by omega, by omega⟩
theorem rX3_dropNoughts (hg : Gd h p) (ha : isP a) (hX : XP h a p P) (hW : WF p P) (h0 : fz P (tm P).toNat 0 = none → Q 0 G0 h) (h1 : ∀ t h', fz P (tm P).toNat 0 = some t → XP h' a p (rmv P t) → FrP a h h' → Q 1 G0 h') : R l MX3_dropNoughts (d + 2) 0 0 [vR 43, vR a] G0 h Q := by
  have hT := hW.2.2.1
  refine eX3_dropNoughts 43 a (vX3_dropNoughts_0 43 a ?_)
  refine lp_up (σ := Unit) (fun t _ => S l MX3_dropNoughts (d + 1 + 1, 0, 0, 0, 0) 2 [none, some (vR a), some (vI t)] [] G0 h Q) (fun t _ => 0 ≤ t ∧ fz P (tm P - t).toNat t = fz P (tm P).toNat 0) (tm P) ?_ ?_ 0 () hT.1 ⟨by decide, by rw [Int.sub_zero]⟩
  · intro t _ ht ⟨t0, hf⟩ ih
    rw [show (tm P - t).toNat = (tm P - (t + 1)).toNat + 1 by omega] at hf
    rw [fz_s] at hf
    have rem : (rw' P (40 * 0 + t) = 0 ∨ rw' P (40 * 1 + t) = 0 ∨ rw' P (40 * 2 + t) = 0) → ty G0 a = 4 ∧ R l MX4_remove (d + 1) 0 0 [vR a, vI t] G0 h (fun _ G' h' => Q 1 G' h') := fun c => by
      rw [if_pos c] at hf
      exact ⟨(tP ha).1, rX4_remove (d := d) hg ha hX hW t0 ht (fun h' q f _ => h1 t h' hf.symm q f)⟩
    refine vX3_dropNoughts_2 a t ?_
    simp only [hX.2.2.2.1]
    refine ⟨(tP ha).1, ⟨by omega, by omega⟩, ⟨by omega, by omega⟩, fun c => by omega, fun _ => rX4_rowOf ha hX hW (by decide) (by decide) t0 ht ⟨row_i hg.1 hW (by decide) (by decide) t0 ht, fun c => rem (Or.inl c), fun c => ⟨(tP ha).1, rX4_rowOf ha hX hW (by decide) (by decide) t0 ht ⟨row_i hg.1 hW (by decide) (by decide) t0 ht, fun c2 => rem (Or.inr (Or.inl c2)), fun c2 => ⟨(tP ha).1, rX4_rowOf ha hX hW (by decide) (by decide) t0 ht ⟨row_i hg.1 hW (by decide) (by decide) t0 ht, fun c3 => ?_, fun c3 => rem (Or.inr (Or.inr c3))⟩⟩⟩⟩⟩⟩
    rw [if_neg (fun z => z.elim c (fun z => z.elim c2 c3))] at hf
    exact ih () ⟨by omega, hf⟩
  · intro _ ⟨t0, hf⟩
    rw [show (tm P - tm P).toNat = 0 by omega] at hf
    refine vX3_dropNoughts_2 a _ ?_
    simp only [hX.2.2.2.1]
    exact ⟨(tP ha).1, ⟨by omega, by omega⟩, ⟨by omega, by omega⟩, fun _ => h0 hf.symm, fun c => by omega⟩
theorem rX3_waysWithMates {s : Int} (ha : isP a) (hX : XP h a p P) (hW : WF p P) (s0 : 0 ≤ s) (sT : s < tm P) (hQ : Q (wwm p P s) G0 h) : R l MX3_waysWithMates (d + 1) 0 0 [vR 43, vR a, vI s] G0 h Q := by
  refine eX3_waysWithMates 43 a s (vX3_waysWithMates_0 43 a s ?_)
  refine lp_up (σ := Unit) (fun w _ => S l MX3_waysWithMates (d + 1, 0, 0, 0, 0) 5 [none, some (vR a), some (vI s), some (vI (sm (fun w => if 0 < mcn p P w s then 1 else 0) w.toNat)), some (vI w)] [] G0 h Q) (fun w _ => 0 ≤ w) 3 ?_ ?_ 0 () (by decide) (by decide)
  · intro w _ hw w0 ih
    have hb := mcn_b (w := w) hW s0 sT
    have := ih () (by omega)
    rw [sm_s w0] at this
    refine vX3_waysWithMates_5 a s _ w ⟨⟨by omega, by omega⟩, fun c => by omega, fun _ => ⟨(tP ha).1, rX4_matesOf ha hX hW w0 hw s0 sT ⟨⟨by omega, by omega⟩, fun c => ?_, fun c => ?_⟩⟩⟩
    · rw [if_neg (show ¬ 0 < mcn p P w s by omega), Int.add_zero] at this
      exact this
    · rw [if_pos c] at this
      exact this
  · intro _ w0
    exact vX3_waysWithMates_5 a s _ 3 ⟨by decide, fun _ => hQ, fun c => absurd c (by decide)⟩
theorem fjt_none {s : Int} : ∀ (n : Nat) (t : Int), (∀ u, t ≤ u → u < t + n → thr p P s u = -1) → fjt p P s n t = none
  | 0, _, _ => rfl
  | n + 1, t, h => by
    unfold fjt
    rw [if_pos (h t (by omega) (by omega))]
    exact fjt_none n (t + 1) (fun u h1 h2 => h u (by omega) (by omega))
theorem thr_i {s t : Int} : inR (thr p P s t) := by
  by_cases c : thr p P s t = -1
  · rw [c]; decide
  · have := thr_r c; exact ⟨by omega, by omega⟩
theorem rX3_joinAlike (hg : Gd h p) (ha : isP a) (hm : h 43 0 = 1) (hX : XP h a p P) (hW : WF p P) (h0 : fjs p P (tm P).toNat 0 = none → Q 0 G0 h) (h1 : ∀ s t h', fjs p P (tm P).toNat 0 = some (s, t) → XP h' a p (jn p P s t (thr p P s t)) → FrP a h h' → Q 1 G0 h') : R l MX3_joinAlike (d + 4) 0 0 [vR 43, vR a] G0 h Q := by
  have hT := hW.2.2.1
  refine eX3_joinAlike 43 a (vX3_joinAlike_0 43 a ?_)
  refine lp_up (σ := Unit) (fun s _ => S l MX3_joinAlike (d + 3 + 1, 0, 0, 0, 0) 2 [some (vR 43), some (vR a), some (vI s), none, none] [] G0 h Q) (fun s _ => 0 ≤ s ∧ fjs p P (tm P - s).toNat s = fjs p P (tm P).toNat 0) (tm P) ?_ ?_ 0 () hT.1 ⟨by decide, by rw [Int.sub_zero]⟩
  · intro s _ hs ⟨s0, hf⟩ ih
    rw [show (tm P - s).toNat = (tm P - (s + 1)).toNat + 1 by omega] at hf
    rw [fjs_s] at hf
    refine vX3_joinAlike_2 43 a s ?_
    simp only [hX.2.2.2.1]
    have hwi : inR (wwm p P s) := by
      rw [wwm_e]
      have k : ∀ c : Prop, [Decidable c] → 0 ≤ (if c then (1 : Int) else 0) ∧ (if c then (1 : Int) else 0) ≤ 1 := fun c _ => by
        by_cases z : c
        · rw [if_pos z]; omega
        · rw [if_neg z]; omega
      have k0 := k (0 < mcn p P 0 s)
      have k1 := k (0 < mcn p P 1 s)
      have k2 := k (0 < mcn p P 2 s)
      exact ⟨by omega, by omega⟩
    refine ⟨(tP ha).1, ⟨by omega, by omega⟩, ⟨by omega, by omega⟩, fun c => by omega, fun _ => ⟨rfl, rX3_waysWithMates (d := d + 2) ha hX hW s0 hs ⟨hwi, fun c => ?_, fun c => ?_⟩⟩⟩
    · refine lp_up (σ := Unit) (fun t _ => S l MX3_joinAlike (d + 3 + 1, 0, 0, 0, 0) 27 [some (vR 43), some (vR a), some (vI s), some (vI t), none] [] G0 h Q) (fun t _ => s + 1 ≤ t ∧ fjt p P s (tm P - t).toNat t = fjt p P s (tm P - (s + 1)).toNat (s + 1)) (tm P) ?_ ?_ (s + 1) () (by omega) ⟨by omega, rfl⟩
      · intro t _ ht ⟨t0, hft⟩ ih2
        rw [show (tm P - t).toNat = (tm P - (t + 1)).toNat + 1 by omega] at hft
        rw [fjt_s] at hft
        refine vX3_joinAlike_27 43 a s t ?_
        simp only [hX.2.2.2.1]
        refine ⟨(tP ha).1, ⟨by omega, by omega⟩, ⟨by omega, by omega⟩, fun c => by omega, fun _ => ⟨rfl, rX3_thirdBesideAlike (d := d + 2) hg ha hX hW s0 hs (by omega) ht ⟨thr_i, fun c2 => ?_, fun c2 => ⟨rfl, ?_⟩⟩⟩⟩
        · rw [if_pos c2] at hft
          exact ih2 () ⟨by omega, hft⟩
        · rw [if_neg c2] at hft
          rw [← hft] at hf
          have r2 := thr_r c2
          exact rX3_join (d := d) hg ha hm hX hW s0 hs (by omega) ht r2.1 r2.2.1 r2.2.2.1 r2.2.2.2 (fun h' q f => h1 s t h' hf.symm q f)
      · intro _ ⟨t0, hft⟩
        rw [show (tm P - tm P).toNat = 0 by omega] at hft
        rw [← hft] at hf
        refine vX3_joinAlike_27 43 a s _ ?_
        simp only [hX.2.2.2.1]
        exact ⟨(tP ha).1, ⟨by omega, by omega⟩, ⟨by omega, by omega⟩, fun _ => ih () ⟨by omega, hf⟩, fun c => by omega⟩
    · have hn : fjt p P s (tm P - (s + 1)).toNat (s + 1) = none := fjt_none _ _ (fun u u1 u2 => by
        apply Classical.byContradiction
        intro z
        have := wwm_2 s0 hs (show 0 ≤ u by omega) (by omega) (by omega) z
        omega)
      rw [hn] at hf
      exact ih () ⟨by omega, hf⟩
  · intro _ ⟨s0, hf⟩
    rw [show (tm P - tm P).toNat = 0 by omega] at hf
    refine vX3_joinAlike_2 43 a _ ?_
    simp only [hX.2.2.2.1]
    exact ⟨(tP ha).1, ⟨by omega, by omega⟩, ⟨by omega, by omega⟩, fun _ => h0 hf.symm, fun c => by omega⟩
theorem rX3_lessen (hg : Gd h p) (ha : isP a) (hm : h 43 0 = 1) (hX : XP h a p P) (hW : WF p P) (hQ : ∀ h', XP h' a p (lsn p (tm P).toNat P) → FrP a h h' → Q (tm P - tm (lsn p (tm P).toNat P)) G0 h') : R l MX3_lessen (d + 5) 0 0 [vR 43, vR a] G0 h Q := by
  have hT := hW.2.2.1
  have hisP := isP_b ha
  refine eX3_lessen 43 a (vX3_lessen_0 43 a ?_)
  simp only [hX.2.2.2.1]
  refine ⟨(tP ha).1, ?_⟩
  refine lp_up (σ := HP) (fun n hh => S l MX3_lessen (d + 4 + 1, 0, 0, 0, 0) 7 [some (vR 43), some (vR a), some (vI (tm P)), some (vI n)] [] G0 hh Q) (fun n hh => 0 ≤ n ∧ ∃ Pn : PS, XP hh a p Pn ∧ WF p Pn ∧ lsn p (tm P - n).toNat Pn = lsn p (tm P).toNat P ∧ FrP a h hh) (tm P) ?_ ?_ 0 h hT.1 ⟨by decide, P, hX, hW, by rw [Int.sub_zero], FrP.rf⟩
  · intro n hh hn ⟨n0, Pn, q1, q2, q3, q4⟩ ih
    have hgh := hg.fr hisP.1 q4
    have hmh : hh 43 0 = 1 := by rw [q4 43 (by omega)]; exact hm
    rw [show (tm P - n).toNat = (tm P - (n + 1)).toNat + 1 by omega] at q3
    rw [lsn_s] at q3
    unfold ls1 at q3
    refine vX3_lessen_7 43 a _ n ⟨⟨by omega, by omega⟩, ⟨by omega, by omega⟩, fun c => by omega, fun _ => ⟨rfl, ?_⟩⟩
    refine rX3_dropNoughts (d := d + 2) hgh ha q1 q2 (fun c => ?_) (fun t h7 c q7 f7 => ?_)
    · rw [c] at q3
      refine ⟨by decide, fun z => absurd rfl z, fun _ => ⟨rfl, ?_⟩⟩
      refine rX3_joinAlike (d := d) hgh ha hmh q1 q2 (fun c2 => ?_) (fun s t h13 c2 q13 f13 => ?_)
      · rw [c2] at q3
        have q3' : Pn = lsn p (tm P).toNat P := q3
        refine ⟨by decide, fun z => absurd rfl z, fun _ => ⟨(tP ha).1, ?_⟩⟩
        rw [q1.2.2.2.1, q3']
        exact hQ hh (by rw [← q3']; exact q1) q4
      · rw [c2] at q3
        have r := fjs_r (tm Pn).toNat 0 s t (by omega) (by have := q2.2.2.1; omega) c2
        have r2 := thr_r r.2.2.2
        exact ⟨by decide, fun _ => ih h13 ⟨by omega, _, q13, WF_jn hg.1 q2 r.1 (by omega) (by omega) r.2.2.1 r2.1 r2.2.1, q3, q4.tr f13⟩, fun z => absurd z (by decide)⟩
    · rw [c] at q3
      have r := fz_r _ _ _ c
      exact ⟨by decide, fun _ => ih h7 ⟨by omega, _, q7, WF_rmv q2 r.1 (by have := q2.2.2.1; omega), q3, q4.tr f7⟩, fun z => absurd z (by decide)⟩
  · intro hh ⟨n0, Pn, q1, q2, q3, q4⟩
    rw [show (tm P - tm P).toNat = 0 by omega] at q3
    have q3' : Pn = lsn p (tm P).toNat P := q3
    refine vX3_lessen_7 43 a _ _ ⟨⟨by omega, by omega⟩, ⟨by omega, by omega⟩, fun _ => ⟨(tP ha).1, ?_⟩, fun c => by omega⟩
    rw [q1.2.2.2.1, q3']
    exact hQ hh (by rw [← q3']; exact q1) q4
theorem lsn_W (hp : okp p) : ∀ (n : Nat) (P : PS), WF p P → WF p (lsn p n P)
  | 0, _, h => h
  | n + 1, P, h => by
    unfold lsn
    cases c : ls1 p P with
    | none => exact h
    | some P' => exact lsn_W hp n P' (ls1_W hp h c).1
end Mov2
