section Mod10
variable {l : Launch} {d : Nat} {h : HP} {p : Int} {P : PS} {B : BS} {Q : Int → GS → HP → Prop}
theorem rX9_moveT {w s : Int} (mr : MR h) (h0 : h 75 0 = p) (hp : okp p) (ms : MS h p P) (hW : WF p P) (hw : okw w) (hs : okt P s) : ∀ (n : Nat) (t c : Int), 0 ≤ t → t + n = tm P → 0 ≤ c → c ≤ 1000000 → (c < cf p P w s n t → ∀ h', FrL2 h h' → MS h' p (mv p P w s (mto p P w s n t c)) → Q 0 G0 h') → (cf p P w s n t ≤ c → S l MX9_moveOf (d + 2 + 1, 0, 0, 0, 0) 12 [some (vR 75), none, some (vI (c - cf p P w s n t)), some (vI w), some (vI (s + 1)), none, none] [] G0 h Q) → S l MX9_moveOf (d + 2 + 1, 0, 0, 0, 0) 24 [some (vR 75), none, some (vI c), some (vI w), some (vI s), some (vI t), none] [] G0 h Q
  | 0, t, c, t0, tT, c0, c1, hy, hn => by
    have h40 := hW.2.2.1
    refine vX9_moveOf_24 75 c w s t ?_
    simp only [ms.1]
    refine ⟨t75, ⟨by omega, by omega⟩, ⟨by omega, by omega⟩, fun _ => ?_, fun z => by omega⟩
    have := hn c0
    rw [show cf p P w s 0 t = 0 from rfl, Int.sub_zero] at this
    exact this
  | n + 1, t, c, t0, tT, c0, c1, hy, hn => by
    have h40 := hW.2.2.1
    have hs' := hs
    unfold okt at hs'
    have ot : okt P t := ⟨t0, by omega⟩
    have mp := mfc_pos hp (rowR hp hW hw.1 hw.2 hs.1 hs.2) (rowR hp hW hw.1 hw.2 ot.1 ot.2)
    have pb := okp_b hp
    rw [cf_s] at hy hn
    rw [mto_s] at hy
    refine vX9_moveOf_24 75 c w s t ?_
    simp only [ms.1]
    refine ⟨t75, ⟨by omega, by omega⟩, ⟨by omega, by omega⟩, fun z => by omega, fun _ => ⟨⟨by omega, by omega⟩, fun e => ?_, fun ne => rX9_factor mr h0 hp ms hW hw hs ot ⟨⟨by have := mp.2; omega, by have := mp.2; omega⟩, fun z => ?_, fun z => ⟨⟨by omega, by omega⟩, fun cz => ?_, fun cz => ⟨t75, ?_⟩⟩⟩⟩⟩
    · rw [if_neg (fun z => z.1 e.symm)] at hy hn
      rw [if_pos e.symm] at hy
      refine rX9_moveT mr h0 hp ms hW hw hs n (t + 1) c (by omega) (by omega) c0 c1 (fun q => hy (by omega)) (fun q => ?_)
      have := hn (by omega)
      rw [show c - (0 + cf p P w s n (t + 1)) = c - cf p P w s n (t + 1) by omega] at this
      exact this
    · have na : ¬ alk p P w s t := fun a => by have := mp.1.2 a; omega
      rw [if_neg (fun z => na z.2)] at hy hn
      rw [if_neg (Ne.symm ne), if_neg na] at hy
      refine rX9_moveT mr h0 hp ms hW hw hs n (t + 1) c (by omega) (by omega) c0 c1 (fun q => hy (by omega)) (fun q => ?_)
      have := hn (by omega)
      rw [show c - (0 + cf p P w s n (t + 1)) = c - cf p P w s n (t + 1) by omega] at this
      exact this
    · have al := mp.1.1 z
      rw [if_pos ⟨Ne.symm ne, al⟩] at hy hn
      rw [if_neg (Ne.symm ne), if_pos al, if_neg cz] at hy
      refine rX9_moveT mr h0 hp ms hW hw hs n (t + 1) (c + -1) (by omega) (by omega) (by omega) (by omega) (fun q => hy (by omega)) (fun q => ?_)
      have := hn (by omega)
      rw [show c - (1 + cf p P w s n (t + 1)) = c + -1 - cf p P w s n (t + 1) by omega] at this
      exact this
    · have al := mp.1.1 z
      rw [if_pos ⟨Ne.symm ne, al⟩] at hy
      rw [if_neg (Ne.symm ne), if_pos al, if_pos cz] at hy
      have cb := cf_b (p := p) (P := P) (w := w) (s := s) n (t + 1)
      exact rX9_doMove mr h0 hp ms hW hw hs ot ne (fun n => absurd al n) (fun _ h' f ms' => hy (by omega) h' f ms')
theorem rX9_moveS {w : Int} (mr : MR h) (h0 : h 75 0 = p) (hp : okp p) (ms : MS h p P) (hW : WF p P) (hw : okw w) : ∀ (n : Nat) (s c : Int), 0 ≤ s → s + n = tm P → 0 ≤ c → c ≤ 1000000 → (∀ k', dnS p P w n s c = .inl k' → 0 ≤ k' → k' ≤ c → S l MX9_moveOf (d + 2 + 1, 0, 0, 0, 0) 4 [some (vR 75), none, some (vI k'), some (vI (w + 1)), none, none, none] [] G0 h Q) → (∀ q, dnS p P w n s c = .inr q → ∀ h', FrL2 h h' → MS h' p (mv p P w q.1 (mto p P w q.1 (tm P).toNat 0 q.2)) → Q 0 G0 h') → S l MX9_moveOf (d + 2 + 1, 0, 0, 0, 0) 12 [some (vR 75), none, some (vI c), some (vI w), some (vI s), none, none] [] G0 h Q
  | 0, s, c, s0, sT, c0, c1, hl, hr => by
    have h40 := hW.2.2.1
    refine vX9_moveOf_12 75 c w s ?_
    simp only [ms.1]
    exact ⟨t75, ⟨by omega, by omega⟩, ⟨by omega, by omega⟩, fun _ => hl c rfl c0 (Int.le_refl c), fun z => by omega⟩
  | n + 1, s, c, s0, sT, c0, c1, hl, hr => by
    have h40 := hW.2.2.1
    rw [dnS_s] at hl hr
    have os : okt P s := ⟨s0, by omega⟩
    have mb := mcn_b (w := w) hW os.1 os.2
    have mc := mcn_cf (p := p) (w := w) os.1 os.2
    refine vX9_moveOf_12 75 c w s ?_
    simp only [ms.1]
    refine ⟨t75, ⟨by omega, by omega⟩, ⟨by omega, by omega⟩, fun z => by omega, fun _ => rX9_moveT mr h0 hp ms hW hw os (tm P).toNat 0 c (by decide) (by omega) c0 c1 (fun q => ?_) (fun q => ?_)⟩
    · rw [if_neg (by omega)] at hr
      exact hr (s, c) rfl
    · rw [if_pos (by omega)] at hl hr
      rw [← mc]
      exact rX9_moveS mr h0 hp ms hW hw n (s + 1) _ (by omega) (by omega) (by omega) (by omega) (fun k' e e0 e1 => hl k' e e0 (by omega)) hr
theorem rX9_moveW (mr : MR h) (h0 : h 75 0 = p) (hp : okp p) (ms : MS h p P) (hW : WF p P) : ∀ (n : Nat) (w c : Int), 0 ≤ w → w + n = 3 → 0 ≤ c → c ≤ 1000000 → (∀ h', FrL2 h h' → MS h' p (dnW p P n w c) → Q 0 G0 h') → S l MX9_moveOf (d + 2 + 1, 0, 0, 0, 0) 4 [some (vR 75), none, some (vI c), some (vI w), none, none, none] [] G0 h Q
  | 0, w, c, w0, wn, c0, c1, hQ => vX9_moveOf_4 75 c w ⟨⟨by omega, by omega⟩, fun _ => hQ h FrL2.rf ms, fun z => by omega⟩
  | n + 1, w, c, w0, wn, c0, c1, hQ => by
    have h40 := hW.2.2.1
    rw [dnW_s] at hQ
    refine vX9_moveOf_4 75 c w ⟨⟨by omega, by omega⟩, fun z => by omega, fun _ => rX9_moveS mr h0 hp ms hW ⟨w0, by omega⟩ (tm P).toNat 0 c (by decide) (by omega) c0 c1 (fun k' e e0 e1 => ?_) (fun q e h' f ms' => ?_)⟩
    · rw [e] at hQ
      exact rX9_moveW mr h0 hp ms hW n (w + 1) k' (by omega) (by omega) e0 (by omega) hQ
    · rw [e] at hQ
      exact hQ h' f ms'
theorem rX9_moveOf {c : Int} (mr : MR h) (h0 : h 75 0 = p) (hp : okp p) (ms : MS h p P) (hW : WF p P) (hc : 0 ≤ c ∧ c ≤ 1000000) (hQ : ∀ h', FrL2 h h' → MS h' p (dnW p P 3 0 c) → Q 0 G0 h') : R l MX9_moveOf (d + 3) 0 0 [vR 75, vI c] G0 h Q :=
  eX9_moveOf 75 c (vX9_moveOf_0 75 c (rX9_moveW mr h0 hp ms hW 3 0 c (by decide) (by decide) hc.1 hc.2 hQ))
theorem rX9_walkLoop {n : Int} (hp : okp p) : ∀ (m : Nat) (k x : Int) (h : HP) (P : PS), 0 ≤ k → n ≤ 200 → k + m = n → MR h → h 75 0 = p → MS h p P → WF p P → (∀ h', FrL2 h h' → MS h' p (wkn p m x P) → Q (tm (wkn p m x P)) G0 h') → S l MX9_walk (d + 4 + 1, 0, 0, 0, 0) 19 [some (vR 75), none, some (vI n), some (vI x), some (vI k), none, none] [] G0 h Q
  | 0, k, x, h, P, k0, n2, hk, mr, h0, ms, hW, hQ => by
    refine vX9_walk_19 75 n x k ?_
    simp only [ms.1]
    exact ⟨⟨by omega, by omega⟩, ⟨by omega, by omega⟩, fun _ => ⟨t75, hQ h FrL2.rf ms⟩, fun c => by omega⟩
  | m + 1, k, x, h, P, k0, n2, hk, mr, h0, ms, hW, hQ => by
    have nb := nmv_b hW
    rw [wkn_s] at hQ
    refine vX9_walk_19 75 n x k ⟨⟨by omega, by omega⟩, ⟨by omega, by omega⟩, fun c => by omega, fun _ => ⟨t75, rX9_moves mr h0 hp ms hW ⟨⟨by omega, by omega⟩, fun c => ?_, fun c => ?_⟩⟩⟩
    · rw [if_neg c] at hQ
      have kk := wk_k (x := x) hW c
      refine ⟨⟨⟨by omega, by omega⟩, by omega, by omega⟩, t75, rX9_moveOf mr h0 hp ms hW kk (fun h1 f1 ms1 => ⟨t75, ?_⟩)⟩
      have W1 := dnW_W hp hW 3 0 _ (by decide) (by decide) kk.1
      refine rX9_lessS (f1.mr mr) (by rw [f1.2 0 (by decide)]; exact h0) hp ms1 W1 (fun h2 f2 ms2 => ?_)
      have f3 := f1.tr f2
      exact rX9_walkLoop hp m (k + 1) (1103515245 * x + 12345) h2 _ (by omega) n2 (by omega) (f3.mr mr) (by rw [f3.2 0 (by decide)]; exact h0) ms2 (lsn_W hp _ _ W1) (fun h' f' ms' => hQ h' (f3.tr f') ms')
    · rw [if_pos c] at hQ
      rw [ms.1]
      exact ⟨t75, hQ h FrL2.rf ms⟩
theorem rX9_walk {x n r : Int} {B' : BS} (hn : inR n) (bw : BW B) (hm : MX h B) (hA : A_wk x n B r B') (hQ : ∀ h', MX h' B' → FM h h' → Q r G0 h') : R l MX9_walk (d + 5) 0 0 [vR 75, vI x, vI n] G0 h Q := by
  have r1 : inR 1 := ⟨by decide, by decide⟩
  have r0 : inR 0 := ⟨by decide, by decide⟩
  refine eX9_walk 75 x n (vX9_walk_0 75 x n ⟨hn, rX9_in ⟨by have := hn.1; omega, by have := hn.2; omega⟩ (by decide) (by decide) (fun o => ⟨r1, fun _ => ?_, fun z => by omega⟩) (fun no => ⟨r0, fun z => absurd rfl z, fun _ => ?_⟩)⟩)
  · rcases hA with ⟨no, _⟩ | ⟨_, rfl, rfl⟩
    · omega
    · have ww := wkn_W bw.1 n.toNat x (bP B) bw.2.1
      exact rX9_walkLoop bw.1 n.toNat 0 x h (bP B) (by decide) o.2 (by omega) hm.1 hm.2.1 hm.2.2.2.1 bw.2.1 (fun h' f ms' => hQ h' (f.x hm ww.2.1 ww.2.2 ms') f.m)
  · rcases hA with ⟨_, rfl, rfl⟩ | ⟨o, _⟩
    · exact hQ h hm FM.rf
    · omega
end Mod10
