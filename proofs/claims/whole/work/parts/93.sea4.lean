theorem no_Sp {p C K : Int} {N n d : Nat} {T L : Int → Int → Int} {c c' : Int → Int} {f : Int} (hp : okp p) (hd : d < n) (hs : Sp p N d (fun s => T (c s)) (T f)) (hE : Ext p N T L C K n d f c c') : c' d ≠ f := fun e => by
  obtain ⟨cf, hcf⟩ := hs
  have hI := hE.1.2.2.1
  have h1 := hI (fun s => if s < d then cf s else if s = d then -1 else 0) (fun i i0 i9 => by
    have e1 : sm (fun s => (if s < (d : Int) then cf s else if s = d then -1 else 0) * T (c' s) i) n = sm (fun s => (if s < (d : Int) then cf s else if s = d then -1 else 0) * T (c' s) i) (d + 1) := by
      have := sm_z (f := fun s => (if s < (d : Int) then cf s else if s = d then -1 else 0) * T (c' s) i) (i := (d + 1 : Nat)) (n := n) (by omega) (by omega) (fun j j0 j1 => by rw [if_neg (show ¬ j < (d : Int) by omega), if_neg (show ¬ j = (d : Int) by omega), Int.zero_mul])
      rw [Int.toNat_natCast, Int.toNat_natCast] at this
      exact this
    rw [e1]
    show p ∣ sm (fun s => (if s < (d : Int) then cf s else if s = d then -1 else 0) * T (c' s) i) d + (if (d : Int) < d then cf d else if (d : Int) = d then -1 else 0) * T (c' d) i
    rw [if_neg (show ¬ (d : Int) < d by omega), if_pos rfl, e, sm_ext d (g := fun s => cf s * T (c s) i) (fun s s0 s1 => by rw [if_pos s1, hE.2.1 s s0 s1])]
    have h2 := (Int.dvd_neg).2 (hcf i i0 i9)
    rw [show ∀ a b : Int, -(a - b) = b + -1 * a by intro a b; omega] at h2
    exact h2) d (by omega) (by omega)
  rw [if_neg (show ¬ (d : Int) < d by omega), if_pos rfl] at h1
  have hb := okp_b hp
  have := Int.le_of_dvd (show (0 : Int) < 1 by decide) ((Int.dvd_neg).1 h1)
  omega
theorem Ext_dn {p C K : Int} {N n d : Nat} {T L : Int → Int → Int} {c c' : Int → Int} {f : Int} (hd : d < n) (h : Ext p N T L C K n (d + 1) (f + 1) (up1 c d f) c') : Ext p N T L C K n d f c c' ∧ c' d = f := by
  have e : c' d = f := by rw [h.2.1 d (by omega) (by omega), up1_s]
  exact ⟨⟨h.1, fun s s0 s1 => by rw [h.2.1 s s0 (by omega), up1_o (by omega)], fun _ => by omega⟩, e⟩
theorem Ext_up {p C K : Int} {N n d : Nat} {T L : Int → Int → Int} {c c' : Int → Int} {f : Int} (h : Ext p N T L C K n d f c c') (e : c' d = f) : Ext p N T L C K n (d + 1) (f + 1) (up1 c d f) c' := by
  refine ⟨h.1, fun s s0 s1 => ?_, fun z => ?_⟩
  · by_cases es : s = (d : Int)
    · rw [es, up1_s, e]
    · rw [up1_o es]; exact h.2.1 s s0 (by omega)
  · have := h.1.1 d (by omega) (by omega)
    have e2 : ((d + 1 : Nat) : Int) = (d : Int) + 1 := by omega
    rw [e2]
    omega
section Sea4
variable {l : Launch} {D0 : Nat} {p : Int} {P : PS} {n : Nat} {Q : Int → GS → HP → Prop}
set_option maxHeartbeats 1000000 in
theorem srch (hp : okp p) (hW : WF p P) (n4 : n ≤ 4) (K60 : (prs p P).1 ≤ 60) : ∀ k d : Nat, d + k = n → ∀ (m : Nat) (h : HP) (f : Int) (c q : Int → Int) (e lf : Int → Int → Int), BF h p P → TSt h p P d c q e lf → 0 ≤ f → f + m = (prs p P).1 → (d < n → h 91 d = f - 1) → (∀ s : Int, 0 ≤ s → s + 1 < d → c s < c (s + 1)) → (∀ s : Int, 0 ≤ s → s < d → 0 ≤ c s ∧ c s < f) → Ind p 81 d (fun s => T81 p P (c s)) → (∃ w : Int → Int → Int, (∀ s : Int, 0 ≤ s → s < d → Sp p 81 n w (T81 p P (c s))) ∧ ∀ k : Int, 0 ≤ k → k < sz P 2 → Sp p 81 n w (S81 p P k)) →
    (∀ h' c', Ext p 81 (T81 p P) (S81 p P) (sz P 2) (prs p P).1 n d f c c' → (∀ c'', Ext p 81 (T81 p P) (S81 p P) (sz P 2) (prs p P).1 n d f c c'' → LE n c' c'') → (∀ s : Int, 0 ≤ s → s < n → h' 91 s = c' s) → FrD 0 h h' → Q 1 G0 h') →
    ((∀ c', ¬ Ext p 81 (T81 p P) (S81 p P) (sz P 2) (prs p P).1 n d f c c') → ∀ h', FrD d h h' → S l MX9_isDoneBy (D0 + 3 + 1, 0, 0, 0, 0) 20 [some (vR 75), some (vI n), some (vI (d - 1))] [] G0 h' Q) →
    S l MX9_isDoneBy (D0 + 3 + 1, 0, 0, 0, 0) 20 [some (vR 75), some (vI n), some (vI d)] [] G0 h Q := by
  have s2 := hW.1 2 (by decide) (by decide)
  intro k
  induction k with
  | zero =>
    intro d hd m h f c q e lf bf ts f0 fm _ inc cb ind fit yes no
    have hd' : d = n := by omega
    subst hd'
    exact vX9_isDoneBy_20 75 d d ⟨⟨by omega, by omega⟩, fun z => by omega, fun _ => ⟨⟨by omega, by omega⟩, fun z => absurd rfl z, fun _ => yes h c ⟨⟨inc, fun s s0 s1 => ⟨(cb s s0 s1).1, by have := (cb s s0 s1).2; omega⟩, ind, fit⟩, fun _ _ _ => rfl, fun z => by omega⟩ (fun c'' hE => .inl (fun s s0 s1 => (hE.2.1 s s0 s1).symm)) (fun s s0 s1 => (ts.1 s s0 s1).1) FrD.rf⟩⟩
  | succ k ihk =>
    intro d hd m
    have e2 : ((d + 1 : Nat) : Int) = (d : Int) + 1 := by omega
    induction m with
    | zero =>
      intro h f c q e lf bf ts f0 fm h91 inc cb ind fit yes no
      have v := h91 (by omega)
      have pm := bf.2.2.2.1
      refine vX9_isDoneBy_20 75 n d ⟨⟨by omega, by omega⟩, fun z => by omega, fun _ => ⟨⟨by omega, by omega⟩, fun _ => ?_, fun z => by omega⟩⟩
      simp only [bf.1.ch, v]
      refine ⟨t75, i91 (by omega) (by omega), fun h7 e7 => ?_⟩
      have a75 : h7 75 = h 75 := by rw [e7, hset_oa (by decide)]
      have w : h7 91 d = f := by rw [e7, hset_s]; omega
      simp only [a75, bf.1.ch, w, pm]
      refine ⟨i91 (by omega) (by omega), ⟨by omega, by omega⟩, ⟨by omega, by omega⟩, fun z => by omega, fun _ => no (fun c' hE => ?_) h7 ⟨fun b _ b2 _ _ _ => by rw [e7, hset_oa b2], fun s hs => by rw [e7, hset_oj (by omega), hset_oa (by decide)]; exact ⟨rfl, rfl⟩, fun j _ => by rw [e7, hset_oa (by decide)], fun j _ => by rw [e7, hset_oa (by decide)]⟩⟩
      have := hE.2.2 (by omega)
      have := hE.1.2.1 d (by omega) (by omega)
      omega
    | succ m ihm =>
      intro h f c q e lf bf ts f0 fm h91 inc cb ind fit yes no
      have v := h91 (by omega)
      have pm := bf.2.2.2.1
      -- going on after f
      have next : ∀ h2, FrD d h h2 → h2 91 d = f → (∀ c', Ext p 81 (T81 p P) (S81 p P) (sz P 2) (prs p P).1 n d f c c' → c' d ≠ f) → S l MX9_isDoneBy (D0 + 3 + 1, 0, 0, 0, 0) 20 [some (vR 75), some (vI n), some (vI d)] [] G0 h2 Q := fun h2 fr w ne => by
        have sub : ∀ c', Ext p 81 (T81 p P) (S81 p P) (sz P 2) (prs p P).1 n d f c c' → Ext p 81 (T81 p P) (S81 p P) (sz P 2) (prs p P).1 n d (f + 1) c c' := fun c' hE => ⟨hE.1, hE.2.1, fun z => by have := hE.2.2 z; have := ne c' hE; omega⟩
        refine ihm h2 (f + 1) c q e lf (bf.fr fr) (ts.fr fr s2.2) (by omega) (by omega) (fun _ => by omega) inc (fun s s0 s1 => ⟨(cb s s0 s1).1, by have := (cb s s0 s1).2; omega⟩) ind fit (fun h' c' hE mn ch g => yes h' c' ⟨hE.1, hE.2.1, fun z => by have := hE.2.2 z; omega⟩ (fun c'' hE' => mn c'' (sub c'' hE')) ch ((fr.le (Nat.zero_le _)).tr g)) (fun nE h' g => no (fun c' hE => nE c' (sub c' hE)) h' (fr.tr g))
      refine vX9_isDoneBy_20 75 n d ⟨⟨by omega, by omega⟩, fun z => by omega, fun _ => ⟨⟨by omega, by omega⟩, fun _ => ?_, fun z => by omega⟩⟩
      simp only [bf.1.ch, v]
      refine ⟨t75, i91 (by omega) (by omega), fun h7 e7 => ?_⟩
      have a75 : h7 75 = h 75 := by rw [e7, hset_oa (by decide)]
      have w : h7 91 d = f := by rw [e7, hset_s]; omega
      have fr7 : FrD d h h7 := ⟨fun b _ b2 _ _ _ => by rw [e7, hset_oa b2], fun s hs => by rw [e7, hset_oj (by omega), hset_oa (by decide)]; exact ⟨rfl, rfl⟩, fun j _ => by rw [e7, hset_oa (by decide)], fun j _ => by rw [e7, hset_oa (by decide)]⟩
      simp only [a75, bf.1.ch, w, pm]
      refine ⟨i91 (by omega) (by omega), ⟨by omega, by omega⟩, ⟨by omega, by omega⟩, fun _ => ?_, fun z => by omega⟩
      have bf7 := bf.fr fr7
      have ts7 := ts.fr fr7 s2.2
      have tD : ∀ i : Int, 0 ≤ i → i < 81 → isD p (T81 p P f i) := fun _ _ _ => T81_D hp
      obtain ⟨_, _, _, mV, mL, m5, m6⟩ := id ts
      refine rX9_lay hp hW bf7 ts7 (by omega) w f0 (by omega) K60 ?_ ?_
      · intro z h' g g91
        refine ⟨by decide, fun _ => next h' (fr7.tr g) (by rw [g91]; exact w) (fun c' hE => no_Sp hp (by omega) ?_ hE), fun z => absurd rfl z⟩
        exact Sp_lin ((rd_sp hp mV tD).1 z) m6
      · intro col h' c0 c1 nz g g91 g94 g93 g92
        refine ⟨by decide, fun z => absurd z (by decide), fun _ => ⟨t75, ?_⟩⟩
        have bf' := bf7.fr g
        have up_c : ∀ s : Int, 0 ≤ s → s < d → up1 c d f s = c s := fun s s0 s1 => up1_o (by omega)
        obtain ⟨k1, k2, k3, k4, k5⟩ := lvl (T := fun s => T81 p P (up1 c d f s)) (t := T81 p P f) hp mV mL tD (fun s s0 s1 => by rw [up_c s s0 s1]; exact m5 s s0 s1) (fun s s0 s1 => Sp_ext (m6 s s0 s1) (fun s' i s0' s1' _ _ => by rw [up_c s' s0' s1'])) c0 c1 nz (by rw [up1_s])
        refine rX9_rankLeft (lf := nl p lf (nv p e q (T81 p P f) d col) col) bf'.1 bf'.2.1 hp (bf'.2.2.1 2 (by decide) (by decide)) s2 (by omega) (by omega) (fun k x k0 k1' x0 x1 => ⟨g92 k x k0 k1' x0 x1, (k2 k k0 k1').1 x x0 x1⟩) ?_
        intro ρ h19 rk rn f19
        have fr19 : FrD d h h19 := (fr7.tr g).tr (FrD.o88 f19)
        have w19 : h19 91 d = f := by rw [f19 91 (by decide), g91]; exact w
        have cr := crit (n := n) hp k1 k2 k3 k4 rk
        refine ⟨⟨by omega, by omega⟩, ⟨by omega, by omega⟩, fun hlt => next h19 fr19 w19 (fun c' hE ec => ?_), fun hle => ?_⟩
        · have hE2 := Ext_up hE ec
          obtain ⟨w', w1, w2⟩ := hE.1.2.2.2
          have := cr.1 ⟨w', fun s s0 s1 => by have := w1 s s0 (by omega); rw [hE2.2.1 s s0 s1] at this; exact this, w2⟩
          omega
        · have ts19 : TSt h19 p P (d + 1) (up1 c d f) (up1 q d col) (up2 e d (nv p e q (T81 p P f) d col)) (nl p lf (nv p e q (T81 p P f) d col) col) := by
            refine ⟨fun s s0 s1 => ?_, fun s x s0 s1 x0 x1 => ?_, fun k x k0 k1' x0 x1 => ?_, k1, k2, k3, k4⟩
            · by_cases es : s = (d : Int)
              · rw [es, up1_s, up1_s, w19, f19 94 (by decide), g94]; exact ⟨rfl, rfl⟩
              · rw [up1_o es, up1_o es, (fr19.2.1 s (by omega)).1, (fr19.2.1 s (by omega)).2]; exact ts.1 s s0 (by omega)
            · by_cases es : s = (d : Int)
              · rw [es, up2_s, f19 93 (by decide)]; exact g93 x x0 x1
              · rw [up2_o es, fr19.2.2.1 _ (by omega)]; exact ts.2.1 s x s0 (by omega) x0 x1
            · rw [f19 92 (by decide), e2]; exact g92 k x k0 k1' x0 x1
          -- one level deeper
          have deep : ∀ h30, FrD (d + 1) h19 h30 → (d + 1 < n → h30 91 ((d : Int) + 1) = f) → S l MX9_isDoneBy (D0 + 3 + 1, 0, 0, 0, 0) 20 [some (vR 75), some (vI n), some (vI ((d : Int) + 1))] [] G0 h30 Q := fun h30 f30 w30 => by
            have fr30 : FrD d h h30 := fr19.tr (f30.le (Nat.le_succ _))
            have key := ihk (d + 1) (by omega) m h30 (f + 1) (up1 c d f) (up1 q d col) _ _ (bf.fr fr30) (ts19.fr f30 s2.2) (by omega) (by omega) (fun z => by rw [e2, w30 z]; omega) (fun s s0 s1 => ?_) (fun s s0 s1 => ?_) (Ind_s hp (Ind_ext ind (fun s i s0 s1 _ _ => by rw [up_c s s0 s1])) ?_) (cr.2 (by omega)) (fun h' c' hE mn ch g' => ?_) (fun nE h' g' => ?_)
            · rw [e2] at key; exact key
            · by_cases es : s + 1 = (d : Int)
              · rw [es, up1_s, up_c s s0 (by omega)]; exact (cb s s0 (by omega)).2
              · rw [up_c s s0 (by omega), up_c _ (by omega) (by omega)]; exact inc s s0 (by omega)
            · by_cases es : s = (d : Int)
              · rw [es, up1_s]; omega
              · rw [up1_o es]; have := cb s s0 (by omega); omega
            · show ¬ Sp p 81 d (fun s => T81 p P (up1 c d f s)) (T81 p P (up1 c d f d))
              rw [up1_s]; exact k5
            · obtain ⟨hE0, ec⟩ := Ext_dn (by omega) hE
              refine yes h' c' hE0 (fun c'' hE'' => ?_) ch ((fr30.le (Nat.zero_le _)).tr g')
              by_cases ez : c'' d = f
              · exact mn c'' (Ext_up hE'' ez)
              · have := hE''.2.2 (by omega)
                exact .inr ⟨d, by omega, by omega, fun i i0 i1 => by rw [hE0.2.1 i i0 i1, hE''.2.1 i i0 i1], by omega⟩
            · have := next h' (fr30.tr (g'.le (Nat.le_succ _))) (by rw [(g'.2.1 d (by omega)).1, (f30.2.1 d (by omega)).1]; exact w19) (fun c' hE ec => nE c' (Ext_up hE ec))
              rw [e2, show (d : Int) + 1 - 1 = d by omega]
              exact this
          have b75 : h19 75 = h 75 := fr19.1 75 (by decide) (by decide) (by decide) (by decide) (by decide)
          refine ⟨⟨by omega, by omega⟩, ⟨by omega, by omega⟩, fun hge => deep h19 FrD.rf (fun z => by omega), fun hlt => ?_⟩
          simp only [b75, bf.1.ch]
          refine ⟨t75, i91 (by omega) (by omega), i91 (by omega) (by omega), fun h30 e30 => deep h30 ⟨fun b _ b2 _ _ _ => by rw [e30, hset_oa b2], fun s hs => by rw [e30, hset_oj (by omega), hset_oa (by decide)]; exact ⟨rfl, rfl⟩, fun j _ => by rw [e30, hset_oa (by decide)], fun j _ => by rw [e30, hset_oa (by decide)]⟩ (fun _ => by rw [e30, hset_s, show (d : Int) + 1 - 1 = d by omega]; exact w19)⟩
end Sea4
