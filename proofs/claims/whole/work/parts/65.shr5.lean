theorem cnt_ex {p a k : Int} {M : Int → Int → Int} : ∀ T : Nat, 1 ≤ cnt p M a k T → ∃ t : Int, 0 ≤ t ∧ t < T ∧ hs p (M t) a k
  | 0, h => by
    have : (1 : Int) ≤ 0 := h
    omega
  | T + 1, h => by
    have h' : 1 ≤ cnt p M a k T + (if hs p (M T) a k then 1 else 0) := h
    by_cases c : hs p (M T) a k
    · exact ⟨T, by omega, by omega, c⟩
    · rw [if_neg c] at h'
      obtain ⟨t, t0, t1, e⟩ := cnt_ex (p := p) (a := a) (k := k) (M := M) T (by omega)
      exact ⟨t, t0, by omega, e⟩
theorem shm_no {p a k Cn : Int} {m : Int → Int} (h : ¬ hs p m a k) {c : Int} (hc : c < Cn) : shm p m a k Cn c = m c := by
  unfold shm
  rw [if_neg (by omega), if_neg (fun z => h z.1)]
theorem shm_C {p a k Cn : Int} {m : Int → Int} : shm p m a k Cn Cn = if hs p m a k then m a else 0 := by
  unfold shm
  rw [if_pos rfl]
theorem shm_y {p a k Cn : Int} {m : Int → Int} (h : hs p m a k) {c : Int} (hc : c < Cn) : shm p m a k Cn c = up1 (up1 m (k / 7) 0) a 0 c := by
  unfold shm
  rw [if_neg (by omega)]
  by_cases e : c = a
  · rw [if_pos ⟨h, .inl e⟩, e, up1_s]
  · rw [up1_o e]
    by_cases e2 : c = k / 7
    · rw [if_pos ⟨h, .inr e2⟩, e2, up1_s]
    · rw [if_neg (fun z => z.2.elim e e2), up1_o e2]
section Shr5
variable {l : Launch} {d : Nat} {h : HP} {p C T a : Int} {P : PS} {M : Int → Int → Int} {Q : Int → GS → HP → Prop}
set_option maxHeartbeats 1000000 in
theorem rX7_takeBest {A K n : Int} (hg : Gd h p) (hS : SH h p T C M) (hC : 0 ≤ C ∧ C ≤ 48) (hT : 0 ≤ T ∧ T ≤ 40) (e8 : h 70 8 = A) (e9 : h 70 9 = K) (hB : isBK p M T.toNat C A K n) (hQ : ∀ h', SH h' p T (C + 1) (fun t => shm p (M t) A K C) → FrH h h' → Q 0 G0 h') : R l MX7_takeBest (d + 2) 0 0 [vR 70] G0 h Q := by
  obtain ⟨hr, h5, h6, hL⟩ := hS
  obtain ⟨b1, b2, b3, b4, b5, b6, _⟩ := hB
  have hAK : A < K / 7 := by
    obtain ⟨t, _, _, e⟩ := cnt_ex (p := p) (a := A) (k := K) (M := M) T.toNat (by omega)
    exact e.2.1
  refine eX7_takeBest 70 (vX7_takeBest_0 70 ?_)
  refine lp_up (σ := HP) (fun t hh => S l MX7_takeBest (d + 1 + 1, 0, 0, 0, 0) 2 [some (vR 70), some (vI t), none, none, none] [] G0 hh Q) (fun t hh => 0 ≤ t ∧ (∀ b, b ≠ 71 → b ≠ 72 → b ≠ 73 → hh b = h b) ∧ (∀ t', t ≤ t' → t' < T → LRh hh t' C p (M t')) ∧ ∀ t', 0 ≤ t' → t' < t → LRh hh t' (C + 1) p (shm p (M t') A K C)) T ?_ ?_ 0 h hT.1 ⟨by omega, fun _ _ _ _ => rfl, fun t' t0 t1 => hL t' t0 t1, fun t' t0 t1 => by omega⟩
  · intro t hh htT ⟨t0, fr, fa, fb⟩ ih
    have k70 := fr 70 (by decide) (by decide) (by decide)
    have kr : HR hh := hr.fr (fun j _ _ => by rw [k70])
    have kg : Gd hh p := hg.lo (fun b b0 b1 => fr b (by omega) (by omega) (by omega))
    have kL := fa t (by omega) htT
    have l9 := kL.1
    have kt := fun (z : ¬ hs p (M t) A K) => ih hh ⟨by omega, fr, fun t' t0' t1' => fa t' (by omega) t1', fun t' t0' t1' => by
      by_cases e : t' = t
      · rw [e]
        exact LRr.nxt (LRr.ext kL (fun _ _ _ => ⟨rfl, rfl⟩) (fun c c0 c1 => shm_no z c1)) (by rw [shm_C, if_neg z])
      · exact fb t' t0' (by omega)⟩
    refine vX7_takeBest_2 70 t ?_
    simp only [k70, h5, e8, e9]
    refine ⟨by decide +kernel, ⟨by omega, by omega⟩, ⟨by omega, by omega⟩, fun c => by omega, fun _ => rX7_indexOf kr kL (by omega) t0 (by omega) b2 b3 (fun i i0 i1 ei hm => ?_) (fun hm => ?_)⟩
    · simp only [k70, e9]
      refine ⟨by decide +kernel, ⟨⟨by omega, by omega⟩, by decide, by decide⟩, rX7_indexOf kr kL (by omega) t0 (by omega) (by omega) (by omega) (fun j j0 j1 ej hm2 => ?_) (fun hm2 => ?_)⟩
      · refine ⟨⟨by omega, by omega⟩, fun z => by omega, fun _ => ⟨⟨by omega, by omega⟩, fun z => by omega, fun _ => ⟨by decide +kernel, rX7_keyOf kg kr kL t0 (by omega) i0 i1 j0 j1 ?_⟩⟩⟩
        have hij : i < j := by
          by_cases e : j = i
          · rw [e] at ej; omega
          · by_cases e2 : j < i
            · have := lrh_m kL j0 e2 i1
              omega
            · omega
        have li := lrh_b kL i0 i1
        have lj := lrh_b kL j0 j1
        have kb : (hh 71 (9 * t + j) * 7 + hh 72 (9 * t + j) * iv p (hh 72 (9 * t + i)) % p) / 7 = hh 71 (9 * t + j) ∧ (hh 71 (9 * t + j) * 7 + hh 72 (9 * t + j) * iv p (hh 72 (9 * t + i)) % p) % 7 = hh 72 (9 * t + j) * iv p (hh 72 (9 * t + i)) % p ∧ 0 ≤ hh 71 (9 * t + j) * 7 + hh 72 (9 * t + j) * iv p (hh 72 (9 * t + i)) % p ∧ hh 71 (9 * t + j) * 7 + hh 72 (9 * t + j) * iv p (hh 72 (9 * t + i)) % p < 7 * C := kx_b (i := i) hg.1 kL j0 j1
        have mi : M t A = hh 72 (9 * t + i) := by rw [← ei]; exact li.2.2.2.2
        have mj : M t (K / 7) = hh 72 (9 * t + j) := by rw [← ej]; exact lj.2.2.2.2
        have hiff : hh 71 (9 * t + j) * 7 + hh 72 (9 * t + j) * iv p (hh 72 (9 * t + i)) % p = K ↔ hs p (M t) A K := by
          constructor
          · intro e
            refine ⟨hm, hAK, hm2, ?_⟩
            rw [mi, mj]
            rw [← kb.2.1, e]
          · intro ⟨_, _, _, e⟩
            rw [mi, mj] at e
            rw [e, ej]; omega
        have kb3 : 0 ≤ hh 71 (9 * t + j) * 7 + hh 72 (9 * t + j) * iv p (hh 72 (9 * t + i)) % p ∧ hh 71 (9 * t + j) * 7 + hh 72 (9 * t + j) * iv p (hh 72 (9 * t + i)) % p < 7 * C := kb.2.2
        simp only [k70, e9, hr.2.2.1]
        refine ⟨by decide +kernel, ⟨by omega, by omega⟩, ⟨by omega, by omega⟩, fun z => kt (fun q => z (hiff.2 q)), fun z => ⟨ia71 (.inr rfl) (by omega) (by omega), ?_⟩⟩
        have hH := hiff.1 z
        refine rX7_cut kr t0 (by omega) (by omega) j0 j1 (fun h29 c1 c2 c3 c4 => ⟨by decide +kernel, ?_⟩)
        have r29 : HR h29 := kr.fr (fun q _ _ => by rw [c1 70 (by decide) (by decide) (by decide)])
        have n29 : h29 73 t = hh 73 t - 1 := by rw [c4, if_pos rfl]
        have L29 : LRh h29 t C p (up1 (M t) (K / 7) 0) := by
          show LRr _ _ (h29 73 t) C p _
          rw [n29]
          have := LRr.cut kL j0 j1
          rw [ej] at this
          exact LRr.ext this (fun x x0 x1 => c2 x x0 x1) (fun _ _ _ => rfl)
        have s29 : sk j i = i := by unfold sk; rw [if_neg (by omega)]
        have a29 : h29 71 (9 * t + i) = A := by rw [(c2 i i0 (by omega)).1, s29]; exact ei
        refine rX7_cut r29 t0 (by omega) (by omega) i0 (by omega) (fun h32 d1 d2 d3 d4 => ⟨by decide +kernel, ?_⟩)
        have r32 : HR h32 := r29.fr (fun q _ _ => by rw [d1 70 (by decide) (by decide) (by decide)])
        have n32 : h32 73 t = hh 73 t - 2 := by rw [d4, if_pos rfl, n29]; omega
        have L32 : LRh h32 t C p (shm p (M t) A K C) := by
          show LRr _ _ (h32 73 t) C p _
          have := LRr.cut L29 i0 (show i < h29 73 t by omega)
          rw [a29, n29] at this
          rw [n32, show hh 73 t - 2 = hh 73 t - 1 - 1 by omega]
          exact LRr.ext this (fun x x0 x1 => d2 x x0 (by omega)) (fun c c0 c1 => shm_y hH c1)
        have e6 : h32 70 6 = C := by rw [d1 70 (by decide) (by decide) (by decide), c1 70 (by decide) (by decide) (by decide), k70]; exact h6
        rw [e6]
        refine rX7_append r32 t0 (by omega) (by omega) (fun h37 g1 g2 g3 g4 => ih h37 ⟨by omega, fun b x1 x2 x3 => by rw [g1 b x1 x2 x3, d1 b x1 x2 x3, c1 b x1 x2 x3]; exact fr b x1 x2 x3, fun t' t0' t1' => ?_, fun t' t0' t1' => ?_⟩)
        · refine lrh_fr (fa t' (by omega) t1') (fun x x0 x9 => ?_) ?_
          · rw [g2, g3, if_neg (by omega), if_neg (by omega), (d3 _ (by omega)).1, (d3 _ (by omega)).2, (c3 _ (by omega)).1, (c3 _ (by omega)).2]
            exact ⟨rfl, rfl⟩
          · rw [g4, if_neg (by omega), d4, if_neg (by omega), c4, if_neg (by omega)]
        · by_cases e : t' = t
          · rw [e]
            show LRr _ _ (h37 73 t) (C + 1) p _
            rw [g4 t, if_pos rfl]
            have vC : shm p (M t) A K C C = hh 72 (9 * t + i) := by rw [shm_C, if_pos hH, mi]
            have := LRr.app L32 hC.1 (by omega) (by rw [vC]; exact ⟨li.2.2.1, li.2.2.2.1⟩)
            rw [vC] at this
            refine LRr.ext this (fun x x0 x1 => ?_) (fun _ _ _ => rfl)
            simp only [g2, g3]
            by_cases ex : x = h32 73 t
            · rw [if_pos (by omega), if_pos (by omega), ex, up1_s, up1_s]; exact ⟨rfl, rfl⟩
            · rw [if_neg (by omega), if_neg (by omega), up1_o ex, up1_o ex]; exact ⟨rfl, rfl⟩
          · refine lrh_fr (fb t' t0' (by omega)) (fun x x0 x9 => ?_) ?_
            · rw [g2, g3, if_neg (by omega), if_neg (by omega), (d3 _ (by omega)).1, (d3 _ (by omega)).2, (c3 _ (by omega)).1, (c3 _ (by omega)).2]
              exact ⟨rfl, rfl⟩
            · rw [g4, if_neg (by omega), d4, if_neg (by omega), c4, if_neg (by omega)]
      · exact ⟨⟨by omega, by omega⟩, fun z => by omega, fun _ => ⟨⟨by omega, by omega⟩, fun _ => kt (fun q => q.2.2.1 hm2), fun z => absurd rfl z⟩⟩
    · simp only [k70, e9]
      refine ⟨by decide +kernel, ⟨⟨by omega, by omega⟩, by decide, by decide⟩, rX7_indexOf kr kL (by omega) t0 (by omega) (by omega) (by omega) (fun j j0 j1 ej hm2 => ?_) (fun hm2 => ?_)⟩
      · exact ⟨⟨by omega, by omega⟩, fun _ => kt (fun q => q.1 hm), fun z => absurd rfl z⟩
      · exact ⟨⟨by omega, by omega⟩, fun _ => kt (fun q => q.1 hm), fun z => absurd rfl z⟩
  · intro hh ⟨t0, fr, fa, fb⟩
    have k70 := fr 70 (by decide) (by decide) (by decide)
    refine vX7_takeBest_2 70 T ?_
    simp only [k70, h5, h6]
    refine ⟨by decide +kernel, ⟨by omega, by omega⟩, ⟨by omega, by omega⟩, fun _ h5' e5' => hQ h5' ⟨?_, ?_, ?_, fun t t0' t1' => ?_⟩ (fun b hb => ?_), fun c => by omega⟩
    · exact hr.fr (fun j _ _ => by rw [e5', hset_oj (by omega), k70])
    · rw [e5', hset_oj (by decide), k70]; exact h5
    · rw [e5', hset_s]
    · exact lrh_fr (fb t t0' t1') (fun x _ _ => by rw [e5', hset_oa (by decide), hset_oa (by decide)]; exact ⟨rfl, rfl⟩) (by rw [e5', hset_oa (by decide)])
    · rw [e5', hset_oa (by omega)]; exact fr b (by omega) (by omega) (by omega)
theorem rX7_sharedLoop (hT : 0 ≤ T ∧ T ≤ 40) : ∀ (i : Nat) (M : Int → Int → Int) (C s : Int) (h : HP), Gd h p → SH h p T C M → s + i = 40 → 0 ≤ s → 0 ≤ C → C ≤ 9 + s → (∀ r h', shR p T.toNat i M C s r → FrH h h' → HR h' → Q r G0 h') → S l MX7_sharedSums (d + 3 + 1, 0, 0, 0, 0) 8 [some (vR 70), none, none, some (vI s)] [] G0 h Q
  | 0, M, C, s, h, hg, sh, hs40, s0, C0, C9, hQ => vX7_sharedSums_8 70 s ⟨⟨by omega, by omega⟩, fun _ => ⟨by decide +kernel, rX7_sumsOfLists sh C0 hT (hQ _ h rfl (fun _ _ => rfl) sh.1)⟩, fun c => by omega⟩
  | i + 1, M, C, s, h, hg, sh, hs40, s0, C0, C9, hQ => by
    refine vX7_sharedSums_8 70 s ⟨⟨by omega, by omega⟩, fun c => by omega, fun _ => ⟨by decide +kernel, rX7_seekBest hg sh ⟨C0, by omega⟩ hT (fun h' sh' f no => ⟨⟨by decide, by decide⟩, fun _ => ⟨by decide +kernel, rX7_sumsOfLists sh' C0 hT (hQ _ h' (.inl ⟨no, rfl⟩) f sh'.1)⟩, fun z => absurd rfl z⟩) (fun h' sh' f bk => ⟨⟨by decide, by decide⟩, fun z => by omega, fun _ => ⟨by decide +kernel, rX7_takeBest (f.g hg) sh' ⟨C0, by omega⟩ hT rfl rfl bk (fun h'' sh'' f' => ?_)⟩⟩)⟩⟩
    exact rX7_sharedLoop hT i _ (C + 1) (s + 1) h'' (f'.g (f.g hg)) sh'' (by omega) (by omega) (by omega) (by omega) (fun r h3 hR f3 r3 => hQ r h3 (.inr ⟨_, _, _, bk, hR⟩) ((f.tr f').tr f3) r3)
theorem rX7_sharedSums {w : Int} (hg : Gd h p) (hr : HR h) (ha : isP a) (hX : XP h a p P) (hW : WF p P) (w0 : 0 ≤ w) (w3 : w < 3) (hQ : ∀ r h', shR p (tm P).toNat 40 (fun t => D p (rw' P (40 * w + t))) (sz P w) 0 r → FrH h h' → HR h' → Q r G0 h') : R l MX7_sharedSums (d + 4) 0 0 [vR 70, vR a, vI w] G0 h Q := by
  have hs := hW.1 w w0 w3
  refine eX7_sharedSums 70 a w (vX7_sharedSums_0 70 a w ⟨by decide +kernel, rX7_load hg hr ha hX hW w0 w3 (fun h' sh f => ?_)⟩)
  exact rX7_sharedLoop hW.2.2.1 40 _ _ 0 h' (f.g hg) sh (by omega) (by omega) (by omega) (by omega) (fun r h'' hR f' r' => hQ r h'' hR (f.tr f') r')
end Shr5
