theorem hset_up {h : HP} {a j v : Int} : hset h a j v a = up1 (h a) j v := by
  funext x
  unfold hset up1
  by_cases e : x = j
  · rw [if_pos ⟨rfl, e⟩, if_pos e]
  · rw [if_neg (fun z => e z.2), if_neg e]
theorem kx_b {cf vf m : Int → Int} {L C p i j : Int} (hp : okp p) (hL : LRr cf vf L C p m) (j0 : 0 ≤ j) (j1 : j < L) : (cf j * 7 + vf j * iv p (vf i) % p) / 7 = cf j ∧ (cf j * 7 + vf j * iv p (vf i) % p) % 7 = vf j * iv p (vf i) % p ∧ 0 ≤ cf j * 7 + vf j * iv p (vf i) % p ∧ cf j * 7 + vf j * iv p (vf i) % p < 7 * C := by
  have hb := okp_b hp
  have hj := hL.2.1 j j0 j1
  have hr := md_D (x := vf j * iv p (vf i)) hp
  generalize vf j * iv p (vf i) % p = r at *
  omega
theorem kx_hs {cf vf m : Int → Int} {L C p i k : Int} (hp : okp p) (hL : LRr cf vf L C p m) (i0 : 0 ≤ i) (i1 : i < L) (k1 : k < 7 * C) : hs p m (cf i) k ↔ ∃ j, i < j ∧ j < L ∧ cf j * 7 + vf j * iv p (vf i) % p = k := by
  have hi := hL.2.1 i i0 i1
  constructor
  · intro ⟨h1, h2, h3, h4⟩
    obtain ⟨j, j0, j1, ej⟩ := hL.2.2.2 (k / 7) (by omega) (by omega) h3
    have hij : i < j := by
      by_cases e : j = i
      · rw [e] at ej; omega
      · by_cases e2 : j < i
        · have := hL.2.2.1 j i j0 e2 i1; omega
        · omega
    have hj := hL.2.1 j j0 j1
    refine ⟨j, hij, j1, ?_⟩
    rw [← ej, hj.2.2.2.2, hi.2.2.2.2] at h4
    rw [h4]; omega
  · intro ⟨j, hij, j1, e⟩
    have hj := hL.2.1 j (by omega) j1
    have kb := kx_b (i := i) hp hL (show 0 ≤ j by omega) j1
    rw [e] at kb
    refine ⟨by rw [hi.2.2.2.2]; omega, by rw [kb.1]; exact hL.2.2.1 i j i0 hij j1, by rw [kb.1, hj.2.2.2.2]; omega, by rw [kb.1, hj.2.2.2.2, hi.2.2.2.2, kb.2.1]⟩
theorem TBI_b {f : Int → Int} {N a pc pa pk bc ba bk : Int} (h : TBI f N a pc pa pk bc ba bk) (hpc : 0 ≤ pc ∧ pc ≤ 41) (hpa : -1 ≤ pa ∧ pa ≤ 49) (hpk : -1 ≤ pk ∧ pk ≤ 343) (ha : 0 ≤ a ∧ a ≤ 49) (hN : N ≤ 343) (hf : ∀ k, 0 ≤ k → k < N → f k ≤ 41) : (0 ≤ bc ∧ bc ≤ 41) ∧ (-1 ≤ ba ∧ ba ≤ 49) ∧ (-1 ≤ bk ∧ bk ≤ 343) := by
  rcases h.2 with h2 | h2
  · omega
  · have := hf bk h2.2.2.1 h2.2.2.2.1
    omega
section Shr4
variable {l : Launch} {d : Nat} {h : HP} {p C T : Int} {m : Int → Int} {M : Int → Int → Int} {Q : Int → GS → HP → Prop}
set_option maxHeartbeats 1000000 in
theorem rX7_tallyBehind {t i A pc pa pk : Int} (hg : Gd h p) (hr : HR h) (hL : LRh h t C p m) (C49 : C ≤ 49) (t0 : 0 ≤ t) (t1 : t < 40) (i0 : 0 ≤ i) (i1 : i < h 73 t) (eA : h 71 (9 * t + i) = A) (hn : ∀ k, 0 ≤ k → k < 7 * C → 0 ≤ h 74 k ∧ h 74 k ≤ 40) (hpc : 0 ≤ pc ∧ pc ≤ 41) (hpa : -1 ≤ pa ∧ pa ≤ 49) (hpk : -1 ≤ pk ∧ pk ≤ 343) (hne : pa ≠ A) (hT : TBI (h 74) (7 * C) A pc pa pk (h 70 7) (h 70 8) (h 70 9))
    (hQ : ∀ h', (∀ b, b ≠ 70 → b ≠ 74 → h' b = h b) → (∀ j, j < 7 → h' 70 j = h 70 j) → TBI (h' 74) (7 * C) A pc pa pk (h' 70 7) (h' 70 8) (h' 70 9) → (∀ k, 0 ≤ k → k < 7 * C → h' 74 k = h 74 k + (if hs p m A k then 1 else 0)) → Q 0 G0 h') : R l MX7_tallyBehind (d + 1) 0 0 [vR 70, vI t, vI (9 * t + i)] G0 h Q := by
  have h9 := hL.1
  have hi := lrh_b hL i0 i1
  rw [eA] at hi
  refine eX7_tallyBehind 70 t _ (vX7_tallyBehind_0 70 t _ ?_)
  simp only [hr.2.2.2.1]
  refine ⟨by decide +kernel, ia73 t0 t1, ?_⟩
  refine lp_up (σ := HP) (fun x hh => S l MX7_tallyBehind (d + 1, 0, 0, 0, 0) 17 [some (vR 70), none, some (vI (9 * t + i)), some (vI (9 * t + h 73 t)), some (vI x), none, none] [] G0 hh Q) (fun x hh => 9 * t + i + 1 ≤ x ∧ (∀ b, b ≠ 70 → b ≠ 74 → hh b = h b) ∧ (∀ j, j < 7 → hh 70 j = h 70 j) ∧ TBI (hh 74) (7 * C) A pc pa pk (hh 70 7) (hh 70 8) (hh 70 9) ∧ ∀ k, 0 ≤ k → k < 7 * C → ((∃ j, i < j ∧ 9 * t + j < x ∧ h 71 (9 * t + j) * 7 + h 72 (9 * t + j) * iv p (h 72 (9 * t + i)) % p = k) ∧ hh 74 k = h 74 k + 1) ∨ ((∀ j, i < j → 9 * t + j < x → h 71 (9 * t + j) * 7 + h 72 (9 * t + j) * iv p (h 72 (9 * t + i)) % p ≠ k) ∧ hh 74 k = h 74 k)) (9 * t + h 73 t) ?_ ?_ (9 * t + i + 1) h (by omega) ⟨by omega, fun _ _ _ => rfl, fun _ _ => rfl, hT, fun k k0 k1 => .inr ⟨fun j j0 j1 => by omega, rfl⟩⟩
  · intro x hh hx ⟨x0, fr, fr7, tb, tl⟩ ih
    obtain ⟨j, rfl⟩ : ∃ j, x = 9 * t + j := ⟨x - 9 * t, by omega⟩
    have kg : Gd hh p := hg.lo (fun b b0 b1 => fr b (by omega) (by omega))
    have kr : HR hh := hr.fr (fun j _ j4 => fr7 j (by omega))
    have k71 := fr 71 (by decide) (by decide)
    have k72 := fr 72 (by decide) (by decide)
    have k73 := fr 73 (by decide) (by decide)
    have kL : LRh hh t C p m := lrh_fr hL (fun i _ _ => by rw [k71, k72]; exact ⟨rfl, rfl⟩) (by rw [k73])
    have hj := lrh_b hL (i := j) (by omega) (by omega)
    have kb : (h 71 (9 * t + j) * 7 + h 72 (9 * t + j) * iv p (h 72 (9 * t + i)) % p) / 7 = h 71 (9 * t + j) ∧ (h 71 (9 * t + j) * 7 + h 72 (9 * t + j) * iv p (h 72 (9 * t + i)) % p) % 7 = h 72 (9 * t + j) * iv p (h 72 (9 * t + i)) % p ∧ 0 ≤ h 71 (9 * t + j) * 7 + h 72 (9 * t + j) * iv p (h 72 (9 * t + i)) % p ∧ h 71 (9 * t + j) * 7 + h 72 (9 * t + j) * iv p (h 72 (9 * t + i)) % p < 7 * C := kx_b (i := i) hg.1 hL (show 0 ≤ j by omega) (show j < h 73 t by omega)
    refine vX7_tallyBehind_17 70 (9 * t + i) (9 * t + h 73 t) (9 * t + j) ⟨⟨by omega, by omega⟩, ⟨by omega, by omega⟩, fun c => by omega, fun _ => ⟨by decide +kernel, rX7_keyOf kg kr kL t0 t1 i0 (by rw [k73]; exact i1) (by omega) (by rw [k73]; omega) ?_⟩⟩
    simp only [k71, k72, kr.2.2.2.2]
    obtain ⟨K, eK⟩ : ∃ K, K = h 71 (9 * t + j) * 7 + h 72 (9 * t + j) * iv p (h 72 (9 * t + i)) % p := ⟨_, rfl⟩
    rw [← eK]
    replace kb : K / 7 = h 71 (9 * t + j) ∧ 0 ≤ K ∧ K < 7 * C := by rw [eK]; exact ⟨kb.1, kb.2.2⟩
    refine ⟨by decide +kernel, ia74 kb.2.1 (by omega), fun h10 e10 => ?_⟩
    have f10 : ∀ b, b ≠ 74 → h10 b = hh b := fun b hb => by rw [e10, hset_oa hb]
    have g10 : h10 74 = up1 (hh 74) K (hh 74 K + 1) := by rw [e10, hset_up]
    have v10 : h10 74 K = hh 74 K + 1 := by rw [g10, up1_s]
    have tK : hh 74 K = h 74 K := by
      rcases tl K kb.2.1 kb.2.2 with ⟨⟨j', j1, j2, j3⟩, _⟩ | ⟨_, e⟩
      · exfalso
        have e1 : K / 7 = h 71 (9 * t + j') := by rw [← j3]; exact (kx_b (i := i) hg.1 hL (show 0 ≤ j' by omega) (show j' < h 73 t by omega)).1
        have e2 := lrh_m hL (i := j') (j := j) (by omega) (by omega) (by omega)
        omega
      · exact e
    have hf : ∀ k, 0 ≤ k → k < 7 * C → hh 74 k ≤ 41 := fun k k0 k1 => by
      have := hn k k0 k1
      rcases tl k k0 k1 with ⟨_, e⟩ | ⟨_, e⟩ <;> omega
    have bb := TBI_b tb hpc hpa hpk (by omega) (by omega) hf
    have nK := hn K kb.2.1 kb.2.2
    have go : ∀ h', (∀ b, b ≠ 70 → h' b = h10 b) → (∀ j, j < 7 → h' 70 j = h10 70 j) → TBI (up1 (hh 74) K (hh 74 K + 1)) (7 * C) A pc pa pk (h' 70 7) (h' 70 8) (h' 70 9) → S l MX7_tallyBehind (d + 1, 0, 0, 0, 0) 17 [some (vR 70), none, some (vI (9 * t + i)), some (vI (9 * t + h 73 t)), some (vI (9 * t + j + 1)), none, none] [] G0 h' Q := fun h' g1 g2 g3 => by
      refine ih h' ⟨by omega, fun b b0 b4 => by rw [g1 b b0, f10 b b4]; exact fr b b0 b4, fun q q7 => by rw [g2 q q7, f10 70 (by decide)]; exact fr7 q q7, by rw [g1 74 (by decide), g10]; exact g3, fun k k0 k1 => ?_⟩
      rw [g1 74 (by decide), g10]
      by_cases e : k = K
      · rw [e, up1_s, tK]
        exact .inl ⟨⟨j, by omega, by omega, eK.symm⟩, rfl⟩
      · rw [up1_o e]
        rcases tl k k0 k1 with ⟨⟨j', j1, j2, j3⟩, e3⟩ | ⟨q1, e3⟩
        · exact .inl ⟨⟨j', j1, by omega, j3⟩, e3⟩
        · refine .inr ⟨fun j' j1 j2 => ?_, e3⟩
          by_cases ej : j' = j
          · rw [ej, ← eK]; exact Ne.symm e
          · exact q1 j' j1 (by omega)
    have up : (hh 70 7 < hh 74 K + 1 ∨ (hh 74 K + 1 = hh 70 7 ∧ hh 70 8 = A ∧ K < hh 70 9)) → ∀ h19, h19 = hset h10 70 7 (h10 74 K) → inA G0 10 (h19 70 1) (9 * t + i) ∧ ∀ h21, h21 = hset h19 70 8 (h19 (h19 70 1) (9 * t + i)) → ∀ h22, h22 = hset h21 70 9 K → S l MX7_tallyBehind (d + 1, 0, 0, 0, 0) 17 [some (vR 70), none, some (vI (9 * t + i)), some (vI (9 * t + h 73 t)), some (vI (9 * t + j + 1)), none, none] [] G0 h22 Q := fun hgt h19 e19 => by
      have r19 : h19 70 1 = 71 := by rw [e19, hset_oj (by decide), f10 70 (by decide)]; exact kr.2.1
      have a19 : h19 71 (9 * t + i) = A := by rw [e19, hset_oa (by decide), f10 71 (by decide), k71]; exact eA
      rw [r19]
      refine ⟨ia71 (.inl rfl) (by omega) (by omega), fun h21 e21 h22 e22 => ?_⟩
      rw [a19] at e21
      refine go h22 (fun b hb => by rw [e22, hset_oa hb, e21, hset_oa hb, e19, hset_oa hb]) (fun q q7 => by rw [e22, hset_oj (by omega), e21, hset_oj (by omega), e19, hset_oj (by omega)]) ?_
      have e7 : h22 70 7 = hh 74 K + 1 := by rw [e22, hset_oj (by decide), e21, hset_oj (by decide), e19, hset_s, v10]
      have e8 : h22 70 8 = A := by rw [e22, hset_oj (by decide), e21, hset_s]
      have e9 : h22 70 9 = K := by rw [e22, hset_s]
      rw [e7, e8, e9]
      exact TBI_up tb kb.2.1 kb.2.2 hgt hne
    have no : hh 74 K + 1 ≤ hh 70 7 → (hh 70 8 = A → hh 74 K + 1 = hh 70 7 → hh 70 9 ≤ K) → S l MX7_tallyBehind (d + 1, 0, 0, 0, 0) 17 [some (vR 70), none, some (vI (9 * t + i)), some (vI (9 * t + h 73 t)), some (vI (9 * t + j + 1)), none, none] [] G0 h10 Q := fun q1 q2 => by
      refine go h10 (fun _ _ => rfl) (fun _ _ => rfl) ?_
      rw [f10 70 (by decide)]
      exact TBI_no tb q1 q2
    simp only [f10 70 (by decide), kr.2.1, kr.2.2.2.2, f10 71 (by decide), k71, eA]
    have ik : inA G0 10 74 K := ia74 kb.2.1 (by omega)
    have rk : inR (h10 74 K) := by rw [v10]; exact ⟨by omega, by omega⟩
    refine ⟨ia71 (.inl rfl) (by omega) (by omega), ⟨by omega, by omega⟩, ⟨by omega, by omega⟩, fun c1 => ⟨ik, rk, ⟨by omega, by omega⟩, fun c2 => up (.inl (by omega)), fun c2 => ⟨fun c3 => no (by omega) (fun z => absurd z c1), fun c3 => no (by omega) (fun z => absurd z c1)⟩⟩, fun c1 => ⟨⟨by omega, by omega⟩, ⟨by omega, by omega⟩, fun c2 => ⟨ik, rk, ⟨by omega, by omega⟩, fun c3 => up (.inl (by omega)), fun c3 => ⟨fun c4 => no (by omega) (fun _ _ => c2), fun c4 => no (by omega) (fun _ _ => c2)⟩⟩, fun c2 => ⟨ik, rk, ⟨by omega, by omega⟩, fun c3 => up (.inl (by omega)), fun c3 => ⟨fun c4 => no (by omega) (fun _ z => by omega), fun c4 => up (.inr ⟨by omega, c1, c2⟩)⟩⟩⟩⟩
  · intro hh ⟨x0, fr, fr7, tb, tl⟩
    refine vX7_tallyBehind_17 70 (9 * t + i) _ _ ⟨⟨by omega, by omega⟩, ⟨by omega, by omega⟩, fun _ => hQ hh fr fr7 tb (fun k k0 k1 => ?_), fun c => by omega⟩
    have ki : hs p m (h 71 (9 * t + i)) k ↔ ∃ j, i < j ∧ j < h 73 t ∧ h 71 (9 * t + j) * 7 + h 72 (9 * t + j) * iv p (h 72 (9 * t + i)) % p = k := kx_hs hg.1 hL i0 i1 k1
    rw [eA] at ki
    rcases tl k k0 k1 with ⟨⟨j, j1, j2, j3⟩, e3⟩ | ⟨q1, e3⟩
    · rw [if_pos (ki.2 ⟨j, j1, by omega, j3⟩)]; exact e3
    · rw [if_neg (fun z => by
        obtain ⟨j, j1, j2, j3⟩ := ki.1 z
        exact q1 j j1 (by omega) j3), e3, Int.add_zero]
theorem sh_fr {h' : HP} (hS : SH h p T C M) (f1 : ∀ b, b ≠ 70 → b ≠ 74 → h' b = h b) (f2 : ∀ j, j < 7 → h' 70 j = h 70 j) : SH h' p T C M := by
  obtain ⟨hr, h5, h6, hL⟩ := hS
  refine ⟨hr.fr (fun j _ j4 => f2 j (by omega)), by rw [f2 5 (by decide)]; exact h5, by rw [f2 6 (by decide)]; exact h6, fun t t0 t1 => lrh_fr (hL t t0 t1) (fun i _ _ => ?_) ?_⟩
  · rw [f1 71 (by decide) (by decide), f1 72 (by decide) (by decide)]; exact ⟨rfl, rfl⟩
  · rw [f1 73 (by decide) (by decide)]
theorem rX7_seekBest (hg : Gd h p) (hS : SH h p T C M) (hC : 0 ≤ C ∧ C ≤ 49) (hT : 0 ≤ T ∧ T ≤ 40) (h0 : ∀ h', SH h' p T C M → FrH h h' → noBK p M T.toNat C → Q 0 G0 h') (h1 : ∀ h', SH h' p T C M → FrH h h' → isBK p M T.toNat C (h' 70 8) (h' 70 9) (h' 70 7) → Q 1 G0 h') : R l MX7_seekBest (d + 3) 0 0 [vR 70] G0 h Q := by
  refine eX7_seekBest 70 (vX7_seekBest_0 70 ⟨by decide +kernel, fun h2 e2 h3 e3 h4 e4 => ?_⟩)
  have f4 : ∀ b, b ≠ 70 → h4 b = h b := fun b hb => by rw [e4, hset_oa hb, e3, hset_oa hb, e2, hset_oa hb]
  have a4 : ∀ j, j < 7 → h4 70 j = h 70 j := fun j hj => by rw [e4, hset_oj (by omega), e3, hset_oj (by omega), e2, hset_oj (by omega)]
  have g7 : h4 70 7 = 1 := by rw [e4, hset_oj (by decide), e3, hset_oj (by decide), e2, hset_s]
  have g8 : h4 70 8 = -1 := by rw [e4, hset_oj (by decide), e3, hset_s]
  have g9 : h4 70 9 = -1 := by rw [e4, hset_s]
  refine lp_up (σ := HP) (fun a hh => S l MX7_seekBest (d + 2 + 1, 0, 0, 0, 0) 17 [some (vR 70), some (vI a), none, none] [] G0 hh Q) (fun a hh => 0 ≤ a ∧ (∀ b, b ≠ 70 → b ≠ 74 → hh b = h b) ∧ (∀ j, j < 7 → hh 70 j = h 70 j) ∧ GB p M T.toNat C a (hh 70 7) (hh 70 8) (hh 70 9)) C ?_ ?_ 0 h4 hC.1 ⟨by omega, fun b b0 _ => f4 b b0, a4, ?_⟩
  · intro a hh haC ⟨a0, fr, fr7, gb⟩ ih
    have ks := sh_fr hS fr fr7
    refine vX7_seekBest_17 70 a ?_
    simp only [ks.2.2.1, ks.1.2.2.2.2]
    refine ⟨by decide +kernel, ⟨by omega, by omega⟩, ⟨by omega, by omega⟩, fun c => by omega, fun _ => rJ7_fillR (by decide +kernel) (by rw [show ln G0 74 = 343 by decide +kernel]; omega) (by omega) (by omega) (by rw [show ln G0 74 = 343 by decide +kernel]; omega) (fun h9 g1 g2 g3 => ?_)⟩
    have pb : (1 ≤ hh 70 7 ∧ hh 70 7 ≤ 40) ∧ (-1 ≤ hh 70 8 ∧ hh 70 8 < a) ∧ (-1 ≤ hh 70 9 ∧ hh 70 9 ≤ 343) := by
      rcases gb.2 with gb2 | gb2
      · omega
      · have := cnt_b (p := p) (a := hh 70 8) (k := hh 70 9) (M := M) T.toNat
        omega
    refine lp_up (σ := HP) (fun t hk => S l MX7_seekBest (d + 2 + 1, 0, 0, 0, 0) 43 [some (vR 70), some (vI a), some (vI t), none] [] G0 hk Q) (fun t hk => 0 ≤ t ∧ (∀ b, b ≠ 70 → b ≠ 74 → hk b = h b) ∧ (∀ j, j < 7 → hk 70 j = h 70 j) ∧ TBI (hk 74) (7 * C) a (hh 70 7) (hh 70 8) (hh 70 9) (hk 70 7) (hk 70 8) (hk 70 9) ∧ ∀ k, 0 ≤ k → k < 7 * C → hk 74 k = cnt p M a k t.toNat) T ?_ ?_ 0 h9 hT.1 ⟨by omega, fun b b0 b4 => by rw [g1 b b4]; exact fr b b0 b4, fun j hj => by rw [g1 70 (by decide)]; exact fr7 j hj, ?_, fun k k0 k1 => g2 k k0 (by omega)⟩
    · intro t hk htT ⟨t0, kf, kf7, kt, kc⟩ ih2
      have ks' := sh_fr hS kf kf7
      have kg : Gd hk p := hg.lo (fun b b0 b1 => kf b (by omega) (by omega))
      have kL := ks'.2.2.2 t t0 htT
      refine vX7_seekBest_43 70 a t ?_
      simp only [ks'.2.1]
      refine ⟨by decide +kernel, ⟨by omega, by omega⟩, ⟨by omega, by omega⟩, fun c => by omega, fun _ => rX7_indexOf ks'.1 kL hC.2 t0 (by omega) a0 haC (fun i i0 i1 ei hm => ?_) (fun hm => ?_)⟩
      · have l9 := kL.1
        refine ⟨⟨by omega, by omega⟩, fun z => by omega, fun _ => ⟨by decide +kernel, rX7_tallyBehind kg ks'.1 kL hC.2 t0 (by omega) i0 i1 ei (fun k k0 k1 => ?_) (by omega) (by omega) pb.2.2 (by omega) kt (fun h' q1 q2 q3 q4 => ih2 h' ⟨by omega, fun b b0 b4 => by rw [q1 b b0 b4]; exact kf b b0 b4, fun j hj => by rw [q2 j hj]; exact kf7 j hj, q3, fun k k0 k1 => ?_⟩)⟩⟩
        · rw [kc k k0 k1]
          have := cnt_b (p := p) (a := a) (k := k) (M := M) t.toNat
          omega
        · rw [q4 k k0 k1, kc k k0 k1, cnt_s t0]
      · refine ⟨⟨by omega, by omega⟩, fun _ => ih2 hk ⟨by omega, kf, kf7, kt, fun k k0 k1 => ?_⟩, fun z => absurd rfl z⟩
        rw [kc k k0 k1, cnt_s t0, if_neg (fun z => z.1 hm), Int.add_zero]
    · intro hk ⟨t0, kf, kf7, kt, kc⟩
      have ks' := sh_fr hS kf kf7
      refine vX7_seekBest_43 70 a T ?_
      simp only [ks'.2.1]
      exact ⟨by decide +kernel, ⟨by omega, by omega⟩, ⟨by omega, by omega⟩, fun _ => ih hk ⟨by omega, kf, kf7, GB_s gb a0 kc kt⟩, fun c => by omega⟩
    · rw [g1 70 (by decide)]
      exact ⟨fun k k0 k1 => by rw [g2 k k0 (by omega)]; omega, .inl ⟨rfl, rfl, rfl⟩⟩
  · intro hh ⟨a0, fr, fr7, gb⟩
    have ks := sh_fr hS fr fr7
    have ge := GB_end gb
    have fh : FrH h hh := fun b hb => fr b (by omega) (by omega)
    have b7 : 1 ≤ hh 70 7 ∧ hh 70 7 ≤ 40 := by
      rcases gb.2 with gb2 | gb2
      · omega
      · have := cnt_b (p := p) (a := hh 70 8) (k := hh 70 9) (M := M) T.toNat
        omega
    refine vX7_seekBest_17 70 C ?_
    simp only [ks.2.2.1]
    exact ⟨by decide +kernel, ⟨by omega, by omega⟩, ⟨by omega, by omega⟩, fun _ => ⟨⟨by omega, by omega⟩, fun c => h0 hh ks fh (ge.2 c), fun c => h1 hh ks fh (ge.1 c)⟩, fun c => by omega⟩
  · rw [g7, g8, g9]
    exact ⟨fun a k a0 a1 => by omega, .inl ⟨rfl, rfl, rfl⟩⟩
end Shr4
