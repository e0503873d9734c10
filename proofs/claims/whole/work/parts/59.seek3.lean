def BR (h : HP) (e : Int) : Prop := h e 0 = 1 ∧ h e 1 = e + 1 ∧ h e 2 = e + 2 ∧ h e 3 = e + 3
abbrev prs (p : Int) (P : PS) : PT := pfU p (PW p (sz P 1)).toNat (PW p (sz P 0)).toNat
abbrev tbl (p : Int) (P : PS) : Int → Int := fun t => pr p ((prs p P).2.1 t) ((prs p P).2.2 t) (sz P 1)
def CanC (p : Int) (P : PS) (n : Nat) (c : Int → Int) : Prop := OkC p 9 (DV p (tbl p P)) (DV p (slc p P)) (sz P 2) (prs p P).1 n n c
def isLst (p : Int) (P : PS) (n : Nat) (c : Int → Int) : Prop := CanC p P n c ∧ (∀ c', CanC p P n c' → LE n c c') ∧ ∀ m : Nat, m < n → ∀ c', ¬ CanC p P m c'
def FrS (h h' : HP) : Prop := ∀ b : Int, b < 51 ∨ 69 < b → h' b = h b
theorem XS.br {h : HP} {e p : Int} {n : Nat} {a : Int → Int} (hX : XS h e p n a) : BR h e := by
  obtain ⟨v, q, b, x1, _⟩ := hX
  exact x1.1
section Seek3
variable {l : Launch} {d : Nat} {h : HP} {p a : Int} {P : PS} {Q : Int → GS → HP → Prop}
theorem rX6_seek (hg : Gd h p) (ha : isP a) (sr : SR h) (hb1 : BR h 62) (hb2 : BR h 66) (hX : XP h a p P) (hW : WF p P)
    (hQ3 : 60 < shs p (sz P 0) * shs p (sz P 1) → Q (-3) G0 h)
    (hQ5 : shs p (sz P 0) * shs p (sz P 1) ≤ 60 → (∀ m : Nat, m ≤ 4 → ∀ c, ¬ CanC p P m c) → ∀ h', FrS h h' → SR h' → BR h' 62 → BR h' 66 → Q (-5) G0 h')
    (hQn : shs p (sz P 0) * shs p (sz P 1) ≤ 60 → ∀ (n : Nat) (c : Int → Int) h', n ≤ 4 → isLst p P n c → FrS h h' → SR h' → BR h' 62 → XS h' 66 p n (fun s => tbl p P (c s)) → (∀ s, 0 ≤ s → s < n → h' 61 s = c s) → (∀ t, 0 ≤ t → t < (prs p P).1 → h' 52 t = (prs p P).2.1 t ∧ h' 53 t = (prs p P).2.2 t) → Q n G0 h') :
    R l MX6_seek (d + 9) 0 0 [vR 51, vR a] G0 h Q := by
  have hA := hW.1 0 (by decide) (by decide)
  have hB := hW.1 1 (by decide) (by decide)
  have hC := hW.1 2 (by decide) (by decide)
  have hab := isP_b ha
  have bA := sh_b p (mem_p hg.1) _ (mem_9 hA.1 hA.2)
  have bB := sh_b p (mem_p hg.1) _ (mem_9 hB.1 hB.2)
  have bAB := ml_b (a := 40353607) (b := 40353607) (show 0 ≤ shs p (sz P 0) by omega) bA.2 (show 0 ≤ shs p (sz P 1) by omega) bB.2
  refine eX6_seek 51 a (vX6_seek_0 51 a ?_)
  simp only [hX.1.2.1, hX.2.1 0 (by decide) (by decide), hX.2.1 1 (by decide) (by decide), sr.1.1]
  refine ⟨(tP ha).1, ia1 ha (by decide) (by decide), ia1 ha (by decide) (by decide), by decide +kernel, by decide +kernel, ?_⟩
  refine rX1_shapes hg ⟨by omega, hA.2⟩ ?_
  have e1 : (PW p (sz P 0) - 1) / (p - 1) = shs p (sz P 0) := rfl
  have e2 : (PW p (sz P 1) - 1) / (p - 1) = shs p (sz P 1) := rfl
  rw [e1]
  simp only [sr.1.1]
  refine ⟨⟨by omega, by omega⟩, by decide +kernel, by decide +kernel, rX1_shapes hg ⟨by omega, hB.2⟩ ?_⟩
  rw [e2]
  refine ⟨⟨by omega, by omega⟩, ⟨by omega, by omega⟩, ?_, fun hc => ⟨by decide +kernel, ?_⟩, fun hc => hQ3 ?_⟩
  · unfold cmpI
    constructor <;> (split <;> (try split) <;> omega)
  rotate_left
  · unfold cmpI at hc
    split at hc
    · assumption
    · split at hc <;> omega
  have h60 : shs p (sz P 0) * shs p (sz P 1) ≤ 60 := by
    unfold cmpI at hc
    split at hc
    · omega
    · omega
  have tab := sh_tab p (mem_p hg.1) _ (mem_9 hA.1 hA.2) _ (mem_9 hB.1 hB.2) h60
  have hK : 0 ≤ (prs p P).1 ∧ (prs p P).1 ≤ 60 := by
    rw [pfU_c, tab.2.1, tab.2.2]
    omega
  refine rX6_takeSlices hg ha sr hX hW tab.1 hb1 (fun r b h1 x1 b1 b2 f1 => ⟨by decide +kernel, ?_⟩)
  obtain ⟨v, q, bb, xb, hBV, hBA, hI, hr9⟩ := id x1
  have g1 : Gd h1 p := hg.lo (fun b b0 b1 => f1 b (by omega))
  have sr1 : SR h1 := sr.fr (f1 51 (by omega)) (f1 55 (by omega))
  refine rX6_listPairs g1 sr1 xb hBV hr9 hA hB h60 (fun h2 hP fr2 => ⟨by decide +kernel, ?_⟩)
  have sr2 := fr2.sr sr1
  have xb2 : XB h2 62 r v q bb := xb.fr ⟨fr2.1 _ (by decide), fr2.1 _ (by decide), fr2.1 _ (by decide), fr2.1 _ (by decide)⟩
  simp only [sr2.1.2.1, xb2.2.1]
  refine ⟨by decide +kernel, ?_⟩
  have fS2 : FrS h h2 := fun b hb => (fr2.1 b (by omega)).trans (f1 b (by omega))
  have hbr2 : BR h2 66 := by
    unfold BR
    rw [fr2.1 66 (by omega), f1 66 (by omega)]
    exact hb2
  have noLt : ∀ m : Nat, m < r → ∀ c, ¬ CanC p P m c := fun m hm c hc => by
    obtain ⟨w, _, w2⟩ := hc.2.2.2
    have := steinitz hg.1 m r w (DV p b) hI (fun s s0 s1 => Sp_lin (b1 s s0 s1) (fun k k0 k1 => w2 k k0 (by omega)))
    omega
  have fin : ∀ (n : Int) hh, 4 < n → n ≤ 9 → FrS h hh → SR hh → BR hh 62 → BR hh 66 → (∀ m : Nat, (m : Int) < n → ∀ c, ¬ CanC p P m c) → S l MX6_seek (d + 8 + 1, 0, 0, 0, 0) 63 [some (vR 51), none, none, none, some (vI n)] [] G0 hh Q := fun n hh hn hn9 f s b1 b2 no => by
    refine vX6_seek_63 51 n ⟨⟨by omega, by omega⟩, fun _ => hQ5 h60 (fun m hm => no m (by omega)) hh f s b1 b2, fun c => by omega⟩
  by_cases hr5 : (r : Int) ≤ 5
  · refine lp_up (σ := HP) (fun n hh => S l MX6_seek (d + 8 + 1, 0, 0, 0, 0) 63 [some (vR 51), none, none, none, some (vI n)] [] G0 hh Q) (fun n hh => (r : Int) ≤ n ∧ FrS h hh ∧ SR hh ∧ XB hh 62 r v q bb ∧ BR hh 66 ∧ PRh hh p (sz P 1) (prs p P) v q r ∧ ∀ m : Nat, (m : Int) < n → ∀ c, ¬ CanC p P m c) 5 ?_ ?_ r h2 hr5 ⟨by omega, fS2, sr2, xb2, hbr2, hP, fun m hm => noLt m (by omega)⟩
    · intro n hh hn ⟨rn, fS, sr', xb', br', hP', no⟩ ih
      obtain ⟨N, rfl⟩ : ∃ N : Nat, n = N := ⟨n.toNat, by omega⟩
      have g' : Gd hh p := hg.lo (fun b b0 b1 => fS b (by omega))
      refine vX6_seek_63 51 N ⟨⟨by omega, by omega⟩, fun c => by omega, fun _ => ⟨by decide +kernel, fun h4 e4 => ?_⟩⟩
      have f4 : ∀ b, b ≠ 51 → h4 b = hh b := fun b hb => by rw [e4, hset_oa hb]
      have a4 : ∀ j, j ≠ 9 → h4 51 j = hh 51 j := fun j hj => by rw [e4, hset_oj hj]
      simp only [a4 1 (by decide), sr'.1.2.1, f4 62 (by decide), xb'.2.1]
      refine ⟨by decide +kernel, fun h6 e6 => ?_⟩
      have f6 : ∀ b, b ≠ 51 → h6 b = hh b := fun b hb => by rw [e6, hset_oa hb, f4 b hb]
      have a6 : ∀ j, j ≠ 9 → j ≠ 10 → h6 51 j = hh 51 j := fun j hj hj2 => by rw [e6, hset_oj hj2, a4 j hj]
      simp only [a6 2 (by decide) (by decide), sr'.1.2.2.1]
      refine ⟨by decide +kernel, rX0_clear (.inr (.inr rfl)) (by rw [f6 66 (by decide)]; exact br') (fun h9 x9 f9 => ?_)⟩
      have a9 : ∀ j, h9 51 j = h6 51 j := fun j => by rw [f9 51 (by omega)]
      have k9 : ∀ b, b ≠ 51 → b < 66 → h9 b = hh b := fun b hb hb2 => by rw [f9 b (by omega), f6 b hb]
      have fS9 : FrS h h9 := fun b hb => by rw [f9 b (by omega), f6 b (by omega)]; exact fS b hb
      have sr9 : SR h9 := by
        unfold SR
        rw [k9 55 (by decide) (by decide)]
        simp only [a9]
        rw [a6 0 (by decide) (by decide), a6 1 (by decide) (by decide), a6 2 (by decide) (by decide), a6 3 (by decide) (by decide), a6 4 (by decide) (by decide), a6 5 (by decide) (by decide), a6 6 (by decide) (by decide), a6 7 (by decide) (by decide)]
        exact sr'
      have g9 : Gd h9 p := hg.lo (fun b b0 b1 => fS9 b (by omega))
      have xb9 : XB h9 62 r v q bb := xb'.fr ⟨k9 _ (by decide) (by decide), k9 _ (by decide) (by decide), k9 _ (by decide) (by decide), k9 _ (by decide) (by decide)⟩
      have hP9 : PRh h9 p (sz P 1) (prs p P) v q r := by
        unfold PRh
        rw [a9 8, a6 8 (by decide) (by decide), k9 52 (by decide) (by decide), k9 53 (by decide) (by decide), k9 54 (by decide) (by decide), k9 56 (by decide) (by decide)]
        exact hP'
      have pf := rX6_pickFrom (l := l) (p := p) (K := (prs p P).1) (C := sz P 2) (r0 := r) (tb := tbl p P) (L := DV p (slc p P)) (n := N) hg.1 hK (by omega) (by omega) (fun t _ _ => pr_R hg.1) N 0 (d + 4 - N) (by omega) h9 (fun r11 G12 h13 => (inR r11) ∧ ((r11 = 0 → S l MX6_seek (d + 8 + 1, 0, 0, 0, 0) 63 [some (vR 51), none, none, none, some (vI ((N : Int) + 1))] [] G12 h13 Q) ∧ (r11 ≠ 0 → Q N G12 h13))) 0 0 r (fun _ => 0) v q g9 sr9 hP9.1 (by rw [a9, e6, hset_oj (by decide), e4, hset_s]) (by rw [a9, e6, hset_s]) (fun t t0 t1 => (hP9.2 t t0 t1).2.2.1) ⟨by omega, hK.1⟩ (by omega) (by omega) (by omega) (x9 p _ hg.1) (fun s s0 s1 => by omega) (fun s s0 s1 => by omega) (fun s s0 s1 => by omega) hBV (fun s s0 s1 => by omega) (fun k k0 k1 => (Sp_av hBA).2 (b2 k k0 k1))
        (fun m w _ w2 s s0 s1 => Sp_lin (va_Sp hBA s s0 s1) (fun s' s0' s1' => Sp_lin (b1 s' s0' s1') (fun k k0 k1 => w2 k k0 (by omega))))
        (fun t t0 t1 => (hP9.2 t t0 t1).2.2.2)
        (fun h' c' hE hmin x' pk fr' => ⟨⟨by decide, by decide⟩, fun z => by omega, fun _ => by
          have sr'' : SR h' := sr9.fr (fr' 51 (by omega)) (fr' 55 (by omega))
          have xb'' : XB h' 62 r v q bb := xb9.fr ⟨fr' _ (by decide), fr' _ (by decide), fr' _ (by decide), fr' _ (by decide)⟩
          refine hQn h60 N c' h' (by omega) ⟨hE.1, fun c'' hc => hmin c'' ⟨hc, fun s s0 s1 => by omega, fun z => (hc.2.1 0 (by decide) (by omega)).1⟩, fun m hm => no m (by omega)⟩ (fun b hb => (fr' b (by omega)).trans (fS9 b hb)) sr'' xb''.1 x' pk (fun t t0 t1 => ?_)
          rw [fr' 52 (by omega), fr' 53 (by omega)]
          exact ⟨(hP9.2 t t0 t1).1, (hP9.2 t t0 t1).2.1⟩⟩)
        (fun hno h' x' fr' lo' pk' => ⟨⟨by decide, by decide⟩, fun _ => by
          have sr'' : SR h' := sr9.fr (fr' 51 (by omega)) (fr' 55 (by omega))
          have xb'' : XB h' 62 r v q bb := xb9.fr ⟨fr' _ (by decide), fr' _ (by decide), fr' _ (by decide), fr' _ (by decide)⟩
          refine ih h' ⟨by omega, fun b hb => (fr' b (by omega)).trans (fS9 b hb), sr'', xb'', x'.br, ?_, fun m hm c hc => ?_⟩
          · unfold PRh
            rw [fr' 51 (by omega), fr' 52 (by omega), fr' 53 (by omega), fr' 54 (by omega), fr' 56 (by omega)]
            exact hP9
          · by_cases em : m = N
            · subst em
              exact hno c ⟨hc, fun s s0 s1 => by omega, fun z => (hc.2.1 0 (by decide) (by omega)).1⟩
            · exact no m (by omega) c hc, fun z => by omega⟩)
      rw [show d + 4 - N + N + 4 = d + 8 by omega] at pf
      exact pf
    · intro hh ⟨rn, fS, sr', xb', br', hP', no⟩
      exact fin 5 hh (by omega) (by omega) fS sr' xb'.1 br' no
  · exact fin r h2 (by omega) (by omega) fS2 sr2 xb2.1 hbr2 (fun m hm => noLt m (by omega))
end Seek3
