def tfb (p : Int) (P : PS) (w a b f : Int) : Int → Int := fun k => if w = 0 then (if k / 9 = a then pl p (fb P k) f (fb P (9 * b + k % 9)) else fb P k) else if w = 1 then (if k % 9 = a then pl p (fb P k) f (fb P (9 * (k / 9) + b)) else fb P k) else adr p (fb P k) a b f
/-- f times index b of way w added to index a -/
def trn (p : Int) (P : PS) (w a b f : Int) : PS := (P.1, tfb p P w a b f, P.2.2.1, fun k => if k / 40 = w then adr p (P.2.2.2 k) a b f else P.2.2.2 k)
section Trn
variable {l : Launch} {d : Nat} {h : HP} {p a : Int} {P : PS} {Q : Int → GS → HP → Prop}
theorem fb_n {i j : Int} (hi : 0 ≤ j ∧ j < 9) : (9 * i + j) / 9 = i ∧ (9 * i + j) % 9 = j := by omega
theorem WF_trn {w c b f : Int} (hp : okp p) (hW : WF p P) (w0 : 0 ≤ w) (w3 : w < 3) (hc : 0 ≤ c ∧ c < sz P w) (hb : 0 ≤ b ∧ b < sz P w) : WF p (trn p P w c b f) := by
  obtain ⟨w1, w2, w3', w4⟩ := hW
  have hC := w1 2 (by decide) (by decide)
  have hA := w1 0 (by decide) (by decide)
  have hB := w1 1 (by decide) (by decide)
  refine ⟨w1, fun i j i0 i9 j0 j9 => ?_, w3', fun m t m0 m1 t0 t1 => ?_⟩
  · show 0 ≤ tfb p P w c b f (9 * i + j) ∧ tfb p P w c b f (9 * i + j) < PW p (sz P 2) ∧ (sz P 0 ≤ i ∨ sz P 1 ≤ j → tfb p P w c b f (9 * i + j) = 0)
    have q1 := w2 i j i0 i9 j0 j9
    unfold tfb
    rw [(fb_n ⟨j0, j9⟩).1, (fb_n ⟨j0, j9⟩).2]
    rcases (show w = 0 ∨ w = 1 ∨ w = 2 by omega) with rfl | rfl | rfl
    · rw [if_pos rfl]
      by_cases e : i = c
      · rw [if_pos e]
        have q2 := w2 b j (by omega) (by omega) j0 j9
        have q3 := pl_sz (f := f) hp (by omega) hC.2 ⟨q1.1, q1.2.1⟩ ⟨q2.1, q2.2.1⟩
        refine ⟨q3.1, q3.2, fun z => ?_⟩
        rw [q1.2.2 z, q2.2.2 (by omega)]
        exact pl_0 hp
      · rw [if_neg e]; exact q1
    · rw [if_neg (by decide), if_pos rfl]
      by_cases e : j = c
      · rw [if_pos e]
        have q2 := w2 i b i0 i9 (by omega) (by omega)
        have q3 := pl_sz (f := f) hp (by omega) hC.2 ⟨q1.1, q1.2.1⟩ ⟨q2.1, q2.2.1⟩
        refine ⟨q3.1, q3.2, fun z => ?_⟩
        rw [q1.2.2 z, q2.2.2 (by omega)]
        exact pl_0 hp
      · rw [if_neg e]; exact q1
    · rw [if_neg (by decide), if_neg (by decide)]
      have q3 := adr_sz (b := b) (f := f) hp hC.2 ⟨q1.1, q1.2.1⟩ hc
      refine ⟨q3.1, q3.2, fun z => ?_⟩
      rw [q1.2.2 z]; exact adr_z
  · show 0 ≤ (if (40 * m + t) / 40 = w then adr p (P.2.2.2 (40 * m + t)) c b f else P.2.2.2 (40 * m + t)) ∧ (if (40 * m + t) / 40 = w then adr p (P.2.2.2 (40 * m + t)) c b f else P.2.2.2 (40 * m + t)) < PW p (sz P m)
    have t1' : t < tm P := t1
    have q1 := w4 m t m0 m1 t0 t1'
    rw [show (40 * m + t) / 40 = m by omega]
    by_cases e : m = w
    · rw [if_pos e]
      exact adr_sz hp (w1 m m0 m1).2 q1 (by rw [e]; exact hc)
    · rw [if_neg e]; exact q1
theorem rX4_addedInRow {x c b f : Int} (hg : Gd h p) (ha : isP a) (hr : h a 0 = 1) (hx : isR p x) (hc : 0 ≤ c ∧ c < 9) (hb : 0 ≤ b ∧ b < 9) (hf : isD p f) (hQ : Q (adr p x c b f) G0 h) : R l MX4_addedInRow (d + 2) 0 0 [vR a, vI x, vI c, vI b, vI f] G0 h Q := by
  have hp := okp_b hg.1
  have hx2 := isR_b hg.1 hx
  refine eX4_addedInRow a x c b f (vX4_addedInRow_0 a x c b f ?_)
  simp only [hr]
  refine ⟨(tP ha).1, rfl, rX1_number hg hx2 ⟨hc.1, by omega⟩ ?_⟩
  simp only [hr]
  refine ⟨(tP ha).1, rfl, rX1_number hg hx2 ⟨hb.1, by omega⟩ ?_⟩
  simp only [hr, hg.2.1]
  have h1 := D_nn (x := x) (i := c) hp.1
  have h2 := D_lt (x := x) (i := c) hp.1
  have h3 := ml_b (a := 6) (b := 6) hf.1 (by have := hf.2; omega) (D_nn (x := x) (i := b) hp.1) (by have := D_lt (x := x) (i := b) hp.1; omega)
  exact ⟨(tP ha).1, rfl, ⟨⟨by omega, by omega⟩, by omega, by omega⟩, rX1_withNumber hg hx2 ⟨hc.1, by omega⟩ hQ⟩
theorem XP_fbs {F : Int → Int} {i j x : Int} {hh : HP} (hX : XP hh a p (P.1, F, P.2.2.1, P.2.2.2)) {F' : Int → Int} (hF : ∀ k, 0 ≤ k → k < 81 → F' k = if k = 9 * i + j then x else F k) : XP (hset hh (a + 2) (9 * i + j) x) a p (P.1, F', P.2.2.1, P.2.2.2) := by
  refine XP_ext (XP_fib hX) (fun _ _ _ => rfl) (fun k k0 k1 => ?_) rfl (fun _ _ _ _ _ _ => rfl)
  rw [show fb (P.1, F', P.2.2.1, P.2.2.2) k = F' k from rfl, hF k k0 k1]
  rfl
theorem rX4_addIndexInFibers {m c b f : Int} (hg : Gd h p) (ha : isP a) (hW : WF p P) (hX : XP h a p (P.1, (fun k => if k / 9 < m then tfb p P 2 c b f k else fb P k), P.2.2.1, P.2.2.2)) (hm : 0 ≤ m ∧ m < 9) (hc : 0 ≤ c ∧ c < sz P 2) (hb : 0 ≤ b ∧ b < sz P 2) (hf : isD p f) (hQ : ∀ h', XP h' a p (P.1, (fun k => if k / 9 < m + 1 then tfb p P 2 c b f k else fb P k), P.2.2.1, P.2.2.2) → FrP a h h' → Q 0 G0 h') : R l MX4_addIndexInFibers (d + 3) 0 0 [vR a, vI m, vI c, vI b, vI f] G0 h Q := by
  have hB := hW.1 1 (by decide) (by decide)
  have hC := hW.1 2 (by decide) (by decide)
  have hisP := isP_b ha
  refine eX4_addIndexInFibers a m c b f (vX4_addIndexInFibers_0 a m c b f ?_)
  refine lp_up (σ := HP) (fun j hh => S l MX4_addIndexInFibers (d + 2 + 1, 0, 0, 0, 0) 3 [some (vR a), some (vI m), some (vI c), some (vI b), some (vI f), some (vI j)] [] G0 hh Q) (fun j hh => 0 ≤ j ∧ XP hh a p (P.1, (fun k => if k / 9 < m ∨ k / 9 = m ∧ k % 9 < j then tfb p P 2 c b f k else fb P k), P.2.2.1, P.2.2.2) ∧ FrP a h hh) (sz P 1) ?_ ?_ 0 h (by omega) ⟨by decide, ?_, FrP.rf⟩
  · intro j hh hj ⟨j0, q1, q2⟩ ih
    have sB : hh (a + 1) 1 = sz P 1 := q1.2.1 1 (by decide) (by decide)
    refine vX4_addIndexInFibers_3 a m c b f j ?_
    simp only [q1.1.2.1, sB]
    refine ⟨(tP ha).1, ia1 ha (by decide) (by decide), ⟨by omega, by omega⟩, ⟨by omega, by omega⟩, fun c => by omega, fun _ => rX4_fiberAt ha q1 hm.1 hm.2 j0 (by omega) ⟨(tP ha).1, ?_⟩⟩
    have e : fb (P.1, (fun k => if k / 9 < m ∨ k / 9 = m ∧ k % 9 < j then tfb p P 2 c b f k else fb P k), P.2.2.1, P.2.2.2) (9 * m + j) = fb P (9 * m + j) := by
      show (if (9 * m + j) / 9 < m ∨ (9 * m + j) / 9 = m ∧ (9 * m + j) % 9 < j then _ else _) = _
      rw [if_neg (by omega)]
    rw [e]
    refine rX4_addedInRow (d := d) (hg.fr hisP.1 q2) ha q1.1.1 (fibR hg.1 hW hm.1 hm.2 j0 (by omega)) ⟨hc.1, by omega⟩ ⟨hb.1, by omega⟩ hf ⟨(tP ha).1, rX4_setFiber ha q1.1.2.2.1 hm.1 hm.2 j0 (by omega) (ih _ ⟨by omega, ?_, q2.tr (FrP.set (by omega) (by omega))⟩)⟩
    refine XP_fbs q1 (fun k k0 k1 => ?_)
    by_cases c1 : k = 9 * m + j
    · rw [if_pos c1, if_pos (by omega), c1]
      show tfb p P 2 c b f (9 * m + j) = _
      unfold tfb
      rw [if_neg (by decide), if_neg (by decide)]
    · rw [if_neg c1]
      by_cases c2 : k / 9 < m ∨ k / 9 = m ∧ k % 9 < j
      · rw [if_pos c2, if_pos (by omega)]
      · rw [if_neg c2, if_neg (by omega)]
  · intro hh ⟨j0, q1, q2⟩
    have sB : hh (a + 1) 1 = sz P 1 := q1.2.1 1 (by decide) (by decide)
    refine vX4_addIndexInFibers_3 a m c b f _ ?_
    simp only [q1.1.2.1, sB]
    refine ⟨(tP ha).1, ia1 ha (by decide) (by decide), ⟨by omega, by omega⟩, ⟨by omega, by omega⟩, fun _ => hQ hh (XP_ext q1 (fun _ _ _ => rfl) (fun k k0 k1 => ?_) rfl (fun _ _ _ _ _ _ => rfl)) q2, fun c => by omega⟩
    show (if k / 9 < m ∨ k / 9 = m ∧ k % 9 < sz P 1 then tfb p P 2 c b f k else fb P k) = if k / 9 < m + 1 then tfb p P 2 c b f k else fb P k
    by_cases c1 : k / 9 < m ∨ k / 9 = m ∧ k % 9 < sz P 1
    · rw [if_pos c1, if_pos (by omega)]
    · rw [if_neg c1]
      by_cases c2 : k / 9 < m + 1
      · rw [if_pos c2]
        have z := (hW.2.1 (k / 9) (k % 9) (by omega) (by omega) (by omega) (by omega)).2.2 (Or.inr (by omega))
        rw [show 9 * (k / 9) + k % 9 = k by omega] at z
        unfold tfb
        rw [if_neg (by decide), if_neg (by decide), z]
        exact adr_z.symm
      · rw [if_neg c2]
  · refine XP_ext hX (fun _ _ _ => rfl) (fun k k0 k1 => ?_) rfl (fun _ _ _ _ _ _ => rfl)
    show (if k / 9 < m then tfb p P 2 c b f k else fb P k) = if k / 9 < m ∨ k / 9 = m ∧ k % 9 < 0 then tfb p P 2 c b f k else fb P k
    by_cases c1 : k / 9 < m
    · rw [if_pos c1, if_pos (by omega)]
    · rw [if_neg c1, if_neg (by omega)]
set_option maxHeartbeats 2000000 in
theorem rX4_addIndex {w c b f : Int} (hg : Gd h p) (ha : isP a) (hX : XP h a p P) (hW : WF p P) (w0 : 0 ≤ w) (w3 : w < 3) (hc : 0 ≤ c ∧ c < sz P w) (hb : 0 ≤ b ∧ b < sz P w) (hcb : c ≠ b) (hf : isD p f) (hQ : ∀ h', XP h' a p (trn p P w c b f) → FrP a h h' → Q 0 G0 h') : R l MX4_addIndex (d + 4) 0 0 [vR a, vI w, vI c, vI b, vI f] G0 h Q := by
  have hA := hW.1 0 (by decide) (by decide)
  have hB := hW.1 1 (by decide) (by decide)
  have hC := hW.1 2 (by decide) (by decide)
  have hS := hW.1 w w0 w3
  have hT := hW.2.2.1
  have hisP := isP_b ha
  have hWt := WF_trn (f := f) hg.1 hW w0 w3 hc hb
  -- the rows
  have rows : ∀ hh, XP hh a p (P.1, tfb p P w c b f, P.2.2.1, P.2.2.2) → FrP a h hh → S l MX4_addIndex (d + 3 + 1, 0, 0, 0, 0) 120 [some (vR a), some (vI w), some (vI c), some (vI b), some (vI f), none, some (vI 0)] [] G0 hh Q := by
    intro hh q1 q2
    refine lp_up (σ := HP) (fun n hh => S l MX4_addIndex (d + 3 + 1, 0, 0, 0, 0) 120 [some (vR a), some (vI w), some (vI c), some (vI b), some (vI f), none, some (vI n)] [] G0 hh Q) (fun n hh => 0 ≤ n ∧ XP hh a p (P.1, tfb p P w c b f, P.2.2.1, fun k => if k / 40 = w ∧ k % 40 < n then adr p (P.2.2.2 k) c b f else P.2.2.2 k) ∧ FrP a h hh) (tm P) ?_ ?_ 0 hh hT.1 ⟨by decide, XP_ext q1 (fun _ _ _ => rfl) (fun _ _ _ => rfl) rfl (fun m t m0 m1 t0 t1 => ?_), q2⟩
    · intro n hh hn ⟨n0, r1, r2⟩ ih
      have sT : hh a 6 = tm P := r1.2.2.2.1
      have hWn : WF p (P.1, tfb p P w c b f, P.2.2.1, fun k => if k / 40 = w ∧ k % 40 < n then adr p (P.2.2.2 k) c b f else P.2.2.2 k) := by
        refine ⟨hWt.1, hWt.2.1, hT, fun m t m0 m1 t0 t1 => ?_⟩
        have t1' : t < tm P := t1
        have q := hW.2.2.2 m t m0 m1 t0 t1'
        show 0 ≤ (if (40 * m + t) / 40 = w ∧ (40 * m + t) % 40 < n then adr p (P.2.2.2 (40 * m + t)) c b f else P.2.2.2 (40 * m + t)) ∧ (if (40 * m + t) / 40 = w ∧ (40 * m + t) % 40 < n then adr p (P.2.2.2 (40 * m + t)) c b f else P.2.2.2 (40 * m + t)) < PW p (sz P m)
        by_cases z : (40 * m + t) / 40 = w ∧ (40 * m + t) % 40 < n
        · rw [if_pos z]
          have em : m = w := by omega
          subst em
          exact adr_sz hg.1 hS.2 q hc
        · rw [if_neg z]; exact q
      have hrow : rw' (P.1, tfb p P w c b f, P.2.2.1, fun k => if k / 40 = w ∧ k % 40 < n then adr p (P.2.2.2 k) c b f else P.2.2.2 k) (40 * w + n) = rw' P (40 * w + n) := by
        show (if (40 * w + n) / 40 = w ∧ (40 * w + n) % 40 < n then _ else _) = _
        rw [if_neg (by omega)]
      refine vX4_addIndex_120 a w c b f n ?_
      simp only [sT]
      refine ⟨(tP ha).1, ⟨by omega, by omega⟩, ⟨by omega, by omega⟩, fun z => by omega, fun _ => rX4_rowOf ha r1 hWn w0 w3 n0 hn ⟨(tP ha).1, ?_⟩⟩
      rw [hrow]
      have hq := hW.2.2.2 w n w0 w3 n0 hn
      have hq2 := adr_sz (b := b) (f := f) hg.1 hS.2 hq hc
      refine rX4_addedInRow (d := d + 1) (hg.fr hisP.1 r2) ha r1.1.1 (rowR hg.1 hW w0 w3 n0 hn) ⟨hc.1, by omega⟩ ⟨hb.1, by omega⟩ hf ⟨(tP ha).1, rX4_put (d := d + 1) (hg.fr hisP.1 r2) ha r1 hWn w0 w3 n0 hn ⟨hq2.1, Int.lt_of_lt_of_le hq2.2 (PW_le (okp_b hg.1).1 hS.2)⟩ (fun h14 q14 f14 _ => ih h14 ⟨by omega, XP_ext q14 (fun _ _ _ => rfl) (fun _ _ _ => rfl) rfl (fun m t m0 m1 t0 t1 => ?_), r2.tr f14⟩)⟩
      have t1' : t < tm P := t1
      show up1 (fun k => if k / 40 = w ∧ k % 40 < n then adr p (P.2.2.2 k) c b f else P.2.2.2 k) (40 * w + n) (adr p (rw' P (40 * w + n)) c b f) (40 * m + t) = if (40 * m + t) / 40 = w ∧ (40 * m + t) % 40 < n + 1 then adr p (P.2.2.2 (40 * m + t)) c b f else P.2.2.2 (40 * m + t)
      by_cases z : 40 * m + t = 40 * w + n
      · rw [z, up1_s, if_pos (by omega)]
      · rw [up1_o z]
        by_cases z2 : (40 * m + t) / 40 = w ∧ (40 * m + t) % 40 < n
        · rw [if_pos z2, if_pos (by omega)]
        · rw [if_neg z2, if_neg (by omega)]
    · intro hh ⟨n0, r1, r2⟩
      have sT : hh a 6 = tm P := r1.2.2.2.1
      refine vX4_addIndex_120 a w c b f _ ?_
      simp only [sT]
      refine ⟨(tP ha).1, ⟨by omega, by omega⟩, ⟨by omega, by omega⟩, fun _ => hQ hh (XP_ext r1 (fun _ _ _ => rfl) (fun _ _ _ => rfl) rfl (fun m t m0 m1 t0 t1 => ?_)) r2, fun z => by omega⟩
      have t1' : t < tm P := t1
      show (if (40 * m + t) / 40 = w ∧ (40 * m + t) % 40 < tm P then adr p (P.2.2.2 (40 * m + t)) c b f else P.2.2.2 (40 * m + t)) = if (40 * m + t) / 40 = w then adr p (P.2.2.2 (40 * m + t)) c b f else P.2.2.2 (40 * m + t)
      by_cases z : (40 * m + t) / 40 = w
      · rw [if_pos z, if_pos (by omega)]
      · rw [if_neg z, if_neg (by omega)]
    · show P.2.2.2 (40 * m + t) = if (40 * m + t) / 40 = w ∧ (40 * m + t) % 40 < 0 then adr p (P.2.2.2 (40 * m + t)) c b f else P.2.2.2 (40 * m + t)
      rw [if_neg (by omega)]
  -- the fibers
  have fibs : ∀ o, (w = 0 → o = 1) → (w ≠ 0 → o = 0) → S l MX4_addIndex (d + 3 + 1, 0, 0, 0, 0) 14 [some (vR a), some (vI w), some (vI c), some (vI b), some (vI f), some (vI o), some (vI 0)] [] G0 h Q := by
    intro o ho1 ho0
    have hO := hW.1 o (by omega) (by omega)
    refine lp_up (σ := HP) (fun m hh => S l MX4_addIndex (d + 3 + 1, 0, 0, 0, 0) 14 [some (vR a), some (vI w), some (vI c), some (vI b), some (vI f), some (vI o), some (vI m)] [] G0 hh Q) (fun m hh => 0 ≤ m ∧ XP hh a p (P.1, (fun k => if (if w = 0 then k % 9 else k / 9) < m then tfb p P w c b f k else fb P k), P.2.2.1, P.2.2.2) ∧ FrP a h hh) (sz P o) ?_ ?_ 0 h (by omega) ⟨by decide, XP_ext hX (fun _ _ _ => rfl) (fun k k0 k1 => ?_) rfl (fun _ _ _ _ _ _ => rfl), FrP.rf⟩
    · intro m hh hm ⟨m0, q1, q2⟩ ih
      have sO : hh (a + 1) o = sz P o := q1.2.1 o (by omega) (by omega)
      have hgh := hg.fr hisP.1 q2
      refine vX4_addIndex_14 a w c b f o m ?_
      simp only [q1.1.1, q1.1.2.1, sO]
      refine ⟨(tP ha).1, ia1 ha (by omega) (by omega), ⟨by omega, by omega⟩, ⟨by omega, by omega⟩, fun z => by omega, fun _ => ⟨⟨by omega, by omega⟩, fun z0 => ⟨fun z1 => ?_, fun z1 => ?_⟩, fun z0 => ?_⟩⟩
      · have ew : w = 2 := by omega
        subst ew
        refine rX4_addIndexInFibers (d := d) hgh ha hW q1 ⟨m0, by omega⟩ hc hb hf (fun h11 q11 f11 => ih h11 ⟨by omega, ?_, q2.tr f11⟩)
        exact q11
      · subst z1
        have ef : ∀ j, fb (P.1, (fun k => if (if (1 : Int) = 0 then k % 9 else k / 9) < m then tfb p P 1 c b f k else fb P k), P.2.2.1, P.2.2.2) (9 * m + j) = if (9 * m + j) / 9 < m then tfb p P 1 c b f (9 * m + j) else fb P (9 * m + j) := fun j => by
          show (if (if (1 : Int) = 0 then (9 * m + j) % 9 else (9 * m + j) / 9) < m then _ else _) = _
          rw [if_neg (by decide : ¬ (1 : Int) = 0)]
        refine rX4_fiberAt ha q1 m0 (by omega) hc.1 (by omega) ⟨(tP ha).1, rX4_fiberAt ha q1 m0 (by omega) hb.1 (by omega) ?_⟩
        rw [ef, ef, if_neg (by omega), if_neg (by omega)]
        refine ⟨rfl, rX1_plus hgh (fibR hg.1 hW m0 (by omega) hc.1 (by omega)) (fibR hg.1 hW m0 (by omega) hb.1 (by omega)) hf ⟨(tP ha).1, rX4_setFiber ha q1.1.2.2.1 m0 (by omega) hc.1 (by omega) (ih _ ⟨by omega, XP_fbs q1 (fun k k0 k1 => ?_), q2.tr (FrP.set (by omega) (by omega))⟩)⟩⟩
        rw [if_neg (by decide : ¬ (1 : Int) = 0)]
        by_cases e1 : k = 9 * m + c
        · rw [if_pos e1, if_pos (by omega), e1]
          show tfb p P 1 c b f (9 * m + c) = _
          unfold tfb
          rw [if_neg (by decide), if_pos rfl, if_pos (by omega), show (9 * m + c) / 9 = m by omega]
        · rw [if_neg e1]
          by_cases e2 : k / 9 < m
          · rw [if_pos e2, if_pos (by omega)]
          · rw [if_neg e2]
            by_cases e3 : k / 9 < m + 1
            · rw [if_pos e3]
              show tfb p P 1 c b f k = _
              unfold tfb
              rw [if_neg (by decide), if_pos rfl, if_neg (by omega)]
            · rw [if_neg e3]
      · subst z0
        have ef : ∀ i, fb (P.1, (fun k => if (if (0 : Int) = 0 then k % 9 else k / 9) < m then tfb p P 0 c b f k else fb P k), P.2.2.1, P.2.2.2) (9 * i + m) = if (9 * i + m) % 9 < m then tfb p P 0 c b f (9 * i + m) else fb P (9 * i + m) := fun j => by
          show (if (if (0 : Int) = 0 then (9 * j + m) % 9 else (9 * j + m) / 9) < m then _ else _) = _
          rw [if_pos rfl]
        have em9 : m < 9 := by omega
        refine rX4_fiberAt ha q1 hc.1 (by omega) m0 em9 ⟨(tP ha).1, rX4_fiberAt ha q1 hb.1 (by omega) m0 em9 ?_⟩
        rw [ef, ef, if_neg (by omega), if_neg (by omega)]
        refine ⟨rfl, rX1_plus hgh (fibR hg.1 hW hc.1 (by omega) m0 em9) (fibR hg.1 hW hb.1 (by omega) m0 em9) hf ⟨(tP ha).1, rX4_setFiber ha q1.1.2.2.1 hc.1 (by omega) m0 em9 (ih _ ⟨by omega, XP_fbs q1 (fun k k0 k1 => ?_), q2.tr (FrP.set (by omega) (by omega))⟩)⟩⟩
        rw [if_pos rfl]
        by_cases e1 : k = 9 * c + m
        · rw [if_pos e1, if_pos (by omega), e1]
          show tfb p P 0 c b f (9 * c + m) = _
          unfold tfb
          rw [if_pos rfl, if_pos (by omega), show (9 * c + m) % 9 = m by omega]
        · rw [if_neg e1]
          by_cases e2 : k % 9 < m
          · rw [if_pos e2, if_pos (by omega)]
          · rw [if_neg e2]
            by_cases e3 : k % 9 < m + 1
            · rw [if_pos e3]
              show tfb p P 0 c b f k = _
              unfold tfb
              rw [if_pos rfl, if_neg (by omega)]
            · rw [if_neg e3]
    · intro hh ⟨m0, q1, q2⟩
      have sO : hh (a + 1) o = sz P o := q1.2.1 o (by omega) (by omega)
      refine vX4_addIndex_14 a w c b f o _ ?_
      simp only [q1.1.2.1, sO]
      refine ⟨(tP ha).1, ia1 ha (by omega) (by omega), ⟨by omega, by omega⟩, ⟨by omega, by omega⟩, fun _ => rows hh (XP_ext q1 (fun _ _ _ => rfl) (fun k k0 k1 => ?_) rfl (fun _ _ _ _ _ _ => rfl)) q2, fun z => by omega⟩
      show (if (if w = 0 then k % 9 else k / 9) < sz P o then tfb p P w c b f k else fb P k) = tfb p P w c b f k
      have z := (hW.2.1 (k / 9) (k % 9) (by omega) (by omega) (by omega) (by omega)).2.2
      rw [show 9 * (k / 9) + k % 9 = k by omega] at z
      by_cases e1 : (if w = 0 then k % 9 else k / 9) < sz P o
      · rw [if_pos e1]
      · rw [if_neg e1]
        unfold tfb
        rcases (show w = 0 ∨ w = 1 ∨ w = 2 by omega) with rfl | rfl | rfl
        · rw [if_pos rfl] at e1 ⊢
          rw [ho1 rfl] at e1
          by_cases e2 : k / 9 = c
          · rw [if_pos e2, z (Or.inr (by omega)), (hW.2.1 b (k % 9) hb.1 (by omega) (by omega) (by omega)).2.2 (Or.inr (by omega))]
            exact (pl_0 hg.1).symm
          · rw [if_neg e2]
        · rw [if_neg (by decide)] at e1 ⊢
          rw [ho0 (by decide)] at e1
          rw [if_pos rfl]
          by_cases e2 : k % 9 = c
          · rw [if_pos e2, z (Or.inl (by omega)), (hW.2.1 (k / 9) b (by omega) (by omega) hb.1 (by omega)).2.2 (Or.inl (by omega))]
            exact (pl_0 hg.1).symm
          · rw [if_neg e2]
        · rw [if_neg (by decide)] at e1 ⊢
          rw [ho0 (by decide)] at e1
          rw [if_neg (by decide), z (Or.inl (by omega))]
          exact adr_z.symm
    · show fb P k = if (if w = 0 then k % 9 else k / 9) < 0 then tfb p P w c b f k else fb P k
      rw [if_neg]
      by_cases e : w = 0
      · rw [if_pos e]; omega
      · rw [if_neg e]; omega
  exact eX4_addIndex a w c b f (vX4_addIndex_0 a w c b f ⟨⟨by omega, by omega⟩, fun z => fibs 0 (fun q => absurd q z) (fun _ => rfl), fun z => fibs 1 (fun _ => rfl) (fun q => absurd z q)⟩)
end Trn
