/-! the bench's state: ground, piece, the two hands, which places are kept, what is kept there -/
abbrev BS : Type := Int × PS × Int × Int × (Int → Int) × (Int → PS)
abbrev bp (B : BS) : Int := B.1
abbrev bP (B : BS) : PS := B.2.1
abbrev bx (B : BS) : Int := B.2.2.1
abbrev by' (B : BS) : Int := B.2.2.2.1
abbrev bK (B : BS) : Int → Int := B.2.2.2.2.1
abbrev bQ (B : BS) : Int → PS := B.2.2.2.2.2
def bst (B : BS) (P : PS) : BS := (B.1, P, B.2.2)
def bsh (B : BS) (P : PS) : BS := (B.1, P, 0, 0, B.2.2.2.2)
def BW (B : BS) : Prop := okp (bp B) ∧ WF (bp B) (bP B) ∧ (0 ≤ bx B ∧ bx B < PW (bp B) (sz (bP B) 0)) ∧ (0 ≤ by' B ∧ by' B < PW (bp B) (sz (bP B) 1)) ∧ ∀ q, 0 ≤ q → q < 4 → bK B q = 0 ∨ (bK B q = 1 ∧ WF (bp B) (bQ B q))
def FR (h : HP) (a : Int) : Prop := h 0 0 = 1 ∧ h 0 1 = 16 ∧ h 0 2 = 41 ∧ h 0 3 = 42 ∧ h 0 4 = 43 ∧ h 0 5 = 44 ∧ h 0 6 = 45 ∧ h 0 7 = 47 ∧ h 0 8 = 51 ∧ h 0 9 = 70 ∧ h 0 10 = a ∧ h 0 11 = 14 - a
def HH (h : HP) : Prop := h 43 0 = 1 ∧ h 44 0 = 1 ∧ (h 45 0 = 1 ∧ h 45 1 = 46) ∧ BR h 47 ∧ SR h ∧ BR h 62 ∧ BR h 66 ∧ HR h
/-- the class's object holds B, its piece at a -/
def CXa (h : HP) (a : Int) (B : BS) : Prop := (a = 4 ∨ a = 10) ∧ Gd h (bp B) ∧ FR h a ∧ XP h a (bp B) (bP B) ∧ (h 42 0 = bx B ∧ h 42 1 = by' B) ∧ (Pr h 4 ∧ Pr h 10) ∧ (∀ q, 0 ≤ q → q < 4 → Pr h (17 + 6 * q) ∧ h 16 q = 17 + 6 * q ∧ h 41 q = bK B q ∧ (bK B q ≠ 0 → XP h (17 + 6 * q) (bp B) (bQ B q))) ∧ HH h ∧ BW B
def CX (h : HP) (B : BS) : Prop := ∃ a, CXa h a B
def FC (h h' : HP) : Prop := ∀ b, 74 < b → h' b = h b
theorem FC.rf {h : HP} : FC h h := fun _ _ => rfl
theorem isP_a {a : Int} (h : a = 4 ∨ a = 10) : isP a := h.elim .inl (fun e => .inr (.inl e))
theorem isP_q {q : Int} (q0 : 0 ≤ q) (q4 : q < 4) : isP (17 + 6 * q) := by unfold isP; omega
theorem HH.fr {h h' : HP} (hh : HH h) (f : ∀ b, 43 ≤ b → b ≤ 74 → h' b = h b) : HH h' := by
  unfold HH BR SR HR at *
  rw [f 43 (by decide) (by decide), f 44 (by decide) (by decide), f 45 (by decide) (by decide), f 47 (by decide) (by decide), f 51 (by decide) (by decide), f 55 (by decide) (by decide), f 62 (by decide) (by decide), f 66 (by decide) (by decide), f 70 (by decide) (by decide)]
  exact hh
/-- the piece alone has changed -/
theorem CXa.pc {h h' : HP} {a : Int} {B : BS} {P : PS} (hc : CXa h a B) (hX : XP h' a (bp B) P) (hW : WF (bp B) P) (hs : P.1 = (bP B).1) (f : FrP a h h') : CXa h' a (bst B P) := by
  obtain ⟨a4, g, fr, X, hd, pr, kp, hh, bw⟩ := hc
  have g' : ∀ b, b < a ∨ a + 5 < b → h' b = h b := f
  refine ⟨a4, g.fr (by omega) f, ?_, hX, ?_, ?_, fun q q0 q4 => ?_, hh.fr (fun b b0 b1 => f b (by omega)), bw.1, hW, ?_, ?_, bw.2.2.2.2⟩
  · unfold FR at *
    rw [f 0 (by omega)]; exact fr
  · rw [f 42 (by omega)]; exact hd
  · rcases a4 with rfl | rfl
    · refine ⟨hX.1, ?_⟩
      unfold Pr
      rw [f 10 (by decide)]; exact pr.2
    · refine ⟨?_, hX.1⟩
      unfold Pr
      rw [f 4 (by decide)]; exact pr.1
  · obtain ⟨k1, k2, k3, k4⟩ := kp q q0 q4
    refine ⟨?_, by rw [f 16 (by omega)]; exact k2, by rw [f 41 (by omega)]; exact k3, fun z => (k4 z).fr (by omega) f⟩
    unfold Pr
    rw [f (17 + 6 * q) (by omega)]; exact k1
  · show 0 ≤ bx B ∧ bx B < PW (bp B) (sz P 0)
    rw [show sz P 0 = sz (bP B) 0 by unfold sz; rw [hs]]; exact bw.2.2.1
  · show 0 ≤ by' B ∧ by' B < PW (bp B) (sz P 1)
    rw [show sz P 1 = sz (bP B) 1 by unfold sz; rw [hs]]; exact bw.2.2.2.1
/-- the helpers alone have changed -/
theorem CXa.hp {h h' : HP} {a : Int} {B : BS} (hc : CXa h a B) (hh' : HH h') (f : ∀ b, b < 43 → h' b = h b) : CXa h' a B := by
  obtain ⟨a4, g, fr, X, hd, pr, kp, hh, bw⟩ := hc
  refine ⟨a4, g.lo (fun b _ _ => f b (by omega)), ?_, X.lo (fun b _ _ => f b (by omega)), ?_, ?_, fun q q0 q4 => ?_, hh', bw⟩
  · unfold FR at *
    rw [f 0 (by omega)]; exact fr
  · rw [f 42 (by omega)]; exact hd
  · unfold Pr at *
    rw [f 4 (by decide), f 10 (by decide)]; exact pr
  · obtain ⟨k1, k2, k3, k4⟩ := kp q q0 q4
    refine ⟨?_, by rw [f 16 (by omega)]; exact k2, by rw [f 41 (by omega)]; exact k3, fun z => (k4 z).lo (fun b _ _ => f b (by omega))⟩
    unfold Pr at *
    rw [f (17 + 6 * q) (by omega)]; exact k1
/-- the model's cells alone have changed -/
theorem CX.md {h h' : HP} {B : BS} (hc : CX h B) (f : ∀ b, b < 75 → h' b = h b) : CX h' B := by
  obtain ⟨a, hc⟩ := hc
  exact ⟨a, hc.hp (hc.2.2.2.2.2.2.2.1.fr (fun b _ _ => f b (by omega))) (fun b _ => f b (by omega))⟩
theorem FrP.c {a : Int} {h h' : HP} (ha : isP a) (f : FrP a h h') : FC h h' := fun b hb => f b (by have := isP_b ha; omega)
/-! what each call answers, and what it makes of the state -/
def okz (n : Int) : Prop := 1 ≤ n ∧ n ≤ 9
def okw (w : Int) : Prop := 0 ≤ w ∧ w < 3
def okt (P : PS) (t : Int) : Prop := 0 ≤ t ∧ t < tm P
def okx (p : Int) (P : PS) (w x : Int) : Prop := 0 ≤ x ∧ x < PW p (sz P w)
def plc (P : PS) (i j k : Int) : Prop := (0 ≤ i ∧ i < sz P 0) ∧ (0 ≤ j ∧ j < sz P 1) ∧ (0 ≤ k ∧ k < sz P 2)
def fr0 (a b c : Int) : PS := (sz3 a b c, fun _ => 0, 0, fun _ => 0)
def tbP (p a b c : Int) : PS := (sz3 (a * b) (b * c) (a * c), fun k => if k / 9 < a * b ∧ k % 9 < b * c ∧ k / 9 % b = k % 9 / c then PW p (c * (k / 9 / b) + k % 9 % c) else 0, 0, fun _ => 0)
def rwP (p n m s : Int) : PS := (sz3 n m s, fun k => if k / 9 < n ∧ k % 9 < m then PW p ((k / 9 + k % 9) % s) else 0, 0, fun _ => 0)
def stP (p : Int) (P : PS) (i j k v : Int) : PS := (P.1, up1 P.2.1 (9 * i + j) (wn p (P.2.1 (9 * i + j)) k v), P.2.2)
def wkn (p : Int) : Nat → Int → PS → PS
  | 0, _, P => P
  | n + 1, x, P => if nmv p P = 0 then P else wkn p n (1103515245 * x + 12345) (lsn p (tm (dnW p P 3 0 ((1103515245 * x + 12345) % 4294967296 / 65536 % nmv p P))).toNat (dnW p P 3 0 ((1103515245 * x + 12345) % 4294967296 / 65536 % nmv p P)))
def A_gr (v : Int) (B : BS) (r : Int) (B' : BS) : Prop := (okp v ∧ r = 1 ∧ B' = (v, fr0 1 1 1, 0, 0, (fun _ => 0), bQ B)) ∨ (¬ okp v ∧ r = -1 ∧ B' = B)
def A_bx (a b c : Int) (B : BS) (r : Int) (B' : BS) : Prop := ((okz a ∧ okz b ∧ okz c) ∧ r = 1 ∧ B' = bsh B (fr0 a b c)) ∨ (¬ (okz a ∧ okz b ∧ okz c) ∧ r = -1 ∧ B' = B)
def A_tb (a b c : Int) (B : BS) (r : Int) (B' : BS) : Prop := (¬ (okz a ∧ okz b ∧ okz c) ∧ r = -1 ∧ B' = B) ∨ ((okz a ∧ okz b ∧ okz c) ∧ ((9 < a * b ∨ 9 < b * c ∨ 9 < a * c) ∧ r = -3 ∧ B' = B ∨ (a * b ≤ 9 ∧ b * c ≤ 9 ∧ a * c ≤ 9) ∧ r = 1 ∧ B' = bsh B (tbP (bp B) a b c)))
def A_rw (n m w : Int) (B : BS) (r : Int) (B' : BS) : Prop := (¬ (okz n ∧ okz m ∧ 0 ≤ w ∧ w ≤ 9) ∧ r = -1 ∧ B' = B) ∨ ((okz n ∧ okz m ∧ 0 ≤ w ∧ w ≤ 9) ∧ (9 < (if w = 0 then n + m - 1 else w) ∧ r = -3 ∧ B' = B ∨ (if w = 0 then n + m - 1 else w) ≤ 9 ∧ r = 1 ∧ B' = bsh B (rwP (bp B) n m (if w = 0 then n + m - 1 else w))))
def A_st (i j k v : Int) (B : BS) (r : Int) (B' : BS) : Prop := ((plc (bP B) i j k ∧ isD (bp B) v) ∧ r = D (bp B) (fb (bP B) (9 * i + j)) k ∧ B' = bst B (stP (bp B) (bP B) i j k v)) ∨ (¬ (plc (bP B) i j k ∧ isD (bp B) v) ∧ r = -1 ∧ B' = B)
def A_at (i j k : Int) (B : BS) (r : Int) (B' : BS) : Prop := B' = B ∧ ((plc (bP B) i j k ∧ r = D (bp B) (fb (bP B) (9 * i + j)) k) ∨ (¬ plc (bP B) i j k ∧ r = -1))
def A_mn (a : Int) (B : BS) (r : Int) (B' : BS) : Prop := B' = B ∧ ((a = 0 ∧ r = bp B) ∨ (1 ≤ a ∧ a ≤ 3 ∧ r = sz (bP B) (a - 1)) ∨ (a = 4 ∧ r = tm (bP B)) ∨ (a = 5 ∧ r = fpl (bp B) (bP B)) ∨ (a = 6 ∧ r = nmv (bp B) (bP B)) ∨ ((a < 0 ∨ 6 < a) ∧ r = -1))
def A_tm (u v w : Int) (B : BS) (r : Int) (B' : BS) : Prop := (¬ (okx (bp B) (bP B) 0 u ∧ okx (bp B) (bP B) 1 v ∧ okx (bp B) (bP B) 2 w) ∧ r = -1 ∧ B' = B) ∨ ((okx (bp B) (bP B) 0 u ∧ okx (bp B) (bP B) 1 v ∧ okx (bp B) (bP B) 2 w) ∧ (40 ≤ tm (bP B) ∧ r = -2 ∧ B' = B ∨ tm (bP B) < 40 ∧ r = tm (bP B) ∧ B' = bst B (apn (bP B) u v w)))
def A_ro (t w : Int) (B : BS) (r : Int) (B' : BS) : Prop := B' = B ∧ (((okt (bP B) t ∧ okw w) ∧ r = rw' (bP B) (40 * w + t)) ∨ (¬ (okt (bP B) t ∧ okw w) ∧ r = -1))
def A_ch (t w x : Int) (B : BS) (r : Int) (B' : BS) : Prop := ((okt (bP B) t ∧ okw w ∧ okx (bp B) (bP B) w x) ∧ r = 1 ∧ B' = bst B (prw (bP B) w t x)) ∨ (¬ (okt (bP B) t ∧ okw w ∧ okx (bp B) (bP B) w x) ∧ r = -1 ∧ B' = B)
def A_dr (t : Int) (B : BS) (r : Int) (B' : BS) : Prop := (okt (bP B) t ∧ r = tm (bP B) - 1 ∧ B' = bst B (rmv (bP B) t)) ∨ (¬ okt (bP B) t ∧ r = -1 ∧ B' = B)
def A_pl (B : BS) (r : Int) (B' : BS) : Prop := (fpl (bp B) (bP B) ≤ 40 ∧ r = tm (plain' (bp B) (bP B)) ∧ B' = bst B (plain' (bp B) (bP B))) ∨ (40 < fpl (bp B) (bP B) ∧ r = -2 ∧ B' = B)
def A_mk (B : BS) (r : Int) (B' : BS) : Prop := B' = B ∧ ((wpI (bp B) (bP B) (sz (bP B) 0).toNat 0 0 = -1 ∧ r = 1) ∨ (wpI (bp B) (bP B) (sz (bP B) 0).toNat 0 0 ≠ -1 ∧ r = 0))
def A_of (n : Int) (B : BS) (r : Int) (B' : BS) : Prop := B' = B ∧ ((0 ≤ n ∧ r = wpI (bp B) (bP B) (sz (bP B) 0).toNat 0 n) ∨ (n < 0 ∧ r = -1))
def A_ls (B : BS) (r : Int) (B' : BS) : Prop := r = tm (bP B) - tm (lsn (bp B) (tm (bP B)).toNat (bP B)) ∧ B' = bst B (lsn (bp B) (tm (bP B)).toNat (bP B))
def A_mv (w s t : Int) (B : BS) (r : Int) (B' : BS) : Prop := (¬ (okw w ∧ okt (bP B) s ∧ okt (bP B) t ∧ s ≠ t) ∧ r = -1 ∧ B' = B) ∨ ((okw w ∧ okt (bP B) s ∧ okt (bP B) t ∧ s ≠ t) ∧ (¬ alk (bp B) (bP B) w s t ∧ r = -4 ∧ B' = B ∨ alk (bp B) (bP B) w s t ∧ r = 1 ∧ B' = bst B (mv (bp B) (bP B) w s t)))
def A_wk (x n : Int) (B : BS) (r : Int) (B' : BS) : Prop := ((n < 0 ∨ 200 < n) ∧ r = -1 ∧ B' = B) ∨ ((0 ≤ n ∧ n ≤ 200) ∧ r = tm (wkn (bp B) n.toNat x (bP B)) ∧ B' = bst B (wkn (bp B) n.toNat x (bP B)))
def A_ar (B : BS) (r : Int) (B' : BS) : Prop := r = 1 ∧ B' = bsh B (trd (bp B) (bP B))
def A_tn (w a b f : Int) (B : BS) (r : Int) (B' : BS) : Prop := ((okw w ∧ (0 ≤ a ∧ a < sz (bP B) w) ∧ (0 ≤ b ∧ b < sz (bP B) w) ∧ a ≠ b ∧ isD (bp B) f) ∧ r = 1 ∧ B' = bst B (trn (bp B) (bP B) w a b f)) ∨ (¬ (okw w ∧ (0 ≤ a ∧ a < sz (bP B) w) ∧ (0 ≤ b ∧ b < sz (bP B) w) ∧ a ≠ b ∧ isD (bp B) f) ∧ r = -1 ∧ B' = B)
def A_rk (w : Int) (B : BS) (r : Int) (B' : BS) : Prop := B' = B ∧ ((okw w ∧ ∃ n : Nat, RK (bp B) 9 81 (cl (bp B) (bP B) w) n ∧ r = n) ∨ (w = 3 ∧ ∃ n0 n1 n2 : Nat, RK (bp B) 9 81 (cl (bp B) (bP B) 0) n0 ∧ RK (bp B) 9 81 (cl (bp B) (bP B) 1) n1 ∧ RK (bp B) 9 81 (cl (bp B) (bP B) 2) n2 ∧ r = (if (n0 : Int) < (if (n1 : Int) < (n2 : Int) then (n2 : Int) else (n1 : Int)) then (if (n1 : Int) < (n2 : Int) then (n2 : Int) else (n1 : Int)) else (n0 : Int))) ∨ ((w < 0 ∨ 3 < w) ∧ r = -1))
abbrev sh2 (p : Int) (P : PS) : Int := shs p (sz P 0) * shs p (sz P 1)
def A_le (B : BS) (r : Int) (B' : BS) : Prop := B' = B ∧ ((60 < sh2 (bp B) (bP B) ∧ r = -3) ∨ (sh2 (bp B) (bP B) ≤ 60 ∧ (∀ m : Nat, m ≤ 4 → ∀ c, ¬ CanC (bp B) (bP B) m c) ∧ r = -5) ∨ (sh2 (bp B) (bP B) ≤ 60 ∧ ∃ (n : Nat) (c : Int → Int), n ≤ 4 ∧ isLst (bp B) (bP B) n c ∧ r = n))
abbrev fiP (p : Int) (P : PS) (n : Nat) (c W : Int → Int) : PS := wsP P n (fun s => (prs p P).2.1 (c s)) (fun s => (prs p P).2.2 (c s)) W
def isW (p : Int) (P : PS) (n : Nat) (c W : Int → Int) : Prop := ∀ k : Int, 0 ≤ k → k < sz P 2 → ∀ i : Int, 0 ≤ i → i < 9 → p ∣ D p (slc p P k) i - sm (fun s => D p (W s) k * D p (tbl p P (c s)) i) n
def A_fi (B : BS) (r : Int) (B' : BS) : Prop := (60 < sh2 (bp B) (bP B) ∧ r = -3 ∧ B' = B) ∨ (sh2 (bp B) (bP B) ≤ 60 ∧ (∀ m : Nat, m ≤ 4 → ∀ c, ¬ CanC (bp B) (bP B) m c) ∧ r = -5 ∧ B' = B) ∨ (sh2 (bp B) (bP B) ≤ 60 ∧ ∃ (n : Nat) (c W : Int → Int), n ≤ 4 ∧ isLst (bp B) (bP B) n c ∧ isW (bp B) (bP B) n c W ∧ WF (bp B) (fiP (bp B) (bP B) n c W) ∧ r = n ∧ B' = bst B (fiP (bp B) (bP B) n c W))
def A_ha (w i v : Int) (B : BS) (r : Int) (B' : BS) : Prop := (((w = 0 ∨ w = 1) ∧ (0 ≤ i ∧ i < sz (bP B) w) ∧ isD (bp B) v) ∧ r = 1 ∧ B' = (bp B, bP B, (if w = 0 then wn (bp B) (bx B) i v else bx B), (if w = 0 then by' B else wn (bp B) (by' B) i v), B.2.2.2.2)) ∨ (¬ ((w = 0 ∨ w = 1) ∧ (0 ≤ i ∧ i < sz (bP B) w) ∧ isD (bp B) v) ∧ r = -1 ∧ B' = B)
def A_ru (w : Int) (B : BS) (r : Int) (B' : BS) : Prop := B' = B ∧ ((w = 0 ∧ r = bbI (bp B) (bP B) (bx B) (by' B) (sz (bP B) 0).toNat) ∨ (w = 1 ∧ r = bsT (bp B) (bP B) (bx B) (by' B) (tm (bP B)).toNat) ∨ ((w < 0 ∨ 1 < w) ∧ r = -1))
def A_su (w v : Int) (B : BS) (r : Int) (B' : BS) : Prop := B' = B ∧ (((w = 0 ∨ w = 1) ∧ v = 0 ∧ r = sms (fun t => D (bp B) (rw' (bP B) (40 * w + t))) (tm (bP B)).toNat (sz (bP B) w)) ∨ ((w = 0 ∨ w = 1) ∧ v = 1 ∧ shR (bp B) (tm (bP B)).toNat 40 (fun t => D (bp B) (rw' (bP B) (40 * w + t))) (sz (bP B) w) 0 r) ∨ (¬ ((w = 0 ∨ w = 1) ∧ (v = 0 ∨ v = 1)) ∧ r = -1))
def okq (q : Int) : Prop := 0 ≤ q ∧ q < 4
def A_ke (q : Int) (B : BS) (r : Int) (B' : BS) : Prop := (okq q ∧ r = 1 ∧ B' = (bp B, bP B, bx B, by' B, up1 (bK B) q 1, fun k => if k = q then bP B else bQ B k)) ∨ (¬ okq q ∧ r = -1 ∧ B' = B)
def A_ba (q : Int) (B : BS) (r : Int) (B' : BS) : Prop := (¬ okq q ∧ r = -1 ∧ B' = B) ∨ (okq q ∧ (bK B q = 0 ∧ r = -4 ∧ B' = B ∨ bK B q ≠ 0 ∧ r = 1 ∧ B' = bsh B (bQ B q)))
def A_be (q : Int) (B : BS) (r : Int) (B' : BS) : Prop := (¬ okq q ∧ r = -1 ∧ B' = B) ∨ (okq q ∧ (bK B q = 0 ∧ r = -4 ∧ B' = B ∨ bK B q ≠ 0 ∧ ((∃ w, okw w ∧ 9 < sz (bP B) w + sz (bQ B q) w) ∧ r = -3 ∧ B' = B ∨ (∀ w, 0 ≤ w → w < 3 → sz (bP B) w + sz (bQ B q) w ≤ 9) ∧ (40 < tm (bP B) + tm (bQ B q) ∧ r = -2 ∧ B' = B ∨ tm (bP B) + tm (bQ B q) ≤ 40 ∧ r = tm (bP B) + tm (bQ B q) ∧ B' = bsh B (bes (bp B) (bP B) (bQ B q))))))
def A_wi (q : Int) (B : BS) (r : Int) (B' : BS) : Prop := (¬ okq q ∧ r = -1 ∧ B' = B) ∨ (okq q ∧ (bK B q = 0 ∧ r = -4 ∧ B' = B ∨ bK B q ≠ 0 ∧ ((∃ w, okw w ∧ 9 < sz (bP B) w * sz (bQ B q) w) ∧ r = -3 ∧ B' = B ∨ (∀ w, 0 ≤ w → w < 3 → sz (bP B) w * sz (bQ B q) w ≤ 9) ∧ (40 < tm (bP B) * tm (bQ B q) ∧ r = -2 ∧ B' = B ∨ tm (bP B) * tm (bQ B q) ≤ 40 ∧ r = tm (bP B) * tm (bQ B q) ∧ B' = bsh B (wth (bp B) (bP B) (bQ B q))))))
