/-- where the j-th comes from when the t-th has gone -/
def sk (t j : Int) : Int := if t ≤ j then j + 1 else j
theorem cv_rm {g : Int → Int} {t v : Int} (h0 : 0 ≤ t) : ∀ n : Nat, cv (fun j => g (sk t j)) v n = if t < n then cv g v (n + 1) - (if g t = v then 1 else 0) else cv g v n
  | 0 => by rw [if_neg (show ¬ t < ((0 : Nat) : Int) by omega)]; rfl
  | n + 1 => by
    show cv (fun j => g (sk t j)) v n + (if g (sk t n) = v then 1 else 0) = _
    rw [cv_rm h0 n]
    have e2 : cv g v (n + 1 + 1) = cv g v n + (if g n = v then 1 else 0) + (if g ((n + 1 : Nat) : Int) = v then 1 else 0) := rfl
    have e1 : cv g v (n + 1) = cv g v n + (if g n = v then 1 else 0) := rfl
    by_cases c : t < (n : Int)
    · rw [if_pos c, if_pos (show t < ((n + 1 : Nat) : Int) by omega), e2, e1]
      unfold sk
      rw [if_pos (show t ≤ (n : Int) by omega)]
      show _ + (if g ((n : Int) + 1) = v then 1 else 0) = _ + (if g ((n : Int) + 1) = v then 1 else 0) - _
      omega
    · rw [if_neg c]
      by_cases e : t = (n : Int)
      · rw [if_pos (show t < ((n + 1 : Nat) : Int) by omega), e2]
        unfold sk
        rw [if_pos (show t ≤ (n : Int) by omega), e]
        show _ + (if g ((n : Int) + 1) = v then 1 else 0) = _ + (if g ((n : Int) + 1) = v then 1 else 0) - _
        omega
      · rw [if_neg (show ¬ t < ((n + 1 : Nat) : Int) by omega), e1]
        unfold sk
        rw [if_neg (show ¬ t ≤ (n : Int) by omega)]
/-- the t-th time gone -/
def rmv (P : PS) (t : Int) : PS := (P.1, P.2.1, P.2.2.1 - 1, fun k => if t ≤ k % 40 then P.2.2.2 (k + 1) else P.2.2.2 k)
theorem rmv_g {P : PS} {t w j : Int} (j0 : 0 ≤ j) (j1 : j < 40) : rw' (rmv P t) (40 * w + j) = rw' P (40 * w + sk t j) := by
  show (if t ≤ (40 * w + j) % 40 then P.2.2.2 (40 * w + j + 1) else P.2.2.2 (40 * w + j)) = P.2.2.2 (40 * w + sk t j)
  unfold sk
  rw [show (40 * w + j) % 40 = j by omega]
  by_cases c : t ≤ j
  · rw [if_pos c, if_pos c, Int.add_assoc]
  · rw [if_neg c, if_neg c]
section Rem
variable {l : Launch} {d : Nat} {h : HP} {p a : Int} {P : PS} {Q : Int → GS → HP → Prop}
theorem cp_at {h : HP} {b s t n k : Int} : hcopy h b s b t n b k = if t ≤ k ∧ k < t + n then h b (s + (k - t)) else h b k := by
  unfold hcopy
  by_cases c : t ≤ k ∧ k < t + n
  · rw [if_pos c, if_pos ⟨rfl, c.1, c.2⟩]
  · rw [if_neg c, if_neg (fun z => c z.2)]
theorem cp_o {h : HP} {b0 s b t n c : Int} (hc : c ≠ b) : hcopy h b0 s b t n c = h c := by
  funext k
  unfold hcopy
  rw [if_neg (fun z => hc z.1)]
set_option maxHeartbeats 1000000 in
theorem rX4_remove {t : Int} (hg : Gd h p) (ha : isP a) (hX : XP h a p P) (hW : WF p P) (t0 : 0 ≤ t) (tT : t < tm P) (hQ : ∀ h', XP h' a p (rmv P t) → FrP a h h' → (h' (a + 1) = h (a + 1) ∧ h' (a + 2) = h (a + 2)) → Q 0 G0 h') : R l MX4_remove (d + 1) 0 0 [vR a, vI t] G0 h Q := by
  have hisP := isP_b ha
  have T40 := hW.2.2.1
  obtain ⟨x1, x2, x3, x4, x5, x6, x7⟩ := id hX
  refine eX4_remove a t (vX4_remove_0 a t ?_)
  simp only [x4]
  refine ⟨(tP ha).1, ?_⟩
  refine lp_up (σ := HP) (fun n hh => S l MX4_remove (d + 1, 0, 0, 0, 0) 11 [some (vR a), some (vI t), some (vI (tm P - t - 1)), some (vI n), none] [] G0 hh Q) (fun n hh => 0 ≤ n ∧ (∀ b, b ≠ a + 3 → b ≠ a + 4 → b ≠ a + 5 → hh b = h b) ∧ (∀ m j, 0 ≤ m → m < n → 0 ≤ j → j < tm P - 1 → hh (a + 3) (40 * m + j) = rw' P (40 * m + sk t j) ∧ hh (a + 4) (40 * m + j) = shp p (rw' P (40 * m + sk t j)) ∧ hh (a + 5) (40 * m + j) = mcn p (rmv P t) m j) ∧ ∀ m j, n ≤ m → m < 3 → 0 ≤ j → j < tm P → hh (a + 3) (40 * m + j) = h (a + 3) (40 * m + j) ∧ hh (a + 4) (40 * m + j) = h (a + 4) (40 * m + j) ∧ hh (a + 5) (40 * m + j) = h (a + 5) (40 * m + j)) 3 ?_ ?_ 0 h (by decide) ⟨by decide, fun _ _ _ _ => rfl, fun m j m0 m1 => by omega, fun _ _ _ _ _ _ => ⟨rfl, rfl, rfl⟩⟩
  · intro n hh hn ⟨n0, i1, i2, i3⟩ ih
    have ea := i1 a (by omega) (by omega) (by omega)
    refine vX4_remove_11 a t _ n ⟨⟨by omega, by omega⟩, fun c => by omega, fun _ => ⟨(tP ha).1, ?_⟩⟩
    have sj : ∀ j, 0 ≤ j → j < tm P → hh (a + 4) (40 * n + j) = shp p (rw' P (40 * n + j)) := fun j j0 jT => by rw [(i3 n j (by omega) hn j0 jT).2.1]; exact x6 n j n0 hn j0 jT
    refine rX4_countMates ha (by unfold Pr; rw [ea]; exact x1) (by rw [ea]; exact x4) T40.2 n0 hn t0 tT (fun j j0 jT => by rw [sj j j0 jT]; exact shp_i hg.1) (fun h7 f7 k7 => ?_)
    have ea7 : h7 a = h a := by rw [f7 a (by omega)]; exact ea
    simp only [ea7, x1.2.2.2.1]
    refine ⟨(tP ha).1, ⟨⟨(tP ha).2.2.2.1.1, (tP ha).2.2.2.1.1⟩, ⟨by omega, by omega, by omega⟩, by rw [(tP ha).2.2.2.1.2]; omega, by rw [(tP ha).2.2.2.1.2]; omega⟩, fun h11 e11 => ?_⟩
    have ea11 : h11 a = h a := by rw [e11, cp_o (by omega)]; exact ea7
    simp only [ea11, x1.2.2.2.2.1]
    refine ⟨⟨⟨(tP ha).2.2.2.2.1.1, (tP ha).2.2.2.2.1.1⟩, ⟨by omega, by omega, by omega⟩, by rw [(tP ha).2.2.2.2.1.2]; omega, by rw [(tP ha).2.2.2.2.1.2]; omega⟩, fun h13 e13 => ?_⟩
    have ea13 : h13 a = h a := by rw [e13, cp_o (by omega)]; exact ea11
    simp only [ea13, x1.2.2.2.2.2]
    refine ⟨⟨⟨(tP ha).2.2.2.2.2.1, (tP ha).2.2.2.2.2.1⟩, ⟨by omega, by omega, by omega⟩, by rw [(tP ha).2.2.2.2.2.2]; omega, by rw [(tP ha).2.2.2.2.2.2]; omega⟩, fun h15 e15 => ?_⟩
    have r15 : ∀ k, h15 (a + 3) k = if 40 * n + t ≤ k ∧ k < 40 * n + t + (tm P - t - 1) then hh (a + 3) (40 * n + t + 1 + (k - (40 * n + t))) else hh (a + 3) k := fun k => by
      rw [e15, cp_o (by omega), e13, cp_o (by omega), e11, cp_at, f7 _ (by omega)]
    have s15 : ∀ k, h15 (a + 4) k = if 40 * n + t ≤ k ∧ k < 40 * n + t + (tm P - t - 1) then hh (a + 4) (40 * n + t + 1 + (k - (40 * n + t))) else hh (a + 4) k := fun k => by
      rw [e15, cp_o (by omega), e13, cp_at, e11, cp_o (by omega), f7 _ (by omega)]
    have m15 : ∀ k, h15 (a + 5) k = if 40 * n + t ≤ k ∧ k < 40 * n + t + (tm P - t - 1) then h7 (a + 5) (40 * n + t + 1 + (k - (40 * n + t))) else h7 (a + 5) k := fun k => by
      rw [e15, cp_at, e13, cp_o (by omega), e11, cp_o (by omega)]
    have key : ∀ (f : Int → Int) (j : Int), 0 ≤ j → j < tm P - 1 → (if 40 * n + t ≤ 40 * n + j ∧ 40 * n + j < 40 * n + t + (tm P - t - 1) then f (40 * n + t + 1 + (40 * n + j - (40 * n + t))) else f (40 * n + j)) = f (40 * n + sk t j) := by
      intro f j j0 j1
      unfold sk
      by_cases c : t ≤ j
      · rw [if_pos (show 40 * n + t ≤ 40 * n + j ∧ 40 * n + j < 40 * n + t + (tm P - t - 1) by omega), if_pos c]
        congr 1
        omega
      · rw [if_neg (show ¬ (40 * n + t ≤ 40 * n + j ∧ 40 * n + j < 40 * n + t + (tm P - t - 1)) by omega), if_neg c]
    refine ih h15 ⟨by omega, fun b b3 b4 b5 => by rw [e15, cp_o b5, e13, cp_o b4, e11, cp_o b3, f7 b b5]; exact i1 b b3 b4 b5, fun m j m0 m1 j0 j1 => ?_, fun m j m0 m1 j0 j1 => ?_⟩
    · by_cases e : m = n
      · subst e
        have hsk : 0 ≤ sk t j ∧ sk t j < tm P ∧ sk t j ≠ t := by
          unfold sk
          by_cases c : t ≤ j
          · rw [if_pos c]; omega
          · rw [if_neg c]; omega
        rw [r15, key _ j j0 j1, s15, key _ j j0 j1, m15, key _ j j0 j1]
        have e3 := i3 m (sk t j) (by omega) hn hsk.1 hsk.2.1
        rw [e3.1, x5 m _ m0 hn hsk.1 hsk.2.1, e3.2.1, x6 m _ m0 hn hsk.1 hsk.2.1, k7, e3.2.2, x7 m _ m0 hn hsk.1 hsk.2.1]
        refine ⟨rfl, rfl, ?_⟩
        unfold dlt mcn
        rw [sj t t0 tT, if_neg (show ¬ (40 * m + sk t j = 40 * m + t) by omega), sj _ hsk.1 hsk.2.1, rmv_g j0 (by omega)]
        have e4 : cv (fun j => shp p (rw' (rmv P t) (40 * m + j))) (shp p (rw' P (40 * m + sk t j))) (tm (rmv P t)).toNat = cv (fun j => shp p (rw' P (40 * m + sk t j))) (shp p (rw' P (40 * m + sk t j))) (tm P - 1).toNat := cv_ext _ (fun i i0 i1' => by
          have : i < tm P - 1 := by
            have : ((tm (rmv P t)).toNat : Int) = tm P - 1 := by show ((tm P - 1).toNat : Int) = _; omega
            omega
          show shp p (rw' (rmv P t) (40 * m + i)) = _
          rw [rmv_g i0 (by omega)])
        rw [e4]
        have e5 : cv (fun j => shp p (rw' P (40 * m + sk t j))) (shp p (rw' P (40 * m + sk t j))) (tm P - 1).toNat = cv (fun j => shp p (rw' P (40 * m + j))) (shp p (rw' P (40 * m + sk t j))) (tm P).toNat - (if shp p (rw' P (40 * m + t)) = shp p (rw' P (40 * m + sk t j)) then 1 else 0) := by
          rw [cv_rm (g := fun j => shp p (rw' P (40 * m + j))) t0 (tm P - 1).toNat]
          by_cases c : t < ((tm P - 1).toNat : Int)
          · rw [if_pos c, show (tm P - 1).toNat + 1 = (tm P).toNat by omega]
          · rw [if_neg c, show (tm P).toNat = (tm P - 1).toNat + 1 by omega]
            show _ = _ + (if shp p (rw' P (40 * m + ((tm P - 1).toNat : Int))) = _ then 1 else 0) - _
            rw [show ((tm P - 1).toNat : Int) = t by omega]
            omega
        rw [e5]
        generalize shp p (rw' P (40 * m + sk t j)) = gj
        generalize shp p (rw' P (40 * m + t)) = gt
        have i1' : (40 * m ≤ 40 * m + sk t j ∧ 40 * m + sk t j < 40 * m + tm P ∧ gj = gt) ↔ gj = gt := ⟨fun z => z.2.2, fun z => ⟨by omega, by omega, z⟩⟩
        simp only [i1']
        by_cases z0 : gj = 0
        · rw [if_pos z0, if_pos z0]
          by_cases z1 : gt = 0
          · rw [if_pos z1]; rfl
          · rw [if_neg z1, if_neg (show ¬ gj = gt by omega)]; rfl
        · rw [if_neg z0, if_neg z0]
          by_cases z1 : gt = gj
          · rw [if_neg (show ¬ gt = 0 by omega), if_pos z1.symm, if_pos z1]; omega
          · rw [if_neg z1]
            by_cases z2 : gt = 0
            · rw [if_pos z2]; omega
            · rw [if_neg z2, if_neg (Ne.symm z1)]; omega
      · have c : ¬ (40 * n + t ≤ 40 * m + j ∧ 40 * m + j < 40 * n + t + (tm P - t - 1)) := by omega
        rw [r15, if_neg c, s15, if_neg c, m15, if_neg c, k7]
        have z : dlt (hh (a + 4)) n t (-1) (tm P) (40 * m + j) = 0 := by
          unfold dlt
          by_cases q : hh (a + 4) (40 * n + t) = 0
          · rw [if_pos q]
          · rw [if_neg q, if_neg (show ¬ 40 * m + j = 40 * n + t by omega), if_neg (fun z => by omega)]
        rw [z, Int.add_zero]
        exact i2 m j m0 (by omega) j0 j1
    · have c : ¬ (40 * n + t ≤ 40 * m + j ∧ 40 * m + j < 40 * n + t + (tm P - t - 1)) := by omega
      rw [r15, if_neg c, s15, if_neg c, m15, if_neg c, k7]
      have z : dlt (hh (a + 4)) n t (-1) (tm P) (40 * m + j) = 0 := by
        unfold dlt
        by_cases q : hh (a + 4) (40 * n + t) = 0
        · rw [if_pos q]
        · rw [if_neg q, if_neg (show ¬ 40 * m + j = 40 * n + t by omega), if_neg (fun z => by omega)]
      rw [z, Int.add_zero]
      exact i3 m j (by omega) m1 j0 j1
  · intro hh ⟨n0, i1, i2, i3⟩
    have ea := i1 a (by omega) (by omega) (by omega)
    refine vX4_remove_11 a t _ 3 ⟨by decide, fun _ => ?_, fun c => absurd c (by decide)⟩
    simp only [ea, x4]
    refine ⟨(tP ha).1, fun h4 e4 => ?_⟩
    have o4 : ∀ b, b ≠ a → h4 b = hh b := fun b hb => by rw [e4, hset_oa hb]
    have a4 : ∀ j, j ≠ 6 → h4 a j = h a j := fun j hj => by rw [e4, hset_oj hj, ea]
    refine hQ h4 ⟨?_, by rw [o4 _ (by omega), i1 _ (by omega) (by omega) (by omega)]; exact x2, by rw [o4 _ (by omega), i1 _ (by omega) (by omega) (by omega)]; exact x3, by rw [e4, hset_s]; rfl, fun m j m0 m1 j0 j1 => ?_, fun m j m0 m1 j0 j1 => ?_, fun m j m0 m1 j0 j1 => ?_⟩ (fun b hb => by rw [o4 b (by omega)]; exact i1 b (by omega) (by omega) (by omega)) ⟨by rw [o4 _ (by omega), i1 _ (by omega) (by omega) (by omega)], by rw [o4 _ (by omega), i1 _ (by omega) (by omega) (by omega)]⟩
    · unfold Pr
      rw [a4 0 (by decide), a4 1 (by decide), a4 2 (by decide), a4 3 (by decide), a4 4 (by decide), a4 5 (by decide)]
      exact x1
    · have j1' : j < tm P - 1 := j1
      rw [o4 _ (by omega), rmv_g j0 (by omega)]
      exact (i2 m j m0 m1 j0 j1').1
    · have j1' : j < tm P - 1 := j1
      rw [o4 _ (by omega), rmv_g j0 (by omega)]
      exact (i2 m j m0 m1 j0 j1').2.1
    · have j1' : j < tm P - 1 := j1
      rw [o4 _ (by omega)]
      exact (i2 m j m0 m1 j0 j1').2.2
end Rem
