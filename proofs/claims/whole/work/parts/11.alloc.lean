def hcl (h : HP) (a : Int) (f : Int → Int) : HP := fun a' => if a' = a then f else h a'
theorem hcl_o {h : HP} {a a' : Int} {f : Int → Int} (ha : a' ≠ a) : hcl h a f a' = h a' := if_neg ha
theorem hcl_s {h : HP} {a : Int} {f : Int → Int} : hcl h a f a = f := if_pos rfl
theorem wsOf_push {E : EV} {G : GS} {h : HP} {q : Nat × Nat} {f : Int → Int} : wsOf E (G ++ [q]) (hcl h G.length f) = wsOf E G h ++ [(eB E + G.length, ent E q f)] := by
  apply List.ext_getElem?
  intro i
  by_cases hi : i < G.length
  · have h1 : (G ++ [q])[i]? = some (G[i]'hi) := by rw [List.getElem?_append_left hi, List.getElem?_eq_getElem hi]
    rw [wsOf_get h1, List.getElem?_append_left (by rw [wsOf_len]; exact hi), wsOf_get (List.getElem?_eq_getElem hi), hcl_o (by omega)]
  · by_cases e : i = G.length
    · subst e
      have h1 : (G ++ [q])[G.length]? = some q := by simp
      rw [wsOf_get h1, hcl_s, List.getElem?_append_right (by rw [wsOf_len]; omega)]
      simp [wsOf_len]
    · rw [List.getElem?_eq_none (by simp [wsOf_len]; omega), List.getElem?_eq_none (by simp [wsOf_len]; omega)]
theorem Wld_push {E : EV} {G : GS} {h : HP} {H H1 : Heap} {q : Nat × Nat} {f : Int → Int} (hW : Wld E G h H) (hs : H1.size = H.size + 1) (ho : ∀ x : Nat, x < H.size → H1[x]? = H[x]?) (he : va_at E.1 vwCl (eB E + G.length, ent E q f) H1) (h1 : q.2 < 2 ^ 31 ∧ (q.1 < 10 → q.2 = cN q.1)) (h2 : q.1 = 11 → ∀ j, f j = 0 ∨ f j = 1) : Wld E (G ++ [q]) (hcl h G.length f) H1 := by
  obtain ⟨w1, w2, w3, w4⟩ := hW
  refine ⟨by rw [hs, w1]; simp; omega, ?_, ?_, ?_⟩
  · rw [wsOf_push]
    refine (w2.kept (fun k x hx => ho x.1 ((w2 k x hx).lt))).app (fun k x hx => ?_)
    have hz : k < 1 := (List.getElem?_eq_some_iff.mp hx).1
    rw [show k = 0 by omega] at hx
    cases hx
    exact he
  · intro x hx
    rcases List.mem_append.mp hx with hx | hx
    · exact w3 x hx
    · rw [List.mem_singleton.mp hx]; exact h1
  · intro k n hk j
    by_cases hi : k < G.length
    · rw [List.getElem?_append_left hi] at hk
      rw [hcl_o (by omega)]
      exact w4 k n hk j
    · have hkl : k = G.length := by
        have := (List.getElem?_eq_some_iff.mp hk).1
        simp at this; omega
      subst hkl
      have : q = (11, n) := by simpa using hk
      rw [hcl_s]
      exact h2 (by rw [this]) j
theorem va_S_push {A : Nat → Prop} {H0 H H1 : Heap} {locs : List Loc} (hS : va_S A H0 H locs) (hs : H1.size = H.size + 1) (ho : ∀ x : Nat, x < H.size → H1[x]? = H[x]?) : va_S A H0 H1 locs :=
  ⟨Nat.le_trans hS.1 (by omega), fun x h1 h2 => (ho x (Nat.lt_of_lt_of_le h1 hS.1)).trans (hS.2.1 x h1 h2), hS.2.2⟩
def dfo (c : Nat) : Int → Int := fun j => if fk c j.toNat = 2 then -1 else 0
def okK : FieldType → Bool
  | .int => true
  | .boolean => true
  | .object _ => true
  | .array _ => true
  | _ => false
theorem okK_all : ∀ c, c < 10 → ∀ k, k < cN c → okK (cty c k) = true := by decide +kernel
section Alloc
variable {l : Launch} {M : MD} {pc d mc ms cu su : Nat} {loc : LV} {st : List AV} {G : GS} {h : HP} {Q : Int → GS → HP → Prop}
theorem s_objInit {idx : Nat} {a : Int} (hd : decode M.2.1 pc = .ok (.invokespecial idx, 3)) (hlk : Cond.methodLink M.1.cls idx Lib.objectInit ∈ lw_tbl) (hin : Cond.instanceMethod Lib.objectInit ∈ lw_tbl) (hco : Cond.code Lib.objectInit ⟨#[0xb1]⟩ 1 none ∈ lw_tbl) (ha : 0 ≤ a) (hw : (st.map ctg).sum ≤ 8) (k : S l M (d + 1, mc, ms, cu, su) (pc + 3) loc st G h Q) : S l M (d + 1, mc, ms, cu, su) pc loc (vR a :: st) G h Q := by
  intro E p e s m args below meth c A H locs ls hW hS hl
  have hts := A.2.2.2.2.2.1
  rw [List.map_cons, av_ref ha]
  refine W.objInit A.1 A.2.1 A.2.2.2.2.1 (hts _ (lg hlk rfl)) (hts _ (lg hin rfl)) (hts _ (lg hco rfl)) rfl (by rw [A.2.2.2.1]; exact hl.1) rfl hd (Nat.succ_le_succ (Nat.zero_le _)) ?_ (k E p e s m args below meth c A H locs ls hW hS hl)
  rw [cat_sum]
  show 2 * 0 + _ + 12 ≤ 64 * (d + 1)
  omega
theorem s_new {c idx : Nat} (hd : decode M.2.1 pc = .ok (.new idx, 3)) (hlk : Cond.classLink M.1.cls idx (cR c) ∈ lw_tbl) (hins : Cond.instantiable (cR c) (cN c) ∈ lw_tbl) (hini : Cond.initialized (cR c) ∈ lw_tbl) (hc : c < 10) (hb : cu + 1 ≤ mc ∧ su + cN c ≤ ms)
    (kk : S l M (d, mc, ms, cu + 1, su + cN c) (pc + 3) loc (vR G.length :: st) (G ++ [(c, cN c)]) (hcl h G.length (dfo c)) Q) : S l M (d, mc, ms, cu, su) pc loc st G h Q := by
  intro E p e s m args below meth cd A H locs ls hW hS hl
  have hts := A.2.2.2.2.2.1
  obtain ⟨c1, c2, c3, c4⟩ := cls_ok hc
  have hKn := A.2.2.2.2.2.2.1.1 c _ c1
  refine W.newc A.1 A.2.1 A.2.2.2.2.1 (hts _ (lg hlk rfl)) (hts _ (lg hins rfl)) (hts _ (lg hini rfl)) rfl hd hb.1 hb.2 (fun cC kC f1 f2 f3 f4 => ?_)
  have ecC : cC = E.1.1 c := Option.some.inj (f1.symm.trans hKn.2.1)
  subst ecC
  generalize hH1 : H.push ({ cls := E.1.1 c, slots := kC.instanceTypes.map defaultValue, vm := .none } : Cell) = H1
  have z1 : H1.size = H.size + 1 := by rw [← hH1, Array.size_push]
  have e1 : H1[H.size]? = some (blank (E.1.1 c) kC) := by rw [← hH1, Array.getElem?_push_size]; rfl
  have o1 : ∀ q : Nat, q < H.size → H1[q]? = H[q]? := fun q hq => by rw [← hH1, Array.getElem?_push, if_neg (Nat.ne_of_lt hq)]
  have hborn := u_born (cty c) hts c2 hKn f2 e1 c3
  have hat : va_at E.1 vwCl (eB E + G.length, ent E (c, cN c) (dfo c)) H1 := by
    rw [ent_obj hc]
    refine ⟨_, c1, ?_⟩
    rw [← hW.1]
    refine hborn.to (fun k hk => ?_)
    have e3 : vp_V ((List.range (cN c)).map fun j => av E (fk c j, dfo c j)) k = av E (fk c k, dfo c k) := by
      unfold vp_V
      rw [List.getD_eq_getElem?_getD, List.getElem?_map, List.getElem?_range hk]; rfl
    rw [e3]
    have hok := okK_all c hc k hk
    unfold dfo fk
    rw [Int.toNat_natCast]
    cases hq : cty c k <;> rw [hq] at hok <;> first | rfl | (simp [okK] at hok)
  have := kk E p e s m args below meth cd A H1 locs ls (Wld_push hW z1 o1 hat ⟨by revert hc; show c < 10 → cN c < _; intro hc; match c, hc with | 0, _ => decide | 1, _ => decide | 2, _ => decide | 3, _ => decide | 4, _ => decide | 5, _ => decide | 6, _ => decide | 7, _ => decide | 8, _ => decide | 9, _ => decide | c + 10, h => exact absurd h (by omega), fun _ => rfl⟩ (fun e => by simp at e; omega)) (va_S_push hS z1 o1) hl
  rw [List.map_cons, av_ref (by omega), Int.toNat_natCast, ← hW.1] at this
  exact this
theorem s_newI {n : Nat} (hd : decode M.2.1 pc = .ok (.newarray .int, 2)) (hac : Cond.arrayClass .int ∈ lw_tbl) (hn : n < 100000) (hb : cu + 1 ≤ mc ∧ su + n ≤ ms)
    (kk : S l M (d, mc, ms, cu + 1, su + n) (pc + 2) loc (vR G.length :: st) (G ++ [(10, n)]) (hcl h G.length (fun _ => 0)) Q) : S l M (d, mc, ms, cu, su) pc loc (vI (n : Int) :: st) G h Q := by
  intro E p e s m args below meth cd A H locs ls hW hS hl
  have hts := A.2.2.2.2.2.1
  rw [List.map_cons]
  refine va_newaK (atype := .int) (N := n) (h := H.size) A.1 A.2.1 (hts _ (lg hac rfl)) rfl hd rfl (by rw [show (0 : Int32) = Int32.ofInt 0 from rfl, i32_lt ⟨by omega, by omega⟩ (by decide)]; omega) (by rw [i32_cl (by omega) (by omega)]; omega) (by show n * 4 ≤ _; omega) hb.1 hb.2 rfl (fun H1 cA e1 z1 o1 f1 f2 => ?_)
  have ecA : cA = E.2.1 := Option.some.inj (f2.symm.trans (A.2.2.2.2.2.2.1.2 0 _ rfl).2)
  subst ecA
  have := kk E p e s m args below meth cd A H1 locs ls (Wld_push hW z1 o1 (by rw [← hW.1]; exact e1) ⟨by show n < _; omega, fun h => absurd h (Nat.not_lt.mpr (Nat.le_of_ble_eq_true rfl))⟩ (fun e => by simp at e)) (va_S_push hS z1 o1) hl
  rw [List.map_cons, av_ref (by omega), Int.toNat_natCast, ← hW.1] at this
  exact this
theorem s_newZ {n : Nat} (hd : decode M.2.1 pc = .ok (.newarray .boolean, 2)) (hac : Cond.arrayClass .boolean ∈ lw_tbl) (hn : n < 100000) (hb : cu + 1 ≤ mc ∧ su + n ≤ ms)
    (kk : S l M (d, mc, ms, cu + 1, su + n) (pc + 2) loc (vR G.length :: st) (G ++ [(11, n)]) (hcl h G.length (fun _ => 0)) Q) : S l M (d, mc, ms, cu, su) pc loc (vI (n : Int) :: st) G h Q := by
  intro E p e s m args below meth cd A H locs ls hW hS hl
  have hts := A.2.2.2.2.2.1
  rw [List.map_cons]
  refine va_newaK (atype := .boolean) (N := n) (h := H.size) A.1 A.2.1 (hts _ (lg hac rfl)) rfl hd rfl (by rw [show (0 : Int32) = Int32.ofInt 0 from rfl, i32_lt ⟨by omega, by omega⟩ (by decide)]; omega) (by rw [i32_cl (by omega) (by omega)]; omega) (by show n * 1 ≤ _; omega) hb.1 hb.2 rfl (fun H1 cA e1 z1 o1 f1 f2 => ?_)
  have ecA : cA = E.2.2.1 := Option.some.inj (f2.symm.trans (A.2.2.2.2.2.2.1.2 1 _ rfl).2)
  subst ecA
  have := kk E p e s m args below meth cd A H1 locs ls (Wld_push hW z1 o1 (by rw [← hW.1]; exact e1) ⟨by show n < _; omega, fun h => absurd h (Nat.not_lt.mpr (Nat.le_of_ble_eq_true rfl))⟩ (fun _ _ => Or.inl rfl)) (va_S_push hS z1 o1) hl
  rw [List.map_cons, av_ref (by omega), Int.toNat_natCast, ← hW.1] at this
  exact this
theorem s_anewP {n idx : Nat} (hd : decode M.2.1 pc = .ok (.anewarray idx, 3)) (hlk : Cond.classLink M.1.cls idx "TimesBench$Piece" ∈ lw_tbl) (hao : Cond.arrayOver (.object "TimesBench$Piece") ∈ lw_tbl) (hn : n < 100000) (hb : cu + 1 ≤ mc ∧ su + n ≤ ms)
    (kk : S l M (d, mc, ms, cu + 1, su + n) (pc + 3) loc (vR G.length :: st) (G ++ [(12, n)]) (hcl h G.length (fun _ => -1)) Q) : S l M (d, mc, ms, cu, su) pc loc (vI (n : Int) :: st) G h Q := by
  intro E p e s m args below meth cd A H locs ls hW hS hl
  have hts := A.2.2.2.2.2.1
  have en : (Int32.ofInt (n : Int)).toNatClampNeg = n := by rw [i32_cl (by omega) (by omega)]; omega
  rw [List.map_cons]
  refine W.anew (n := Int32.ofInt (n : Int)) A.1 A.2.1 A.2.2.2.2.1 (hts _ (lg hlk rfl)) (hts _ (lg hao rfl)) rfl hd rfl (by rw [show (0 : Int32) = Int32.ofInt 0 from rfl, i32_lt ⟨by omega, by omega⟩ (by decide)]; omega) (by rw [en]; omega) hb.1 (by rw [en]; exact hb.2) (fun cA kA comp f1 f2 f3 f4 => ?_)
  rw [en]
  obtain ⟨kA', comp', g1, g2, g3, g4⟩ := (A.2.2.2.2.2.2.1.2 2 _ rfl).2
  have ecA : cA = E.2.2.2.1 := Option.some.inj (f1.symm.trans g4)
  subst ecA
  generalize hH1 : H.push ({ cls := E.2.2.2.1, slots := Array.replicate n .null, vm := .none } : Cell) = H1
  have z1 : H1.size = H.size + 1 := by rw [← hH1, Array.size_push]
  have e1 : H1[H.size]? = some (arrV E.2.2.2.1 n (fun _ => .null)) := by rw [← hH1, Array.getElem?_push_size, ← arrV_new]
  have o1 : ∀ q : Nat, q < H.size → H1[q]? = H[q]? := fun q hq => by rw [← hH1, Array.getElem?_push, if_neg (Nat.ne_of_lt hq)]
  have := kk E p e s m args below meth cd A H1 locs ls (Wld_push hW z1 o1 (by rw [← hW.1]; exact e1) ⟨by show n < _; omega, fun h => absurd h (Nat.not_lt.mpr (Nat.le_of_ble_eq_true rfl))⟩ (fun e => by simp at e)) (va_S_push hS z1 o1) hl
  rw [List.map_cons, av_ref (by omega), Int.toNat_natCast, ← hW.1] at this
  exact this
theorem s_aastP {a i x : Int} (hd : decode M.2.1 pc = .ok (.aastore, 1)) (hin : inA G 12 a i) (hx : ty G x = 4) (kk : S l M (d, mc, ms, cu, su) (pc + 1) loc st G (hset h a i x) Q) : S l M (d, mc, ms, cu, su) pc loc (vR x :: vI i :: vR a :: st) G h Q := by
  intro E p e s m args below meth cd A H locs ls hW hS hl
  obtain ⟨hty, h0, h1⟩ := hin
  obtain ⟨k, n, rfl, hi, hln, hil⟩ := ty_some hty (by omega)
  obtain ⟨kx, nx, rfl, hix, -, hixl⟩ := ty_some hx (by omega)
  rw [hln] at h1
  obtain ⟨hv, hcl⟩ := in_of h0 h1 (hW.2.2.1 _ (List.mem_of_getElem? hi)).1
  rw [List.map_cons, List.map_cons, List.map_cons, av_ref (a := (k : Int)) (by omega), av_ref (a := (kx : Int)) (by omega), Int.toNat_natCast, Int.toNat_natCast]
  have he := wsOf_get (E := E) (h := h) hi
  have hex := wsOf_get (E := E) (h := h) hix
  rw [ent_obj (by omega)] at hex
  have hc := hW.2.1 k _ he
  obtain ⟨r', hr', cellV, g1, g2, g3, -⟩ := hW.2.1 kx _ hex
  obtain ⟨c1, -, -, -⟩ := cls_ok (c := 4) (by omega)
  have hKn := A.2.2.2.2.2.2.1.1 4 _ c1
  obtain ⟨kA', comp', q1, q2, q3, q4⟩ := (A.2.2.2.2.2.2.1.2 2 _ rfl).2
  have hcomp : comp' = E.1.1 4 := Option.some.inj (q3.symm.trans hKn.2.1)
  obtain ⟨hfc, kC, hkC, hkind⟩ := hKn.2
  refine W.aast (comp := E.1.1 4) (t := .object "TimesBench$Piece") A.1 A.2.1 hc (fun q z => by cases z) (fun q => by cases q) q1 (by rw [q2, hcomp]) rfl hkC ⟨fun z => hv (Or.inl z), by show _ < (arrV _ _ _).slots.size; rw [arrV_size]; exact Nat.not_le.mp (fun z => hv (Or.inr z))⟩ g1 (fun q z => by rw [g3] at z; cases z) (by rw [g2]; exact hkC) (by rw [g2]; exact va_assign ⟨hfc, kC, hkC, hkind⟩) rfl rfl hd fun H' e1 e2 e3 => ?_
  rw [hcl] at e1 ⊢
  have e4 : H'[eB E + k]? = some (vp_cell E.2.2.2.1 (n, .inr (.inr (.inr (.inr fun j : Nat => rfo E (hset h k i kx k (j : Int))))))) := by
    rw [e1]
    show some (Cell.setSlot (vp_cell E.2.2.2.1 (n, .inr (.inr (.inr (.inr fun j : Nat => rfo E (h k (j : Int))))))) i.toNat (.ref (eB E + kx))) = _
    rw [vp_cell_q, vp_cell_q, arrV_store]
    congr 2
    funext q
    by_cases hq : q = i.toNat
    · subst hq
      have e : ((i.toNat : Nat) : Int) = i := by omega
      have e9 : ¬ ((kx : Int) < 0) := by omega
      simp [updV, hset, e, rfo, va_rf, e9]
    · have e : ¬ ((q : Int) = i) := by omega
      simp [updV, hq, hset, e]
  exact kk E p e s m args below meth cd A H' _ ls (Wld_set hW e2 hi (e := .inl (E.2.2.2.1, n, .inr (.inr (.inr (.inr fun j : Nat => rfo E (hset h k i kx k (j : Int))))))) rfl (hW.2.1.set wsOf_D he e4 e3) (fun e => by simp at e)) (hS.put e2 e3 (by unfold frA; omega)) hl
end Alloc
