section Mem
variable {l : Launch} {M : MD} {b : BU} {pc : Nat} {loc : LV} {st : List AV} {G : GS} {h : HP} {Q : Int → GS → HP → Prop}
theorem hset_map {E : EV} {h : HP} {i c n k : Nat} {x : Int} (hk : k < n) : ((List.range n).map fun j => av E (fk c j, h i j)).set k (av E (fk c k, x)) = (List.range n).map fun j => av E (fk c j, hset h i k x i j) := by
  apply List.ext_getElem?
  intro j
  by_cases hj : j < n
  · by_cases e : j = k
    · subst e
      rw [List.getElem?_set_self (by simpa using hj), List.getElem?_map, List.getElem?_range hj]
      simp [hset]
    · rw [List.getElem?_set_ne (Ne.symm e), List.getElem?_map, List.getElem?_map, List.getElem?_range hj]
      have e2 : ¬ (j : Int) = (k : Int) := by omega
      simp [hset, e2]
  · rw [List.getElem?_eq_none (by simpa using hj), List.getElem?_eq_none (by simpa using hj)]
theorem s_getf {c k idx t : Nat} {a j : Int} (hd : decode M.2.1 pc = .ok (.getfield idx, 3)) (hlk : Cond.fieldLink M.1.cls idx (cT c k).1 (cT c k).2.1 (cT c k).2.2.1 ∈ lw_tbl) (hc : c < 10) (hk : k < cN c) (ht : fk c k = t) (hj : (k : Int) = j) (hty : ty G a = c) (kk : S l M b (pc + 3) loc ((t, h a j) :: st) G h Q) : S l M b pc loc (vR a :: st) G h Q := by
  intro E p e s m args below meth cd A H locs ls hW hS hl
  subst hj; subst ht
  obtain ⟨i, n, rfl, hi, -, hil⟩ := ty_some hty (by omega)
  obtain ⟨c1, c2, c3, c4⟩ := cls_ok hc
  have hn : n = cN c := (hW.2.2.1 _ (List.mem_of_getElem? hi)).2 hc
  subst hn
  rw [List.map_cons, av_ref (by omega), Int.toNat_natCast]
  have he := wsOf_get (E := E) (h := h) hi
  rw [ent_obj hc] at he
  refine va_get A.1 A.2.1 A.2.2.2.2.2.1 c2 A.2.2.2.2.1 A.2.2.2.2.2.2.1 hW.2.1 i he c1 k hk (A.2.2.2.2.2.1 _ (lg hlk rfl)) (fun _ hx => hx) (v := av E (fk c k, h i k)) ?_ hd (kk E p e s m args below meth cd A H locs ls hW hS hl)
  rw [List.getElem?_map, List.getElem?_range hk]; rfl
theorem s_put {c k idx t : Nat} {a j x : Int} (hd : decode M.2.1 pc = .ok (.putfield idx, 3)) (hlk : Cond.fieldLink M.1.cls idx (cT c k).1 (cT c k).2.1 (cT c k).2.2.1 ∈ lw_tbl) (hc : c < 10) (hk : k < cN c) (hfin : (cT c k).2.2.2 = false) (ht : fk c k = t) (hj : (k : Int) = j) (hn : ∀ E : EV, narrow (cty c k) (av E (t, x)) = av E (t, x) ∧ fits (cty c k) (av E (t, x)) = true) (hty : ty G a = c) (kk : S l M b (pc + 3) loc st G (hset h a j x) Q) : S l M b pc loc ((t, x) :: vR a :: st) G h Q := by
  intro E p e s m args below meth cd A H locs ls hW hS hl
  subst hj; subst ht
  obtain ⟨i, n, rfl, hi, -, hil⟩ := ty_some hty (by omega)
  obtain ⟨c1, c2, c3, c4⟩ := cls_ok hc
  have hn1 : n = cN c := (hW.2.2.1 _ (List.mem_of_getElem? hi)).2 hc
  subst hn1
  rw [List.map_cons, List.map_cons, av_ref (by omega), Int.toNat_natCast]
  have hts := A.2.2.2.2.2.1
  have he := wsOf_get (E := E) (h := h) hi
  rw [ent_obj hc] at he
  have hap := va_apart (own := M.1.cls) hts c2 (cty c) c3 c4 A.2.2.2.2.2.2.1 c1
  obtain ⟨r, h1, cell, q1, q2, q3, q4⟩ := hW.2.1 i _ he
  have hr : r = (cR c, cT c, cN c) := Option.some.inj (h1.symm.trans c1)
  subst hr
  obtain ⟨hSl, hfc, kC, hkC, hkind⟩ := A.2.2.2.2.2.2.1.1 c _ c1
  obtain ⟨cf, kf, fi, f, hfi, hsl⟩ := hSl k hk
  have hlay := hts _ (c2 _ (u_in_lay hk))
  unfold u_lay at hlay
  rw [if_neg (by rw [hfin]; decide)] at hlay
  have hst := (u_facts hfc hkC (u_lays hts c2 hk) hfi).1
  have h6 := u_store hfc hkC hkind hlay hfi (c3 k hk) (hn E).1 (hn E).2
  refine W.putK A.1 A.2.1 (f := f) ⟨A.2.2.2.2.1, hts _ (lg hlk rfl), ⟨_, _, _, hfi⟩, hst⟩ (by rw [q2]; exact h6) q1 q3 (by rw [hsl]; exact k2_hasslot (q4 k hk)) rfl rfl hd fun H' e1 e2 e3 => ?_
  rw [hsl] at e1 ⊢
  have hP1 : va_P E.1 vwCl ((wsOf E G h).set i (eB E + i, .inr (c, ((List.range (cN c)).map fun j => av E (fk c j, h i j)).set k (av E (fk c k, x))))) H' := hW.2.1.set wsOf_D he ⟨_, c1, t_OB.to (V := updV (vp_V ((List.range (cN c)).map fun j => av E (fk c j, h i j))) k (av E (fk c k, x))) ⟨_, e1, q2, q3, t_set q4 hap hk _⟩ (fun j _ => vp_updV_set (by simpa using hk) _ j)⟩ e3
  refine kk E p e s m args below meth cd A H' _ ls (Wld_set hW e2 hi ?_ hP1 (fun e => by simp at e; omega)) (hS.put e2 e3 (by unfold frA; omega)) hl
  rw [ent_obj hc, hset_map hk]
theorem s_putF {c k idx t : Nat} {a j x : Int} (hd : decode M.2.1 pc = .ok (.putfield idx, 3)) (hlk : Cond.fieldLink M.1.cls idx (cT c k).1 (cT c k).2.1 (cT c k).2.2.1 ∈ lw_tbl) (hc : c < 10) (hk : k < cN c) (hfin : (cT c k).2.2.2 = true) (hin2 : M.1.name = "<init>") (hdecl : (cT c k).1 = M.1.cls) (ht : fk c k = t) (hj : (k : Int) = j) (hn : ∀ E : EV, narrow (cty c k) (av E (t, x)) = av E (t, x) ∧ fits (cty c k) (av E (t, x)) = true) (hty : ty G a = c) (kk : S l M b (pc + 3) loc st G (hset h a j x) Q) : S l M b pc loc ((t, x) :: vR a :: st) G h Q := by
  intro E p e s m args below meth cd A H locs ls hW hS hl
  subst hj; subst ht
  obtain ⟨i, n, rfl, hi, -, hil⟩ := ty_some hty (by omega)
  obtain ⟨c1, c2, c3, c4⟩ := cls_ok hc
  have hn1 : n = cN c := (hW.2.2.1 _ (List.mem_of_getElem? hi)).2 hc
  subst hn1
  rw [List.map_cons, List.map_cons, av_ref (by omega), Int.toNat_natCast]
  have hts := A.2.2.2.2.2.1
  have hown := A.2.2.2.2.1
  have he := wsOf_get (E := E) (h := h) hi
  rw [ent_obj hc] at he
  have hap := va_apart (own := M.1.cls) hts c2 (cty c) c3 c4 A.2.2.2.2.2.2.1 c1
  obtain ⟨r, h1, cell, q1, q2, q3, q4⟩ := hW.2.1 i _ he
  have hr : r = (cR c, cT c, cN c) := Option.some.inj (h1.symm.trans c1)
  subst hr
  obtain ⟨hSl, hfc, kC, hkC, hkind⟩ := A.2.2.2.2.2.2.1.1 c _ c1
  obtain ⟨cf, kf, fi, f, hfi, hsl⟩ := hSl k hk
  have hlay := hts _ (c2 _ (u_in_lay hk))
  unfold u_lay at hlay
  rw [if_pos hfin] at hlay
  have hst := (u_facts hfc hkC (u_lays hts c2 hk) hfi).1
  have hcf : m.cls = cf := by
    obtain ⟨_, _, c', _, _, _, -, -, hf', -, -, -, hown2, -⟩ := Cond.laysFinal_spec hlay
    have e1 : c' = cf := by have := hfi.symm.trans hf'; simp at this; exact this.1.symm
    rw [hdecl] at hown2
    rw [← e1]; exact Option.some.inj (hown.symm.trans hown2)
  have h6 := u_fits hfc hkC hkind (Or.inr hlay) hfi (c3 k hk) (hn E).1 (hn E).2
  refine W.putFinK A.1 A.2.1 hown (hts _ (lg hlk rfl)) hfi hst hcf (A.2.2.2.2.2.2.2.2.1.trans hin2) (by rw [q2]; exact h6) q1 q3 (by rw [hsl]; exact k2_hasslot (q4 k hk)) rfl rfl hd fun H' e1 e2 e3 => ?_
  rw [hsl] at e1 ⊢
  have hP1 : va_P E.1 vwCl ((wsOf E G h).set i (eB E + i, .inr (c, ((List.range (cN c)).map fun j => av E (fk c j, h i j)).set k (av E (fk c k, x))))) H' := hW.2.1.set wsOf_D he ⟨_, c1, t_OB.to (V := updV (vp_V ((List.range (cN c)).map fun j => av E (fk c j, h i j))) k (av E (fk c k, x))) ⟨_, e1, q2, q3, t_set q4 hap hk _⟩ (fun j _ => vp_updV_set (by simpa using hk) _ j)⟩ e3
  refine kk E p e s m args below meth cd A H' _ ls (Wld_set hW e2 hi ?_ hP1 (fun e => by simp at e; omega)) (hS.put e2 e3 (by unfold frA; omega)) hl
  rw [ent_obj hc, hset_map hk]
abbrev inA (G : GS) (t : Nat) (a i : Int) : Prop := ty G a = t ∧ 0 ≤ i ∧ i < ln G a
theorem in_of {n : Nat} {i : Int} (h0 : 0 ≤ i) (h1 : i < (n : Int)) (hn : n < 2 ^ 31) : vp_in (Int32.ofInt i) n ∧ (Int32.ofInt i).toNatClampNeg = i.toNat := by
  have e := i32_cl h0 (by omega)
  refine ⟨?_, e⟩
  rw [vp_in_iff, i32 ⟨by omega, by omega⟩]
  exact ⟨h0, h1⟩
theorem s_iald {a i : Int} (hd : decode M.2.1 pc = .ok (.iaload, 1)) (hin : inA G 10 a i) (kk : S l M b (pc + 1) loc (vI (h a i) :: st) G h Q) : S l M b pc loc (vI i :: vR a :: st) G h Q := by
  intro E p e s m args below meth cd A H locs ls hW hS hl
  obtain ⟨hty, h0, h1⟩ := hin
  obtain ⟨k, n, rfl, hi, hln, hil⟩ := ty_some hty (by omega)
  rw [hln] at h1
  obtain ⟨hv, hcl⟩ := in_of h0 h1 (hW.2.2.1 _ (List.mem_of_getElem? hi)).1
  rw [List.map_cons, List.map_cons, av_ref (by omega), Int.toNat_natCast]
  refine va_iald A.1 A.2.1 A.2.2.2.2.2.2.1 hW.2.1 k 0 (wsOf_get (E := E) (h := h) hi) rfl hv hd ?_
  rw [hcl]
  have := kk E p e s m args below meth cd A H locs ls hW hS hl
  rw [show (i : Int) = (i.toNat : Int) by omega] at this
  exact this
theorem s_zald {a i : Int} (hd : decode M.2.1 pc = .ok (.baload, 1)) (hin : inA G 11 a i) (kk : S l M b (pc + 1) loc (vI (h a i) :: st) G h Q) : S l M b pc loc (vI i :: vR a :: st) G h Q := by
  intro E p e s m args below meth cd A H locs ls hW hS hl
  obtain ⟨hty, h0, h1⟩ := hin
  obtain ⟨k, n, rfl, hi, hln, hil⟩ := ty_some hty (by omega)
  rw [hln] at h1
  obtain ⟨hv, hcl⟩ := in_of h0 h1 (hW.2.2.1 _ (List.mem_of_getElem? hi)).1
  rw [List.map_cons, List.map_cons, av_ref (by omega), Int.toNat_natCast]
  refine va_zald A.1 A.2.1 A.2.2.2.2.2.2.1 hW.2.1 k 1 (wsOf_get (E := E) (h := h) hi) rfl hv hd ?_
  rw [hcl]
  have := kk E p e s m args below meth cd A H locs ls hW hS hl
  rw [show (i : Int) = (i.toNat : Int) by omega] at this
  exact this
theorem s_aaldP {a i : Int} (hd : decode M.2.1 pc = .ok (.aaload, 1)) (hin : inA G 12 a i) (kk : S l M b (pc + 1) loc (vR (h a i) :: st) G h Q) : S l M b pc loc (vI i :: vR a :: st) G h Q := by
  intro E p e s m args below meth cd A H locs ls hW hS hl
  obtain ⟨hty, h0, h1⟩ := hin
  obtain ⟨k, n, rfl, hi, hln, hil⟩ := ty_some hty (by omega)
  rw [hln] at h1
  obtain ⟨hv, hcl⟩ := in_of h0 h1 (hW.2.2.1 _ (List.mem_of_getElem? hi)).1
  rw [List.map_cons, List.map_cons, av_ref (by omega), Int.toNat_natCast]
  refine va_aldq A.1 A.2.1 A.2.2.2.2.2.2.1 hW.2.1 k 2 (wsOf_get (E := E) (h := h) hi) rfl hv hd ?_
  rw [hcl]
  have := kk E p e s m args below meth cd A H locs ls hW hS hl
  rw [show (i : Int) = (i.toNat : Int) by omega] at this
  exact this
theorem arr_upd {E : EV} {h : HP} {k : Nat} {i x : Int} (h0 : 0 ≤ i) (cA : ClassId) (n : Nat) : (arrV cA n fun j => Value.int (Int32.ofInt (h k j))).setSlot i.toNat (.int (Int32.ofInt x)) = arrV cA n fun j => .int (Int32.ofInt (hset h k i x k j)) := by
  rw [arrV_store]
  congr 1
  funext q
  by_cases hq : q = i.toNat
  · subst hq
    have e : ((i.toNat : Nat) : Int) = i := by omega
    simp [updV, hset, e]
  · have e : ¬ ((q : Int) = i) := by omega
    simp [updV, hq, hset, e]
theorem s_iast {a i x : Int} (hd : decode M.2.1 pc = .ok (.iastore, 1)) (hin : inA G 10 a i) (kk : S l M b (pc + 1) loc st G (hset h a i x) Q) : S l M b pc loc (vI x :: vI i :: vR a :: st) G h Q := by
  intro E p e s m args below meth cd A H locs ls hW hS hl
  obtain ⟨hty, h0, h1⟩ := hin
  obtain ⟨k, n, rfl, hi, hln, hil⟩ := ty_some hty (by omega)
  rw [hln] at h1
  obtain ⟨hv, hcl⟩ := in_of h0 h1 (hW.2.2.1 _ (List.mem_of_getElem? hi)).1
  rw [List.map_cons, List.map_cons, List.map_cons, av_ref (by omega), Int.toNat_natCast]
  have he := wsOf_get (E := E) (h := h) hi
  have hc := hW.2.1 k _ he
  refine W.iast A.1 A.2.1 hc ((A.2.2.2.2.2.2.1.2 0 _ rfl).1 n _) (fun q => by cases q) (by show ¬ (_ ∨ (arrV _ _ _).slots.size ≤ _); rw [arrV_size]; exact hv) rfl rfl hd fun H' e1 e2 e3 => ?_
  rw [hcl] at e1 ⊢
  have e4 : H'[eB E + k]? = some (vp_cell E.2.1 (n, .inl fun j => Int32.ofInt (hset h k i x k j))) := e1.trans (congrArg some (arr_upd (E := E) h0 _ _))
  exact kk E p e s m args below meth cd A H' _ ls (Wld_set hW e2 hi (e := .inl (E.2.1, n, .inl fun j => Int32.ofInt (hset h k i x k j))) rfl (hW.2.1.set wsOf_D he e4 e3) (fun e => by simp at e)) (hS.put e2 e3 (by unfold frA; omega)) hl
theorem s_zast {a i x : Int} (hd : decode M.2.1 pc = .ok (.bastore, 1)) (hx : x = 0 ∨ x = 1) (hin : inA G 11 a i) (kk : S l M b (pc + 1) loc st G (hset h a i x) Q) : S l M b pc loc (vI x :: vI i :: vR a :: st) G h Q := by
  intro E p e s m args below meth cd A H locs ls hW hS hl
  obtain ⟨hty, h0, h1⟩ := hin
  obtain ⟨k, n, rfl, hi, hln, hil⟩ := ty_some hty (by omega)
  rw [hln] at h1
  obtain ⟨hv, hcl⟩ := in_of h0 h1 (hW.2.2.1 _ (List.mem_of_getElem? hi)).1
  rw [List.map_cons, List.map_cons, List.map_cons, av_ref (by omega), Int.toNat_natCast]
  have he := wsOf_get (E := E) (h := h) hi
  have hc := hW.2.1 k _ he
  refine W.zast A.1 A.2.1 hc ((A.2.2.2.2.2.2.1.2 1 _ rfl).1 n _) (fun q => by cases q) (by show ¬ (_ ∨ (arrV _ _ _).slots.size ≤ _); rw [arrV_size]; exact hv) rfl rfl hd fun H' e1 e2 e3 => ?_
  have en : narrow .boolean (.int (Int32.ofInt x)) = .int (Int32.ofInt x) := by rcases hx with rfl | rfl <;> rfl
  rw [en] at e1
  rw [hcl] at e1 ⊢
  have e4 : H'[eB E + k]? = some (vp_cell E.2.2.1 (n, .inl fun j => Int32.ofInt (hset h k i x k j))) := e1.trans (congrArg some (arr_upd (E := E) h0 _ _))
  exact kk E p e s m args below meth cd A H' _ ls (Wld_set hW e2 hi (e := .inl (E.2.2.1, n, .inl fun j => Int32.ofInt (hset h k i x k j))) rfl (hW.2.1.set wsOf_D he e4 e3) (fun _ => hx)) (hS.put e2 e3 (by unfold frA; omega)) hl
theorem s_alen {a : Int} (hd : decode M.2.1 pc = .ok (.arraylength, 1)) (hty : ty G a = 10) (kk : S l M b (pc + 1) loc (vI (ln G a) :: st) G h Q) : S l M b pc loc (vR a :: st) G h Q := by
  intro E p e s m args below meth cd A H locs ls hW hS hl
  obtain ⟨k, n, rfl, hi, hln, hil⟩ := ty_some hty (by omega)
  rw [List.map_cons, av_ref (by omega), Int.toNat_natCast]
  rw [hln] at kk
  exact va_alen A.1 A.2.1 A.2.2.2.2.2.2.1 hW.2.1 k 0 (wsOf_get (E := E) (h := h) hi) rfl (v := Int32.ofInt (n : Int)) rfl hd (kk E p e s m args below meth cd A H locs ls hW hS hl)
/-- returns -/
theorem s_iret {x : Int} (hd : decode M.2.1 pc = .ok (.ireturn, 1)) (hr : M.2.2.2 = some .int) (hb : b.2.2.2.1 ≤ b.2.1 ∧ b.2.2.2.2 ≤ b.2.2.1) (hq : Q x G h) : S l M b pc loc [vI x] G h Q := by
  intro E p e s m args below meth cd A H locs ls hW hS hl
  have hlk : meth.locks = false := A.2.2.2.2.2.2.2.1
  refine W.widen hb.1 hb.2 (W.iret A.1 A.2.1 (A.2.2.1.trans hr) (fun t ht hw => ?_) (fun q hq => hS.2.2 q hq) hd hlk)
  exact ⟨⟨x, G, h, by unfold rtv; rw [hr], hq, by rw [ht]; exact hW⟩, hS.F ht⟩
theorem s_zret {x : Int} (hd : decode M.2.1 pc = .ok (.ireturn, 1)) (hr : M.2.2.2 = some .boolean) (hb : b.2.2.2.1 ≤ b.2.1 ∧ b.2.2.2.2 ≤ b.2.2.1) (hx : x = 0 ∨ x = 1) (hq : Q x G h) : S l M b pc loc [vI x] G h Q := by
  intro E p e s m args below meth cd A H locs ls hW hS hl
  have hlk : meth.locks = false := A.2.2.2.2.2.2.2.1
  refine W.widen hb.1 hb.2 (W.zret A.1 A.2.1 (A.2.2.1.trans hr) (by rcases hx with rfl | rfl <;> rfl) (fun t ht hw => ?_) (fun q hq => hS.2.2 q hq) hd hlk)
  exact ⟨⟨x, G, h, by unfold rtv; rw [hr], hq, by rw [ht]; exact hW⟩, hS.F ht⟩
theorem s_lret {x : Int} (hd : decode M.2.1 pc = .ok (.lreturn, 1)) (hr : M.2.2.2 = some .long) (hb : b.2.2.2.1 ≤ b.2.1 ∧ b.2.2.2.2 ≤ b.2.2.1) (hq : Q x G h) : S l M b pc loc [vL x] G h Q := by
  intro E p e s m args below meth cd A H locs ls hW hS hl
  have hlk : meth.locks = false := A.2.2.2.2.2.2.2.1
  refine W.widen hb.1 hb.2 (W.lret A.1 A.2.1 (A.2.2.1.trans hr) (fun t ht hw => ?_) (fun q hq => hS.2.2 q hq) hd hlk)
  exact ⟨⟨x, G, h, by unfold rtv; rw [hr], hq, by rw [ht]; exact hW⟩, hS.F ht⟩
theorem s_vret (hd : decode M.2.1 pc = .ok (.return_, 1)) (hr : M.2.2.2 = none) (hb : b.2.2.2.1 ≤ b.2.1 ∧ b.2.2.2.2 ≤ b.2.2.1) (hq : Q 0 G h) : S l M b pc loc [] G h Q := by
  intro E p e s m args below meth cd A H locs ls hW hS hl
  have hlk : meth.locks = false := A.2.2.2.2.2.2.2.1
  refine W.widen hb.1 hb.2 (W.vret A.1 A.2.1 (A.2.2.1.trans hr) (fun t ht hw => ?_) (fun q hq => hS.2.2 q hq) hd hlk)
  exact ⟨⟨0, G, h, by unfold rtv; rw [hr], hq, by rw [ht]; exact hW⟩, hS.F ht⟩
end Mem
