section LawCalls
variable {l : Launch} {b L : Nat} {xs : Nat → Int32} {cu su pc : Nat} {loc : LV} {st stk : List AV} {G : GS} {h : HP} {M' : MD} {d n idx : Nat} {As : List AV}
theorem l_callV {c : Nat} {a : Int} (hd : decode cL_law pc = .ok (.invokevirtual idx, 3)) (hlk : Cond.methodLink RL idx M'.1 ∈ lw_tbl) (hC : CalV M' n c) (hn : As.length = n) (hst : As.reverse ++ vR a :: st = stk) (hw : (st.map ctg).sum ≤ 8) (hb : cu ≤ 600000 ∧ su ≤ 7302250) (hd20 : d ≤ 20) (hty : ty G a = c)
    (kk : R l M' d 0 0 (vR a :: As) G h (fun r G' h' => SL l b L xs cu su (pc + 3) loc (rts M' r ++ st) G' h')) : SL l b L xs cu su pc loc stk G h := by
  subst hst
  intro E p e s m below meth cd A K B H locs ls hW hS hl h0
  obtain ⟨⟨h1, h2, h3, h4⟩, h5, h6, h7, h8⟩ := hC
  obtain ⟨k, n', rfl, hi, -, hil⟩ := ty_some hty (by omega)
  have hts0 := A.2.2.2.2.2.1
  have hts : ∀ w ∈ lw_g, w.before #[Value.ref b] s = true := fun w hw => hts0 w (List.mem_filter.1 hw).1
  have he := wsOf_get (E := E) (h := h) hi
  rw [ent_obj h8] at he
  have hrec := va_recv K hW.2.1 (cls_ok h8).1 he
  have hcw : CallW room_1 s #[Value.ref b] RL M'.1.cls idx M'.1 M'.2.1 M'.2.2.1 M'.2.2.2 (wsM M') (rmd d 0 0) 0 0 n := ⟨callM_of hts ⟨h1, h2, h3, h4⟩ rfl rfl hlk ⟨by show d + 1 ≤ 2048; omega, by show 8 + (M'.2.2.1 + 11) + 64 * d ≤ 84000; omega⟩, hts _ (lg h5 rfl), hts _ (lg h6 rfl)⟩
  rw [List.map_append, List.map_cons, av_ref (by omega), Int.toNat_natCast]
  refine W_run (va_runV (As := As.map (av E)) (rest := st.map (av E)) (b := eB E + k) ⟨A.1, A.2.1, A.2.2.2.1, A.2.2.2.2.1, hts⟩ (kk E) hcw ⟨pc_blind, (by obtain ⟨c9, a1, a2, a3⟩ := hrec; exact ⟨c9, a1, a2, by rw [← h7]; exact a3⟩), fun U hU hWU => ⟨by rw [List.map_cons, av_ref (by omega), Int.toNat_natCast], by rw [hU]; exact hW, va_K.moved hWU.alike K⟩⟩ rfl (by simpa using hn) hl.1 (by rw [List.map_reverse]) (by rw [cat_sum]; show 2 * 0 + _ ≤ 8; omega) hd ⟨hb.1, hb.2⟩) hS (fun r G' h' H1 locs1 hQ hW1 hS1 => ?_)
  rw [rts_map E, ← List.map_append]
  exact hQ E p e s m below meth cd A K B H1 locs1 ls hW1 hS1 hl h0
theorem l_callI {mc' ms' : Nat} {a : Int} (hd : decode cL_law pc = .ok (.invokespecial idx, 3)) (hlk : Cond.methodLink RL idx M'.1 ∈ lw_tbl) (hC : CalI M' n) (hn : As.length = n) (hst : As.reverse ++ vR a :: st = stk) (hw : (st.map ctg).sum ≤ 8) (ha : 0 ≤ a) (hb : cu + mc' ≤ 600000 ∧ su + ms' ≤ 7302250) (hd20 : d ≤ 20)
    (kk : R l M' d mc' ms' (vR a :: As) G h (fun r G' h' => SL l b L xs (cu + mc') (su + ms') (pc + 3) loc st G' h')) : SL l b L xs cu su pc loc stk G h := by
  subst hst
  intro E p e s m below meth cd A K B H locs ls hW hS hl h0
  obtain ⟨⟨h1, h2, h3, h4⟩, h5, h6, h7⟩ := hC
  have hts0 := A.2.2.2.2.2.1
  have hts : ∀ w ∈ lw_g, w.before #[Value.ref b] s = true := fun w hw => hts0 w (List.mem_filter.1 hw).1
  have hcw : CallB room_1 s #[Value.ref b] RL idx M'.1 M'.2.1 M'.2.2.1 none (wsM M') (rmd d mc' ms') mc' ms' n ∧ M'.1.name = "<init>" ∧ (Cond.instanceMethod M'.1).before #[Value.ref b] s = true := ⟨by rw [← h7]; exact callM_of hts ⟨h1, h2, h3, h4⟩ rfl rfl hlk ⟨by show d + 1 ≤ 2048; omega, by show 8 + (M'.2.2.1 + 11) + 64 * d ≤ 84000; omega⟩, h6, hts _ (lg h5 rfl)⟩
  rw [List.map_append, List.map_cons, av_ref ha]
  refine W_run (va_runI (As := As.map (av E)) (rest := st.map (av E)) (b := eB E + a.toNat) ⟨A.1, A.2.1, A.2.2.2.1, A.2.2.2.2.1, hts⟩ (kk E) hcw ⟨pc_blind, fun U hU hWU => ⟨by rw [List.map_cons, av_ref ha], by rw [hU]; exact hW, va_K.moved hWU.alike K⟩⟩ rfl (by simpa using hn) hl.1 (by rw [List.map_reverse]) (by rw [cat_sum]; show 2 * 0 + _ ≤ 8; omega) hd ⟨hb.1, hb.2⟩) hS (fun r G' h' H1 locs1 hQ hW1 hS1 => ?_)
  have e1 : rtv M' r = none := by unfold rtv; rw [h7]
  rw [e1]
  exact hQ E p e s m below meth cd A K B H1 locs1 ls hW1 hS1 hl h0
theorem l_new {c : Nat} (hd : decode cL_law pc = .ok (.new idx, 3)) (hlk : Cond.classLink RL idx (cR c) ∈ lw_tbl) (hins : Cond.instantiable (cR c) (cN c) ∈ lw_tbl) (hini : Cond.initialized (cR c) ∈ lw_tbl) (hc : c < 10) (hb : cu + 1 ≤ 600000 ∧ su + cN c ≤ 7302250)
    (kk : SL l b L xs (cu + 1) (su + cN c) (pc + 3) loc (vR G.length :: st) (G ++ [(c, cN c)]) (hcl h G.length (dfo c))) : SL l b L xs cu su pc loc st G h := by
  intro E p e s m below meth cd A K B H locs ls hW hS hl h0
  have hts0 := A.2.2.2.2.2.1
  have hts : ∀ w ∈ lw_g, w.before #[Value.ref b] s = true := fun w hw => hts0 w (List.mem_filter.1 hw).1
  obtain ⟨c1, c2, c3, c4⟩ := cls_ok hc
  have hKn := K.1 c _ c1
  refine W.newc A.1 A.2.1 A.2.2.2.2.1 (hts _ (lg hlk rfl)) (hts _ (lg hins rfl)) (hts _ (lg hini rfl)) rfl hd hb.1 hb.2 (fun cC kC f1 f2 f3 f4 => ?_)
  have ecC : cC = E.1.1 c := Option.some.inj (f1.symm.trans hKn.2.1)
  subst ecC
  generalize hH1 : H.push ({ cls := E.1.1 c, slots := kC.instanceTypes.map defaultValue, vm := .none } : Cell) = H1
  have z1 : H1.size = H.size + 1 := by rw [← hH1, Array.size_push]
  have e1 : H1[H.size]? = some (blank (E.1.1 c) kC) := by rw [← hH1, Array.getElem?_push_size]; rfl
  have o1 : ∀ q : Nat, q < H.size → H1[q]? = H[q]? := fun q hq => by rw [← hH1, Array.getElem?_push, if_neg (Nat.ne_of_lt hq)]
  have hborn := u_born (cty c) hts c2 hKn f2 e1 c3
  have hat : va_at E.1 vwCl (eB E + G.length, ent E (c, cN c) (dfo c)) H1 := by
    rw [ent_obj hc]
    refine ⟨_, c1, ?_⟩
    rw [← hW.1]
    refine hborn.to (fun k hk => ?_)
    have e3 : vp_V ((List.range (cN c)).map fun j => av E (fk c j, dfo c j)) k = av E (fk c k, dfo c k) := by
      unfold vp_V
      rw [List.getD_eq_getElem?_getD, List.getElem?_map, List.getElem?_range hk]; rfl
    rw [e3]
    have hok := okK_all c hc k hk
    unfold dfo fk
    rw [Int.toNat_natCast]
    cases hq : cty c k <;> rw [hq] at hok <;> first | rfl | (simp [okK] at hok)
  have := kk E p e s m below meth cd A K B H1 locs ls (Wld_push hW z1 o1 hat ⟨by revert hc; show c < 10 → cN c < _; intro hc; match c, hc with | 0, _ => decide | 1, _ => decide | 2, _ => decide | 3, _ => decide | 4, _ => decide | 5, _ => decide | 6, _ => decide | 7, _ => decide | 8, _ => decide | 9, _ => decide | c + 10, h => exact absurd h (by omega), fun _ => rfl⟩ (fun e => by simp at e; omega)) (va_S_push hS z1 o1) hl h0
  rw [List.map_cons, av_ref (by omega), Int.toNat_natCast, ← hW.1] at this
  exact this
end LawCalls
