theorem argl_get {E : EV} : ∀ (As : List AV) (i j : Nat) (v : AV), (argl As)[i]? = some (some v) → (j + i, av E v) ∈ lv_args j (As.map (av E))
  | [], i, j, v, h => by simp [argl] at h
  | (1, x) :: As, i, j, v, h => by
    match i with
    | 0 => simp [argl] at h; subst h; exact List.mem_cons_self
    | 1 => simp [argl] at h
    | i + 2 =>
      have h2 : (argl As)[i]? = some (some v) := by simpa [argl] using h
      have := argl_get (E := E) As i (j + 2) v h2
      rw [show j + (i + 2) = j + 2 + i by omega]
      exact List.mem_cons_of_mem _ this
  | (0, x) :: As, i, j, v, h => by
    match i with
    | 0 => simp [argl] at h; subst h; exact List.mem_cons_self
    | i + 1 =>
      have h2 : (argl As)[i]? = some (some v) := by simpa [argl] using h
      have := argl_get (E := E) As i (j + 1) v h2
      rw [show j + (i + 1) = j + 1 + i by omega]
      exact List.mem_cons_of_mem _ this
  | (t + 2, x) :: As, i, j, v, h => by
    match i with
    | 0 => simp [argl] at h; subst h; exact List.mem_cons_self
    | i + 1 =>
      have h2 : (argl As)[i]? = some (some v) := by simpa [argl] using h
      have := argl_get (E := E) As i (j + 1) v h2
      rw [show j + (i + 1) = j + 1 + i by omega]
      refine List.mem_cons_of_mem _ ?_
      show _ ∈ lv_args (if (av E (t + 2, x)).category = 2 then j + 2 else j + 1) (As.map (av E))
      rw [av_cat, if_neg (by simp [ctg])]
      exact this
theorem argl_len {E : EV} : ∀ (As : List AV), (lg_sl (As.map (av E))).length = (argl As).length
  | [] => rfl
  | (0, x) :: As => by
    have := argl_len (E := E) As
    simpa [lg_sl, argl, av, Value.category] using this
  | (1, x) :: As => by
    have := argl_len (E := E) As
    simpa [lg_sl, argl, av, Value.category] using this
  | (t + 2, x) :: As => by
    have := argl_len (E := E) As
    have hc : (av E (t + 2, x)).category = 1 := by rw [av_cat]; simp [ctg]
    simp only [lg_sl, List.map_cons, List.flatMap_cons, hc] at this ⊢
    simpa [argl] using this
def nlen (As : List AV) (n : Nat) : Prop := (argl As).length ≤ n
theorem R_of_S {l : Launch} {M : MD} {d mc ms : Nat} {As : List AV} {G : GS} {h : HP} {Q : Int → GS → HP → Prop} (hp : plainName M.1.cls = true) (hn : (argl As).length ≤ M.2.2.1) (k : S l M (d, mc, ms, 0, 0) 0 (argl As) [] G h Q) : R l M d mc ms As G h Q := by
  intro E
  refine Met.ofW (cc := M.2.1) (maxL := M.2.2.1) (ret := M.2.2.2) hp rfl ?_
  intro p e s m args below meth c s₁ B hml hv
  obtain ⟨rfl, hWd, hK⟩ := hv
  have hts := atoms_spec (ws := wsM M) B.pre
  have hnm : meth.name = M.1.name := (name_of_methodNamed B.named B.method).1
  have hA : Act M E p s m (As.map (av E)).toArray meth c := ⟨B.exec, B.bytes, B.returns, hml, findClass_of_methodNamed B.named, fun w hw => hts w (List.mem_cons_of_mem _ hw), hK, B.notSynchronized, hnm, by rw [hWd.1]; omega⟩
  have hle : (lg_sl (As.map (av E))).length ≤ M.2.2.1 := by rw [argl_len]; exact hn
  have hl := lv_entry (As.map (av E)) hle
  rw [lg_entry_eq]
  refine k E p e s m _ below meth c hA s.heap [] _ hWd va_S.rf ⟨hl.1, hl.2.1, fun i v hv => ?_⟩
  have := argl_get (E := E) As i 0 v hv
  rw [Nat.zero_add] at this
  exact hl.2.2 _ this
def Cal (M : MD) (n : Nat) : Prop := Cond.code M.1 M.2.1 M.2.2.1 M.2.2.2 ∈ lw_tbl ∧ Cond.initialized M.1.cls ∈ lw_tbl ∧ (M.1.cls ≠ "java/lang/invoke/MethodHandle" ∧ M.1.cls ≠ "java/lang/invoke/VarHandle" ∧ (parseMethodDescriptor M.1.desc).map (fun d => d.parameters.length) = some n) ∧ M.2.2.1 ≤ 40
def CalV (M : MD) (n c : Nat) : Prop := Cal M n ∧ Cond.instanceMethod M.1 ∈ lw_tbl ∧ Cond.selects M.1.cls M.1 M.1 ∈ lw_tbl ∧ cR c = M.1.cls ∧ c < 10
def CalS (M : MD) (n : Nat) : Prop := Cal M n ∧ Cond.static M.1 ∈ lw_tbl
def CalI (M : MD) (n : Nat) : Prop := Cal M n ∧ Cond.instanceMethod M.1 ∈ lw_tbl ∧ M.1.name = "<init>" ∧ M.2.2.2 = none
theorem ao_movedO {C : String} {A B : Array Value} {u U : State} (hvm : u.vm.Alike U.vm) (h : (Cond.arrayOver (.object C)).before A u = true) : (Cond.arrayOver (.object C)).before B U = true := va_AO.use (va_AO.moved hvm (va_AO.of h))
theorem ao_movedA {ft : FieldType} {A B : Array Value} {u U : State} (hvm : u.vm.Alike U.vm) (h : (Cond.arrayOver (.array ft)).before A u = true) : (Cond.arrayOver (.array ft)).before B U = true := by
  obtain ⟨comp, c, k, h1, h2, h3, h4, h5⟩ := arrayOverA_spec h
  obtain ⟨k', hk', he⟩ := hvm.2.2 _ _ h3
  have hi : (U.vm.classes.findIdx? fun (x : Class) => match x.kind with | .array component _ => component == comp | _ => false) = some c := by
    refine (va_idx_bare U.vm comp).symm.trans ?_
    first | rw [hvm.bare_eq] | rw [← hvm.bare_eq]
    exact (va_idx_bare u.vm comp).trans h2
  have hkind : k'.kind = .array comp (.array ft) := by rw [he]; exact h4
  have f1 : U.vm.findClass (FieldType.array ft).toString = some comp := by rw [hvm.findClass]; exact h1
  have f2 : U.vm.findClass ("[" ++ (FieldType.array ft).toString) = some c := by rw [hvm.findClass]; exact h5
  unfold Cond.before Cond.holds
  simp only [Cond.value]
  rw [f1, Option.bind_some]
  refine (congrArg (fun o : Option Nat => (o.bind (fun c => (U.vm.classes[c]?).map fun (k : Class) => match k.kind with | .array _ ty => decide (ty = FieldType.array ft) && decide (U.vm.findClass ("[" ++ (FieldType.array ft).toString) = some c) | _ => false) == some true)) hi).trans ?_
  simp [hk', hkind, f2]
theorem wsM_hws {M : MD} {args : Array Value} {s : State} (hts : ∀ w ∈ lw_g, w.before args s = true) (hc : Cond.code M.1 M.2.1 M.2.2.1 M.2.2.2 ∈ lw_tbl) : ∀ w ∈ wsM M, ∀ (a' : Array Value) (U : State), s.WarmedH U.vm → w.before a' U = true := by
  intro w hw a' U hU
  have hm : w ∈ lw_g := by
    rcases List.mem_cons.mp hw with rfl | h
    · exact lg hc rfl
    · exact h
  have h1 := hts w hm
  have h2 := (List.mem_filter.mp hm).2
  cases w with
  | arrayOver t =>
    cases t with
    | object C => exact ao_movedO hU.alike h1
    | array ft => exact ao_movedA hU.alike h1
    | _ => exact word_at hU (good_of_word h2) h1
  | _ => exact word_at hU (good_of_word h2) h1
theorem callM_of {M : MD} {RR rm : Room} {s : State} {args : Array Value} {own : String} {index n mc ms : Nat} (hts : ∀ w ∈ lw_g, w.before args s = true) (hC : Cal M n) (hrc : rm.cells = mc) (hrs : rm.slots = ms) (hl : Cond.methodLink own index M.1 ∈ lw_tbl) (hR : rm.frames + 1 ≤ RR.frames ∧ 8 + (M.2.2.1 + 11) + rm.locals ≤ RR.locals) : CallB RR s args own index M.1 M.2.1 M.2.2.1 M.2.2.2 (wsM M) rm mc ms n := by
  obtain ⟨h1, h2, h3, h4⟩ := hC
  refine ⟨hrc, hrs, hR.1, hR.2, wsM_hws hts h1, List.mem_cons_self, hts _ (lg h1 rfl), hts _ (lg h2 rfl), ⟨h3.1, h3.2.1⟩, fun sig h => ?_, hts _ (lg hl rfl)⟩
  have h5 := h3.2.2
  rw [h] at h5
  exact (Option.some.inj h5).symm
def rts (M : MD) (r : Int) : List AV := match M.2.2.2 with
  | none => []
  | some .long => [vL r]
  | _ => [vI r]
theorem rts_map (E : EV) (M : MD) (r : Int) : (rtv M r).toList = (rts M r).map (av E) := by
  unfold rtv rts
  rcases M.2.2.2 with _ | t
  · rfl
  · cases t <;> rfl
section Cals
variable {l : Launch} {M M' : MD} {pc : Nat} {loc : LV} {st stk : List AV} {G : GS} {h : HP} {Q : Int → GS → HP → Prop} {d mc ms cu su n idx : Nat} {As : List AV}
theorem pc_blind {E : EV} {As : List Value} {G : GS} {h : HP} : FrameBlind (va_Pc As (fun U => Wld E G h U.heap ∧ KN E U)) := by
  intro a U g mk q
  obtain ⟨q0, q1, q2⟩ := q
  exact ⟨q0, q1, va_K.moved (u := U) (U := U.calling g mk a) (Vm.Alike.refl U.vm) q2⟩
theorem cat_sum (E : EV) (st : List AV) : ((st.map (av E)).map fun v => v.category).sum = (st.map ctg).sum := by
  rw [List.map_map]
  congr 1
  apply List.map_congr_left
  intro v _
  exact av_cat E v
theorem W_run {E : EV} {p : Program} {e : Env} {RR : Room} {s : State} {m : MethodId} {args : Array Value} {below : List Frame} {meth : Method} {c : Code} {H : Heap} {locs : List Loc} {cells slots mc' ms' : Nat} {ls : Array Slot} {st0 rest : List Value} {a : Array Value} {QQ : State → Prop} {Q' : Int → GS → HP → Prop}
    (hr : va_Run p l e RR s m args below meth c H locs cells slots mc' ms' (F0 m pc ls st0) rest (Qd E M' Q' a) (frA E)) (hS : va_S (frA E) s.heap H locs)
    (kk : ∀ (r : Int) (G' : GS) (h' : HP) (H1 : Heap) (locs1 : List Loc), Q' r G' h' → Wld E G' h' H1 → va_S (frA E) s.heap H1 locs1 → W p l e RR s m args below meth c H1 locs1 (cells + mc') (slots + ms') QQ (F0 m (pc + 3) ls ((rtv M' r).toList ++ rest))) : W p l e RR s m args below meth c H locs cells slots QQ (F0 m pc ls st0) := by
  intro T hT X
  obtain ⟨v, st₀, t, T', L, h0, X', hL, e1, e2, ⟨⟨r, G', h', hv, hq, hw⟩, hz, hk⟩, st⟩ := hr T hT X
  cases hv
  rw [h0] at hz hk
  obtain ⟨t2, a1, b1⟩ := kk r G' h' T'.heap (locs ++ L) hq (by rw [e1]; exact hw)
    ⟨Nat.le_trans hS.1 (by rw [e1]; exact hz), fun q h1 h2 => by rw [e1, hk q (Nat.lt_of_lt_of_le h1 hS.1) h2]; exact hS.2.1 q h1 h2, fun q hq => by
      rcases List.mem_append.mp hq with h | h
      · exact hS.2.2 q h
      · exact hL q h⟩ T' rfl X'
  exact ⟨t2, st t2 a1, b1⟩
theorem s_callV {c : Nat} {a : Int} (hd : decode M.2.1 pc = .ok (.invokevirtual idx, 3)) (hlk : Cond.methodLink M.1.cls idx M'.1 ∈ lw_tbl) (hC : CalV M' n c) (hn : As.length = n) (hst : As.reverse ++ vR a :: st = stk) (hw : (st.map ctg).sum ≤ 8) (hb : cu ≤ mc ∧ su ≤ ms) (hty : ty G a = c)
    (kk : R l M' d 0 0 (vR a :: As) G h (fun r G' h' => S l M (d + 1, mc, ms, cu, su) (pc + 3) loc (rts M' r ++ st) G' h' Q)) : S l M (d + 1, mc, ms, cu, su) pc loc stk G h Q := by
  subst hst
  intro E p e s m args below meth cd A H locs ls hW hS hl
  obtain ⟨⟨h1, h2, h3, h4⟩, h5, h6, h7, h8⟩ := hC
  obtain ⟨k, n', rfl, hi, -, hil⟩ := ty_some hty (by omega)
  have hts := A.2.2.2.2.2.1
  have he := wsOf_get (E := E) (h := h) hi
  rw [ent_obj h8] at he
  have hrec := va_recv A.2.2.2.2.2.2.1 hW.2.1 (cls_ok h8).1 he
  have hcw : CallW (rmd (d + 1) mc ms) s args M.1.cls M'.1.cls idx M'.1 M'.2.1 M'.2.2.1 M'.2.2.2 (wsM M') (rmd d 0 0) 0 0 n := ⟨callM_of hts ⟨h1, h2, h3, h4⟩ rfl rfl hlk ⟨Nat.le_refl _, by show 8 + (M'.2.2.1 + 11) + 64 * d ≤ 64 * (d + 1); omega⟩, hts _ (lg h5 rfl), hts _ (lg h6 rfl)⟩
  rw [List.map_append, List.map_cons, av_ref (by omega), Int.toNat_natCast]
  refine W_run (va_runV (As := As.map (av E)) (rest := st.map (av E)) (b := eB E + k) ⟨A.1, A.2.1, A.2.2.2.1, A.2.2.2.2.1, hts⟩ (kk E) hcw ⟨pc_blind, (by obtain ⟨c9, a1, a2, a3⟩ := hrec; exact ⟨c9, a1, a2, by rw [← h7]; exact a3⟩), fun U hU hWU => ⟨by rw [List.map_cons, av_ref (by omega), Int.toNat_natCast], by rw [hU]; exact hW, va_K.moved hWU.alike A.2.2.2.2.2.2.1⟩⟩ rfl (by simpa using hn) hl.1 (by rw [List.map_reverse]) (by rw [cat_sum]; show 2 * 0 + _ ≤ 8; omega) hd ⟨by simpa [rmd] using hb.1, by simpa [rmd] using hb.2⟩) hS (fun r G' h' H1 locs1 hQ hW1 hS1 => ?_)
  rw [rts_map E, ← List.map_append]
  exact hQ E p e s m args below meth cd A H1 locs1 ls hW1 hS1 hl
theorem s_callS (hd : decode M.2.1 pc = .ok (.invokestatic idx, 3)) (hlk : Cond.methodLink M.1.cls idx M'.1 ∈ lw_tbl) (hC : CalS M' n) (hn : As.length = n) (hst : As.reverse ++ st = stk) (hw : (st.map ctg).sum ≤ 8) (hb : cu ≤ mc ∧ su ≤ ms)
    (kk : R l M' d 0 0 As G h (fun r G' h' => S l M (d + 1, mc, ms, cu, su) (pc + 3) loc (rts M' r ++ st) G' h' Q)) : S l M (d + 1, mc, ms, cu, su) pc loc stk G h Q := by
  subst hst
  intro E p e s m args below meth cd A H locs ls hW hS hl
  obtain ⟨⟨h1, h2, h3, h4⟩, h5⟩ := hC
  have hts := A.2.2.2.2.2.1
  have hcw : CallB (rmd (d + 1) mc ms) s args M.1.cls idx M'.1 M'.2.1 M'.2.2.1 M'.2.2.2 (wsM M') (rmd d 0 0) 0 0 n ∧ (Cond.static M'.1).before args s = true := ⟨callM_of hts ⟨h1, h2, h3, h4⟩ rfl rfl hlk ⟨Nat.le_refl _, by show 8 + (M'.2.2.1 + 11) + 64 * d ≤ 64 * (d + 1); omega⟩, hts _ (lg h5 rfl)⟩
  rw [List.map_append]
  refine W_run (va_runS (As := As.map (av E)) (rest := st.map (av E)) ⟨A.1, A.2.1, A.2.2.2.1, A.2.2.2.2.1, hts⟩ (kk E) hcw ⟨pc_blind, fun U hU hWU => ⟨rfl, by rw [hU]; exact hW, va_K.moved hWU.alike A.2.2.2.2.2.2.1⟩⟩ rfl (by simpa using hn) hl.1 (by rw [List.map_reverse]) (by rw [cat_sum]; show 2 * 0 + _ ≤ 8; omega) hd ⟨by simpa [rmd] using hb.1, by simpa [rmd] using hb.2⟩) hS (fun r G' h' H1 locs1 hQ hW1 hS1 => ?_)
  rw [rts_map E, ← List.map_append]
  exact hQ E p e s m args below meth cd A H1 locs1 ls hW1 hS1 hl
theorem s_callI {mc' ms' : Nat} {a : Int} (hd : decode M.2.1 pc = .ok (.invokespecial idx, 3)) (hlk : Cond.methodLink M.1.cls idx M'.1 ∈ lw_tbl) (hC : CalI M' n) (hn : As.length = n) (hst : As.reverse ++ vR a :: st = stk) (hw : (st.map ctg).sum ≤ 8) (ha : 0 ≤ a) (hb : cu + mc' ≤ mc ∧ su + ms' ≤ ms)
    (kk : R l M' d mc' ms' (vR a :: As) G h (fun r G' h' => S l M (d + 1, mc, ms, cu + mc', su + ms') (pc + 3) loc st G' h' Q)) : S l M (d + 1, mc, ms, cu, su) pc loc stk G h Q := by
  subst hst
  intro E p e s m args below meth cd A H locs ls hW hS hl
  obtain ⟨⟨h1, h2, h3, h4⟩, h5, h6, h7⟩ := hC
  have hts := A.2.2.2.2.2.1
  have h1' := h1
  rw [h7] at h1'
  have hcw : CallB (rmd (d + 1) mc ms) s args M.1.cls idx M'.1 M'.2.1 M'.2.2.1 none (wsM M') (rmd d mc' ms') mc' ms' n ∧ M'.1.name = "<init>" ∧ (Cond.instanceMethod M'.1).before args s = true := ⟨by rw [← h7]; exact callM_of hts ⟨h1, h2, h3, h4⟩ rfl rfl hlk ⟨Nat.le_refl _, by show 8 + (M'.2.2.1 + 11) + 64 * d ≤ 64 * (d + 1); omega⟩, h6, hts _ (lg h5 rfl)⟩
  rw [List.map_append, List.map_cons, av_ref ha]
  refine W_run (va_runI (As := As.map (av E)) (rest := st.map (av E)) (b := eB E + a.toNat) ⟨A.1, A.2.1, A.2.2.2.1, A.2.2.2.2.1, hts⟩ (kk E) hcw ⟨pc_blind, fun U hU hWU => ⟨by rw [List.map_cons, av_ref ha], by rw [hU]; exact hW, va_K.moved hWU.alike A.2.2.2.2.2.2.1⟩⟩ rfl (by simpa using hn) hl.1 (by rw [List.map_reverse]) (by rw [cat_sum]; show 2 * 0 + _ ≤ 8; omega) hd ⟨by simpa [rmd] using hb.1, by simpa [rmd] using hb.2⟩) hS (fun r G' h' H1 locs1 hQ hW1 hS1 => ?_)
  have e1 : rtv M' r = none := by unfold rtv; rw [h7]
  rw [e1]
  exact hQ E p e s m args below meth cd A H1 locs1 ls hW1 hS1 hl
end Cals
