theorem av_cat (E : EV) (v : AV) : (av E v).category = ctg v := by
  obtain ⟨t, x⟩ := v
  match t with
  | 0 => rfl
  | 1 => rfl
  | t + 2 =>
    show (va_rf (rfo E x)).category = ctg (t + 2, x)
    unfold rfo ctg
    by_cases h : x < 0
    · rw [if_pos h, if_neg (by simp)]; rfl
    · rw [if_neg h, if_neg (by simp)]; rfl
theorem lvs_mem {loc : LV} {i : Nat} {v : AV} (h : loc[i]? = some (some v)) : (i, v) ∈ lvs loc := by
  unfold lvs
  refine List.mem_filterMap.mpr ⟨i, List.mem_range.mpr (List.getElem?_eq_some_iff.mp h).1, ?_⟩
  simp [List.getD_eq_getElem?_getD, h]
theorem mem_lvs {loc : LV} {i : Nat} {v : AV} (h : (i, v) ∈ lvs loc) : loc[i]? = some (some v) := by
  unfold lvs at h
  obtain ⟨j, hj, e⟩ := List.mem_filterMap.mp h
  have hl := List.mem_range.mp hj
  have e0 : loc[j]? = some (loc[j]'hl) := List.getElem?_eq_getElem hl
  rw [List.getD_eq_getElem?_getD, e0] at e
  cases hq : loc[j]'hl with
  | none => rw [hq] at e; simp at e
  | some w =>
    rw [hq] at e
    simp at e
    obtain ⟨rfl, rfl⟩ := e
    rw [e0, hq]
theorem lh_has {E : EV} {ls : Array Slot} {n : Nat} {loc : LV} (h : lh E ls n loc) : lv_has ls n ((lvs loc).map fun q => (q.1, av E q.2)) := by
  refine ⟨h.1, h.2.1, fun q hq => ?_⟩
  obtain ⟨⟨i, v⟩, hm, rfl⟩ := List.mem_map.mp hq
  exact h.2.2 i v (mem_lvs hm)
def nol (o : Option AV) : Bool := match o with
  | some (1, _) => false
  | _ => true
theorem nol_cat {v : AV} (h : nol (some v) = true) : ctg v = 1 := by
  obtain ⟨t, x⟩ := v
  match t with
  | 0 => rfl
  | 1 => cases h
  | t + 2 => unfold ctg; rw [if_neg (by simp)]
theorem lh_put {E : EV} {ls' : Array Slot} {n : Nat} {loc : LV} {i : Nat} {v : AV} (hno : loc.all nol = true)
    (h : lv_has ls' n ((i, av E v) :: ((lvs loc).map fun q => (q.1, av E q.2)).filter (fun q => !(q.1 == i) && !(q.1 + 1 == i && q.2.category == 2)))) : lh E ls' n (loc.set i (some v)) := by
  refine ⟨h.1, h.2.1, fun j w hj => ?_⟩
  by_cases e : j = i
  · subst e
    by_cases hl : j < loc.length
    · rw [List.getElem?_set_self hl] at hj
      cases hj
      exact h.2.2 _ List.mem_cons_self
    · rw [List.getElem?_eq_none (by simpa using hl)] at hj; cases hj
  · rw [List.getElem?_set_ne (Ne.symm e)] at hj
    refine h.2.2 (j, av E w) (List.mem_cons_of_mem _ (List.mem_filter.mpr ⟨List.mem_map.mpr ⟨(j, w), lvs_mem hj, rfl⟩, ?_⟩))
    have hw : ctg w = 1 := nol_cat (List.all_eq_true.mp hno _ (List.mem_of_getElem? hj))
    simp [e, av_cat, hw]
theorem ent_obj {E : EV} {c n : Nat} {f : Int → Int} (h : c < 10) : ent E (c, n) f = .inr (c, (List.range n).map fun j => av E (fk c j, f j)) := by
  unfold ent
  split <;> first | rfl | (rename_i e; simp at e; omega)
theorem wsOf_set {E : EV} {G : GS} {h h' : HP} {k : Nat} {q : Nat × Nat} (hk : G[k]? = some q) (ho : ∀ j : Nat, j ≠ k → h' j = h j) {e : va_E} (he : e = ent E q (h' k)) : (wsOf E G h).set k (eB E + k, e) = wsOf E G h' := by
  apply List.ext_getElem?
  intro i
  by_cases hi : i < G.length
  · have hgi : G[i]? = some (G[i]'hi) := List.getElem?_eq_getElem hi
    by_cases e1 : i = k
    · subst e1
      rw [List.getElem?_set_self (by rw [wsOf_len]; exact hi), wsOf_get hk, he]
    · rw [List.getElem?_set_ne (Ne.symm e1), wsOf_get hgi, wsOf_get hgi, ho i e1]
  · rw [List.getElem?_eq_none (by simp [wsOf_len]; omega), List.getElem?_eq_none (by simp [wsOf_len]; omega)]
theorem hset_o {h : HP} {a j v : Int} {k : Nat} (hk : (k : Int) ≠ a) : hset h a j v k = h k := by
  funext x
  simp [hset, hk]
theorem Wld_set {E : EV} {G : GS} {h : HP} {H H1 : Heap} {k : Nat} {q : Nat × Nat} {j v : Int} {e : va_E} (hW : Wld E G h H) (hs : H1.size = H.size) (hk : G[k]? = some q) (he : e = ent E q (hset h k j v k)) (hP : va_P E.1 vwCl ((wsOf E G h).set k (eB E + k, e)) H1) (hz : q.1 = 11 → v = 0 ∨ v = 1) : Wld E G (hset h k j v) H1 := by
  obtain ⟨w1, w2, w3, w4⟩ := hW
  rw [wsOf_set hk (fun i hi => hset_o (by omega)) he] at hP
  refine ⟨by rw [hs]; exact w1, hP, w3, fun i n hi x => ?_⟩
  by_cases e1 : (i : Int) = k
  · have e2 : i = k := by omega
    subst e2
    rw [hk] at hi
    cases hi
    by_cases e3 : x = j
    · subst e3; simp [hset]; exact hz rfl
    · have := w4 i n hk x
      simpa [hset, e3] using this
  · rw [hset_o e1]; exact w4 i n hi x
theorem va_S_size {A : Nat → Prop} {D : va_G} {cl : List vw_C} {H1 : Heap} {ws : va_W} (_ : va_P D cl ws H1) : True := trivial
theorem ci_0 : ∀ w ∈ u_ws RX0 TX0 5, w ∈ lw_g := by
  have h : ∀ w ∈ u_ws RX0 TX0 5, w ∈ lw_tbl ∧ gw2 w = true := by decide +kernel
  exact fun w hw => lg (h w hw).1 (h w hw).2
theorem ci_1 : ∀ w ∈ u_ws RX1 TX1 3, w ∈ lw_g := by
  have h : ∀ w ∈ u_ws RX1 TX1 3, w ∈ lw_tbl ∧ gw2 w = true := by decide +kernel
  exact fun w hw => lg (h w hw).1 (h w hw).2
theorem ci_2 : ∀ w ∈ u_ws RX2 TX2 1, w ∈ lw_g := by
  have h : ∀ w ∈ u_ws RX2 TX2 1, w ∈ lw_tbl ∧ gw2 w = true := by decide +kernel
  exact fun w hw => lg (h w hw).1 (h w hw).2
theorem ci_3 : ∀ w ∈ u_ws RX3 TX3 1, w ∈ lw_g := by
  have h : ∀ w ∈ u_ws RX3 TX3 1, w ∈ lw_tbl ∧ gw2 w = true := by decide +kernel
  exact fun w hw => lg (h w hw).1 (h w hw).2
theorem ci_4 : ∀ w ∈ u_ws RX4 TX4 7, w ∈ lw_g := by
  have h : ∀ w ∈ u_ws RX4 TX4 7, w ∈ lw_tbl ∧ gw2 w = true := by decide +kernel
  exact fun w hw => lg (h w hw).1 (h w hw).2
theorem ci_5 : ∀ w ∈ u_ws RX5 TX5 2, w ∈ lw_g := by
  have h : ∀ w ∈ u_ws RX5 TX5 2, w ∈ lw_tbl ∧ gw2 w = true := by decide +kernel
  exact fun w hw => lg (h w hw).1 (h w hw).2
theorem ci_6 : ∀ w ∈ u_ws RX6 TX6 11, w ∈ lw_g := by
  have h : ∀ w ∈ u_ws RX6 TX6 11, w ∈ lw_tbl ∧ gw2 w = true := by decide +kernel
  exact fun w hw => lg (h w hw).1 (h w hw).2
theorem ci_7 : ∀ w ∈ u_ws RX7 TX7 10, w ∈ lw_g := by
  have h : ∀ w ∈ u_ws RX7 TX7 10, w ∈ lw_tbl ∧ gw2 w = true := by decide +kernel
  exact fun w hw => lg (h w hw).1 (h w hw).2
theorem ci_8 : ∀ w ∈ u_ws RX8 TX8 12, w ∈ lw_g := by
  have h : ∀ w ∈ u_ws RX8 TX8 12, w ∈ lw_tbl ∧ gw2 w = true := by decide +kernel
  exact fun w hw => lg (h w hw).1 (h w hw).2
theorem ci_9 : ∀ w ∈ u_ws RX9 TX9 28, w ∈ lw_g := by
  have h : ∀ w ∈ u_ws RX9 TX9 28, w ∈ lw_tbl ∧ gw2 w = true := by decide +kernel
  exact fun w hw => lg (h w hw).1 (h w hw).2
theorem cls_ok {c : Nat} (h : c < 10) : vwCl[c]? = some (cR c, cT c, cN c) ∧ (∀ w ∈ u_ws (cR c) (cT c) (cN c), w ∈ lw_g) ∧ (∀ k, k < cN c → parseFieldDescriptor (cT c k).2.2.1 = some (cty c k)) ∧ (∀ a, a < cN c → ∀ b, b < cN c → a ≠ b → (cT c a).2.1 ≠ (cT c b).2.1) := by
  match c, h with
  | 0, _ => exact ⟨rfl, ci_0, tyX0_ok, nmX0⟩
  | 1, _ => exact ⟨rfl, ci_1, tyX1_ok, nmX1⟩
  | 2, _ => exact ⟨rfl, ci_2, tyX2_ok, nmX2⟩
  | 3, _ => exact ⟨rfl, ci_3, tyX3_ok, nmX3⟩
  | 4, _ => exact ⟨rfl, ci_4, tyX4_ok, nmX4⟩
  | 5, _ => exact ⟨rfl, ci_5, tyX5_ok, nmX5⟩
  | 6, _ => exact ⟨rfl, ci_6, tyX6_ok, nmX6⟩
  | 7, _ => exact ⟨rfl, ci_7, tyX7_ok, nmX7⟩
  | 8, _ => exact ⟨rfl, ci_8, tyX8_ok, nmX8⟩
  | 9, _ => exact ⟨rfl, ci_9, tyX9_ok, nmX9⟩
  | c + 10, h => exact absurd h (by omega)
