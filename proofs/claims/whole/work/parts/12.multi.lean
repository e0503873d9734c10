def hmul (h : HP) (N : Nat) (n : Nat) : HP := fun a j => if a = (N : Int) then (if 0 ≤ j ∧ j < (n : Int) then (N : Int) + 1 + j else -1) else if (N : Int) < a ∧ a ≤ (N : Int) + n then 0 else h a j
theorem Wld_app {E : EV} {G L : GS} {h h' : HP} {H H1 : Heap} (hW : Wld E G h H) (hs : H1.size = H.size + L.length) (ho : ∀ x : Nat, x < H.size → H1[x]? = H[x]?) (hh : ∀ k : Nat, k < G.length → h' k = h k) (hn : ∀ (i : Nat) (q : Nat × Nat), L[i]? = some q → va_at E.1 vwCl (eB E + (G.length + i), ent E q (h' ((G.length + i : Nat) : Int))) H1) (hk : ∀ q ∈ L, q.2 < 2 ^ 31 ∧ (q.1 < 10 → q.2 = cN q.1)) (hz : ∀ q ∈ L, q.1 ≠ 11) : Wld E (G ++ L) h' H1 := by
  obtain ⟨w1, w2, w3, w4⟩ := hW
  refine ⟨by rw [hs, w1]; simp; omega, ?_, ?_, ?_⟩
  · intro k x hx
    have hkl : k < (G ++ L).length := by
      have := (List.getElem?_eq_some_iff.mp hx).1
      rw [wsOf_len] at this; exact this
    have hg : (G ++ L)[k]? = some ((G ++ L)[k]'hkl) := List.getElem?_eq_getElem hkl
    rw [wsOf_get hg] at hx
    cases hx
    by_cases hi : k < G.length
    · rw [List.getElem?_append_left hi] at hg
      have h1 := w2 k _ (wsOf_get (E := E) (h := h) hg)
      rw [hh k hi]
      exact h1.kept (ho _ h1.lt)
    · rw [List.getElem?_append_right (by omega)] at hg
      have := hn (k - G.length) _ hg
      rw [show G.length + (k - G.length) = k by omega] at this
      exact this
  · intro x hx
    rcases List.mem_append.mp hx with hx | hx
    · exact w3 x hx
    · exact hk x hx
  · intro k n hk2 j
    by_cases hi : k < G.length
    · rw [List.getElem?_append_left hi] at hk2
      rw [hh k hi]
      exact w4 k n hk2 j
    · rw [List.getElem?_append_right (by omega)] at hk2
      exact absurd rfl (hz _ (List.mem_of_getElem? hk2))
theorem mu_outer (c : ClassId) (N h0 : Nat) : ∀ i : Nat, Jvm.Free.Multi.outerC c N h0 i = arrV c N (fun j => va_rf (if j < i then some (h0 + 1 + j) else none))
  | 0 => by
    show ({ cls := c, slots := Array.replicate N .null, vm := .none } : Cell) = _
    rw [arrV_new]
    refine congrArg (arrV c N) (funext fun j => ?_)
    simp [va_rf]
  | i + 1 => by
    show (Jvm.Free.Multi.outerC c N h0 i).setSlot i (.ref (h0 + 1 + i)) = _
    rw [mu_outer c N h0 i, arrV_store]
    refine congrArg (arrV c N) (funext fun j => ?_)
    by_cases e : j = i
    · subst e
      simp [updV, va_rf]
    · by_cases h : j < i
      · simp [updV, e, h, Nat.lt_succ_of_lt h]
      · simp [updV, e, h, show ¬ j < i + 1 by omega]
section Multi
variable {l : Launch} {M : MD} {pc d mc ms cu su : Nat} {loc : LV} {st : List AV} {G : GS} {h : HP} {Q : Int → GS → HP → Prop}
set_option maxHeartbeats 1000000 in
theorem s_multi {n k idx : Nat} (hd : decode M.2.1 pc = .ok (.multianewarray idx 2, 4)) (hlk : Cond.classLink M.1.cls idx "[[I" ∈ lw_tbl) (hao : Cond.arrayOver (.array .int) ∈ lw_tbl) (hac : Cond.arrayClass .int ∈ lw_tbl) (hn : n < 100000) (hk : k < 100000) (hb : cu + (1 + n) ≤ mc ∧ su + (n + n * k) ≤ ms)
    (kk : S l M (d, mc, ms, cu + 1 + n, su + n + n * k) (pc + 4) loc (vR G.length :: st) (G ++ ((13, n) :: List.replicate n (10, k))) (hmul h G.length n) Q) : S l M (d, mc, ms, cu, su) pc loc (vI (k : Int) :: vI (n : Int) :: st) G h Q := by
  intro E p e s m args below meth cd A H locs ls hW hS hl
  have hts := A.2.2.2.2.2.1
  have hK := A.2.2.2.2.2.2.1
  have en : (Int32.ofInt (n : Int)).toNatClampNeg = n := by rw [i32_cl (by omega) (by omega)]; omega
  have ek : (Int32.ofInt (k : Int)).toNatClampNeg = k := by rw [i32_cl (by omega) (by omega)]; omega
  have ng : ∀ z : Nat, z < 100000 → ¬ Int32.ofInt (z : Int) < 0 := fun z hz => by
    rw [show (0 : Int32) = Int32.ofInt 0 from rfl, i32_lt ⟨by omega, by omega⟩ (by decide)]; omega
  have hstr : "[" ++ (FieldType.array .int).toString = "[[I" := by decide
  have hstr2 : (FieldType.array .int).toString = "[" ++ (FieldType.int).toString := by decide
  rw [List.map_cons, List.map_cons]
  intro T hT Xs
  obtain ⟨vm₁, cA, comp, -, fA, fC, hO, hI, X', step⟩ := Xs.multianewarray2F (ty := .int) A.1 A.2.2.2.2.1 (by rw [hstr]; exact hts _ (lg hlk rfl)) (hts _ (lg hao rfl)) (hts _ (lg hac rfl)) (g := F0 m pc ls (.int (Int32.ofInt (k : Int)) :: .int (Int32.ofInt (n : Int)) :: st.map (av E))) rfl (by rw [A.2.1]; exact hd) rfl (ng n hn) (ng k hk) (by rw [en]; omega) (by rw [ek]; show k * 4 ≤ _; omega) (by rw [ek]; omega) rfl rfl (by rw [en]; exact hb.1) (by rw [en, ek]; exact hb.2)
  rw [en, ek] at X' step
  have ecA : cA = E.2.2.2.2.1 := Option.some.inj (fA.symm.trans (hK.2 3 _ rfl).2)
  have ecC : comp = E.2.1 := by
    rw [hstr2] at fC
    exact Option.some.inj (fC.symm.trans (hK.2 0 _ rfl).2)
  subst ecA
  subst ecC
  generalize hF : Jvm.Free.Multi.fill (T.setVm vm₁) E.2.2.2.2.1 E.2.1 n k (defaultValue .int) n = F at X' step
  have hTh : (T.setVm vm₁).heap = H := hT
  obtain ⟨f1, f2, -, -⟩ := Jvm.Free.Multi.fill_facts (T.setVm vm₁) E.2.2.2.2.1 E.2.1 n k (defaultValue .int) n
  rw [hF, hTh] at f1 f2
  have hold : ∀ x : Nat, x < H.size → F.heap[x]? = H[x]? := fun x hx => by
    have := Jvm.Free.Multi.fill_old (T.setVm vm₁) E.2.2.2.2.1 E.2.1 n k (defaultValue .int) (a := x) (by rw [hTh]; exact hx) n
    rw [hF, hTh] at this
    exact this
  have hrow : ∀ j : Nat, j < n → F.heap[H.size + 1 + j]? = some (arrV E.2.1 k (fun _ => .int 0)) := fun j hj => by
    have := Jvm.Free.Multi.fill_inner (T.setVm vm₁) E.2.2.2.2.1 E.2.1 n k (defaultValue .int) n j hj
    rw [hF, hTh] at this
    rw [this, ← arrV_new]
    rfl
  rw [mu_outer] at f2
  have hWn : Wld E (G ++ ((13, n) :: List.replicate n (10, k))) (hmul h G.length n) F.heap := by
    refine Wld_app hW (by rw [f1]; simp; omega) hold (fun i hi => ?_) (fun i q hq => ?_) ?_ ?_
    · funext j
      unfold hmul
      rw [if_neg (by omega), if_neg (by omega)]
    · cases i with
      | zero =>
        simp at hq
        subst hq
        show F.heap[eB E + (G.length + 0)]? = some (vp_cell E.2.2.2.2.1 (n, .inr (.inr (.inr (.inr fun j : Nat => rfo E (hmul h G.length n ((G.length + 0 : Nat) : Int) (j : Int)))))))
        rw [vp_cell_q, Nat.add_zero, ← hW.1, f2]
        congr 2
        funext j
        congr 1
        have e1 : hmul h G.length n ((G.length + 0 : Nat) : Int) (j : Int) = if 0 ≤ (j : Int) ∧ (j : Int) < (n : Int) then (G.length : Int) + 1 + j else -1 := by
          unfold hmul
          exact if_pos (by simp)
        by_cases c : j < n
        · have e2 : rfo E (hmul h G.length n ((G.length + 0 : Nat) : Int) (j : Int)) = some (H.size + 1 + j) := by
            rw [e1, if_pos ⟨by omega, by omega⟩]
            unfold rfo
            rw [if_neg (by omega), hW.1]
            congr 1
            omega
          rw [if_pos c]
          exact e2.symm
        · have e2 : rfo E (hmul h G.length n ((G.length + 0 : Nat) : Int) (j : Int)) = none := by
            rw [e1, if_neg (by omega)]
            rfl
          rw [if_neg c]
          exact e2.symm
      | succ i =>
        rw [List.getElem?_cons_succ] at hq
        have hi : i < n := by
          have := (List.getElem?_eq_some_iff.mp hq).1
          simpa using this
        rw [List.getElem?_replicate, if_pos hi] at hq
        cases hq
        show F.heap[eB E + (G.length + (i + 1))]? = some (vp_cell E.2.1 (k, .inl fun j : Nat => Int32.ofInt (hmul h G.length n ((G.length + (i + 1) : Nat) : Int) (j : Int))))
        rw [vp_cell_i, show eB E + (G.length + (i + 1)) = H.size + 1 + i by rw [hW.1]; omega, hrow i hi]
        congr 2
        funext j
        have e1 : hmul h G.length n ((G.length + (i + 1) : Nat) : Int) (j : Int) = 0 := by
          unfold hmul
          rw [if_neg (by omega), if_pos (by omega)]
        rw [e1]
        rfl
    · intro q hq
      rcases List.mem_cons.mp hq with rfl | hq
      · exact ⟨by show n < _; omega, fun h => absurd h (Nat.not_lt.mpr (Nat.le_of_ble_eq_true rfl))⟩
      · rw [(List.mem_replicate.mp hq).2]
        exact ⟨by show k < _; omega, fun h => absurd h (Nat.not_lt.mpr (Nat.le_of_ble_eq_true rfl))⟩
    · intro q hq
      rcases List.mem_cons.mp hq with rfl | hq
      · exact fun e => by simp at e
      · rw [(List.mem_replicate.mp hq).2]; exact fun e => by simp at e
  have hSn : va_S (frA E) s.heap F.heap locs := ⟨Nat.le_trans hS.1 (by rw [f1]; omega), fun x h1 h2 => (hold x (Nat.lt_of_lt_of_le h1 hS.1)).trans (hS.2.1 x h1 h2), hS.2.2⟩
  have hkk := kk E p e s m args below meth cd A F.heap locs ls hWn hSn hl
  rw [List.map_cons, av_ref (by omega), Int.toNat_natCast, ← hW.1] at hkk
  obtain ⟨t, a1, b1⟩ := hkk F rfl X'
  refine ⟨t, step t ?_, b1⟩
  have e : T.heap.size = H.size := by rw [hT]
  rw [e]
  exact a1
end Multi
