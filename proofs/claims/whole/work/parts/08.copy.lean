def hcopy (h : HP) (a0 sp a1 dp n : Int) : HP := fun a j => if a = a1 ∧ dp ≤ j ∧ j < dp + n then h a0 (sp + (j - dp)) else h a j
section Copy
variable {l : Launch} {M : MD} {b : BU} {pc : Nat} {loc : LV} {st : List AV} {G : GS} {h : HP} {Q : Int → GS → HP → Prop}
abbrev cpA (G : GS) (a0 sp a1 dp n : Int) : Prop := (ty G a0 = 10 ∧ ty G a1 = 10) ∧ (0 ≤ sp ∧ 0 ≤ dp ∧ 0 ≤ n) ∧ sp + n ≤ ln G a0 ∧ dp + n ≤ ln G a1
set_option maxHeartbeats 1000000 in
theorem s_copy {idx : Nat} {a0 sp a1 dp n : Int} (hd : decode M.2.1 pc = .ok (.invokestatic idx, 3)) (hlk : Cond.methodLink M.1.cls idx arraycopyName ∈ lw_tbl) (hnat : Cond.native arraycopyName ∈ lw_tbl) (hstat : Cond.static arraycopyName ∈ lw_tbl) (hini : Cond.initialized "java/lang/System" ∈ lw_tbl) (hb1 : 1 ≤ b.1) (hw : (st.map ctg).sum ≤ 8) (hA : cpA G a0 sp a1 dp n)
    (kk : ∀ h' : HP, h' = hcopy h a0 sp a1 dp n → S l M b (pc + 3) loc st G h' Q) : S l M b pc loc (vI n :: vI dp :: vR a1 :: vI sp :: vR a0 :: st) G h Q := by
  have kk := kk _ rfl
  intro E p e s m args below meth cd A H locs ls hW hS hl
  obtain ⟨⟨t0, t1⟩, ⟨z0, z1, z2⟩, l0, l1⟩ := hA
  obtain ⟨k0, n0, rfl, hi0, hln0, -⟩ := ty_some t0 (by omega)
  obtain ⟨k1, n1, rfl, hi1, hln1, -⟩ := ty_some t1 (by omega)
  rw [hln0] at l0
  rw [hln1] at l1
  have b0 := (hW.2.2.1 _ (List.mem_of_getElem? hi0)).1
  have b1 := (hW.2.2.1 _ (List.mem_of_getElem? hi1)).1
  have hts := A.2.2.2.2.2.1
  have hK := A.2.2.2.2.2.2.1
  simp only at b0 b1
  rw [List.map_cons, List.map_cons, List.map_cons, List.map_cons, List.map_cons, av_ref (a := (k0 : Int)) (by omega), av_ref (a := (k1 : Int)) (by omega), Int.toNat_natCast, Int.toNat_natCast]
  intro T hT X
  have he0 := wsOf_get (E := E) (h := h) hi0
  have he1 := wsOf_get (E := E) (h := h) hi1
  have hc0 : H[eB E + k0]? = some (vp_cell E.2.1 (n0, .inl fun j => Int32.ofInt (h k0 j))) := hW.2.1 k0 _ he0
  have hc1 : H[eB E + k1]? = some (vp_cell E.2.1 (n1, .inl fun j => Int32.ofInt (h k1 j))) := hW.2.1 k1 _ he1
  obtain ⟨-, kc, hkc, cm0, hkk0⟩ := (hK.2 0 _ rfl).1 n0 (fun j => .int (Int32.ofInt (h k0 j)))
  have es : (Int32.ofInt sp).toNatClampNeg = sp.toNat := i32_cl z0 (by omega)
  have ed : (Int32.ofInt dp).toNatClampNeg = dp.toNat := i32_cl z1 (by omega)
  have en : (Int32.ofInt n).toNatClampNeg = n.toNat := i32_cl z2 (by omega)
  have ng : ∀ z : Int, 0 ≤ z → z ≤ 2147483647 → ¬ Int32.ofInt z < 0 := fun z h1 h2 => by
    rw [show (0 : Int32) = Int32.ofInt 0 from rfl, i32_lt ⟨by omega, h2⟩ (by decide)]; omega
  have hroom : 2 * (F0 m pc ls (.int (Int32.ofInt n) :: .int (Int32.ofInt dp) :: .ref (eB E + k1) :: .int (Int32.ofInt sp) :: .ref (eB E + k0) :: st.map (av E))).monitorRoom + ((st.map (av E)).map fun v => v.category).sum + (nativeFrameWords "java/lang/System" "arraycopy" 5 + 11) ≤ (rmd b.1 b.2.1 b.2.2.1).locals := by
    rw [cat_sum]
    have h40 : nativeFrameWords "java/lang/System" "arraycopy" 5 ≤ 40 := by decide
    show 2 * 0 + _ + _ ≤ 64 * b.1
    omega
  obtain ⟨vm', X', step⟩ := X.arraycopy A.1 A.2.2.2.2.1 (hts _ (lg hlk rfl)) (hts _ (lg hnat rfl)) (hts _ (lg hstat rfl)) (hts _ (lg hini rfl)) (src := eB E + k0) (dst := eB E + k1) (cs := vp_cell E.2.1 (n0, .inl fun j => Int32.ofInt (h k0 j))) (cd := vp_cell E.2.1 (n1, .inl fun j => Int32.ofInt (h k1 j))) (srcPos := Int32.ofInt sp) (destPos := Int32.ofInt dp) (n := Int32.ofInt n) (by rw [hT]; exact hc0) (by rw [hT]; exact hc1)
    (fun _ h => by cases h) (fun _ h => by cases h) (fun h => by cases h) (fun h => by cases h) hkc hkc hkk0 hkk0 (by simp [refKind]) (ng sp z0 (by omega)) (ng dp z1 (by omega)) (ng n z2 (by omega))
    (by rw [i32 ⟨by omega, by omega⟩, i32 ⟨by omega, by omega⟩]; show ¬ _ > ((arrV _ n0 (fun j => Value.int (Int32.ofInt (h k0 j)))).slots.size : Int); rw [arrV_size]; omega)
    (by rw [i32 ⟨by omega, by omega⟩, i32 ⟨by omega, by omega⟩]; show ¬ _ > ((arrV _ n1 (fun j => Value.int (Int32.ofInt (h k1 j)))).slots.size : Int); rw [arrV_size]; omega)
    (fun vm₁ _ i hi => by
      have e : (vp_cell E.2.1 (n0, .inl fun j => Int32.ofInt (h k0 j))).slots.getD ((Int32.ofInt sp).toNatClampNeg + i) .null = .int (Int32.ofInt (h k0 ((Int32.ofInt sp).toNatClampNeg + i : Nat))) := by
        show (arrV _ n0 (fun j => Value.int (Int32.ofInt (h k0 j)))).slots.getD _ _ = _
        rw [Array.getD_eq_getD_getElem?, arrV_read _ _ (by omega)]
        rfl
      refine ⟨?_, ?_⟩
      · rw [e]
        rfl
      · rw [e]
        exact trivial)
    (g := F0 m pc ls (.int (Int32.ofInt n) :: .int (Int32.ofInt dp) :: .ref (eB E + k1) :: .int (Int32.ofInt sp) :: .ref (eB E + k0) :: st.map (av E))) rfl (by rw [A.2.2.2.1]; exact hl.1) (rest := st.map (av E)) rfl (by rw [A.2.1]; exact hd) hb1 hroom
  have e1 : copied (vp_cell E.2.1 (n0, .inl fun j => Int32.ofInt (h k0 j))) (vp_cell E.2.1 (n1, .inl fun j => Int32.ofInt (h k1 j))) (Int32.ofInt sp) (Int32.ofInt dp) (Int32.ofInt n) = vp_cell E.2.1 (n1, .inl (va_cpy (fun j => Int32.ofInt (h k0 j)) (fun j => Int32.ofInt (h k1 j)) (Int32.ofInt sp).toNatClampNeg (Int32.ofInt dp).toNatClampNeg (Int32.ofInt n).toNatClampNeg)) := va_copied (n0 := n0) (n1 := n1) (sp := (Int32.ofInt sp).toNatClampNeg) (dp := (Int32.ofInt dp).toNatClampNeg) (n := (Int32.ofInt n).toNatClampNeg) (fun z => .int z) E.2.1 E.2.1 (fun j => Int32.ofInt (h k0 j)) (fun j => Int32.ofInt (h k1 j)) (by rw [es, en]; omega)
  have e2 : va_cpy (fun j => Int32.ofInt (h k0 j)) (fun j => Int32.ofInt (h k1 j)) (Int32.ofInt sp).toNatClampNeg (Int32.ofInt dp).toNatClampNeg (Int32.ofInt n).toNatClampNeg = fun j : Nat => Int32.ofInt (hcopy h k0 sp k1 dp n k1 (j : Int)) := by
    rw [es, ed, en]
    funext j
    unfold va_cpy hcopy
    by_cases c : dp.toNat ≤ j ∧ j < dp.toNat + n.toNat
    · rw [if_pos c, if_pos ⟨rfl, by omega, by omega⟩]
      show Int32.ofInt (h k0 ((sp.toNat + (j - dp.toNat) : Nat) : Int)) = _
      rw [show ((sp.toNat + (j - dp.toNat) : Nat) : Int) = sp + ((j : Int) - dp) by omega]
    · rw [if_neg c, if_neg (fun q => c ⟨by omega, by omega⟩)]
  rw [e1, e2] at X' step
  generalize hcell : vp_cell E.2.1 (n1, .inl fun j : Nat => Int32.ofInt (hcopy h k0 sp k1 dp n k1 (j : Int))) = cl1 at X' step
  have hlt : eB E + k1 < H.size := (Array.getElem?_eq_some_iff.mp hc1).1
  have hheap : ((T.setVm vm').setCell (eB E + k1) cl1).heap = H.setIfInBounds (eB E + k1) cl1 := by rw [← hT]; rfl
  have oq : ∀ q : Nat, q ≠ eB E + k1 → (H.setIfInBounds (eB E + k1) cl1)[q]? = H[q]? := fun q hq => by simp [Array.getElem?_setIfInBounds, Ne.symm hq]
  have hsz : (H.setIfInBounds (eB E + k1) cl1).size = H.size := by simp
  have hP1 : va_P E.1 vwCl ((wsOf E G h).set k1 (eB E + k1, .inl (E.2.1, n1, .inl fun j : Nat => Int32.ofInt (hcopy h k0 sp k1 dp n k1 (j : Int))))) (H.setIfInBounds (eB E + k1) cl1) := hW.2.1.set wsOf_D he1 (show (H.setIfInBounds (eB E + k1) cl1)[eB E + k1]? = some _ by simp [hlt, ← hcell]) oq
  have hse := wsOf_set (E := E) (h := h) hi1 (h' := hcopy h k0 sp k1 dp n) (fun i hi => by funext x; unfold hcopy; rw [if_neg (fun q => hi (by omega))]) (e := .inl (E.2.1, n1, .inl fun j : Nat => Int32.ofInt (hcopy h k0 sp k1 dp n k1 (j : Int)))) rfl
  rw [hse] at hP1
  have hW1 : Wld E G (hcopy h k0 sp k1 dp n) (H.setIfInBounds (eB E + k1) cl1) := ⟨hsz.trans hW.1, hP1, hW.2.2.1, fun i ni hi j => by
    unfold hcopy
    by_cases c : (i : Int) = (k1 : Int) ∧ dp ≤ j ∧ j < dp + n
    · have : i = k1 := by omega
      subst this
      rw [hi1] at hi
      cases hi
    · rw [if_neg c]
      exact hW.2.2.2 i ni hi j⟩
  obtain ⟨t, a1, b1⟩ := kk E p e s m args below meth cd A _ _ ls hW1 ⟨by rw [hsz]; exact hS.1, fun q g1 g2 => by
      rw [oq q (fun e => g2 (by rw [e]; unfold frA; omega))]
      exact hS.2.1 q g1 g2, fun q hq => by
      rcases List.mem_append.mp hq with h | h
      · exact hS.2.2 q h
      · obtain ⟨z, -, hz⟩ := List.mem_map.mp h
        rw [← hz]
        show eB E ≤ _
        simp⟩ hl _ hheap X'
  exact ⟨t, step t a1, b1⟩
end Copy
