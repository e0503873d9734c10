theorem mx_name : yJ9_max_7cf53 = Lib.Math.max.name := by decide +kernel
theorem mx_code : cJ9_max_7cf53 = Lib.Math.max.code := by decide +kernel
theorem s_mmax {l : Launch} {M : MD} {pc d mc ms cu su idx : Nat} {loc : LV} {st : List AV} {G : GS} {h : HP} {Q : Int → GS → HP → Prop} {x y : Int} (hd : decode M.2.1 pc = .ok (.invokestatic idx, 3)) (hlk : Cond.methodLink M.1.cls idx yJ9_max_7cf53 ∈ lw_tbl) (hb : cu ≤ mc ∧ su ≤ ms) (hw : (st.map ctg).sum ≤ 8) (hx : inR x) (hy : inR y) (k : S l M (d + 1, mc, ms, cu, su) (pc + 3) loc (vI (if x < y then y else x) :: st) G h Q) : S l M (d + 1, mc, ms, cu, su) pc loc (vI y :: vI x :: st) G h Q := by
  intro E p e s m args below meth c A H locs ls hW hS hl
  have hts := A.2.2.2.2.2.1
  obtain ⟨⟨c1, c2, c3, c4⟩, c5⟩ := cs_J9_max_7cf53
  have c1' : Cond.code Lib.Math.max.name Lib.Math.max.code 2 (some .int) ∈ lw_tbl := by rw [← mx_name, ← mx_code]; exact c1
  refine va_mmax A.1 A.2.1 (by rw [A.2.2.2.1]; exact hl.1.symm) A.2.2.2.2.1 (by rw [← mx_name]; exact hts _ (lg hlk rfl)) (by rw [← mx_name]; exact hts _ (lg c5 rfl)) (hts _ (lg c2 rfl)) (hts _ (lg c1' rfl)) (Nat.succ_le_succ (Nat.zero_le _)) (by rw [cat_sum]; show _ + 13 ≤ 64 * (d + 1); omega) hb.1 hb.2 hd ?_
  have e1 : (if Int32.ofInt x < Int32.ofInt y then Int32.ofInt y else Int32.ofInt x) = Int32.ofInt (if x < y then y else x) := by
    by_cases c : x < y
    · rw [if_pos ((i32_lt hx hy).mpr c), if_pos c]
    · rw [if_neg (fun z => c ((i32_lt hx hy).mp z)), if_neg c]
  rw [e1]
  exact k E p e s m args below meth c A H locs ls hW hS hl
