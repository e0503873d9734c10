/-! the law's own body -/
def SL (l : Launch) (b L : Nat) (xs : Nat → Int32) (cu su pc : Nat) (loc : LV) (st : List AV) (G : GS) (h : HP) : Prop :=
  ∀ (E : EV) (p : Program) (e : Env) (s : State) (m : MethodId) (below : List Frame) (meth : Method) (c : Code), lw_At p s m meth c b L xs → KN E s → eB E = s.heap.size →
  ∀ (H : Heap) (locs : List Loc) (ls : Array Slot), Wld E G h H → va_S (frA E) s.heap H locs → lh E ls 4 loc → ls[0]? = some (.val (.ref b)) →
  W p l e room_1 s m #[Value.ref b] below meth c H locs cu su (lw_Z below #[Value.ref b] s) (F0 m pc ls (st.map (av E)))
section LawRows
variable {l : Launch} {b L : Nat} {xs : Nat → Int32} {cu su pc : Nat} {loc : LV} {st stk : List AV} {G : GS} {h : HP}
theorem l_iconst {n : Int} (hd : decode cL_law pc = .ok (.iconst n, 1)) (k : SL l b L xs cu su (pc + 1) loc (vI n :: st) G h) : SL l b L xs cu su pc loc st G h := by
  intro E p e s m below meth c A K B H locs ls hW hS hl h0
  exact lv_iconst A.1 A.2.1 hd rfl (k E p e s m below meth c A K B H locs ls hW hS hl h0)
theorem l_bipush {n : Int} (hd : decode cL_law pc = .ok (.bipush n, 2)) (hn : (Int8.ofInt n).toInt32 = Int32.ofInt n) (k : SL l b L xs cu su (pc + 2) loc (vI n :: st) G h) : SL l b L xs cu su pc loc st G h := by
  intro E p e s m below meth c A K B H locs ls hW hS hl h0
  exact lv_bipush A.1 A.2.1 hd hn (k E p e s m below meth c A K B H locs ls hW hS hl h0)
theorem l_iload_n {n : Fin 4} {i : Nat} {x : Int} (hd : decode cL_law pc = .ok (.iload_n n, 1)) (hi : (n : Nat) = i) (hv : loc[i]? = some (some (vI x))) (k : SL l b L xs cu su (pc + 1) loc (vI x :: st) G h) : SL l b L xs cu su pc loc st G h := by
  intro E p e s m below meth c A K B H locs ls hW hS hl h0
  exact lv_iload_n A.1 A.2.1 hd hi (hl.2.2 i _ hv) (k E p e s m below meth c A K B H locs ls hW hS hl h0)
theorem l_aload_n {n : Fin 4} {i : Nat} {x : Int} (hd : decode cL_law pc = .ok (.aload_n n, 1)) (hi : (n : Nat) = i) (hv : loc[i]? = some (some (vR x))) (hx : 0 ≤ x) (k : SL l b L xs cu su (pc + 1) loc (vR x :: st) G h) : SL l b L xs cu su pc loc st G h := by
  intro E p e s m below meth c A K B H locs ls hW hS hl h0
  have h1 := hl.2.2 i _ hv
  have h2 := k E p e s m below meth c A K B H locs ls hW hS hl h0
  rw [List.map_cons] at h2
  rw [av_ref hx] at h1 h2
  exact lv_aload_n A.1 A.2.1 hd hi h1 h2
theorem l_isub {x y : Int} (hd : decode cL_law pc = .ok (.isub, 1)) (k : SL l b L xs cu su (pc + 1) loc (vI (x - y) :: st) G h) : SL l b L xs cu su pc loc (vI y :: vI x :: st) G h := by
  intro E p e s m below meth c A K B H locs ls hW hS hl h0
  refine lv_isub A.1 A.2.1 hd ?_
  rw [← Int32.ofInt_sub]
  exact k E p e s m below meth c A K B H locs ls hW hS hl h0
theorem l_iand31 {x : Int} (hd : decode cL_law pc = .ok (.iand, 1)) (k : SL l b L xs cu su (pc + 1) loc (vI (x % 32) :: st) G h) : SL l b L xs cu su pc loc (vI 31 :: vI x :: st) G h := by
  intro E p e s m below meth c A K B H locs ls hW hS hl h0
  refine lv_iand A.1 A.2.1 hd ?_
  have e1 : Int32.ofInt x &&& Int32.ofInt 31 = Int32.ofInt (x % 32) := by
    rw [pk_and (Int32.ofInt x) (m := Int32.ofInt 31) 5 (by decide), ofi_bv, i32_nat (by omega)]
    exact congrArg nI (by omega)
  rw [e1]
  exact k E p e s m below meth c A K B H locs ls hW hS hl h0
theorem l_dup {v : AV} (hd : decode cL_law pc = .ok (.dup, 1)) (hv : ctg v = 1) (k : SL l b L xs cu su (pc + 1) loc (v :: v :: st) G h) : SL l b L xs cu su pc loc (v :: st) G h := by
  intro E p e s m below meth c A K B H locs ls hW hS hl h0
  exact lv_dup A.1 A.2.1 hd (by rw [av_cat]; exact hv) (k E p e s m below meth c A K B H locs ls hW hS hl h0)
theorem l_goto {off : Int} {tgt : Nat} (hd : decode cL_law pc = .ok (.goto off, 3)) (ht : (pc : Int) + off = (tgt : Int)) (k : SL l b L xs cu su tgt loc st G h) : SL l b L xs cu su pc loc st G h := by
  intro E p e s m below meth c A K B H locs ls hW hS hl h0
  exact lv_goto A.1 A.2.1 hd ht (k E p e s m below meth c A K B H locs ls hW hS hl h0)
theorem l_icmp_gt {x y off : Int} {tgt : Nat} (hd : decode cL_law pc = .ok (.if_icmp .gt off, 3)) (ht : (pc : Int) + off = (tgt : Int)) (hx : inR x) (hy : inR y) (kt : y < x → SL l b L xs cu su tgt loc st G h) (kf : x ≤ y → SL l b L xs cu su (pc + 3) loc st G h) : SL l b L xs cu su pc loc (vI y :: vI x :: st) G h := by
  intro E p e s m below meth c A K B H locs ls hW hS hl h0
  exact lv_icmp_gt A.1 A.2.1 hd ht (fun c' => kt ((i32_lt hy hx).mp c') E p e s m below meth _ A K B H locs ls hW hS hl h0) (fun c' => kf (Int.not_lt.mp (fun q => c' ((i32_lt hy hx).mpr q))) E p e s m below meth _ A K B H locs ls hW hS hl h0)
/-- the two answers are the same -/
theorem l_same {x off : Int} {tgt : Nat} (hd : decode cL_law pc = .ok (.if_icmp .eq off, 3)) (ht : (pc : Int) + off = (tgt : Int)) (kt : SL l b L xs cu su tgt loc st G h) : SL l b L xs cu su pc loc (vI x :: vI x :: st) G h := by
  intro E p e s m below meth c A K B H locs ls hW hS hl h0
  exact lv_icmp_eq A.1 A.2.1 hd ht (fun _ => kt E p e s m below meth _ A K B H locs ls hW hS hl h0) (fun c' => absurd rfl c')
theorem l_tblIn {dflt lo hi off x : Int} {offs : Array Int} {len tgt : Nat} (hd : decode cL_law pc = .ok (.tableswitch dflt lo hi offs, len)) (hx : inR x) (h1 : ¬ x < lo) (h2 : ¬ hi < x) (ho : offs[(x - lo).toNat]? = some off) (ht : (pc : Int) + off = (tgt : Int)) (k : SL l b L xs cu su tgt loc st G h) : SL l b L xs cu su pc loc (vI x :: st) G h := by
  intro E p e s m below meth c A K B H locs ls hW hS hl h0
  exact lv_tableIn A.1 A.2.1 hd (by rw [i32 hx]; exact h1) (by rw [i32 hx]; exact h2) (by rw [i32 hx]; exact ho) ht (k E p e s m below meth _ A K B H locs ls hW hS hl h0)
theorem l_tblOut {dflt lo hi x : Int} {offs : Array Int} {len tgt : Nat} (hd : decode cL_law pc = .ok (.tableswitch dflt lo hi offs, len)) (hx : inR x) (h1 : x < lo ∨ hi < x) (ht : (pc : Int) + dflt = (tgt : Int)) (k : SL l b L xs cu su tgt loc st G h) : SL l b L xs cu su pc loc (vI x :: st) G h := by
  intro E p e s m below meth c A K B H locs ls hW hS hl h0
  exact lv_tableOut A.1 A.2.1 hd (by rw [i32 hx]; exact h1) ht (k E p e s m below meth _ A K B H locs ls hW hS hl h0)
/-- the script's length -/
theorem l_len (d0 : decode cL_law pc = .ok (.aload_n 0, 1)) (d1 : decode cL_law (pc + 1) = .ok (.arraylength, 1)) (k : SL l b L xs cu su (pc + 1 + 1) loc (vI L :: st) G h) : SL l b L xs cu su pc loc st G h := by
  intro E p e s m below meth c A K B H locs ls hW hS hl h0
  have hbA : ¬ frA E b := by unfold frA; rw [B]; exact Nat.not_le.mpr A.2.2.2.2.2.2.2.1
  refine lv_aload_n A.1 A.2.1 d0 rfl h0 ?_
  exact va_slen A.1 A.2.1 A.2.2.2.2.2.2.1 A.2.2.2.2.2.2.2.1 hbA hS d1 (k E p e s m below meth c A K B H locs ls hW hS hl h0)
theorem vpin_x {x : Int} {L : Nat} (x0 : 0 ≤ x) (xL : x < L) (hL : L ≤ 2560) : vp_in (Int32.ofInt x) L := by
  intro z
  rcases z with z | z
  · rw [show (0 : Int32) = Int32.ofInt 0 from rfl, i32_lt ⟨by omega, by omega⟩ (by decide)] at z
    omega
  · rw [i32_cl x0 (by omega)] at z
    omega
/-- a number of the script -/
theorem l_get {i k : Int} (d0 : decode cL_law pc = .ok (.aload_n 0, 1)) (d1 : decode cL_law (pc + 1) = .ok (.iload_n 3, 1)) (d2 : decode cL_law (pc + 1 + 1) = .ok (.iconst k, 1)) (d3 : decode cL_law (pc + 1 + 1 + 1) = .ok (.iadd, 1)) (d4 : decode cL_law (pc + 1 + 1 + 1 + 1) = .ok (.iaload, 1)) (hi : loc[3]? = some (some (vI i))) (i0 : 0 ≤ i + k) (iL : i + k < L) (hL : L ≤ 2560) (kk : SL l b L xs cu su (pc + 5) loc (vI (xs (i + k).toNat).toInt :: st) G h) : SL l b L xs cu su pc loc st G h := by
  intro E p e s m below meth c A K B H locs ls hW hS hl h0
  have hbA : ¬ frA E b := by unfold frA; rw [B]; exact Nat.not_le.mpr A.2.2.2.2.2.2.2.1
  refine lv_aload_n A.1 A.2.1 d0 rfl h0 ?_
  refine lv_iload_n A.1 A.2.1 d1 rfl (hl.2.2 3 _ hi) ?_
  refine lv_iconst A.1 A.2.1 d2 rfl ?_
  refine lv_iadd A.1 A.2.1 d3 ?_
  rw [← Int32.ofInt_add]
  refine va_sld A.1 A.2.1 A.2.2.2.2.2.2.1 A.2.2.2.2.2.2.2.1 hbA hS (vpin_x i0 iL hL) d4 ?_
  rw [i32_cl i0 (by omega)]
  have := kk E p e s m below meth c A K B H locs ls hW hS hl h0
  rw [List.map_cons, show av E (vI (xs (i + k).toNat).toInt) = .int (Int32.ofInt (xs (i + k).toNat).toInt) from rfl, Int32.ofInt_toInt] at this
  exact this
theorem l_get0 {i : Int} (d0 : decode cL_law pc = .ok (.aload_n 0, 1)) (d1 : decode cL_law (pc + 1) = .ok (.iload_n 3, 1)) (d4 : decode cL_law (pc + 1 + 1) = .ok (.iaload, 1)) (hi : loc[3]? = some (some (vI i))) (i0 : 0 ≤ i) (iL : i < L) (hL : L ≤ 2560) (kk : SL l b L xs cu su (pc + 3) loc (vI (xs i.toNat).toInt :: st) G h) : SL l b L xs cu su pc loc st G h := by
  intro E p e s m below meth c A K B H locs ls hW hS hl h0
  have hbA : ¬ frA E b := by unfold frA; rw [B]; exact Nat.not_le.mpr A.2.2.2.2.2.2.2.1
  refine lv_aload_n A.1 A.2.1 d0 rfl h0 ?_
  refine lv_iload_n A.1 A.2.1 d1 rfl (hl.2.2 3 _ hi) ?_
  refine va_sld A.1 A.2.1 A.2.2.2.2.2.2.1 A.2.2.2.2.2.2.2.1 hbA hS (vpin_x i0 iL hL) d4 ?_
  rw [i32_cl i0 (by omega)]
  have := kk E p e s m below meth c A K B H locs ls hW hS hl h0
  rw [List.map_cons, show av E (vI (xs i.toNat).toInt) = .int (Int32.ofInt (xs i.toNat).toInt) from rfl, Int32.ofInt_toInt] at this
  exact this
theorem lw_has {E : EV} {ls : Array Slot} (hl : lh E ls 4 loc) (h0 : ls[0]? = some (.val (.ref b))) : lv_has ls 4 ((0, .ref b) :: (lvs loc).map fun q => (q.1, av E q.2)) := ⟨hl.1, hl.2.1, fun q hq => by
  rcases List.mem_cons.1 hq with z | z
  · rw [z]; exact h0
  · exact (lh_has hl).2.2 q z⟩
theorem lw_put {E : EV} {ls' : Array Slot} {i : Nat} {v : AV} (hno : loc.all nol = true) (hf : (!((0 : Nat) == i) && !((0 : Nat) + 1 == i && (Value.ref b).category == 2)) = true)
    (hh : lv_has ls' 4 ((i, av E v) :: ((0, .ref b) :: (lvs loc).map fun q => (q.1, av E q.2)).filter (fun q => !(q.1 == i) && !(q.1 + 1 == i && q.2.category == 2)))) : lh E ls' 4 (loc.set i (some v)) ∧ ls'[0]? = some (.val (.ref b)) := by
  refine ⟨lh_put hno ⟨hh.1, hh.2.1, fun q hq => hh.2.2 q ?_⟩, hh.2.2 (0, .ref b) (List.mem_cons_of_mem _ (List.mem_filter.2 ⟨List.mem_cons_self, hf⟩))⟩
  rcases List.mem_cons.1 hq with z | z
  · rw [z]; exact List.mem_cons_self
  · have := List.mem_filter.1 z
    exact List.mem_cons_of_mem _ (List.mem_filter.2 ⟨List.mem_cons_of_mem _ this.1, this.2⟩)
theorem l_istore3 {x : Int} (hd : decode cL_law pc = .ok (.istore_n 3, 1)) (hno : loc.all nol = true) (k : SL l b L xs cu su (pc + 1) (loc.set 3 (some (vI x))) st G h) : SL l b L xs cu su pc loc (vI x :: st) G h := by
  intro E p e s m below meth c A K B H locs ls hW hS hl h0
  exact lv_istore_n A.1 A.2.1 hd rfl (lw_has hl h0) (by decide) rfl (fun ls' hl' => k E p e s m below meth c A K B H locs ls' hW hS (lw_put (v := vI x) hno rfl hl').1 (lw_put (v := vI x) hno rfl hl').2)
theorem l_astore_n {n : Fin 4} {i : Nat} {x : Int} (hx : 0 ≤ x) (hd : decode cL_law pc = .ok (.astore_n n, 1)) (hi : (n : Nat) = i) (hn : i < 4) (hno : loc.all nol = true) (hf : (!((0 : Nat) == i) && !((0 : Nat) + 1 == i && (Value.ref b).category == 2)) = true) (k : SL l b L xs cu su (pc + 1) (loc.set i (some (vR x))) st G h) : SL l b L xs cu su pc loc (vR x :: st) G h := by
  intro E p e s m below meth c A K B H locs ls hW hS hl h0
  rw [List.map_cons, av_ref hx]
  refine lv_astore_n A.1 A.2.1 hd hi (lw_has hl h0) hn rfl (fun ls' hl' => ?_)
  rw [← av_ref (E := E) hx] at hl'
  exact k E p e s m below meth c A K B H locs ls' hW hS (lw_put (v := vR x) hno hf hl').1 (lw_put (v := vR x) hno hf hl').2
theorem l_iinc3 {n x : Int} (hd : decode cL_law pc = .ok (.iinc 3 n, 3)) (hv : loc[3]? = some (some (vI x))) (hno : loc.all nol = true) (k : SL l b L xs cu su (pc + 3) (loc.set 3 (some (vI (x + n)))) st G h) : SL l b L xs cu su pc loc st G h := by
  intro E p e s m below meth c A K B H locs ls hW hS hl h0
  obtain ⟨j, hj⟩ := idx_of (List.mem_cons_of_mem (0, Value.ref b) (List.mem_map.mpr ⟨(3, vI x), lvs_mem hv, rfl⟩ : (3, av E (vI x)) ∈ (lvs loc).map fun q => (q.1, av E q.2)))
  exact lv_iinc (v := Int32.ofInt (x + n)) A.1 A.2.1 hd (lw_has hl h0) hj (Int32.ofInt_add x n).symm (by decide) rfl (fun ls' hl' => k E p e s m below meth c A K B H locs ls' hW hS (lw_put (v := vI (x + n)) hno rfl hl').1 (lw_put (v := vI (x + n)) hno rfl hl').2)
theorem l_ret (hd : decode cL_law pc = .ok (.ireturn, 1)) (hb : cu ≤ 600000 ∧ su ≤ 7302250) : SL l b L xs cu su pc loc [vI 1] G h := by
  intro E p e s m below meth c A K B H locs ls hW hS hl h0
  refine va_forget (fun q hq => by have := hS.2.2 q hq; unfold frA at this; rw [B] at this; exact this) ?_
  refine W.widen (k := 600000) (n := 7302250) hb.1 hb.2 ?_
  exact lw_ret A.1 A.2.1 A.2.2.1 A.2.2.2.2.2.2.2.2.1 hd
end LawRows
