section Ins
variable {l : Launch} {M : MD} {b : BU} {pc : Nat} {loc : LV} {st : List AV} {G : GS} {h : HP} {Q : Int → GS → HP → Prop}
theorem S_weak {loc' : LV} (hw : ∀ (i : Nat) (v : AV), loc'[i]? = some (some v) → loc[i]? = some (some v)) (k : S l M b pc loc' st G h Q) : S l M b pc loc st G h Q := by
  intro E p e s m args below meth c A H locs ls hW hS hl
  exact k E p e s m args below meth c A H locs ls hW hS ⟨hl.1, hl.2.1, fun i v hv => hl.2.2 i v (hw i v hv)⟩
def lsub : LV → LV → Prop
  | [], _ => True
  | none :: a, _ :: b => lsub a b
  | some v :: a, w :: b => w = some v ∧ lsub a b
  | _ :: _, [] => False
theorem lsub_get : ∀ {a b : LV}, lsub a b → ∀ (i : Nat) (v : AV), a[i]? = some (some v) → b[i]? = some (some v)
  | [], _, _, i, v, h => by simp at h
  | none :: a, w :: b, hs, i, v, h => by
    match i with
    | 0 => simp at h
    | i + 1 => simpa using lsub_get (a := a) (b := b) hs i v (by simpa using h)
  | some u :: a, w :: b, hs, i, v, h => by
    match i with
    | 0 => simp at h; subst h; simp [hs.1]
    | i + 1 => simpa using lsub_get (a := a) (b := b) hs.2 i v (by simpa using h)
  | none :: _, [], hs, _, _, _ => hs.elim
  | some _ :: _, [], hs, _, _, _ => hs.elim
theorem S_cut {loc' : LV} (hw : lsub loc' loc) (k : S l M b pc loc' st G h Q) : S l M b pc loc st G h Q := S_weak (lsub_get hw) k
theorem s_iconst {n : Int} (hd : decode M.2.1 pc = .ok (.iconst n, 1)) (k : S l M b (pc + 1) loc (vI n :: st) G h Q) : S l M b pc loc st G h Q := by
  intro E p e s m args below meth c A H locs ls hW hS hl
  exact lv_iconst A.1 A.2.1 hd rfl (k E p e s m args below meth c A H locs ls hW hS hl)
theorem s_bipush {n : Int} (hd : decode M.2.1 pc = .ok (.bipush n, 2)) (hn : (Int8.ofInt n).toInt32 = Int32.ofInt n) (k : S l M b (pc + 2) loc (vI n :: st) G h Q) : S l M b pc loc st G h Q := by
  intro E p e s m args below meth c A H locs ls hW hS hl
  exact lv_bipush A.1 A.2.1 hd hn (k E p e s m args below meth c A H locs ls hW hS hl)
theorem s_sipush {n : Int} (hd : decode M.2.1 pc = .ok (.sipush n, 3)) (hn : (Int16.ofInt n).toInt32 = Int32.ofInt n) (k : S l M b (pc + 3) loc (vI n :: st) G h Q) : S l M b pc loc st G h Q := by
  intro E p e s m args below meth c A H locs ls hW hS hl
  exact lv_sipush A.1 A.2.1 hd hn (k E p e s m args below meth c A H locs ls hW hS hl)
theorem s_lconst {n : Fin 2} {v : Int} (hd : decode M.2.1 pc = .ok (.lconst n, 1)) (hv : Int64.ofNat (n : Nat) = Int64.ofInt v) (k : S l M b (pc + 1) loc (vL v :: st) G h Q) : S l M b pc loc st G h Q := by
  intro E p e s m args below meth c A H locs ls hW hS hl
  exact lv_lconst A.1 A.2.1 hd hv (k E p e s m args below meth c A H locs ls hW hS hl)
theorem s_ldc {idx : Nat} {v : Int} (hd : decode M.2.1 pc = .ok (.ldc idx, 2)) (hc : Cond.constant M.1.cls idx (Int32.ofInt v) ∈ lw_tbl) (k : S l M b (pc + 2) loc (vI v :: st) G h Q) : S l M b pc loc st G h Q := by
  intro E p e s m args below meth c A H locs ls hW hS hl
  exact lv_ldc A.1 A.2.1 A.2.2.2.2.1 (A.2.2.2.2.2.1 _ (lg hc rfl)) hd (k E p e s m args below meth c A H locs ls hW hS hl)
theorem s_ldc2 {idx : Nat} {v : Int} (hd : decode M.2.1 pc = .ok (.ldc2_w idx, 3)) (hc : Cond.constantLong M.1.cls idx (Int64.ofInt v) ∈ lw_tbl) (k : S l M b (pc + 3) loc (vL v :: st) G h Q) : S l M b pc loc st G h Q := by
  intro E p e s m args below meth c A H locs ls hW hS hl
  exact lv_ldc2 A.1 A.2.1 A.2.2.2.2.1 (A.2.2.2.2.2.1 _ (lg hc rfl)) hd (k E p e s m args below meth c A H locs ls hW hS hl)
theorem s_iload_n {n : Fin 4} {i : Nat} {x : Int} (hd : decode M.2.1 pc = .ok (.iload_n n, 1)) (hi : (n : Nat) = i) (hv : loc[i]? = some (some (vI x))) (k : S l M b (pc + 1) loc (vI x :: st) G h Q) : S l M b pc loc st G h Q := by
  intro E p e s m args below meth c A H locs ls hW hS hl
  exact lv_iload_n A.1 A.2.1 hd hi (hl.2.2 i _ hv) (k E p e s m args below meth c A H locs ls hW hS hl)
theorem s_iload {i : Nat} {x : Int} (hd : decode M.2.1 pc = .ok (.iload i, 2)) (hv : loc[i]? = some (some (vI x))) (k : S l M b (pc + 2) loc (vI x :: st) G h Q) : S l M b pc loc st G h Q := by
  intro E p e s m args below meth c A H locs ls hW hS hl
  exact lv_iload A.1 A.2.1 hd (hl.2.2 i _ hv) (k E p e s m args below meth c A H locs ls hW hS hl)
theorem s_lload_n {n : Fin 4} {i : Nat} {x : Int} (hd : decode M.2.1 pc = .ok (.lload_n n, 1)) (hi : (n : Nat) = i) (hv : loc[i]? = some (some (vL x))) (k : S l M b (pc + 1) loc (vL x :: st) G h Q) : S l M b pc loc st G h Q := by
  intro E p e s m args below meth c A H locs ls hW hS hl
  exact lv_lload_n A.1 A.2.1 hd hi (hl.2.2 i _ hv) (k E p e s m args below meth c A H locs ls hW hS hl)
theorem s_lload {i : Nat} {x : Int} (hd : decode M.2.1 pc = .ok (.lload i, 2)) (hv : loc[i]? = some (some (vL x))) (k : S l M b (pc + 2) loc (vL x :: st) G h Q) : S l M b pc loc st G h Q := by
  intro E p e s m args below meth c A H locs ls hW hS hl
  exact lv_lload A.1 A.2.1 hd (hl.2.2 i _ hv) (k E p e s m args below meth c A H locs ls hW hS hl)
theorem av_ref {E : EV} {a : Int} (h : 0 ≤ a) : av E (vR a) = .ref (eB E + a.toNat) := by
  show va_rf (rfo E a) = _
  unfold rfo
  rw [if_neg (by omega)]; rfl
theorem av_null {E : EV} {a : Int} (h : a < 0) : av E (vR a) = .null := by
  show va_rf (rfo E a) = _
  unfold rfo
  rw [if_pos h]; rfl
theorem s_aload_n {n : Fin 4} {i : Nat} {x : Int} (hd : decode M.2.1 pc = .ok (.aload_n n, 1)) (hi : (n : Nat) = i) (hv : loc[i]? = some (some (vR x))) (k : S l M b (pc + 1) loc (vR x :: st) G h Q) : S l M b pc loc st G h Q := by
  intro E p e s m args below meth c A H locs ls hW hS hl
  have h1 := hl.2.2 i _ hv
  have h2 := k E p e s m args below meth c A H locs ls hW hS hl
  rw [List.map_cons] at h2
  by_cases hx : x < 0
  · rw [av_null hx] at h1 h2
    exact lv_aload_nN A.1 A.2.1 hd hi h1 h2
  · rw [av_ref (Int.not_lt.mp hx)] at h1 h2
    exact lv_aload_n A.1 A.2.1 hd hi h1 h2
theorem s_aload {i : Nat} {x : Int} (hx : 0 ≤ x) (hd : decode M.2.1 pc = .ok (.aload i, 2)) (hv : loc[i]? = some (some (vR x))) (k : S l M b (pc + 2) loc (vR x :: st) G h Q) : S l M b pc loc st G h Q := by
  intro E p e s m args below meth c A H locs ls hW hS hl
  have h1 := hl.2.2 i _ hv
  have h2 := k E p e s m args below meth c A H locs ls hW hS hl
  rw [List.map_cons] at h2
  rw [av_ref hx] at h1 h2
  exact lv_aload A.1 A.2.1 hd h1 h2
theorem s_istore_n {n : Fin 4} {i : Nat} {x : Int} (hd : decode M.2.1 pc = .ok (.istore_n n, 1)) (hi : (n : Nat) = i) (hn : i < M.2.2.1) (hno : loc.all nol = true) (k : S l M b (pc + 1) (loc.set i (some (vI x))) st G h Q) : S l M b pc loc (vI x :: st) G h Q := by
  intro E p e s m args below meth c A H locs ls hW hS hl
  exact lv_istore_n A.1 A.2.1 hd hi (lh_has hl) hn rfl (fun ls' hl' => k E p e s m args below meth c A H locs ls' hW hS (lh_put (v := vI x) hno hl'))
theorem s_istore {i : Nat} {x : Int} (hd : decode M.2.1 pc = .ok (.istore i, 2)) (hn : i < M.2.2.1) (hno : loc.all nol = true) (k : S l M b (pc + 2) (loc.set i (some (vI x))) st G h Q) : S l M b pc loc (vI x :: st) G h Q := by
  intro E p e s m args below meth c A H locs ls hW hS hl
  exact lv_istore A.1 A.2.1 hd (lh_has hl) hn rfl (fun ls' hl' => k E p e s m args below meth c A H locs ls' hW hS (lh_put (v := vI x) hno hl'))
theorem s_astore_n {n : Fin 4} {i : Nat} {x : Int} (hx : 0 ≤ x) (hd : decode M.2.1 pc = .ok (.astore_n n, 1)) (hi : (n : Nat) = i) (hn : i < M.2.2.1) (hno : loc.all nol = true) (k : S l M b (pc + 1) (loc.set i (some (vR x))) st G h Q) : S l M b pc loc (vR x :: st) G h Q := by
  intro E p e s m args below meth c A H locs ls hW hS hl
  rw [List.map_cons, av_ref hx]
  refine lv_astore_n A.1 A.2.1 hd hi (lh_has hl) hn rfl (fun ls' hl' => k E p e s m args below meth c A H locs ls' hW hS (lh_put (v := vR x) hno ?_))
  rw [av_ref hx]
  exact hl'
theorem idx_of {α : Type} {a : α} : ∀ {L : List α}, a ∈ L → ∃ k : Nat, L[k]? = some a := fun h => by
  obtain ⟨n, hn, e⟩ := List.mem_iff_getElem.mp h
  exact ⟨n, by rw [List.getElem?_eq_getElem hn, e]⟩
theorem s_iinc {i : Nat} {n x : Int} (hd : decode M.2.1 pc = .ok (.iinc i n, 3)) (hv : loc[i]? = some (some (vI x))) (hn : i < M.2.2.1) (hno : loc.all nol = true) (k : S l M b (pc + 3) (loc.set i (some (vI (x + n)))) st G h Q) : S l M b pc loc st G h Q := by
  intro E p e s m args below meth c A H locs ls hW hS hl
  obtain ⟨j, hj⟩ := idx_of (List.mem_map.mpr ⟨(i, vI x), lvs_mem hv, rfl⟩ : (i, av E (vI x)) ∈ (lvs loc).map fun q => (q.1, av E q.2))
  exact lv_iinc (v := Int32.ofInt (x + n)) A.1 A.2.1 hd (lh_has hl) hj (Int32.ofInt_add x n).symm hn rfl (fun ls' hl' => k E p e s m args below meth c A H locs ls' hW hS (lh_put (v := vI (x + n)) hno hl'))
theorem s_iadd {x y : Int} (hd : decode M.2.1 pc = .ok (.iadd, 1)) (k : S l M b (pc + 1) loc (vI (x + y) :: st) G h Q) : S l M b pc loc (vI y :: vI x :: st) G h Q := by
  intro E p e s m args below meth c A H locs ls hW hS hl
  refine lv_iadd A.1 A.2.1 hd ?_
  rw [← Int32.ofInt_add]
  exact k E p e s m args below meth c A H locs ls hW hS hl
theorem s_isub {x y : Int} (hd : decode M.2.1 pc = .ok (.isub, 1)) (k : S l M b (pc + 1) loc (vI (x - y) :: st) G h Q) : S l M b pc loc (vI y :: vI x :: st) G h Q := by
  intro E p e s m args below meth c A H locs ls hW hS hl
  refine lv_isub A.1 A.2.1 hd ?_
  rw [← Int32.ofInt_sub]
  exact k E p e s m args below meth c A H locs ls hW hS hl
theorem s_imul {x y : Int} (hd : decode M.2.1 pc = .ok (.imul, 1)) (k : S l M b (pc + 1) loc (vI (x * y) :: st) G h Q) : S l M b pc loc (vI y :: vI x :: st) G h Q := by
  intro E p e s m args below meth c A H locs ls hW hS hl
  refine lv_imul A.1 A.2.1 hd ?_
  rw [← Int32.ofInt_mul]
  exact k E p e s m args below meth c A H locs ls hW hS hl
abbrev dvR (x y : Int) : Prop := (0 ≤ x ∧ x ≤ 2147483647) ∧ 0 < y ∧ y ≤ 2147483647
theorem dv_ne {y : Int} (h : 0 < y ∧ y ≤ 2147483647) : ¬ Int32.ofInt y = 0 := by
  rw [show (0 : Int32) = Int32.ofInt 0 from rfl, i32_eq ⟨by omega, h.2⟩ (by decide)]
  omega
theorem s_idiv {x y : Int} (hd : decode M.2.1 pc = .ok (.idiv, 1)) (hr : dvR x y) (k : S l M b (pc + 1) loc (vI (x / y) :: st) G h Q) : S l M b pc loc (vI y :: vI x :: st) G h Q := by
  intro E p e s m args below meth c A H locs ls hW hS hl
  refine lv_idiv A.1 A.2.1 hd (dv_ne hr.2) ?_
  have e1 : Int32.ofInt x / Int32.ofInt y = Int32.ofInt (x / y) := by
    obtain ⟨a, rfl⟩ := Int.eq_ofNat_of_zero_le hr.1.1
    obtain ⟨d, rfl⟩ := Int.eq_ofNat_of_zero_le (Int.le_of_lt hr.2.1)
    exact pk_div (by have := hr.1.2; omega) (by have := hr.2.1; omega) (by have := hr.2.2; omega)
  rw [e1]
  exact k E p e s m args below meth c A H locs ls hW hS hl
theorem s_irem {x y : Int} (hd : decode M.2.1 pc = .ok (.irem, 1)) (hr : dvR x y) (k : S l M b (pc + 1) loc (vI (x % y) :: st) G h Q) : S l M b pc loc (vI y :: vI x :: st) G h Q := by
  intro E p e s m args below meth c A H locs ls hW hS hl
  refine lv_irem A.1 A.2.1 hd (dv_ne hr.2) ?_
  have e1 : Int32.ofInt x - Int32.ofInt x / Int32.ofInt y * Int32.ofInt y = Int32.ofInt (x % y) := by
    obtain ⟨a, rfl⟩ := Int.eq_ofNat_of_zero_le hr.1.1
    obtain ⟨d, rfl⟩ := Int.eq_ofNat_of_zero_le (Int.le_of_lt hr.2.1)
    exact pk_rem (by have := hr.1.2; omega) (by have := hr.2.1; omega) (by have := hr.2.2; omega)
  rw [e1]
  exact k E p e s m args below meth c A H locs ls hW hS hl
theorem s_dup {v : AV} (hd : decode M.2.1 pc = .ok (.dup, 1)) (hv : ctg v = 1) (k : S l M b (pc + 1) loc (v :: v :: st) G h Q) : S l M b pc loc (v :: st) G h Q := by
  intro E p e s m args below meth c A H locs ls hW hS hl
  exact lv_dup A.1 A.2.1 hd (by rw [av_cat]; exact hv) (k E p e s m args below meth c A H locs ls hW hS hl)
theorem s_pop {v : AV} (hd : decode M.2.1 pc = .ok (.pop, 1)) (hv : ctg v = 1) (k : S l M b (pc + 1) loc st G h Q) : S l M b pc loc (v :: st) G h Q := by
  intro E p e s m args below meth c A H locs ls hW hS hl
  exact lv_pop A.1 A.2.1 hd (by rw [av_cat]; exact hv) (k E p e s m args below meth c A H locs ls hW hS hl)
theorem s_dup2 {v w : AV} (hd : decode M.2.1 pc = .ok (.dup2, 1)) (hv : ctg v = 1) (hw : ctg w = 1) (k : S l M b (pc + 1) loc (v :: w :: v :: w :: st) G h Q) : S l M b pc loc (v :: w :: st) G h Q := by
  intro E p e s m args below meth c A H locs ls hW hS hl
  exact lv_dup2_11 A.1 A.2.1 hd (by rw [av_cat]; exact hv) (by rw [av_cat]; exact hw) (k E p e s m args below meth c A H locs ls hW hS hl)
theorem s_goto {off : Int} {tgt : Nat} (hd : decode M.2.1 pc = .ok (.goto off, 3)) (ht : (pc : Int) + off = (tgt : Int)) (k : S l M b tgt loc st G h Q) : S l M b pc loc st G h Q := by
  intro E p e s m args below meth c A H locs ls hW hS hl
  exact lv_goto A.1 A.2.1 hd ht (k E p e s m args below meth c A H locs ls hW hS hl)
end Ins
section Bra
variable {l : Launch} {M : MD} {b : BU} {pc : Nat} {loc : LV} {st : List AV} {G : GS} {h : HP} {Q : Int → GS → HP → Prop}
theorem s_icmp_eq {x y off : Int} {tgt : Nat} (hd : decode M.2.1 pc = .ok (.if_icmp .eq off, 3)) (ht : (pc : Int) + off = (tgt : Int)) (hx : inR x) (hy : inR y) (kt : x = y → S l M b tgt loc st G h Q) (kf : x ≠ y → S l M b (pc + 3) loc st G h Q) : S l M b pc loc (vI y :: vI x :: st) G h Q := by
  intro E p e s m args below meth c A H locs ls hW hS hl
  exact lv_icmp_eq A.1 A.2.1 hd ht (fun c => kt ((i32_eq hx hy).mp c) E p e s m args below meth _ A H locs ls hW hS hl) (fun c => kf (fun q => c ((i32_eq hx hy).mpr q)) E p e s m args below meth _ A H locs ls hW hS hl)
theorem s_if_eq {x off : Int} {tgt : Nat} (hd : decode M.2.1 pc = .ok (.ifCond .eq off, 3)) (ht : (pc : Int) + off = (tgt : Int)) (hx : inR x) (kt : x = 0 → S l M b tgt loc st G h Q) (kf : x ≠ 0 → S l M b (pc + 3) loc st G h Q) : S l M b pc loc (vI x :: st) G h Q := by
  intro E p e s m args below meth c A H locs ls hW hS hl
  have hy : inR 0 := by decide
  exact lv_if_eq A.1 A.2.1 hd ht (fun c => kt ((i32_eq hx hy).mp c) E p e s m args below meth _ A H locs ls hW hS hl) (fun c => kf (fun q => c ((i32_eq hx hy).mpr q)) E p e s m args below meth _ A H locs ls hW hS hl)
theorem s_icmp_ne {x y off : Int} {tgt : Nat} (hd : decode M.2.1 pc = .ok (.if_icmp .ne off, 3)) (ht : (pc : Int) + off = (tgt : Int)) (hx : inR x) (hy : inR y) (kt : x ≠ y → S l M b tgt loc st G h Q) (kf : x = y → S l M b (pc + 3) loc st G h Q) : S l M b pc loc (vI y :: vI x :: st) G h Q := by
  intro E p e s m args below meth c A H locs ls hW hS hl
  exact lv_icmp_ne A.1 A.2.1 hd ht (fun c => kt (fun q => c ((i32_eq hx hy).mpr q)) E p e s m args below meth _ A H locs ls hW hS hl) (fun c => kf ((i32_eq hx hy).mp c) E p e s m args below meth _ A H locs ls hW hS hl)
theorem s_if_ne {x off : Int} {tgt : Nat} (hd : decode M.2.1 pc = .ok (.ifCond .ne off, 3)) (ht : (pc : Int) + off = (tgt : Int)) (hx : inR x) (kt : x ≠ 0 → S l M b tgt loc st G h Q) (kf : x = 0 → S l M b (pc + 3) loc st G h Q) : S l M b pc loc (vI x :: st) G h Q := by
  intro E p e s m args below meth c A H locs ls hW hS hl
  have hy : inR 0 := by decide
  exact lv_if_ne A.1 A.2.1 hd ht (fun c => kt (fun q => c ((i32_eq hx hy).mpr q)) E p e s m args below meth _ A H locs ls hW hS hl) (fun c => kf ((i32_eq hx hy).mp c) E p e s m args below meth _ A H locs ls hW hS hl)
theorem s_icmp_lt {x y off : Int} {tgt : Nat} (hd : decode M.2.1 pc = .ok (.if_icmp .lt off, 3)) (ht : (pc : Int) + off = (tgt : Int)) (hx : inR x) (hy : inR y) (kt : x < y → S l M b tgt loc st G h Q) (kf : y ≤ x → S l M b (pc + 3) loc st G h Q) : S l M b pc loc (vI y :: vI x :: st) G h Q := by
  intro E p e s m args below meth c A H locs ls hW hS hl
  exact lv_icmp_lt A.1 A.2.1 hd ht (fun c => kt ((i32_lt hx hy).mp c) E p e s m args below meth _ A H locs ls hW hS hl) (fun c => kf (Int.not_lt.mp (fun q => c ((i32_lt hx hy).mpr q))) E p e s m args below meth _ A H locs ls hW hS hl)
theorem s_if_lt {x off : Int} {tgt : Nat} (hd : decode M.2.1 pc = .ok (.ifCond .lt off, 3)) (ht : (pc : Int) + off = (tgt : Int)) (hx : inR x) (kt : x < 0 → S l M b tgt loc st G h Q) (kf : 0 ≤ x → S l M b (pc + 3) loc st G h Q) : S l M b pc loc (vI x :: st) G h Q := by
  intro E p e s m args below meth c A H locs ls hW hS hl
  have hy : inR 0 := by decide
  exact lv_if_lt A.1 A.2.1 hd ht (fun c => kt ((i32_lt hx hy).mp c) E p e s m args below meth _ A H locs ls hW hS hl) (fun c => kf (Int.not_lt.mp (fun q => c ((i32_lt hx hy).mpr q))) E p e s m args below meth _ A H locs ls hW hS hl)
theorem s_icmp_ge {x y off : Int} {tgt : Nat} (hd : decode M.2.1 pc = .ok (.if_icmp .ge off, 3)) (ht : (pc : Int) + off = (tgt : Int)) (hx : inR x) (hy : inR y) (kt : y ≤ x → S l M b tgt loc st G h Q) (kf : x < y → S l M b (pc + 3) loc st G h Q) : S l M b pc loc (vI y :: vI x :: st) G h Q := by
  intro E p e s m args below meth c A H locs ls hW hS hl
  exact lv_icmp_ge A.1 A.2.1 hd ht (fun c => kt ((i32_le hy hx).mp c) E p e s m args below meth _ A H locs ls hW hS hl) (fun c => kf (Int.not_le.mp (fun q => c ((i32_le hy hx).mpr q))) E p e s m args below meth _ A H locs ls hW hS hl)
theorem s_if_ge {x off : Int} {tgt : Nat} (hd : decode M.2.1 pc = .ok (.ifCond .ge off, 3)) (ht : (pc : Int) + off = (tgt : Int)) (hx : inR x) (kt : 0 ≤ x → S l M b tgt loc st G h Q) (kf : x < 0 → S l M b (pc + 3) loc st G h Q) : S l M b pc loc (vI x :: st) G h Q := by
  intro E p e s m args below meth c A H locs ls hW hS hl
  have hy : inR 0 := by decide
  exact lv_if_ge A.1 A.2.1 hd ht (fun c => kt ((i32_le hy hx).mp c) E p e s m args below meth _ A H locs ls hW hS hl) (fun c => kf (Int.not_le.mp (fun q => c ((i32_le hy hx).mpr q))) E p e s m args below meth _ A H locs ls hW hS hl)
theorem s_icmp_gt {x y off : Int} {tgt : Nat} (hd : decode M.2.1 pc = .ok (.if_icmp .gt off, 3)) (ht : (pc : Int) + off = (tgt : Int)) (hx : inR x) (hy : inR y) (kt : y < x → S l M b tgt loc st G h Q) (kf : x ≤ y → S l M b (pc + 3) loc st G h Q) : S l M b pc loc (vI y :: vI x :: st) G h Q := by
  intro E p e s m args below meth c A H locs ls hW hS hl
  exact lv_icmp_gt A.1 A.2.1 hd ht (fun c => kt ((i32_lt hy hx).mp c) E p e s m args below meth _ A H locs ls hW hS hl) (fun c => kf (Int.not_lt.mp (fun q => c ((i32_lt hy hx).mpr q))) E p e s m args below meth _ A H locs ls hW hS hl)
theorem s_if_gt {x off : Int} {tgt : Nat} (hd : decode M.2.1 pc = .ok (.ifCond .gt off, 3)) (ht : (pc : Int) + off = (tgt : Int)) (hx : inR x) (kt : 0 < x → S l M b tgt loc st G h Q) (kf : x ≤ 0 → S l M b (pc + 3) loc st G h Q) : S l M b pc loc (vI x :: st) G h Q := by
  intro E p e s m args below meth c A H locs ls hW hS hl
  have hy : inR 0 := by decide
  exact lv_if_gt A.1 A.2.1 hd ht (fun c => kt ((i32_lt hy hx).mp c) E p e s m args below meth _ A H locs ls hW hS hl) (fun c => kf (Int.not_lt.mp (fun q => c ((i32_lt hy hx).mpr q))) E p e s m args below meth _ A H locs ls hW hS hl)
theorem s_icmp_le {x y off : Int} {tgt : Nat} (hd : decode M.2.1 pc = .ok (.if_icmp .le off, 3)) (ht : (pc : Int) + off = (tgt : Int)) (hx : inR x) (hy : inR y) (kt : x ≤ y → S l M b tgt loc st G h Q) (kf : y < x → S l M b (pc + 3) loc st G h Q) : S l M b pc loc (vI y :: vI x :: st) G h Q := by
  intro E p e s m args below meth c A H locs ls hW hS hl
  exact lv_icmp_le A.1 A.2.1 hd ht (fun c => kt ((i32_le hx hy).mp c) E p e s m args below meth _ A H locs ls hW hS hl) (fun c => kf (Int.not_le.mp (fun q => c ((i32_le hx hy).mpr q))) E p e s m args below meth _ A H locs ls hW hS hl)
theorem s_if_le {x off : Int} {tgt : Nat} (hd : decode M.2.1 pc = .ok (.ifCond .le off, 3)) (ht : (pc : Int) + off = (tgt : Int)) (hx : inR x) (kt : x ≤ 0 → S l M b tgt loc st G h Q) (kf : 0 < x → S l M b (pc + 3) loc st G h Q) : S l M b pc loc (vI x :: st) G h Q := by
  intro E p e s m args below meth c A H locs ls hW hS hl
  have hy : inR 0 := by decide
  exact lv_if_le A.1 A.2.1 hd ht (fun c => kt ((i32_le hx hy).mp c) E p e s m args below meth _ A H locs ls hW hS hl) (fun c => kf (Int.not_le.mp (fun q => c ((i32_le hx hy).mpr q))) E p e s m args below meth _ A H locs ls hW hS hl)
end Bra
