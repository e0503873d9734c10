theorem R_mono {l : Launch} {M : MD} {d mc ms : Nat} {As : List AV} {G : GS} {h : HP} {Q Q' : Int → GS → HP → Prop} (hq : ∀ r G' h', Q r G' h' → Q' r G' h') (k : R l M d mc ms As G h Q) : R l M d mc ms As G h Q' := by
  intro E
  exact Jvm.Free.MetFree.mono (k E) (fun _ _ x => x) (fun _ _ _ _ _ x => x) (fun a s o t _ hx => ⟨⟨by
    obtain ⟨r, G', h', e1, e2, e3⟩ := hx.1.1
    exact ⟨r, G', h', e1, hq _ _ _ e2, e3⟩, hx.1.2⟩, hx.2⟩)
abbrev inL (x : Int) : Prop := -9223372036854775808 ≤ x ∧ x ≤ 9223372036854775807
def cmpI (x y : Int) : Int := if y < x then 1 else if x = y then 0 else -1
theorem i64 {x : Int} (h : inL x) : (Int64.ofInt x).toInt = x := Int64.toInt_ofInt_of_le (by have := h.1; omega) (by have := h.2; omega)
section More
variable {l : Launch} {M : MD} {b : BU} {pc : Nat} {loc : LV} {st : List AV} {G : GS} {h : HP} {Q : Int → GS → HP → Prop}
theorem s_iastH {a i x : Int} (hd : decode M.2.1 pc = .ok (.iastore, 1)) (hin : inA G 10 a i) (kk : ∀ h' : HP, h' = hset h a i x → S l M b (pc + 1) loc st G h' Q) : S l M b pc loc (vI x :: vI i :: vR a :: st) G h Q := s_iast hd hin (kk _ rfl)
theorem s_zastH {a i x : Int} (hd : decode M.2.1 pc = .ok (.bastore, 1)) (hx : x = 0 ∨ x = 1) (hin : inA G 11 a i) (kk : ∀ h' : HP, h' = hset h a i x → S l M b (pc + 1) loc st G h' Q) : S l M b pc loc (vI x :: vI i :: vR a :: st) G h Q := s_zast hd hx hin (kk _ rfl)
theorem s_putI {c k idx : Nat} {a j x : Int} (hd : decode M.2.1 pc = .ok (.putfield idx, 3)) (hlk : Cond.fieldLink M.1.cls idx (cT c k).1 (cT c k).2.1 (cT c k).2.2.1 ∈ lw_tbl) (hc : c < 10) (hk : k < cN c) (hfin : (cT c k).2.2.2 = false) (hi : cty c k = .int) (hj : (k : Int) = j) (hty : ty G a = c) (kk : ∀ h' : HP, h' = hset h a j x → S l M b (pc + 3) loc st G h' Q) : S l M b pc loc (vI x :: vR a :: st) G h Q := s_put hd hlk hc hk hfin (by unfold fk; rw [hi]; rfl) hj (fun E => by rw [hi]; exact ⟨rfl, rfl⟩) hty (kk _ rfl)
theorem s_putZ {c k idx : Nat} {a j x : Int} (hd : decode M.2.1 pc = .ok (.putfield idx, 3)) (hlk : Cond.fieldLink M.1.cls idx (cT c k).1 (cT c k).2.1 (cT c k).2.2.1 ∈ lw_tbl) (hc : c < 10) (hk : k < cN c) (hfin : (cT c k).2.2.2 = false) (hi : cty c k = .boolean) (hj : (k : Int) = j) (hx : x = 0 ∨ x = 1) (hty : ty G a = c) (kk : ∀ h' : HP, h' = hset h a j x → S l M b (pc + 3) loc st G h' Q) : S l M b pc loc (vI x :: vR a :: st) G h Q := s_put hd hlk hc hk hfin (by unfold fk; rw [hi]; rfl) hj (fun E => by rw [hi]; rcases hx with rfl | rfl <;> exact ⟨rfl, rfl⟩) hty (kk _ rfl)
theorem nf_ref {E : EV} {x : Int} {t : FieldType} (ht : (∃ n, t = .object n) ∨ ∃ n, t = .array n) : narrow t (av E (vR x)) = av E (vR x) ∧ fits t (av E (vR x)) = true := by
  by_cases hx : x < 0
  · rw [av_null hx]; rcases ht with ⟨n, rfl⟩ | ⟨n, rfl⟩ <;> exact ⟨rfl, rfl⟩
  · rw [av_ref (Int.not_lt.mp hx)]; rcases ht with ⟨n, rfl⟩ | ⟨n, rfl⟩ <;> exact ⟨rfl, rfl⟩
theorem s_putR {c k idx : Nat} {a j x : Int} (hd : decode M.2.1 pc = .ok (.putfield idx, 3)) (hlk : Cond.fieldLink M.1.cls idx (cT c k).1 (cT c k).2.1 (cT c k).2.2.1 ∈ lw_tbl) (hc : c < 10) (hk : k < cN c) (hfin : (cT c k).2.2.2 = false) (hi : (∃ n, cty c k = .object n) ∨ ∃ n, cty c k = .array n) (hf : fk c k = 2) (hj : (k : Int) = j) (hty : ty G a = c) (kk : ∀ h' : HP, h' = hset h a j x → S l M b (pc + 3) loc st G h' Q) : S l M b pc loc (vR x :: vR a :: st) G h Q := s_put hd hlk hc hk hfin hf hj (fun E => nf_ref hi) hty (kk _ rfl)
theorem s_putFR {c k idx : Nat} {a j x : Int} (hd : decode M.2.1 pc = .ok (.putfield idx, 3)) (hlk : Cond.fieldLink M.1.cls idx (cT c k).1 (cT c k).2.1 (cT c k).2.2.1 ∈ lw_tbl) (hc : c < 10) (hk : k < cN c) (hfin : (cT c k).2.2.2 = true) (hin2 : M.1.name = "<init>") (hdecl : (cT c k).1 = M.1.cls) (hi : (∃ n, cty c k = .object n) ∨ ∃ n, cty c k = .array n) (hf : fk c k = 2) (hj : (k : Int) = j) (hty : ty G a = c) (kk : ∀ h' : HP, h' = hset h a j x → S l M b (pc + 3) loc st G h' Q) : S l M b pc loc (vR x :: vR a :: st) G h Q := s_putF hd hlk hc hk hfin hin2 hdecl hf hj (fun E => nf_ref hi) hty (kk _ rfl)
theorem s_i2l {x : Int} (hd : decode M.2.1 pc = .ok (.i2l, 1)) (hx : inR x) (k : S l M b (pc + 1) loc (vL x :: st) G h Q) : S l M b pc loc (vI x :: st) G h Q := by
  intro E p e s m args below meth c A H locs ls hW hS hl
  refine lv_i2l A.1 A.2.1 hd (v := Int64.ofInt x) ?_ (k E p e s m args below meth c A H locs ls hW hS hl)
  rw [← Int64.toInt_inj, Int32.toInt_toInt64, i32 hx, i64 ⟨by have := hx.1; omega, by have := hx.2; omega⟩]
theorem s_lcmp {x y : Int} (hd : decode M.2.1 pc = .ok (.lcmp, 1)) (hx : inL x) (hy : inL y) (k : S l M b (pc + 1) loc (vI (cmpI x y) :: st) G h Q) : S l M b pc loc (vL y :: vL x :: st) G h Q := by
  intro E p e s m args below meth c A H locs ls hW hS hl
  refine W.lcmp A.1 A.2.1 hd ?_
  have e1 : lg_cmp (Int64.ofInt x) (Int64.ofInt y) = Int32.ofInt (cmpI x y) := by
    have q1 : (Int64.ofInt x > Int64.ofInt y) ↔ y < x := by
      show Int64.ofInt y < Int64.ofInt x ↔ _
      rw [Int64.lt_iff_toInt_lt, i64 hx, i64 hy]
    have q2 : (Int64.ofInt x = Int64.ofInt y) ↔ x = y := by rw [← Int64.toInt_inj, i64 hx, i64 hy]
    unfold lg_cmp cmpI
    by_cases c1 : y < x
    · rw [if_pos (q1.mpr c1), if_pos c1]; rfl
    · rw [if_neg (fun z => c1 (q1.mp z)), if_neg c1]
      by_cases c2 : x = y
      · rw [if_pos (q2.mpr c2), if_pos c2]; rfl
      · rw [if_neg (fun z => c2 (q2.mp z)), if_neg c2]; rfl
  rw [e1]
  exact k E p e s m args below meth c A H locs ls hW hS hl
theorem s_lsub {x y : Int} (hd : decode M.2.1 pc = .ok (.lsub, 1)) (k : S l M b (pc + 1) loc (vL (x - y) :: st) G h Q) : S l M b pc loc (vL y :: vL x :: st) G h Q := by
  intro E p e s m args below meth c A H locs ls hW hS hl
  refine lv_lsub A.1 A.2.1 hd ?_
  rw [← Int64.ofInt_sub]
  exact k E p e s m args below meth c A H locs ls hW hS hl
theorem s_lmul {x y : Int} (hd : decode M.2.1 pc = .ok (.lmul, 1)) (k : S l M b (pc + 1) loc (vL (x * y) :: st) G h Q) : S l M b pc loc (vL y :: vL x :: st) G h Q := by
  intro E p e s m args below meth c A H locs ls hW hS hl
  refine lv_lmul A.1 A.2.1 hd ?_
  rw [← Int64.ofInt_mul]
  exact k E p e s m args below meth c A H locs ls hW hS hl
theorem s_ldiv {x y : Int} (hd : decode M.2.1 pc = .ok (.ldiv, 1)) (hr : dvR x y) (k : S l M b (pc + 1) loc (vL (x / y) :: st) G h Q) : S l M b pc loc (vL y :: vL x :: st) G h Q := by
  intro E p e s m args below meth c A H locs ls hW hS hl
  refine lv_ldiv A.1 A.2.1 hd ?_ ?_
  · intro z
    have z2 : Int64.ofInt y = Int64.ofInt 0 := z
    rw [← Int64.toInt_inj, i64 ⟨by have := hr.2.1; omega, by have := hr.2.2; omega⟩] at z2
    have := hr.2.1
    have z3 : (Int64.ofInt 0).toInt = 0 := rfl
    omega
  have e1 : Int64.ofInt x / Int64.ofInt y = Int64.ofInt (x / y) := by
    obtain ⟨a, rfl⟩ := Int.eq_ofNat_of_zero_le hr.1.1
    obtain ⟨d, rfl⟩ := Int.eq_ofNat_of_zero_le (Int.le_of_lt hr.2.1)
    exact pk_lDiv (by have := hr.1.2; omega) (by have := hr.2.1; omega) (by have := hr.2.2; omega)
  rw [e1]
  exact k E p e s m args below meth c A H locs ls hW hS hl
theorem ofi_bv (x : Int) : (Int32.ofInt x).toBitVec.toNat = (x % 4294967296).toNat := by
  show (BitVec.ofInt 32 x).toNat = _
  rw [BitVec.toNat_ofInt]; rfl
theorem s_iand31 {x : Int} (hd : decode M.2.1 pc = .ok (.iand, 1)) (k : S l M b (pc + 1) loc (vI (x % 32) :: st) G h Q) : S l M b pc loc (vI 31 :: vI x :: st) G h Q := by
  intro E p e s m args below meth c A H locs ls hW hS hl
  refine lv_iand A.1 A.2.1 hd ?_
  have e1 : Int32.ofInt x &&& Int32.ofInt 31 = Int32.ofInt (x % 32) := by
    rw [pk_and (Int32.ofInt x) (m := Int32.ofInt 31) 5 (by decide), ofi_bv, i32_nat (by omega)]
    congr 1
    omega
  rw [e1]
  exact k E p e s m args below meth c A H locs ls hW hS hl
theorem nq_or (a b : Nat) : nI a ||| nI b = nI (a ||| b) := by
  apply Int32.toBitVec_inj.mp
  show BitVec.ofNat 32 a ||| BitVec.ofNat 32 b = BitVec.ofNat 32 (a ||| b)
  rw [BitVec.ofNat_or]
theorem nq_xor (a b : Nat) : nI a ^^^ nI b = nI (a ^^^ b) := by
  apply Int32.toBitVec_inj.mp
  show BitVec.ofNat 32 a ^^^ BitVec.ofNat 32 b = BitVec.ofNat 32 (a ^^^ b)
  rw [BitVec.ofNat_xor]
theorem s_ior {x y : Int} (hd : decode M.2.1 pc = .ok (.ior, 1)) (hx : 0 ≤ x) (hy : 0 ≤ y) (k : S l M b (pc + 1) loc (vI ((x.toNat ||| y.toNat : Nat) : Int) :: st) G h Q) : S l M b pc loc (vI y :: vI x :: st) G h Q := by
  intro E p e s m args below meth c A H locs ls hW hS hl
  refine lv_ior A.1 A.2.1 hd ?_
  have e1 : Int32.ofInt x ||| Int32.ofInt y = Int32.ofInt ((x.toNat ||| y.toNat : Nat) : Int) := by
    rw [i32_nat hx, i32_nat hy, nq_or]; rfl
  rw [e1]
  exact k E p e s m args below meth c A H locs ls hW hS hl
theorem s_ixor {x y : Int} (hd : decode M.2.1 pc = .ok (.ixor, 1)) (hx : 0 ≤ x) (hy : 0 ≤ y) (k : S l M b (pc + 1) loc (vI ((x.toNat ^^^ y.toNat : Nat) : Int) :: st) G h Q) : S l M b pc loc (vI y :: vI x :: st) G h Q := by
  intro E p e s m args below meth c A H locs ls hW hS hl
  refine lv_ixor A.1 A.2.1 hd ?_
  have e1 : Int32.ofInt x ^^^ Int32.ofInt y = Int32.ofInt ((x.toNat ^^^ y.toNat : Nat) : Int) := by
    rw [i32_nat hx, i32_nat hy, nq_xor]; rfl
  rw [e1]
  exact k E p e s m args below meth c A H locs ls hW hS hl
theorem s_iushr16 {x : Int} (hd : decode M.2.1 pc = .ok (.iushr, 1)) (k : S l M b (pc + 1) loc (vI (x % 4294967296 / 65536) :: st) G h Q) : S l M b pc loc (vI 16 :: vI x :: st) G h Q := by
  intro E p e s m args below meth c A H locs ls hW hS hl
  refine lv_iushr A.1 A.2.1 hd (v := Int32.ofInt (x % 4294967296 / 65536)) ?_ (k E p e s m args below meth c A H locs ls hW hS hl)
  apply Int32.toBitVec_inj.mp
  apply BitVec.eq_of_toNat_eq
  rw [pk_ushr (Int32.ofInt x) (Int32.ofInt 16) 16 (by decide), ofi_bv, ofi_bv]
  omega
theorem s_tabIn {dflt lo hi off v x : Int} {offs : Array Int} {len tgt : Nat} (hd : decode M.2.1 pc = .ok (.tableswitch dflt lo hi offs, len)) (hx : inR x) (hv : x = v) (h1 : lo ≤ v) (h2 : v ≤ hi) (ho : offs[(v - lo).toNat]? = some off) (ht : (pc : Int) + off = (tgt : Int)) (k : S l M b tgt loc st G h Q) : S l M b pc loc (vI x :: st) G h Q := by
  intro E p e s m args below meth c A H locs ls hW hS hl
  have e1 := i32 hx
  subst hv
  exact lv_tableIn A.1 A.2.1 hd (by rw [e1]; omega) (by rw [e1]; omega) (by rw [e1]; exact ho) ht (k E p e s m args below meth c A H locs ls hW hS hl)
theorem s_tabOut {dflt lo hi x : Int} {offs : Array Int} {len tgt : Nat} (hd : decode M.2.1 pc = .ok (.tableswitch dflt lo hi offs, len)) (hx : inR x) (hv : x < lo ∨ hi < x) (ht : (pc : Int) + dflt = (tgt : Int)) (k : S l M b tgt loc st G h Q) : S l M b pc loc (vI x :: st) G h Q := by
  intro E p e s m args below meth c A H locs ls hW hS hl
  have e1 := i32 hx
  exact lv_tableOut A.1 A.2.1 hd (by rw [e1]; exact hv) ht (k E p e s m args below meth c A H locs ls hW hS hl)
theorem s_look {dflt off x : Int} {ps : Array (Int × Int)} {len tgt : Nat} (hd : decode M.2.1 pc = .ok (.lookupswitch dflt ps, len)) (hx : inR x) (hp : (ps.toList.zip (ps.toList.drop 1)).all (fun (a, next) => a.1 < next.1) = true) (ho : Op.lookupswitch.offset ps.toList dflt x = off) (ht : (pc : Int) + off = (tgt : Int)) (k : S l M b tgt loc st G h Q) : S l M b pc loc (vI x :: st) G h Q := by
  intro E p e s m args below meth c A H locs ls hW hS hl
  exact lv_lookup A.1 A.2.1 hd hp (by rw [i32 hx]; exact ho) ht (k E p e s m args below meth c A H locs ls hW hS hl)
theorem s_aaldI {a i : Int} (hd : decode M.2.1 pc = .ok (.aaload, 1)) (hin : inA G 13 a i) (kk : S l M b (pc + 1) loc (vR (h a i) :: st) G h Q) : S l M b pc loc (vI i :: vR a :: st) G h Q := by
  intro E p e s m args below meth cd A H locs ls hW hS hl
  obtain ⟨hty, h0, h1⟩ := hin
  obtain ⟨k, n, rfl, hi, hln, hil⟩ := ty_some hty (by omega)
  rw [hln] at h1
  obtain ⟨hv, hcl⟩ := in_of h0 h1 (hW.2.2.1 _ (List.mem_of_getElem? hi)).1
  have hlt : i.toNat < n := by omega
  rw [List.map_cons, List.map_cons, av_ref (by omega), Int.toNat_natCast]
  refine W.aald (v := va_rf (rfo E (h k (i.toNat : Int)))) (ty := .array .int) A.1 A.2.1 (hW.2.1 k _ (wsOf_get (E := E) (h := h) hi)) ((A.2.2.2.2.2.2.1.2 3 _ rfl).1 n (fun j => va_rf (rfo E (h k j)))) rfl (fun q => by cases q) (by show ¬ (_ ∨ (arrV _ _ _).slots.size ≤ _); rw [arrV_size]; exact hv) (by rw [hcl]; show (arrV _ _ _).slots[_]? = _; rw [arrV_read _ _ hlt]) rfl rfl hd ?_
  have := kk E p e s m args below meth cd A H locs ls hW hS hl
  rw [show (i : Int) = (i.toNat : Int) by omega] at this
  exact this
end More
