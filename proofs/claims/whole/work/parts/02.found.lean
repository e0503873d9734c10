/-! the abstract world: cells numbered from 0 on behind the base, of whole numbers; a cell's kind: (class or array kind, how many) -/
abbrev AV : Type := Nat × Int
abbrev LV : Type := List (Option AV)
abbrev GS : Type := List (Nat × Nat)
abbrev HP : Type := Int → Int → Int
abbrev EV : Type := va_G × ClassId × ClassId × ClassId × ClassId × Nat
abbrev MD : Type := MethodName × ByteArray × Nat × Option FieldType
abbrev BU : Type := Nat × Nat × Nat × Nat × Nat
abbrev vI (x : Int) : AV := (0, x)
abbrev vL (x : Int) : AV := (1, x)
abbrev vR (a : Int) : AV := (2, a)
abbrev inR (x : Int) : Prop := -2147483648 ≤ x ∧ x ≤ 2147483647
def eB (E : EV) : Nat := E.2.2.2.2.2
def rfo (E : EV) (a : Int) : Option Nat := if a < 0 then none else some (eB E + a.toNat)
def av (E : EV) : AV → Value
  | (0, x) => .int (Int32.ofInt x)
  | (1, x) => .long (Int64.ofInt x)
  | (_, a) => va_rf (rfo E a)
def ctg (v : AV) : Nat := if v.1 = 1 then 2 else 1
def kd : FieldType → Nat
  | .int => 0
  | .boolean => 0
  | _ => 2
def cR : Nat → String
  | 0 => RX0 | 1 => RX1 | 2 => RX2 | 3 => RX3 | 4 => RX4 | 5 => RX5 | 6 => RX6 | 7 => RX7 | 8 => RX8 | _ => RX9
def cT : Nat → u_T
  | 0 => TX0 | 1 => TX1 | 2 => TX2 | 3 => TX3 | 4 => TX4 | 5 => TX5 | 6 => TX6 | 7 => TX7 | 8 => TX8 | _ => TX9
def cty : Nat → Nat → FieldType
  | 0 => tyX0 | 1 => tyX1 | 2 => tyX2 | 3 => tyX3 | 4 => tyX4 | 5 => tyX5 | 6 => tyX6 | 7 => tyX7 | 8 => tyX8 | _ => tyX9
def cN : Nat → Nat
  | 0 => 5 | 1 => 3 | 2 => 1 | 3 => 1 | 4 => 7 | 5 => 2 | 6 => 11 | 7 => 10 | 8 => 12 | _ => 28
def fk (c k : Nat) : Nat := kd (cty c k)
def ent (E : EV) (q : Nat × Nat) (f : Int → Int) : va_E :=
  match q.1 with
  | 10 => .inl (E.2.1, q.2, .inl fun j => Int32.ofInt (f j))
  | 11 => .inl (E.2.2.1, q.2, .inl fun j => Int32.ofInt (f j))
  | 12 => .inl (E.2.2.2.1, q.2, .inr (.inr (.inr (.inr fun j => rfo E (f j)))))
  | 13 => .inl (E.2.2.2.2.1, q.2, .inr (.inr (.inr (.inr fun j => rfo E (f j)))))
  | c => .inr (c, (List.range q.2).map fun j => av E (fk c j, f j))
def wsOf (E : EV) (G : GS) (h : HP) : va_W := (List.range G.length).map fun k => (eB E + k, ent E (G.getD k (99, 0)) (h k))
def ty (G : GS) (a : Int) : Nat := if a < 0 then 99 else (G.getD a.toNat (99, 0)).1
def ln (G : GS) (a : Int) : Int := if a < 0 then 0 else ((G.getD a.toNat (99, 0)).2 : Int)
def tysE (E : EV) : List (ClassId × FieldType) := [(E.2.1, .int), (E.2.2.1, .boolean), (E.2.2.2.1, .object "TimesBench$Piece"), (E.2.2.2.2.1, .array .int)]
def Wld (E : EV) (G : GS) (h : HP) (H : Heap) : Prop := H.size = eB E + G.length ∧ va_P E.1 vwCl (wsOf E G h) H ∧ (∀ q ∈ G, q.2 < 2 ^ 31 ∧ (q.1 < 10 → q.2 = cN q.1)) ∧ ∀ k n : Nat, G[k]? = some (11, n) → ∀ j : Int, h k j = 0 ∨ h k j = 1
def KN (E : EV) (s : State) : Prop := va_K E.1 vwCl (tysE E) s
def hset (h : HP) (a j v : Int) : HP := fun a' j' => if a' = a ∧ j' = j then v else h a' j'
def frA (E : EV) : Nat → Prop := fun q => eB E ≤ q
def rtv (M : MD) (x : Int) : Option Value := match M.2.2.2 with
  | none => none
  | some .long => some (.long (Int64.ofInt x))
  | _ => some (.int (Int32.ofInt x))
def Qd (E : EV) (M : MD) (Q : Int → GS → HP → Prop) : Array Value → State → Outcome → State → Prop := fun _ st oc t =>
  (∃ (r : Int) (G : GS) (h : HP), oc = .returned (rtv M r) ∧ Q r G h ∧ Wld E G h t.heap) ∧ va_F (frA E) st t
def rmd (d mc ms : Nat) : Room := { frames := d, cells := mc, slots := ms, locals := 64 * d }
def gw2 : Cond → Bool
  | .arrayOver (.object _) => true
  | .arrayOver (.array _) => true
  | w => goodWord w
def lw_g : List Cond := lw_tbl.filter gw2
theorem lg {w : Cond} (h : w ∈ lw_tbl) (hg : gw2 w = true) : w ∈ lw_g := List.mem_filter.mpr ⟨h, hg⟩
def wsM (M : MD) : List Cond := .code M.1 M.2.1 M.2.2.1 M.2.2.2 :: lw_g
def lh (E : EV) (ls : Array Slot) (n : Nat) (loc : LV) : Prop := ls.size = n ∧ lv_wf ls ∧ ∀ (i : Nat) (v : AV), loc[i]? = some (some v) → ls[i]? = some (.val (av E v))
def Act (M : MD) (E : EV) (p : Program) (s : State) (m : MethodId) (args : Array Value) (meth : Method) (c : Code) : Prop :=
  p.tables.exec = Jvm.exec ∧ c.code = M.2.1 ∧ meth.sig.returnType = M.2.2.2 ∧ c.maxLocals = M.2.2.1 ∧ s.vm.findClass M.1.cls = some m.cls ∧ (∀ w ∈ lw_g, w.before args s = true) ∧ KN E s ∧ meth.locks = false ∧ meth.name = M.1.name ∧ eB E ≤ s.heap.size
/-- from here on, method M over the world G h: comes to an end with Q -/
def S (l : Launch) (M : MD) (b : BU) (pc : Nat) (loc : LV) (st : List AV) (G : GS) (h : HP) (Q : Int → GS → HP → Prop) : Prop :=
  ∀ (E : EV) (p : Program) (e : Env) (s : State) (m : MethodId) (args : Array Value) (below : List Frame) (meth : Method) (c : Code), Act M E p s m args meth c →
  ∀ (H : Heap) (locs : List Loc) (ls : Array Slot), Wld E G h H → va_S (frA E) s.heap H locs → lh E ls M.2.2.1 loc →
  W p l e (rmd b.1 b.2.1 b.2.2.1) s m args below meth c H locs b.2.2.2.1 b.2.2.2.2 (MQ below (Qd E M Q) args s b.2.1 b.2.2.1 (frA E)) (F0 m pc ls (st.map (av E)))
/-- method M's contract: called with As over the world G h, at most d calls deep, mc cells of ms slots: returns with Q -/
def R (l : Launch) (M : MD) (d mc ms : Nat) (As : List AV) (G : GS) (h : HP) (Q : Int → GS → HP → Prop) : Prop :=
  ∀ E : EV, Met l M.1 (wsM M) (rmd d mc ms) (va_Pc (As.map (av E)) (fun U => Wld E G h U.heap ∧ KN E U)) (Qd E M Q) mc ms (frA E)
def lvs (loc : LV) : List (Nat × AV) := (List.range loc.length).filterMap fun i => (loc.getD i none).map fun v => (i, v)
def argl : List AV → LV
  | [] => []
  | (1, x) :: l => some (1, x) :: none :: argl l
  | v :: l => some v :: argl l
/-! ===== small rows ===== -/
theorem i32 {x : Int} (h : inR x) : (Int32.ofInt x).toInt = x := Int32.toInt_ofInt_of_le (by have := h.1; omega) (by have := h.2; omega)
theorem i32_eq {x y : Int} (hx : inR x) (hy : inR y) : Int32.ofInt x = Int32.ofInt y ↔ x = y := by
  rw [← Int32.toInt_inj, i32 hx, i32 hy]
theorem i32_lt {x y : Int} (hx : inR x) (hy : inR y) : Int32.ofInt x < Int32.ofInt y ↔ x < y := by
  rw [Int32.lt_iff_toInt_lt, i32 hx, i32 hy]
theorem i32_le {x y : Int} (hx : inR x) (hy : inR y) : Int32.ofInt x ≤ Int32.ofInt y ↔ x ≤ y := by
  rw [Int32.le_iff_toInt_le, i32 hx, i32 hy]
theorem i32_nat {x : Int} (h : 0 ≤ x) : Int32.ofInt x = nI x.toNat := by
  obtain ⟨n, rfl⟩ := Int.eq_ofNat_of_zero_le h
  rfl
theorem i32_cl {x : Int} (h : 0 ≤ x) (h2 : x ≤ 2147483647) : (Int32.ofInt x).toNatClampNeg = x.toNat := by
  rw [i32_nat h]; exact nI_clamp (by omega)
theorem ty_some {G : GS} {a : Int} {t : Nat} (h : ty G a = t) (ht : t < 99) : ∃ (k n : Nat), a = (k : Int) ∧ G[k]? = some (t, n) ∧ ln G a = (n : Int) ∧ k < G.length := by
  unfold ty at h
  by_cases ha : a < 0
  · rw [if_pos ha] at h; omega
  · rw [if_neg ha] at h
    obtain ⟨k, rfl⟩ := Int.eq_ofNat_of_zero_le (Int.not_lt.mp ha)
    have e : (Int.ofNat k).toNat = k := rfl
    rw [show ((k : Int)).toNat = k from rfl] at h
    cases hg : G[k]? with
    | none => rw [List.getD_eq_getElem?_getD, hg] at h; simp at h; omega
    | some q =>
      rw [List.getD_eq_getElem?_getD, hg] at h
      simp at h
      obtain ⟨q1, q2⟩ := q
      simp at h
      subst h
      refine ⟨k, q2, rfl, hg, ?_, (List.getElem?_eq_some_iff.mp hg).1⟩
      unfold ln
      rw [if_neg ha, show ((k : Int)).toNat = k from rfl, List.getD_eq_getElem?_getD, hg]
      rfl
theorem wsOf_get {E : EV} {G : GS} {h : HP} {k : Nat} {q : Nat × Nat} (hk : G[k]? = some q) : (wsOf E G h)[k]? = some (eB E + k, ent E q (h k)) := by
  have hl : k < G.length := (List.getElem?_eq_some_iff.mp hk).1
  unfold wsOf
  rw [List.getElem?_map, List.getElem?_range hl]
  simp [List.getD_eq_getElem?_getD, hk]
theorem wsOf_len {E : EV} {G : GS} {h : HP} : (wsOf E G h).length = G.length := by simp [wsOf]
theorem wsOf_D {E : EV} {G : GS} {h : HP} : va_D (frA E) (wsOf E G h) := by
  have key : ∀ (i : Nat) (p : Nat × va_E), (wsOf E G h)[i]? = some p → p.1 = eB E + i := by
    intro i p hp
    unfold wsOf at hp
    rw [List.getElem?_map] at hp
    cases hr : (List.range G.length)[i]? with
    | none => rw [hr] at hp; cases hp
    | some j =>
      rw [hr] at hp
      have : j = i := by
        have := List.getElem?_eq_some_iff.mp hr
        obtain ⟨h1, h2⟩ := this
        simp at h2; exact h2.symm
      subst this
      cases hp; rfl
  refine ⟨fun i j p q hi hj e => ?_, fun k q hk => ?_⟩
  · have := key i p hi; have := key j q hj; omega
  · have := key k q hk; unfold frA; omega
