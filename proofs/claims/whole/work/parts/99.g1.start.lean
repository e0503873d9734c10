section LawStart
variable {l : Launch} {b L : Nat} {xs : Nat → Int32}
theorem ki_all : ∀ c, c < 10 → Cond.instantiable (cR c) (cN c) ∈ lw_tbl := fun c h => by
  match c, h with
  | 0, _ => exact ki_0
  | 1, _ => exact ki_1
  | 2, _ => exact ki_2
  | 3, _ => exact ki_3
  | 4, _ => exact ki_4
  | 5, _ => exact ki_5
  | 6, _ => exact ki_6
  | 7, _ => exact ki_7
  | 8, _ => exact ki_8
  | 9, _ => exact ki_9
  | c + 10, h => exact absurd h (by omega)
theorem KN_start {s : State} {args : Array Value} (hts : ∀ w ∈ lw_tbl, w.before args s = true) : ∃ E : EV, KN E s ∧ eB E = s.heap.size := by
  have htg : ∀ w ∈ lw_g, w.before args s = true := fun w hw => hts w (List.mem_filter.1 hw).1
  have hk : ∀ c, c < 10 → ∃ (cC : ClassId) (iS : Nat → Nat), u_Kn s (cR c) (cT c) (cN c) cC iS := fun c hc => u_known htg (cls_ok hc).2.1 (hts _ (ki_all c hc))
  obtain ⟨dC, dI, hK⟩ : ∃ (dC : Nat → ClassId) (dI : Nat → Nat → Nat), ∀ c, c < 10 → u_Kn s (cR c) (cT c) (cN c) (dC c) (dI c) := by
    obtain ⟨c0, i0, _⟩ := hk 0 (by decide)
    have h' : ∀ c, ∃ q : ClassId × (Nat → Nat), c < 10 → u_Kn s (cR c) (cT c) (cN c) q.1 q.2 := fun c => by
      by_cases hc : c < 10
      · obtain ⟨cC, iS, h⟩ := hk c hc
        exact ⟨(cC, iS), fun _ => h⟩
      · exact ⟨(c0, i0), fun z => absurd z hc⟩
    exact ⟨fun c => (Classical.choose (h' c)).1, fun c => (Classical.choose (h' c)).2, fun c hc => Classical.choose_spec (h' c) hc⟩
  obtain ⟨cI, kI, pI, fI, gI, tI⟩ := Cond.arrayClass_spec (hts _ ka_int)
  obtain ⟨cZ, kZ, pZ, fZ, gZ, tZ⟩ := Cond.arrayClass_spec (hts _ ka_bool)
  obtain ⟨pP, cP, kP, hP1, hP2, hP3, hP4, hP5⟩ := Cond.arrayOver_spec (hts _ ko_piece)
  obtain ⟨pA, cA, kA, hA1, hA2, hA3, hA4, hA5⟩ := arrayOverA_spec (hts _ ko_int)
  refine ⟨((dC, dI), cI, cZ, cP, cA, s.heap.size), ⟨fun c q hq => ?_, fun k q hq => ?_⟩, rfl⟩
  · by_cases hc : c < 10
    · rw [(cls_ok hc).1] at hq
      cases hq
      exact hK c hc
    · rw [List.getElem?_eq_none (by show 10 ≤ c; omega)] at hq
      cases hq
  · match k, hq with
    | 0, hq => cases hq; exact ⟨fun N z => ⟨(fun k h => by cases h), kI, gI, pI, tI⟩, fI⟩
    | 1, hq => cases hq; exact ⟨fun N z => ⟨(fun k h => by cases h), kZ, gZ, pZ, tZ⟩, fZ⟩
    | 2, hq => cases hq; exact ⟨fun N z => ⟨(fun k h => by cases h), kP, hP3, pP, hP4⟩, kP, pP, hP3, hP4, hP1, hP5⟩
    | 3, hq => cases hq; exact ⟨fun N z => ⟨(fun k h => by cases h), kA, hA3, pA, hA4⟩, hA5⟩
    | k + 4, hq => simp [tysE] at hq
theorem law_start (hL : L ≤ 2560) : SL l b L xs 0 0 0 [none, none, none, none] [] [] (fun _ _ => 0) := by
  refine l_new (c := 8) dL_law_0 kl_L_7 ki_8 kn_8 (by decide) ⟨by decide, by decide⟩ ?_
  show SL l b L xs 1 12 3 [none, none, none, none] [vR 0] ([] ++ [(8, cN 8)]) (hcl (fun _ _ => 0) 0 (dfo 8))
  rw [show ([] ++ [(8, cN 8)] : GS) = GP 1 by decide +kernel]
  refine l_dup dL_law_3 rfl ?_
  refine l_callI (d := 20) (M' := MX8_init) (As := []) (a := 0) (st := [vR 0]) (mc' := 74) (ms' := 4530) dL_law_4 ml_L_9 cn_X8_init rfl rfl (Nat.le_of_ble_eq_true rfl) (by decide) ⟨by decide, by decide⟩ (by decide) ?_
  refine rX8_init (fun h1 cx => ?_)
  refine l_astore_n (i := 1) (x := 0) (by decide) dL_law_7 rfl (by decide) rfl rfl ?_
  refine l_new (c := 9) dL_law_8 kl_L_10 ki_9 kn_9 (by decide) ⟨by decide, by decide⟩ ?_
  rw [show (GP 75 ++ [(9, cN 9)] : GS) = GP 76 by decide +kernel, show ((GP 75).length : Int) = 75 by decide +kernel]
  refine l_dup dL_law_11 rfl ?_
  refine l_callI (d := 20) (M' := MX9_init) (As := []) (a := 75) (st := [vR 75]) (mc' := 22) (ms' := 18093) dL_law_12 ml_L_12 cn_X9_init rfl rfl (Nat.le_of_ble_eq_true rfl) (by decide) ⟨by decide, by decide⟩ (by decide) ?_
  refine rX9_init (cx.md (fun b hb => hcl_o (by omega))) (fun h2 cx2 mx2 b92 => ?_)
  refine l_astore_n (i := 2) (x := 75) (by decide) dL_law_15 rfl (by decide) rfl rfl ?_
  refine l_iconst dL_law_16 ?_
  refine l_istore3 dL_law_17 rfl ?_
  exact law_loop hL ⟨by decide, by decide⟩ 600 0 h2 B0 (by decide) (by omega) (by omega) cx2 mx2 b92
end LawStart
set_option maxHeartbeats 4000000 in
set_option maxRecDepth 100000 in
/-- from the entry, for every script of at most 2560 ints, the law comes to its end with true -/
theorem whole_start {p : Program} {e : Env} {s : State} {m : MethodId} {below : List Frame} {meth : Method} {c : Code} (l : Launch) {b L : Nat} {xs : Nat → Int32} (hL : L ≤ 2560) (C0 : lw_At p s m meth c b L xs) : W p l e room_1 s m #[Value.ref b] below meth c s.heap [] 0 0 (lw_Z below #[Value.ref b] s) (entryFrame m ([Value.ref b] : List Value).toArray 4) := by
  obtain ⟨E, K, B⟩ := KN_start C0.2.2.2.2.2.1
  have hl := lv_entry ([.ref b]) (n := 4) (Nat.le_of_ble_eq_true rfl)
  rw [lg_entry_eq]
  refine law_start hL E p e s m below meth c C0 K B s.heap [] _ ⟨by rw [B]; rfl, fun k q h => by simp [wsOf] at h, fun q hq => absurd hq List.not_mem_nil, fun k n h => by simp at h⟩ va_S.rf ⟨hl.1, hl.2.1, fun i v hv => ?_⟩ (hl.2.2 (0, .ref b) List.mem_cons_self)
  match i, hv with
  | 0, hv => cases hv
  | 1, hv => cases hv
  | 2, hv => cases hv
  | 3, hv => cases hv
  | i + 4, hv => simp at hv
