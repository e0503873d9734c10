section LawLoop
variable {l : Launch} {b L : Nat} {xs : Nat → Int32} {cu su : Nat}
theorem law_loop (hL : L ≤ 2560) (hb : cu ≤ 600000 ∧ su ≤ 7302250) : ∀ (k : Nat) (i : Int) (h : HP) (B : BS), 0 ≤ i → i ≤ L → (L : Int) - i < 5 * k → CX h B → MX h B → B95 h → SL l b L xs cu su 18 [none, some (vR 0), some (vR 75), some (vI i)] [] G0 h := by
  intro k
  induction k with
  | zero => intro i h B i0 iL ik; omega
  | succ k ih =>
    intro i h B i0 iL ik cx mx b9
    refine l_iload_n dL_law_18 rfl rfl ?_
    refine l_len dL_law_19 dL_law_20 ?_
    refine l_iconst dL_law_21 ?_
    refine l_isub dL_law_22 ?_
    refine l_icmp_gt (tgt := 1027) dL_law_23 (by decide) ⟨by omega, by omega⟩ ⟨by omega, by omega⟩ (fun _ => l_iconst dL_law_1027 (l_ret dL_law_1028 hb)) (fun hle => ?_)
    have i5 : i + 5 ≤ L := by omega
    have nx : ∀ h' B', CX h' B' → MX h' B' → B95 h' → SL l b L xs cu su 1021 [none, some (vR 0), some (vR 75), some (vI i)] [] G0 h' := fun h' B' c1 m1 b1 => l_iinc3 dL_law_1021 rfl rfl (l_goto (tgt := 18) dL_law_1024 (by decide) (ih (i + 5) h' B' (by omega) (by omega) (by omega) c1 m1 b1))
    refine l_get0 dL_law_26 dL_law_27 dL_law_28 rfl i0 (by omega) hL ?_
    refine l_bipush dL_law_29 (by decide) ?_
    refine l_iand31 dL_law_31 ?_
    generalize hy : (xs i.toNat).toInt % 32 = y
    have y0 : 0 ≤ y := by omega
    have y1 : y < 32 := by omega
    by_cases hout : 28 < y
    · exact l_tblOut (tgt := 1021) dL_law_32 ⟨by omega, by omega⟩ (.inr hout) (by decide) (nx h B cx mx b9)
    · have hc : y = 0 ∨ y = 1 ∨ y = 2 ∨ y = 3 ∨ y = 4 ∨ y = 5 ∨ y = 6 ∨ y = 7 ∨ y = 8 ∨ y = 9 ∨ y = 10 ∨ y = 11 ∨ y = 12 ∨ y = 13 ∨ y = 14 ∨ y = 15 ∨ y = 16 ∨ y = 17 ∨ y = 18 ∨ y = 19 ∨ y = 20 ∨ y = 21 ∨ y = 22 ∨ y = 23 ∨ y = 24 ∨ y = 25 ∨ y = 26 ∨ y = 27 ∨ y = 28 := by omega
      rcases hc with rfl | rfl | rfl | rfl | rfl | rfl | rfl | rfl | rfl | rfl | rfl | rfl | rfl | rfl | rfl | rfl | rfl | rfl | rfl | rfl | rfl | rfl | rfl | rfl | rfl | rfl | rfl | rfl | rfl
      · exact l_tblIn (tgt := 164) (off := 132) dL_law_32 (by decide) (by decide) (by decide) rfl (by decide) (lc_0 hL hb i0 i5 cx mx b9 nx)
      · exact l_tblIn (tgt := 187) (off := 155) dL_law_32 (by decide) (by decide) (by decide) rfl (by decide) (lc_1 hL hb i0 i5 cx mx b9 nx)
      · exact l_tblIn (tgt := 230) (off := 198) dL_law_32 (by decide) (by decide) (by decide) rfl (by decide) (lc_2 hL hb i0 i5 cx mx b9 nx)
      · exact l_tblIn (tgt := 273) (off := 241) dL_law_32 (by decide) (by decide) (by decide) rfl (by decide) (lc_3 hL hb i0 i5 cx mx b9 nx)
      · exact l_tblIn (tgt := 316) (off := 284) dL_law_32 (by decide) (by decide) (by decide) rfl (by decide) (lc_4 hL hb i0 i5 cx mx b9 nx)
      · exact l_tblIn (tgt := 369) (off := 337) dL_law_32 (by decide) (by decide) (by decide) rfl (by decide) (lc_5 hL hb i0 i5 cx mx b9 nx)
      · exact l_tblIn (tgt := 412) (off := 380) dL_law_32 (by decide) (by decide) (by decide) rfl (by decide) (lc_6 hL hb i0 i5 cx mx b9 nx)
      · exact l_tblIn (tgt := 435) (off := 403) dL_law_32 (by decide) (by decide) (by decide) rfl (by decide) (lc_7 hL hb i0 i5 cx mx b9 nx)
      · exact l_tblIn (tgt := 478) (off := 446) dL_law_32 (by decide) (by decide) (by decide) rfl (by decide) (lc_8 hL hb i0 i5 cx mx b9 nx)
      · exact l_tblIn (tgt := 511) (off := 479) dL_law_32 (by decide) (by decide) (by decide) rfl (by decide) (lc_9 hL hb i0 i5 cx mx b9 nx)
      · exact l_tblIn (tgt := 554) (off := 522) dL_law_32 (by decide) (by decide) (by decide) rfl (by decide) (lc_10 hL hb i0 i5 cx mx b9 nx)
      · exact l_tblIn (tgt := 577) (off := 545) dL_law_32 (by decide) (by decide) (by decide) rfl (by decide) (lc_11 hL hb i0 i5 cx mx b9 nx)
      · exact l_tblIn (tgt := 590) (off := 558) dL_law_32 (by decide) (by decide) (by decide) rfl (by decide) (lc_12 hL hb i0 i5 cx mx b9 nx)
      · exact l_tblIn (tgt := 603) (off := 571) dL_law_32 (by decide) (by decide) (by decide) rfl (by decide) (lc_13 hL hb i0 i5 cx mx b9 nx)
      · exact l_tblIn (tgt := 626) (off := 594) dL_law_32 (by decide) (by decide) (by decide) rfl (by decide) (lc_14 hL hb i0 i5 cx mx b9 nx)
      · exact l_tblIn (tgt := 639) (off := 607) dL_law_32 (by decide) (by decide) (by decide) rfl (by decide) (lc_15 hL hb i0 i5 cx mx b9 nx)
      · exact l_tblIn (tgt := 682) (off := 650) dL_law_32 (by decide) (by decide) (by decide) rfl (by decide) (lc_16 hL hb i0 i5 cx mx b9 nx)
      · exact l_tblIn (tgt := 715) (off := 683) dL_law_32 (by decide) (by decide) (by decide) rfl (by decide) (lc_17 hL hb i0 i5 cx mx b9 nx)
      · exact l_tblIn (tgt := 728) (off := 696) dL_law_32 (by decide) (by decide) (by decide) rfl (by decide) (lc_18 hL hb i0 i5 cx mx b9 nx)
      · exact l_tblIn (tgt := 781) (off := 749) dL_law_32 (by decide) (by decide) (by decide) rfl (by decide) (lc_19 hL hb i0 i5 cx mx b9 nx)
      · exact l_tblIn (tgt := 804) (off := 772) dL_law_32 (by decide) (by decide) (by decide) rfl (by decide) (lc_20 hL hb i0 i5 cx mx b9 nx)
      · exact l_tblIn (tgt := 817) (off := 785) dL_law_32 (by decide) (by decide) (by decide) rfl (by decide) (lc_21 hL hb i0 i5 cx mx b9 nx)
      · exact l_tblIn (tgt := 830) (off := 798) dL_law_32 (by decide) (by decide) (by decide) rfl (by decide) (lc_22 hL hb i0 i5 cx mx b9 nx)
      · exact l_tblIn (tgt := 873) (off := 841) dL_law_32 (by decide) (by decide) (by decide) rfl (by decide) (lc_23 hL hb i0 i5 cx mx b9 nx)
      · exact l_tblIn (tgt := 896) (off := 864) dL_law_32 (by decide) (by decide) (by decide) rfl (by decide) (lc_24 hL hb i0 i5 cx mx b9 nx)
      · exact l_tblIn (tgt := 929) (off := 897) dL_law_32 (by decide) (by decide) (by decide) rfl (by decide) (lc_25 hL hb i0 i5 cx mx b9 nx)
      · exact l_tblIn (tgt := 952) (off := 920) dL_law_32 (by decide) (by decide) (by decide) rfl (by decide) (lc_26 hL hb i0 i5 cx mx b9 nx)
      · exact l_tblIn (tgt := 975) (off := 943) dL_law_32 (by decide) (by decide) (by decide) rfl (by decide) (lc_27 hL hb i0 i5 cx mx b9 nx)
      · exact l_tblIn (tgt := 998) (off := 966) dL_law_32 (by decide) (by decide) (by decide) rfl (by decide) (lc_28 hL hb i0 i5 cx mx b9 nx)
end LawLoop
